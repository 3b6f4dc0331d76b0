def w_X8_readsParts_j70 (Q : Int32 → gk_St → Prop) (K : Int32 → Int32 → gk_St → Prop) (C : Int32 → Int32 → Int32 → gk_St → Prop) (this : Nat) (x1 : Int32) (x2 : Int32) (x3 : Int32) (s0 : Int32) (μ : gk_St) : Prop := (if 3 ≤ s0 then (∀ v5 : Int32, v5 = x2 + 1 → (∀ v6 : Int32, v6 = x3 + 3 → (vp_in x1 (gk_ln (gk_rf this 0)) ∧ (if v6 = (μ (gk_rf this 0) x1.toNatClampNeg) then K x1 v5 μ else w_X8_byteAt this x1 v6 μ (fun r8 m7 => (if r8 = 59 then (∀ v9 : Int32, v9 = v6 + 1 → C x1 v5 v9 m7) else Q v6 m7)))))) else Q (x3 + s0) μ)
set_option maxRecDepth 100000 in
set_option maxHeartbeats 4000000 in
theorem k_X8_readsParts_j70 {Q : Int32 → gk_St → Prop} {K : Int32 → Int32 → gk_St → Prop} {C : Int32 → Int32 → Int32 → gk_St → Prop} {this : Nat} {x1 : Int32} {x2 : Int32} {x3 : Int32} {s0 : Int32} {μ : gk_St} (h_this : gk_isO this 8) (hK : ∀ (e1 : Int32) (e2 : Int32) (em : gk_St), K e1 e2 em → Go RX8 cX8_readsParts 5 (some .int) 3 99 [(0, .ref this), (1, .int e1), (2, .int e2)] [] em (gk_Qi Q)) (hC : ∀ (c1 : Int32) (c2 : Int32) (c3 : Int32) (cm : gk_St), C c1 c2 c3 cm → Go RX8 cX8_readsParts 5 (some .int) 3 37 [(0, .ref this), (1, .int c1), (2, .int c2), (3, .int c3)] [] cm (gk_Qi Q)) (h : w_X8_readsParts_j70 Q K C this x1 x2 x3 s0 μ) : Go RX8 cX8_readsParts 5 (some .int) 3 70 [(0, .ref this), (1, .int x1), (2, .int x2), (3, .int x3)] [.int s0] μ (gk_Qi Q) := by
  unfold w_X8_readsParts_j70 at h
  refine go_istore [(4, .int s0), (0, .ref this), (1, .int x1), (2, .int x2), (3, .int x3)] dX8_readsParts_70 (by decide) rfl ?_
  refine go_iload 0 dX8_readsParts_72 rfl ?_
  refine go_iconst (v := 3) dX8_readsParts_74 (by decide) ?_
  refine go_icmp_ge 83 dX8_readsParts_75 (by decide) (fun c => ?_) (fun c => ?_)
  · replace h := gk_ip h c
    refine gb_iinc (w := 1) 3 (fun v5 => [(2, .int v5), (4, .int s0), (0, .ref this), (1, .int x1), (3, .int x3)]) dX8_readsParts_83 rfl (by decide) (by decide) (fun _ => rfl) (fun v5 e => ?_)
    replace h := h v5 e
    refine gb_iinc (w := 3) 4 (fun v6 => [(3, .int v6), (2, .int v5), (4, .int s0), (0, .ref this), (1, .int x1)]) dX8_readsParts_86 rfl (by decide) (by decide) (fun _ => rfl) (fun v6 e => ?_)
    replace h := h v6 e
    refine go_iload_n 0 dX8_readsParts_89 rfl rfl ?_
    refine go_aload_n 3 dX8_readsParts_90 rfl rfl ?_
    refine go_getR dX8_readsParts_91 fl_RX8_7 h_this (rr_8_0 h_this) ?_
    refine go_iload_n 4 dX8_readsParts_94 rfl rfl ?_
    refine go_iaload dX8_readsParts_95 (rt_8_0 h_this) h.1 ?_
    replace h := h.2
    refine go_icmp_ne 134 dX8_readsParts_96 (by decide) (fun c => ?_) (fun c => ?_)
    · replace h := gk_in h c
      refine go_aload_n 3 dX8_readsParts_134 rfl rfl ?_
      refine go_iload_n 4 dX8_readsParts_135 rfl rfl ?_
      refine go_iload_n 0 dX8_readsParts_136 rfl rfl ?_
      refine go_callV (ci := 8) (d' := 0) [.int x1, .int v6] dX8_readsParts_137 cw_RX8_124 ki_X8_byteAt ks_X8_byteAt rfl (by decide) h_this rfl (Nat.le_of_ble_eq_true rfl) (by decide) (k_X8_byteAt h_this h) (gk_ki (fun r8 m7 h => ?_))
      refine go_bipush (v := 59) dX8_readsParts_140 (by decide) ?_
      refine go_icmp_eq 147 dX8_readsParts_142 (by decide) (fun c => ?_) (fun c => ?_)
      · replace h := gk_ip h c
        refine gb_iinc (w := 1) 0 (fun v9 => [(3, .int v9), (2, .int v5), (4, .int s0), (0, .ref this), (1, .int x1)]) dX8_readsParts_147 rfl (by decide) (by decide) (fun _ => rfl) (fun v9 e => ?_)
        replace h := h v9 e
        refine go_goto 37 dX8_readsParts_150 (by decide) ?_
        refine go_lv [3, 4, 1, 0] rfl ?_
        exact hC _ _ _ _ h
      · replace h := gk_in h c
        refine go_iload_n 0 dX8_readsParts_145 rfl rfl ?_
        exact go_iret dX8_readsParts_146 ⟨_, rfl, h⟩
    · replace h := gk_ip h c
      refine go_lv [3, 4, 1] rfl ?_
      exact hK _ _ _ h
  · replace h := gk_in h c
    refine go_iload_n 4 dX8_readsParts_78 rfl rfl ?_
    refine go_iload 0 dX8_readsParts_79 rfl ?_
    refine go_iadd dX8_readsParts_81 ?_
    exact go_iret dX8_readsParts_82 ⟨_, rfl, h⟩
def w_X8_readsParts_j51 (Q : Int32 → gk_St → Prop) (K : Int32 → Int32 → gk_St → Prop) (C : Int32 → Int32 → Int32 → gk_St → Prop) (this : Nat) (x1 : Int32) (x2 : Int32) (x3 : Int32) (μ : gk_St) : Prop := (if x1 = 0 then w_X8_readsCar this x2 x3 μ (fun r11 m10 => w_X8_readsParts_j70 Q K C this x1 x2 x3 r11 m10) else w_X8_readsComing this x2 x3 μ (fun r4 m3 => w_X8_readsParts_j70 Q K C this x1 x2 x3 r4 m3))
set_option maxRecDepth 100000 in
set_option maxHeartbeats 4000000 in
theorem k_X8_readsParts_j51 {Q : Int32 → gk_St → Prop} {K : Int32 → Int32 → gk_St → Prop} {C : Int32 → Int32 → Int32 → gk_St → Prop} {this : Nat} {x1 : Int32} {x2 : Int32} {x3 : Int32} {μ : gk_St} (h_this : gk_isO this 8) (hK : ∀ (e1 : Int32) (e2 : Int32) (em : gk_St), K e1 e2 em → Go RX8 cX8_readsParts 5 (some .int) 3 99 [(0, .ref this), (1, .int e1), (2, .int e2)] [] em (gk_Qi Q)) (hC : ∀ (c1 : Int32) (c2 : Int32) (c3 : Int32) (cm : gk_St), C c1 c2 c3 cm → Go RX8 cX8_readsParts 5 (some .int) 3 37 [(0, .ref this), (1, .int c1), (2, .int c2), (3, .int c3)] [] cm (gk_Qi Q)) (h : w_X8_readsParts_j51 Q K C this x1 x2 x3 μ) : Go RX8 cX8_readsParts 5 (some .int) 3 51 [(0, .ref this), (1, .int x1), (2, .int x2), (3, .int x3)] [] μ (gk_Qi Q) := by
  unfold w_X8_readsParts_j51 at h
  refine go_iload_n 1 dX8_readsParts_51 rfl rfl ?_
  refine go_if_ne 64 dX8_readsParts_52 (by decide) (fun c => ?_) (fun c => ?_)
  · replace h := gk_in h c
    refine go_aload_n 0 dX8_readsParts_64 rfl rfl ?_
    refine go_iload_n 2 dX8_readsParts_65 rfl rfl ?_
    refine go_iload_n 3 dX8_readsParts_66 rfl rfl ?_
    refine go_callV (ci := 8) (d' := 2) [.int x2, .int x3] dX8_readsParts_67 cw_RX8_145 ki_X8_readsComing ks_X8_readsComing rfl (by decide) h_this rfl (Nat.le_of_ble_eq_true rfl) (by decide) (k_X8_readsComing h_this h) (gk_ki (fun r4 m3 h => ?_))
    exact k_X8_readsParts_j70 h_this hK hC h
  · replace h := gk_ip h c
    refine go_aload_n 0 dX8_readsParts_55 rfl rfl ?_
    refine go_iload_n 2 dX8_readsParts_56 rfl rfl ?_
    refine go_iload_n 3 dX8_readsParts_57 rfl rfl ?_
    refine go_callV (ci := 8) (d' := 1) [.int x2, .int x3] dX8_readsParts_58 cw_RX8_142 ki_X8_readsCar ks_X8_readsCar rfl (by decide) h_this rfl (Nat.le_of_ble_eq_true rfl) (by decide) (k_X8_readsCar h_this h) (gk_ki (fun r11 m10 h => ?_))
    refine go_goto 70 dX8_readsParts_61 (by decide) ?_
    exact k_X8_readsParts_j70 h_this hK hC h
def w_X8_readsParts_l37 (Q : Int32 → gk_St → Prop) (K : Int32 → Int32 → gk_St → Prop) (this : Nat) : Nat → Int32 → Int32 → Int32 → gk_St → Prop
  | 0, _, _, _, _ => False
  | n + 1, x1, x2, x3, μ => (vp_in x1 (gk_ln (gk_rf this 0)) ∧ (if x3 < (μ (gk_rf this 0) x1.toNatClampNeg) then w_X8_readsParts_j51 Q K (fun c_x1 c_x2 c_x3 cm => w_X8_readsParts_l37 Q K this n c_x1 c_x2 c_x3 cm) this x1 x2 x3 μ else (if x3 ≤ 0 then Q (-1) μ else w_X8_readsParts_j51 Q K (fun c_x1 c_x2 c_x3 cm => w_X8_readsParts_l37 Q K this n c_x1 c_x2 c_x3 cm) this x1 x2 x3 μ)))
set_option maxRecDepth 100000 in
set_option maxHeartbeats 4000000 in
theorem k_X8_readsParts_l37 {Q : Int32 → gk_St → Prop} {K : Int32 → Int32 → gk_St → Prop} {this : Nat} (h_this : gk_isO this 8) (hK : ∀ (e1 : Int32) (e2 : Int32) (em : gk_St), K e1 e2 em → Go RX8 cX8_readsParts 5 (some .int) 3 99 [(0, .ref this), (1, .int e1), (2, .int e2)] [] em (gk_Qi Q)) : ∀ (n : Nat) (x1 : Int32) (x2 : Int32) (x3 : Int32) (μ : gk_St), w_X8_readsParts_l37 Q K this n x1 x2 x3 μ → Go RX8 cX8_readsParts 5 (some .int) 3 37 [(0, .ref this), (1, .int x1), (2, .int x2), (3, .int x3)] [] μ (gk_Qi Q) := by
  intro n
  induction n with
  | zero =>
    intro x1 x2 x3 μ h
    exact False.elim h
  | succ n ih =>
    intro x1 x2 x3 μ h
    unfold w_X8_readsParts_l37 at h
    refine go_iload_n 3 dX8_readsParts_37 rfl rfl ?_
    refine go_aload_n 0 dX8_readsParts_38 rfl rfl ?_
    refine go_getR dX8_readsParts_39 fl_RX8_7 h_this (rr_8_0 h_this) ?_
    refine go_iload_n 1 dX8_readsParts_42 rfl rfl ?_
    refine go_iaload dX8_readsParts_43 (rt_8_0 h_this) h.1 ?_
    replace h := h.2
    refine go_icmp_lt 51 dX8_readsParts_44 (by decide) (fun c => ?_) (fun c => ?_)
    · replace h := gk_ip h c
      exact k_X8_readsParts_j51 h_this hK (fun _ _ _ _ h => ih _ _ _ _ h) h
    · replace h := gk_in h c
      refine go_iload_n 3 dX8_readsParts_47 rfl rfl ?_
      refine go_if_le 153 dX8_readsParts_48 (by decide) (fun c => ?_) (fun c => ?_)
      · replace h := gk_ip h c
        refine go_iconst (v := (-1)) dX8_readsParts_153 (by decide) ?_
        exact go_iret dX8_readsParts_154 ⟨_, rfl, h⟩
      · replace h := gk_in h c
        exact k_X8_readsParts_j51 h_this hK (fun _ _ _ _ h => ih _ _ _ _ h) h
def w_X8_readsParts_j112 (Q : Int32 → gk_St → Prop) (this : Nat) (s1 : Nat) (x1 : Int32) (x2 : Int32) (s0 : Int32) (μ : gk_St) : Prop := (∀ m15 : gk_St, m15 = gk_up μ s1 2 s0 → (if x1 = 1 then (∀ m17 : gk_St, m17 = gk_up m15 this 6 x2 → Q (-1) m17) else (∀ m16 : gk_St, m16 = gk_up m15 this 6 (m15 this 6) → Q (-1) m16)))
set_option maxRecDepth 100000 in
set_option maxHeartbeats 4000000 in
theorem k_X8_readsParts_j112 {Q : Int32 → gk_St → Prop} {this s1 : Nat} {x1 : Int32} {x2 : Int32} {s0 : Int32} {μ : gk_St} (h_this : gk_isO this 8) (h_s1 : gk_isO s1 8) (h : w_X8_readsParts_j112 Q this s1 x1 x2 s0 μ) : Go RX8 cX8_readsParts 5 (some .int) 3 112 [(0, .ref this), (1, .int x1), (2, .int x2)] [.int s0, .ref s1] μ (gk_Qi Q) := by
  unfold w_X8_readsParts_j112 at h
  refine gb_putI dX8_readsParts_112 fp_RX8_135 h_s1 (nf_8_2 h_s1) (fun m15 e => ?_)
  replace h := h m15 e
  refine go_aload_n 0 dX8_readsParts_115 rfl rfl ?_
  refine go_iload_n 1 dX8_readsParts_116 rfl rfl ?_
  refine go_iconst (v := 1) dX8_readsParts_117 (by decide) ?_
  refine go_icmp_ne 125 dX8_readsParts_118 (by decide) (fun c => ?_) (fun c => ?_)
  · replace h := gk_in h c
    refine go_aload_n 0 dX8_readsParts_125 rfl rfl ?_
    refine go_getI dX8_readsParts_126 fl_RX8_139 h_this (nf_8_6 h_this) ?_
    refine gb_putI dX8_readsParts_129 fp_RX8_139 h_this (nf_8_6 h_this) (fun m16 e => ?_)
    replace h := h m16 e
    refine go_iconst (v := (-1)) dX8_readsParts_132 (by decide) ?_
    exact go_iret dX8_readsParts_133 ⟨_, rfl, h⟩
  · replace h := gk_ip h c
    refine go_iload_n 2 dX8_readsParts_121 rfl rfl ?_
    refine go_goto 129 dX8_readsParts_122 (by decide) ?_
    refine gb_putI dX8_readsParts_129 fp_RX8_139 h_this (nf_8_6 h_this) (fun m17 e => ?_)
    replace h := h m17 e
    refine go_iconst (v := (-1)) dX8_readsParts_132 (by decide) ?_
    exact go_iret dX8_readsParts_133 ⟨_, rfl, h⟩
def w_X8_readsParts_j17 (Q : Int32 → gk_St → Prop) (this : Nat) (s1 : Nat) (x1 : Int32) (x2 : Int32) (x3 : Int32) (s0 : Int32) (μ : gk_St) : Prop := (∀ m1 : gk_St, m1 = gk_up μ s1 2 s0 → (if x1 = 1 then (∀ m18 : gk_St, m18 = gk_up m1 this 6 0 → (∃ n37 : Nat, w_X8_readsParts_l37 Q (fun y19 y20 m21 => (if y19 = 0 then w_X8_readsParts_j112 Q this this y19 y20 y20 m21 else w_X8_readsParts_j112 Q this this y19 y20 (m21 this 2) m21)) this n37 x1 x2 x3 m18)) else (∀ m2 : gk_St, m2 = gk_up m1 this 6 (m1 this 6) → (∃ n37 : Nat, w_X8_readsParts_l37 Q (fun y12 y13 m14 => (if y12 = 0 then w_X8_readsParts_j112 Q this this y12 y13 y13 m14 else w_X8_readsParts_j112 Q this this y12 y13 (m14 this 2) m14)) this n37 x1 x2 x3 m2))))
set_option maxRecDepth 100000 in
set_option maxHeartbeats 4000000 in
theorem k_X8_readsParts_j17 {Q : Int32 → gk_St → Prop} {this s1 : Nat} {x1 : Int32} {x2 : Int32} {x3 : Int32} {s0 : Int32} {μ : gk_St} (h_this : gk_isO this 8) (h_s1 : gk_isO s1 8) (h : w_X8_readsParts_j17 Q this s1 x1 x2 x3 s0 μ) : Go RX8 cX8_readsParts 5 (some .int) 3 17 [(0, .ref this), (1, .int x1), (2, .int x2), (3, .int x3)] [.int s0, .ref s1] μ (gk_Qi Q) := by
  unfold w_X8_readsParts_j17 at h
  refine gb_putI dX8_readsParts_17 fp_RX8_135 h_s1 (nf_8_2 h_s1) (fun m1 e => ?_)
  replace h := h m1 e
  refine go_aload_n 0 dX8_readsParts_20 rfl rfl ?_
  refine go_iload_n 1 dX8_readsParts_21 rfl rfl ?_
  refine go_iconst (v := 1) dX8_readsParts_22 (by decide) ?_
  refine go_icmp_ne 30 dX8_readsParts_23 (by decide) (fun c => ?_) (fun c => ?_)
  · replace h := gk_in h c
    refine go_aload_n 0 dX8_readsParts_30 rfl rfl ?_
    refine go_getI dX8_readsParts_31 fl_RX8_139 h_this (nf_8_6 h_this) ?_
    refine gb_putI dX8_readsParts_34 fp_RX8_139 h_this (nf_8_6 h_this) (fun m2 e => ?_)
    replace h := h m2 e
    obtain ⟨n37, h⟩ := h
    refine k_X8_readsParts_l37 h_this (fun y12 y13 m14 h => ?_) n37 _ _ _ _ h
    refine go_aload_n 0 dX8_readsParts_99 rfl rfl ?_
    refine go_iload_n 1 dX8_readsParts_100 rfl rfl ?_
    refine go_if_ne 108 dX8_readsParts_101 (by decide) (fun c => ?_) (fun c => ?_)
    · replace h := gk_in h c
      refine go_aload_n 0 dX8_readsParts_108 rfl rfl ?_
      refine go_getI dX8_readsParts_109 fl_RX8_135 h_this (nf_8_2 h_this) ?_
      exact k_X8_readsParts_j112 h_this h_this h
    · replace h := gk_ip h c
      refine go_iload_n 2 dX8_readsParts_104 rfl rfl ?_
      refine go_goto 112 dX8_readsParts_105 (by decide) ?_
      exact k_X8_readsParts_j112 h_this h_this h
  · replace h := gk_ip h c
    refine go_iconst (v := 0) dX8_readsParts_26 (by decide) ?_
    refine go_goto 34 dX8_readsParts_27 (by decide) ?_
    refine gb_putI dX8_readsParts_34 fp_RX8_139 h_this (nf_8_6 h_this) (fun m18 e => ?_)
    replace h := h m18 e
    obtain ⟨n37, h⟩ := h
    refine k_X8_readsParts_l37 h_this (fun y19 y20 m21 h => ?_) n37 _ _ _ _ h
    refine go_aload_n 0 dX8_readsParts_99 rfl rfl ?_
    refine go_iload_n 1 dX8_readsParts_100 rfl rfl ?_
    refine go_if_ne 108 dX8_readsParts_101 (by decide) (fun c => ?_) (fun c => ?_)
    · replace h := gk_in h c
      refine go_aload_n 0 dX8_readsParts_108 rfl rfl ?_
      refine go_getI dX8_readsParts_109 fl_RX8_135 h_this (nf_8_2 h_this) ?_
      exact k_X8_readsParts_j112 h_this h_this h
    · replace h := gk_ip h c
      refine go_iload_n 2 dX8_readsParts_104 rfl rfl ?_
      refine go_goto 112 dX8_readsParts_105 (by decide) ?_
      exact k_X8_readsParts_j112 h_this h_this h
def w_X8_readsParts (this : Nat) (x1 : Int32) (μ : gk_St) (Q : Int32 → gk_St → Prop) : Prop := (if x1 = 0 then w_X8_readsParts_j17 Q this this x1 0 0 0 μ else w_X8_readsParts_j17 Q this this x1 0 0 (μ this 2) μ)
set_option maxRecDepth 100000 in
set_option maxHeartbeats 4000000 in
theorem k_X8_readsParts {this : Nat} {x1 : Int32} {μ : gk_St} {Q : Int32 → gk_St → Prop} (h_this : gk_isO this 8) (h : w_X8_readsParts this x1 μ Q) : gk_CT yX8_readsParts cX8_readsParts 5 (some .int) 3 [.ref this, .int x1] μ (gk_Qi Q) := by
  unfold w_X8_readsParts at h
  refine gk_enter (by decide) (Nat.le_of_ble_eq_true rfl) ?_
  show Go RX8 cX8_readsParts 5 (some .int) 3 0 [(0, .ref this), (1, .int x1)] [] μ (gk_Qi Q)
  refine go_iconst (v := 0) dX8_readsParts_0 (by decide) ?_
  refine go_istore_n [(2, .int 0), (0, .ref this), (1, .int x1)] dX8_readsParts_1 rfl (by decide) rfl ?_
  refine go_iconst (v := 0) dX8_readsParts_2 (by decide) ?_
  refine go_istore_n [(3, .int 0), (2, .int 0), (0, .ref this), (1, .int x1)] dX8_readsParts_3 rfl (by decide) rfl ?_
  refine go_aload_n 2 dX8_readsParts_4 rfl rfl ?_
  refine go_iload_n 3 dX8_readsParts_5 rfl rfl ?_
  refine go_if_ne 13 dX8_readsParts_6 (by decide) (fun c => ?_) (fun c => ?_)
  · replace h := gk_in h c
    refine go_aload_n 2 dX8_readsParts_13 rfl rfl ?_
    refine go_getI dX8_readsParts_14 fl_RX8_135 h_this (nf_8_2 h_this) ?_
    refine go_lv [2, 3, 1, 0] rfl ?_
    exact k_X8_readsParts_j17 h_this h_this h
  · replace h := gk_ip h c
    refine go_iconst (v := 0) dX8_readsParts_9 (by decide) ?_
    refine go_goto 17 dX8_readsParts_10 (by decide) ?_
    refine go_lv [2, 3, 1, 0] rfl ?_
    exact k_X8_readsParts_j17 h_this h_this h
def w_X8_readsSpeed_l7 (Q : Int32 → gk_St → Prop) (K : gk_St → Prop) (this : Nat) : Nat → Int32 → gk_St → Prop
  | 0, _, _ => False
  | n + 1, x1, μ => (if 24 ≤ x1 then K  μ else (vp_in x1 (gk_ln (gk_rf this 11)) ∧ (∀ m2 : gk_St, m2 = gk_up μ (gk_rf this 11) x1.toNatClampNeg 1 → (∀ v3 : Int32, v3 = x1 + 1 → w_X8_readsSpeed_l7 Q K this n v3 m2))))
set_option maxRecDepth 100000 in
set_option maxHeartbeats 4000000 in
theorem k_X8_readsSpeed_l7 {Q : Int32 → gk_St → Prop} {K : gk_St → Prop} {this : Nat} (h_this : gk_isO this 8) (hK : ∀ (em : gk_St), K  em → Go RX8 cX8_readsSpeed 2 (some .int) 1 26 [(0, .ref this)] [] em (gk_Qi Q)) : ∀ (n : Nat) (x1 : Int32) (μ : gk_St), w_X8_readsSpeed_l7 Q K this n x1 μ → Go RX8 cX8_readsSpeed 2 (some .int) 1 7 [(0, .ref this), (1, .int x1)] [] μ (gk_Qi Q) := by
  intro n
  induction n with
  | zero =>
    intro x1 μ h
    exact False.elim h
  | succ n ih =>
    intro x1 μ h
    unfold w_X8_readsSpeed_l7 at h
    refine go_iload_n 1 dX8_readsSpeed_7 rfl rfl ?_
    refine go_bipush (v := 24) dX8_readsSpeed_8 (by decide) ?_
    refine go_icmp_ge 26 dX8_readsSpeed_10 (by decide) (fun c => ?_) (fun c => ?_)
    · replace h := gk_ip h c
      refine go_lv [0] rfl ?_
      exact hK  _ h
    · replace h := gk_in h c
      refine go_aload_n 0 dX8_readsSpeed_13 rfl rfl ?_
      refine go_getR dX8_readsSpeed_14 fl_RX8_34 h_this (rr_8_11 h_this) ?_
      refine go_iload_n 1 dX8_readsSpeed_17 rfl rfl ?_
      refine go_iconst (v := 1) dX8_readsSpeed_18 (by decide) ?_
      refine gb_iastore dX8_readsSpeed_19 (rt_8_11 h_this) h.1 (fun m2 e => ?_)
      replace h := h.2 m2 e
      refine gb_iinc (w := 1) 1 (fun v3 => [(1, .int v3), (0, .ref this)]) dX8_readsSpeed_20 rfl (by decide) (by decide) (fun _ => rfl) (fun v3 e => ?_)
      replace h := h v3 e
      refine go_goto 7 dX8_readsSpeed_23 (by decide) ?_
      refine go_lv [1, 0] rfl ?_
      exact ih _ _ h
def w_X8_readsSpeed_l28 (Q : Int32 → gk_St → Prop) (K : gk_St → Prop) (this : Nat) : Nat → Int32 → gk_St → Prop
  | 0, _, _ => False
  | n + 1, x1, μ => (vp_in 2 (gk_ln (gk_rf this 0)) ∧ (if (μ (gk_rf this 0) (2 : Int32).toNatClampNeg) ≤ x1 then K  μ else w_X8_byteAt this 2 x1 μ (fun r6 m5 => w_X8_in r6 48 51 m5 (fun r8 m7 => (if r8 = 0 then Q x1 m7 else (∀ v9 : Int32, v9 = x1 + 1 → w_X8_readsSpeed_l28 Q K this n v9 m7))))))
set_option maxRecDepth 100000 in
set_option maxHeartbeats 4000000 in
theorem k_X8_readsSpeed_l28 {Q : Int32 → gk_St → Prop} {K : gk_St → Prop} {this : Nat} (h_this : gk_isO this 8) (hK : ∀ (em : gk_St), K  em → Go RX8 cX8_readsSpeed 2 (some .int) 1 62 [(0, .ref this)] [] em (gk_Qi Q)) : ∀ (n : Nat) (x1 : Int32) (μ : gk_St), w_X8_readsSpeed_l28 Q K this n x1 μ → Go RX8 cX8_readsSpeed 2 (some .int) 1 28 [(0, .ref this), (1, .int x1)] [] μ (gk_Qi Q) := by
  intro n
  induction n with
  | zero =>
    intro x1 μ h
    exact False.elim h
  | succ n ih =>
    intro x1 μ h
    unfold w_X8_readsSpeed_l28 at h
    refine go_iload_n 1 dX8_readsSpeed_28 rfl rfl ?_
    refine go_aload_n 0 dX8_readsSpeed_29 rfl rfl ?_
    refine go_getR dX8_readsSpeed_30 fl_RX8_7 h_this (rr_8_0 h_this) ?_
    refine go_iconst (v := 2) dX8_readsSpeed_33 (by decide) ?_
    refine go_iaload dX8_readsSpeed_34 (rt_8_0 h_this) h.1 ?_
    replace h := h.2
    refine go_icmp_ge 62 dX8_readsSpeed_35 (by decide) (fun c => ?_) (fun c => ?_)
    · replace h := gk_ip h c
      refine go_lv [0] rfl ?_
      exact hK  _ h
    · replace h := gk_in h c
      refine go_aload_n 0 dX8_readsSpeed_38 rfl rfl ?_
      refine go_iconst (v := 2) dX8_readsSpeed_39 (by decide) ?_
      refine go_iload_n 1 dX8_readsSpeed_40 rfl rfl ?_
      refine go_callV (ci := 8) (d' := 0) [.int 2, .int x1] dX8_readsSpeed_41 cw_RX8_124 ki_X8_byteAt ks_X8_byteAt rfl (by decide) h_this rfl (Nat.le_of_ble_eq_true rfl) (by decide) (k_X8_byteAt h_this h) (gk_ki (fun r6 m5 h => ?_))
      refine go_bipush (v := 48) dX8_readsSpeed_44 (by decide) ?_
      refine go_bipush (v := 51) dX8_readsSpeed_46 (by decide) ?_
      refine go_callS (d' := 0) [.int r6, .int 48, .int 51] dX8_readsSpeed_48 cw_RX8_112 kt_X8_in rfl (Nat.le_of_ble_eq_true rfl) (by decide) (k_X8_in h) (gk_ki (fun r8 m7 h => ?_))
      refine go_if_ne 56 dX8_readsSpeed_51 (by decide) (fun c => ?_) (fun c => ?_)
      · replace h := gk_in h c
        refine gb_iinc (w := 1) 1 (fun v9 => [(1, .int v9), (0, .ref this)]) dX8_readsSpeed_56 rfl (by decide) (by decide) (fun _ => rfl) (fun v9 e => ?_)
        replace h := h v9 e
        refine go_goto 28 dX8_readsSpeed_59 (by decide) ?_
        refine go_lv [1, 0] rfl ?_
        exact ih _ _ h
      · replace h := gk_ip h c
        refine go_iload_n 1 dX8_readsSpeed_54 rfl rfl ?_
        exact go_iret dX8_readsSpeed_55 ⟨_, rfl, h⟩
def w_X8_readsSpeed_l64 (Q : Int32 → gk_St → Prop) (K : gk_St → Prop) (this : Nat) : Nat → Int32 → gk_St → Prop
  | 0, _, _ => False
  | n + 1, x1, μ => (vp_in 2 (gk_ln (gk_rf this 0)) ∧ (if (μ (gk_rf this 0) (2 : Int32).toNatClampNeg) ≤ x1 then K  μ else w_X8_byteAt this 2 x1 μ (fun r12 m11 => (vp_in x1 (gk_ln (gk_rf this 11)) ∧ (∀ m13 : gk_St, m13 = gk_up m11 (gk_rf this 11) x1.toNatClampNeg (r12 - 48) → (∀ v14 : Int32, v14 = x1 + 1 → w_X8_readsSpeed_l64 Q K this n v14 m13))))))
set_option maxRecDepth 100000 in
set_option maxHeartbeats 4000000 in
theorem k_X8_readsSpeed_l64 {Q : Int32 → gk_St → Prop} {K : gk_St → Prop} {this : Nat} (h_this : gk_isO this 8) (hK : ∀ (em : gk_St), K  em → Go RX8 cX8_readsSpeed 2 (some .int) 1 95 [(0, .ref this)] [] em (gk_Qi Q)) : ∀ (n : Nat) (x1 : Int32) (μ : gk_St), w_X8_readsSpeed_l64 Q K this n x1 μ → Go RX8 cX8_readsSpeed 2 (some .int) 1 64 [(0, .ref this), (1, .int x1)] [] μ (gk_Qi Q) := by
  intro n
  induction n with
  | zero =>
    intro x1 μ h
    exact False.elim h
  | succ n ih =>
    intro x1 μ h
    unfold w_X8_readsSpeed_l64 at h
    refine go_iload_n 1 dX8_readsSpeed_64 rfl rfl ?_
    refine go_aload_n 0 dX8_readsSpeed_65 rfl rfl ?_
    refine go_getR dX8_readsSpeed_66 fl_RX8_7 h_this (rr_8_0 h_this) ?_
    refine go_iconst (v := 2) dX8_readsSpeed_69 (by decide) ?_
    refine go_iaload dX8_readsSpeed_70 (rt_8_0 h_this) h.1 ?_
    replace h := h.2
    refine go_icmp_ge 95 dX8_readsSpeed_71 (by decide) (fun c => ?_) (fun c => ?_)
    · replace h := gk_ip h c
      refine go_lv [0] rfl ?_
      exact hK  _ h
    · replace h := gk_in h c
      refine go_aload_n 0 dX8_readsSpeed_74 rfl rfl ?_
      refine go_getR dX8_readsSpeed_75 fl_RX8_34 h_this (rr_8_11 h_this) ?_
      refine go_iload_n 1 dX8_readsSpeed_78 rfl rfl ?_
      refine go_aload_n 0 dX8_readsSpeed_79 rfl rfl ?_
      refine go_iconst (v := 2) dX8_readsSpeed_80 (by decide) ?_
      refine go_iload_n 1 dX8_readsSpeed_81 rfl rfl ?_
      refine go_callV (ci := 8) (d' := 0) [.int 2, .int x1] dX8_readsSpeed_82 cw_RX8_124 ki_X8_byteAt ks_X8_byteAt rfl (by decide) h_this rfl (Nat.le_of_ble_eq_true rfl) (by decide) (k_X8_byteAt h_this h) (gk_ki (fun r12 m11 h => ?_))
      refine go_bipush (v := 48) dX8_readsSpeed_85 (by decide) ?_
      refine go_isub dX8_readsSpeed_87 ?_
      refine gb_iastore dX8_readsSpeed_88 (rt_8_11 h_this) h.1 (fun m13 e => ?_)
      replace h := h.2 m13 e
      refine gb_iinc (w := 1) 1 (fun v14 => [(1, .int v14), (0, .ref this)]) dX8_readsSpeed_89 rfl (by decide) (by decide) (fun _ => rfl) (fun v14 e => ?_)
      replace h := h v14 e
      refine go_goto 64 dX8_readsSpeed_92 (by decide) ?_
      refine go_lv [1, 0] rfl ?_
      exact ih _ _ h
def w_X8_readsSpeed (this : Nat) (μ : gk_St) (Q : Int32 → gk_St → Prop) : Prop := (∀ m1 : gk_St, m1 = gk_up μ this 10 0 → (∃ n7 : Nat, w_X8_readsSpeed_l7 Q (fun m4 => (∃ n28 : Nat, w_X8_readsSpeed_l28 Q (fun m10 => (∃ n64 : Nat, w_X8_readsSpeed_l64 Q (fun m15 => (vp_in 2 (gk_ln (gk_rf this 0)) ∧ (∀ m16 : gk_St, m16 = gk_up m15 this 10 (m15 (gk_rf this 0) (2 : Int32).toNatClampNeg) → Q (-1) m16))) this n64 0 m10)) this n28 0 m4)) this n7 0 m1))
set_option maxRecDepth 100000 in
set_option maxHeartbeats 4000000 in
theorem k_X8_readsSpeed {this : Nat} {μ : gk_St} {Q : Int32 → gk_St → Prop} (h_this : gk_isO this 8) (h : w_X8_readsSpeed this μ Q) : gk_CT yX8_readsSpeed cX8_readsSpeed 2 (some .int) 1 [.ref this] μ (gk_Qi Q) := by
  unfold w_X8_readsSpeed at h
  refine gk_enter (by decide) (Nat.le_of_ble_eq_true rfl) ?_
  show Go RX8 cX8_readsSpeed 2 (some .int) 1 0 [(0, .ref this)] [] μ (gk_Qi Q)
  refine go_aload_n 0 dX8_readsSpeed_0 rfl rfl ?_
  refine go_iconst (v := 0) dX8_readsSpeed_1 (by decide) ?_
  refine gb_putI dX8_readsSpeed_2 fp_RX8_148 h_this (nf_8_10 h_this) (fun m1 e => ?_)
  replace h := h m1 e
  refine go_iconst (v := 0) dX8_readsSpeed_5 (by decide) ?_
  refine go_istore_n [(1, .int 0), (0, .ref this)] dX8_readsSpeed_6 rfl (by decide) rfl ?_
  refine go_lv [1, 0] rfl ?_
  obtain ⟨n7, h⟩ := h
  refine k_X8_readsSpeed_l7 h_this (fun m4 h => ?_) n7 _ _ h
  refine go_iconst (v := 0) dX8_readsSpeed_26 (by decide) ?_
  refine go_istore_n [(1, .int 0), (0, .ref this)] dX8_readsSpeed_27 rfl (by decide) rfl ?_
  refine go_lv [1, 0] rfl ?_
  obtain ⟨n28, h⟩ := h
  refine k_X8_readsSpeed_l28 h_this (fun m10 h => ?_) n28 _ _ h
  refine go_iconst (v := 0) dX8_readsSpeed_62 (by decide) ?_
  refine go_istore_n [(1, .int 0), (0, .ref this)] dX8_readsSpeed_63 rfl (by decide) rfl ?_
  refine go_lv [1, 0] rfl ?_
  obtain ⟨n64, h⟩ := h
  refine k_X8_readsSpeed_l64 h_this (fun m15 h => ?_) n64 _ _ h
  refine go_aload_n 0 dX8_readsSpeed_95 rfl rfl ?_
  refine go_aload_n 0 dX8_readsSpeed_96 rfl rfl ?_
  refine go_getR dX8_readsSpeed_97 fl_RX8_7 h_this (rr_8_0 h_this) ?_
  refine go_iconst (v := 2) dX8_readsSpeed_100 (by decide) ?_
  refine go_iaload dX8_readsSpeed_101 (rt_8_0 h_this) h.1 ?_
  replace h := h.2
  refine gb_putI dX8_readsSpeed_102 fp_RX8_148 h_this (nf_8_10 h_this) (fun m16 e => ?_)
  replace h := h m16 e
  refine go_iconst (v := (-1)) dX8_readsSpeed_105 (by decide) ?_
  exact go_iret dX8_readsSpeed_106 ⟨_, rfl, h⟩
def w_X8_faultOf (this : Nat) (x1 : Int32) (μ : gk_St) (Q : Int32 → gk_St → Prop) : Prop := w_X8_readsParts this 0 μ (fun r2 m1 => w_X8_readsParts this 1 m1 (fun r4 m3 => w_X8_readsSpeed this m3 (fun r6 m5 => (if x1 = 0 then Q r2 m5 else (if x1 = 1 then Q r4 m5 else Q r6 m5)))))
set_option maxRecDepth 100000 in
set_option maxHeartbeats 4000000 in
theorem k_X8_faultOf {this : Nat} {x1 : Int32} {μ : gk_St} {Q : Int32 → gk_St → Prop} (h_this : gk_isO this 8) (h : w_X8_faultOf this x1 μ Q) : gk_CT yX8_faultOf cX8_faultOf 5 (some .int) 4 [.ref this, .int x1] μ (gk_Qi Q) := by
  unfold w_X8_faultOf at h
  refine gk_enter (by decide) (Nat.le_of_ble_eq_true rfl) ?_
  show Go RX8 cX8_faultOf 5 (some .int) 4 0 [(0, .ref this), (1, .int x1)] [] μ (gk_Qi Q)
  refine go_aload_n 0 dX8_faultOf_0 rfl rfl ?_
  refine go_iconst (v := 0) dX8_faultOf_1 (by decide) ?_
  refine go_callV (ci := 8) (d' := 3) [.int 0] dX8_faultOf_2 cw_RX8_151 ki_X8_readsParts ks_X8_readsParts rfl (by decide) h_this rfl (Nat.le_of_ble_eq_true rfl) (by decide) (k_X8_readsParts h_this h) (gk_ki (fun r2 m1 h => ?_))
  refine go_istore_n [(2, .int r2), (0, .ref this), (1, .int x1)] dX8_faultOf_5 rfl (by decide) rfl ?_
  refine go_aload_n 1 dX8_faultOf_6 rfl rfl ?_
  refine go_iconst (v := 1) dX8_faultOf_7 (by decide) ?_
  refine go_callV (ci := 8) (d' := 3) [.int 1] dX8_faultOf_8 cw_RX8_151 ki_X8_readsParts ks_X8_readsParts rfl (by decide) h_this rfl (Nat.le_of_ble_eq_true rfl) (by decide) (k_X8_readsParts h_this h) (gk_ki (fun r4 m3 h => ?_))
  refine go_istore_n [(3, .int r4), (2, .int r2), (0, .ref this), (1, .int x1)] dX8_faultOf_11 rfl (by decide) rfl ?_
  refine go_aload_n 2 dX8_faultOf_12 rfl rfl ?_
  refine go_callV (ci := 8) (d' := 1) [] dX8_faultOf_13 cw_RX8_154 ki_X8_readsSpeed ks_X8_readsSpeed rfl (by decide) h_this rfl (Nat.le_of_ble_eq_true rfl) (by decide) (k_X8_readsSpeed h_this h) (gk_ki (fun r6 m5 h => ?_))
  refine go_istore [(4, .int r6), (3, .int r4), (2, .int r2), (0, .ref this), (1, .int x1)] dX8_faultOf_16 (by decide) rfl ?_
  refine go_iload_n 4 dX8_faultOf_18 rfl rfl ?_
  refine go_if_ne 26 dX8_faultOf_19 (by decide) (fun c => ?_) (fun c => ?_)
  · replace h := gk_in h c
    refine go_iload_n 4 dX8_faultOf_26 rfl rfl ?_
    refine go_iconst (v := 1) dX8_faultOf_27 (by decide) ?_
    refine go_icmp_ne 35 dX8_faultOf_28 (by decide) (fun c => ?_) (fun c => ?_)
    · replace h := gk_in h c
      refine go_iload 0 dX8_faultOf_35 rfl ?_
      exact go_iret dX8_faultOf_37 ⟨_, rfl, h⟩
    · replace h := gk_ip h c
      refine go_iload_n 1 dX8_faultOf_31 rfl rfl ?_
      refine go_goto 37 dX8_faultOf_32 (by decide) ?_
      exact go_iret dX8_faultOf_37 ⟨_, rfl, h⟩
  · replace h := gk_ip h c
    refine go_iload_n 2 dX8_faultOf_22 rfl rfl ?_
    refine go_goto 37 dX8_faultOf_23 (by decide) ?_
    exact go_iret dX8_faultOf_37 ⟨_, rfl, h⟩
def w_X8_reads (this : Nat) (μ : gk_St) (Q : gk_St → Prop) : Prop := w_X8_faultOf this 0 μ (fun r2 m1 => Q m1)
set_option maxRecDepth 100000 in
set_option maxHeartbeats 4000000 in
theorem k_X8_reads {this : Nat} {μ : gk_St} {Q : gk_St → Prop} (h_this : gk_isO this 8) (h : w_X8_reads this μ Q) : gk_CT yX8_reads cX8_reads 2 none 5 [.ref this] μ (gk_Qv Q) := by
  unfold w_X8_reads at h
  refine gk_enter (by decide) (Nat.le_of_ble_eq_true rfl) ?_
  show Go RX8 cX8_reads 2 none 5 0 [(0, .ref this)] [] μ (gk_Qv Q)
  refine go_aload_n 0 dX8_reads_0 rfl rfl ?_
  refine go_iconst (v := 0) dX8_reads_1 (by decide) ?_
  refine go_callV (ci := 8) (d' := 4) [.int 0] dX8_reads_2 cw_RX8_158 ki_X8_faultOf ks_X8_faultOf rfl (by decide) h_this rfl (Nat.le_of_ble_eq_true rfl) (by decide) (k_X8_faultOf h_this h) (gk_ki (fun r2 m1 h => ?_))
  refine go_istore_n [(1, .int r2), (0, .ref this)] dX8_reads_5 rfl (by decide) rfl ?_
  exact go_vret dX8_reads_6 ⟨rfl, h⟩
def w_X8_fault (this : Nat) (x1 : Int32) (μ : gk_St) (Q : Int32 → gk_St → Prop) : Prop := w_X8_isText x1 μ (fun r2 m1 => (if r2 = 0 then Q (-2) m1 else w_X8_faultOf this x1 m1 (fun r4 m3 => Q r4 m3)))
set_option maxRecDepth 100000 in
set_option maxHeartbeats 4000000 in
theorem k_X8_fault {this : Nat} {x1 : Int32} {μ : gk_St} {Q : Int32 → gk_St → Prop} (h_this : gk_isO this 8) (h : w_X8_fault this x1 μ Q) : gk_CT yX8_fault cX8_fault 2 (some .int) 5 [.ref this, .int x1] μ (gk_Qi Q) := by
  unfold w_X8_fault at h
  refine gk_enter (by decide) (Nat.le_of_ble_eq_true rfl) ?_
  show Go RX8 cX8_fault 2 (some .int) 5 0 [(0, .ref this), (1, .int x1)] [] μ (gk_Qi Q)
  refine go_iload_n 1 dX8_fault_0 rfl rfl ?_
  refine go_callS (d' := 1) [.int x1] dX8_fault_1 cw_RX8_116 kt_X8_isText rfl (Nat.le_of_ble_eq_true rfl) (by decide) (k_X8_isText h) (gk_ki (fun r2 m1 h => ?_))
  refine go_if_eq 15 dX8_fault_4 (by decide) (fun c => ?_) (fun c => ?_)
  · replace h := gk_ip h c
    refine go_bipush (v := (-2)) dX8_fault_15 (by decide) ?_
    exact go_iret dX8_fault_17 ⟨_, rfl, h⟩
  · replace h := gk_in h c
    refine go_aload_n 0 dX8_fault_7 rfl rfl ?_
    refine go_iload_n 1 dX8_fault_8 rfl rfl ?_
    refine go_callV (ci := 8) (d' := 4) [.int x1] dX8_fault_9 cw_RX8_158 ki_X8_faultOf ks_X8_faultOf rfl (by decide) h_this rfl (Nat.le_of_ble_eq_true rfl) (by decide) (k_X8_faultOf h_this h) (gk_ki (fun r4 m3 h => ?_))
    refine go_goto 17 dX8_fault_12 (by decide) ?_
    exact go_iret dX8_fault_17 ⟨_, rfl, h⟩
def w_X8_isCar (this : Nat) (x1 : Int32) (μ : gk_St) (Q : Int32 → gk_St → Prop) : Prop := w_X8_reads this μ (fun m1 => w_X8_in x1 0 ((m1 this 2) - 1) m1 (fun r3 m2 => (gk_b r3 ∧ Q r3 m2)))
set_option maxRecDepth 100000 in
set_option maxHeartbeats 4000000 in
theorem k_X8_isCar {this : Nat} {x1 : Int32} {μ : gk_St} {Q : Int32 → gk_St → Prop} (h_this : gk_isO this 8) (h : w_X8_isCar this x1 μ Q) : gk_CT yX8_isCar cX8_isCar 2 (some .boolean) 6 [.ref this, .int x1] μ (gk_Qi Q) := by
  unfold w_X8_isCar at h
  refine gk_enter (by decide) (Nat.le_of_ble_eq_true rfl) ?_
  show Go RX8 cX8_isCar 2 (some .boolean) 6 0 [(0, .ref this), (1, .int x1)] [] μ (gk_Qi Q)
  refine go_aload_n 0 dX8_isCar_0 rfl rfl ?_
  refine go_callV (ci := 8) (d' := 5) [] dX8_isCar_1 cw_RX8_161 ki_X8_reads ks_X8_reads rfl (by decide) h_this rfl (Nat.le_of_ble_eq_true rfl) (by decide) (k_X8_reads h_this h) (gk_kv (fun m1 h => ?_))
  refine go_iload_n 1 dX8_isCar_4 rfl rfl ?_
  refine go_iconst (v := 0) dX8_isCar_5 (by decide) ?_
  refine go_aload_n 0 dX8_isCar_6 rfl rfl ?_
  refine go_getI dX8_isCar_7 fl_RX8_135 h_this (nf_8_2 h_this) ?_
  refine go_iconst (v := 1) dX8_isCar_10 (by decide) ?_
  refine go_isub dX8_isCar_11 ?_
  refine go_callS (d' := 0) [.int x1, .int 0, .int ((m1 this 2) - 1)] dX8_isCar_12 cw_RX8_112 kt_X8_in rfl (Nat.le_of_ble_eq_true rfl) (by decide) (k_X8_in h) (gk_ki (fun r3 m2 h => ?_))
  exact go_zret dX8_isCar_15 h.1 ⟨_, rfl, h.2⟩
def w_X8_carOf (this : Nat) (x1 : Int32) (x2 : Int32) (μ : gk_St) (Q : Int32 → gk_St → Prop) : Prop := (if x2 = 0 then (vp_in x1 (gk_ln (gk_rf this 3)) ∧ Q (μ (gk_rf this 3) x1.toNatClampNeg) μ) else (if x2 = 1 then (vp_in x1 (gk_ln (gk_rf this 4)) ∧ Q (μ (gk_rf this 4) x1.toNatClampNeg) μ) else (vp_in x1 (gk_ln (gk_rf this 5)) ∧ Q (μ (gk_rf this 5) x1.toNatClampNeg) μ)))
set_option maxRecDepth 100000 in
set_option maxHeartbeats 4000000 in
theorem k_X8_carOf {this : Nat} {x1 : Int32} {x2 : Int32} {μ : gk_St} {Q : Int32 → gk_St → Prop} (h_this : gk_isO this 8) (h : w_X8_carOf this x1 x2 μ Q) : gk_CT yX8_carOf cX8_carOf 3 (some .int) 0 [.ref this, .int x1, .int x2] μ (gk_Qi Q) := by
  unfold w_X8_carOf at h
  refine gk_enter (by decide) (Nat.le_of_ble_eq_true rfl) ?_
  show Go RX8 cX8_carOf 3 (some .int) 0 0 [(0, .ref this), (1, .int x1), (2, .int x2)] [] μ (gk_Qi Q)
  refine go_iload_n 2 dX8_carOf_0 rfl rfl ?_
  refine go_if_ne 13 dX8_carOf_1 (by decide) (fun c => ?_) (fun c => ?_)
  · replace h := gk_in h c
    refine go_iload_n 2 dX8_carOf_13 rfl rfl ?_
    refine go_iconst (v := 1) dX8_carOf_14 (by decide) ?_
    refine go_icmp_ne 27 dX8_carOf_15 (by decide) (fun c => ?_) (fun c => ?_)
    · replace h := gk_in h c
      refine go_aload_n 0 dX8_carOf_27 rfl rfl ?_
      refine go_getR dX8_carOf_28 fl_RX8_22 h_this (rr_8_5 h_this) ?_
      refine go_iload_n 1 dX8_carOf_31 rfl rfl ?_
      refine go_iaload dX8_carOf_32 (rt_8_5 h_this) h.1 ?_
      replace h := h.2
      exact go_iret dX8_carOf_33 ⟨_, rfl, h⟩
    · replace h := gk_ip h c
      refine go_aload_n 0 dX8_carOf_18 rfl rfl ?_
      refine go_getR dX8_carOf_19 fl_RX8_19 h_this (rr_8_4 h_this) ?_
      refine go_iload_n 1 dX8_carOf_22 rfl rfl ?_
      refine go_iaload dX8_carOf_23 (rt_8_4 h_this) h.1 ?_
      replace h := h.2
      refine go_goto 33 dX8_carOf_24 (by decide) ?_
      exact go_iret dX8_carOf_33 ⟨_, rfl, h⟩
  · replace h := gk_ip h c
    refine go_aload_n 0 dX8_carOf_4 rfl rfl ?_
    refine go_getR dX8_carOf_5 fl_RX8_16 h_this (rr_8_3 h_this) ?_
    refine go_iload_n 1 dX8_carOf_8 rfl rfl ?_
    refine go_iaload dX8_carOf_9 (rt_8_3 h_this) h.1 ?_
    replace h := h.2
    refine go_goto 33 dX8_carOf_10 (by decide) ?_
    exact go_iret dX8_carOf_33 ⟨_, rfl, h⟩
def w_X8_car (this : Nat) (x1 : Int32) (x2 : Int32) (μ : gk_St) (Q : Int32 → gk_St → Prop) : Prop := w_X8_isCar this x1 μ (fun r2 m1 => (if r2 = 0 then Q (-2) m1 else w_X8_isThree x2 m1 (fun r4 m3 => (if r4 = 0 then Q (-2) m3 else w_X8_carOf this x1 x2 m3 (fun r6 m5 => Q r6 m5)))))
set_option maxRecDepth 100000 in
set_option maxHeartbeats 4000000 in
theorem k_X8_car {this : Nat} {x1 : Int32} {x2 : Int32} {μ : gk_St} {Q : Int32 → gk_St → Prop} (h_this : gk_isO this 8) (h : w_X8_car this x1 x2 μ Q) : gk_CT yX8_car cX8_car 3 (some .int) 7 [.ref this, .int x1, .int x2] μ (gk_Qi Q) := by
  unfold w_X8_car at h
  refine gk_enter (by decide) (Nat.le_of_ble_eq_true rfl) ?_
  show Go RX8 cX8_car 3 (some .int) 7 0 [(0, .ref this), (1, .int x1), (2, .int x2)] [] μ (gk_Qi Q)
  refine go_aload_n 0 dX8_car_0 rfl rfl ?_
  refine go_iload_n 1 dX8_car_1 rfl rfl ?_
  refine go_callV (ci := 8) (d' := 6) [.int x1] dX8_car_2 cw_RX8_164 ki_X8_isCar ks_X8_isCar rfl (by decide) h_this rfl (Nat.le_of_ble_eq_true rfl) (by decide) (k_X8_isCar h_this h) (gk_ki (fun r2 m1 h => ?_))
  refine go_if_eq 24 dX8_car_5 (by decide) (fun c => ?_) (fun c => ?_)
  · replace h := gk_ip h c
    refine go_bipush (v := (-2)) dX8_car_24 (by decide) ?_
    exact go_iret dX8_car_26 ⟨_, rfl, h⟩
  · replace h := gk_in h c
    refine go_iload_n 2 dX8_car_8 rfl rfl ?_
    refine go_callS (d' := 1) [.int x2] dX8_car_9 cw_RX8_167 kt_X8_isThree rfl (Nat.le_of_ble_eq_true rfl) (by decide) (k_X8_isThree h) (gk_ki (fun r4 m3 h => ?_))
    refine go_if_eq 24 dX8_car_12 (by decide) (fun c => ?_) (fun c => ?_)
    · replace h := gk_ip h c
      refine go_bipush (v := (-2)) dX8_car_24 (by decide) ?_
      exact go_iret dX8_car_26 ⟨_, rfl, h⟩
    · replace h := gk_in h c
      refine go_aload_n 0 dX8_car_15 rfl rfl ?_
      refine go_iload_n 1 dX8_car_16 rfl rfl ?_
      refine go_iload_n 2 dX8_car_17 rfl rfl ?_
      refine go_callV (ci := 8) (d' := 0) [.int x1, .int x2] dX8_car_18 cw_RX8_170 ki_X8_carOf ks_X8_carOf rfl (by decide) h_this rfl (Nat.le_of_ble_eq_true rfl) (by decide) (k_X8_carOf h_this h) (gk_ki (fun r6 m5 h => ?_))
      refine go_goto 26 dX8_car_21 (by decide) ?_
      exact go_iret dX8_car_26 ⟨_, rfl, h⟩
def w_X8_comingOf (this : Nat) (x1 : Int32) (x2 : Int32) (μ : gk_St) (Q : Int32 → gk_St → Prop) : Prop := w_X8_reads this μ (fun m1 => (if x1 < (m1 this 6) then (if x2 = 0 then (vp_in x1 (gk_ln (gk_rf this 7)) ∧ Q (m1 (gk_rf this 7) x1.toNatClampNeg) m1) else (if x2 = 1 then (vp_in x1 (gk_ln (gk_rf this 8)) ∧ Q (m1 (gk_rf this 8) x1.toNatClampNeg) m1) else (vp_in x1 (gk_ln (gk_rf this 9)) ∧ Q (m1 (gk_rf this 9) x1.toNatClampNeg) m1))) else Q (-1) m1))
set_option maxRecDepth 100000 in
set_option maxHeartbeats 4000000 in
theorem k_X8_comingOf {this : Nat} {x1 : Int32} {x2 : Int32} {μ : gk_St} {Q : Int32 → gk_St → Prop} (h_this : gk_isO this 8) (h : w_X8_comingOf this x1 x2 μ Q) : gk_CT yX8_comingOf cX8_comingOf 3 (some .int) 6 [.ref this, .int x1, .int x2] μ (gk_Qi Q) := by
  unfold w_X8_comingOf at h
  refine gk_enter (by decide) (Nat.le_of_ble_eq_true rfl) ?_
  show Go RX8 cX8_comingOf 3 (some .int) 6 0 [(0, .ref this), (1, .int x1), (2, .int x2)] [] μ (gk_Qi Q)
  refine go_aload_n 0 dX8_comingOf_0 rfl rfl ?_
  refine go_callV (ci := 8) (d' := 5) [] dX8_comingOf_1 cw_RX8_161 ki_X8_reads ks_X8_reads rfl (by decide) h_this rfl (Nat.le_of_ble_eq_true rfl) (by decide) (k_X8_reads h_this h) (gk_kv (fun m1 h => ?_))
  refine go_iload_n 1 dX8_comingOf_4 rfl rfl ?_
  refine go_aload_n 0 dX8_comingOf_5 rfl rfl ?_
  refine go_getI dX8_comingOf_6 fl_RX8_139 h_this (nf_8_6 h_this) ?_
  refine go_icmp_lt 16 dX8_comingOf_9 (by decide) (fun c => ?_) (fun c => ?_)
  · replace h := gk_ip h c
    refine go_iload_n 2 dX8_comingOf_16 rfl rfl ?_
    refine go_if_ne 29 dX8_comingOf_17 (by decide) (fun c => ?_) (fun c => ?_)
    · replace h := gk_in h c
      refine go_iload_n 2 dX8_comingOf_29 rfl rfl ?_
      refine go_iconst (v := 1) dX8_comingOf_30 (by decide) ?_
      refine go_icmp_ne 43 dX8_comingOf_31 (by decide) (fun c => ?_) (fun c => ?_)
      · replace h := gk_in h c
        refine go_aload_n 0 dX8_comingOf_43 rfl rfl ?_
        refine go_getR dX8_comingOf_44 fl_RX8_31 h_this (rr_8_9 h_this) ?_
        refine go_iload_n 1 dX8_comingOf_47 rfl rfl ?_
        refine go_iaload dX8_comingOf_48 (rt_8_9 h_this) h.1 ?_
        replace h := h.2
        exact go_iret dX8_comingOf_49 ⟨_, rfl, h⟩
      · replace h := gk_ip h c
        refine go_aload_n 0 dX8_comingOf_34 rfl rfl ?_
        refine go_getR dX8_comingOf_35 fl_RX8_28 h_this (rr_8_8 h_this) ?_
        refine go_iload_n 1 dX8_comingOf_38 rfl rfl ?_
        refine go_iaload dX8_comingOf_39 (rt_8_8 h_this) h.1 ?_
        replace h := h.2
        refine go_goto 49 dX8_comingOf_40 (by decide) ?_
        exact go_iret dX8_comingOf_49 ⟨_, rfl, h⟩
    · replace h := gk_ip h c
      refine go_aload_n 0 dX8_comingOf_20 rfl rfl ?_
      refine go_getR dX8_comingOf_21 fl_RX8_25 h_this (rr_8_7 h_this) ?_
      refine go_iload_n 1 dX8_comingOf_24 rfl rfl ?_
      refine go_iaload dX8_comingOf_25 (rt_8_7 h_this) h.1 ?_
      replace h := h.2
      refine go_goto 49 dX8_comingOf_26 (by decide) ?_
      exact go_iret dX8_comingOf_49 ⟨_, rfl, h⟩
  · replace h := gk_in h c
    refine go_iconst (v := (-1)) dX8_comingOf_12 (by decide) ?_
    refine go_goto 49 dX8_comingOf_13 (by decide) ?_
    exact go_iret dX8_comingOf_49 ⟨_, rfl, h⟩
def w_X8_coming (this : Nat) (x1 : Int32) (x2 : Int32) (μ : gk_St) (Q : Int32 → gk_St → Prop) : Prop := w_X8_in x1 0 11 μ (fun r2 m1 => (if r2 = 0 then Q (-2) m1 else w_X8_isThree x2 m1 (fun r4 m3 => (if r4 = 0 then Q (-2) m3 else w_X8_comingOf this x1 x2 m3 (fun r6 m5 => Q r6 m5)))))
set_option maxRecDepth 100000 in
set_option maxHeartbeats 4000000 in
theorem k_X8_coming {this : Nat} {x1 : Int32} {x2 : Int32} {μ : gk_St} {Q : Int32 → gk_St → Prop} (h_this : gk_isO this 8) (h : w_X8_coming this x1 x2 μ Q) : gk_CT yX8_coming cX8_coming 3 (some .int) 7 [.ref this, .int x1, .int x2] μ (gk_Qi Q) := by
  unfold w_X8_coming at h
  refine gk_enter (by decide) (Nat.le_of_ble_eq_true rfl) ?_
  show Go RX8 cX8_coming 3 (some .int) 7 0 [(0, .ref this), (1, .int x1), (2, .int x2)] [] μ (gk_Qi Q)
  refine go_iload_n 1 dX8_coming_0 rfl rfl ?_
  refine go_iconst (v := 0) dX8_coming_1 (by decide) ?_
  refine go_bipush (v := 11) dX8_coming_2 (by decide) ?_
  refine go_callS (d' := 0) [.int x1, .int 0, .int 11] dX8_coming_4 cw_RX8_112 kt_X8_in rfl (Nat.le_of_ble_eq_true rfl) (by decide) (k_X8_in h) (gk_ki (fun r2 m1 h => ?_))
  refine go_if_eq 26 dX8_coming_7 (by decide) (fun c => ?_) (fun c => ?_)
  · replace h := gk_ip h c
    refine go_bipush (v := (-2)) dX8_coming_26 (by decide) ?_
    exact go_iret dX8_coming_28 ⟨_, rfl, h⟩
  · replace h := gk_in h c
    refine go_iload_n 2 dX8_coming_10 rfl rfl ?_
    refine go_callS (d' := 1) [.int x2] dX8_coming_11 cw_RX8_167 kt_X8_isThree rfl (Nat.le_of_ble_eq_true rfl) (by decide) (k_X8_isThree h) (gk_ki (fun r4 m3 h => ?_))
    refine go_if_eq 26 dX8_coming_14 (by decide) (fun c => ?_) (fun c => ?_)
    · replace h := gk_ip h c
      refine go_bipush (v := (-2)) dX8_coming_26 (by decide) ?_
      exact go_iret dX8_coming_28 ⟨_, rfl, h⟩
    · replace h := gk_in h c
      refine go_aload_n 0 dX8_coming_17 rfl rfl ?_
      refine go_iload_n 1 dX8_coming_18 rfl rfl ?_
      refine go_iload_n 2 dX8_coming_19 rfl rfl ?_
      refine go_callV (ci := 8) (d' := 6) [.int x1, .int x2] dX8_coming_20 cw_RX8_173 ki_X8_comingOf ks_X8_comingOf rfl (by decide) h_this rfl (Nat.le_of_ble_eq_true rfl) (by decide) (k_X8_comingOf h_this h) (gk_ki (fun r6 m5 h => ?_))
      refine go_goto 28 dX8_coming_23 (by decide) ?_
      exact go_iret dX8_coming_28 ⟨_, rfl, h⟩
def w_X8_speedOf (this : Nat) (x1 : Int32) (μ : gk_St) (Q : Int32 → gk_St → Prop) : Prop := w_X8_reads this μ (fun m1 => (vp_in x1 (gk_ln (gk_rf this 11)) ∧ Q (m1 (gk_rf this 11) x1.toNatClampNeg) m1))
set_option maxRecDepth 100000 in
set_option maxHeartbeats 4000000 in
theorem k_X8_speedOf {this : Nat} {x1 : Int32} {μ : gk_St} {Q : Int32 → gk_St → Prop} (h_this : gk_isO this 8) (h : w_X8_speedOf this x1 μ Q) : gk_CT yX8_speedOf cX8_speedOf 2 (some .int) 6 [.ref this, .int x1] μ (gk_Qi Q) := by
  unfold w_X8_speedOf at h
  refine gk_enter (by decide) (Nat.le_of_ble_eq_true rfl) ?_
  show Go RX8 cX8_speedOf 2 (some .int) 6 0 [(0, .ref this), (1, .int x1)] [] μ (gk_Qi Q)
  refine go_aload_n 0 dX8_speedOf_0 rfl rfl ?_
  refine go_callV (ci := 8) (d' := 5) [] dX8_speedOf_1 cw_RX8_161 ki_X8_reads ks_X8_reads rfl (by decide) h_this rfl (Nat.le_of_ble_eq_true rfl) (by decide) (k_X8_reads h_this h) (gk_kv (fun m1 h => ?_))
  refine go_aload_n 0 dX8_speedOf_4 rfl rfl ?_
  refine go_getR dX8_speedOf_5 fl_RX8_34 h_this (rr_8_11 h_this) ?_
  refine go_iload_n 1 dX8_speedOf_8 rfl rfl ?_
  refine go_iaload dX8_speedOf_9 (rt_8_11 h_this) h.1 ?_
  replace h := h.2
  exact go_iret dX8_speedOf_10 ⟨_, rfl, h⟩
def w_X8_speed (this : Nat) (x1 : Int32) (μ : gk_St) (Q : Int32 → gk_St → Prop) : Prop := w_X8_isMoment x1 μ (fun r2 m1 => (if r2 = 0 then Q (-2) m1 else w_X8_speedOf this x1 m1 (fun r4 m3 => Q r4 m3)))
set_option maxRecDepth 100000 in
set_option maxHeartbeats 4000000 in
theorem k_X8_speed {this : Nat} {x1 : Int32} {μ : gk_St} {Q : Int32 → gk_St → Prop} (h_this : gk_isO this 8) (h : w_X8_speed this x1 μ Q) : gk_CT yX8_speed cX8_speed 2 (some .int) 7 [.ref this, .int x1] μ (gk_Qi Q) := by
  unfold w_X8_speed at h
  refine gk_enter (by decide) (Nat.le_of_ble_eq_true rfl) ?_
  show Go RX8 cX8_speed 2 (some .int) 7 0 [(0, .ref this), (1, .int x1)] [] μ (gk_Qi Q)
  refine go_iload_n 1 dX8_speed_0 rfl rfl ?_
  refine go_callS (d' := 1) [.int x1] dX8_speed_1 cw_RX8_132 kt_X8_isMoment rfl (Nat.le_of_ble_eq_true rfl) (by decide) (k_X8_isMoment h) (gk_ki (fun r2 m1 h => ?_))
  refine go_if_eq 15 dX8_speed_4 (by decide) (fun c => ?_) (fun c => ?_)
  · replace h := gk_ip h c
    refine go_bipush (v := (-2)) dX8_speed_15 (by decide) ?_
    exact go_iret dX8_speed_17 ⟨_, rfl, h⟩
  · replace h := gk_in h c
    refine go_aload_n 0 dX8_speed_7 rfl rfl ?_
    refine go_iload_n 1 dX8_speed_8 rfl rfl ?_
    refine go_callV (ci := 8) (d' := 6) [.int x1] dX8_speed_9 cw_RX8_176 ki_X8_speedOf ks_X8_speedOf rfl (by decide) h_this rfl (Nat.le_of_ble_eq_true rfl) (by decide) (k_X8_speedOf h_this h) (gk_ki (fun r4 m3 h => ?_))
    refine go_goto 17 dX8_speed_12 (by decide) ?_
    exact go_iret dX8_speed_17 ⟨_, rfl, h⟩
def w_X8_event (this : Nat) (x1 : Int32) (x2 : Int32) (x3 : Int32) (μ : gk_St) (Q : Int32 → gk_St → Prop) : Prop := w_X8_isThree x1 μ (fun r2 m1 => (if r2 = 0 then Q (-2) m1 else w_X8_isMoment x2 m1 (fun r4 m3 => (if r4 = 0 then Q (-2) m3 else w_X8_in x3 0 5 m3 (fun r6 m5 => (if r6 = 0 then Q (-2) m5 else (if (m5 this 12) = 8 then Q (-4) m5 else (vp_in (m5 this 12) (gk_ln (gk_rf this 13)) ∧ (∀ m7 : gk_St, m7 = gk_up m5 (gk_rf this 13) (Int32.toNatClampNeg (m5 this 12)) x1 → (vp_in (m7 this 12) (gk_ln (gk_rf this 14)) ∧ (∀ m8 : gk_St, m8 = gk_up m7 (gk_rf this 14) (Int32.toNatClampNeg (m7 this 12)) x2 → (vp_in (m8 this 12) (gk_ln (gk_rf this 15)) ∧ (∀ m9 : gk_St, m9 = gk_up m8 (gk_rf this 15) (Int32.toNatClampNeg (m8 this 12)) x3 → (∀ m10 : gk_St, m10 = gk_up m9 this 12 ((m9 this 12) + 1) → Q (m10 this 12) m10))))))))))))))
set_option maxRecDepth 100000 in
set_option maxHeartbeats 4000000 in
theorem k_X8_event {this : Nat} {x1 : Int32} {x2 : Int32} {x3 : Int32} {μ : gk_St} {Q : Int32 → gk_St → Prop} (h_this : gk_isO this 8) (h : w_X8_event this x1 x2 x3 μ Q) : gk_CT yX8_event cX8_event 4 (some .int) 2 [.ref this, .int x1, .int x2, .int x3] μ (gk_Qi Q) := by
  unfold w_X8_event at h
  refine gk_enter (by decide) (Nat.le_of_ble_eq_true rfl) ?_
  show Go RX8 cX8_event 4 (some .int) 2 0 [(0, .ref this), (1, .int x1), (2, .int x2), (3, .int x3)] [] μ (gk_Qi Q)
  refine go_iload_n 1 dX8_event_0 rfl rfl ?_
  refine go_callS (d' := 1) [.int x1] dX8_event_1 cw_RX8_167 kt_X8_isThree rfl (Nat.le_of_ble_eq_true rfl) (by decide) (k_X8_isThree h) (gk_ki (fun r2 m1 h => ?_))
  refine go_if_eq 23 dX8_event_4 (by decide) (fun c => ?_) (fun c => ?_)
  · replace h := gk_ip h c
    refine go_bipush (v := (-2)) dX8_event_23 (by decide) ?_
    exact go_iret dX8_event_25 ⟨_, rfl, h⟩
  · replace h := gk_in h c
    refine go_iload_n 2 dX8_event_7 rfl rfl ?_
    refine go_callS (d' := 1) [.int x2] dX8_event_8 cw_RX8_132 kt_X8_isMoment rfl (Nat.le_of_ble_eq_true rfl) (by decide) (k_X8_isMoment h) (gk_ki (fun r4 m3 h => ?_))
    refine go_if_eq 23 dX8_event_11 (by decide) (fun c => ?_) (fun c => ?_)
    · replace h := gk_ip h c
      refine go_bipush (v := (-2)) dX8_event_23 (by decide) ?_
      exact go_iret dX8_event_25 ⟨_, rfl, h⟩
    · replace h := gk_in h c
      refine go_iload_n 3 dX8_event_14 rfl rfl ?_
      refine go_iconst (v := 0) dX8_event_15 (by decide) ?_
      refine go_iconst (v := 5) dX8_event_16 (by decide) ?_
      refine go_callS (d' := 0) [.int x3, .int 0, .int 5] dX8_event_17 cw_RX8_112 kt_X8_in rfl (Nat.le_of_ble_eq_true rfl) (by decide) (k_X8_in h) (gk_ki (fun r6 m5 h => ?_))
      refine go_if_ne 26 dX8_event_20 (by decide) (fun c => ?_) (fun c => ?_)
      · replace h := gk_in h c
        refine go_aload_n 0 dX8_event_26 rfl rfl ?_
        refine go_getI dX8_event_27 fl_RX8_179 h_this (nf_8_12 h_this) ?_
        refine go_bipush (v := 8) dX8_event_30 (by decide) ?_
        refine go_icmp_ne 38 dX8_event_32 (by decide) (fun c => ?_) (fun c => ?_)
        · replace h := gk_in h c
          refine go_aload_n 0 dX8_event_38 rfl rfl ?_
          refine go_getR dX8_event_39 fl_RX8_37 h_this (rr_8_13 h_this) ?_
          refine go_aload_n 0 dX8_event_42 rfl rfl ?_
          refine go_getI dX8_event_43 fl_RX8_179 h_this (nf_8_12 h_this) ?_
          refine go_iload_n 1 dX8_event_46 rfl rfl ?_
          refine gb_iastore dX8_event_47 (rt_8_13 h_this) h.1 (fun m7 e => ?_)
          replace h := h.2 m7 e
          refine go_aload_n 0 dX8_event_48 rfl rfl ?_
          refine go_getR dX8_event_49 fl_RX8_40 h_this (rr_8_14 h_this) ?_
          refine go_aload_n 0 dX8_event_52 rfl rfl ?_
          refine go_getI dX8_event_53 fl_RX8_179 h_this (nf_8_12 h_this) ?_
          refine go_iload_n 2 dX8_event_56 rfl rfl ?_
          refine gb_iastore dX8_event_57 (rt_8_14 h_this) h.1 (fun m8 e => ?_)
          replace h := h.2 m8 e
          refine go_aload_n 0 dX8_event_58 rfl rfl ?_
          refine go_getR dX8_event_59 fl_RX8_43 h_this (rr_8_15 h_this) ?_
          refine go_aload_n 0 dX8_event_62 rfl rfl ?_
          refine go_getI dX8_event_63 fl_RX8_179 h_this (nf_8_12 h_this) ?_
          refine go_iload_n 3 dX8_event_66 rfl rfl ?_
          refine gb_iastore dX8_event_67 (rt_8_15 h_this) h.1 (fun m9 e => ?_)
          replace h := h.2 m9 e
          refine go_aload_n 0 dX8_event_68 rfl rfl ?_
          refine go_dup dX8_event_69 rfl ?_
          refine go_getI dX8_event_70 fl_RX8_179 h_this (nf_8_12 h_this) ?_
          refine go_iconst (v := 1) dX8_event_73 (by decide) ?_
          refine go_iadd dX8_event_74 ?_
          refine gb_putI dX8_event_75 fp_RX8_179 h_this (nf_8_12 h_this) (fun m10 e => ?_)
          replace h := h m10 e
          refine go_aload_n 0 dX8_event_78 rfl rfl ?_
          refine go_getI dX8_event_79 fl_RX8_179 h_this (nf_8_12 h_this) ?_
          exact go_iret dX8_event_82 ⟨_, rfl, h⟩
        · replace h := gk_ip h c
          refine go_bipush (v := (-4)) dX8_event_35 (by decide) ?_
          exact go_iret dX8_event_37 ⟨_, rfl, h⟩
      · replace h := gk_ip h c
        refine go_bipush (v := (-2)) dX8_event_23 (by decide) ?_
        exact go_iret dX8_event_25 ⟨_, rfl, h⟩
def w_X8_back (this : Nat) (μ : gk_St) (Q : Int32 → gk_St → Prop) : Prop := (if (μ this 12) = 0 then Q (-3) μ else (∀ m1 : gk_St, m1 = gk_up μ this 12 ((μ this 12) - 1) → Q (m1 this 12) m1))
set_option maxRecDepth 100000 in
set_option maxHeartbeats 4000000 in
theorem k_X8_back {this : Nat} {μ : gk_St} {Q : Int32 → gk_St → Prop} (h_this : gk_isO this 8) (h : w_X8_back this μ Q) : gk_CT yX8_back cX8_back 1 (some .int) 0 [.ref this] μ (gk_Qi Q) := by
  unfold w_X8_back at h
  refine gk_enter (by decide) (Nat.le_of_ble_eq_true rfl) ?_
  show Go RX8 cX8_back 1 (some .int) 0 0 [(0, .ref this)] [] μ (gk_Qi Q)
  refine go_aload_n 0 dX8_back_0 rfl rfl ?_
  refine go_getI dX8_back_1 fl_RX8_179 h_this (nf_8_12 h_this) ?_
  refine go_if_ne 10 dX8_back_4 (by decide) (fun c => ?_) (fun c => ?_)
  · replace h := gk_in h c
    refine go_aload_n 0 dX8_back_10 rfl rfl ?_
    refine go_dup dX8_back_11 rfl ?_
    refine go_getI dX8_back_12 fl_RX8_179 h_this (nf_8_12 h_this) ?_
    refine go_iconst (v := 1) dX8_back_15 (by decide) ?_
    refine go_isub dX8_back_16 ?_
    refine gb_putI dX8_back_17 fp_RX8_179 h_this (nf_8_12 h_this) (fun m1 e => ?_)
    replace h := h m1 e
    refine go_aload_n 0 dX8_back_20 rfl rfl ?_
    refine go_getI dX8_back_21 fl_RX8_179 h_this (nf_8_12 h_this) ?_
    exact go_iret dX8_back_24 ⟨_, rfl, h⟩
  · replace h := gk_ip h c
    refine go_bipush (v := (-3)) dX8_back_7 (by decide) ?_
    exact go_iret dX8_back_9 ⟨_, rfl, h⟩
def w_X8_isSheet (x0 : Int32) (μ : gk_St) (Q : Int32 → gk_St → Prop) : Prop := w_X8_in x0 0 3 μ (fun r2 m1 => (gk_b r2 ∧ Q r2 m1))
set_option maxRecDepth 100000 in
set_option maxHeartbeats 4000000 in
theorem k_X8_isSheet {x0 : Int32} {μ : gk_St} {Q : Int32 → gk_St → Prop} (h : w_X8_isSheet x0 μ Q) : gk_CT yX8_isSheet cX8_isSheet 1 (some .boolean) 1 [.int x0] μ (gk_Qi Q) := by
  unfold w_X8_isSheet at h
  refine gk_enter (by decide) (Nat.le_of_ble_eq_true rfl) ?_
  show Go RX8 cX8_isSheet 1 (some .boolean) 1 0 [(0, .int x0)] [] μ (gk_Qi Q)
  refine go_iload_n 0 dX8_isSheet_0 rfl rfl ?_
  refine go_iconst (v := 0) dX8_isSheet_1 (by decide) ?_
  refine go_iconst (v := 3) dX8_isSheet_2 (by decide) ?_
  refine go_callS (d' := 0) [.int x0, .int 0, .int 3] dX8_isSheet_3 cw_RX8_112 kt_X8_in rfl (Nat.le_of_ble_eq_true rfl) (by decide) (k_X8_in h) (gk_ki (fun r2 m1 h => ?_))
  exact go_zret dX8_isSheet_6 h.1 ⟨_, rfl, h.2⟩
def w_X8_meets (this : Nat) (x1 : Int32) (μ : gk_St) (Q : Int32 → gk_St → Prop) : Prop := (∀ m1 : gk_St, m1 = gk_up μ this 47 x1 → Q (((-10) : Int32) - x1) m1)
set_option maxRecDepth 100000 in
set_option maxHeartbeats 4000000 in
theorem k_X8_meets {this : Nat} {x1 : Int32} {μ : gk_St} {Q : Int32 → gk_St → Prop} (h_this : gk_isO this 8) (h : w_X8_meets this x1 μ Q) : gk_CT yX8_meets cX8_meets 2 (some .int) 0 [.ref this, .int x1] μ (gk_Qi Q) := by
  unfold w_X8_meets at h
  refine gk_enter (by decide) (Nat.le_of_ble_eq_true rfl) ?_
  show Go RX8 cX8_meets 2 (some .int) 0 0 [(0, .ref this), (1, .int x1)] [] μ (gk_Qi Q)
  refine go_aload_n 0 dX8_meets_0 rfl rfl ?_
  refine go_iload_n 1 dX8_meets_1 rfl rfl ?_
  refine gb_putI dX8_meets_2 fp_RX8_345 h_this (nf_8_47 h_this) (fun m1 e => ?_)
  replace h := h m1 e
  refine go_bipush (v := (-10)) dX8_meets_5 (by decide) ?_
  refine go_iload_n 1 dX8_meets_7 rfl rfl ?_
  refine go_isub dX8_meets_8 ?_
  exact go_iret dX8_meets_9 ⟨_, rfl, h⟩
def w_X8_read_l32 (Q : Int32 → gk_St → Prop) (K : Int32 → gk_St → Prop) (this : Nat) : Nat → Int32 → Int32 → Int32 → gk_St → Prop
  | 0, _, _, _, _ => False
  | n + 1, x1, x2, x3, μ => (vp_in x1 (gk_ln (gk_rf this 44)) ∧ (if (μ (gk_rf this 44) x1.toNatClampNeg) ≤ (((3 : Int32) * x2) + 2) then K x2 μ else (vp_in (x3 + ((3 : Int32) * x2)) (gk_ln (gk_rf this 45)) ∧ (vp_in ((x3 + ((3 : Int32) * x2)) + 1) (gk_ln (gk_rf this 45)) ∧ (vp_in ((x3 + ((3 : Int32) * x2)) + 2) (gk_ln (gk_rf this 45)) ∧ w_X8_event this (μ (gk_rf this 45) (Int32.toNatClampNeg (x3 + ((3 : Int32) * x2)))) (μ (gk_rf this 45) (Int32.toNatClampNeg ((x3 + ((3 : Int32) * x2)) + 1))) (μ (gk_rf this 45) (Int32.toNatClampNeg ((x3 + ((3 : Int32) * x2)) + 2))) μ (fun r5 m4 => (if r5 ≤ 0 then K x2 m4 else (∀ v6 : Int32, v6 = x2 + 1 → w_X8_read_l32 Q K this n x1 v6 x3 m4))))))))
set_option maxRecDepth 100000 in
set_option maxHeartbeats 4000000 in
theorem k_X8_read_l32 {Q : Int32 → gk_St → Prop} {K : Int32 → gk_St → Prop} {this : Nat} (h_this : gk_isO this 8) (hK : ∀ (e2 : Int32) (em : gk_St), K e2 em → Go RX8 cX8_read 4 (some .int) 3 93 [(2, .int e2)] [] em (gk_Qi Q)) : ∀ (n : Nat) (x1 : Int32) (x2 : Int32) (x3 : Int32) (μ : gk_St), w_X8_read_l32 Q K this n x1 x2 x3 μ → Go RX8 cX8_read 4 (some .int) 3 32 [(0, .ref this), (1, .int x1), (2, .int x2), (3, .int x3)] [] μ (gk_Qi Q) := by
  intro n
  induction n with
  | zero =>
    intro x1 x2 x3 μ h
    exact False.elim h
  | succ n ih =>
    intro x1 x2 x3 μ h
    unfold w_X8_read_l32 at h
    refine go_iconst (v := 3) dX8_read_32 (by decide) ?_
    refine go_iload_n 2 dX8_read_33 rfl rfl ?_
    refine go_imul dX8_read_34 ?_
    refine go_iconst (v := 2) dX8_read_35 (by decide) ?_
    refine go_iadd dX8_read_36 ?_
    refine go_aload_n 0 dX8_read_37 rfl rfl ?_
    refine go_getR dX8_read_38 fl_RX8_101 h_this (rr_8_44 h_this) ?_
    refine go_iload_n 1 dX8_read_41 rfl rfl ?_
    refine go_iaload dX8_read_42 (rt_8_44 h_this) h.1 ?_
    replace h := h.2
    refine go_icmp_ge 93 dX8_read_43 (by decide) (fun c => ?_) (fun c => ?_)
    · replace h := gk_ip h c
      refine go_lv [2] rfl ?_
      exact hK _ _ h
    · replace h := gk_in h c
      refine go_aload_n 0 dX8_read_46 rfl rfl ?_
      refine go_aload_n 0 dX8_read_47 rfl rfl ?_
      refine go_getR dX8_read_48 fl_RX8_104 h_this (rr_8_45 h_this) ?_
      refine go_iload_n 3 dX8_read_51 rfl rfl ?_
      refine go_iconst (v := 3) dX8_read_52 (by decide) ?_
      refine go_iload_n 2 dX8_read_53 rfl rfl ?_
      refine go_imul dX8_read_54 ?_
      refine go_iadd dX8_read_55 ?_
      refine go_iaload dX8_read_56 (rt_8_45 h_this) h.1 ?_
      replace h := h.2
      refine go_aload_n 0 dX8_read_57 rfl rfl ?_
      refine go_getR dX8_read_58 fl_RX8_104 h_this (rr_8_45 h_this) ?_
      refine go_iload_n 3 dX8_read_61 rfl rfl ?_
      refine go_iconst (v := 3) dX8_read_62 (by decide) ?_
      refine go_iload_n 2 dX8_read_63 rfl rfl ?_
      refine go_imul dX8_read_64 ?_
      refine go_iadd dX8_read_65 ?_
      refine go_iconst (v := 1) dX8_read_66 (by decide) ?_
      refine go_iadd dX8_read_67 ?_
      refine go_iaload dX8_read_68 (rt_8_45 h_this) h.1 ?_
      replace h := h.2
      refine go_aload_n 0 dX8_read_69 rfl rfl ?_
      refine go_getR dX8_read_70 fl_RX8_104 h_this (rr_8_45 h_this) ?_
      refine go_iload_n 3 dX8_read_73 rfl rfl ?_
      refine go_iconst (v := 3) dX8_read_74 (by decide) ?_
      refine go_iload_n 2 dX8_read_75 rfl rfl ?_
      refine go_imul dX8_read_76 ?_
      refine go_iadd dX8_read_77 ?_
      refine go_iconst (v := 2) dX8_read_78 (by decide) ?_
      refine go_iadd dX8_read_79 ?_
      refine go_iaload dX8_read_80 (rt_8_45 h_this) h.1 ?_
      replace h := h.2
      refine go_callV (ci := 8) (d' := 2) [.int (μ (gk_rf this 45) (Int32.toNatClampNeg (x3 + ((3 : Int32) * x2)))), .int (μ (gk_rf this 45) (Int32.toNatClampNeg ((x3 + ((3 : Int32) * x2)) + 1))), .int (μ (gk_rf this 45) (Int32.toNatClampNeg ((x3 + ((3 : Int32) * x2)) + 2)))] dX8_read_81 cw_RX8_188 ki_X8_event ks_X8_event rfl (by decide) h_this rfl (Nat.le_of_ble_eq_true rfl) (by decide) (k_X8_event h_this h) (gk_ki (fun r5 m4 h => ?_))
      refine go_if_le 93 dX8_read_84 (by decide) (fun c => ?_) (fun c => ?_)
      · replace h := gk_ip h c
        refine go_lv [2] rfl ?_
        exact hK _ _ h
      · replace h := gk_in h c
        refine gb_iinc (w := 1) 2 (fun v6 => [(2, .int v6), (0, .ref this), (1, .int x1), (3, .int x3)]) dX8_read_87 rfl (by decide) (by decide) (fun _ => rfl) (fun v6 e => ?_)
        replace h := h v6 e
        refine go_goto 32 dX8_read_90 (by decide) ?_
        refine go_lv [1, 2, 0, 3] rfl ?_
        exact ih _ _ _ _ h
def w_X8_read (this : Nat) (x1 : Int32) (μ : gk_St) (Q : Int32 → gk_St → Prop) : Prop := w_X8_isSheet x1 μ (fun r2 m1 => (if r2 = 0 then Q (-2) m1 else (vp_in x1 (gk_ln (gk_rf this 42)) ∧ (if (m1 (gk_rf this 42) x1.toNatClampNeg) = 0 then w_X8_meets this 1 m1 (fun r10 m9 => Q r10 m9) else (∀ v3 : Int32, v3 = ((60 : Int32) * x1) → (∃ n32 : Nat, w_X8_read_l32 Q (fun y7 m8 => Q y7 m8) this n32 x1 0 v3 m1))))))
set_option maxRecDepth 100000 in
set_option maxHeartbeats 4000000 in
theorem k_X8_read {this : Nat} {x1 : Int32} {μ : gk_St} {Q : Int32 → gk_St → Prop} (h_this : gk_isO this 8) (h : w_X8_read this x1 μ Q) : gk_CT yX8_read cX8_read 4 (some .int) 3 [.ref this, .int x1] μ (gk_Qi Q) := by
  unfold w_X8_read at h
  refine gk_enter (by decide) (Nat.le_of_ble_eq_true rfl) ?_
  show Go RX8 cX8_read 4 (some .int) 3 0 [(0, .ref this), (1, .int x1)] [] μ (gk_Qi Q)
  refine go_iload_n 1 dX8_read_0 rfl rfl ?_
  refine go_callS (d' := 1) [.int x1] dX8_read_1 cw_RX8_182 kt_X8_isSheet rfl (Nat.le_of_ble_eq_true rfl) (by decide) (k_X8_isSheet h) (gk_ki (fun r2 m1 h => ?_))
  refine go_if_ne 10 dX8_read_4 (by decide) (fun c => ?_) (fun c => ?_)
  · replace h := gk_in h c
    refine go_aload_n 0 dX8_read_10 rfl rfl ?_
    refine go_getR dX8_read_11 fl_RX8_94 h_this (rr_8_42 h_this) ?_
    refine go_iload_n 1 dX8_read_14 rfl rfl ?_
    refine go_baload dX8_read_15 (rt_8_42 h_this) h.1 ?_
    replace h := h.2
    refine go_if_ne 25 dX8_read_16 (by decide) (fun c => ?_) (fun c => ?_)
    · replace h := gk_in h c
      refine go_iconst (v := 0) dX8_read_25 (by decide) ?_
      refine go_istore_n [(2, .int 0), (0, .ref this), (1, .int x1)] dX8_read_26 rfl (by decide) rfl ?_
      refine go_bipush (v := 60) dX8_read_27 (by decide) ?_
      refine go_iload_n 2 dX8_read_29 rfl rfl ?_
      refine go_imul dX8_read_30 ?_
      refine gb_istore_n (fun v3 => [(3, .int v3), (2, .int 0), (0, .ref this), (1, .int x1)]) dX8_read_31 rfl (by decide) (fun _ => rfl) (fun v3 e => ?_)
      replace h := h v3 e
      refine go_lv [2, 3, 1, 0] rfl ?_
      obtain ⟨n32, h⟩ := h
      refine k_X8_read_l32 h_this (fun y7 m8 h => ?_) n32 _ _ _ _ h
      refine go_iload_n 0 dX8_read_93 rfl rfl ?_
      exact go_iret dX8_read_94 ⟨_, rfl, h⟩
    · replace h := gk_ip h c
      refine go_aload_n 0 dX8_read_19 rfl rfl ?_
      refine go_iconst (v := 1) dX8_read_20 (by decide) ?_
      refine go_callV (ci := 8) (d' := 0) [.int 1] dX8_read_21 cw_RX8_185 ki_X8_meets ks_X8_meets rfl (by decide) h_this rfl (Nat.le_of_ble_eq_true rfl) (by decide) (k_X8_meets h_this h) (gk_ki (fun r10 m9 h => ?_))
      exact go_iret dX8_read_24 ⟨_, rfl, h⟩
  · replace h := gk_ip h c
    refine go_bipush (v := (-2)) dX8_read_7 (by decide) ?_
    exact go_iret dX8_read_9 ⟨_, rfl, h⟩
def w_X8_asTold_l6 (Q : gk_St → Prop) (K : gk_St → Prop) (this : Nat) : Nat → Int32 → gk_St → Prop
  | 0, _, _ => False
  | n + 1, x1, μ => (if 24 ≤ x1 then K  μ else (vp_in x1 (gk_ln (gk_rf this 11)) ∧ (vp_in x1 (gk_ln (gk_rf this 16)) ∧ (∀ m2 : gk_St, m2 = gk_up μ (gk_rf this 16) x1.toNatClampNeg (μ (gk_rf this 11) x1.toNatClampNeg) → (∀ v3 : Int32, v3 = x1 + 1 → w_X8_asTold_l6 Q K this n v3 m2)))))
set_option maxRecDepth 100000 in
set_option maxHeartbeats 4000000 in
theorem k_X8_asTold_l6 {Q : gk_St → Prop} {K : gk_St → Prop} {this : Nat} (h_this : gk_isO this 8) (hK : ∀ (em : gk_St), K  em → Go RX8 cX8_asTold 2 none 6 30 [(0, .ref this)] [] em (gk_Qv Q)) : ∀ (n : Nat) (x1 : Int32) (μ : gk_St), w_X8_asTold_l6 Q K this n x1 μ → Go RX8 cX8_asTold 2 none 6 6 [(0, .ref this), (1, .int x1)] [] μ (gk_Qv Q) := by
  intro n
  induction n with
  | zero =>
    intro x1 μ h
    exact False.elim h
  | succ n ih =>
    intro x1 μ h
    unfold w_X8_asTold_l6 at h
    refine go_iload_n 1 dX8_asTold_6 rfl rfl ?_
    refine go_bipush (v := 24) dX8_asTold_7 (by decide) ?_
    refine go_icmp_ge 30 dX8_asTold_9 (by decide) (fun c => ?_) (fun c => ?_)
    · replace h := gk_ip h c
      refine go_lv [0] rfl ?_
      exact hK  _ h
    · replace h := gk_in h c
      refine go_aload_n 0 dX8_asTold_12 rfl rfl ?_
      refine go_getR dX8_asTold_13 fl_RX8_46 h_this (rr_8_16 h_this) ?_
      refine go_iload_n 1 dX8_asTold_16 rfl rfl ?_
      refine go_aload_n 0 dX8_asTold_17 rfl rfl ?_
      refine go_getR dX8_asTold_18 fl_RX8_34 h_this (rr_8_11 h_this) ?_
      refine go_iload_n 1 dX8_asTold_21 rfl rfl ?_
      refine go_iaload dX8_asTold_22 (rt_8_11 h_this) h.1 ?_
      replace h := h.2
      refine gb_iastore dX8_asTold_23 (rt_8_16 h_this) h.1 (fun m2 e => ?_)
      replace h := h.2 m2 e
      refine gb_iinc (w := 1) 1 (fun v3 => [(1, .int v3), (0, .ref this)]) dX8_asTold_24 rfl (by decide) (by decide) (fun _ => rfl) (fun v3 e => ?_)
      replace h := h v3 e
      refine go_goto 6 dX8_asTold_27 (by decide) ?_
      refine go_lv [1, 0] rfl ?_
      exact ih _ _ h
def w_X8_asTold (this : Nat) (μ : gk_St) (Q : gk_St → Prop) : Prop := w_X8_reads this μ (fun m1 => (∃ n6 : Nat, w_X8_asTold_l6 Q (fun m4 => (∀ m5 : gk_St, m5 = gk_up m4 this 17 0 → Q m5)) this n6 0 m1))
set_option maxRecDepth 100000 in
set_option maxHeartbeats 4000000 in
theorem k_X8_asTold {this : Nat} {μ : gk_St} {Q : gk_St → Prop} (h_this : gk_isO this 8) (h : w_X8_asTold this μ Q) : gk_CT yX8_asTold cX8_asTold 2 none 6 [.ref this] μ (gk_Qv Q) := by
  unfold w_X8_asTold at h
  refine gk_enter (by decide) (Nat.le_of_ble_eq_true rfl) ?_
  show Go RX8 cX8_asTold 2 none 6 0 [(0, .ref this)] [] μ (gk_Qv Q)
  refine go_aload_n 0 dX8_asTold_0 rfl rfl ?_
  refine go_callV (ci := 8) (d' := 5) [] dX8_asTold_1 cw_RX8_161 ki_X8_reads ks_X8_reads rfl (by decide) h_this rfl (Nat.le_of_ble_eq_true rfl) (by decide) (k_X8_reads h_this h) (gk_kv (fun m1 h => ?_))
  refine go_iconst (v := 0) dX8_asTold_4 (by decide) ?_
  refine go_istore_n [(1, .int 0), (0, .ref this)] dX8_asTold_5 rfl (by decide) rfl ?_
  refine go_lv [1, 0] rfl ?_
  obtain ⟨n6, h⟩ := h
  refine k_X8_asTold_l6 h_this (fun m4 h => ?_) n6 _ _ h
  refine go_aload_n 0 dX8_asTold_30 rfl rfl ?_
  refine go_iconst (v := 0) dX8_asTold_31 (by decide) ?_
  refine gb_putI dX8_asTold_32 fp_RX8_192 h_this (nf_8_17 h_this) (fun m5 e => ?_)
  replace h := h m5 e
  exact go_vret dX8_asTold_35 ⟨rfl, h⟩
def w_X8_befalls_j119 (Q : gk_St → Prop) (K : Int32 → gk_St → Prop) (C : Int32 → Int32 → gk_St → Prop) (this : Nat) (s2 : Nat) (x1 : Int32) (x2 : Int32) (s0 : Int32) (s1 : Int32) (μ : gk_St) : Prop := (∀ m9 : gk_St, m9 = gk_up μ s2 20 (s1 ||| s0) → (∀ v10 : Int32, v10 = x2 + 1 → C x1 v10 m9))
set_option maxRecDepth 100000 in
set_option maxHeartbeats 4000000 in
theorem k_X8_befalls_j119 {Q : gk_St → Prop} {K : Int32 → gk_St → Prop} {C : Int32 → Int32 → gk_St → Prop} {this s2 : Nat} {x1 : Int32} {x2 : Int32} {s0 : Int32} {s1 : Int32} {μ : gk_St} (h_this : gk_isO this 8) (h_s2 : gk_isO s2 8) (hK : ∀ (e1 : Int32) (em : gk_St), K e1 em → Go RX8 cX8_befalls 3 none 1 129 [(0, .ref this), (1, .int e1)] [] em (gk_Qv Q)) (hC : ∀ (c1 : Int32) (c2 : Int32) (cm : gk_St), C c1 c2 cm → Go RX8 cX8_befalls 3 none 1 12 [(0, .ref this), (1, .int c1), (2, .int c2)] [] cm (gk_Qv Q)) (h : w_X8_befalls_j119 Q K C this s2 x1 x2 s0 s1 μ) : Go RX8 cX8_befalls 3 none 1 119 [(0, .ref this), (1, .int x1), (2, .int x2)] [.int s0, .int s1, .ref s2] μ (gk_Qv Q) := by
  unfold w_X8_befalls_j119 at h
  refine go_ior dX8_befalls_119 ?_
  refine gb_putI dX8_befalls_120 fp_RX8_205 h_s2 (nf_8_20 h_s2) (fun m9 e => ?_)
  replace h := h m9 e
  refine gb_iinc (w := 1) 2 (fun v10 => [(2, .int v10), (0, .ref this), (1, .int x1)]) dX8_befalls_123 rfl (by decide) (by decide) (fun _ => rfl) (fun v10 e => ?_)
  replace h := h v10 e
  refine go_goto 12 dX8_befalls_126 (by decide) ?_
  refine go_lv [1, 2, 0] rfl ?_
  exact hC _ _ _ h
def w_X8_befalls_j89 (Q : gk_St → Prop) (K : Int32 → gk_St → Prop) (C : Int32 → Int32 → gk_St → Prop) (this : Nat) (s1 : Nat) (x1 : Int32) (x2 : Int32) (s0 : Int32) (μ : gk_St) : Prop := (gk_b s0 ∧ (∀ m8 : gk_St, m8 = gk_up μ s1 19 s0 → (vp_in x2 (gk_ln (gk_rf this 13)) ∧ (if (m8 (gk_rf this 13) x2.toNatClampNeg) = 2 then (vp_in x2 (gk_ln (gk_rf this 15)) ∧ w_X8_befalls_j119 Q K C this this x1 x2 ((1 : Int32) <<< ((m8 (gk_rf this 15) x2.toNatClampNeg) &&& 31)) (m8 this 20) m8) else w_X8_befalls_j119 Q K C this this x1 x2 0 (m8 this 20) m8))))
set_option maxRecDepth 100000 in
set_option maxHeartbeats 4000000 in
theorem k_X8_befalls_j89 {Q : gk_St → Prop} {K : Int32 → gk_St → Prop} {C : Int32 → Int32 → gk_St → Prop} {this s1 : Nat} {x1 : Int32} {x2 : Int32} {s0 : Int32} {μ : gk_St} (h_this : gk_isO this 8) (h_s1 : gk_isO s1 8) (hK : ∀ (e1 : Int32) (em : gk_St), K e1 em → Go RX8 cX8_befalls 3 none 1 129 [(0, .ref this), (1, .int e1)] [] em (gk_Qv Q)) (hC : ∀ (c1 : Int32) (c2 : Int32) (cm : gk_St), C c1 c2 cm → Go RX8 cX8_befalls 3 none 1 12 [(0, .ref this), (1, .int c1), (2, .int c2)] [] cm (gk_Qv Q)) (h : w_X8_befalls_j89 Q K C this s1 x1 x2 s0 μ) : Go RX8 cX8_befalls 3 none 1 89 [(0, .ref this), (1, .int x1), (2, .int x2)] [.int s0, .ref s1] μ (gk_Qv Q) := by
  unfold w_X8_befalls_j89 at h
  refine gb_putZ dX8_befalls_89 fp_RX8_199 h_s1 (nf_8_19 h_s1) h.1 (fun m8 e => ?_)
  replace h := h.2
  replace h := h m8 e
  refine go_aload_n 0 dX8_befalls_92 rfl rfl ?_
  refine go_dup dX8_befalls_93 rfl ?_
  refine go_getI dX8_befalls_94 fl_RX8_205 h_this (nf_8_20 h_this) ?_
  refine go_aload_n 0 dX8_befalls_97 rfl rfl ?_
  refine go_getR dX8_befalls_98 fl_RX8_37 h_this (rr_8_13 h_this) ?_
  refine go_iload_n 2 dX8_befalls_101 rfl rfl ?_
  refine go_iaload dX8_befalls_102 (rt_8_13 h_this) h.1 ?_
  replace h := h.2
  refine go_iconst (v := 2) dX8_befalls_103 (by decide) ?_
  refine go_icmp_ne 118 dX8_befalls_104 (by decide) (fun c => ?_) (fun c => ?_)
  · replace h := gk_in h c
    refine go_iconst (v := 0) dX8_befalls_118 (by decide) ?_
    exact k_X8_befalls_j119 h_this h_this hK hC h
  · replace h := gk_ip h c
    refine go_iconst (v := 1) dX8_befalls_107 (by decide) ?_
    refine go_aload_n 0 dX8_befalls_108 rfl rfl ?_
    refine go_getR dX8_befalls_109 fl_RX8_43 h_this (rr_8_15 h_this) ?_
    refine go_iload_n 2 dX8_befalls_112 rfl rfl ?_
    refine go_iaload dX8_befalls_113 (rt_8_15 h_this) h.1 ?_
    replace h := h.2
    refine go_ishl dX8_befalls_114 ?_
    refine go_goto 119 dX8_befalls_115 (by decide) ?_
    exact k_X8_befalls_j119 h_this h_this hK hC h
def w_X8_befalls_j84 (Q : gk_St → Prop) (K : Int32 → gk_St → Prop) (C : Int32 → Int32 → gk_St → Prop) (this : Nat) (s0 : Nat) (x1 : Int32) (x2 : Int32) (μ : gk_St) : Prop := w_X8_befalls_j89 Q K C this s0 x1 x2 1 μ
set_option maxRecDepth 100000 in
set_option maxHeartbeats 4000000 in
theorem k_X8_befalls_j84 {Q : gk_St → Prop} {K : Int32 → gk_St → Prop} {C : Int32 → Int32 → gk_St → Prop} {this s0 : Nat} {x1 : Int32} {x2 : Int32} {μ : gk_St} (h_this : gk_isO this 8) (h_s0 : gk_isO s0 8) (hK : ∀ (e1 : Int32) (em : gk_St), K e1 em → Go RX8 cX8_befalls 3 none 1 129 [(0, .ref this), (1, .int e1)] [] em (gk_Qv Q)) (hC : ∀ (c1 : Int32) (c2 : Int32) (cm : gk_St), C c1 c2 cm → Go RX8 cX8_befalls 3 none 1 12 [(0, .ref this), (1, .int c1), (2, .int c2)] [] cm (gk_Qv Q)) (h : w_X8_befalls_j84 Q K C this s0 x1 x2 μ) : Go RX8 cX8_befalls 3 none 1 84 [(0, .ref this), (1, .int x1), (2, .int x2)] [.ref s0] μ (gk_Qv Q) := by
  unfold w_X8_befalls_j84 at h
  refine go_iconst (v := 1) dX8_befalls_84 (by decide) ?_
  refine go_goto 89 dX8_befalls_85 (by decide) ?_
  exact k_X8_befalls_j89 h_this h_s0 hK hC h
def w_X8_befalls_j63 (Q : gk_St → Prop) (K : Int32 → gk_St → Prop) (C : Int32 → Int32 → gk_St → Prop) (this : Nat) (s1 : Nat) (x1 : Int32) (x2 : Int32) (s0 : Int32) (μ : gk_St) : Prop := (gk_b s0 ∧ (∀ m7 : gk_St, m7 = gk_up μ s1 18 s0 → (if (m7 this 19) = 0 then (vp_in x2 (gk_ln (gk_rf this 13)) ∧ (if (m7 (gk_rf this 13) x2.toNatClampNeg) = 1 then w_X8_befalls_j84 Q K C this this x1 x2 m7 else w_X8_befalls_j89 Q K C this this x1 x2 0 m7)) else w_X8_befalls_j84 Q K C this this x1 x2 m7)))
set_option maxRecDepth 100000 in
set_option maxHeartbeats 4000000 in
theorem k_X8_befalls_j63 {Q : gk_St → Prop} {K : Int32 → gk_St → Prop} {C : Int32 → Int32 → gk_St → Prop} {this s1 : Nat} {x1 : Int32} {x2 : Int32} {s0 : Int32} {μ : gk_St} (h_this : gk_isO this 8) (h_s1 : gk_isO s1 8) (hK : ∀ (e1 : Int32) (em : gk_St), K e1 em → Go RX8 cX8_befalls 3 none 1 129 [(0, .ref this), (1, .int e1)] [] em (gk_Qv Q)) (hC : ∀ (c1 : Int32) (c2 : Int32) (cm : gk_St), C c1 c2 cm → Go RX8 cX8_befalls 3 none 1 12 [(0, .ref this), (1, .int c1), (2, .int c2)] [] cm (gk_Qv Q)) (h : w_X8_befalls_j63 Q K C this s1 x1 x2 s0 μ) : Go RX8 cX8_befalls 3 none 1 63 [(0, .ref this), (1, .int x1), (2, .int x2)] [.int s0, .ref s1] μ (gk_Qv Q) := by
  unfold w_X8_befalls_j63 at h
  refine gb_putZ dX8_befalls_63 fp_RX8_195 h_s1 (nf_8_18 h_s1) h.1 (fun m7 e => ?_)
  replace h := h.2
  replace h := h m7 e
  refine go_aload_n 0 dX8_befalls_66 rfl rfl ?_
  refine go_aload_n 0 dX8_befalls_67 rfl rfl ?_
  refine go_getI dX8_befalls_68 fl_RX8_199 h_this (nf_8_19 h_this) ?_
  refine go_if_ne 84 dX8_befalls_71 (by decide) (fun c => ?_) (fun c => ?_)
  · replace h := gk_in h c
    exact k_X8_befalls_j84 h_this h_this hK hC h
  · replace h := gk_ip h c
    refine go_aload_n 0 dX8_befalls_74 rfl rfl ?_
    refine go_getR dX8_befalls_75 fl_RX8_37 h_this (rr_8_13 h_this) ?_
    refine go_iload_n 2 dX8_befalls_78 rfl rfl ?_
    refine go_iaload dX8_befalls_79 (rt_8_13 h_this) h.1 ?_
    replace h := h.2
    refine go_iconst (v := 1) dX8_befalls_80 (by decide) ?_
    refine go_icmp_ne 88 dX8_befalls_81 (by decide) (fun c => ?_) (fun c => ?_)
    · replace h := gk_in h c
      refine go_iconst (v := 0) dX8_befalls_88 (by decide) ?_
      exact k_X8_befalls_j89 h_this h_this hK hC h
    · replace h := gk_ip h c
      exact k_X8_befalls_j84 h_this h_this hK hC h
def w_X8_befalls_j58 (Q : gk_St → Prop) (K : Int32 → gk_St → Prop) (C : Int32 → Int32 → gk_St → Prop) (this : Nat) (s0 : Nat) (x1 : Int32) (x2 : Int32) (μ : gk_St) : Prop := w_X8_befalls_j63 Q K C this s0 x1 x2 1 μ
set_option maxRecDepth 100000 in
set_option maxHeartbeats 4000000 in
theorem k_X8_befalls_j58 {Q : gk_St → Prop} {K : Int32 → gk_St → Prop} {C : Int32 → Int32 → gk_St → Prop} {this s0 : Nat} {x1 : Int32} {x2 : Int32} {μ : gk_St} (h_this : gk_isO this 8) (h_s0 : gk_isO s0 8) (hK : ∀ (e1 : Int32) (em : gk_St), K e1 em → Go RX8 cX8_befalls 3 none 1 129 [(0, .ref this), (1, .int e1)] [] em (gk_Qv Q)) (hC : ∀ (c1 : Int32) (c2 : Int32) (cm : gk_St), C c1 c2 cm → Go RX8 cX8_befalls 3 none 1 12 [(0, .ref this), (1, .int c1), (2, .int c2)] [] cm (gk_Qv Q)) (h : w_X8_befalls_j58 Q K C this s0 x1 x2 μ) : Go RX8 cX8_befalls 3 none 1 58 [(0, .ref this), (1, .int x1), (2, .int x2)] [.ref s0] μ (gk_Qv Q) := by
  unfold w_X8_befalls_j58 at h
  refine go_iconst (v := 1) dX8_befalls_58 (by decide) ?_
  refine go_goto 63 dX8_befalls_59 (by decide) ?_
  exact k_X8_befalls_j63 h_this h_s0 hK hC h
def w_X8_befalls_l12 (Q : gk_St → Prop) (K : Int32 → gk_St → Prop) (this : Nat) : Nat → Int32 → Int32 → gk_St → Prop
  | 0, _, _, _ => False
  | n + 1, x1, x2, μ => (if (μ this 12) ≤ x2 then K x1 μ else (vp_in x2 (gk_ln (gk_rf this 14)) ∧ (if (μ (gk_rf this 14) x2.toNatClampNeg) = x1 then w_X8_isIn (μ this 17) x2 μ (fun r5 m4 => (if r5 = 0 then (if (m4 this 18) = 0 then (vp_in x2 (gk_ln (gk_rf this 13)) ∧ (if (m4 (gk_rf this 13) x2.toNatClampNeg) = 0 then w_X8_befalls_j58 Q K (fun c_x1 c_x2 cm => w_X8_befalls_l12 Q K this n c_x1 c_x2 cm) this this x1 x2 m4 else w_X8_befalls_j63 Q K (fun c_x1 c_x2 cm => w_X8_befalls_l12 Q K this n c_x1 c_x2 cm) this this x1 x2 0 m4)) else w_X8_befalls_j58 Q K (fun c_x1 c_x2 cm => w_X8_befalls_l12 Q K this n c_x1 c_x2 cm) this this x1 x2 m4) else (∀ v6 : Int32, v6 = x2 + 1 → w_X8_befalls_l12 Q K this n x1 v6 m4))) else (∀ v3 : Int32, v3 = x2 + 1 → w_X8_befalls_l12 Q K this n x1 v3 μ))))
set_option maxRecDepth 100000 in
set_option maxHeartbeats 4000000 in
theorem k_X8_befalls_l12 {Q : gk_St → Prop} {K : Int32 → gk_St → Prop} {this : Nat} (h_this : gk_isO this 8) (hK : ∀ (e1 : Int32) (em : gk_St), K e1 em → Go RX8 cX8_befalls 3 none 1 129 [(0, .ref this), (1, .int e1)] [] em (gk_Qv Q)) : ∀ (n : Nat) (x1 : Int32) (x2 : Int32) (μ : gk_St), w_X8_befalls_l12 Q K this n x1 x2 μ → Go RX8 cX8_befalls 3 none 1 12 [(0, .ref this), (1, .int x1), (2, .int x2)] [] μ (gk_Qv Q) := by
  intro n
  induction n with
  | zero =>
    intro x1 x2 μ h
    exact False.elim h
  | succ n ih =>
    intro x1 x2 μ h
    unfold w_X8_befalls_l12 at h
    refine go_iload_n 2 dX8_befalls_12 rfl rfl ?_
    refine go_aload_n 0 dX8_befalls_13 rfl rfl ?_
    refine go_getI dX8_befalls_14 fl_RX8_179 h_this (nf_8_12 h_this) ?_
    refine go_icmp_ge 129 dX8_befalls_17 (by decide) (fun c => ?_) (fun c => ?_)
    · replace h := gk_ip h c
      refine go_lv [0, 1] rfl ?_
      exact hK _ _ h
    · replace h := gk_in h c
      refine go_aload_n 0 dX8_befalls_20 rfl rfl ?_
      refine go_getR dX8_befalls_21 fl_RX8_40 h_this (rr_8_14 h_this) ?_
      refine go_iload_n 2 dX8_befalls_24 rfl rfl ?_
      refine go_iaload dX8_befalls_25 (rt_8_14 h_this) h.1 ?_
      replace h := h.2
      refine go_iload_n 1 dX8_befalls_26 rfl rfl ?_
      refine go_icmp_ne 123 dX8_befalls_27 (by decide) (fun c => ?_) (fun c => ?_)
      · replace h := gk_in h c
        refine gb_iinc (w := 1) 2 (fun v3 => [(2, .int v3), (0, .ref this), (1, .int x1)]) dX8_befalls_123 rfl (by decide) (by decide) (fun _ => rfl) (fun v3 e => ?_)
        replace h := h v3 e
        refine go_goto 12 dX8_befalls_126 (by decide) ?_
        refine go_lv [1, 2, 0] rfl ?_
        exact ih _ _ _ h
      · replace h := gk_ip h c
        refine go_aload_n 0 dX8_befalls_30 rfl rfl ?_
        refine go_getI dX8_befalls_31 fl_RX8_192 h_this (nf_8_17 h_this) ?_
        refine go_iload_n 2 dX8_befalls_34 rfl rfl ?_
        refine go_callS (d' := 0) [.int (μ this 17), .int x2] dX8_befalls_35 cw_RX8_202 kt_X8_isIn rfl (Nat.le_of_ble_eq_true rfl) (by decide) (k_X8_isIn h) (gk_ki (fun r5 m4 h => ?_))
        refine go_if_ne 123 dX8_befalls_38 (by decide) (fun c => ?_) (fun c => ?_)
        · replace h := gk_in h c
          refine gb_iinc (w := 1) 2 (fun v6 => [(2, .int v6), (0, .ref this), (1, .int x1)]) dX8_befalls_123 rfl (by decide) (by decide) (fun _ => rfl) (fun v6 e => ?_)
          replace h := h v6 e
          refine go_goto 12 dX8_befalls_126 (by decide) ?_
          refine go_lv [1, 2, 0] rfl ?_
          exact ih _ _ _ h
        · replace h := gk_ip h c
          refine go_aload_n 0 dX8_befalls_41 rfl rfl ?_
          refine go_aload_n 0 dX8_befalls_42 rfl rfl ?_
          refine go_getI dX8_befalls_43 fl_RX8_195 h_this (nf_8_18 h_this) ?_
          refine go_if_ne 58 dX8_befalls_46 (by decide) (fun c => ?_) (fun c => ?_)
          · replace h := gk_in h c
            exact k_X8_befalls_j58 h_this h_this hK (fun _ _ _ h => ih _ _ _ h) h
          · replace h := gk_ip h c
            refine go_aload_n 0 dX8_befalls_49 rfl rfl ?_
            refine go_getR dX8_befalls_50 fl_RX8_37 h_this (rr_8_13 h_this) ?_
            refine go_iload_n 2 dX8_befalls_53 rfl rfl ?_
            refine go_iaload dX8_befalls_54 (rt_8_13 h_this) h.1 ?_
            replace h := h.2
            refine go_if_ne 62 dX8_befalls_55 (by decide) (fun c => ?_) (fun c => ?_)
            · replace h := gk_in h c
              refine go_iconst (v := 0) dX8_befalls_62 (by decide) ?_
              exact k_X8_befalls_j63 h_this h_this hK (fun _ _ _ h => ih _ _ _ h) h
            · replace h := gk_ip h c
              exact k_X8_befalls_j58 h_this h_this hK (fun _ _ _ h => ih _ _ _ h) h
def w_X8_befalls_j171 (Q : gk_St → Prop) (K : gk_St → Prop) (C : Int32 → Int32 → gk_St → Prop) (this : Nat) (s3 : Nat) (x1 : Int32) (x2 : Int32) (s0 : Int32) (s1 : Int32) (s2 : Int32) (μ : gk_St) : Prop := (vp_in s2 (gk_ln s3) ∧ (∀ m13 : gk_St, m13 = gk_up μ s3 s2.toNatClampNeg (s1 + s0) → (∀ v14 : Int32, v14 = x2 + 1 → C x1 v14 m13)))
set_option maxRecDepth 100000 in
set_option maxHeartbeats 4000000 in
theorem k_X8_befalls_j171 {Q : gk_St → Prop} {K : gk_St → Prop} {C : Int32 → Int32 → gk_St → Prop} {this s3 : Nat} {x1 : Int32} {x2 : Int32} {s0 : Int32} {s1 : Int32} {s2 : Int32} {μ : gk_St} (h_this : gk_isO this 8) (h_s3 : gk_isO s3 100) (hK : ∀ (em : gk_St), K  em → Go RX8 cX8_befalls 3 none 1 179 [] [] em (gk_Qv Q)) (hC : ∀ (c1 : Int32) (c2 : Int32) (cm : gk_St), C c1 c2 cm → Go RX8 cX8_befalls 3 none 1 131 [(0, .ref this), (1, .int c1), (2, .int c2)] [] cm (gk_Qv Q)) (h : w_X8_befalls_j171 Q K C this s3 x1 x2 s0 s1 s2 μ) : Go RX8 cX8_befalls 3 none 1 171 [(0, .ref this), (1, .int x1), (2, .int x2)] [.int s0, .int s1, .int s2, .ref s3] μ (gk_Qv Q) := by
  unfold w_X8_befalls_j171 at h
  refine go_iadd dX8_befalls_171 ?_
  refine gb_iastore dX8_befalls_172 h_s3 h.1 (fun m13 e => ?_)
  replace h := h.2 m13 e
  refine gb_iinc (w := 1) 2 (fun v14 => [(2, .int v14), (0, .ref this), (1, .int x1)]) dX8_befalls_173 rfl (by decide) (by decide) (fun _ => rfl) (fun v14 e => ?_)
  replace h := h v14 e
  refine go_goto 131 dX8_befalls_176 (by decide) ?_
  refine go_lv [1, 2, 0] rfl ?_
  exact hC _ _ _ h
def w_X8_befalls_l131 (Q : gk_St → Prop) (K : gk_St → Prop) (this : Nat) : Nat → Int32 → Int32 → gk_St → Prop
  | 0, _, _, _ => False
  | n + 1, x1, x2, μ => (if (μ this 6) ≤ x2 then K  μ else (vp_in x2 (gk_ln (gk_rf this 8)) ∧ (vp_in (μ (gk_rf this 8) x2.toNatClampNeg) (gk_ln (gk_rf this 25)) ∧ (vp_in x2 (gk_ln (gk_rf this 7)) ∧ (if (μ (gk_rf this 7) x2.toNatClampNeg) = x1 then (vp_in x2 (gk_ln (gk_rf this 9)) ∧ w_X8_befalls_j171 Q K (fun c_x1 c_x2 cm => w_X8_befalls_l131 Q K this n c_x1 c_x2 cm) this (gk_rf this 25) x1 x2 (μ (gk_rf this 9) x2.toNatClampNeg) (μ (gk_rf this 25) (Int32.toNatClampNeg (μ (gk_rf this 8) x2.toNatClampNeg))) (μ (gk_rf this 8) x2.toNatClampNeg) μ) else w_X8_befalls_j171 Q K (fun c_x1 c_x2 cm => w_X8_befalls_l131 Q K this n c_x1 c_x2 cm) this (gk_rf this 25) x1 x2 0 (μ (gk_rf this 25) (Int32.toNatClampNeg (μ (gk_rf this 8) x2.toNatClampNeg))) (μ (gk_rf this 8) x2.toNatClampNeg) μ)))))
set_option maxRecDepth 100000 in
set_option maxHeartbeats 4000000 in
theorem k_X8_befalls_l131 {Q : gk_St → Prop} {K : gk_St → Prop} {this : Nat} (h_this : gk_isO this 8) (hK : ∀ (em : gk_St), K  em → Go RX8 cX8_befalls 3 none 1 179 [] [] em (gk_Qv Q)) : ∀ (n : Nat) (x1 : Int32) (x2 : Int32) (μ : gk_St), w_X8_befalls_l131 Q K this n x1 x2 μ → Go RX8 cX8_befalls 3 none 1 131 [(0, .ref this), (1, .int x1), (2, .int x2)] [] μ (gk_Qv Q) := by
  intro n
  induction n with
  | zero =>
    intro x1 x2 μ h
    exact False.elim h
  | succ n ih =>
    intro x1 x2 μ h
    unfold w_X8_befalls_l131 at h
    refine go_iload_n 2 dX8_befalls_131 rfl rfl ?_
    refine go_aload_n 0 dX8_befalls_132 rfl rfl ?_
    refine go_getI dX8_befalls_133 fl_RX8_139 h_this (nf_8_6 h_this) ?_
    refine go_icmp_ge 179 dX8_befalls_136 (by decide) (fun c => ?_) (fun c => ?_)
    · replace h := gk_ip h c
      refine go_lv [] rfl ?_
      exact hK  _ h
    · replace h := gk_in h c
      refine go_aload_n 0 dX8_befalls_139 rfl rfl ?_
      refine go_getR dX8_befalls_140 fl_RX8_58 h_this (rr_8_25 h_this) ?_
      refine go_aload_n 0 dX8_befalls_143 rfl rfl ?_
      refine go_getR dX8_befalls_144 fl_RX8_28 h_this (rr_8_8 h_this) ?_
      refine go_iload_n 2 dX8_befalls_147 rfl rfl ?_
      refine go_iaload dX8_befalls_148 (rt_8_8 h_this) h.1 ?_
      replace h := h.2
      refine go_dup2 dX8_befalls_149 rfl rfl ?_
      refine go_iaload dX8_befalls_150 (rt_8_25 h_this) h.1 ?_
      replace h := h.2
      refine go_aload_n 0 dX8_befalls_151 rfl rfl ?_
      refine go_getR dX8_befalls_152 fl_RX8_25 h_this (rr_8_7 h_this) ?_
      refine go_iload_n 2 dX8_befalls_155 rfl rfl ?_
      refine go_iaload dX8_befalls_156 (rt_8_7 h_this) h.1 ?_
      replace h := h.2
      refine go_iload_n 1 dX8_befalls_157 rfl rfl ?_
      refine go_icmp_ne 170 dX8_befalls_158 (by decide) (fun c => ?_) (fun c => ?_)
      · replace h := gk_in h c
        refine go_iconst (v := 0) dX8_befalls_170 (by decide) ?_
        exact k_X8_befalls_j171 h_this (rt_8_25 h_this) hK (fun _ _ _ h => ih _ _ _ h) h
      · replace h := gk_ip h c
        refine go_aload_n 0 dX8_befalls_161 rfl rfl ?_
        refine go_getR dX8_befalls_162 fl_RX8_31 h_this (rr_8_9 h_this) ?_
        refine go_iload_n 2 dX8_befalls_165 rfl rfl ?_
        refine go_iaload dX8_befalls_166 (rt_8_9 h_this) h.1 ?_
        replace h := h.2
        refine go_goto 171 dX8_befalls_167 (by decide) ?_
        exact k_X8_befalls_j171 h_this (rt_8_25 h_this) hK (fun _ _ _ h => ih _ _ _ h) h
def w_X8_befalls (this : Nat) (x1 : Int32) (μ : gk_St) (Q : gk_St → Prop) : Prop := (∀ m1 : gk_St, m1 = gk_up μ this 18 0 → (∀ m2 : gk_St, m2 = gk_up m1 this 19 0 → (∃ n12 : Nat, w_X8_befalls_l12 Q (fun y11 m12 => (∃ n131 : Nat, w_X8_befalls_l131 Q (fun m15 => Q m15) this n131 y11 0 m12)) this n12 x1 0 m2)))
set_option maxRecDepth 100000 in
set_option maxHeartbeats 4000000 in
theorem k_X8_befalls {this : Nat} {x1 : Int32} {μ : gk_St} {Q : gk_St → Prop} (h_this : gk_isO this 8) (h : w_X8_befalls this x1 μ Q) : gk_CT yX8_befalls cX8_befalls 3 none 1 [.ref this, .int x1] μ (gk_Qv Q) := by
  unfold w_X8_befalls at h
  refine gk_enter (by decide) (Nat.le_of_ble_eq_true rfl) ?_
  show Go RX8 cX8_befalls 3 none 1 0 [(0, .ref this), (1, .int x1)] [] μ (gk_Qv Q)
  refine go_aload_n 0 dX8_befalls_0 rfl rfl ?_
  refine go_iconst (v := 0) dX8_befalls_1 (by decide) ?_
  refine gb_putZ dX8_befalls_2 fp_RX8_195 h_this (nf_8_18 h_this) (Or.inl rfl) (fun m1 e => ?_)
  replace h := h m1 e
  refine go_aload_n 0 dX8_befalls_5 rfl rfl ?_
  refine go_iconst (v := 0) dX8_befalls_6 (by decide) ?_
  refine gb_putZ dX8_befalls_7 fp_RX8_199 h_this (nf_8_19 h_this) (Or.inl rfl) (fun m2 e => ?_)
  replace h := h m2 e
  refine go_iconst (v := 0) dX8_befalls_10 (by decide) ?_
  refine go_istore_n [(2, .int 0), (0, .ref this), (1, .int x1)] dX8_befalls_11 rfl (by decide) rfl ?_
  refine go_lv [1, 2, 0] rfl ?_
  obtain ⟨n12, h⟩ := h
  refine k_X8_befalls_l12 h_this (fun y11 m12 h => ?_) n12 _ _ _ h
  refine go_iconst (v := 0) dX8_befalls_129 (by decide) ?_
  refine go_istore_n [(2, .int 0), (0, .ref this), (1, .int y11)] dX8_befalls_130 rfl (by decide) rfl ?_
  refine go_lv [1, 2, 0] rfl ?_
  obtain ⟨n131, h⟩ := h
  refine k_X8_befalls_l131 h_this (fun m15 h => ?_) n131 _ _ _ h
  exact go_vret dX8_befalls_179 ⟨rfl, h⟩
def w_X8_getsOut_j59 (Q : gk_St → Prop) (this : Nat) (x1 : Int32) (x3 : Int32) (μ : gk_St) : Prop := (vp_in x3 (gk_ln (gk_rf this 26)) ∧ (vp_in x1 (gk_ln (gk_rf this 22)) ∧ (vp_in x3 (gk_ln (gk_rf this 26)) ∧ (∀ m2 : gk_St, m2 = gk_up μ (gk_rf this 26) x3.toNatClampNeg ((μ (gk_rf this 26) x3.toNatClampNeg) + (μ (gk_rf this 22) x1.toNatClampNeg)) → (vp_in x1 (gk_ln (gk_rf this 23)) ∧ (vp_in x1 (gk_ln (gk_rf this 22)) ∧ (vp_in x1 (gk_ln (gk_rf this 23)) ∧ (∀ m3 : gk_St, m3 = gk_up m2 (gk_rf this 23) x1.toNatClampNeg ((m2 (gk_rf this 23) x1.toNatClampNeg) + (m2 (gk_rf this 22) x1.toNatClampNeg)) → (vp_in x1 (gk_ln (gk_rf this 22)) ∧ (∀ m4 : gk_St, m4 = gk_up m3 (gk_rf this 22) x1.toNatClampNeg 0 → Q m4))))))))))
set_option maxRecDepth 100000 in
set_option maxHeartbeats 4000000 in
theorem k_X8_getsOut_j59 {Q : gk_St → Prop} {this : Nat} {x1 : Int32} {x3 : Int32} {μ : gk_St} (h_this : gk_isO this 8) (h : w_X8_getsOut_j59 Q this x1 x3 μ) : Go RX8 cX8_getsOut 4 none 0 59 [(0, .ref this), (1, .int x1), (3, .int x3)] [] μ (gk_Qv Q) := by
  unfold w_X8_getsOut_j59 at h
  refine go_aload_n 0 dX8_getsOut_59 rfl rfl ?_
  refine go_getR dX8_getsOut_60 fl_RX8_61 h_this (rr_8_26 h_this) ?_
  refine go_iload_n 2 dX8_getsOut_63 rfl rfl ?_
  refine go_dup2 dX8_getsOut_64 rfl rfl ?_
  refine go_iaload dX8_getsOut_65 (rt_8_26 h_this) h.1 ?_
  replace h := h.2
  refine go_aload_n 0 dX8_getsOut_66 rfl rfl ?_
  refine go_getR dX8_getsOut_67 fl_RX8_52 h_this (rr_8_22 h_this) ?_
  refine go_iload_n 1 dX8_getsOut_70 rfl rfl ?_
  refine go_iaload dX8_getsOut_71 (rt_8_22 h_this) h.1 ?_
  replace h := h.2
  refine go_iadd dX8_getsOut_72 ?_
  refine gb_iastore dX8_getsOut_73 (rt_8_26 h_this) h.1 (fun m2 e => ?_)
  replace h := h.2 m2 e
  refine go_aload_n 0 dX8_getsOut_74 rfl rfl ?_
  refine go_getR dX8_getsOut_75 fl_RX8_55 h_this (rr_8_23 h_this) ?_
  refine go_iload_n 1 dX8_getsOut_78 rfl rfl ?_
  refine go_dup2 dX8_getsOut_79 rfl rfl ?_
  refine go_iaload dX8_getsOut_80 (rt_8_23 h_this) h.1 ?_
  replace h := h.2
  refine go_aload_n 0 dX8_getsOut_81 rfl rfl ?_
  refine go_getR dX8_getsOut_82 fl_RX8_52 h_this (rr_8_22 h_this) ?_
  refine go_iload_n 1 dX8_getsOut_85 rfl rfl ?_
  refine go_iaload dX8_getsOut_86 (rt_8_22 h_this) h.1 ?_
  replace h := h.2
  refine go_iadd dX8_getsOut_87 ?_
  refine gb_iastore dX8_getsOut_88 (rt_8_23 h_this) h.1 (fun m3 e => ?_)
  replace h := h.2 m3 e
  refine go_aload_n 0 dX8_getsOut_89 rfl rfl ?_
  refine go_getR dX8_getsOut_90 fl_RX8_52 h_this (rr_8_22 h_this) ?_
  refine go_iload_n 1 dX8_getsOut_93 rfl rfl ?_
  refine go_iconst (v := 0) dX8_getsOut_94 (by decide) ?_
  refine gb_iastore dX8_getsOut_95 (rt_8_22 h_this) h.1 (fun m4 e => ?_)
  replace h := h.2 m4 e
  exact go_vret dX8_getsOut_96 ⟨rfl, h⟩
def w_X8_getsOut_j56 (Q : gk_St → Prop) (this : Nat) (s1 : Nat) (x1 : Int32) (x3 : Int32) (s0 : Int32) (μ : gk_St) : Prop := (∀ m6 : gk_St, m6 = gk_up μ s1 29 s0 → w_X8_getsOut_j59 Q this x1 x3 m6)
set_option maxRecDepth 100000 in
set_option maxHeartbeats 4000000 in
theorem k_X8_getsOut_j56 {Q : gk_St → Prop} {this s1 : Nat} {x1 : Int32} {x3 : Int32} {s0 : Int32} {μ : gk_St} (h_this : gk_isO this 8) (h_s1 : gk_isO s1 8) (h : w_X8_getsOut_j56 Q this s1 x1 x3 s0 μ) : Go RX8 cX8_getsOut 4 none 0 56 [(0, .ref this), (1, .int x1), (3, .int x3)] [.int s0, .ref s1] μ (gk_Qv Q) := by
  unfold w_X8_getsOut_j56 at h
  refine gb_putI dX8_getsOut_56 fp_RX8_208 h_s1 (nf_8_29 h_s1) (fun m6 e => ?_)
  replace h := h m6 e
  exact k_X8_getsOut_j59 h_this h
def w_X8_getsOut_j36 (Q : gk_St → Prop) (this : Nat) (s1 : Nat) (x1 : Int32) (x2 : Int32) (x3 : Int32) (s0 : Int32) (μ : gk_St) : Prop := (∀ m5 : gk_St, m5 = gk_up μ s1 30 s0 → (if (m5 this 29) = (-1) then w_X8_getsOut_j56 Q this this x1 x3 x2 m5 else w_X8_getsOut_j56 Q this this x1 x3 (m5 this 29) m5))
set_option maxRecDepth 100000 in
set_option maxHeartbeats 4000000 in
theorem k_X8_getsOut_j36 {Q : gk_St → Prop} {this s1 : Nat} {x1 : Int32} {x2 : Int32} {x3 : Int32} {s0 : Int32} {μ : gk_St} (h_this : gk_isO this 8) (h_s1 : gk_isO s1 8) (h : w_X8_getsOut_j36 Q this s1 x1 x2 x3 s0 μ) : Go RX8 cX8_getsOut 4 none 0 36 [(0, .ref this), (1, .int x1), (2, .int x2), (3, .int x3)] [.int s0, .ref s1] μ (gk_Qv Q) := by
  unfold w_X8_getsOut_j36 at h
  refine gb_putI dX8_getsOut_36 fp_RX8_211 h_s1 (nf_8_30 h_s1) (fun m5 e => ?_)
  replace h := h m5 e
  refine go_aload_n 0 dX8_getsOut_39 rfl rfl ?_
  refine go_aload_n 0 dX8_getsOut_40 rfl rfl ?_
  refine go_getI dX8_getsOut_41 fl_RX8_208 h_this (nf_8_29 h_this) ?_
  refine go_iconst (v := (-1)) dX8_getsOut_44 (by decide) ?_
  refine go_icmp_ne 52 dX8_getsOut_45 (by decide) (fun c => ?_) (fun c => ?_)
  · replace h := gk_in h c
    refine go_aload_n 0 dX8_getsOut_52 rfl rfl ?_
    refine go_getI dX8_getsOut_53 fl_RX8_208 h_this (nf_8_29 h_this) ?_
    refine go_lv [0, 1, 3] rfl ?_
    exact k_X8_getsOut_j56 h_this h_this h
  · replace h := gk_ip h c
    refine go_iload_n 2 dX8_getsOut_48 rfl rfl ?_
    refine go_goto 56 dX8_getsOut_49 (by decide) ?_
    refine go_lv [0, 1, 3] rfl ?_
    exact k_X8_getsOut_j56 h_this h_this h
def w_X8_getsOut (this : Nat) (x1 : Int32) (x2 : Int32) (μ : gk_St) (Q : gk_St → Prop) : Prop := (vp_in x1 (gk_ln (gk_rf this 21)) ∧ (∀ v1 : Int32, v1 = ((μ (gk_rf this 21) x1.toNatClampNeg) / 12) → (vp_in x1 (gk_ln (gk_rf this 22)) ∧ (if (μ (gk_rf this 22) x1.toNatClampNeg) ≤ 0 then w_X8_getsOut_j59 Q this x1 v1 μ else (if (μ this 29) = (-1) then w_X8_getsOut_j36 Q this this x1 x2 v1 x1 μ else w_X8_getsOut_j36 Q this this x1 x2 v1 (μ this 30) μ)))))
set_option maxRecDepth 100000 in
set_option maxHeartbeats 4000000 in
theorem k_X8_getsOut {this : Nat} {x1 : Int32} {x2 : Int32} {μ : gk_St} {Q : gk_St → Prop} (h_this : gk_isO this 8) (h : w_X8_getsOut this x1 x2 μ Q) : gk_CT yX8_getsOut cX8_getsOut 4 none 0 [.ref this, .int x1, .int x2] μ (gk_Qv Q) := by
  unfold w_X8_getsOut at h
  refine gk_enter (by decide) (Nat.le_of_ble_eq_true rfl) ?_
  show Go RX8 cX8_getsOut 4 none 0 0 [(0, .ref this), (1, .int x1), (2, .int x2)] [] μ (gk_Qv Q)
  refine go_aload_n 0 dX8_getsOut_0 rfl rfl ?_
  refine go_getR dX8_getsOut_1 fl_RX8_49 h_this (rr_8_21 h_this) ?_
  refine go_iload_n 1 dX8_getsOut_4 rfl rfl ?_
  refine go_iaload dX8_getsOut_5 (rt_8_21 h_this) h.1 ?_
  replace h := h.2
  refine go_bipush (v := 12) dX8_getsOut_6 (by decide) ?_
  refine go_idiv dX8_getsOut_8 (by decide) ?_
  refine gb_istore_n (fun v1 => [(3, .int v1), (0, .ref this), (1, .int x1), (2, .int x2)]) dX8_getsOut_9 rfl (by decide) (fun _ => rfl) (fun v1 e => ?_)
  replace h := h v1 e
  refine go_aload_n 1 dX8_getsOut_10 rfl rfl ?_
  refine go_getR dX8_getsOut_11 fl_RX8_52 h_this (rr_8_22 h_this) ?_
  refine go_iload_n 2 dX8_getsOut_14 rfl rfl ?_
  refine go_iaload dX8_getsOut_15 (rt_8_22 h_this) h.1 ?_
  replace h := h.2
  refine go_if_le 59 dX8_getsOut_16 (by decide) (fun c => ?_) (fun c => ?_)
  · replace h := gk_ip h c
    refine go_lv [1, 2, 0] rfl ?_
    exact k_X8_getsOut_j59 h_this h
  · replace h := gk_in h c
    refine go_aload_n 1 dX8_getsOut_19 rfl rfl ?_
    refine go_aload_n 1 dX8_getsOut_20 rfl rfl ?_
    refine go_getI dX8_getsOut_21 fl_RX8_208 h_this (nf_8_29 h_this) ?_
    refine go_iconst (v := (-1)) dX8_getsOut_24 (by decide) ?_
    refine go_icmp_ne 32 dX8_getsOut_25 (by decide) (fun c => ?_) (fun c => ?_)
    · replace h := gk_in h c
      refine go_aload_n 1 dX8_getsOut_32 rfl rfl ?_
      refine go_getI dX8_getsOut_33 fl_RX8_211 h_this (nf_8_30 h_this) ?_
      refine go_lv [1, 2, 3, 0] rfl ?_
      exact k_X8_getsOut_j36 h_this h_this h
    · replace h := gk_ip h c
      refine go_iload_n 2 dX8_getsOut_28 rfl rfl ?_
      refine go_goto 36 dX8_getsOut_29 (by decide) ?_
      refine go_lv [1, 2, 3, 0] rfl ?_
      exact k_X8_getsOut_j36 h_this h_this h
def w_X8_getsIn_j65 (Q : gk_St → Prop) (this : Nat) (x1 : Int32) (x2 : Int32) (s0 : Int32) (μ : gk_St) : Prop := (vp_in x1 (gk_ln (gk_rf this 22)) ∧ (vp_in x1 (gk_ln (gk_rf this 22)) ∧ (∀ m3 : gk_St, m3 = gk_up μ (gk_rf this 22) x1.toNatClampNeg ((μ (gk_rf this 22) x1.toNatClampNeg) + s0) → (vp_in x2 (gk_ln (gk_rf this 25)) ∧ (vp_in x2 (gk_ln (gk_rf this 25)) ∧ (∀ m4 : gk_St, m4 = gk_up m3 (gk_rf this 25) x2.toNatClampNeg ((m3 (gk_rf this 25) x2.toNatClampNeg) - s0) → (if s0 ≤ 0 then (∀ m5 : gk_St, m5 = gk_up m4 this 24 ((m4 this 24) ||| 0) → Q m5) else (∀ m6 : gk_St, m6 = gk_up m4 this 24 ((m4 this 24) ||| ((1 : Int32) <<< (x1 &&& 31))) → Q m6))))))))
set_option maxRecDepth 100000 in
set_option maxHeartbeats 4000000 in
theorem k_X8_getsIn_j65 {Q : gk_St → Prop} {this : Nat} {x1 : Int32} {x2 : Int32} {s0 : Int32} {μ : gk_St} (h_this : gk_isO this 8) (h : w_X8_getsIn_j65 Q this x1 x2 s0 μ) : Go RX8 cX8_getsIn 5 none 0 65 [(0, .ref this), (1, .int x1), (2, .int x2)] [.int s0] μ (gk_Qv Q) := by
  unfold w_X8_getsIn_j65 at h
  refine go_istore [(4, .int s0), (0, .ref this), (1, .int x1), (2, .int x2)] dX8_getsIn_65 (by decide) rfl ?_
  refine go_aload_n 1 dX8_getsIn_67 rfl rfl ?_
  refine go_getR dX8_getsIn_68 fl_RX8_52 h_this (rr_8_22 h_this) ?_
  refine go_iload_n 2 dX8_getsIn_71 rfl rfl ?_
  refine go_dup2 dX8_getsIn_72 rfl rfl ?_
  refine go_iaload dX8_getsIn_73 (rt_8_22 h_this) h.1 ?_
  replace h := h.2
  refine go_iload 0 dX8_getsIn_74 rfl ?_
  refine go_iadd dX8_getsIn_76 ?_
  refine gb_iastore dX8_getsIn_77 (rt_8_22 h_this) h.1 (fun m3 e => ?_)
  replace h := h.2 m3 e
  refine go_aload_n 1 dX8_getsIn_78 rfl rfl ?_
  refine go_getR dX8_getsIn_79 fl_RX8_58 h_this (rr_8_25 h_this) ?_
  refine go_iload_n 3 dX8_getsIn_82 rfl rfl ?_
  refine go_dup2 dX8_getsIn_83 rfl rfl ?_
  refine go_iaload dX8_getsIn_84 (rt_8_25 h_this) h.1 ?_
  replace h := h.2
  refine go_iload 0 dX8_getsIn_85 rfl ?_
  refine go_isub dX8_getsIn_87 ?_
  refine gb_iastore dX8_getsIn_88 (rt_8_25 h_this) h.1 (fun m4 e => ?_)
  replace h := h.2 m4 e
  refine go_aload_n 1 dX8_getsIn_89 rfl rfl ?_
  refine go_dup dX8_getsIn_90 rfl ?_
  refine go_getI dX8_getsIn_91 fl_RX8_214 h_this (nf_8_24 h_this) ?_
  refine go_iload 0 dX8_getsIn_94 rfl ?_
  refine go_if_le 105 dX8_getsIn_96 (by decide) (fun c => ?_) (fun c => ?_)
  · replace h := gk_ip h c
    refine go_iconst (v := 0) dX8_getsIn_105 (by decide) ?_
    refine go_ior dX8_getsIn_106 ?_
    refine gb_putI dX8_getsIn_107 fp_RX8_214 h_this (nf_8_24 h_this) (fun m5 e => ?_)
    replace h := h m5 e
    exact go_vret dX8_getsIn_110 ⟨rfl, h⟩
  · replace h := gk_in h c
    refine go_iconst (v := 1) dX8_getsIn_99 (by decide) ?_
    refine go_iload_n 2 dX8_getsIn_100 rfl rfl ?_
    refine go_ishl dX8_getsIn_101 ?_
    refine go_goto 106 dX8_getsIn_102 (by decide) ?_
    refine go_ior dX8_getsIn_106 ?_
    refine gb_putI dX8_getsIn_107 fp_RX8_214 h_this (nf_8_24 h_this) (fun m6 e => ?_)
    replace h := h m6 e
    exact go_vret dX8_getsIn_110 ⟨rfl, h⟩
def w_X8_getsIn_j37 (Q : gk_St → Prop) (this : Nat) (x1 : Int32) (x2 : Int32) (s0 : Int32) (μ : gk_St) : Prop := (vp_in x1 (gk_ln (gk_rf this 22)) ∧ (∀ v2 : Int32, v2 = (s0 - (μ (gk_rf this 22) x1.toNatClampNeg)) → (vp_in x2 (gk_ln (gk_rf this 25)) ∧ (if v2 ≤ (μ (gk_rf this 25) x2.toNatClampNeg) then w_X8_getsIn_j65 Q this x1 x2 v2 μ else (vp_in x2 (gk_ln (gk_rf this 25)) ∧ w_X8_getsIn_j65 Q this x1 x2 (μ (gk_rf this 25) x2.toNatClampNeg) μ)))))
set_option maxRecDepth 100000 in
set_option maxHeartbeats 4000000 in
theorem k_X8_getsIn_j37 {Q : gk_St → Prop} {this : Nat} {x1 : Int32} {x2 : Int32} {s0 : Int32} {μ : gk_St} (h_this : gk_isO this 8) (h : w_X8_getsIn_j37 Q this x1 x2 s0 μ) : Go RX8 cX8_getsIn 5 none 0 37 [(0, .ref this), (1, .int x1), (2, .int x2)] [.int s0] μ (gk_Qv Q) := by
  unfold w_X8_getsIn_j37 at h
  refine go_aload_n 0 dX8_getsIn_37 rfl rfl ?_
  refine go_getR dX8_getsIn_38 fl_RX8_52 h_this (rr_8_22 h_this) ?_
  refine go_iload_n 1 dX8_getsIn_41 rfl rfl ?_
  refine go_iaload dX8_getsIn_42 (rt_8_22 h_this) h.1 ?_
  replace h := h.2
  refine go_isub dX8_getsIn_43 ?_
  refine gb_istore_n (fun v2 => [(3, .int v2), (0, .ref this), (1, .int x1), (2, .int x2)]) dX8_getsIn_44 rfl (by decide) (fun _ => rfl) (fun v2 e => ?_)
  replace h := h v2 e
  refine go_aload_n 1 dX8_getsIn_45 rfl rfl ?_
  refine go_getR dX8_getsIn_46 fl_RX8_58 h_this (rr_8_25 h_this) ?_
  refine go_iload_n 3 dX8_getsIn_49 rfl rfl ?_
  refine go_iaload dX8_getsIn_50 (rt_8_25 h_this) h.1 ?_
  replace h := h.2
  refine go_iload_n 0 dX8_getsIn_51 rfl rfl ?_
  refine go_icmp_ge 64 dX8_getsIn_52 (by decide) (fun c => ?_) (fun c => ?_)
  · replace h := gk_ip h c
    refine go_iload_n 0 dX8_getsIn_64 rfl rfl ?_
    refine go_lv [1, 2, 3] rfl ?_
    exact k_X8_getsIn_j65 h_this h
  · replace h := gk_in h c
    refine go_aload_n 1 dX8_getsIn_55 rfl rfl ?_
    refine go_getR dX8_getsIn_56 fl_RX8_58 h_this (rr_8_25 h_this) ?_
    refine go_iload_n 3 dX8_getsIn_59 rfl rfl ?_
    refine go_iaload dX8_getsIn_60 (rt_8_25 h_this) h.1 ?_
    replace h := h.2
    refine go_goto 65 dX8_getsIn_61 (by decide) ?_
    refine go_lv [1, 2, 3] rfl ?_
    exact k_X8_getsIn_j65 h_this h
def w_X8_getsIn (this : Nat) (x1 : Int32) (μ : gk_St) (Q : gk_St → Prop) : Prop := (vp_in x1 (gk_ln (gk_rf this 21)) ∧ (∀ v1 : Int32, v1 = ((μ (gk_rf this 21) x1.toNatClampNeg) / 12) → (vp_in x1 (gk_ln (gk_rf this 4)) ∧ (if (μ (gk_rf this 4) x1.toNatClampNeg) = 2 then (vp_in x1 (gk_ln (gk_rf this 5)) ∧ w_X8_getsIn_j37 Q this x1 v1 ((μ (gk_rf this 5) x1.toNatClampNeg) / 2) μ) else (vp_in x1 (gk_ln (gk_rf this 5)) ∧ w_X8_getsIn_j37 Q this x1 v1 (μ (gk_rf this 5) x1.toNatClampNeg) μ)))))
set_option maxRecDepth 100000 in
set_option maxHeartbeats 4000000 in
theorem k_X8_getsIn {this : Nat} {x1 : Int32} {μ : gk_St} {Q : gk_St → Prop} (h_this : gk_isO this 8) (h : w_X8_getsIn this x1 μ Q) : gk_CT yX8_getsIn cX8_getsIn 5 none 0 [.ref this, .int x1] μ (gk_Qv Q) := by
  unfold w_X8_getsIn at h
  refine gk_enter (by decide) (Nat.le_of_ble_eq_true rfl) ?_
  show Go RX8 cX8_getsIn 5 none 0 0 [(0, .ref this), (1, .int x1)] [] μ (gk_Qv Q)
  refine go_aload_n 0 dX8_getsIn_0 rfl rfl ?_
  refine go_getR dX8_getsIn_1 fl_RX8_49 h_this (rr_8_21 h_this) ?_
  refine go_iload_n 1 dX8_getsIn_4 rfl rfl ?_
  refine go_iaload dX8_getsIn_5 (rt_8_21 h_this) h.1 ?_
  replace h := h.2
  refine go_bipush (v := 12) dX8_getsIn_6 (by decide) ?_
  refine go_idiv dX8_getsIn_8 (by decide) ?_
  refine gb_istore_n (fun v1 => [(2, .int v1), (0, .ref this), (1, .int x1)]) dX8_getsIn_9 rfl (by decide) (fun _ => rfl) (fun v1 e => ?_)
  replace h := h v1 e
  refine go_aload_n 1 dX8_getsIn_10 rfl rfl ?_
  refine go_getR dX8_getsIn_11 fl_RX8_19 h_this (rr_8_4 h_this) ?_
  refine go_iload_n 2 dX8_getsIn_14 rfl rfl ?_
  refine go_iaload dX8_getsIn_15 (rt_8_4 h_this) h.1 ?_
  replace h := h.2
  refine go_iconst (v := 2) dX8_getsIn_16 (by decide) ?_
  refine go_icmp_ne 31 dX8_getsIn_17 (by decide) (fun c => ?_) (fun c => ?_)
  · replace h := gk_in h c
    refine go_aload_n 1 dX8_getsIn_31 rfl rfl ?_
    refine go_getR dX8_getsIn_32 fl_RX8_22 h_this (rr_8_5 h_this) ?_
    refine go_iload_n 2 dX8_getsIn_35 rfl rfl ?_
    refine go_iaload dX8_getsIn_36 (rt_8_5 h_this) h.1 ?_
    replace h := h.2
    refine go_lv [1, 2, 0] rfl ?_
    exact k_X8_getsIn_j37 h_this h
  · replace h := gk_ip h c
    refine go_aload_n 1 dX8_getsIn_20 rfl rfl ?_
    refine go_getR dX8_getsIn_21 fl_RX8_22 h_this (rr_8_5 h_this) ?_
    refine go_iload_n 2 dX8_getsIn_24 rfl rfl ?_
    refine go_iaload dX8_getsIn_25 (rt_8_5 h_this) h.1 ?_
    replace h := h.2
    refine go_iconst (v := 2) dX8_getsIn_26 (by decide) ?_
    refine go_idiv dX8_getsIn_27 (by decide) ?_
    refine go_goto 37 dX8_getsIn_28 (by decide) ?_
    refine go_lv [1, 2, 0] rfl ?_
    exact k_X8_getsIn_j37 h_this h
