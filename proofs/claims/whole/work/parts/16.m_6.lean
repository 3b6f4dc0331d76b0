def w_X8_servesAll_j71 (Q : gk_St → Prop) (K : gk_St → Prop) (C : Int32 → Int32 → Int32 → gk_St → Prop) (this : Nat) (x1 : Int32) (x2 : Int32) (x3 : Int32) (x4 : Int32) (μ : gk_St) : Prop := (if x4 = 0 then (∀ v1 : Int32, v1 = x3 + 1 → C x1 x2 v1 μ) else w_X8_getsIn this x3 μ (fun m2 => (∀ v3 : Int32, v3 = x3 + 1 → C x1 x2 v3 m2)))
set_option maxRecDepth 100000 in
set_option maxHeartbeats 4000000 in
theorem k_X8_servesAll_j71 {Q : gk_St → Prop} {K : gk_St → Prop} {C : Int32 → Int32 → Int32 → gk_St → Prop} {this : Nat} {x1 : Int32} {x2 : Int32} {x3 : Int32} {x4 : Int32} {μ : gk_St} (h_this : gk_isO this 8) (hK : ∀ (em : gk_St), K  em → Go RX8 cX8_servesAll 5 none 1 87 [] [] em (gk_Qv Q)) (hC : ∀ (c1 : Int32) (c2 : Int32) (c3 : Int32) (cm : gk_St), C c1 c2 c3 cm → Go RX8 cX8_servesAll 5 none 1 2 [(0, .ref this), (1, .int c1), (2, .int c2), (3, .int c3)] [] cm (gk_Qv Q)) (h : w_X8_servesAll_j71 Q K C this x1 x2 x3 x4 μ) : Go RX8 cX8_servesAll 5 none 1 71 [(0, .ref this), (1, .int x1), (2, .int x2), (3, .int x3), (4, .int x4)] [] μ (gk_Qv Q) := by
  unfold w_X8_servesAll_j71 at h
  refine go_iload 4 dX8_servesAll_71 rfl ?_
  refine go_if_eq 81 dX8_servesAll_73 (by decide) (fun c => ?_) (fun c => ?_)
  · replace h := gk_ip h c
    refine gb_iinc (w := 1) 3 (fun v1 => [(3, .int v1), (0, .ref this), (1, .int x1), (2, .int x2), (4, .int x4)]) dX8_servesAll_81 rfl (by decide) (by decide) (fun _ => rfl) (fun v1 e => ?_)
    replace h := h v1 e
    refine go_goto 2 dX8_servesAll_84 (by decide) ?_
    refine go_lv [1, 2, 3, 0] rfl ?_
    exact hC _ _ _ _ h
  · replace h := gk_in h c
    refine go_aload_n 0 dX8_servesAll_76 rfl rfl ?_
    refine go_iload_n 3 dX8_servesAll_77 rfl rfl ?_
    refine go_callV (ci := 8) (d' := 0) [.int x3] dX8_servesAll_78 cw_RX8_221 ki_X8_getsIn ks_X8_getsIn rfl (by decide) h_this rfl (Nat.le_of_ble_eq_true rfl) (by decide) (k_X8_getsIn h_this h) (gk_kv (fun m2 h => ?_))
    refine gb_iinc (w := 1) 3 (fun v3 => [(3, .int v3), (0, .ref this), (1, .int x1), (2, .int x2), (4, .int x4)]) dX8_servesAll_81 rfl (by decide) (by decide) (fun _ => rfl) (fun v3 e => ?_)
    replace h := h v3 e
    refine go_goto 2 dX8_servesAll_84 (by decide) ?_
    refine go_lv [1, 2, 3, 0] rfl ?_
    exact hC _ _ _ _ h
def w_X8_servesAll_j54 (Q : gk_St → Prop) (K : gk_St → Prop) (C : Int32 → Int32 → Int32 → gk_St → Prop) (this : Nat) (x1 : Int32) (x2 : Int32) (x3 : Int32) (s0 : Int32) (μ : gk_St) : Prop := (if s0 = 0 then w_X8_servesAll_j71 Q K C this x1 x2 x3 s0 μ else (if x2 = 0 then w_X8_servesAll_j71 Q K C this x1 x2 x3 s0 μ else w_X8_getsOut this x3 x1 μ (fun m4 => w_X8_servesAll_j71 Q K C this x1 x2 x3 s0 m4)))
set_option maxRecDepth 100000 in
set_option maxHeartbeats 4000000 in
theorem k_X8_servesAll_j54 {Q : gk_St → Prop} {K : gk_St → Prop} {C : Int32 → Int32 → Int32 → gk_St → Prop} {this : Nat} {x1 : Int32} {x2 : Int32} {x3 : Int32} {s0 : Int32} {μ : gk_St} (h_this : gk_isO this 8) (hK : ∀ (em : gk_St), K  em → Go RX8 cX8_servesAll 5 none 1 87 [] [] em (gk_Qv Q)) (hC : ∀ (c1 : Int32) (c2 : Int32) (c3 : Int32) (cm : gk_St), C c1 c2 c3 cm → Go RX8 cX8_servesAll 5 none 1 2 [(0, .ref this), (1, .int c1), (2, .int c2), (3, .int c3)] [] cm (gk_Qv Q)) (h : w_X8_servesAll_j54 Q K C this x1 x2 x3 s0 μ) : Go RX8 cX8_servesAll 5 none 1 54 [(0, .ref this), (1, .int x1), (2, .int x2), (3, .int x3)] [.int s0] μ (gk_Qv Q) := by
  unfold w_X8_servesAll_j54 at h
  refine go_istore [(4, .int s0), (0, .ref this), (1, .int x1), (2, .int x2), (3, .int x3)] dX8_servesAll_54 (by decide) rfl ?_
  refine go_iload 0 dX8_servesAll_56 rfl ?_
  refine go_if_eq 71 dX8_servesAll_58 (by decide) (fun c => ?_) (fun c => ?_)
  · replace h := gk_ip h c
    refine go_lv [1, 2, 3, 4, 0] rfl ?_
    exact k_X8_servesAll_j71 h_this hK hC h
  · replace h := gk_in h c
    refine go_iload_n 3 dX8_servesAll_61 rfl rfl ?_
    refine go_if_eq 71 dX8_servesAll_62 (by decide) (fun c => ?_) (fun c => ?_)
    · replace h := gk_ip h c
      refine go_lv [1, 2, 3, 4, 0] rfl ?_
      exact k_X8_servesAll_j71 h_this hK hC h
    · replace h := gk_in h c
      refine go_aload_n 1 dX8_servesAll_65 rfl rfl ?_
      refine go_iload_n 4 dX8_servesAll_66 rfl rfl ?_
      refine go_iload_n 2 dX8_servesAll_67 rfl rfl ?_
      refine go_callV (ci := 8) (d' := 0) [.int x3, .int x1] dX8_servesAll_68 cw_RX8_217 ki_X8_getsOut ks_X8_getsOut rfl (by decide) h_this rfl (Nat.le_of_ble_eq_true rfl) (by decide) (k_X8_getsOut h_this h) (gk_kv (fun m4 h => ?_))
      refine go_lv [1, 2, 3, 4, 0] rfl ?_
      exact k_X8_servesAll_j71 h_this hK hC h
def w_X8_servesAll_j53 (Q : gk_St → Prop) (K : gk_St → Prop) (C : Int32 → Int32 → Int32 → gk_St → Prop) (this : Nat) (x1 : Int32) (x2 : Int32) (x3 : Int32) (μ : gk_St) : Prop := w_X8_servesAll_j54 Q K C this x1 x2 x3 0 μ
set_option maxRecDepth 100000 in
set_option maxHeartbeats 4000000 in
theorem k_X8_servesAll_j53 {Q : gk_St → Prop} {K : gk_St → Prop} {C : Int32 → Int32 → Int32 → gk_St → Prop} {this : Nat} {x1 : Int32} {x2 : Int32} {x3 : Int32} {μ : gk_St} (h_this : gk_isO this 8) (hK : ∀ (em : gk_St), K  em → Go RX8 cX8_servesAll 5 none 1 87 [] [] em (gk_Qv Q)) (hC : ∀ (c1 : Int32) (c2 : Int32) (c3 : Int32) (cm : gk_St), C c1 c2 c3 cm → Go RX8 cX8_servesAll 5 none 1 2 [(0, .ref this), (1, .int c1), (2, .int c2), (3, .int c3)] [] cm (gk_Qv Q)) (h : w_X8_servesAll_j53 Q K C this x1 x2 x3 μ) : Go RX8 cX8_servesAll 5 none 1 53 [(0, .ref this), (1, .int x1), (2, .int x2), (3, .int x3)] [] μ (gk_Qv Q) := by
  unfold w_X8_servesAll_j53 at h
  refine go_iconst (v := 0) dX8_servesAll_53 (by decide) ?_
  exact k_X8_servesAll_j54 h_this hK hC h
def w_X8_servesAll_j49 (Q : gk_St → Prop) (K : gk_St → Prop) (C : Int32 → Int32 → Int32 → gk_St → Prop) (this : Nat) (x1 : Int32) (x2 : Int32) (x3 : Int32) (μ : gk_St) : Prop := w_X8_servesAll_j54 Q K C this x1 x2 x3 1 μ
set_option maxRecDepth 100000 in
set_option maxHeartbeats 4000000 in
theorem k_X8_servesAll_j49 {Q : gk_St → Prop} {K : gk_St → Prop} {C : Int32 → Int32 → Int32 → gk_St → Prop} {this : Nat} {x1 : Int32} {x2 : Int32} {x3 : Int32} {μ : gk_St} (h_this : gk_isO this 8) (hK : ∀ (em : gk_St), K  em → Go RX8 cX8_servesAll 5 none 1 87 [] [] em (gk_Qv Q)) (hC : ∀ (c1 : Int32) (c2 : Int32) (c3 : Int32) (cm : gk_St), C c1 c2 c3 cm → Go RX8 cX8_servesAll 5 none 1 2 [(0, .ref this), (1, .int c1), (2, .int c2), (3, .int c3)] [] cm (gk_Qv Q)) (h : w_X8_servesAll_j49 Q K C this x1 x2 x3 μ) : Go RX8 cX8_servesAll 5 none 1 49 [(0, .ref this), (1, .int x1), (2, .int x2), (3, .int x3)] [] μ (gk_Qv Q) := by
  unfold w_X8_servesAll_j49 at h
  refine go_iconst (v := 1) dX8_servesAll_49 (by decide) ?_
  refine go_goto 54 dX8_servesAll_50 (by decide) ?_
  exact k_X8_servesAll_j54 h_this hK hC h
def w_X8_servesAll_l2 (Q : gk_St → Prop) (K : gk_St → Prop) (this : Nat) : Nat → Int32 → Int32 → Int32 → gk_St → Prop
  | 0, _, _, _, _ => False
  | n + 1, x1, x2, x3, μ => (if (μ this 2) ≤ x3 then K  μ else (vp_in x3 (gk_ln (gk_rf this 21)) ∧ (if (gk_md (μ (gk_rf this 21) x3.toNatClampNeg) 12) = 0 then w_X8_isIn (μ this 20) x3 μ (fun r6 m5 => (if r6 = 0 then (if (m5 this 18) = 0 then w_X8_servesAll_j49 Q K (fun c_x1 c_x2 c_x3 cm => w_X8_servesAll_l2 Q K this n c_x1 c_x2 c_x3 cm) this x1 x2 x3 m5 else (vp_in x3 (gk_ln (gk_rf this 4)) ∧ (if (m5 (gk_rf this 4) x3.toNatClampNeg) = 0 then w_X8_servesAll_j53 Q K (fun c_x1 c_x2 c_x3 cm => w_X8_servesAll_l2 Q K this n c_x1 c_x2 c_x3 cm) this x1 x2 x3 m5 else w_X8_servesAll_j49 Q K (fun c_x1 c_x2 c_x3 cm => w_X8_servesAll_l2 Q K this n c_x1 c_x2 c_x3 cm) this x1 x2 x3 m5))) else w_X8_servesAll_j53 Q K (fun c_x1 c_x2 c_x3 cm => w_X8_servesAll_l2 Q K this n c_x1 c_x2 c_x3 cm) this x1 x2 x3 m5)) else w_X8_servesAll_j53 Q K (fun c_x1 c_x2 c_x3 cm => w_X8_servesAll_l2 Q K this n c_x1 c_x2 c_x3 cm) this x1 x2 x3 μ)))
set_option maxRecDepth 100000 in
set_option maxHeartbeats 4000000 in
theorem k_X8_servesAll_l2 {Q : gk_St → Prop} {K : gk_St → Prop} {this : Nat} (h_this : gk_isO this 8) (hK : ∀ (em : gk_St), K  em → Go RX8 cX8_servesAll 5 none 1 87 [] [] em (gk_Qv Q)) : ∀ (n : Nat) (x1 : Int32) (x2 : Int32) (x3 : Int32) (μ : gk_St), w_X8_servesAll_l2 Q K this n x1 x2 x3 μ → Go RX8 cX8_servesAll 5 none 1 2 [(0, .ref this), (1, .int x1), (2, .int x2), (3, .int x3)] [] μ (gk_Qv Q) := by
  intro n
  induction n with
  | zero =>
    intro x1 x2 x3 μ h
    exact False.elim h
  | succ n ih =>
    intro x1 x2 x3 μ h
    unfold w_X8_servesAll_l2 at h
    refine go_iload_n 3 dX8_servesAll_2 rfl rfl ?_
    refine go_aload_n 0 dX8_servesAll_3 rfl rfl ?_
    refine go_getI dX8_servesAll_4 fl_RX8_135 h_this (nf_8_2 h_this) ?_
    refine go_icmp_ge 87 dX8_servesAll_7 (by decide) (fun c => ?_) (fun c => ?_)
    · replace h := gk_ip h c
      refine go_lv [] rfl ?_
      exact hK  _ h
    · replace h := gk_in h c
      refine go_aload_n 0 dX8_servesAll_10 rfl rfl ?_
      refine go_getR dX8_servesAll_11 fl_RX8_49 h_this (rr_8_21 h_this) ?_
      refine go_iload_n 3 dX8_servesAll_14 rfl rfl ?_
      refine go_iaload dX8_servesAll_15 (rt_8_21 h_this) h.1 ?_
      replace h := h.2
      refine go_bipush (v := 12) dX8_servesAll_16 (by decide) ?_
      refine gb_irem dX8_servesAll_18 (by decide) ?_
      refine go_if_ne 53 dX8_servesAll_19 (by decide) (fun c => ?_) (fun c => ?_)
      · replace h := gk_in h c
        exact k_X8_servesAll_j53 h_this hK (fun _ _ _ _ h => ih _ _ _ _ h) h
      · replace h := gk_ip h c
        refine go_aload_n 0 dX8_servesAll_22 rfl rfl ?_
        refine go_getI dX8_servesAll_23 fl_RX8_205 h_this (nf_8_20 h_this) ?_
        refine go_iload_n 3 dX8_servesAll_26 rfl rfl ?_
        refine go_callS (d' := 0) [.int (μ this 20), .int x3] dX8_servesAll_27 cw_RX8_202 kt_X8_isIn rfl (Nat.le_of_ble_eq_true rfl) (by decide) (k_X8_isIn h) (gk_ki (fun r6 m5 h => ?_))
        refine go_if_ne 53 dX8_servesAll_30 (by decide) (fun c => ?_) (fun c => ?_)
        · replace h := gk_in h c
          exact k_X8_servesAll_j53 h_this hK (fun _ _ _ _ h => ih _ _ _ _ h) h
        · replace h := gk_ip h c
          refine go_aload_n 0 dX8_servesAll_33 rfl rfl ?_
          refine go_getI dX8_servesAll_34 fl_RX8_195 h_this (nf_8_18 h_this) ?_
          refine go_if_eq 49 dX8_servesAll_37 (by decide) (fun c => ?_) (fun c => ?_)
          · replace h := gk_ip h c
            exact k_X8_servesAll_j49 h_this hK (fun _ _ _ _ h => ih _ _ _ _ h) h
          · replace h := gk_in h c
            refine go_aload_n 0 dX8_servesAll_40 rfl rfl ?_
            refine go_getR dX8_servesAll_41 fl_RX8_19 h_this (rr_8_4 h_this) ?_
            refine go_iload_n 3 dX8_servesAll_44 rfl rfl ?_
            refine go_iaload dX8_servesAll_45 (rt_8_4 h_this) h.1 ?_
            replace h := h.2
            refine go_if_eq 53 dX8_servesAll_46 (by decide) (fun c => ?_) (fun c => ?_)
            · replace h := gk_ip h c
              exact k_X8_servesAll_j53 h_this hK (fun _ _ _ _ h => ih _ _ _ _ h) h
            · replace h := gk_in h c
              exact k_X8_servesAll_j49 h_this hK (fun _ _ _ _ h => ih _ _ _ _ h) h
def w_X8_servesAll (this : Nat) (x1 : Int32) (x2 : Int32) (μ : gk_St) (Q : gk_St → Prop) : Prop := (∃ n2 : Nat, w_X8_servesAll_l2 Q (fun m7 => Q m7) this n2 x1 x2 0 μ)
set_option maxRecDepth 100000 in
set_option maxHeartbeats 4000000 in
theorem k_X8_servesAll {this : Nat} {x1 : Int32} {x2 : Int32} {μ : gk_St} {Q : gk_St → Prop} (h_this : gk_isO this 8) (h : w_X8_servesAll this x1 x2 μ Q) : gk_CT yX8_servesAll cX8_servesAll 5 none 1 [.ref this, .int x1, .int x2] μ (gk_Qv Q) := by
  unfold w_X8_servesAll at h
  refine gk_enter (by decide) (Nat.le_of_ble_eq_true rfl) ?_
  show Go RX8 cX8_servesAll 5 none 1 0 [(0, .ref this), (1, .int x1), (2, .int x2)] [] μ (gk_Qv Q)
  refine go_iconst (v := 0) dX8_servesAll_0 (by decide) ?_
  refine go_istore_n [(3, .int 0), (0, .ref this), (1, .int x1), (2, .int x2)] dX8_servesAll_1 rfl (by decide) rfl ?_
  refine go_lv [1, 2, 3, 0] rfl ?_
  obtain ⟨n2, h⟩ := h
  refine k_X8_servesAll_l2 h_this (fun m7 h => ?_) n2 _ _ _ _ h
  exact go_vret dX8_servesAll_87 ⟨rfl, h⟩
def w_X8_goesOn_j40 (Q : gk_St → Prop) (K : Int32 → gk_St → Prop) (C : Int32 → Int32 → gk_St → Prop) (this : Nat) (x2 : Int32) (s0 : Int32) (s1 : Int32) (μ : gk_St) : Prop := (∀ v1 : Int32, v1 = (s1 + s0) → (vp_in x2 (gk_ln (gk_rf this 21)) ∧ (vp_in x2 (gk_ln (gk_rf this 21)) ∧ (∀ m2 : gk_St, m2 = gk_up μ (gk_rf this 21) x2.toNatClampNeg (gk_md ((μ (gk_rf this 21) x2.toNatClampNeg) + 1) 24) → (∀ v3 : Int32, v3 = x2 + 1 → C v1 v3 m2)))))
set_option maxRecDepth 100000 in
set_option maxHeartbeats 4000000 in
theorem k_X8_goesOn_j40 {Q : gk_St → Prop} {K : Int32 → gk_St → Prop} {C : Int32 → Int32 → gk_St → Prop} {this : Nat} {x2 : Int32} {s0 : Int32} {s1 : Int32} {μ : gk_St} (h_this : gk_isO this 8) (hK : ∀ (e1 : Int32) (em : gk_St), K e1 em → Go RX8 cX8_goesOn 3 none 0 65 [(0, .ref this), (1, .int e1)] [] em (gk_Qv Q)) (hC : ∀ (c1 : Int32) (c2 : Int32) (cm : gk_St), C c1 c2 cm → Go RX8 cX8_goesOn 3 none 0 4 [(0, .ref this), (1, .int c1), (2, .int c2)] [] cm (gk_Qv Q)) (h : w_X8_goesOn_j40 Q K C this x2 s0 s1 μ) : Go RX8 cX8_goesOn 3 none 0 40 [(0, .ref this), (2, .int x2)] [.int s0, .int s1] μ (gk_Qv Q) := by
  unfold w_X8_goesOn_j40 at h
  refine go_iadd dX8_goesOn_40 ?_
  refine gb_istore_n (fun v1 => [(1, .int v1), (0, .ref this), (2, .int x2)]) dX8_goesOn_41 rfl (by decide) (fun _ => rfl) (fun v1 e => ?_)
  replace h := h v1 e
  refine go_aload_n 1 dX8_goesOn_42 rfl rfl ?_
  refine go_getR dX8_goesOn_43 fl_RX8_49 h_this (rr_8_21 h_this) ?_
  refine go_iload_n 2 dX8_goesOn_46 rfl rfl ?_
  refine go_aload_n 1 dX8_goesOn_47 rfl rfl ?_
  refine go_getR dX8_goesOn_48 fl_RX8_49 h_this (rr_8_21 h_this) ?_
  refine go_iload_n 2 dX8_goesOn_51 rfl rfl ?_
  refine go_iaload dX8_goesOn_52 (rt_8_21 h_this) h.1 ?_
  replace h := h.2
  refine go_iconst (v := 1) dX8_goesOn_53 (by decide) ?_
  refine go_iadd dX8_goesOn_54 ?_
  refine go_bipush (v := 24) dX8_goesOn_55 (by decide) ?_
  refine gb_irem dX8_goesOn_57 (by decide) ?_
  refine gb_iastore dX8_goesOn_58 (rt_8_21 h_this) h.1 (fun m2 e => ?_)
  replace h := h.2 m2 e
  refine gb_iinc (w := 1) 2 (fun v3 => [(2, .int v3), (1, .int v1), (0, .ref this)]) dX8_goesOn_59 rfl (by decide) (by decide) (fun _ => rfl) (fun v3 e => ?_)
  replace h := h v3 e
  refine go_goto 4 dX8_goesOn_62 (by decide) ?_
  refine go_lv [2, 1, 0] rfl ?_
  exact hC _ _ _ h
def w_X8_goesOn_l4 (Q : gk_St → Prop) (K : Int32 → gk_St → Prop) (this : Nat) : Nat → Int32 → Int32 → gk_St → Prop
  | 0, _, _, _ => False
  | n + 1, x1, x2, μ => (if (μ this 2) ≤ x2 then K x1 μ else (vp_in x2 (gk_ln (gk_rf this 21)) ∧ (if 12 ≤ (μ (gk_rf this 21) x2.toNatClampNeg) then (vp_in x2 (gk_ln (gk_rf this 22)) ∧ w_X8_goesOn_j40 Q K (fun c_x1 c_x2 cm => w_X8_goesOn_l4 Q K this n c_x1 c_x2 cm) this x2 (-(μ (gk_rf this 22) x2.toNatClampNeg)) x1 μ) else (vp_in x2 (gk_ln (gk_rf this 22)) ∧ w_X8_goesOn_j40 Q K (fun c_x1 c_x2 cm => w_X8_goesOn_l4 Q K this n c_x1 c_x2 cm) this x2 (μ (gk_rf this 22) x2.toNatClampNeg) x1 μ))))
set_option maxRecDepth 100000 in
set_option maxHeartbeats 4000000 in
theorem k_X8_goesOn_l4 {Q : gk_St → Prop} {K : Int32 → gk_St → Prop} {this : Nat} (h_this : gk_isO this 8) (hK : ∀ (e1 : Int32) (em : gk_St), K e1 em → Go RX8 cX8_goesOn 3 none 0 65 [(0, .ref this), (1, .int e1)] [] em (gk_Qv Q)) : ∀ (n : Nat) (x1 : Int32) (x2 : Int32) (μ : gk_St), w_X8_goesOn_l4 Q K this n x1 x2 μ → Go RX8 cX8_goesOn 3 none 0 4 [(0, .ref this), (1, .int x1), (2, .int x2)] [] μ (gk_Qv Q) := by
  intro n
  induction n with
  | zero =>
    intro x1 x2 μ h
    exact False.elim h
  | succ n ih =>
    intro x1 x2 μ h
    unfold w_X8_goesOn_l4 at h
    refine go_iload_n 2 dX8_goesOn_4 rfl rfl ?_
    refine go_aload_n 0 dX8_goesOn_5 rfl rfl ?_
    refine go_getI dX8_goesOn_6 fl_RX8_135 h_this (nf_8_2 h_this) ?_
    refine go_icmp_ge 65 dX8_goesOn_9 (by decide) (fun c => ?_) (fun c => ?_)
    · replace h := gk_ip h c
      refine go_lv [0, 1] rfl ?_
      exact hK _ _ h
    · replace h := gk_in h c
      refine go_iload_n 1 dX8_goesOn_12 rfl rfl ?_
      refine go_aload_n 0 dX8_goesOn_13 rfl rfl ?_
      refine go_getR dX8_goesOn_14 fl_RX8_49 h_this (rr_8_21 h_this) ?_
      refine go_iload_n 2 dX8_goesOn_17 rfl rfl ?_
      refine go_iaload dX8_goesOn_18 (rt_8_21 h_this) h.1 ?_
      replace h := h.2
      refine go_bipush (v := 12) dX8_goesOn_19 (by decide) ?_
      refine go_icmp_ge 33 dX8_goesOn_21 (by decide) (fun c => ?_) (fun c => ?_)
      · replace h := gk_ip h c
        refine go_aload_n 0 dX8_goesOn_33 rfl rfl ?_
        refine go_getR dX8_goesOn_34 fl_RX8_52 h_this (rr_8_22 h_this) ?_
        refine go_iload_n 2 dX8_goesOn_37 rfl rfl ?_
        refine go_iaload dX8_goesOn_38 (rt_8_22 h_this) h.1 ?_
        replace h := h.2
        refine go_ineg dX8_goesOn_39 ?_
        refine go_lv [0, 2] rfl ?_
        exact k_X8_goesOn_j40 h_this hK (fun _ _ _ h => ih _ _ _ h) h
      · replace h := gk_in h c
        refine go_aload_n 0 dX8_goesOn_24 rfl rfl ?_
        refine go_getR dX8_goesOn_25 fl_RX8_52 h_this (rr_8_22 h_this) ?_
        refine go_iload_n 2 dX8_goesOn_28 rfl rfl ?_
        refine go_iaload dX8_goesOn_29 (rt_8_22 h_this) h.1 ?_
        replace h := h.2
        refine go_goto 40 dX8_goesOn_30 (by decide) ?_
        refine go_lv [0, 2] rfl ?_
        exact k_X8_goesOn_j40 h_this hK (fun _ _ _ h => ih _ _ _ h) h
def w_X8_goesOn (this : Nat) (μ : gk_St) (Q : gk_St → Prop) : Prop := (∃ n4 : Nat, w_X8_goesOn_l4 Q (fun y4 m5 => (if y4 ≤ 0 then (∀ m6 : gk_St, m6 = gk_up m5 this 27 ((m5 this 27) + 0) → Q m6) else (∀ m7 : gk_St, m7 = gk_up m5 this 27 ((m5 this 27) + y4) → Q m7))) this n4 0 0 μ)
set_option maxRecDepth 100000 in
set_option maxHeartbeats 4000000 in
theorem k_X8_goesOn {this : Nat} {μ : gk_St} {Q : gk_St → Prop} (h_this : gk_isO this 8) (h : w_X8_goesOn this μ Q) : gk_CT yX8_goesOn cX8_goesOn 3 none 0 [.ref this] μ (gk_Qv Q) := by
  unfold w_X8_goesOn at h
  refine gk_enter (by decide) (Nat.le_of_ble_eq_true rfl) ?_
  show Go RX8 cX8_goesOn 3 none 0 0 [(0, .ref this)] [] μ (gk_Qv Q)
  refine go_iconst (v := 0) dX8_goesOn_0 (by decide) ?_
  refine go_istore_n [(1, .int 0), (0, .ref this)] dX8_goesOn_1 rfl (by decide) rfl ?_
  refine go_iconst (v := 0) dX8_goesOn_2 (by decide) ?_
  refine go_istore_n [(2, .int 0), (1, .int 0), (0, .ref this)] dX8_goesOn_3 rfl (by decide) rfl ?_
  refine go_lv [2, 1, 0] rfl ?_
  obtain ⟨n4, h⟩ := h
  refine k_X8_goesOn_l4 h_this (fun y4 m5 h => ?_) n4 _ _ _ h
  refine go_aload_n 0 dX8_goesOn_65 rfl rfl ?_
  refine go_dup dX8_goesOn_66 rfl ?_
  refine go_getI dX8_goesOn_67 fl_RX8_225 h_this (nf_8_27 h_this) ?_
  refine go_iload_n 1 dX8_goesOn_70 rfl rfl ?_
  refine go_if_le 78 dX8_goesOn_71 (by decide) (fun c => ?_) (fun c => ?_)
  · replace h := gk_ip h c
    refine go_iconst (v := 0) dX8_goesOn_78 (by decide) ?_
    refine go_iadd dX8_goesOn_79 ?_
    refine gb_putI dX8_goesOn_80 fp_RX8_225 h_this (nf_8_27 h_this) (fun m6 e => ?_)
    replace h := h m6 e
    exact go_vret dX8_goesOn_83 ⟨rfl, h⟩
  · replace h := gk_in h c
    refine go_iload_n 1 dX8_goesOn_74 rfl rfl ?_
    refine go_goto 79 dX8_goesOn_75 (by decide) ?_
    refine go_iadd dX8_goesOn_79 ?_
    refine gb_putI dX8_goesOn_80 fp_RX8_225 h_this (nf_8_27 h_this) (fun m7 e => ?_)
    replace h := h m7 e
    exact go_vret dX8_goesOn_83 ⟨rfl, h⟩
def w_X8_goesBy_l30 (Q : gk_St → Prop) (K : Int32 → Int32 → gk_St → Prop) (this : Nat) : Nat → Int32 → Int32 → Int32 → gk_St → Prop
  | 0, _, _, _, _ => False
  | n + 1, x1, x2, x3, μ => (if x2 ≤ x3 then K x1 x2 μ else w_X8_goesOn this μ (fun m4 => w_X8_servesAll this x1 1 m4 (fun m5 => (∀ v6 : Int32, v6 = x3 + 1 → w_X8_goesBy_l30 Q K this n x1 x2 v6 m5))))
set_option maxRecDepth 100000 in
set_option maxHeartbeats 4000000 in
theorem k_X8_goesBy_l30 {Q : gk_St → Prop} {K : Int32 → Int32 → gk_St → Prop} {this : Nat} (h_this : gk_isO this 8) (hK : ∀ (e1 : Int32) (e2 : Int32) (em : gk_St), K e1 e2 em → Go RX8 cX8_goesBy 4 none 2 51 [(0, .ref this), (1, .int e1), (2, .int e2)] [] em (gk_Qv Q)) : ∀ (n : Nat) (x1 : Int32) (x2 : Int32) (x3 : Int32) (μ : gk_St), w_X8_goesBy_l30 Q K this n x1 x2 x3 μ → Go RX8 cX8_goesBy 4 none 2 30 [(0, .ref this), (1, .int x1), (2, .int x2), (3, .int x3)] [] μ (gk_Qv Q) := by
  intro n
  induction n with
  | zero =>
    intro x1 x2 x3 μ h
    exact False.elim h
  | succ n ih =>
    intro x1 x2 x3 μ h
    unfold w_X8_goesBy_l30 at h
    refine go_iload_n 3 dX8_goesBy_30 rfl rfl ?_
    refine go_iload_n 2 dX8_goesBy_31 rfl rfl ?_
    refine go_icmp_ge 51 dX8_goesBy_32 (by decide) (fun c => ?_) (fun c => ?_)
    · replace h := gk_ip h c
      refine go_lv [0, 1, 2] rfl ?_
      exact hK _ _ _ h
    · replace h := gk_in h c
      refine go_aload_n 0 dX8_goesBy_35 rfl rfl ?_
      refine go_callV (ci := 8) (d' := 0) [] dX8_goesBy_36 cw_RX8_231 ki_X8_goesOn ks_X8_goesOn rfl (by decide) h_this rfl (Nat.le_of_ble_eq_true rfl) (by decide) (k_X8_goesOn h_this h) (gk_kv (fun m4 h => ?_))
      refine go_aload_n 0 dX8_goesBy_39 rfl rfl ?_
      refine go_iload_n 1 dX8_goesBy_40 rfl rfl ?_
      refine go_iconst (v := 1) dX8_goesBy_41 (by decide) ?_
      refine go_callV (ci := 8) (d' := 1) [.int x1, .int 1] dX8_goesBy_42 cw_RX8_234 ki_X8_servesAll ks_X8_servesAll rfl (by decide) h_this rfl (Nat.le_of_ble_eq_true rfl) (by decide) (k_X8_servesAll h_this h) (gk_kv (fun m5 h => ?_))
      refine gb_iinc (w := 1) 3 (fun v6 => [(3, .int v6), (0, .ref this), (1, .int x1), (2, .int x2)]) dX8_goesBy_45 rfl (by decide) (by decide) (fun _ => rfl) (fun v6 e => ?_)
      replace h := h v6 e
      refine go_goto 30 dX8_goesBy_48 (by decide) ?_
      refine go_lv [1, 2, 3, 0] rfl ?_
      exact ih _ _ _ _ h
def w_X8_goesBy_l123 (Q : gk_St → Prop) (K : gk_St → Prop) (this : Nat) : Nat → Int32 → Int32 → gk_St → Prop
  | 0, _, _, _ => False
  | n + 1, x1, x3, μ => (if (μ this 2) ≤ x3 then K  μ else (vp_in x3 (gk_ln (gk_rf this 21)) ∧ (vp_in (((6 : Int32) * x1) + x3) (gk_ln (gk_rf this 34)) ∧ (∀ m15 : gk_St, m15 = gk_up μ (gk_rf this 34) (Int32.toNatClampNeg (((6 : Int32) * x1) + x3)) (μ (gk_rf this 21) x3.toNatClampNeg) → (vp_in x3 (gk_ln (gk_rf this 22)) ∧ (vp_in (((6 : Int32) * x1) + x3) (gk_ln (gk_rf this 35)) ∧ (∀ m16 : gk_St, m16 = gk_up m15 (gk_rf this 35) (Int32.toNatClampNeg (((6 : Int32) * x1) + x3)) (m15 (gk_rf this 22) x3.toNatClampNeg) → (vp_in x1 (gk_ln (gk_rf this 32)) ∧ (vp_in x3 (gk_ln (gk_rf this 22)) ∧ (vp_in x1 (gk_ln (gk_rf this 32)) ∧ (∀ m17 : gk_St, m17 = gk_up m16 (gk_rf this 32) x1.toNatClampNeg ((m16 (gk_rf this 32) x1.toNatClampNeg) + (m16 (gk_rf this 22) x3.toNatClampNeg)) → (∀ v18 : Int32, v18 = x3 + 1 → w_X8_goesBy_l123 Q K this n x1 v18 m17))))))))))))
set_option maxRecDepth 100000 in
set_option maxHeartbeats 4000000 in
theorem k_X8_goesBy_l123 {Q : gk_St → Prop} {K : gk_St → Prop} {this : Nat} (h_this : gk_isO this 8) (hK : ∀ (em : gk_St), K  em → Go RX8 cX8_goesBy 4 none 2 186 [] [] em (gk_Qv Q)) : ∀ (n : Nat) (x1 : Int32) (x3 : Int32) (μ : gk_St), w_X8_goesBy_l123 Q K this n x1 x3 μ → Go RX8 cX8_goesBy 4 none 2 123 [(0, .ref this), (1, .int x1), (3, .int x3)] [] μ (gk_Qv Q) := by
  intro n
  induction n with
  | zero =>
    intro x1 x3 μ h
    exact False.elim h
  | succ n ih =>
    intro x1 x3 μ h
    unfold w_X8_goesBy_l123 at h
    refine go_iload_n 2 dX8_goesBy_123 rfl rfl ?_
    refine go_aload_n 0 dX8_goesBy_124 rfl rfl ?_
    refine go_getI dX8_goesBy_125 fl_RX8_135 h_this (nf_8_2 h_this) ?_
    refine go_icmp_ge 186 dX8_goesBy_128 (by decide) (fun c => ?_) (fun c => ?_)
    · replace h := gk_ip h c
      refine go_lv [] rfl ?_
      exact hK  _ h
    · replace h := gk_in h c
      refine go_aload_n 0 dX8_goesBy_131 rfl rfl ?_
      refine go_getR dX8_goesBy_132 fl_RX8_73 h_this (rr_8_34 h_this) ?_
      refine go_bipush (v := 6) dX8_goesBy_135 (by decide) ?_
      refine go_iload_n 1 dX8_goesBy_137 rfl rfl ?_
      refine go_imul dX8_goesBy_138 ?_
      refine go_iload_n 2 dX8_goesBy_139 rfl rfl ?_
      refine go_iadd dX8_goesBy_140 ?_
      refine go_aload_n 0 dX8_goesBy_141 rfl rfl ?_
      refine go_getR dX8_goesBy_142 fl_RX8_49 h_this (rr_8_21 h_this) ?_
      refine go_iload_n 2 dX8_goesBy_145 rfl rfl ?_
      refine go_iaload dX8_goesBy_146 (rt_8_21 h_this) h.1 ?_
      replace h := h.2
      refine gb_iastore dX8_goesBy_147 (rt_8_34 h_this) h.1 (fun m15 e => ?_)
      replace h := h.2 m15 e
      refine go_aload_n 0 dX8_goesBy_148 rfl rfl ?_
      refine go_getR dX8_goesBy_149 fl_RX8_76 h_this (rr_8_35 h_this) ?_
      refine go_bipush (v := 6) dX8_goesBy_152 (by decide) ?_
      refine go_iload_n 1 dX8_goesBy_154 rfl rfl ?_
      refine go_imul dX8_goesBy_155 ?_
      refine go_iload_n 2 dX8_goesBy_156 rfl rfl ?_
      refine go_iadd dX8_goesBy_157 ?_
      refine go_aload_n 0 dX8_goesBy_158 rfl rfl ?_
      refine go_getR dX8_goesBy_159 fl_RX8_52 h_this (rr_8_22 h_this) ?_
      refine go_iload_n 2 dX8_goesBy_162 rfl rfl ?_
      refine go_iaload dX8_goesBy_163 (rt_8_22 h_this) h.1 ?_
      replace h := h.2
      refine gb_iastore dX8_goesBy_164 (rt_8_35 h_this) h.1 (fun m16 e => ?_)
      replace h := h.2 m16 e
      refine go_aload_n 0 dX8_goesBy_165 rfl rfl ?_
      refine go_getR dX8_goesBy_166 fl_RX8_67 h_this (rr_8_32 h_this) ?_
      refine go_iload_n 1 dX8_goesBy_169 rfl rfl ?_
      refine go_dup2 dX8_goesBy_170 rfl rfl ?_
      refine go_iaload dX8_goesBy_171 (rt_8_32 h_this) h.1 ?_
      replace h := h.2
      refine go_aload_n 0 dX8_goesBy_172 rfl rfl ?_
      refine go_getR dX8_goesBy_173 fl_RX8_52 h_this (rr_8_22 h_this) ?_
      refine go_iload_n 2 dX8_goesBy_176 rfl rfl ?_
      refine go_iaload dX8_goesBy_177 (rt_8_22 h_this) h.1 ?_
      replace h := h.2
      refine go_iadd dX8_goesBy_178 ?_
      refine gb_iastore dX8_goesBy_179 (rt_8_32 h_this) h.1 (fun m17 e => ?_)
      replace h := h.2 m17 e
      refine gb_iinc (w := 1) 2 (fun v18 => [(3, .int v18), (0, .ref this), (1, .int x1)]) dX8_goesBy_180 rfl (by decide) (by decide) (fun _ => rfl) (fun v18 e => ?_)
      replace h := h v18 e
      refine go_goto 123 dX8_goesBy_183 (by decide) ?_
      refine go_lv [1, 2, 0] rfl ?_
      exact ih _ _ _ h
def w_X8_goesBy_j61 (Q : gk_St → Prop) (this : Nat) (x1 : Int32) (μ : gk_St) : Prop := (∀ m10 : gk_St, m10 = gk_up μ this 28 ((μ this 28) + (μ this 27)) → (vp_in 0 (gk_ln (gk_rf this 25)) ∧ (vp_in ((2 : Int32) * x1) (gk_ln (gk_rf this 31)) ∧ (∀ m11 : gk_St, m11 = gk_up m10 (gk_rf this 31) (Int32.toNatClampNeg ((2 : Int32) * x1)) (m10 (gk_rf this 25) (0 : Int32).toNatClampNeg) → (vp_in 1 (gk_ln (gk_rf this 25)) ∧ (vp_in (((2 : Int32) * x1) + 1) (gk_ln (gk_rf this 31)) ∧ (∀ m12 : gk_St, m12 = gk_up m11 (gk_rf this 31) (Int32.toNatClampNeg (((2 : Int32) * x1) + 1)) (m11 (gk_rf this 25) (1 : Int32).toNatClampNeg) → (vp_in x1 (gk_ln (gk_rf this 33)) ∧ (∀ m13 : gk_St, m13 = gk_up m12 (gk_rf this 33) x1.toNatClampNeg (m12 this 27) → (vp_in x1 (gk_ln (gk_rf this 32)) ∧ (∀ m14 : gk_St, m14 = gk_up m13 (gk_rf this 32) x1.toNatClampNeg 0 → (∃ n123 : Nat, w_X8_goesBy_l123 Q (fun m19 => Q m19) this n123 x1 0 m14))))))))))))
set_option maxRecDepth 100000 in
set_option maxHeartbeats 4000000 in
theorem k_X8_goesBy_j61 {Q : gk_St → Prop} {this : Nat} {x1 : Int32} {μ : gk_St} (h_this : gk_isO this 8) (h : w_X8_goesBy_j61 Q this x1 μ) : Go RX8 cX8_goesBy 4 none 2 61 [(0, .ref this), (1, .int x1)] [] μ (gk_Qv Q) := by
  unfold w_X8_goesBy_j61 at h
  refine go_aload_n 0 dX8_goesBy_61 rfl rfl ?_
  refine go_dup dX8_goesBy_62 rfl ?_
  refine go_getI dX8_goesBy_63 fl_RX8_238 h_this (nf_8_28 h_this) ?_
  refine go_aload_n 0 dX8_goesBy_66 rfl rfl ?_
  refine go_getI dX8_goesBy_67 fl_RX8_225 h_this (nf_8_27 h_this) ?_
  refine go_iadd dX8_goesBy_70 ?_
  refine gb_putI dX8_goesBy_71 fp_RX8_238 h_this (nf_8_28 h_this) (fun m10 e => ?_)
  replace h := h m10 e
  refine go_aload_n 0 dX8_goesBy_74 rfl rfl ?_
  refine go_getR dX8_goesBy_75 fl_RX8_64 h_this (rr_8_31 h_this) ?_
  refine go_iconst (v := 2) dX8_goesBy_78 (by decide) ?_
  refine go_iload_n 1 dX8_goesBy_79 rfl rfl ?_
  refine go_imul dX8_goesBy_80 ?_
  refine go_aload_n 0 dX8_goesBy_81 rfl rfl ?_
  refine go_getR dX8_goesBy_82 fl_RX8_58 h_this (rr_8_25 h_this) ?_
  refine go_iconst (v := 0) dX8_goesBy_85 (by decide) ?_
  refine go_iaload dX8_goesBy_86 (rt_8_25 h_this) h.1 ?_
  replace h := h.2
  refine gb_iastore dX8_goesBy_87 (rt_8_31 h_this) h.1 (fun m11 e => ?_)
  replace h := h.2 m11 e
  refine go_aload_n 0 dX8_goesBy_88 rfl rfl ?_
  refine go_getR dX8_goesBy_89 fl_RX8_64 h_this (rr_8_31 h_this) ?_
  refine go_iconst (v := 2) dX8_goesBy_92 (by decide) ?_
  refine go_iload_n 1 dX8_goesBy_93 rfl rfl ?_
  refine go_imul dX8_goesBy_94 ?_
  refine go_iconst (v := 1) dX8_goesBy_95 (by decide) ?_
  refine go_iadd dX8_goesBy_96 ?_
  refine go_aload_n 0 dX8_goesBy_97 rfl rfl ?_
  refine go_getR dX8_goesBy_98 fl_RX8_58 h_this (rr_8_25 h_this) ?_
  refine go_iconst (v := 1) dX8_goesBy_101 (by decide) ?_
  refine go_iaload dX8_goesBy_102 (rt_8_25 h_this) h.1 ?_
  replace h := h.2
  refine gb_iastore dX8_goesBy_103 (rt_8_31 h_this) h.1 (fun m12 e => ?_)
  replace h := h.2 m12 e
  refine go_aload_n 0 dX8_goesBy_104 rfl rfl ?_
  refine go_getR dX8_goesBy_105 fl_RX8_70 h_this (rr_8_33 h_this) ?_
  refine go_iload_n 1 dX8_goesBy_108 rfl rfl ?_
  refine go_aload_n 0 dX8_goesBy_109 rfl rfl ?_
  refine go_getI dX8_goesBy_110 fl_RX8_225 h_this (nf_8_27 h_this) ?_
  refine gb_iastore dX8_goesBy_113 (rt_8_33 h_this) h.1 (fun m13 e => ?_)
  replace h := h.2 m13 e
  refine go_aload_n 0 dX8_goesBy_114 rfl rfl ?_
  refine go_getR dX8_goesBy_115 fl_RX8_67 h_this (rr_8_32 h_this) ?_
  refine go_iload_n 1 dX8_goesBy_118 rfl rfl ?_
  refine go_iconst (v := 0) dX8_goesBy_119 (by decide) ?_
  refine gb_iastore dX8_goesBy_120 (rt_8_32 h_this) h.1 (fun m14 e => ?_)
  replace h := h.2 m14 e
  refine go_iconst (v := 0) dX8_goesBy_121 (by decide) ?_
  refine go_istore_n [(3, .int 0), (0, .ref this), (1, .int x1)] dX8_goesBy_122 rfl (by decide) rfl ?_
  refine go_lv [1, 2, 0] rfl ?_
  obtain ⟨n123, h⟩ := h
  refine k_X8_goesBy_l123 h_this (fun m19 h => ?_) n123 _ _ _ h
  exact go_vret dX8_goesBy_186 ⟨rfl, h⟩
def w_X8_goesBy (this : Nat) (x1 : Int32) (μ : gk_St) (Q : gk_St → Prop) : Prop := w_X8_befalls this x1 μ (fun m1 => (∀ m2 : gk_St, m2 = gk_up m1 this 27 0 → (if (m2 this 19) = 0 then (vp_in x1 (gk_ln (gk_rf this 16)) ∧ (∀ v3 : Int32, v3 = (m2 (gk_rf this 16) x1.toNatClampNeg) → (∃ n30 : Nat, w_X8_goesBy_l30 Q (fun y7 y8 m9 => (if y8 = 0 then w_X8_servesAll this y7 0 m9 (fun m20 => w_X8_goesBy_j61 Q this y7 m20) else w_X8_goesBy_j61 Q this y7 m9)) this n30 x1 v3 0 m2))) else (∃ n30 : Nat, w_X8_goesBy_l30 Q (fun y21 y22 m23 => (if y22 = 0 then w_X8_servesAll this y21 0 m23 (fun m24 => w_X8_goesBy_j61 Q this y21 m24) else w_X8_goesBy_j61 Q this y21 m23)) this n30 x1 0 0 m2))))
set_option maxRecDepth 100000 in
set_option maxHeartbeats 4000000 in
theorem k_X8_goesBy {this : Nat} {x1 : Int32} {μ : gk_St} {Q : gk_St → Prop} (h_this : gk_isO this 8) (h : w_X8_goesBy this x1 μ Q) : gk_CT yX8_goesBy cX8_goesBy 4 none 2 [.ref this, .int x1] μ (gk_Qv Q) := by
  unfold w_X8_goesBy at h
  refine gk_enter (by decide) (Nat.le_of_ble_eq_true rfl) ?_
  show Go RX8 cX8_goesBy 4 none 2 0 [(0, .ref this), (1, .int x1)] [] μ (gk_Qv Q)
  refine go_aload_n 0 dX8_goesBy_0 rfl rfl ?_
  refine go_iload_n 1 dX8_goesBy_1 rfl rfl ?_
  refine go_callV (ci := 8) (d' := 1) [.int x1] dX8_goesBy_2 cw_RX8_228 ki_X8_befalls ks_X8_befalls rfl (by decide) h_this rfl (Nat.le_of_ble_eq_true rfl) (by decide) (k_X8_befalls h_this h) (gk_kv (fun m1 h => ?_))
  refine go_aload_n 0 dX8_goesBy_5 rfl rfl ?_
  refine go_iconst (v := 0) dX8_goesBy_6 (by decide) ?_
  refine gb_putI dX8_goesBy_7 fp_RX8_225 h_this (nf_8_27 h_this) (fun m2 e => ?_)
  replace h := h m2 e
  refine go_aload_n 0 dX8_goesBy_10 rfl rfl ?_
  refine go_getI dX8_goesBy_11 fl_RX8_199 h_this (nf_8_19 h_this) ?_
  refine go_if_eq 21 dX8_goesBy_14 (by decide) (fun c => ?_) (fun c => ?_)
  · replace h := gk_ip h c
    refine go_aload_n 0 dX8_goesBy_21 rfl rfl ?_
    refine go_getR dX8_goesBy_22 fl_RX8_46 h_this (rr_8_16 h_this) ?_
    refine go_iload_n 1 dX8_goesBy_25 rfl rfl ?_
    refine go_iaload dX8_goesBy_26 (rt_8_16 h_this) h.1 ?_
    replace h := h.2
    refine gb_istore_n (fun v3 => [(2, .int v3), (0, .ref this), (1, .int x1)]) dX8_goesBy_27 rfl (by decide) (fun _ => rfl) (fun v3 e => ?_)
    replace h := h v3 e
    refine go_iconst (v := 0) dX8_goesBy_28 (by decide) ?_
    refine go_istore_n [(3, .int 0), (2, .int v3), (0, .ref this), (1, .int x1)] dX8_goesBy_29 rfl (by decide) rfl ?_
    refine go_lv [2, 3, 1, 0] rfl ?_
    obtain ⟨n30, h⟩ := h
    refine k_X8_goesBy_l30 h_this (fun y7 y8 m9 h => ?_) n30 _ _ _ _ h
    refine go_iload_n 2 dX8_goesBy_51 rfl rfl ?_
    refine go_if_ne 61 dX8_goesBy_52 (by decide) (fun c => ?_) (fun c => ?_)
    · replace h := gk_in h c
      refine go_lv [0, 1] rfl ?_
      exact k_X8_goesBy_j61 h_this h
    · replace h := gk_ip h c
      refine go_aload_n 0 dX8_goesBy_55 rfl rfl ?_
      refine go_iload_n 1 dX8_goesBy_56 rfl rfl ?_
      refine go_iconst (v := 0) dX8_goesBy_57 (by decide) ?_
      refine go_callV (ci := 8) (d' := 1) [.int y7, .int 0] dX8_goesBy_58 cw_RX8_234 ki_X8_servesAll ks_X8_servesAll rfl (by decide) h_this rfl (Nat.le_of_ble_eq_true rfl) (by decide) (k_X8_servesAll h_this h) (gk_kv (fun m20 h => ?_))
      refine go_lv [0, 1] rfl ?_
      exact k_X8_goesBy_j61 h_this h
  · replace h := gk_in h c
    refine go_iconst (v := 0) dX8_goesBy_17 (by decide) ?_
    refine go_goto 27 dX8_goesBy_18 (by decide) ?_
    refine go_istore_n [(2, .int 0), (0, .ref this), (1, .int x1)] dX8_goesBy_27 rfl (by decide) rfl ?_
    refine go_iconst (v := 0) dX8_goesBy_28 (by decide) ?_
    refine go_istore_n [(3, .int 0), (2, .int 0), (0, .ref this), (1, .int x1)] dX8_goesBy_29 rfl (by decide) rfl ?_
    refine go_lv [2, 3, 1, 0] rfl ?_
    obtain ⟨n30, h⟩ := h
    refine k_X8_goesBy_l30 h_this (fun y21 y22 m23 h => ?_) n30 _ _ _ _ h
    refine go_iload_n 2 dX8_goesBy_51 rfl rfl ?_
    refine go_if_ne 61 dX8_goesBy_52 (by decide) (fun c => ?_) (fun c => ?_)
    · replace h := gk_in h c
      refine go_lv [0, 1] rfl ?_
      exact k_X8_goesBy_j61 h_this h
    · replace h := gk_ip h c
      refine go_aload_n 0 dX8_goesBy_55 rfl rfl ?_
      refine go_iload_n 1 dX8_goesBy_56 rfl rfl ?_
      refine go_iconst (v := 0) dX8_goesBy_57 (by decide) ?_
      refine go_callV (ci := 8) (d' := 1) [.int y21, .int 0] dX8_goesBy_58 cw_RX8_234 ki_X8_servesAll ks_X8_servesAll rfl (by decide) h_this rfl (Nat.le_of_ble_eq_true rfl) (by decide) (k_X8_servesAll h_this h) (gk_kv (fun m24 h => ?_))
      refine go_lv [0, 1] rfl ?_
      exact k_X8_goesBy_j61 h_this h
def w_X8_runs_l27 (Q : gk_St → Prop) (K : gk_St → Prop) (this : Nat) : Nat → Int32 → gk_St → Prop
  | 0, _, _ => False
  | n + 1, x1, μ => (if 2 ≤ x1 then K  μ else (vp_in x1 (gk_ln (gk_rf this 25)) ∧ (∀ m6 : gk_St, m6 = gk_up μ (gk_rf this 25) x1.toNatClampNeg 0 → (vp_in x1 (gk_ln (gk_rf this 26)) ∧ (∀ m7 : gk_St, m7 = gk_up m6 (gk_rf this 26) x1.toNatClampNeg 0 → (∀ v8 : Int32, v8 = x1 + 1 → w_X8_runs_l27 Q K this n v8 m7))))))
set_option maxRecDepth 100000 in
set_option maxHeartbeats 4000000 in
theorem k_X8_runs_l27 {Q : gk_St → Prop} {K : gk_St → Prop} {this : Nat} (h_this : gk_isO this 8) (hK : ∀ (em : gk_St), K  em → Go RX8 cX8_runs 2 none 3 52 [(0, .ref this)] [] em (gk_Qv Q)) : ∀ (n : Nat) (x1 : Int32) (μ : gk_St), w_X8_runs_l27 Q K this n x1 μ → Go RX8 cX8_runs 2 none 3 27 [(0, .ref this), (1, .int x1)] [] μ (gk_Qv Q) := by
  intro n
  induction n with
  | zero =>
    intro x1 μ h
    exact False.elim h
  | succ n ih =>
    intro x1 μ h
    unfold w_X8_runs_l27 at h
    refine go_iload_n 1 dX8_runs_27 rfl rfl ?_
    refine go_iconst (v := 2) dX8_runs_28 (by decide) ?_
    refine go_icmp_ge 52 dX8_runs_29 (by decide) (fun c => ?_) (fun c => ?_)
    · replace h := gk_ip h c
      refine go_lv [0] rfl ?_
      exact hK  _ h
    · replace h := gk_in h c
      refine go_aload_n 0 dX8_runs_32 rfl rfl ?_
      refine go_getR dX8_runs_33 fl_RX8_58 h_this (rr_8_25 h_this) ?_
      refine go_iload_n 1 dX8_runs_36 rfl rfl ?_
      refine go_iconst (v := 0) dX8_runs_37 (by decide) ?_
      refine gb_iastore dX8_runs_38 (rt_8_25 h_this) h.1 (fun m6 e => ?_)
      replace h := h.2 m6 e
      refine go_aload_n 0 dX8_runs_39 rfl rfl ?_
      refine go_getR dX8_runs_40 fl_RX8_61 h_this (rr_8_26 h_this) ?_
      refine go_iload_n 1 dX8_runs_43 rfl rfl ?_
      refine go_iconst (v := 0) dX8_runs_44 (by decide) ?_
      refine gb_iastore dX8_runs_45 (rt_8_26 h_this) h.1 (fun m7 e => ?_)
      replace h := h.2 m7 e
      refine gb_iinc (w := 1) 1 (fun v8 => [(1, .int v8), (0, .ref this)]) dX8_runs_46 rfl (by decide) (by decide) (fun _ => rfl) (fun v8 e => ?_)
      replace h := h v8 e
      refine go_goto 27 dX8_runs_49 (by decide) ?_
      refine go_lv [1, 0] rfl ?_
      exact ih _ _ h
def w_X8_runs_l54 (Q : gk_St → Prop) (K : gk_St → Prop) (this : Nat) : Nat → Int32 → gk_St → Prop
  | 0, _, _ => False
  | n + 1, x1, μ => (if 6 ≤ x1 then K  μ else (vp_in x1 (gk_ln (gk_rf this 3)) ∧ (vp_in x1 (gk_ln (gk_rf this 21)) ∧ (∀ m10 : gk_St, m10 = gk_up μ (gk_rf this 21) x1.toNatClampNeg (μ (gk_rf this 3) x1.toNatClampNeg) → (vp_in x1 (gk_ln (gk_rf this 22)) ∧ (∀ m11 : gk_St, m11 = gk_up m10 (gk_rf this 22) x1.toNatClampNeg 0 → (vp_in x1 (gk_ln (gk_rf this 23)) ∧ (∀ m12 : gk_St, m12 = gk_up m11 (gk_rf this 23) x1.toNatClampNeg 0 → (∀ v13 : Int32, v13 = x1 + 1 → w_X8_runs_l54 Q K this n v13 m12)))))))))
set_option maxRecDepth 100000 in
set_option maxHeartbeats 4000000 in
theorem k_X8_runs_l54 {Q : gk_St → Prop} {K : gk_St → Prop} {this : Nat} (h_this : gk_isO this 8) (hK : ∀ (em : gk_St), K  em → Go RX8 cX8_runs 2 none 3 92 [(0, .ref this)] [] em (gk_Qv Q)) : ∀ (n : Nat) (x1 : Int32) (μ : gk_St), w_X8_runs_l54 Q K this n x1 μ → Go RX8 cX8_runs 2 none 3 54 [(0, .ref this), (1, .int x1)] [] μ (gk_Qv Q) := by
  intro n
  induction n with
  | zero =>
    intro x1 μ h
    exact False.elim h
  | succ n ih =>
    intro x1 μ h
    unfold w_X8_runs_l54 at h
    refine go_iload_n 1 dX8_runs_54 rfl rfl ?_
    refine go_bipush (v := 6) dX8_runs_55 (by decide) ?_
    refine go_icmp_ge 92 dX8_runs_57 (by decide) (fun c => ?_) (fun c => ?_)
    · replace h := gk_ip h c
      refine go_lv [0] rfl ?_
      exact hK  _ h
    · replace h := gk_in h c
      refine go_aload_n 0 dX8_runs_60 rfl rfl ?_
      refine go_getR dX8_runs_61 fl_RX8_49 h_this (rr_8_21 h_this) ?_
      refine go_iload_n 1 dX8_runs_64 rfl rfl ?_
      refine go_aload_n 0 dX8_runs_65 rfl rfl ?_
      refine go_getR dX8_runs_66 fl_RX8_16 h_this (rr_8_3 h_this) ?_
      refine go_iload_n 1 dX8_runs_69 rfl rfl ?_
      refine go_iaload dX8_runs_70 (rt_8_3 h_this) h.1 ?_
      replace h := h.2
      refine gb_iastore dX8_runs_71 (rt_8_21 h_this) h.1 (fun m10 e => ?_)
      replace h := h.2 m10 e
      refine go_aload_n 0 dX8_runs_72 rfl rfl ?_
      refine go_getR dX8_runs_73 fl_RX8_52 h_this (rr_8_22 h_this) ?_
      refine go_iload_n 1 dX8_runs_76 rfl rfl ?_
      refine go_iconst (v := 0) dX8_runs_77 (by decide) ?_
      refine gb_iastore dX8_runs_78 (rt_8_22 h_this) h.1 (fun m11 e => ?_)
      replace h := h.2 m11 e
      refine go_aload_n 0 dX8_runs_79 rfl rfl ?_
      refine go_getR dX8_runs_80 fl_RX8_55 h_this (rr_8_23 h_this) ?_
      refine go_iload_n 1 dX8_runs_83 rfl rfl ?_
      refine go_iconst (v := 0) dX8_runs_84 (by decide) ?_
      refine gb_iastore dX8_runs_85 (rt_8_23 h_this) h.1 (fun m12 e => ?_)
      replace h := h.2 m12 e
      refine gb_iinc (w := 1) 1 (fun v13 => [(1, .int v13), (0, .ref this)]) dX8_runs_86 rfl (by decide) (by decide) (fun _ => rfl) (fun v13 e => ?_)
      replace h := h v13 e
      refine go_goto 54 dX8_runs_89 (by decide) ?_
      refine go_lv [1, 0] rfl ?_
      exact ih _ _ h
def w_X8_runs_l94 (Q : gk_St → Prop) (K : gk_St → Prop) (this : Nat) : Nat → Int32 → gk_St → Prop
  | 0, _, _ => False
  | n + 1, x1, μ => (if 24 ≤ x1 then K  μ else w_X8_goesBy this x1 μ (fun m15 => (∀ v16 : Int32, v16 = x1 + 1 → w_X8_runs_l94 Q K this n v16 m15)))
set_option maxRecDepth 100000 in
set_option maxHeartbeats 4000000 in
theorem k_X8_runs_l94 {Q : gk_St → Prop} {K : gk_St → Prop} {this : Nat} (h_this : gk_isO this 8) (hK : ∀ (em : gk_St), K  em → Go RX8 cX8_runs 2 none 3 111 [] [] em (gk_Qv Q)) : ∀ (n : Nat) (x1 : Int32) (μ : gk_St), w_X8_runs_l94 Q K this n x1 μ → Go RX8 cX8_runs 2 none 3 94 [(0, .ref this), (1, .int x1)] [] μ (gk_Qv Q) := by
  intro n
  induction n with
  | zero =>
    intro x1 μ h
    exact False.elim h
  | succ n ih =>
    intro x1 μ h
    unfold w_X8_runs_l94 at h
    refine go_iload_n 1 dX8_runs_94 rfl rfl ?_
    refine go_bipush (v := 24) dX8_runs_95 (by decide) ?_
    refine go_icmp_ge 111 dX8_runs_97 (by decide) (fun c => ?_) (fun c => ?_)
    · replace h := gk_ip h c
      refine go_lv [] rfl ?_
      exact hK  _ h
    · replace h := gk_in h c
      refine go_aload_n 0 dX8_runs_100 rfl rfl ?_
      refine go_iload_n 1 dX8_runs_101 rfl rfl ?_
      refine go_callV (ci := 8) (d' := 2) [.int x1] dX8_runs_102 cw_RX8_241 ki_X8_goesBy ks_X8_goesBy rfl (by decide) h_this rfl (Nat.le_of_ble_eq_true rfl) (by decide) (k_X8_goesBy h_this h) (gk_kv (fun m15 h => ?_))
      refine gb_iinc (w := 1) 1 (fun v16 => [(1, .int v16), (0, .ref this)]) dX8_runs_105 rfl (by decide) (by decide) (fun _ => rfl) (fun v16 e => ?_)
      replace h := h v16 e
      refine go_goto 94 dX8_runs_108 (by decide) ?_
      refine go_lv [1, 0] rfl ?_
      exact ih _ _ h
def w_X8_runs (this : Nat) (μ : gk_St) (Q : gk_St → Prop) : Prop := (∀ m1 : gk_St, m1 = gk_up μ this 20 0 → (∀ m2 : gk_St, m2 = gk_up m1 this 24 0 → (∀ m3 : gk_St, m3 = gk_up m2 this 28 0 → (∀ m4 : gk_St, m4 = gk_up m3 this 29 (-1) → (∀ m5 : gk_St, m5 = gk_up m4 this 30 (-1) → (∃ n27 : Nat, w_X8_runs_l27 Q (fun m9 => (∃ n54 : Nat, w_X8_runs_l54 Q (fun m14 => (∃ n94 : Nat, w_X8_runs_l94 Q (fun m17 => Q m17) this n94 0 m14)) this n54 0 m9)) this n27 0 m5))))))
set_option maxRecDepth 100000 in
set_option maxHeartbeats 4000000 in
theorem k_X8_runs {this : Nat} {μ : gk_St} {Q : gk_St → Prop} (h_this : gk_isO this 8) (h : w_X8_runs this μ Q) : gk_CT yX8_runs cX8_runs 2 none 3 [.ref this] μ (gk_Qv Q) := by
  unfold w_X8_runs at h
  refine gk_enter (by decide) (Nat.le_of_ble_eq_true rfl) ?_
  show Go RX8 cX8_runs 2 none 3 0 [(0, .ref this)] [] μ (gk_Qv Q)
  refine go_aload_n 0 dX8_runs_0 rfl rfl ?_
  refine go_iconst (v := 0) dX8_runs_1 (by decide) ?_
  refine gb_putI dX8_runs_2 fp_RX8_205 h_this (nf_8_20 h_this) (fun m1 e => ?_)
  replace h := h m1 e
  refine go_aload_n 0 dX8_runs_5 rfl rfl ?_
  refine go_iconst (v := 0) dX8_runs_6 (by decide) ?_
  refine gb_putI dX8_runs_7 fp_RX8_214 h_this (nf_8_24 h_this) (fun m2 e => ?_)
  replace h := h m2 e
  refine go_aload_n 0 dX8_runs_10 rfl rfl ?_
  refine go_iconst (v := 0) dX8_runs_11 (by decide) ?_
  refine gb_putI dX8_runs_12 fp_RX8_238 h_this (nf_8_28 h_this) (fun m3 e => ?_)
  replace h := h m3 e
  refine go_aload_n 0 dX8_runs_15 rfl rfl ?_
  refine go_iconst (v := (-1)) dX8_runs_16 (by decide) ?_
  refine gb_putI dX8_runs_17 fp_RX8_208 h_this (nf_8_29 h_this) (fun m4 e => ?_)
  replace h := h m4 e
  refine go_aload_n 0 dX8_runs_20 rfl rfl ?_
  refine go_iconst (v := (-1)) dX8_runs_21 (by decide) ?_
  refine gb_putI dX8_runs_22 fp_RX8_211 h_this (nf_8_30 h_this) (fun m5 e => ?_)
  replace h := h m5 e
  refine go_iconst (v := 0) dX8_runs_25 (by decide) ?_
  refine go_istore_n [(1, .int 0), (0, .ref this)] dX8_runs_26 rfl (by decide) rfl ?_
  refine go_lv [1, 0] rfl ?_
  obtain ⟨n27, h⟩ := h
  refine k_X8_runs_l27 h_this (fun m9 h => ?_) n27 _ _ h
  refine go_iconst (v := 0) dX8_runs_52 (by decide) ?_
  refine go_istore_n [(1, .int 0), (0, .ref this)] dX8_runs_53 rfl (by decide) rfl ?_
  refine go_lv [1, 0] rfl ?_
  obtain ⟨n54, h⟩ := h
  refine k_X8_runs_l54 h_this (fun m14 h => ?_) n54 _ _ h
  refine go_iconst (v := 0) dX8_runs_92 (by decide) ?_
  refine go_istore_n [(1, .int 0), (0, .ref this)] dX8_runs_93 rfl (by decide) rfl ?_
  refine go_lv [1, 0] rfl ?_
  obtain ⟨n94, h⟩ := h
  refine k_X8_runs_l94 h_this (fun m17 h => ?_) n94 _ _ h
  exact go_vret dX8_runs_111 ⟨rfl, h⟩
def w_X8_runsTold (this : Nat) (μ : gk_St) (Q : gk_St → Prop) : Prop := w_X8_asTold this μ (fun m1 => w_X8_runs this m1 (fun m2 => Q m2))
set_option maxRecDepth 100000 in
set_option maxHeartbeats 4000000 in
theorem k_X8_runsTold {this : Nat} {μ : gk_St} {Q : gk_St → Prop} (h_this : gk_isO this 8) (h : w_X8_runsTold this μ Q) : gk_CT yX8_runsTold cX8_runsTold 1 none 7 [.ref this] μ (gk_Qv Q) := by
  unfold w_X8_runsTold at h
  refine gk_enter (by decide) (Nat.le_of_ble_eq_true rfl) ?_
  show Go RX8 cX8_runsTold 1 none 7 0 [(0, .ref this)] [] μ (gk_Qv Q)
  refine go_aload_n 0 dX8_runsTold_0 rfl rfl ?_
  refine go_callV (ci := 8) (d' := 6) [] dX8_runsTold_1 cw_RX8_244 ki_X8_asTold ks_X8_asTold rfl (by decide) h_this rfl (Nat.le_of_ble_eq_true rfl) (by decide) (k_X8_asTold h_this h) (gk_kv (fun m1 h => ?_))
  refine go_aload_n 0 dX8_runsTold_4 rfl rfl ?_
  refine go_callV (ci := 8) (d' := 3) [] dX8_runsTold_5 cw_RX8_247 ki_X8_runs ks_X8_runs rfl (by decide) h_this rfl (Nat.le_of_ble_eq_true rfl) (by decide) (k_X8_runs h_this h) (gk_kv (fun m2 h => ?_))
  exact go_vret dX8_runsTold_8 ⟨rfl, h⟩
def w_X8_atOf (this : Nat) (x1 : Int32) (x2 : Int32) (x3 : Int32) (μ : gk_St) (Q : Int32 → gk_St → Prop) : Prop := w_X8_runsTold this μ (fun m1 => (if x3 = 0 then (vp_in (((6 : Int32) * x1) + x2) (gk_ln (gk_rf this 34)) ∧ Q (m1 (gk_rf this 34) (Int32.toNatClampNeg (((6 : Int32) * x1) + x2))) m1) else (vp_in (((6 : Int32) * x1) + x2) (gk_ln (gk_rf this 35)) ∧ Q (m1 (gk_rf this 35) (Int32.toNatClampNeg (((6 : Int32) * x1) + x2))) m1)))
set_option maxRecDepth 100000 in
set_option maxHeartbeats 4000000 in
theorem k_X8_atOf {this : Nat} {x1 : Int32} {x2 : Int32} {x3 : Int32} {μ : gk_St} {Q : Int32 → gk_St → Prop} (h_this : gk_isO this 8) (h : w_X8_atOf this x1 x2 x3 μ Q) : gk_CT yX8_atOf cX8_atOf 4 (some .int) 8 [.ref this, .int x1, .int x2, .int x3] μ (gk_Qi Q) := by
  unfold w_X8_atOf at h
  refine gk_enter (by decide) (Nat.le_of_ble_eq_true rfl) ?_
  show Go RX8 cX8_atOf 4 (some .int) 8 0 [(0, .ref this), (1, .int x1), (2, .int x2), (3, .int x3)] [] μ (gk_Qi Q)
  refine go_aload_n 0 dX8_atOf_0 rfl rfl ?_
  refine go_callV (ci := 8) (d' := 7) [] dX8_atOf_1 cw_RX8_250 ki_X8_runsTold ks_X8_runsTold rfl (by decide) h_this rfl (Nat.le_of_ble_eq_true rfl) (by decide) (k_X8_runsTold h_this h) (gk_kv (fun m1 h => ?_))
  refine go_iload_n 3 dX8_atOf_4 rfl rfl ?_
  refine go_if_ne 22 dX8_atOf_5 (by decide) (fun c => ?_) (fun c => ?_)
  · replace h := gk_in h c
    refine go_aload_n 0 dX8_atOf_22 rfl rfl ?_
    refine go_getR dX8_atOf_23 fl_RX8_76 h_this (rr_8_35 h_this) ?_
    refine go_bipush (v := 6) dX8_atOf_26 (by decide) ?_
    refine go_iload_n 1 dX8_atOf_28 rfl rfl ?_
    refine go_imul dX8_atOf_29 ?_
    refine go_iload_n 2 dX8_atOf_30 rfl rfl ?_
    refine go_iadd dX8_atOf_31 ?_
    refine go_iaload dX8_atOf_32 (rt_8_35 h_this) h.1 ?_
    replace h := h.2
    exact go_iret dX8_atOf_33 ⟨_, rfl, h⟩
  · replace h := gk_ip h c
    refine go_aload_n 0 dX8_atOf_8 rfl rfl ?_
    refine go_getR dX8_atOf_9 fl_RX8_73 h_this (rr_8_34 h_this) ?_
    refine go_bipush (v := 6) dX8_atOf_12 (by decide) ?_
    refine go_iload_n 1 dX8_atOf_14 rfl rfl ?_
    refine go_imul dX8_atOf_15 ?_
    refine go_iload_n 2 dX8_atOf_16 rfl rfl ?_
    refine go_iadd dX8_atOf_17 ?_
    refine go_iaload dX8_atOf_18 (rt_8_34 h_this) h.1 ?_
    replace h := h.2
    refine go_goto 33 dX8_atOf_19 (by decide) ?_
    exact go_iret dX8_atOf_33 ⟨_, rfl, h⟩
def w_X8_at (this : Nat) (x1 : Int32) (x2 : Int32) (x3 : Int32) (μ : gk_St) (Q : Int32 → gk_St → Prop) : Prop := w_X8_isMoment x1 μ (fun r2 m1 => (if r2 = 0 then Q (-2) m1 else w_X8_isCar this x2 m1 (fun r4 m3 => (if r4 = 0 then Q (-2) m3 else w_X8_isTwo x3 m3 (fun r6 m5 => (if r6 = 0 then Q (-2) m5 else w_X8_atOf this x1 x2 x3 m5 (fun r8 m7 => Q r8 m7)))))))
set_option maxRecDepth 100000 in
set_option maxHeartbeats 4000000 in
theorem k_X8_at {this : Nat} {x1 : Int32} {x2 : Int32} {x3 : Int32} {μ : gk_St} {Q : Int32 → gk_St → Prop} (h_this : gk_isO this 8) (h : w_X8_at this x1 x2 x3 μ Q) : gk_CT yX8_at cX8_at 4 (some .int) 9 [.ref this, .int x1, .int x2, .int x3] μ (gk_Qi Q) := by
  unfold w_X8_at at h
  refine gk_enter (by decide) (Nat.le_of_ble_eq_true rfl) ?_
  show Go RX8 cX8_at 4 (some .int) 9 0 [(0, .ref this), (1, .int x1), (2, .int x2), (3, .int x3)] [] μ (gk_Qi Q)
  refine go_iload_n 1 dX8_at_0 rfl rfl ?_
  refine go_callS (d' := 1) [.int x1] dX8_at_1 cw_RX8_132 kt_X8_isMoment rfl (Nat.le_of_ble_eq_true rfl) (by decide) (k_X8_isMoment h) (gk_ki (fun r2 m1 h => ?_))
  refine go_if_eq 32 dX8_at_4 (by decide) (fun c => ?_) (fun c => ?_)
  · replace h := gk_ip h c
    refine go_bipush (v := (-2)) dX8_at_32 (by decide) ?_
    exact go_iret dX8_at_34 ⟨_, rfl, h⟩
  · replace h := gk_in h c
    refine go_aload_n 0 dX8_at_7 rfl rfl ?_
    refine go_iload_n 2 dX8_at_8 rfl rfl ?_
    refine go_callV (ci := 8) (d' := 6) [.int x2] dX8_at_9 cw_RX8_164 ki_X8_isCar ks_X8_isCar rfl (by decide) h_this rfl (Nat.le_of_ble_eq_true rfl) (by decide) (k_X8_isCar h_this h) (gk_ki (fun r4 m3 h => ?_))
    refine go_if_eq 32 dX8_at_12 (by decide) (fun c => ?_) (fun c => ?_)
    · replace h := gk_ip h c
      refine go_bipush (v := (-2)) dX8_at_32 (by decide) ?_
      exact go_iret dX8_at_34 ⟨_, rfl, h⟩
    · replace h := gk_in h c
      refine go_iload_n 3 dX8_at_15 rfl rfl ?_
      refine go_callS (d' := 1) [.int x3] dX8_at_16 cw_RX8_253 kt_X8_isTwo rfl (Nat.le_of_ble_eq_true rfl) (by decide) (k_X8_isTwo h) (gk_ki (fun r6 m5 h => ?_))
      refine go_if_eq 32 dX8_at_19 (by decide) (fun c => ?_) (fun c => ?_)
      · replace h := gk_ip h c
        refine go_bipush (v := (-2)) dX8_at_32 (by decide) ?_
        exact go_iret dX8_at_34 ⟨_, rfl, h⟩
      · replace h := gk_in h c
        refine go_aload_n 0 dX8_at_22 rfl rfl ?_
        refine go_iload_n 1 dX8_at_23 rfl rfl ?_
        refine go_iload_n 2 dX8_at_24 rfl rfl ?_
        refine go_iload_n 3 dX8_at_25 rfl rfl ?_
        refine go_callV (ci := 8) (d' := 8) [.int x1, .int x2, .int x3] dX8_at_26 cw_RX8_256 ki_X8_atOf ks_X8_atOf rfl (by decide) h_this rfl (Nat.le_of_ble_eq_true rfl) (by decide) (k_X8_atOf h_this h) (gk_ki (fun r8 m7 h => ?_))
        refine go_goto 34 dX8_at_29 (by decide) ?_
        exact go_iret dX8_at_34 ⟨_, rfl, h⟩
def w_X8_waitsOf (this : Nat) (x1 : Int32) (x2 : Int32) (μ : gk_St) (Q : Int32 → gk_St → Prop) : Prop := w_X8_runsTold this μ (fun m1 => (if 2 ≤ x2 then (if x2 = 2 then (vp_in x1 (gk_ln (gk_rf this 32)) ∧ Q (m1 (gk_rf this 32) x1.toNatClampNeg) m1) else (vp_in x1 (gk_ln (gk_rf this 33)) ∧ Q (m1 (gk_rf this 33) x1.toNatClampNeg) m1)) else (vp_in (((2 : Int32) * x1) + x2) (gk_ln (gk_rf this 31)) ∧ Q (m1 (gk_rf this 31) (Int32.toNatClampNeg (((2 : Int32) * x1) + x2))) m1)))
set_option maxRecDepth 100000 in
set_option maxHeartbeats 4000000 in
theorem k_X8_waitsOf {this : Nat} {x1 : Int32} {x2 : Int32} {μ : gk_St} {Q : Int32 → gk_St → Prop} (h_this : gk_isO this 8) (h : w_X8_waitsOf this x1 x2 μ Q) : gk_CT yX8_waitsOf cX8_waitsOf 3 (some .int) 8 [.ref this, .int x1, .int x2] μ (gk_Qi Q) := by
  unfold w_X8_waitsOf at h
  refine gk_enter (by decide) (Nat.le_of_ble_eq_true rfl) ?_
  show Go RX8 cX8_waitsOf 3 (some .int) 8 0 [(0, .ref this), (1, .int x1), (2, .int x2)] [] μ (gk_Qi Q)
  refine go_aload_n 0 dX8_waitsOf_0 rfl rfl ?_
  refine go_callV (ci := 8) (d' := 7) [] dX8_waitsOf_1 cw_RX8_250 ki_X8_runsTold ks_X8_runsTold rfl (by decide) h_this rfl (Nat.le_of_ble_eq_true rfl) (by decide) (k_X8_runsTold h_this h) (gk_kv (fun m1 h => ?_))
  refine go_iload_n 2 dX8_waitsOf_4 rfl rfl ?_
  refine go_iconst (v := 2) dX8_waitsOf_5 (by decide) ?_
  refine go_icmp_ge 22 dX8_waitsOf_6 (by decide) (fun c => ?_) (fun c => ?_)
  · replace h := gk_ip h c
    refine go_iload_n 2 dX8_waitsOf_22 rfl rfl ?_
    refine go_iconst (v := 2) dX8_waitsOf_23 (by decide) ?_
    refine go_icmp_ne 36 dX8_waitsOf_24 (by decide) (fun c => ?_) (fun c => ?_)
    · replace h := gk_in h c
      refine go_aload_n 0 dX8_waitsOf_36 rfl rfl ?_
      refine go_getR dX8_waitsOf_37 fl_RX8_70 h_this (rr_8_33 h_this) ?_
      refine go_iload_n 1 dX8_waitsOf_40 rfl rfl ?_
      refine go_iaload dX8_waitsOf_41 (rt_8_33 h_this) h.1 ?_
      replace h := h.2
      exact go_iret dX8_waitsOf_42 ⟨_, rfl, h⟩
    · replace h := gk_ip h c
      refine go_aload_n 0 dX8_waitsOf_27 rfl rfl ?_
      refine go_getR dX8_waitsOf_28 fl_RX8_67 h_this (rr_8_32 h_this) ?_
      refine go_iload_n 1 dX8_waitsOf_31 rfl rfl ?_
      refine go_iaload dX8_waitsOf_32 (rt_8_32 h_this) h.1 ?_
      replace h := h.2
      refine go_goto 42 dX8_waitsOf_33 (by decide) ?_
      exact go_iret dX8_waitsOf_42 ⟨_, rfl, h⟩
  · replace h := gk_in h c
    refine go_aload_n 0 dX8_waitsOf_9 rfl rfl ?_
    refine go_getR dX8_waitsOf_10 fl_RX8_64 h_this (rr_8_31 h_this) ?_
    refine go_iconst (v := 2) dX8_waitsOf_13 (by decide) ?_
    refine go_iload_n 1 dX8_waitsOf_14 rfl rfl ?_
    refine go_imul dX8_waitsOf_15 ?_
    refine go_iload_n 2 dX8_waitsOf_16 rfl rfl ?_
    refine go_iadd dX8_waitsOf_17 ?_
    refine go_iaload dX8_waitsOf_18 (rt_8_31 h_this) h.1 ?_
    replace h := h.2
    refine go_goto 42 dX8_waitsOf_19 (by decide) ?_
    exact go_iret dX8_waitsOf_42 ⟨_, rfl, h⟩
def w_X8_waits (this : Nat) (x1 : Int32) (x2 : Int32) (μ : gk_St) (Q : Int32 → gk_St → Prop) : Prop := w_X8_isMoment x1 μ (fun r2 m1 => (if r2 = 0 then Q (-2) m1 else w_X8_in x2 0 3 m1 (fun r4 m3 => (if r4 = 0 then Q (-2) m3 else w_X8_waitsOf this x1 x2 m3 (fun r6 m5 => Q r6 m5)))))
set_option maxRecDepth 100000 in
set_option maxHeartbeats 4000000 in
theorem k_X8_waits {this : Nat} {x1 : Int32} {x2 : Int32} {μ : gk_St} {Q : Int32 → gk_St → Prop} (h_this : gk_isO this 8) (h : w_X8_waits this x1 x2 μ Q) : gk_CT yX8_waits cX8_waits 3 (some .int) 9 [.ref this, .int x1, .int x2] μ (gk_Qi Q) := by
  unfold w_X8_waits at h
  refine gk_enter (by decide) (Nat.le_of_ble_eq_true rfl) ?_
  show Go RX8 cX8_waits 3 (some .int) 9 0 [(0, .ref this), (1, .int x1), (2, .int x2)] [] μ (gk_Qi Q)
  refine go_iload_n 1 dX8_waits_0 rfl rfl ?_
  refine go_callS (d' := 1) [.int x1] dX8_waits_1 cw_RX8_132 kt_X8_isMoment rfl (Nat.le_of_ble_eq_true rfl) (by decide) (k_X8_isMoment h) (gk_ki (fun r2 m1 h => ?_))
  refine go_if_eq 25 dX8_waits_4 (by decide) (fun c => ?_) (fun c => ?_)
  · replace h := gk_ip h c
    refine go_bipush (v := (-2)) dX8_waits_25 (by decide) ?_
    exact go_iret dX8_waits_27 ⟨_, rfl, h⟩
  · replace h := gk_in h c
    refine go_iload_n 2 dX8_waits_7 rfl rfl ?_
    refine go_iconst (v := 0) dX8_waits_8 (by decide) ?_
    refine go_iconst (v := 3) dX8_waits_9 (by decide) ?_
    refine go_callS (d' := 0) [.int x2, .int 0, .int 3] dX8_waits_10 cw_RX8_112 kt_X8_in rfl (Nat.le_of_ble_eq_true rfl) (by decide) (k_X8_in h) (gk_ki (fun r4 m3 h => ?_))
    refine go_if_eq 25 dX8_waits_13 (by decide) (fun c => ?_) (fun c => ?_)
    · replace h := gk_ip h c
      refine go_bipush (v := (-2)) dX8_waits_25 (by decide) ?_
      exact go_iret dX8_waits_27 ⟨_, rfl, h⟩
    · replace h := gk_in h c
      refine go_aload_n 0 dX8_waits_16 rfl rfl ?_
      refine go_iload_n 1 dX8_waits_17 rfl rfl ?_
      refine go_iload_n 2 dX8_waits_18 rfl rfl ?_
      refine go_callV (ci := 8) (d' := 8) [.int x1, .int x2] dX8_waits_19 cw_RX8_259 ki_X8_waitsOf ks_X8_waitsOf rfl (by decide) h_this rfl (Nat.le_of_ble_eq_true rfl) (by decide) (k_X8_waitsOf h_this h) (gk_ki (fun r6 m5 h => ?_))
      refine go_goto 27 dX8_waits_22 (by decide) ?_
      exact go_iret dX8_waits_27 ⟨_, rfl, h⟩
def w_X8_overOf (this : Nat) (x1 : Int32) (μ : gk_St) (Q : Int32 → gk_St → Prop) : Prop := w_X8_runsTold this μ (fun m1 => (vp_in x1 (gk_ln (gk_rf this 26)) ∧ Q (m1 (gk_rf this 26) x1.toNatClampNeg) m1))
set_option maxRecDepth 100000 in
set_option maxHeartbeats 4000000 in
theorem k_X8_overOf {this : Nat} {x1 : Int32} {μ : gk_St} {Q : Int32 → gk_St → Prop} (h_this : gk_isO this 8) (h : w_X8_overOf this x1 μ Q) : gk_CT yX8_overOf cX8_overOf 2 (some .int) 8 [.ref this, .int x1] μ (gk_Qi Q) := by
  unfold w_X8_overOf at h
  refine gk_enter (by decide) (Nat.le_of_ble_eq_true rfl) ?_
  show Go RX8 cX8_overOf 2 (some .int) 8 0 [(0, .ref this), (1, .int x1)] [] μ (gk_Qi Q)
  refine go_aload_n 0 dX8_overOf_0 rfl rfl ?_
  refine go_callV (ci := 8) (d' := 7) [] dX8_overOf_1 cw_RX8_250 ki_X8_runsTold ks_X8_runsTold rfl (by decide) h_this rfl (Nat.le_of_ble_eq_true rfl) (by decide) (k_X8_runsTold h_this h) (gk_kv (fun m1 h => ?_))
  refine go_aload_n 0 dX8_overOf_4 rfl rfl ?_
  refine go_getR dX8_overOf_5 fl_RX8_61 h_this (rr_8_26 h_this) ?_
  refine go_iload_n 1 dX8_overOf_8 rfl rfl ?_
  refine go_iaload dX8_overOf_9 (rt_8_26 h_this) h.1 ?_
  replace h := h.2
  exact go_iret dX8_overOf_10 ⟨_, rfl, h⟩
def w_X8_over (this : Nat) (x1 : Int32) (μ : gk_St) (Q : Int32 → gk_St → Prop) : Prop := w_X8_isTwo x1 μ (fun r2 m1 => (if r2 = 0 then Q (-2) m1 else w_X8_overOf this x1 m1 (fun r4 m3 => Q r4 m3)))
set_option maxRecDepth 100000 in
set_option maxHeartbeats 4000000 in
theorem k_X8_over {this : Nat} {x1 : Int32} {μ : gk_St} {Q : Int32 → gk_St → Prop} (h_this : gk_isO this 8) (h : w_X8_over this x1 μ Q) : gk_CT yX8_over cX8_over 2 (some .int) 9 [.ref this, .int x1] μ (gk_Qi Q) := by
  unfold w_X8_over at h
  refine gk_enter (by decide) (Nat.le_of_ble_eq_true rfl) ?_
  show Go RX8 cX8_over 2 (some .int) 9 0 [(0, .ref this), (1, .int x1)] [] μ (gk_Qi Q)
  refine go_iload_n 1 dX8_over_0 rfl rfl ?_
  refine go_callS (d' := 1) [.int x1] dX8_over_1 cw_RX8_253 kt_X8_isTwo rfl (Nat.le_of_ble_eq_true rfl) (by decide) (k_X8_isTwo h) (gk_ki (fun r2 m1 h => ?_))
  refine go_if_eq 15 dX8_over_4 (by decide) (fun c => ?_) (fun c => ?_)
  · replace h := gk_ip h c
    refine go_bipush (v := (-2)) dX8_over_15 (by decide) ?_
    exact go_iret dX8_over_17 ⟨_, rfl, h⟩
  · replace h := gk_in h c
    refine go_aload_n 0 dX8_over_7 rfl rfl ?_
    refine go_iload_n 1 dX8_over_8 rfl rfl ?_
    refine go_callV (ci := 8) (d' := 8) [.int x1] dX8_over_9 cw_RX8_262 ki_X8_overOf ks_X8_overOf rfl (by decide) h_this rfl (Nat.le_of_ble_eq_true rfl) (by decide) (k_X8_overOf h_this h) (gk_ki (fun r4 m3 h => ?_))
    refine go_goto 17 dX8_over_12 (by decide) ?_
    exact go_iret dX8_over_17 ⟨_, rfl, h⟩
def w_X8_sumOf (this : Nat) (μ : gk_St) (Q : Int32 → gk_St → Prop) : Prop := w_X8_runsTold this μ (fun m1 => Q (m1 this 28) m1)
set_option maxRecDepth 100000 in
set_option maxHeartbeats 4000000 in
theorem k_X8_sumOf {this : Nat} {μ : gk_St} {Q : Int32 → gk_St → Prop} (h_this : gk_isO this 8) (h : w_X8_sumOf this μ Q) : gk_CT yX8_sumOf cX8_sumOf 1 (some .int) 8 [.ref this] μ (gk_Qi Q) := by
  unfold w_X8_sumOf at h
  refine gk_enter (by decide) (Nat.le_of_ble_eq_true rfl) ?_
  show Go RX8 cX8_sumOf 1 (some .int) 8 0 [(0, .ref this)] [] μ (gk_Qi Q)
  refine go_aload_n 0 dX8_sumOf_0 rfl rfl ?_
  refine go_callV (ci := 8) (d' := 7) [] dX8_sumOf_1 cw_RX8_250 ki_X8_runsTold ks_X8_runsTold rfl (by decide) h_this rfl (Nat.le_of_ble_eq_true rfl) (by decide) (k_X8_runsTold h_this h) (gk_kv (fun m1 h => ?_))
  refine go_aload_n 0 dX8_sumOf_4 rfl rfl ?_
  refine go_getI dX8_sumOf_5 fl_RX8_238 h_this (nf_8_28 h_this) ?_
  exact go_iret dX8_sumOf_8 ⟨_, rfl, h⟩
def w_X8_sum (this : Nat) (μ : gk_St) (Q : Int32 → gk_St → Prop) : Prop := w_X8_sumOf this μ (fun r2 m1 => Q r2 m1)
set_option maxRecDepth 100000 in
set_option maxHeartbeats 4000000 in
theorem k_X8_sum {this : Nat} {μ : gk_St} {Q : Int32 → gk_St → Prop} (h_this : gk_isO this 8) (h : w_X8_sum this μ Q) : gk_CT yX8_sum cX8_sum 1 (some .int) 9 [.ref this] μ (gk_Qi Q) := by
  unfold w_X8_sum at h
  refine gk_enter (by decide) (Nat.le_of_ble_eq_true rfl) ?_
  show Go RX8 cX8_sum 1 (some .int) 9 0 [(0, .ref this)] [] μ (gk_Qi Q)
  refine go_aload_n 0 dX8_sum_0 rfl rfl ?_
  refine go_callV (ci := 8) (d' := 8) [] dX8_sum_1 cw_RX8_265 ki_X8_sumOf ks_X8_sumOf rfl (by decide) h_this rfl (Nat.le_of_ble_eq_true rfl) (by decide) (k_X8_sumOf h_this h) (gk_ki (fun r2 m1 h => ?_))
  exact go_iret dX8_sum_4 ⟨_, rfl, h⟩
def w_X8_crowdOf_l9 (Q : Int32 → gk_St → Prop) (K : Int32 → Int32 → Int32 → gk_St → Prop) (this : Nat) : Nat → Int32 → Int32 → Int32 → Int32 → gk_St → Prop
  | 0, _, _, _, _, _ => False
  | n + 1, x1, x2, x3, x4, μ => (if 24 ≤ x4 then K x1 x2 x3 μ else (vp_in (((2 : Int32) * x4) + x1) (gk_ln (gk_rf this 31)) ∧ (vp_in (((2 : Int32) * x3) + x1) (gk_ln (gk_rf this 31)) ∧ (if (μ (gk_rf this 31) (Int32.toNatClampNeg (((2 : Int32) * x4) + x1))) ≤ (μ (gk_rf this 31) (Int32.toNatClampNeg (((2 : Int32) * x3) + x1))) then (∀ v2 : Int32, v2 = x4 + 1 → w_X8_crowdOf_l9 Q K this n x1 x2 x3 v2 μ) else (∀ v3 : Int32, v3 = x4 + 1 → w_X8_crowdOf_l9 Q K this n x1 x2 x4 v3 μ)))))
set_option maxRecDepth 100000 in
set_option maxHeartbeats 4000000 in
theorem k_X8_crowdOf_l9 {Q : Int32 → gk_St → Prop} {K : Int32 → Int32 → Int32 → gk_St → Prop} {this : Nat} (h_this : gk_isO this 8) (hK : ∀ (e1 : Int32) (e2 : Int32) (e3 : Int32) (em : gk_St), K e1 e2 e3 em → Go RX8 cX8_crowdOf 5 (some .int) 8 53 [(0, .ref this), (1, .int e1), (2, .int e2), (3, .int e3)] [] em (gk_Qi Q)) : ∀ (n : Nat) (x1 : Int32) (x2 : Int32) (x3 : Int32) (x4 : Int32) (μ : gk_St), w_X8_crowdOf_l9 Q K this n x1 x2 x3 x4 μ → Go RX8 cX8_crowdOf 5 (some .int) 8 9 [(0, .ref this), (1, .int x1), (2, .int x2), (3, .int x3), (4, .int x4)] [] μ (gk_Qi Q) := by
  intro n
  induction n with
  | zero =>
    intro x1 x2 x3 x4 μ h
    exact False.elim h
  | succ n ih =>
    intro x1 x2 x3 x4 μ h
    unfold w_X8_crowdOf_l9 at h
    refine go_iload 4 dX8_crowdOf_9 rfl ?_
    refine go_bipush (v := 24) dX8_crowdOf_11 (by decide) ?_
    refine go_icmp_ge 53 dX8_crowdOf_13 (by decide) (fun c => ?_) (fun c => ?_)
    · replace h := gk_ip h c
      refine go_lv [0, 1, 2, 3] rfl ?_
      exact hK _ _ _ _ h
    · replace h := gk_in h c
      refine go_aload_n 0 dX8_crowdOf_16 rfl rfl ?_
      refine go_getR dX8_crowdOf_17 fl_RX8_64 h_this (rr_8_31 h_this) ?_
      refine go_iconst (v := 2) dX8_crowdOf_20 (by decide) ?_
      refine go_iload 4 dX8_crowdOf_21 rfl ?_
      refine go_imul dX8_crowdOf_23 ?_
      refine go_iload_n 1 dX8_crowdOf_24 rfl rfl ?_
      refine go_iadd dX8_crowdOf_25 ?_
      refine go_iaload dX8_crowdOf_26 (rt_8_31 h_this) h.1 ?_
      replace h := h.2
      refine go_aload_n 0 dX8_crowdOf_27 rfl rfl ?_
      refine go_getR dX8_crowdOf_28 fl_RX8_64 h_this (rr_8_31 h_this) ?_
      refine go_iconst (v := 2) dX8_crowdOf_31 (by decide) ?_
      refine go_iload_n 3 dX8_crowdOf_32 rfl rfl ?_
      refine go_imul dX8_crowdOf_33 ?_
      refine go_iload_n 1 dX8_crowdOf_34 rfl rfl ?_
      refine go_iadd dX8_crowdOf_35 ?_
      refine go_iaload dX8_crowdOf_36 (rt_8_31 h_this) h.1 ?_
      replace h := h.2
      refine go_icmp_le 45 dX8_crowdOf_37 (by decide) (fun c => ?_) (fun c => ?_)
      · replace h := gk_ip h c
        refine go_iload_n 3 dX8_crowdOf_45 rfl rfl ?_
        refine go_istore_n [(3, .int x3), (0, .ref this), (1, .int x1), (2, .int x2), (4, .int x4)] dX8_crowdOf_46 rfl (by decide) rfl ?_
        refine gb_iinc (w := 1) 4 (fun v2 => [(4, .int v2), (3, .int x3), (0, .ref this), (1, .int x1), (2, .int x2)]) dX8_crowdOf_47 rfl (by decide) (by decide) (fun _ => rfl) (fun v2 e => ?_)
        replace h := h v2 e
        refine go_goto 9 dX8_crowdOf_50 (by decide) ?_
        refine go_lv [2, 3, 4, 1, 0] rfl ?_
        exact ih _ _ _ _ _ h
      · replace h := gk_in h c
        refine go_iload 4 dX8_crowdOf_40 rfl ?_
        refine go_goto 46 dX8_crowdOf_42 (by decide) ?_
        refine go_istore_n [(3, .int x4), (0, .ref this), (1, .int x1), (2, .int x2), (4, .int x4)] dX8_crowdOf_46 rfl (by decide) rfl ?_
        refine gb_iinc (w := 1) 4 (fun v3 => [(4, .int v3), (3, .int x4), (0, .ref this), (1, .int x1), (2, .int x2)]) dX8_crowdOf_47 rfl (by decide) (by decide) (fun _ => rfl) (fun v3 e => ?_)
        replace h := h v3 e
        refine go_goto 9 dX8_crowdOf_50 (by decide) ?_
        refine go_lv [2, 3, 4, 1, 0] rfl ?_
        exact ih _ _ _ _ _ h
def w_X8_crowdOf (this : Nat) (x1 : Int32) (x2 : Int32) (μ : gk_St) (Q : Int32 → gk_St → Prop) : Prop := w_X8_runsTold this μ (fun m1 => (∃ n9 : Nat, w_X8_crowdOf_l9 Q (fun y4 y5 y6 m7 => (if y5 = 0 then Q y6 m7 else (vp_in (((2 : Int32) * y6) + y4) (gk_ln (gk_rf this 31)) ∧ Q (m7 (gk_rf this 31) (Int32.toNatClampNeg (((2 : Int32) * y6) + y4))) m7))) this n9 x1 x2 0 1 m1))
set_option maxRecDepth 100000 in
set_option maxHeartbeats 4000000 in
theorem k_X8_crowdOf {this : Nat} {x1 : Int32} {x2 : Int32} {μ : gk_St} {Q : Int32 → gk_St → Prop} (h_this : gk_isO this 8) (h : w_X8_crowdOf this x1 x2 μ Q) : gk_CT yX8_crowdOf cX8_crowdOf 5 (some .int) 8 [.ref this, .int x1, .int x2] μ (gk_Qi Q) := by
  unfold w_X8_crowdOf at h
  refine gk_enter (by decide) (Nat.le_of_ble_eq_true rfl) ?_
  show Go RX8 cX8_crowdOf 5 (some .int) 8 0 [(0, .ref this), (1, .int x1), (2, .int x2)] [] μ (gk_Qi Q)
  refine go_aload_n 0 dX8_crowdOf_0 rfl rfl ?_
  refine go_callV (ci := 8) (d' := 7) [] dX8_crowdOf_1 cw_RX8_250 ki_X8_runsTold ks_X8_runsTold rfl (by decide) h_this rfl (Nat.le_of_ble_eq_true rfl) (by decide) (k_X8_runsTold h_this h) (gk_kv (fun m1 h => ?_))
  refine go_iconst (v := 0) dX8_crowdOf_4 (by decide) ?_
  refine go_istore_n [(3, .int 0), (0, .ref this), (1, .int x1), (2, .int x2)] dX8_crowdOf_5 rfl (by decide) rfl ?_
  refine go_iconst (v := 1) dX8_crowdOf_6 (by decide) ?_
  refine go_istore [(4, .int 1), (3, .int 0), (0, .ref this), (1, .int x1), (2, .int x2)] dX8_crowdOf_7 (by decide) rfl ?_
  refine go_lv [2, 3, 4, 1, 0] rfl ?_
  obtain ⟨n9, h⟩ := h
  refine k_X8_crowdOf_l9 h_this (fun y4 y5 y6 m7 h => ?_) n9 _ _ _ _ _ h
  refine go_iload_n 2 dX8_crowdOf_53 rfl rfl ?_
  refine go_if_ne 61 dX8_crowdOf_54 (by decide) (fun c => ?_) (fun c => ?_)
  · replace h := gk_in h c
    refine go_aload_n 0 dX8_crowdOf_61 rfl rfl ?_
    refine go_getR dX8_crowdOf_62 fl_RX8_64 h_this (rr_8_31 h_this) ?_
    refine go_iconst (v := 2) dX8_crowdOf_65 (by decide) ?_
    refine go_iload_n 3 dX8_crowdOf_66 rfl rfl ?_
    refine go_imul dX8_crowdOf_67 ?_
    refine go_iload_n 1 dX8_crowdOf_68 rfl rfl ?_
    refine go_iadd dX8_crowdOf_69 ?_
    refine go_iaload dX8_crowdOf_70 (rt_8_31 h_this) h.1 ?_
    replace h := h.2
    exact go_iret dX8_crowdOf_71 ⟨_, rfl, h⟩
  · replace h := gk_ip h c
    refine go_iload_n 3 dX8_crowdOf_57 rfl rfl ?_
    refine go_goto 71 dX8_crowdOf_58 (by decide) ?_
    exact go_iret dX8_crowdOf_71 ⟨_, rfl, h⟩
def w_X8_crowd (this : Nat) (x1 : Int32) (x2 : Int32) (μ : gk_St) (Q : Int32 → gk_St → Prop) : Prop := w_X8_isTwo x1 μ (fun r2 m1 => (if r2 = 0 then Q (-2) m1 else w_X8_isTwo x2 m1 (fun r4 m3 => (if r4 = 0 then Q (-2) m3 else w_X8_crowdOf this x1 x2 m3 (fun r6 m5 => Q r6 m5)))))
set_option maxRecDepth 100000 in
set_option maxHeartbeats 4000000 in
theorem k_X8_crowd {this : Nat} {x1 : Int32} {x2 : Int32} {μ : gk_St} {Q : Int32 → gk_St → Prop} (h_this : gk_isO this 8) (h : w_X8_crowd this x1 x2 μ Q) : gk_CT yX8_crowd cX8_crowd 3 (some .int) 9 [.ref this, .int x1, .int x2] μ (gk_Qi Q) := by
  unfold w_X8_crowd at h
  refine gk_enter (by decide) (Nat.le_of_ble_eq_true rfl) ?_
  show Go RX8 cX8_crowd 3 (some .int) 9 0 [(0, .ref this), (1, .int x1), (2, .int x2)] [] μ (gk_Qi Q)
  refine go_iload_n 1 dX8_crowd_0 rfl rfl ?_
  refine go_callS (d' := 1) [.int x1] dX8_crowd_1 cw_RX8_253 kt_X8_isTwo rfl (Nat.le_of_ble_eq_true rfl) (by decide) (k_X8_isTwo h) (gk_ki (fun r2 m1 h => ?_))
  refine go_if_eq 23 dX8_crowd_4 (by decide) (fun c => ?_) (fun c => ?_)
  · replace h := gk_ip h c
    refine go_bipush (v := (-2)) dX8_crowd_23 (by decide) ?_
    exact go_iret dX8_crowd_25 ⟨_, rfl, h⟩
  · replace h := gk_in h c
    refine go_iload_n 2 dX8_crowd_7 rfl rfl ?_
    refine go_callS (d' := 1) [.int x2] dX8_crowd_8 cw_RX8_253 kt_X8_isTwo rfl (Nat.le_of_ble_eq_true rfl) (by decide) (k_X8_isTwo h) (gk_ki (fun r4 m3 h => ?_))
    refine go_if_eq 23 dX8_crowd_11 (by decide) (fun c => ?_) (fun c => ?_)
    · replace h := gk_ip h c
      refine go_bipush (v := (-2)) dX8_crowd_23 (by decide) ?_
      exact go_iret dX8_crowd_25 ⟨_, rfl, h⟩
    · replace h := gk_in h c
      refine go_aload_n 0 dX8_crowd_14 rfl rfl ?_
      refine go_iload_n 1 dX8_crowd_15 rfl rfl ?_
      refine go_iload_n 2 dX8_crowd_16 rfl rfl ?_
      refine go_callV (ci := 8) (d' := 8) [.int x1, .int x2] dX8_crowd_17 cw_RX8_268 ki_X8_crowdOf ks_X8_crowdOf rfl (by decide) h_this rfl (Nat.le_of_ble_eq_true rfl) (by decide) (k_X8_crowdOf h_this h) (gk_ki (fun r6 m5 h => ?_))
      refine go_goto 25 dX8_crowd_20 (by decide) ?_
      exact go_iret dX8_crowd_25 ⟨_, rfl, h⟩
def w_X8_firstOf (this : Nat) (x1 : Int32) (μ : gk_St) (Q : Int32 → gk_St → Prop) : Prop := w_X8_runsTold this μ (fun m1 => (if x1 = 0 then Q (m1 this 29) m1 else Q (m1 this 30) m1))
set_option maxRecDepth 100000 in
set_option maxHeartbeats 4000000 in
theorem k_X8_firstOf {this : Nat} {x1 : Int32} {μ : gk_St} {Q : Int32 → gk_St → Prop} (h_this : gk_isO this 8) (h : w_X8_firstOf this x1 μ Q) : gk_CT yX8_firstOf cX8_firstOf 2 (some .int) 8 [.ref this, .int x1] μ (gk_Qi Q) := by
  unfold w_X8_firstOf at h
  refine gk_enter (by decide) (Nat.le_of_ble_eq_true rfl) ?_
  show Go RX8 cX8_firstOf 2 (some .int) 8 0 [(0, .ref this), (1, .int x1)] [] μ (gk_Qi Q)
  refine go_aload_n 0 dX8_firstOf_0 rfl rfl ?_
  refine go_callV (ci := 8) (d' := 7) [] dX8_firstOf_1 cw_RX8_250 ki_X8_runsTold ks_X8_runsTold rfl (by decide) h_this rfl (Nat.le_of_ble_eq_true rfl) (by decide) (k_X8_runsTold h_this h) (gk_kv (fun m1 h => ?_))
  refine go_iload_n 1 dX8_firstOf_4 rfl rfl ?_
  refine go_if_ne 15 dX8_firstOf_5 (by decide) (fun c => ?_) (fun c => ?_)
  · replace h := gk_in h c
    refine go_aload_n 0 dX8_firstOf_15 rfl rfl ?_
    refine go_getI dX8_firstOf_16 fl_RX8_211 h_this (nf_8_30 h_this) ?_
    exact go_iret dX8_firstOf_19 ⟨_, rfl, h⟩
  · replace h := gk_ip h c
    refine go_aload_n 0 dX8_firstOf_8 rfl rfl ?_
    refine go_getI dX8_firstOf_9 fl_RX8_208 h_this (nf_8_29 h_this) ?_
    refine go_goto 19 dX8_firstOf_12 (by decide) ?_
    exact go_iret dX8_firstOf_19 ⟨_, rfl, h⟩
def w_X8_first (this : Nat) (x1 : Int32) (μ : gk_St) (Q : Int32 → gk_St → Prop) : Prop := w_X8_isTwo x1 μ (fun r2 m1 => (if r2 = 0 then Q (-2) m1 else w_X8_firstOf this x1 m1 (fun r4 m3 => Q r4 m3)))
set_option maxRecDepth 100000 in
set_option maxHeartbeats 4000000 in
theorem k_X8_first {this : Nat} {x1 : Int32} {μ : gk_St} {Q : Int32 → gk_St → Prop} (h_this : gk_isO this 8) (h : w_X8_first this x1 μ Q) : gk_CT yX8_first cX8_first 2 (some .int) 9 [.ref this, .int x1] μ (gk_Qi Q) := by
  unfold w_X8_first at h
  refine gk_enter (by decide) (Nat.le_of_ble_eq_true rfl) ?_
  show Go RX8 cX8_first 2 (some .int) 9 0 [(0, .ref this), (1, .int x1)] [] μ (gk_Qi Q)
  refine go_iload_n 1 dX8_first_0 rfl rfl ?_
  refine go_callS (d' := 1) [.int x1] dX8_first_1 cw_RX8_253 kt_X8_isTwo rfl (Nat.le_of_ble_eq_true rfl) (by decide) (k_X8_isTwo h) (gk_ki (fun r2 m1 h => ?_))
  refine go_if_eq 15 dX8_first_4 (by decide) (fun c => ?_) (fun c => ?_)
  · replace h := gk_ip h c
    refine go_bipush (v := (-2)) dX8_first_15 (by decide) ?_
    exact go_iret dX8_first_17 ⟨_, rfl, h⟩
  · replace h := gk_in h c
    refine go_aload_n 0 dX8_first_7 rfl rfl ?_
    refine go_iload_n 1 dX8_first_8 rfl rfl ?_
    refine go_callV (ci := 8) (d' := 8) [.int x1] dX8_first_9 cw_RX8_271 ki_X8_firstOf ks_X8_firstOf rfl (by decide) h_this rfl (Nat.le_of_ble_eq_true rfl) (by decide) (k_X8_firstOf h_this h) (gk_ki (fun r4 m3 h => ?_))
    refine go_goto 17 dX8_first_12 (by decide) ?_
    exact go_iret dX8_first_17 ⟨_, rfl, h⟩
def w_X8_carriedOf (this : Nat) (x1 : Int32) (μ : gk_St) (Q : Int32 → gk_St → Prop) : Prop := w_X8_runsTold this μ (fun m1 => (vp_in x1 (gk_ln (gk_rf this 23)) ∧ Q (m1 (gk_rf this 23) x1.toNatClampNeg) m1))
set_option maxRecDepth 100000 in
set_option maxHeartbeats 4000000 in
theorem k_X8_carriedOf {this : Nat} {x1 : Int32} {μ : gk_St} {Q : Int32 → gk_St → Prop} (h_this : gk_isO this 8) (h : w_X8_carriedOf this x1 μ Q) : gk_CT yX8_carriedOf cX8_carriedOf 2 (some .int) 8 [.ref this, .int x1] μ (gk_Qi Q) := by
  unfold w_X8_carriedOf at h
  refine gk_enter (by decide) (Nat.le_of_ble_eq_true rfl) ?_
  show Go RX8 cX8_carriedOf 2 (some .int) 8 0 [(0, .ref this), (1, .int x1)] [] μ (gk_Qi Q)
  refine go_aload_n 0 dX8_carriedOf_0 rfl rfl ?_
  refine go_callV (ci := 8) (d' := 7) [] dX8_carriedOf_1 cw_RX8_250 ki_X8_runsTold ks_X8_runsTold rfl (by decide) h_this rfl (Nat.le_of_ble_eq_true rfl) (by decide) (k_X8_runsTold h_this h) (gk_kv (fun m1 h => ?_))
  refine go_aload_n 0 dX8_carriedOf_4 rfl rfl ?_
  refine go_getR dX8_carriedOf_5 fl_RX8_55 h_this (rr_8_23 h_this) ?_
  refine go_iload_n 1 dX8_carriedOf_8 rfl rfl ?_
  refine go_iaload dX8_carriedOf_9 (rt_8_23 h_this) h.1 ?_
  replace h := h.2
  exact go_iret dX8_carriedOf_10 ⟨_, rfl, h⟩
def w_X8_carried (this : Nat) (x1 : Int32) (μ : gk_St) (Q : Int32 → gk_St → Prop) : Prop := w_X8_isCar this x1 μ (fun r2 m1 => (if r2 = 0 then Q (-2) m1 else w_X8_carriedOf this x1 m1 (fun r4 m3 => Q r4 m3)))
set_option maxRecDepth 100000 in
set_option maxHeartbeats 4000000 in
theorem k_X8_carried {this : Nat} {x1 : Int32} {μ : gk_St} {Q : Int32 → gk_St → Prop} (h_this : gk_isO this 8) (h : w_X8_carried this x1 μ Q) : gk_CT yX8_carried cX8_carried 2 (some .int) 9 [.ref this, .int x1] μ (gk_Qi Q) := by
  unfold w_X8_carried at h
  refine gk_enter (by decide) (Nat.le_of_ble_eq_true rfl) ?_
  show Go RX8 cX8_carried 2 (some .int) 9 0 [(0, .ref this), (1, .int x1)] [] μ (gk_Qi Q)
  refine go_aload_n 0 dX8_carried_0 rfl rfl ?_
  refine go_iload_n 1 dX8_carried_1 rfl rfl ?_
  refine go_callV (ci := 8) (d' := 6) [.int x1] dX8_carried_2 cw_RX8_164 ki_X8_isCar ks_X8_isCar rfl (by decide) h_this rfl (Nat.le_of_ble_eq_true rfl) (by decide) (k_X8_isCar h_this h) (gk_ki (fun r2 m1 h => ?_))
  refine go_if_eq 16 dX8_carried_5 (by decide) (fun c => ?_) (fun c => ?_)
  · replace h := gk_ip h c
    refine go_bipush (v := (-2)) dX8_carried_16 (by decide) ?_
    exact go_iret dX8_carried_18 ⟨_, rfl, h⟩
  · replace h := gk_in h c
    refine go_aload_n 0 dX8_carried_8 rfl rfl ?_
    refine go_iload_n 1 dX8_carried_9 rfl rfl ?_
    refine go_callV (ci := 8) (d' := 8) [.int x1] dX8_carried_10 cw_RX8_274 ki_X8_carriedOf ks_X8_carriedOf rfl (by decide) h_this rfl (Nat.le_of_ble_eq_true rfl) (by decide) (k_X8_carriedOf h_this h) (gk_ki (fun r4 m3 h => ?_))
    refine go_goto 18 dX8_carried_13 (by decide) ?_
    exact go_iret dX8_carried_18 ⟨_, rfl, h⟩
def w_X8_idleOf (this : Nat) (μ : gk_St) (Q : Int32 → gk_St → Prop) : Prop := w_X8_runsTold this μ (fun m1 => Q ((((1 : Int32) <<< ((m1 this 2) &&& 31)) - 1) &&& ((m1 this 24) ^^^ (-1))) m1)
set_option maxRecDepth 100000 in
set_option maxHeartbeats 4000000 in
theorem k_X8_idleOf {this : Nat} {μ : gk_St} {Q : Int32 → gk_St → Prop} (h_this : gk_isO this 8) (h : w_X8_idleOf this μ Q) : gk_CT yX8_idleOf cX8_idleOf 1 (some .int) 8 [.ref this] μ (gk_Qi Q) := by
  unfold w_X8_idleOf at h
  refine gk_enter (by decide) (Nat.le_of_ble_eq_true rfl) ?_
  show Go RX8 cX8_idleOf 1 (some .int) 8 0 [(0, .ref this)] [] μ (gk_Qi Q)
  refine go_aload_n 0 dX8_idleOf_0 rfl rfl ?_
  refine go_callV (ci := 8) (d' := 7) [] dX8_idleOf_1 cw_RX8_250 ki_X8_runsTold ks_X8_runsTold rfl (by decide) h_this rfl (Nat.le_of_ble_eq_true rfl) (by decide) (k_X8_runsTold h_this h) (gk_kv (fun m1 h => ?_))
  refine go_iconst (v := 1) dX8_idleOf_4 (by decide) ?_
  refine go_aload_n 0 dX8_idleOf_5 rfl rfl ?_
  refine go_getI dX8_idleOf_6 fl_RX8_135 h_this (nf_8_2 h_this) ?_
  refine go_ishl dX8_idleOf_9 ?_
  refine go_iconst (v := 1) dX8_idleOf_10 (by decide) ?_
  refine go_isub dX8_idleOf_11 ?_
  refine go_aload_n 0 dX8_idleOf_12 rfl rfl ?_
  refine go_getI dX8_idleOf_13 fl_RX8_214 h_this (nf_8_24 h_this) ?_
  refine go_iconst (v := (-1)) dX8_idleOf_16 (by decide) ?_
  refine go_ixor dX8_idleOf_17 ?_
  refine go_iand dX8_idleOf_18 ?_
  exact go_iret dX8_idleOf_19 ⟨_, rfl, h⟩
def w_X8_idle (this : Nat) (μ : gk_St) (Q : Int32 → gk_St → Prop) : Prop := w_X8_idleOf this μ (fun r2 m1 => Q r2 m1)
set_option maxRecDepth 100000 in
set_option maxHeartbeats 4000000 in
theorem k_X8_idle {this : Nat} {μ : gk_St} {Q : Int32 → gk_St → Prop} (h_this : gk_isO this 8) (h : w_X8_idle this μ Q) : gk_CT yX8_idle cX8_idle 1 (some .int) 9 [.ref this] μ (gk_Qi Q) := by
  unfold w_X8_idle at h
  refine gk_enter (by decide) (Nat.le_of_ble_eq_true rfl) ?_
  show Go RX8 cX8_idle 1 (some .int) 9 0 [(0, .ref this)] [] μ (gk_Qi Q)
  refine go_aload_n 0 dX8_idle_0 rfl rfl ?_
  refine go_callV (ci := 8) (d' := 8) [] dX8_idle_1 cw_RX8_277 ki_X8_idleOf ks_X8_idleOf rfl (by decide) h_this rfl (Nat.le_of_ble_eq_true rfl) (by decide) (k_X8_idleOf h_this h) (gk_ki (fun r2 m1 h => ?_))
  exact go_iret dX8_idle_4 ⟨_, rfl, h⟩
def w_X8_leftNow (this : Nat) (μ : gk_St) (Q : Int32 → gk_St → Prop) : Prop := (vp_in 0 (gk_ln (gk_rf this 25)) ∧ (vp_in 1 (gk_ln (gk_rf this 25)) ∧ (vp_in 23 (gk_ln (gk_rf this 32)) ∧ Q (((μ (gk_rf this 25) (0 : Int32).toNatClampNeg) + (μ (gk_rf this 25) (1 : Int32).toNatClampNeg)) + (μ (gk_rf this 32) (23 : Int32).toNatClampNeg)) μ)))
set_option maxRecDepth 100000 in
set_option maxHeartbeats 4000000 in
theorem k_X8_leftNow {this : Nat} {μ : gk_St} {Q : Int32 → gk_St → Prop} (h_this : gk_isO this 8) (h : w_X8_leftNow this μ Q) : gk_CT yX8_leftNow cX8_leftNow 1 (some .int) 0 [.ref this] μ (gk_Qi Q) := by
  unfold w_X8_leftNow at h
  refine gk_enter (by decide) (Nat.le_of_ble_eq_true rfl) ?_
  show Go RX8 cX8_leftNow 1 (some .int) 0 0 [(0, .ref this)] [] μ (gk_Qi Q)
  refine go_aload_n 0 dX8_leftNow_0 rfl rfl ?_
  refine go_getR dX8_leftNow_1 fl_RX8_58 h_this (rr_8_25 h_this) ?_
  refine go_iconst (v := 0) dX8_leftNow_4 (by decide) ?_
  refine go_iaload dX8_leftNow_5 (rt_8_25 h_this) h.1 ?_
  replace h := h.2
  refine go_aload_n 0 dX8_leftNow_6 rfl rfl ?_
  refine go_getR dX8_leftNow_7 fl_RX8_58 h_this (rr_8_25 h_this) ?_
  refine go_iconst (v := 1) dX8_leftNow_10 (by decide) ?_
  refine go_iaload dX8_leftNow_11 (rt_8_25 h_this) h.1 ?_
  replace h := h.2
  refine go_iadd dX8_leftNow_12 ?_
  refine go_aload_n 0 dX8_leftNow_13 rfl rfl ?_
  refine go_getR dX8_leftNow_14 fl_RX8_67 h_this (rr_8_32 h_this) ?_
  refine go_bipush (v := 23) dX8_leftNow_17 (by decide) ?_
  refine go_iaload dX8_leftNow_19 (rt_8_32 h_this) h.1 ?_
  replace h := h.2
  refine go_iadd dX8_leftNow_20 ?_
  exact go_iret dX8_leftNow_21 ⟨_, rfl, h⟩
def w_X8_leftOf (this : Nat) (μ : gk_St) (Q : Int32 → gk_St → Prop) : Prop := w_X8_runsTold this μ (fun m1 => w_X8_leftNow this m1 (fun r3 m2 => Q r3 m2))
set_option maxRecDepth 100000 in
set_option maxHeartbeats 4000000 in
theorem k_X8_leftOf {this : Nat} {μ : gk_St} {Q : Int32 → gk_St → Prop} (h_this : gk_isO this 8) (h : w_X8_leftOf this μ Q) : gk_CT yX8_leftOf cX8_leftOf 1 (some .int) 8 [.ref this] μ (gk_Qi Q) := by
  unfold w_X8_leftOf at h
  refine gk_enter (by decide) (Nat.le_of_ble_eq_true rfl) ?_
  show Go RX8 cX8_leftOf 1 (some .int) 8 0 [(0, .ref this)] [] μ (gk_Qi Q)
  refine go_aload_n 0 dX8_leftOf_0 rfl rfl ?_
  refine go_callV (ci := 8) (d' := 7) [] dX8_leftOf_1 cw_RX8_250 ki_X8_runsTold ks_X8_runsTold rfl (by decide) h_this rfl (Nat.le_of_ble_eq_true rfl) (by decide) (k_X8_runsTold h_this h) (gk_kv (fun m1 h => ?_))
  refine go_aload_n 0 dX8_leftOf_4 rfl rfl ?_
  refine go_callV (ci := 8) (d' := 0) [] dX8_leftOf_5 cw_RX8_280 ki_X8_leftNow ks_X8_leftNow rfl (by decide) h_this rfl (Nat.le_of_ble_eq_true rfl) (by decide) (k_X8_leftNow h_this h) (gk_ki (fun r3 m2 h => ?_))
  exact go_iret dX8_leftOf_8 ⟨_, rfl, h⟩
def w_X8_left (this : Nat) (μ : gk_St) (Q : Int32 → gk_St → Prop) : Prop := w_X8_leftOf this μ (fun r2 m1 => Q r2 m1)
set_option maxRecDepth 100000 in
set_option maxHeartbeats 4000000 in
theorem k_X8_left {this : Nat} {μ : gk_St} {Q : Int32 → gk_St → Prop} (h_this : gk_isO this 8) (h : w_X8_left this μ Q) : gk_CT yX8_left cX8_left 1 (some .int) 9 [.ref this] μ (gk_Qi Q) := by
  unfold w_X8_left at h
  refine gk_enter (by decide) (Nat.le_of_ble_eq_true rfl) ?_
  show Go RX8 cX8_left 1 (some .int) 9 0 [(0, .ref this)] [] μ (gk_Qi Q)
  refine go_aload_n 0 dX8_left_0 rfl rfl ?_
  refine go_callV (ci := 8) (d' := 8) [] dX8_left_1 cw_RX8_283 ki_X8_leftOf ks_X8_leftOf rfl (by decide) h_this rfl (Nat.le_of_ble_eq_true rfl) (by decide) (k_X8_leftOf h_this h) (gk_ki (fun r2 m1 h => ?_))
  exact go_iret dX8_left_4 ⟨_, rfl, h⟩
def w_X8_bothOver (this : Nat) (μ : gk_St) (Q : Int32 → gk_St → Prop) : Prop := (vp_in 0 (gk_ln (gk_rf this 26)) ∧ (vp_in 1 (gk_ln (gk_rf this 26)) ∧ Q ((μ (gk_rf this 26) (0 : Int32).toNatClampNeg) + (μ (gk_rf this 26) (1 : Int32).toNatClampNeg)) μ))
set_option maxRecDepth 100000 in
set_option maxHeartbeats 4000000 in
theorem k_X8_bothOver {this : Nat} {μ : gk_St} {Q : Int32 → gk_St → Prop} (h_this : gk_isO this 8) (h : w_X8_bothOver this μ Q) : gk_CT yX8_bothOver cX8_bothOver 1 (some .int) 0 [.ref this] μ (gk_Qi Q) := by
  unfold w_X8_bothOver at h
  refine gk_enter (by decide) (Nat.le_of_ble_eq_true rfl) ?_
  show Go RX8 cX8_bothOver 1 (some .int) 0 0 [(0, .ref this)] [] μ (gk_Qi Q)
  refine go_aload_n 0 dX8_bothOver_0 rfl rfl ?_
  refine go_getR dX8_bothOver_1 fl_RX8_61 h_this (rr_8_26 h_this) ?_
  refine go_iconst (v := 0) dX8_bothOver_4 (by decide) ?_
  refine go_iaload dX8_bothOver_5 (rt_8_26 h_this) h.1 ?_
  replace h := h.2
  refine go_aload_n 0 dX8_bothOver_6 rfl rfl ?_
  refine go_getR dX8_bothOver_7 fl_RX8_61 h_this (rr_8_26 h_this) ?_
  refine go_iconst (v := 1) dX8_bothOver_10 (by decide) ?_
  refine go_iaload dX8_bothOver_11 (rt_8_26 h_this) h.1 ?_
  replace h := h.2
  refine go_iadd dX8_bothOver_12 ?_
  exact go_iret dX8_bothOver_13 ⟨_, rfl, h⟩
def w_X8_isOther_j35 (Q : Int32 → gk_St → Prop) (K : Int32 → gk_St → Prop) (C : Int32 → Int32 → Int32 → Int32 → gk_St → Prop) (this : Nat) (x1 : Int32) (x2 : Int32) (x4 : Int32) (μ : gk_St) : Prop := (∀ v1 : Int32, v1 = x4 + 1 → C x1 x2 1 v1 μ)
set_option maxRecDepth 100000 in
set_option maxHeartbeats 4000000 in
theorem k_X8_isOther_j35 {Q : Int32 → gk_St → Prop} {K : Int32 → gk_St → Prop} {C : Int32 → Int32 → Int32 → Int32 → gk_St → Prop} {this : Nat} {x1 : Int32} {x2 : Int32} {x4 : Int32} {μ : gk_St} (h_this : gk_isO this 8) (hK : ∀ (e3 : Int32) (em : gk_St), K e3 em → Go RX8 cX8_isOther 5 (some .boolean) 0 47 [(3, .int e3)] [] em (gk_Qi Q)) (hC : ∀ (c1 : Int32) (c2 : Int32) (c3 : Int32) (c4 : Int32) (cm : gk_St), C c1 c2 c3 c4 cm → Go RX8 cX8_isOther 5 (some .boolean) 0 5 [(0, .ref this), (1, .int c1), (2, .int c2), (3, .int c3), (4, .int c4)] [] cm (gk_Qi Q)) (h : w_X8_isOther_j35 Q K C this x1 x2 x4 μ) : Go RX8 cX8_isOther 5 (some .boolean) 0 35 [(0, .ref this), (1, .int x1), (2, .int x2), (4, .int x4)] [] μ (gk_Qi Q) := by
  unfold w_X8_isOther_j35 at h
  refine go_iconst (v := 1) dX8_isOther_35 (by decide) ?_
  refine go_goto 40 dX8_isOther_36 (by decide) ?_
  refine go_istore_n [(3, .int 1), (0, .ref this), (1, .int x1), (2, .int x2), (4, .int x4)] dX8_isOther_40 rfl (by decide) rfl ?_
  refine gb_iinc (w := 1) 4 (fun v1 => [(4, .int v1), (3, .int 1), (0, .ref this), (1, .int x1), (2, .int x2)]) dX8_isOther_41 rfl (by decide) (by decide) (fun _ => rfl) (fun v1 e => ?_)
  replace h := h v1 e
  refine go_goto 5 dX8_isOther_44 (by decide) ?_
  refine go_lv [2, 3, 4, 1, 0] rfl ?_
  exact hC _ _ _ _ _ h
def w_X8_isOther_j39 (Q : Int32 → gk_St → Prop) (K : Int32 → gk_St → Prop) (C : Int32 → Int32 → Int32 → Int32 → gk_St → Prop) (this : Nat) (x1 : Int32) (x2 : Int32) (x4 : Int32) (μ : gk_St) : Prop := (∀ v2 : Int32, v2 = x4 + 1 → C x1 x2 0 v2 μ)
set_option maxRecDepth 100000 in
set_option maxHeartbeats 4000000 in
theorem k_X8_isOther_j39 {Q : Int32 → gk_St → Prop} {K : Int32 → gk_St → Prop} {C : Int32 → Int32 → Int32 → Int32 → gk_St → Prop} {this : Nat} {x1 : Int32} {x2 : Int32} {x4 : Int32} {μ : gk_St} (h_this : gk_isO this 8) (hK : ∀ (e3 : Int32) (em : gk_St), K e3 em → Go RX8 cX8_isOther 5 (some .boolean) 0 47 [(3, .int e3)] [] em (gk_Qi Q)) (hC : ∀ (c1 : Int32) (c2 : Int32) (c3 : Int32) (c4 : Int32) (cm : gk_St), C c1 c2 c3 c4 cm → Go RX8 cX8_isOther 5 (some .boolean) 0 5 [(0, .ref this), (1, .int c1), (2, .int c2), (3, .int c3), (4, .int c4)] [] cm (gk_Qi Q)) (h : w_X8_isOther_j39 Q K C this x1 x2 x4 μ) : Go RX8 cX8_isOther 5 (some .boolean) 0 39 [(0, .ref this), (1, .int x1), (2, .int x2), (4, .int x4)] [] μ (gk_Qi Q) := by
  unfold w_X8_isOther_j39 at h
  refine go_iconst (v := 0) dX8_isOther_39 (by decide) ?_
  refine go_istore_n [(3, .int 0), (0, .ref this), (1, .int x1), (2, .int x2), (4, .int x4)] dX8_isOther_40 rfl (by decide) rfl ?_
  refine gb_iinc (w := 1) 4 (fun v2 => [(4, .int v2), (3, .int 0), (0, .ref this), (1, .int x1), (2, .int x2)]) dX8_isOther_41 rfl (by decide) (by decide) (fun _ => rfl) (fun v2 e => ?_)
  replace h := h v2 e
  refine go_goto 5 dX8_isOther_44 (by decide) ?_
  refine go_lv [2, 3, 4, 1, 0] rfl ?_
  exact hC _ _ _ _ _ h
def w_X8_isOther_l5 (Q : Int32 → gk_St → Prop) (K : Int32 → gk_St → Prop) (this : Nat) : Nat → Int32 → Int32 → Int32 → Int32 → gk_St → Prop
  | 0, _, _, _, _, _ => False
  | n + 1, x1, x2, x3, x4, μ => (if (μ this 2) ≤ x4 then K x3 μ else (if x3 = 0 then (if x4 = x1 then w_X8_isOther_j39 Q K (fun c_x1 c_x2 c_x3 c_x4 cm => w_X8_isOther_l5 Q K this n c_x1 c_x2 c_x3 c_x4 cm) this x1 x2 x4 μ else (vp_in x4 (gk_ln (gk_rf this 3)) ∧ (if (μ (gk_rf this 3) x4.toNatClampNeg) = x2 then w_X8_isOther_j35 Q K (fun c_x1 c_x2 c_x3 c_x4 cm => w_X8_isOther_l5 Q K this n c_x1 c_x2 c_x3 c_x4 cm) this x1 x2 x4 μ else w_X8_isOther_j39 Q K (fun c_x1 c_x2 c_x3 c_x4 cm => w_X8_isOther_l5 Q K this n c_x1 c_x2 c_x3 c_x4 cm) this x1 x2 x4 μ))) else w_X8_isOther_j35 Q K (fun c_x1 c_x2 c_x3 c_x4 cm => w_X8_isOther_l5 Q K this n c_x1 c_x2 c_x3 c_x4 cm) this x1 x2 x4 μ))
set_option maxRecDepth 100000 in
set_option maxHeartbeats 4000000 in
theorem k_X8_isOther_l5 {Q : Int32 → gk_St → Prop} {K : Int32 → gk_St → Prop} {this : Nat} (h_this : gk_isO this 8) (hK : ∀ (e3 : Int32) (em : gk_St), K e3 em → Go RX8 cX8_isOther 5 (some .boolean) 0 47 [(3, .int e3)] [] em (gk_Qi Q)) : ∀ (n : Nat) (x1 : Int32) (x2 : Int32) (x3 : Int32) (x4 : Int32) (μ : gk_St), w_X8_isOther_l5 Q K this n x1 x2 x3 x4 μ → Go RX8 cX8_isOther 5 (some .boolean) 0 5 [(0, .ref this), (1, .int x1), (2, .int x2), (3, .int x3), (4, .int x4)] [] μ (gk_Qi Q) := by
  intro n
  induction n with
  | zero =>
    intro x1 x2 x3 x4 μ h
    exact False.elim h
  | succ n ih =>
    intro x1 x2 x3 x4 μ h
    unfold w_X8_isOther_l5 at h
    refine go_iload 4 dX8_isOther_5 rfl ?_
    refine go_aload_n 0 dX8_isOther_7 rfl rfl ?_
    refine go_getI dX8_isOther_8 fl_RX8_135 h_this (nf_8_2 h_this) ?_
    refine go_icmp_ge 47 dX8_isOther_11 (by decide) (fun c => ?_) (fun c => ?_)
    · replace h := gk_ip h c
      refine go_lv [3] rfl ?_
      exact hK _ _ h
    · replace h := gk_in h c
      refine go_iload_n 3 dX8_isOther_14 rfl rfl ?_
      refine go_if_ne 35 dX8_isOther_15 (by decide) (fun c => ?_) (fun c => ?_)
      · replace h := gk_in h c
        refine go_lv [0, 1, 2, 4] rfl ?_
        exact k_X8_isOther_j35 h_this hK (fun _ _ _ _ _ h => ih _ _ _ _ _ h) h
      · replace h := gk_ip h c
        refine go_iload 4 dX8_isOther_18 rfl ?_
        refine go_iload_n 1 dX8_isOther_20 rfl rfl ?_
        refine go_icmp_eq 39 dX8_isOther_21 (by decide) (fun c => ?_) (fun c => ?_)
        · replace h := gk_ip h c
          refine go_lv [0, 1, 2, 4] rfl ?_
          exact k_X8_isOther_j39 h_this hK (fun _ _ _ _ _ h => ih _ _ _ _ _ h) h
        · replace h := gk_in h c
          refine go_aload_n 0 dX8_isOther_24 rfl rfl ?_
          refine go_getR dX8_isOther_25 fl_RX8_16 h_this (rr_8_3 h_this) ?_
          refine go_iload 4 dX8_isOther_28 rfl ?_
          refine go_iaload dX8_isOther_30 (rt_8_3 h_this) h.1 ?_
          replace h := h.2
          refine go_iload_n 2 dX8_isOther_31 rfl rfl ?_
          refine go_icmp_ne 39 dX8_isOther_32 (by decide) (fun c => ?_) (fun c => ?_)
          · replace h := gk_in h c
            refine go_lv [0, 1, 2, 4] rfl ?_
            exact k_X8_isOther_j39 h_this hK (fun _ _ _ _ _ h => ih _ _ _ _ _ h) h
          · replace h := gk_ip h c
            refine go_lv [0, 1, 2, 4] rfl ?_
            exact k_X8_isOther_j35 h_this hK (fun _ _ _ _ _ h => ih _ _ _ _ _ h) h
def w_X8_isOther (this : Nat) (x1 : Int32) (x2 : Int32) (μ : gk_St) (Q : Int32 → gk_St → Prop) : Prop := (∃ n5 : Nat, w_X8_isOther_l5 Q (fun y3 m4 => (gk_b y3 ∧ Q y3 m4)) this n5 x1 x2 0 0 μ)
set_option maxRecDepth 100000 in
set_option maxHeartbeats 4000000 in
theorem k_X8_isOther {this : Nat} {x1 : Int32} {x2 : Int32} {μ : gk_St} {Q : Int32 → gk_St → Prop} (h_this : gk_isO this 8) (h : w_X8_isOther this x1 x2 μ Q) : gk_CT yX8_isOther cX8_isOther 5 (some .boolean) 0 [.ref this, .int x1, .int x2] μ (gk_Qi Q) := by
  unfold w_X8_isOther at h
  refine gk_enter (by decide) (Nat.le_of_ble_eq_true rfl) ?_
  show Go RX8 cX8_isOther 5 (some .boolean) 0 0 [(0, .ref this), (1, .int x1), (2, .int x2)] [] μ (gk_Qi Q)
  refine go_iconst (v := 0) dX8_isOther_0 (by decide) ?_
  refine go_istore_n [(3, .int 0), (0, .ref this), (1, .int x1), (2, .int x2)] dX8_isOther_1 rfl (by decide) rfl ?_
  refine go_iconst (v := 0) dX8_isOther_2 (by decide) ?_
  refine go_istore [(4, .int 0), (3, .int 0), (0, .ref this), (1, .int x1), (2, .int x2)] dX8_isOther_3 (by decide) rfl ?_
  refine go_lv [2, 3, 4, 1, 0] rfl ?_
  obtain ⟨n5, h⟩ := h
  refine k_X8_isOther_l5 h_this (fun y3 m4 h => ?_) n5 _ _ _ _ _ h
  refine go_iload_n 0 dX8_isOther_47 rfl rfl ?_
  exact go_zret dX8_isOther_48 h.1 ⟨_, rfl, h.2⟩
def w_X8_hangOf_j69 (Q : Int32 → gk_St → Prop) (K : Int32 → Int32 → Int32 → Int32 → Int32 → gk_St → Prop) (C : Int32 → Int32 → Int32 → Int32 → Int32 → Int32 → gk_St → Prop) (this : Nat) (x1 : Int32) (x2 : Int32) (x3 : Int32) (x5 : Int32) (x6 : Int32) (x7 : Int32) (s0 : Int32) (μ : gk_St) : Prop := (if x7 ≤ x5 then (∀ v10 : Int32, v10 = x6 + 1 → C x1 x2 x3 s0 x5 v10 μ) else (∀ v11 : Int32, v11 = x6 + 1 → C x1 x2 x3 s0 x7 v11 μ))
set_option maxRecDepth 100000 in
set_option maxHeartbeats 4000000 in
theorem k_X8_hangOf_j69 {Q : Int32 → gk_St → Prop} {K : Int32 → Int32 → Int32 → Int32 → Int32 → gk_St → Prop} {C : Int32 → Int32 → Int32 → Int32 → Int32 → Int32 → gk_St → Prop} {this : Nat} {x1 : Int32} {x2 : Int32} {x3 : Int32} {x5 : Int32} {x6 : Int32} {x7 : Int32} {s0 : Int32} {μ : gk_St} (h_this : gk_isO this 8) (hK : ∀ (e1 : Int32) (e2 : Int32) (e3 : Int32) (e4 : Int32) (e5 : Int32) (em : gk_St), K e1 e2 e3 e4 e5 em → Go RX8 cX8_hangOf 8 (some .int) 7 93 [(0, .ref this), (1, .int e1), (2, .int e2), (3, .int e3), (4, .int e4), (5, .int e5)] [] em (gk_Qi Q)) (hC : ∀ (c1 : Int32) (c2 : Int32) (c3 : Int32) (c4 : Int32) (c5 : Int32) (c6 : Int32) (cm : gk_St), C c1 c2 c3 c4 c5 c6 cm → Go RX8 cX8_hangOf 8 (some .int) 7 20 [(0, .ref this), (1, .int c1), (2, .int c2), (3, .int c3), (4, .int c4), (5, .int c5), (6, .int c6)] [] cm (gk_Qi Q)) (h : w_X8_hangOf_j69 Q K C this x1 x2 x3 x5 x6 x7 s0 μ) : Go RX8 cX8_hangOf 8 (some .int) 7 69 [(0, .ref this), (1, .int x1), (2, .int x2), (3, .int x3), (5, .int x5), (6, .int x6), (7, .int x7)] [.int s0] μ (gk_Qi Q) := by
  unfold w_X8_hangOf_j69 at h
  refine go_istore [(4, .int s0), (0, .ref this), (1, .int x1), (2, .int x2), (3, .int x3), (5, .int x5), (6, .int x6), (7, .int x7)] dX8_hangOf_69 (by decide) rfl ?_
  refine go_iload 7 dX8_hangOf_71 rfl ?_
  refine go_iload 5 dX8_hangOf_73 rfl ?_
  refine go_icmp_le 83 dX8_hangOf_75 (by decide) (fun c => ?_) (fun c => ?_)
  · replace h := gk_ip h c
    refine go_iload 5 dX8_hangOf_83 rfl ?_
    refine go_istore [(5, .int x5), (4, .int s0), (0, .ref this), (1, .int x1), (2, .int x2), (3, .int x3), (6, .int x6), (7, .int x7)] dX8_hangOf_85 (by decide) rfl ?_
    refine gb_iinc (w := 1) 6 (fun v10 => [(6, .int v10), (5, .int x5), (4, .int s0), (0, .ref this), (1, .int x1), (2, .int x2), (3, .int x3), (7, .int x7)]) dX8_hangOf_87 rfl (by decide) (by decide) (fun _ => rfl) (fun v10 e => ?_)
    replace h := h v10 e
    refine go_goto 20 dX8_hangOf_90 (by decide) ?_
    refine go_lv [3, 4, 5, 6, 2, 1, 0] rfl ?_
    exact hC _ _ _ _ _ _ _ h
  · replace h := gk_in h c
    refine go_iload 7 dX8_hangOf_78 rfl ?_
    refine go_goto 85 dX8_hangOf_80 (by decide) ?_
    refine go_istore [(5, .int x7), (4, .int s0), (0, .ref this), (1, .int x1), (2, .int x2), (3, .int x3), (6, .int x6), (7, .int x7)] dX8_hangOf_85 (by decide) rfl ?_
    refine gb_iinc (w := 1) 6 (fun v11 => [(6, .int v11), (5, .int x7), (4, .int s0), (0, .ref this), (1, .int x1), (2, .int x2), (3, .int x3), (7, .int x7)]) dX8_hangOf_87 rfl (by decide) (by decide) (fun _ => rfl) (fun v11 e => ?_)
    replace h := h v11 e
    refine go_goto 20 dX8_hangOf_90 (by decide) ?_
    refine go_lv [3, 4, 5, 6, 2, 1, 0] rfl ?_
    exact hC _ _ _ _ _ _ _ h
def w_X8_hangOf_l20 (Q : Int32 → gk_St → Prop) (K : Int32 → Int32 → Int32 → Int32 → Int32 → gk_St → Prop) (this : Nat) : Nat → Int32 → Int32 → Int32 → Int32 → Int32 → Int32 → gk_St → Prop
  | 0, _, _, _, _, _, _, _ => False
  | n + 1, x1, x2, x3, x4, x5, x6, μ => (if 24 ≤ x6 then K x1 x2 x3 x4 x5 μ else w_X8_isOther this x1 x6 μ (fun r4 m3 => (if r4 = 0 then (vp_in x1 (gk_ln (gk_rf this 3)) ∧ (∀ m6 : gk_St, m6 = gk_up m3 (gk_rf this 3) x1.toNatClampNeg x6 → w_X8_runs this m6 (fun m7 => w_X8_bothOver this m7 (fun r9 m8 => (if r9 ≤ x5 then w_X8_hangOf_j69 Q K (fun c_x1 c_x2 c_x3 c_x4 c_x5 c_x6 cm => w_X8_hangOf_l20 Q K this n c_x1 c_x2 c_x3 c_x4 c_x5 c_x6 cm) this x1 x2 x3 x5 x6 r9 x4 m8 else w_X8_hangOf_j69 Q K (fun c_x1 c_x2 c_x3 c_x4 c_x5 c_x6 cm => w_X8_hangOf_l20 Q K this n c_x1 c_x2 c_x3 c_x4 c_x5 c_x6 cm) this x1 x2 x3 x5 x6 r9 x6 m8))))) else (∀ v5 : Int32, v5 = x6 + 1 → w_X8_hangOf_l20 Q K this n x1 x2 x3 x4 x5 v5 m3))))
set_option maxRecDepth 100000 in
set_option maxHeartbeats 4000000 in
theorem k_X8_hangOf_l20 {Q : Int32 → gk_St → Prop} {K : Int32 → Int32 → Int32 → Int32 → Int32 → gk_St → Prop} {this : Nat} (h_this : gk_isO this 8) (hK : ∀ (e1 : Int32) (e2 : Int32) (e3 : Int32) (e4 : Int32) (e5 : Int32) (em : gk_St), K e1 e2 e3 e4 e5 em → Go RX8 cX8_hangOf 8 (some .int) 7 93 [(0, .ref this), (1, .int e1), (2, .int e2), (3, .int e3), (4, .int e4), (5, .int e5)] [] em (gk_Qi Q)) : ∀ (n : Nat) (x1 : Int32) (x2 : Int32) (x3 : Int32) (x4 : Int32) (x5 : Int32) (x6 : Int32) (μ : gk_St), w_X8_hangOf_l20 Q K this n x1 x2 x3 x4 x5 x6 μ → Go RX8 cX8_hangOf 8 (some .int) 7 20 [(0, .ref this), (1, .int x1), (2, .int x2), (3, .int x3), (4, .int x4), (5, .int x5), (6, .int x6)] [] μ (gk_Qi Q) := by
  intro n
  induction n with
  | zero =>
    intro x1 x2 x3 x4 x5 x6 μ h
    exact False.elim h
  | succ n ih =>
    intro x1 x2 x3 x4 x5 x6 μ h
    unfold w_X8_hangOf_l20 at h
    refine go_iload 6 dX8_hangOf_20 rfl ?_
    refine go_bipush (v := 24) dX8_hangOf_22 (by decide) ?_
    refine go_icmp_ge 93 dX8_hangOf_24 (by decide) (fun c => ?_) (fun c => ?_)
    · replace h := gk_ip h c
      refine go_lv [0, 1, 2, 3, 4, 5] rfl ?_
      exact hK _ _ _ _ _ _ h
    · replace h := gk_in h c
      refine go_aload_n 0 dX8_hangOf_27 rfl rfl ?_
      refine go_iload_n 1 dX8_hangOf_28 rfl rfl ?_
      refine go_iload 6 dX8_hangOf_29 rfl ?_
      refine go_callV (ci := 8) (d' := 0) [.int x1, .int x6] dX8_hangOf_31 cw_RX8_286 ki_X8_isOther ks_X8_isOther rfl (by decide) h_this rfl (Nat.le_of_ble_eq_true rfl) (by decide) (k_X8_isOther h_this h) (gk_ki (fun r4 m3 h => ?_))
      refine go_if_ne 87 dX8_hangOf_34 (by decide) (fun c => ?_) (fun c => ?_)
      · replace h := gk_in h c
        refine gb_iinc (w := 1) 6 (fun v5 => [(6, .int v5), (0, .ref this), (1, .int x1), (2, .int x2), (3, .int x3), (4, .int x4), (5, .int x5)]) dX8_hangOf_87 rfl (by decide) (by decide) (fun _ => rfl) (fun v5 e => ?_)
        replace h := h v5 e
        refine go_goto 20 dX8_hangOf_90 (by decide) ?_
        refine go_lv [1, 2, 3, 4, 5, 6, 0] rfl ?_
        exact ih _ _ _ _ _ _ _ h
      · replace h := gk_ip h c
        refine go_aload_n 0 dX8_hangOf_37 rfl rfl ?_
        refine go_getR dX8_hangOf_38 fl_RX8_16 h_this (rr_8_3 h_this) ?_
        refine go_iload_n 1 dX8_hangOf_41 rfl rfl ?_
        refine go_iload 6 dX8_hangOf_42 rfl ?_
        refine gb_iastore dX8_hangOf_44 (rt_8_3 h_this) h.1 (fun m6 e => ?_)
        replace h := h.2 m6 e
        refine go_aload_n 0 dX8_hangOf_45 rfl rfl ?_
        refine go_callV (ci := 8) (d' := 3) [] dX8_hangOf_46 cw_RX8_247 ki_X8_runs ks_X8_runs rfl (by decide) h_this rfl (Nat.le_of_ble_eq_true rfl) (by decide) (k_X8_runs h_this h) (gk_kv (fun m7 h => ?_))
        refine go_aload_n 0 dX8_hangOf_49 rfl rfl ?_
        refine go_callV (ci := 8) (d' := 0) [] dX8_hangOf_50 cw_RX8_289 ki_X8_bothOver ks_X8_bothOver rfl (by decide) h_this rfl (Nat.le_of_ble_eq_true rfl) (by decide) (k_X8_bothOver h_this h) (gk_ki (fun r9 m8 h => ?_))
        refine go_istore [(7, .int r9), (0, .ref this), (1, .int x1), (2, .int x2), (3, .int x3), (4, .int x4), (5, .int x5), (6, .int x6)] dX8_hangOf_53 (by decide) rfl ?_
        refine go_iload 0 dX8_hangOf_55 rfl ?_
        refine go_iload 6 dX8_hangOf_57 rfl ?_
        refine go_icmp_le 67 dX8_hangOf_59 (by decide) (fun c => ?_) (fun c => ?_)
        · replace h := gk_ip h c
          refine go_iload 5 dX8_hangOf_67 rfl ?_
          refine go_lv [1, 2, 3, 4, 6, 7, 0] rfl ?_
          exact k_X8_hangOf_j69 h_this hK (fun _ _ _ _ _ _ _ h => ih _ _ _ _ _ _ _ h) h
        · replace h := gk_in h c
          refine go_iload 7 dX8_hangOf_62 rfl ?_
          refine go_goto 69 dX8_hangOf_64 (by decide) ?_
          refine go_lv [1, 2, 3, 4, 6, 7, 0] rfl ?_
          exact k_X8_hangOf_j69 h_this hK (fun _ _ _ _ _ _ _ h => ih _ _ _ _ _ _ _ h) h
def w_X8_hangOf (this : Nat) (x1 : Int32) (x2 : Int32) (μ : gk_St) (Q : Int32 → gk_St → Prop) : Prop := w_X8_asTold this μ (fun m1 => (vp_in x1 (gk_ln (gk_rf this 3)) ∧ (∀ v2 : Int32, v2 = (m1 (gk_rf this 3) x1.toNatClampNeg) → (∃ n20 : Nat, w_X8_hangOf_l20 Q (fun y12 y13 y14 y15 y16 m17 => (vp_in y12 (gk_ln (gk_rf this 3)) ∧ (∀ m18 : gk_St, m18 = gk_up m17 (gk_rf this 3) y12.toNatClampNeg y14 → (if y13 = 0 then Q y15 m18 else Q y16 m18)))) this n20 x1 x2 v2 (-1) (-1) 0 m1))))
set_option maxRecDepth 100000 in
set_option maxHeartbeats 4000000 in
theorem k_X8_hangOf {this : Nat} {x1 : Int32} {x2 : Int32} {μ : gk_St} {Q : Int32 → gk_St → Prop} (h_this : gk_isO this 8) (h : w_X8_hangOf this x1 x2 μ Q) : gk_CT yX8_hangOf cX8_hangOf 8 (some .int) 7 [.ref this, .int x1, .int x2] μ (gk_Qi Q) := by
  unfold w_X8_hangOf at h
  refine gk_enter (by decide) (Nat.le_of_ble_eq_true rfl) ?_
  show Go RX8 cX8_hangOf 8 (some .int) 7 0 [(0, .ref this), (1, .int x1), (2, .int x2)] [] μ (gk_Qi Q)
  refine go_aload_n 0 dX8_hangOf_0 rfl rfl ?_
  refine go_callV (ci := 8) (d' := 6) [] dX8_hangOf_1 cw_RX8_244 ki_X8_asTold ks_X8_asTold rfl (by decide) h_this rfl (Nat.le_of_ble_eq_true rfl) (by decide) (k_X8_asTold h_this h) (gk_kv (fun m1 h => ?_))
  refine go_aload_n 0 dX8_hangOf_4 rfl rfl ?_
  refine go_getR dX8_hangOf_5 fl_RX8_16 h_this (rr_8_3 h_this) ?_
  refine go_iload_n 1 dX8_hangOf_8 rfl rfl ?_
  refine go_iaload dX8_hangOf_9 (rt_8_3 h_this) h.1 ?_
  replace h := h.2
  refine gb_istore_n (fun v2 => [(3, .int v2), (0, .ref this), (1, .int x1), (2, .int x2)]) dX8_hangOf_10 rfl (by decide) (fun _ => rfl) (fun v2 e => ?_)
  replace h := h v2 e
  refine go_iconst (v := (-1)) dX8_hangOf_11 (by decide) ?_
  refine go_istore [(4, .int (-1)), (3, .int v2), (0, .ref this), (1, .int x1), (2, .int x2)] dX8_hangOf_12 (by decide) rfl ?_
  refine go_iconst (v := (-1)) dX8_hangOf_14 (by decide) ?_
  refine go_istore [(5, .int (-1)), (4, .int (-1)), (3, .int v2), (0, .ref this), (1, .int x1), (2, .int x2)] dX8_hangOf_15 (by decide) rfl ?_
  refine go_iconst (v := 0) dX8_hangOf_17 (by decide) ?_
  refine go_istore [(6, .int 0), (5, .int (-1)), (4, .int (-1)), (3, .int v2), (0, .ref this), (1, .int x1), (2, .int x2)] dX8_hangOf_18 (by decide) rfl ?_
  refine go_lv [4, 5, 6, 3, 2, 1, 0] rfl ?_
  obtain ⟨n20, h⟩ := h
  refine k_X8_hangOf_l20 h_this (fun y12 y13 y14 y15 y16 m17 h => ?_) n20 _ _ _ _ _ _ _ h
  refine go_aload_n 0 dX8_hangOf_93 rfl rfl ?_
  refine go_getR dX8_hangOf_94 fl_RX8_16 h_this (rr_8_3 h_this) ?_
  refine go_iload_n 1 dX8_hangOf_97 rfl rfl ?_
  refine go_iload_n 3 dX8_hangOf_98 rfl rfl ?_
  refine gb_iastore dX8_hangOf_99 (rt_8_3 h_this) h.1 (fun m18 e => ?_)
  replace h := h.2 m18 e
  refine go_iload_n 2 dX8_hangOf_100 rfl rfl ?_
  refine go_if_ne 109 dX8_hangOf_101 (by decide) (fun c => ?_) (fun c => ?_)
  · replace h := gk_in h c
    refine go_iload 5 dX8_hangOf_109 rfl ?_
    exact go_iret dX8_hangOf_111 ⟨_, rfl, h⟩
  · replace h := gk_ip h c
    refine go_iload 4 dX8_hangOf_104 rfl ?_
    refine go_goto 111 dX8_hangOf_106 (by decide) ?_
    exact go_iret dX8_hangOf_111 ⟨_, rfl, h⟩
def w_X8_hang (this : Nat) (x1 : Int32) (x2 : Int32) (μ : gk_St) (Q : Int32 → gk_St → Prop) : Prop := w_X8_isCar this x1 μ (fun r2 m1 => (if r2 = 0 then Q (-2) m1 else w_X8_isTwo x2 m1 (fun r4 m3 => (if r4 = 0 then Q (-2) m3 else w_X8_hangOf this x1 x2 m3 (fun r6 m5 => Q r6 m5)))))
set_option maxRecDepth 100000 in
set_option maxHeartbeats 4000000 in
theorem k_X8_hang {this : Nat} {x1 : Int32} {x2 : Int32} {μ : gk_St} {Q : Int32 → gk_St → Prop} (h_this : gk_isO this 8) (h : w_X8_hang this x1 x2 μ Q) : gk_CT yX8_hang cX8_hang 3 (some .int) 8 [.ref this, .int x1, .int x2] μ (gk_Qi Q) := by
  unfold w_X8_hang at h
  refine gk_enter (by decide) (Nat.le_of_ble_eq_true rfl) ?_
  show Go RX8 cX8_hang 3 (some .int) 8 0 [(0, .ref this), (1, .int x1), (2, .int x2)] [] μ (gk_Qi Q)
  refine go_aload_n 0 dX8_hang_0 rfl rfl ?_
  refine go_iload_n 1 dX8_hang_1 rfl rfl ?_
  refine go_callV (ci := 8) (d' := 6) [.int x1] dX8_hang_2 cw_RX8_164 ki_X8_isCar ks_X8_isCar rfl (by decide) h_this rfl (Nat.le_of_ble_eq_true rfl) (by decide) (k_X8_isCar h_this h) (gk_ki (fun r2 m1 h => ?_))
  refine go_if_eq 24 dX8_hang_5 (by decide) (fun c => ?_) (fun c => ?_)
  · replace h := gk_ip h c
    refine go_bipush (v := (-2)) dX8_hang_24 (by decide) ?_
    exact go_iret dX8_hang_26 ⟨_, rfl, h⟩
  · replace h := gk_in h c
    refine go_iload_n 2 dX8_hang_8 rfl rfl ?_
    refine go_callS (d' := 1) [.int x2] dX8_hang_9 cw_RX8_253 kt_X8_isTwo rfl (Nat.le_of_ble_eq_true rfl) (by decide) (k_X8_isTwo h) (gk_ki (fun r4 m3 h => ?_))
    refine go_if_eq 24 dX8_hang_12 (by decide) (fun c => ?_) (fun c => ?_)
    · replace h := gk_ip h c
      refine go_bipush (v := (-2)) dX8_hang_24 (by decide) ?_
      exact go_iret dX8_hang_26 ⟨_, rfl, h⟩
    · replace h := gk_in h c
      refine go_aload_n 0 dX8_hang_15 rfl rfl ?_
      refine go_iload_n 1 dX8_hang_16 rfl rfl ?_
      refine go_iload_n 2 dX8_hang_17 rfl rfl ?_
      refine go_callV (ci := 8) (d' := 7) [.int x1, .int x2] dX8_hang_18 cw_RX8_292 ki_X8_hangOf ks_X8_hangOf rfl (by decide) h_this rfl (Nat.le_of_ble_eq_true rfl) (by decide) (k_X8_hangOf h_this h) (gk_ki (fun r6 m5 h => ?_))
      refine go_goto 26 dX8_hang_21 (by decide) ?_
      exact go_iret dX8_hang_26 ⟨_, rfl, h⟩
