def w_X8_paceOf_j49 (Q : Int32 → gk_St → Prop) (K : Int32 → Int32 → Int32 → gk_St → Prop) (C : Int32 → Int32 → Int32 → Int32 → Int32 → gk_St → Prop) (this : Nat) (x1 : Int32) (x2 : Int32) (x4 : Int32) (x5 : Int32) (x6 : Int32) (s0 : Int32) (μ : gk_St) : Prop := (if x6 ≤ x4 then (∀ v6 : Int32, v6 = x5 + 1 → C x1 x2 s0 x4 v6 μ) else (∀ v7 : Int32, v7 = x5 + 1 → C x1 x2 s0 x6 v7 μ))
set_option maxRecDepth 100000 in
set_option maxHeartbeats 4000000 in
theorem k_X8_paceOf_j49 {Q : Int32 → gk_St → Prop} {K : Int32 → Int32 → Int32 → gk_St → Prop} {C : Int32 → Int32 → Int32 → Int32 → Int32 → gk_St → Prop} {this : Nat} {x1 : Int32} {x2 : Int32} {x4 : Int32} {x5 : Int32} {x6 : Int32} {s0 : Int32} {μ : gk_St} (h_this : gk_isO this 8) (hK : ∀ (e2 : Int32) (e3 : Int32) (e4 : Int32) (em : gk_St), K e2 e3 e4 em → Go RX8 cX8_paceOf 7 (some .int) 7 72 [(2, .int e2), (3, .int e3), (4, .int e4)] [] em (gk_Qi Q)) (hC : ∀ (c1 : Int32) (c2 : Int32) (c3 : Int32) (c4 : Int32) (c5 : Int32) (cm : gk_St), C c1 c2 c3 c4 c5 cm → Go RX8 cX8_paceOf 7 (some .int) 7 12 [(0, .ref this), (1, .int c1), (2, .int c2), (3, .int c3), (4, .int c4), (5, .int c5)] [] cm (gk_Qi Q)) (h : w_X8_paceOf_j49 Q K C this x1 x2 x4 x5 x6 s0 μ) : Go RX8 cX8_paceOf 7 (some .int) 7 49 [(0, .ref this), (1, .int x1), (2, .int x2), (4, .int x4), (5, .int x5), (6, .int x6)] [.int s0] μ (gk_Qi Q) := by
  unfold w_X8_paceOf_j49 at h
  refine go_istore_n [(3, .int s0), (0, .ref this), (1, .int x1), (2, .int x2), (4, .int x4), (5, .int x5), (6, .int x6)] dX8_paceOf_49 rfl (by decide) rfl ?_
  refine go_iload 6 dX8_paceOf_50 rfl ?_
  refine go_iload 4 dX8_paceOf_52 rfl ?_
  refine go_icmp_le 62 dX8_paceOf_54 (by decide) (fun c => ?_) (fun c => ?_)
  · replace h := gk_ip h c
    refine go_iload 4 dX8_paceOf_62 rfl ?_
    refine go_istore [(4, .int x4), (3, .int s0), (0, .ref this), (1, .int x1), (2, .int x2), (5, .int x5), (6, .int x6)] dX8_paceOf_64 (by decide) rfl ?_
    refine gb_iinc (w := 1) 5 (fun v6 => [(5, .int v6), (4, .int x4), (3, .int s0), (0, .ref this), (1, .int x1), (2, .int x2), (6, .int x6)]) dX8_paceOf_66 rfl (by decide) (by decide) (fun _ => rfl) (fun v6 e => ?_)
    replace h := h v6 e
    refine go_goto 12 dX8_paceOf_69 (by decide) ?_
    refine go_lv [3, 4, 5, 2, 1, 0] rfl ?_
    exact hC _ _ _ _ _ _ h
  · replace h := gk_in h c
    refine go_iload 6 dX8_paceOf_57 rfl ?_
    refine go_goto 64 dX8_paceOf_59 (by decide) ?_
    refine go_istore [(4, .int x6), (3, .int s0), (0, .ref this), (1, .int x1), (2, .int x2), (5, .int x5), (6, .int x6)] dX8_paceOf_64 (by decide) rfl ?_
    refine gb_iinc (w := 1) 5 (fun v7 => [(5, .int v7), (4, .int x6), (3, .int s0), (0, .ref this), (1, .int x1), (2, .int x2), (6, .int x6)]) dX8_paceOf_66 rfl (by decide) (by decide) (fun _ => rfl) (fun v7 e => ?_)
    replace h := h v7 e
    refine go_goto 12 dX8_paceOf_69 (by decide) ?_
    refine go_lv [3, 4, 5, 2, 1, 0] rfl ?_
    exact hC _ _ _ _ _ _ h
def w_X8_paceOf_l12 (Q : Int32 → gk_St → Prop) (K : Int32 → Int32 → Int32 → gk_St → Prop) (this : Nat) : Nat → Int32 → Int32 → Int32 → Int32 → Int32 → gk_St → Prop
  | 0, _, _, _, _, _, _ => False
  | n + 1, x1, x2, x3, x4, x5, μ => (if 4 ≤ x5 then K x2 x3 x4 μ else (vp_in x1 (gk_ln (gk_rf this 16)) ∧ (∀ m2 : gk_St, m2 = gk_up μ (gk_rf this 16) x1.toNatClampNeg x5 → w_X8_runs this m2 (fun m3 => w_X8_bothOver this m3 (fun r5 m4 => (if r5 ≤ x4 then w_X8_paceOf_j49 Q K (fun c_x1 c_x2 c_x3 c_x4 c_x5 cm => w_X8_paceOf_l12 Q K this n c_x1 c_x2 c_x3 c_x4 c_x5 cm) this x1 x2 x4 x5 r5 x3 m4 else w_X8_paceOf_j49 Q K (fun c_x1 c_x2 c_x3 c_x4 c_x5 cm => w_X8_paceOf_l12 Q K this n c_x1 c_x2 c_x3 c_x4 c_x5 cm) this x1 x2 x4 x5 r5 x5 m4))))))
set_option maxRecDepth 100000 in
set_option maxHeartbeats 4000000 in
theorem k_X8_paceOf_l12 {Q : Int32 → gk_St → Prop} {K : Int32 → Int32 → Int32 → gk_St → Prop} {this : Nat} (h_this : gk_isO this 8) (hK : ∀ (e2 : Int32) (e3 : Int32) (e4 : Int32) (em : gk_St), K e2 e3 e4 em → Go RX8 cX8_paceOf 7 (some .int) 7 72 [(2, .int e2), (3, .int e3), (4, .int e4)] [] em (gk_Qi Q)) : ∀ (n : Nat) (x1 : Int32) (x2 : Int32) (x3 : Int32) (x4 : Int32) (x5 : Int32) (μ : gk_St), w_X8_paceOf_l12 Q K this n x1 x2 x3 x4 x5 μ → Go RX8 cX8_paceOf 7 (some .int) 7 12 [(0, .ref this), (1, .int x1), (2, .int x2), (3, .int x3), (4, .int x4), (5, .int x5)] [] μ (gk_Qi Q) := by
  intro n
  induction n with
  | zero =>
    intro x1 x2 x3 x4 x5 μ h
    exact False.elim h
  | succ n ih =>
    intro x1 x2 x3 x4 x5 μ h
    unfold w_X8_paceOf_l12 at h
    refine go_iload 5 dX8_paceOf_12 rfl ?_
    refine go_iconst (v := 4) dX8_paceOf_14 (by decide) ?_
    refine go_icmp_ge 72 dX8_paceOf_15 (by decide) (fun c => ?_) (fun c => ?_)
    · replace h := gk_ip h c
      refine go_lv [2, 3, 4] rfl ?_
      exact hK _ _ _ _ h
    · replace h := gk_in h c
      refine go_aload_n 0 dX8_paceOf_18 rfl rfl ?_
      refine go_getR dX8_paceOf_19 fl_RX8_46 h_this (rr_8_16 h_this) ?_
      refine go_iload_n 1 dX8_paceOf_22 rfl rfl ?_
      refine go_iload 5 dX8_paceOf_23 rfl ?_
      refine gb_iastore dX8_paceOf_25 (rt_8_16 h_this) h.1 (fun m2 e => ?_)
      replace h := h.2 m2 e
      refine go_aload_n 0 dX8_paceOf_26 rfl rfl ?_
      refine go_callV (ci := 8) (d' := 3) [] dX8_paceOf_27 cw_RX8_247 ki_X8_runs ks_X8_runs rfl (by decide) h_this rfl (Nat.le_of_ble_eq_true rfl) (by decide) (k_X8_runs h_this h) (gk_kv (fun m3 h => ?_))
      refine go_aload_n 0 dX8_paceOf_30 rfl rfl ?_
      refine go_callV (ci := 8) (d' := 0) [] dX8_paceOf_31 cw_RX8_289 ki_X8_bothOver ks_X8_bothOver rfl (by decide) h_this rfl (Nat.le_of_ble_eq_true rfl) (by decide) (k_X8_bothOver h_this h) (gk_ki (fun r5 m4 h => ?_))
      refine go_istore [(6, .int r5), (0, .ref this), (1, .int x1), (2, .int x2), (3, .int x3), (4, .int x4), (5, .int x5)] dX8_paceOf_34 (by decide) rfl ?_
      refine go_iload 0 dX8_paceOf_36 rfl ?_
      refine go_iload 5 dX8_paceOf_38 rfl ?_
      refine go_icmp_le 48 dX8_paceOf_40 (by decide) (fun c => ?_) (fun c => ?_)
      · replace h := gk_ip h c
        refine go_iload_n 4 dX8_paceOf_48 rfl rfl ?_
        refine go_lv [1, 2, 3, 5, 6, 0] rfl ?_
        exact k_X8_paceOf_j49 h_this hK (fun _ _ _ _ _ _ h => ih _ _ _ _ _ _ h) h
      · replace h := gk_in h c
        refine go_iload 6 dX8_paceOf_43 rfl ?_
        refine go_goto 49 dX8_paceOf_45 (by decide) ?_
        refine go_lv [1, 2, 3, 5, 6, 0] rfl ?_
        exact k_X8_paceOf_j49 h_this hK (fun _ _ _ _ _ _ h => ih _ _ _ _ _ _ h) h
def w_X8_paceOf (this : Nat) (x1 : Int32) (x2 : Int32) (μ : gk_St) (Q : Int32 → gk_St → Prop) : Prop := w_X8_asTold this μ (fun m1 => (∃ n12 : Nat, w_X8_paceOf_l12 Q (fun y8 y9 y10 m11 => (if y8 = 0 then Q y9 m11 else Q y10 m11)) this n12 x1 x2 (-1) (-1) 0 m1))
set_option maxRecDepth 100000 in
set_option maxHeartbeats 4000000 in
theorem k_X8_paceOf {this : Nat} {x1 : Int32} {x2 : Int32} {μ : gk_St} {Q : Int32 → gk_St → Prop} (h_this : gk_isO this 8) (h : w_X8_paceOf this x1 x2 μ Q) : gk_CT yX8_paceOf cX8_paceOf 7 (some .int) 7 [.ref this, .int x1, .int x2] μ (gk_Qi Q) := by
  unfold w_X8_paceOf at h
  refine gk_enter (by decide) (Nat.le_of_ble_eq_true rfl) ?_
  show Go RX8 cX8_paceOf 7 (some .int) 7 0 [(0, .ref this), (1, .int x1), (2, .int x2)] [] μ (gk_Qi Q)
  refine go_aload_n 0 dX8_paceOf_0 rfl rfl ?_
  refine go_callV (ci := 8) (d' := 6) [] dX8_paceOf_1 cw_RX8_244 ki_X8_asTold ks_X8_asTold rfl (by decide) h_this rfl (Nat.le_of_ble_eq_true rfl) (by decide) (k_X8_asTold h_this h) (gk_kv (fun m1 h => ?_))
  refine go_iconst (v := (-1)) dX8_paceOf_4 (by decide) ?_
  refine go_istore_n [(3, .int (-1)), (0, .ref this), (1, .int x1), (2, .int x2)] dX8_paceOf_5 rfl (by decide) rfl ?_
  refine go_iconst (v := (-1)) dX8_paceOf_6 (by decide) ?_
  refine go_istore [(4, .int (-1)), (3, .int (-1)), (0, .ref this), (1, .int x1), (2, .int x2)] dX8_paceOf_7 (by decide) rfl ?_
  refine go_iconst (v := 0) dX8_paceOf_9 (by decide) ?_
  refine go_istore [(5, .int 0), (4, .int (-1)), (3, .int (-1)), (0, .ref this), (1, .int x1), (2, .int x2)] dX8_paceOf_10 (by decide) rfl ?_
  refine go_lv [3, 4, 5, 2, 1, 0] rfl ?_
  obtain ⟨n12, h⟩ := h
  refine k_X8_paceOf_l12 h_this (fun y8 y9 y10 m11 h => ?_) n12 _ _ _ _ _ _ h
  refine go_iload_n 0 dX8_paceOf_72 rfl rfl ?_
  refine go_if_ne 80 dX8_paceOf_73 (by decide) (fun c => ?_) (fun c => ?_)
  · replace h := gk_in h c
    refine go_iload 2 dX8_paceOf_80 rfl ?_
    exact go_iret dX8_paceOf_82 ⟨_, rfl, h⟩
  · replace h := gk_ip h c
    refine go_iload_n 1 dX8_paceOf_76 rfl rfl ?_
    refine go_goto 82 dX8_paceOf_77 (by decide) ?_
    exact go_iret dX8_paceOf_82 ⟨_, rfl, h⟩
def w_X8_pace (this : Nat) (x1 : Int32) (x2 : Int32) (μ : gk_St) (Q : Int32 → gk_St → Prop) : Prop := w_X8_isMoment x1 μ (fun r2 m1 => (if r2 = 0 then Q (-2) m1 else w_X8_isTwo x2 m1 (fun r4 m3 => (if r4 = 0 then Q (-2) m3 else w_X8_paceOf this x1 x2 m3 (fun r6 m5 => Q r6 m5)))))
set_option maxRecDepth 100000 in
set_option maxHeartbeats 4000000 in
theorem k_X8_pace {this : Nat} {x1 : Int32} {x2 : Int32} {μ : gk_St} {Q : Int32 → gk_St → Prop} (h_this : gk_isO this 8) (h : w_X8_pace this x1 x2 μ Q) : gk_CT yX8_pace cX8_pace 3 (some .int) 8 [.ref this, .int x1, .int x2] μ (gk_Qi Q) := by
  unfold w_X8_pace at h
  refine gk_enter (by decide) (Nat.le_of_ble_eq_true rfl) ?_
  show Go RX8 cX8_pace 3 (some .int) 8 0 [(0, .ref this), (1, .int x1), (2, .int x2)] [] μ (gk_Qi Q)
  refine go_iload_n 1 dX8_pace_0 rfl rfl ?_
  refine go_callS (d' := 1) [.int x1] dX8_pace_1 cw_RX8_132 kt_X8_isMoment rfl (Nat.le_of_ble_eq_true rfl) (by decide) (k_X8_isMoment h) (gk_ki (fun r2 m1 h => ?_))
  refine go_if_eq 23 dX8_pace_4 (by decide) (fun c => ?_) (fun c => ?_)
  · replace h := gk_ip h c
    refine go_bipush (v := (-2)) dX8_pace_23 (by decide) ?_
    exact go_iret dX8_pace_25 ⟨_, rfl, h⟩
  · replace h := gk_in h c
    refine go_iload_n 2 dX8_pace_7 rfl rfl ?_
    refine go_callS (d' := 1) [.int x2] dX8_pace_8 cw_RX8_253 kt_X8_isTwo rfl (Nat.le_of_ble_eq_true rfl) (by decide) (k_X8_isTwo h) (gk_ki (fun r4 m3 h => ?_))
    refine go_if_eq 23 dX8_pace_11 (by decide) (fun c => ?_) (fun c => ?_)
    · replace h := gk_ip h c
      refine go_bipush (v := (-2)) dX8_pace_23 (by decide) ?_
      exact go_iret dX8_pace_25 ⟨_, rfl, h⟩
    · replace h := gk_in h c
      refine go_aload_n 0 dX8_pace_14 rfl rfl ?_
      refine go_iload_n 1 dX8_pace_15 rfl rfl ?_
      refine go_iload_n 2 dX8_pace_16 rfl rfl ?_
      refine go_callV (ci := 8) (d' := 7) [.int x1, .int x2] dX8_pace_17 cw_RX8_295 ki_X8_paceOf ks_X8_paceOf rfl (by decide) h_this rfl (Nat.le_of_ble_eq_true rfl) (by decide) (k_X8_paceOf h_this h) (gk_ki (fun r6 m5 h => ?_))
      refine go_goto 25 dX8_pace_20 (by decide) ?_
      exact go_iret dX8_pace_25 ⟨_, rfl, h⟩
def w_X8_cheapOf_j62 (Q : Int32 → gk_St → Prop) (K : Int32 → Int32 → Int32 → gk_St → Prop) (C : Int32 → Int32 → Int32 → Int32 → Int32 → gk_St → Prop) (this : Nat) (x1 : Int32) (x2 : Int32) (x4 : Int32) (x5 : Int32) (x6 : Int32) (s0 : Int32) (μ : gk_St) : Prop := (if x6 = 0 then (∀ v4 : Int32, v4 = x5 + 1 → C x1 x2 s0 x4 v4 μ) else (∀ v5 : Int32, v5 = (μ this 28) → (∀ v6 : Int32, v6 = x5 + 1 → C x1 x2 s0 v5 v6 μ)))
set_option maxRecDepth 100000 in
set_option maxHeartbeats 4000000 in
theorem k_X8_cheapOf_j62 {Q : Int32 → gk_St → Prop} {K : Int32 → Int32 → Int32 → gk_St → Prop} {C : Int32 → Int32 → Int32 → Int32 → Int32 → gk_St → Prop} {this : Nat} {x1 : Int32} {x2 : Int32} {x4 : Int32} {x5 : Int32} {x6 : Int32} {s0 : Int32} {μ : gk_St} (h_this : gk_isO this 8) (hK : ∀ (e2 : Int32) (e3 : Int32) (e4 : Int32) (em : gk_St), K e2 e3 e4 em → Go RX8 cX8_cheapOf 7 (some .int) 7 85 [(2, .int e2), (3, .int e3), (4, .int e4)] [] em (gk_Qi Q)) (hC : ∀ (c1 : Int32) (c2 : Int32) (c3 : Int32) (c4 : Int32) (c5 : Int32) (cm : gk_St), C c1 c2 c3 c4 c5 cm → Go RX8 cX8_cheapOf 7 (some .int) 7 12 [(0, .ref this), (1, .int c1), (2, .int c2), (3, .int c3), (4, .int c4), (5, .int c5)] [] cm (gk_Qi Q)) (h : w_X8_cheapOf_j62 Q K C this x1 x2 x4 x5 x6 s0 μ) : Go RX8 cX8_cheapOf 7 (some .int) 7 62 [(0, .ref this), (1, .int x1), (2, .int x2), (4, .int x4), (5, .int x5), (6, .int x6)] [.int s0] μ (gk_Qi Q) := by
  unfold w_X8_cheapOf_j62 at h
  refine go_istore_n [(3, .int s0), (0, .ref this), (1, .int x1), (2, .int x2), (4, .int x4), (5, .int x5), (6, .int x6)] dX8_cheapOf_62 rfl (by decide) rfl ?_
  refine go_iload 6 dX8_cheapOf_63 rfl ?_
  refine go_if_eq 75 dX8_cheapOf_65 (by decide) (fun c => ?_) (fun c => ?_)
  · replace h := gk_ip h c
    refine go_iload 4 dX8_cheapOf_75 rfl ?_
    refine go_istore [(4, .int x4), (3, .int s0), (0, .ref this), (1, .int x1), (2, .int x2), (5, .int x5), (6, .int x6)] dX8_cheapOf_77 (by decide) rfl ?_
    refine gb_iinc (w := 1) 5 (fun v4 => [(5, .int v4), (4, .int x4), (3, .int s0), (0, .ref this), (1, .int x1), (2, .int x2), (6, .int x6)]) dX8_cheapOf_79 rfl (by decide) (by decide) (fun _ => rfl) (fun v4 e => ?_)
    replace h := h v4 e
    refine go_goto 12 dX8_cheapOf_82 (by decide) ?_
    refine go_lv [3, 4, 5, 2, 1, 0] rfl ?_
    exact hC _ _ _ _ _ _ h
  · replace h := gk_in h c
    refine go_aload_n 1 dX8_cheapOf_68 rfl rfl ?_
    refine go_getI dX8_cheapOf_69 fl_RX8_238 h_this (nf_8_28 h_this) ?_
    refine go_goto 77 dX8_cheapOf_72 (by decide) ?_
    refine gb_istore (fun v5 => [(4, .int v5), (3, .int s0), (0, .ref this), (1, .int x1), (2, .int x2), (5, .int x5), (6, .int x6)]) dX8_cheapOf_77 (by decide) (fun _ => rfl) (fun v5 e => ?_)
    replace h := h v5 e
    refine gb_iinc (w := 1) 5 (fun v6 => [(5, .int v6), (4, .int v5), (3, .int s0), (0, .ref this), (1, .int x1), (2, .int x2), (6, .int x6)]) dX8_cheapOf_79 rfl (by decide) (by decide) (fun _ => rfl) (fun v6 e => ?_)
    replace h := h v6 e
    refine go_goto 12 dX8_cheapOf_82 (by decide) ?_
    refine go_lv [3, 4, 5, 2, 1, 0] rfl ?_
    exact hC _ _ _ _ _ _ h
def w_X8_cheapOf_j49 (Q : Int32 → gk_St → Prop) (K : Int32 → Int32 → Int32 → gk_St → Prop) (C : Int32 → Int32 → Int32 → Int32 → Int32 → gk_St → Prop) (this : Nat) (x1 : Int32) (x2 : Int32) (x3 : Int32) (x4 : Int32) (x5 : Int32) (s0 : Int32) (μ : gk_St) : Prop := (if s0 = 0 then w_X8_cheapOf_j62 Q K C this x1 x2 x4 x5 s0 x3 μ else w_X8_cheapOf_j62 Q K C this x1 x2 x4 x5 s0 x5 μ)
set_option maxRecDepth 100000 in
set_option maxHeartbeats 4000000 in
theorem k_X8_cheapOf_j49 {Q : Int32 → gk_St → Prop} {K : Int32 → Int32 → Int32 → gk_St → Prop} {C : Int32 → Int32 → Int32 → Int32 → Int32 → gk_St → Prop} {this : Nat} {x1 : Int32} {x2 : Int32} {x3 : Int32} {x4 : Int32} {x5 : Int32} {s0 : Int32} {μ : gk_St} (h_this : gk_isO this 8) (hK : ∀ (e2 : Int32) (e3 : Int32) (e4 : Int32) (em : gk_St), K e2 e3 e4 em → Go RX8 cX8_cheapOf 7 (some .int) 7 85 [(2, .int e2), (3, .int e3), (4, .int e4)] [] em (gk_Qi Q)) (hC : ∀ (c1 : Int32) (c2 : Int32) (c3 : Int32) (c4 : Int32) (c5 : Int32) (cm : gk_St), C c1 c2 c3 c4 c5 cm → Go RX8 cX8_cheapOf 7 (some .int) 7 12 [(0, .ref this), (1, .int c1), (2, .int c2), (3, .int c3), (4, .int c4), (5, .int c5)] [] cm (gk_Qi Q)) (h : w_X8_cheapOf_j49 Q K C this x1 x2 x3 x4 x5 s0 μ) : Go RX8 cX8_cheapOf 7 (some .int) 7 49 [(0, .ref this), (1, .int x1), (2, .int x2), (3, .int x3), (4, .int x4), (5, .int x5)] [.int s0] μ (gk_Qi Q) := by
  unfold w_X8_cheapOf_j49 at h
  refine go_istore [(6, .int s0), (0, .ref this), (1, .int x1), (2, .int x2), (3, .int x3), (4, .int x4), (5, .int x5)] dX8_cheapOf_49 (by decide) rfl ?_
  refine go_iload 0 dX8_cheapOf_51 rfl ?_
  refine go_if_eq 61 dX8_cheapOf_53 (by decide) (fun c => ?_) (fun c => ?_)
  · replace h := gk_ip h c
    refine go_iload_n 4 dX8_cheapOf_61 rfl rfl ?_
    refine go_lv [1, 2, 3, 5, 6, 0] rfl ?_
    exact k_X8_cheapOf_j62 h_this hK hC h
  · replace h := gk_in h c
    refine go_iload 6 dX8_cheapOf_56 rfl ?_
    refine go_goto 62 dX8_cheapOf_58 (by decide) ?_
    refine go_lv [1, 2, 3, 5, 6, 0] rfl ?_
    exact k_X8_cheapOf_j62 h_this hK hC h
def w_X8_cheapOf_j44 (Q : Int32 → gk_St → Prop) (K : Int32 → Int32 → Int32 → gk_St → Prop) (C : Int32 → Int32 → Int32 → Int32 → Int32 → gk_St → Prop) (this : Nat) (x1 : Int32) (x2 : Int32) (x3 : Int32) (x4 : Int32) (x5 : Int32) (μ : gk_St) : Prop := w_X8_cheapOf_j49 Q K C this x1 x2 x3 x4 x5 1 μ
set_option maxRecDepth 100000 in
set_option maxHeartbeats 4000000 in
theorem k_X8_cheapOf_j44 {Q : Int32 → gk_St → Prop} {K : Int32 → Int32 → Int32 → gk_St → Prop} {C : Int32 → Int32 → Int32 → Int32 → Int32 → gk_St → Prop} {this : Nat} {x1 : Int32} {x2 : Int32} {x3 : Int32} {x4 : Int32} {x5 : Int32} {μ : gk_St} (h_this : gk_isO this 8) (hK : ∀ (e2 : Int32) (e3 : Int32) (e4 : Int32) (em : gk_St), K e2 e3 e4 em → Go RX8 cX8_cheapOf 7 (some .int) 7 85 [(2, .int e2), (3, .int e3), (4, .int e4)] [] em (gk_Qi Q)) (hC : ∀ (c1 : Int32) (c2 : Int32) (c3 : Int32) (c4 : Int32) (c5 : Int32) (cm : gk_St), C c1 c2 c3 c4 c5 cm → Go RX8 cX8_cheapOf 7 (some .int) 7 12 [(0, .ref this), (1, .int c1), (2, .int c2), (3, .int c3), (4, .int c4), (5, .int c5)] [] cm (gk_Qi Q)) (h : w_X8_cheapOf_j44 Q K C this x1 x2 x3 x4 x5 μ) : Go RX8 cX8_cheapOf 7 (some .int) 7 44 [(0, .ref this), (1, .int x1), (2, .int x2), (3, .int x3), (4, .int x4), (5, .int x5)] [] μ (gk_Qi Q) := by
  unfold w_X8_cheapOf_j44 at h
  refine go_iconst (v := 1) dX8_cheapOf_44 (by decide) ?_
  refine go_goto 49 dX8_cheapOf_45 (by decide) ?_
  exact k_X8_cheapOf_j49 h_this hK hC h
def w_X8_cheapOf_l12 (Q : Int32 → gk_St → Prop) (K : Int32 → Int32 → Int32 → gk_St → Prop) (this : Nat) : Nat → Int32 → Int32 → Int32 → Int32 → Int32 → gk_St → Prop
  | 0, _, _, _, _, _, _ => False
  | n + 1, x1, x2, x3, x4, x5, μ => (if 4 ≤ x5 then K x2 x3 x4 μ else (vp_in x1 (gk_ln (gk_rf this 16)) ∧ (∀ m2 : gk_St, m2 = gk_up μ (gk_rf this 16) x1.toNatClampNeg x5 → w_X8_runs this m2 (fun m3 => (if x3 = (-1) then w_X8_cheapOf_j44 Q K (fun c_x1 c_x2 c_x3 c_x4 c_x5 cm => w_X8_cheapOf_l12 Q K this n c_x1 c_x2 c_x3 c_x4 c_x5 cm) this x1 x2 x3 x4 x5 m3 else (if x4 ≤ (m3 this 28) then w_X8_cheapOf_j49 Q K (fun c_x1 c_x2 c_x3 c_x4 c_x5 cm => w_X8_cheapOf_l12 Q K this n c_x1 c_x2 c_x3 c_x4 c_x5 cm) this x1 x2 x3 x4 x5 0 m3 else w_X8_cheapOf_j44 Q K (fun c_x1 c_x2 c_x3 c_x4 c_x5 cm => w_X8_cheapOf_l12 Q K this n c_x1 c_x2 c_x3 c_x4 c_x5 cm) this x1 x2 x3 x4 x5 m3))))))
set_option maxRecDepth 100000 in
set_option maxHeartbeats 4000000 in
theorem k_X8_cheapOf_l12 {Q : Int32 → gk_St → Prop} {K : Int32 → Int32 → Int32 → gk_St → Prop} {this : Nat} (h_this : gk_isO this 8) (hK : ∀ (e2 : Int32) (e3 : Int32) (e4 : Int32) (em : gk_St), K e2 e3 e4 em → Go RX8 cX8_cheapOf 7 (some .int) 7 85 [(2, .int e2), (3, .int e3), (4, .int e4)] [] em (gk_Qi Q)) : ∀ (n : Nat) (x1 : Int32) (x2 : Int32) (x3 : Int32) (x4 : Int32) (x5 : Int32) (μ : gk_St), w_X8_cheapOf_l12 Q K this n x1 x2 x3 x4 x5 μ → Go RX8 cX8_cheapOf 7 (some .int) 7 12 [(0, .ref this), (1, .int x1), (2, .int x2), (3, .int x3), (4, .int x4), (5, .int x5)] [] μ (gk_Qi Q) := by
  intro n
  induction n with
  | zero =>
    intro x1 x2 x3 x4 x5 μ h
    exact False.elim h
  | succ n ih =>
    intro x1 x2 x3 x4 x5 μ h
    unfold w_X8_cheapOf_l12 at h
    refine go_iload 5 dX8_cheapOf_12 rfl ?_
    refine go_iconst (v := 4) dX8_cheapOf_14 (by decide) ?_
    refine go_icmp_ge 85 dX8_cheapOf_15 (by decide) (fun c => ?_) (fun c => ?_)
    · replace h := gk_ip h c
      refine go_lv [2, 3, 4] rfl ?_
      exact hK _ _ _ _ h
    · replace h := gk_in h c
      refine go_aload_n 0 dX8_cheapOf_18 rfl rfl ?_
      refine go_getR dX8_cheapOf_19 fl_RX8_46 h_this (rr_8_16 h_this) ?_
      refine go_iload_n 1 dX8_cheapOf_22 rfl rfl ?_
      refine go_iload 5 dX8_cheapOf_23 rfl ?_
      refine gb_iastore dX8_cheapOf_25 (rt_8_16 h_this) h.1 (fun m2 e => ?_)
      replace h := h.2 m2 e
      refine go_aload_n 0 dX8_cheapOf_26 rfl rfl ?_
      refine go_callV (ci := 8) (d' := 3) [] dX8_cheapOf_27 cw_RX8_247 ki_X8_runs ks_X8_runs rfl (by decide) h_this rfl (Nat.le_of_ble_eq_true rfl) (by decide) (k_X8_runs h_this h) (gk_kv (fun m3 h => ?_))
      refine go_iload_n 3 dX8_cheapOf_30 rfl rfl ?_
      refine go_iconst (v := (-1)) dX8_cheapOf_31 (by decide) ?_
      refine go_icmp_eq 44 dX8_cheapOf_32 (by decide) (fun c => ?_) (fun c => ?_)
      · replace h := gk_ip h c
        exact k_X8_cheapOf_j44 h_this hK (fun _ _ _ _ _ _ h => ih _ _ _ _ _ _ h) h
      · replace h := gk_in h c
        refine go_aload_n 0 dX8_cheapOf_35 rfl rfl ?_
        refine go_getI dX8_cheapOf_36 fl_RX8_238 h_this (nf_8_28 h_this) ?_
        refine go_iload 4 dX8_cheapOf_39 rfl ?_
        refine go_icmp_ge 48 dX8_cheapOf_41 (by decide) (fun c => ?_) (fun c => ?_)
        · replace h := gk_ip h c
          refine go_iconst (v := 0) dX8_cheapOf_48 (by decide) ?_
          exact k_X8_cheapOf_j49 h_this hK (fun _ _ _ _ _ _ h => ih _ _ _ _ _ _ h) h
        · replace h := gk_in h c
          exact k_X8_cheapOf_j44 h_this hK (fun _ _ _ _ _ _ h => ih _ _ _ _ _ _ h) h
def w_X8_cheapOf (this : Nat) (x1 : Int32) (x2 : Int32) (μ : gk_St) (Q : Int32 → gk_St → Prop) : Prop := w_X8_asTold this μ (fun m1 => (∃ n12 : Nat, w_X8_cheapOf_l12 Q (fun y7 y8 y9 m10 => (if y7 = 0 then Q y8 m10 else Q y9 m10)) this n12 x1 x2 (-1) 0 0 m1))
set_option maxRecDepth 100000 in
set_option maxHeartbeats 4000000 in
theorem k_X8_cheapOf {this : Nat} {x1 : Int32} {x2 : Int32} {μ : gk_St} {Q : Int32 → gk_St → Prop} (h_this : gk_isO this 8) (h : w_X8_cheapOf this x1 x2 μ Q) : gk_CT yX8_cheapOf cX8_cheapOf 7 (some .int) 7 [.ref this, .int x1, .int x2] μ (gk_Qi Q) := by
  unfold w_X8_cheapOf at h
  refine gk_enter (by decide) (Nat.le_of_ble_eq_true rfl) ?_
  show Go RX8 cX8_cheapOf 7 (some .int) 7 0 [(0, .ref this), (1, .int x1), (2, .int x2)] [] μ (gk_Qi Q)
  refine go_aload_n 0 dX8_cheapOf_0 rfl rfl ?_
  refine go_callV (ci := 8) (d' := 6) [] dX8_cheapOf_1 cw_RX8_244 ki_X8_asTold ks_X8_asTold rfl (by decide) h_this rfl (Nat.le_of_ble_eq_true rfl) (by decide) (k_X8_asTold h_this h) (gk_kv (fun m1 h => ?_))
  refine go_iconst (v := (-1)) dX8_cheapOf_4 (by decide) ?_
  refine go_istore_n [(3, .int (-1)), (0, .ref this), (1, .int x1), (2, .int x2)] dX8_cheapOf_5 rfl (by decide) rfl ?_
  refine go_iconst (v := 0) dX8_cheapOf_6 (by decide) ?_
  refine go_istore [(4, .int 0), (3, .int (-1)), (0, .ref this), (1, .int x1), (2, .int x2)] dX8_cheapOf_7 (by decide) rfl ?_
  refine go_iconst (v := 0) dX8_cheapOf_9 (by decide) ?_
  refine go_istore [(5, .int 0), (4, .int 0), (3, .int (-1)), (0, .ref this), (1, .int x1), (2, .int x2)] dX8_cheapOf_10 (by decide) rfl ?_
  refine go_lv [3, 4, 5, 2, 1, 0] rfl ?_
  obtain ⟨n12, h⟩ := h
  refine k_X8_cheapOf_l12 h_this (fun y7 y8 y9 m10 h => ?_) n12 _ _ _ _ _ _ h
  refine go_iload_n 0 dX8_cheapOf_85 rfl rfl ?_
  refine go_if_ne 93 dX8_cheapOf_86 (by decide) (fun c => ?_) (fun c => ?_)
  · replace h := gk_in h c
    refine go_iload 2 dX8_cheapOf_93 rfl ?_
    exact go_iret dX8_cheapOf_95 ⟨_, rfl, h⟩
  · replace h := gk_ip h c
    refine go_iload_n 1 dX8_cheapOf_89 rfl rfl ?_
    refine go_goto 95 dX8_cheapOf_90 (by decide) ?_
    exact go_iret dX8_cheapOf_95 ⟨_, rfl, h⟩
def w_X8_cheap (this : Nat) (x1 : Int32) (x2 : Int32) (μ : gk_St) (Q : Int32 → gk_St → Prop) : Prop := w_X8_isMoment x1 μ (fun r2 m1 => (if r2 = 0 then Q (-2) m1 else w_X8_isTwo x2 m1 (fun r4 m3 => (if r4 = 0 then Q (-2) m3 else w_X8_cheapOf this x1 x2 m3 (fun r6 m5 => Q r6 m5)))))
set_option maxRecDepth 100000 in
set_option maxHeartbeats 4000000 in
theorem k_X8_cheap {this : Nat} {x1 : Int32} {x2 : Int32} {μ : gk_St} {Q : Int32 → gk_St → Prop} (h_this : gk_isO this 8) (h : w_X8_cheap this x1 x2 μ Q) : gk_CT yX8_cheap cX8_cheap 3 (some .int) 8 [.ref this, .int x1, .int x2] μ (gk_Qi Q) := by
  unfold w_X8_cheap at h
  refine gk_enter (by decide) (Nat.le_of_ble_eq_true rfl) ?_
  show Go RX8 cX8_cheap 3 (some .int) 8 0 [(0, .ref this), (1, .int x1), (2, .int x2)] [] μ (gk_Qi Q)
  refine go_iload_n 1 dX8_cheap_0 rfl rfl ?_
  refine go_callS (d' := 1) [.int x1] dX8_cheap_1 cw_RX8_132 kt_X8_isMoment rfl (Nat.le_of_ble_eq_true rfl) (by decide) (k_X8_isMoment h) (gk_ki (fun r2 m1 h => ?_))
  refine go_if_eq 23 dX8_cheap_4 (by decide) (fun c => ?_) (fun c => ?_)
  · replace h := gk_ip h c
    refine go_bipush (v := (-2)) dX8_cheap_23 (by decide) ?_
    exact go_iret dX8_cheap_25 ⟨_, rfl, h⟩
  · replace h := gk_in h c
    refine go_iload_n 2 dX8_cheap_7 rfl rfl ?_
    refine go_callS (d' := 1) [.int x2] dX8_cheap_8 cw_RX8_253 kt_X8_isTwo rfl (Nat.le_of_ble_eq_true rfl) (by decide) (k_X8_isTwo h) (gk_ki (fun r4 m3 h => ?_))
    refine go_if_eq 23 dX8_cheap_11 (by decide) (fun c => ?_) (fun c => ?_)
    · replace h := gk_ip h c
      refine go_bipush (v := (-2)) dX8_cheap_23 (by decide) ?_
      exact go_iret dX8_cheap_25 ⟨_, rfl, h⟩
    · replace h := gk_in h c
      refine go_aload_n 0 dX8_cheap_14 rfl rfl ?_
      refine go_iload_n 1 dX8_cheap_15 rfl rfl ?_
      refine go_iload_n 2 dX8_cheap_16 rfl rfl ?_
      refine go_callV (ci := 8) (d' := 7) [.int x1, .int x2] dX8_cheap_17 cw_RX8_298 ki_X8_cheapOf ks_X8_cheapOf rfl (by decide) h_this rfl (Nat.le_of_ble_eq_true rfl) (by decide) (k_X8_cheapOf h_this h) (gk_ki (fun r6 m5 h => ?_))
      refine go_goto 25 dX8_cheap_20 (by decide) ?_
      exact go_iret dX8_cheap_25 ⟨_, rfl, h⟩
def w_X8_isSpared (this : Nat) (x1 : Int32) (μ : gk_St) (Q : Int32 → gk_St → Prop) : Prop := (∀ m1 : gk_St, m1 = gk_up μ this 17 x1 → w_X8_runs this m1 (fun m2 => w_X8_leftNow this m2 (fun r4 m3 => (if r4 = 0 then Q 1 m3 else Q 0 m3))))
set_option maxRecDepth 100000 in
set_option maxHeartbeats 4000000 in
theorem k_X8_isSpared {this : Nat} {x1 : Int32} {μ : gk_St} {Q : Int32 → gk_St → Prop} (h_this : gk_isO this 8) (h : w_X8_isSpared this x1 μ Q) : gk_CT yX8_isSpared cX8_isSpared 2 (some .boolean) 4 [.ref this, .int x1] μ (gk_Qi Q) := by
  unfold w_X8_isSpared at h
  refine gk_enter (by decide) (Nat.le_of_ble_eq_true rfl) ?_
  show Go RX8 cX8_isSpared 2 (some .boolean) 4 0 [(0, .ref this), (1, .int x1)] [] μ (gk_Qi Q)
  refine go_aload_n 0 dX8_isSpared_0 rfl rfl ?_
  refine go_iload_n 1 dX8_isSpared_1 rfl rfl ?_
  refine gb_putI dX8_isSpared_2 fp_RX8_192 h_this (nf_8_17 h_this) (fun m1 e => ?_)
  replace h := h m1 e
  refine go_aload_n 0 dX8_isSpared_5 rfl rfl ?_
  refine go_callV (ci := 8) (d' := 3) [] dX8_isSpared_6 cw_RX8_247 ki_X8_runs ks_X8_runs rfl (by decide) h_this rfl (Nat.le_of_ble_eq_true rfl) (by decide) (k_X8_runs h_this h) (gk_kv (fun m2 h => ?_))
  refine go_aload_n 0 dX8_isSpared_9 rfl rfl ?_
  refine go_callV (ci := 8) (d' := 0) [] dX8_isSpared_10 cw_RX8_280 ki_X8_leftNow ks_X8_leftNow rfl (by decide) h_this rfl (Nat.le_of_ble_eq_true rfl) (by decide) (k_X8_leftNow h_this h) (gk_ki (fun r4 m3 h => ?_))
  refine go_if_ne 20 dX8_isSpared_13 (by decide) (fun c => ?_) (fun c => ?_)
  · replace h := gk_in h c
    refine go_iconst (v := 0) dX8_isSpared_20 (by decide) ?_
    exact go_zret dX8_isSpared_21 (Or.inl rfl) ⟨_, rfl, h⟩
  · replace h := gk_ip h c
    refine go_iconst (v := 1) dX8_isSpared_16 (by decide) ?_
    refine go_goto 21 dX8_isSpared_17 (by decide) ?_
    exact go_zret dX8_isSpared_21 (Or.inr rfl) ⟨_, rfl, h⟩
def w_X8_spareBy_l16 (Q : Int32 → gk_St → Prop) (K : gk_St → Prop) (this : Nat) : Nat → Int32 → gk_St → Prop
  | 0, _, _ => False
  | n + 1, x1, μ => (if (μ this 12) ≤ x1 then K  μ else (vp_in 0 (gk_ln (gk_rf this 36)) ∧ (∀ m4 : gk_St, m4 = gk_up μ (gk_rf this 36) (0 : Int32).toNatClampNeg x1 → w_X8_isSpared this ((1 : Int32) <<< (x1 &&& 31)) m4 (fun r6 m5 => (if r6 = 0 then (∀ v7 : Int32, v7 = x1 + 1 → w_X8_spareBy_l16 Q K this n v7 m5) else Q 1 m5)))))
set_option maxRecDepth 100000 in
set_option maxHeartbeats 4000000 in
theorem k_X8_spareBy_l16 {Q : Int32 → gk_St → Prop} {K : gk_St → Prop} {this : Nat} (h_this : gk_isO this 8) (hK : ∀ (em : gk_St), K  em → Go RX8 cX8_spareBy 3 (some .int) 7 49 [(0, .ref this)] [] em (gk_Qi Q)) : ∀ (n : Nat) (x1 : Int32) (μ : gk_St), w_X8_spareBy_l16 Q K this n x1 μ → Go RX8 cX8_spareBy 3 (some .int) 7 16 [(0, .ref this), (1, .int x1)] [] μ (gk_Qi Q) := by
  intro n
  induction n with
  | zero =>
    intro x1 μ h
    exact False.elim h
  | succ n ih =>
    intro x1 μ h
    unfold w_X8_spareBy_l16 at h
    refine go_iload_n 1 dX8_spareBy_16 rfl rfl ?_
    refine go_aload_n 0 dX8_spareBy_17 rfl rfl ?_
    refine go_getI dX8_spareBy_18 fl_RX8_179 h_this (nf_8_12 h_this) ?_
    refine go_icmp_ge 49 dX8_spareBy_21 (by decide) (fun c => ?_) (fun c => ?_)
    · replace h := gk_ip h c
      refine go_lv [0] rfl ?_
      exact hK  _ h
    · replace h := gk_in h c
      refine go_aload_n 0 dX8_spareBy_24 rfl rfl ?_
      refine go_getR dX8_spareBy_25 fl_RX8_79 h_this (rr_8_36 h_this) ?_
      refine go_iconst (v := 0) dX8_spareBy_28 (by decide) ?_
      refine go_iload_n 1 dX8_spareBy_29 rfl rfl ?_
      refine gb_iastore dX8_spareBy_30 (rt_8_36 h_this) h.1 (fun m4 e => ?_)
      replace h := h.2 m4 e
      refine go_aload_n 0 dX8_spareBy_31 rfl rfl ?_
      refine go_iconst (v := 1) dX8_spareBy_32 (by decide) ?_
      refine go_iload_n 1 dX8_spareBy_33 rfl rfl ?_
      refine go_ishl dX8_spareBy_34 ?_
      refine go_callV (ci := 8) (d' := 4) [.int ((1 : Int32) <<< (x1 &&& 31))] dX8_spareBy_35 cw_RX8_301 ki_X8_isSpared ks_X8_isSpared rfl (by decide) h_this rfl (Nat.le_of_ble_eq_true rfl) (by decide) (k_X8_isSpared h_this h) (gk_ki (fun r6 m5 h => ?_))
      refine go_if_eq 43 dX8_spareBy_38 (by decide) (fun c => ?_) (fun c => ?_)
      · replace h := gk_ip h c
        refine gb_iinc (w := 1) 1 (fun v7 => [(1, .int v7), (0, .ref this)]) dX8_spareBy_43 rfl (by decide) (by decide) (fun _ => rfl) (fun v7 e => ?_)
        replace h := h v7 e
        refine go_goto 16 dX8_spareBy_46 (by decide) ?_
        refine go_lv [1, 0] rfl ?_
        exact ih _ _ h
      · replace h := gk_in h c
        refine go_iconst (v := 1) dX8_spareBy_41 (by decide) ?_
        exact go_iret dX8_spareBy_42 ⟨_, rfl, h⟩
def w_X8_spareBy_l63 (Q : Int32 → gk_St → Prop) (K : Int32 → gk_St → Prop) (this : Nat) : Nat → Int32 → Int32 → gk_St → Prop
  | 0, _, _, _ => False
  | n + 1, x1, x2, μ => (if (μ this 12) ≤ x2 then K x1 μ else (vp_in 0 (gk_ln (gk_rf this 36)) ∧ (∀ m10 : gk_St, m10 = gk_up μ (gk_rf this 36) (0 : Int32).toNatClampNeg x1 → (vp_in 1 (gk_ln (gk_rf this 36)) ∧ (∀ m11 : gk_St, m11 = gk_up m10 (gk_rf this 36) (1 : Int32).toNatClampNeg x2 → w_X8_isSpared this (((1 : Int32) <<< (x1 &&& 31)) ||| ((1 : Int32) <<< (x2 &&& 31))) m11 (fun r13 m12 => (if r13 = 0 then (∀ v14 : Int32, v14 = x2 + 1 → w_X8_spareBy_l63 Q K this n x1 v14 m12) else Q 2 m12)))))))
set_option maxRecDepth 100000 in
set_option maxHeartbeats 4000000 in
theorem k_X8_spareBy_l63 {Q : Int32 → gk_St → Prop} {K : Int32 → gk_St → Prop} {this : Nat} (h_this : gk_isO this 8) (hK : ∀ (e1 : Int32) (em : gk_St), K e1 em → Go RX8 cX8_spareBy 3 (some .int) 7 107 [(0, .ref this), (1, .int e1)] [] em (gk_Qi Q)) : ∀ (n : Nat) (x1 : Int32) (x2 : Int32) (μ : gk_St), w_X8_spareBy_l63 Q K this n x1 x2 μ → Go RX8 cX8_spareBy 3 (some .int) 7 63 [(0, .ref this), (1, .int x1), (2, .int x2)] [] μ (gk_Qi Q) := by
  intro n
  induction n with
  | zero =>
    intro x1 x2 μ h
    exact False.elim h
  | succ n ih =>
    intro x1 x2 μ h
    unfold w_X8_spareBy_l63 at h
    refine go_iload_n 2 dX8_spareBy_63 rfl rfl ?_
    refine go_aload_n 0 dX8_spareBy_64 rfl rfl ?_
    refine go_getI dX8_spareBy_65 fl_RX8_179 h_this (nf_8_12 h_this) ?_
    refine go_icmp_ge 107 dX8_spareBy_68 (by decide) (fun c => ?_) (fun c => ?_)
    · replace h := gk_ip h c
      refine go_lv [0, 1] rfl ?_
      exact hK _ _ h
    · replace h := gk_in h c
      refine go_aload_n 0 dX8_spareBy_71 rfl rfl ?_
      refine go_getR dX8_spareBy_72 fl_RX8_79 h_this (rr_8_36 h_this) ?_
      refine go_iconst (v := 0) dX8_spareBy_75 (by decide) ?_
      refine go_iload_n 1 dX8_spareBy_76 rfl rfl ?_
      refine gb_iastore dX8_spareBy_77 (rt_8_36 h_this) h.1 (fun m10 e => ?_)
      replace h := h.2 m10 e
      refine go_aload_n 0 dX8_spareBy_78 rfl rfl ?_
      refine go_getR dX8_spareBy_79 fl_RX8_79 h_this (rr_8_36 h_this) ?_
      refine go_iconst (v := 1) dX8_spareBy_82 (by decide) ?_
      refine go_iload_n 2 dX8_spareBy_83 rfl rfl ?_
      refine gb_iastore dX8_spareBy_84 (rt_8_36 h_this) h.1 (fun m11 e => ?_)
      replace h := h.2 m11 e
      refine go_aload_n 0 dX8_spareBy_85 rfl rfl ?_
      refine go_iconst (v := 1) dX8_spareBy_86 (by decide) ?_
      refine go_iload_n 1 dX8_spareBy_87 rfl rfl ?_
      refine go_ishl dX8_spareBy_88 ?_
      refine go_iconst (v := 1) dX8_spareBy_89 (by decide) ?_
      refine go_iload_n 2 dX8_spareBy_90 rfl rfl ?_
      refine go_ishl dX8_spareBy_91 ?_
      refine go_ior dX8_spareBy_92 ?_
      refine go_callV (ci := 8) (d' := 4) [.int (((1 : Int32) <<< (x1 &&& 31)) ||| ((1 : Int32) <<< (x2 &&& 31)))] dX8_spareBy_93 cw_RX8_301 ki_X8_isSpared ks_X8_isSpared rfl (by decide) h_this rfl (Nat.le_of_ble_eq_true rfl) (by decide) (k_X8_isSpared h_this h) (gk_ki (fun r13 m12 h => ?_))
      refine go_if_eq 101 dX8_spareBy_96 (by decide) (fun c => ?_) (fun c => ?_)
      · replace h := gk_ip h c
        refine gb_iinc (w := 1) 2 (fun v14 => [(2, .int v14), (0, .ref this), (1, .int x1)]) dX8_spareBy_101 rfl (by decide) (by decide) (fun _ => rfl) (fun v14 e => ?_)
        replace h := h v14 e
        refine go_goto 63 dX8_spareBy_104 (by decide) ?_
        refine go_lv [1, 2, 0] rfl ?_
        exact ih _ _ _ h
      · replace h := gk_in h c
        refine go_iconst (v := 2) dX8_spareBy_99 (by decide) ?_
        exact go_iret dX8_spareBy_100 ⟨_, rfl, h⟩
def w_X8_spareBy_l51 (Q : Int32 → gk_St → Prop) (K : gk_St → Prop) (this : Nat) : Nat → Int32 → gk_St → Prop
  | 0, _, _ => False
  | n + 1, x1, μ => (if (μ this 12) ≤ x1 then K  μ else (∀ v9 : Int32, v9 = (x1 + 1) → (∃ n63 : Nat, w_X8_spareBy_l63 Q (fun y15 m16 => (∀ v17 : Int32, v17 = y15 + 1 → w_X8_spareBy_l51 Q K this n v17 m16)) this n63 x1 v9 μ)))
set_option maxRecDepth 100000 in
set_option maxHeartbeats 4000000 in
theorem k_X8_spareBy_l51 {Q : Int32 → gk_St → Prop} {K : gk_St → Prop} {this : Nat} (h_this : gk_isO this 8) (hK : ∀ (em : gk_St), K  em → Go RX8 cX8_spareBy 3 (some .int) 7 113 [] [] em (gk_Qi Q)) : ∀ (n : Nat) (x1 : Int32) (μ : gk_St), w_X8_spareBy_l51 Q K this n x1 μ → Go RX8 cX8_spareBy 3 (some .int) 7 51 [(0, .ref this), (1, .int x1)] [] μ (gk_Qi Q) := by
  intro n
  induction n with
  | zero =>
    intro x1 μ h
    exact False.elim h
  | succ n ih =>
    intro x1 μ h
    unfold w_X8_spareBy_l51 at h
    refine go_iload_n 1 dX8_spareBy_51 rfl rfl ?_
    refine go_aload_n 0 dX8_spareBy_52 rfl rfl ?_
    refine go_getI dX8_spareBy_53 fl_RX8_179 h_this (nf_8_12 h_this) ?_
    refine go_icmp_ge 113 dX8_spareBy_56 (by decide) (fun c => ?_) (fun c => ?_)
    · replace h := gk_ip h c
      refine go_lv [] rfl ?_
      exact hK  _ h
    · replace h := gk_in h c
      refine go_iload_n 1 dX8_spareBy_59 rfl rfl ?_
      refine go_iconst (v := 1) dX8_spareBy_60 (by decide) ?_
      refine go_iadd dX8_spareBy_61 ?_
      refine gb_istore_n (fun v9 => [(2, .int v9), (0, .ref this), (1, .int x1)]) dX8_spareBy_62 rfl (by decide) (fun _ => rfl) (fun v9 e => ?_)
      replace h := h v9 e
      refine go_lv [1, 2, 0] rfl ?_
      obtain ⟨n63, h⟩ := h
      refine k_X8_spareBy_l63 h_this (fun y15 m16 h => ?_) n63 _ _ _ h
      refine gb_iinc (w := 1) 1 (fun v17 => [(1, .int v17), (0, .ref this)]) dX8_spareBy_107 rfl (by decide) (by decide) (fun _ => rfl) (fun v17 e => ?_)
      replace h := h v17 e
      refine go_goto 51 dX8_spareBy_110 (by decide) ?_
      refine go_lv [1, 0] rfl ?_
      exact ih _ _ h
def w_X8_spareBy (this : Nat) (μ : gk_St) (Q : Int32 → gk_St → Prop) : Prop := w_X8_asTold this μ (fun m1 => w_X8_isSpared this 0 m1 (fun r3 m2 => (if r3 = 0 then (∃ n16 : Nat, w_X8_spareBy_l16 Q (fun m8 => (∃ n51 : Nat, w_X8_spareBy_l51 Q (fun m18 => Q (-1) m18) this n51 0 m8)) this n16 0 m2) else Q 0 m2)))
set_option maxRecDepth 100000 in
set_option maxHeartbeats 4000000 in
theorem k_X8_spareBy {this : Nat} {μ : gk_St} {Q : Int32 → gk_St → Prop} (h_this : gk_isO this 8) (h : w_X8_spareBy this μ Q) : gk_CT yX8_spareBy cX8_spareBy 3 (some .int) 7 [.ref this] μ (gk_Qi Q) := by
  unfold w_X8_spareBy at h
  refine gk_enter (by decide) (Nat.le_of_ble_eq_true rfl) ?_
  show Go RX8 cX8_spareBy 3 (some .int) 7 0 [(0, .ref this)] [] μ (gk_Qi Q)
  refine go_aload_n 0 dX8_spareBy_0 rfl rfl ?_
  refine go_callV (ci := 8) (d' := 6) [] dX8_spareBy_1 cw_RX8_244 ki_X8_asTold ks_X8_asTold rfl (by decide) h_this rfl (Nat.le_of_ble_eq_true rfl) (by decide) (k_X8_asTold h_this h) (gk_kv (fun m1 h => ?_))
  refine go_aload_n 0 dX8_spareBy_4 rfl rfl ?_
  refine go_iconst (v := 0) dX8_spareBy_5 (by decide) ?_
  refine go_callV (ci := 8) (d' := 4) [.int 0] dX8_spareBy_6 cw_RX8_301 ki_X8_isSpared ks_X8_isSpared rfl (by decide) h_this rfl (Nat.le_of_ble_eq_true rfl) (by decide) (k_X8_isSpared h_this h) (gk_ki (fun r3 m2 h => ?_))
  refine go_if_eq 14 dX8_spareBy_9 (by decide) (fun c => ?_) (fun c => ?_)
  · replace h := gk_ip h c
    refine go_iconst (v := 0) dX8_spareBy_14 (by decide) ?_
    refine go_istore_n [(1, .int 0), (0, .ref this)] dX8_spareBy_15 rfl (by decide) rfl ?_
    refine go_lv [1, 0] rfl ?_
    obtain ⟨n16, h⟩ := h
    refine k_X8_spareBy_l16 h_this (fun m8 h => ?_) n16 _ _ h
    refine go_iconst (v := 0) dX8_spareBy_49 (by decide) ?_
    refine go_istore_n [(1, .int 0), (0, .ref this)] dX8_spareBy_50 rfl (by decide) rfl ?_
    refine go_lv [1, 0] rfl ?_
    obtain ⟨n51, h⟩ := h
    refine k_X8_spareBy_l51 h_this (fun m18 h => ?_) n51 _ _ h
    refine go_iconst (v := (-1)) dX8_spareBy_113 (by decide) ?_
    exact go_iret dX8_spareBy_114 ⟨_, rfl, h⟩
  · replace h := gk_in h c
    refine go_iconst (v := 0) dX8_spareBy_12 (by decide) ?_
    exact go_iret dX8_spareBy_13 ⟨_, rfl, h⟩
def w_X8_ofRow (this : Nat) (x1 : Int32) (x2 : Int32) (μ : gk_St) (Q : Int32 → gk_St → Prop) : Prop := (if x2 = (-1) then Q x1 μ else (if x1 ≤ x2 then Q (-1) μ else (vp_in x2 (gk_ln (gk_rf this 36)) ∧ Q (μ (gk_rf this 36) x2.toNatClampNeg) μ)))
set_option maxRecDepth 100000 in
set_option maxHeartbeats 4000000 in
theorem k_X8_ofRow {this : Nat} {x1 : Int32} {x2 : Int32} {μ : gk_St} {Q : Int32 → gk_St → Prop} (h_this : gk_isO this 8) (h : w_X8_ofRow this x1 x2 μ Q) : gk_CT yX8_ofRow cX8_ofRow 3 (some .int) 0 [.ref this, .int x1, .int x2] μ (gk_Qi Q) := by
  unfold w_X8_ofRow at h
  refine gk_enter (by decide) (Nat.le_of_ble_eq_true rfl) ?_
  show Go RX8 cX8_ofRow 3 (some .int) 0 0 [(0, .ref this), (1, .int x1), (2, .int x2)] [] μ (gk_Qi Q)
  refine go_iload_n 2 dX8_ofRow_0 rfl rfl ?_
  refine go_iconst (v := (-1)) dX8_ofRow_1 (by decide) ?_
  refine go_icmp_ne 9 dX8_ofRow_2 (by decide) (fun c => ?_) (fun c => ?_)
  · replace h := gk_in h c
    refine go_iload_n 2 dX8_ofRow_9 rfl rfl ?_
    refine go_iload_n 1 dX8_ofRow_10 rfl rfl ?_
    refine go_icmp_ge 23 dX8_ofRow_11 (by decide) (fun c => ?_) (fun c => ?_)
    · replace h := gk_ip h c
      refine go_iconst (v := (-1)) dX8_ofRow_23 (by decide) ?_
      exact go_iret dX8_ofRow_24 ⟨_, rfl, h⟩
    · replace h := gk_in h c
      refine go_aload_n 0 dX8_ofRow_14 rfl rfl ?_
      refine go_getR dX8_ofRow_15 fl_RX8_79 h_this (rr_8_36 h_this) ?_
      refine go_iload_n 2 dX8_ofRow_18 rfl rfl ?_
      refine go_iaload dX8_ofRow_19 (rt_8_36 h_this) h.1 ?_
      replace h := h.2
      refine go_goto 24 dX8_ofRow_20 (by decide) ?_
      exact go_iret dX8_ofRow_24 ⟨_, rfl, h⟩
  · replace h := gk_ip h c
    refine go_iload_n 1 dX8_ofRow_5 rfl rfl ?_
    refine go_goto 24 dX8_ofRow_6 (by decide) ?_
    exact go_iret dX8_ofRow_24 ⟨_, rfl, h⟩
def w_X8_spare (this : Nat) (x1 : Int32) (μ : gk_St) (Q : Int32 → gk_St → Prop) : Prop := w_X8_in x1 (-1) 1 μ (fun r2 m1 => (if r2 = 0 then Q (-2) m1 else w_X8_spareBy this m1 (fun r4 m3 => w_X8_ofRow this r4 x1 m3 (fun r6 m5 => Q r6 m5))))
set_option maxRecDepth 100000 in
set_option maxHeartbeats 4000000 in
theorem k_X8_spare {this : Nat} {x1 : Int32} {μ : gk_St} {Q : Int32 → gk_St → Prop} (h_this : gk_isO this 8) (h : w_X8_spare this x1 μ Q) : gk_CT yX8_spare cX8_spare 2 (some .int) 8 [.ref this, .int x1] μ (gk_Qi Q) := by
  unfold w_X8_spare at h
  refine gk_enter (by decide) (Nat.le_of_ble_eq_true rfl) ?_
  show Go RX8 cX8_spare 2 (some .int) 8 0 [(0, .ref this), (1, .int x1)] [] μ (gk_Qi Q)
  refine go_iload_n 1 dX8_spare_0 rfl rfl ?_
  refine go_iconst (v := (-1)) dX8_spare_1 (by decide) ?_
  refine go_iconst (v := 1) dX8_spare_2 (by decide) ?_
  refine go_callS (d' := 0) [.int x1, .int (-1), .int 1] dX8_spare_3 cw_RX8_112 kt_X8_in rfl (Nat.le_of_ble_eq_true rfl) (by decide) (k_X8_in h) (gk_ki (fun r2 m1 h => ?_))
  refine go_if_eq 21 dX8_spare_6 (by decide) (fun c => ?_) (fun c => ?_)
  · replace h := gk_ip h c
    refine go_bipush (v := (-2)) dX8_spare_21 (by decide) ?_
    exact go_iret dX8_spare_23 ⟨_, rfl, h⟩
  · replace h := gk_in h c
    refine go_aload_n 0 dX8_spare_9 rfl rfl ?_
    refine go_aload_n 0 dX8_spare_10 rfl rfl ?_
    refine go_callV (ci := 8) (d' := 7) [] dX8_spare_11 cw_RX8_304 ki_X8_spareBy ks_X8_spareBy rfl (by decide) h_this rfl (Nat.le_of_ble_eq_true rfl) (by decide) (k_X8_spareBy h_this h) (gk_ki (fun r4 m3 h => ?_))
    refine go_iload_n 1 dX8_spare_14 rfl rfl ?_
    refine go_callV (ci := 8) (d' := 0) [.int r4, .int x1] dX8_spare_15 cw_RX8_307 ki_X8_ofRow ks_X8_ofRow rfl (by decide) h_this rfl (Nat.le_of_ble_eq_true rfl) (by decide) (k_X8_ofRow h_this h) (gk_ki (fun r6 m5 h => ?_))
    refine go_goto 23 dX8_spare_18 (by decide) ?_
    exact go_iret dX8_spare_23 ⟨_, rfl, h⟩
def w_X8_seen (this : Nat) (x1 : Int32) (x2 : Int32) (x3 : Int32) (μ : gk_St) (Q : Int32 → gk_St → Prop) : Prop := w_X8_isMoment x1 μ (fun r2 m1 => (if r2 = 0 then Q (-2) m1 else w_X8_isTwo x2 m1 (fun r4 m3 => (if r4 = 0 then Q (-2) m3 else w_X8_in x3 0 108 m3 (fun r6 m5 => (if r6 = 0 then Q (-2) m5 else (if (m5 this 37) = 8 then Q (-4) m5 else (vp_in (m5 this 37) (gk_ln (gk_rf this 38)) ∧ (∀ m7 : gk_St, m7 = gk_up m5 (gk_rf this 38) (Int32.toNatClampNeg (m5 this 37)) x1 → (vp_in (m7 this 37) (gk_ln (gk_rf this 39)) ∧ (∀ m8 : gk_St, m8 = gk_up m7 (gk_rf this 39) (Int32.toNatClampNeg (m7 this 37)) x2 → (vp_in (m8 this 37) (gk_ln (gk_rf this 40)) ∧ (∀ m9 : gk_St, m9 = gk_up m8 (gk_rf this 40) (Int32.toNatClampNeg (m8 this 37)) x3 → (∀ m10 : gk_St, m10 = gk_up m9 this 37 ((m9 this 37) + 1) → Q (m10 this 37) m10))))))))))))))
set_option maxRecDepth 100000 in
set_option maxHeartbeats 4000000 in
theorem k_X8_seen {this : Nat} {x1 : Int32} {x2 : Int32} {x3 : Int32} {μ : gk_St} {Q : Int32 → gk_St → Prop} (h_this : gk_isO this 8) (h : w_X8_seen this x1 x2 x3 μ Q) : gk_CT yX8_seen cX8_seen 4 (some .int) 2 [.ref this, .int x1, .int x2, .int x3] μ (gk_Qi Q) := by
  unfold w_X8_seen at h
  refine gk_enter (by decide) (Nat.le_of_ble_eq_true rfl) ?_
  show Go RX8 cX8_seen 4 (some .int) 2 0 [(0, .ref this), (1, .int x1), (2, .int x2), (3, .int x3)] [] μ (gk_Qi Q)
  refine go_iload_n 1 dX8_seen_0 rfl rfl ?_
  refine go_callS (d' := 1) [.int x1] dX8_seen_1 cw_RX8_132 kt_X8_isMoment rfl (Nat.le_of_ble_eq_true rfl) (by decide) (k_X8_isMoment h) (gk_ki (fun r2 m1 h => ?_))
  refine go_if_eq 24 dX8_seen_4 (by decide) (fun c => ?_) (fun c => ?_)
  · replace h := gk_ip h c
    refine go_bipush (v := (-2)) dX8_seen_24 (by decide) ?_
    exact go_iret dX8_seen_26 ⟨_, rfl, h⟩
  · replace h := gk_in h c
    refine go_iload_n 2 dX8_seen_7 rfl rfl ?_
    refine go_callS (d' := 1) [.int x2] dX8_seen_8 cw_RX8_253 kt_X8_isTwo rfl (Nat.le_of_ble_eq_true rfl) (by decide) (k_X8_isTwo h) (gk_ki (fun r4 m3 h => ?_))
    refine go_if_eq 24 dX8_seen_11 (by decide) (fun c => ?_) (fun c => ?_)
    · replace h := gk_ip h c
      refine go_bipush (v := (-2)) dX8_seen_24 (by decide) ?_
      exact go_iret dX8_seen_26 ⟨_, rfl, h⟩
    · replace h := gk_in h c
      refine go_iload_n 3 dX8_seen_14 rfl rfl ?_
      refine go_iconst (v := 0) dX8_seen_15 (by decide) ?_
      refine go_bipush (v := 108) dX8_seen_16 (by decide) ?_
      refine go_callS (d' := 0) [.int x3, .int 0, .int 108] dX8_seen_18 cw_RX8_112 kt_X8_in rfl (Nat.le_of_ble_eq_true rfl) (by decide) (k_X8_in h) (gk_ki (fun r6 m5 h => ?_))
      refine go_if_ne 27 dX8_seen_21 (by decide) (fun c => ?_) (fun c => ?_)
      · replace h := gk_in h c
        refine go_aload_n 0 dX8_seen_27 rfl rfl ?_
        refine go_getI dX8_seen_28 fl_RX8_310 h_this (nf_8_37 h_this) ?_
        refine go_bipush (v := 8) dX8_seen_31 (by decide) ?_
        refine go_icmp_ne 39 dX8_seen_33 (by decide) (fun c => ?_) (fun c => ?_)
        · replace h := gk_in h c
          refine go_aload_n 0 dX8_seen_39 rfl rfl ?_
          refine go_getR dX8_seen_40 fl_RX8_82 h_this (rr_8_38 h_this) ?_
          refine go_aload_n 0 dX8_seen_43 rfl rfl ?_
          refine go_getI dX8_seen_44 fl_RX8_310 h_this (nf_8_37 h_this) ?_
          refine go_iload_n 1 dX8_seen_47 rfl rfl ?_
          refine gb_iastore dX8_seen_48 (rt_8_38 h_this) h.1 (fun m7 e => ?_)
          replace h := h.2 m7 e
          refine go_aload_n 0 dX8_seen_49 rfl rfl ?_
          refine go_getR dX8_seen_50 fl_RX8_85 h_this (rr_8_39 h_this) ?_
          refine go_aload_n 0 dX8_seen_53 rfl rfl ?_
          refine go_getI dX8_seen_54 fl_RX8_310 h_this (nf_8_37 h_this) ?_
          refine go_iload_n 2 dX8_seen_57 rfl rfl ?_
          refine gb_iastore dX8_seen_58 (rt_8_39 h_this) h.1 (fun m8 e => ?_)
          replace h := h.2 m8 e
          refine go_aload_n 0 dX8_seen_59 rfl rfl ?_
          refine go_getR dX8_seen_60 fl_RX8_88 h_this (rr_8_40 h_this) ?_
          refine go_aload_n 0 dX8_seen_63 rfl rfl ?_
          refine go_getI dX8_seen_64 fl_RX8_310 h_this (nf_8_37 h_this) ?_
          refine go_iload_n 3 dX8_seen_67 rfl rfl ?_
          refine gb_iastore dX8_seen_68 (rt_8_40 h_this) h.1 (fun m9 e => ?_)
          replace h := h.2 m9 e
          refine go_aload_n 0 dX8_seen_69 rfl rfl ?_
          refine go_dup dX8_seen_70 rfl ?_
          refine go_getI dX8_seen_71 fl_RX8_310 h_this (nf_8_37 h_this) ?_
          refine go_iconst (v := 1) dX8_seen_74 (by decide) ?_
          refine go_iadd dX8_seen_75 ?_
          refine gb_putI dX8_seen_76 fp_RX8_310 h_this (nf_8_37 h_this) (fun m10 e => ?_)
          replace h := h m10 e
          refine go_aload_n 0 dX8_seen_79 rfl rfl ?_
          refine go_getI dX8_seen_80 fl_RX8_310 h_this (nf_8_37 h_this) ?_
          exact go_iret dX8_seen_83 ⟨_, rfl, h⟩
        · replace h := gk_ip h c
          refine go_bipush (v := (-4)) dX8_seen_36 (by decide) ?_
          exact go_iret dX8_seen_38 ⟨_, rfl, h⟩
      · replace h := gk_ip h c
        refine go_bipush (v := (-2)) dX8_seen_24 (by decide) ?_
        exact go_iret dX8_seen_26 ⟨_, rfl, h⟩
def w_X8_forget (this : Nat) (μ : gk_St) (Q : Int32 → gk_St → Prop) : Prop := (∀ v1 : Int32, v1 = (μ this 37) → (∀ m2 : gk_St, m2 = gk_up μ this 37 0 → Q v1 m2))
set_option maxRecDepth 100000 in
set_option maxHeartbeats 4000000 in
theorem k_X8_forget {this : Nat} {μ : gk_St} {Q : Int32 → gk_St → Prop} (h_this : gk_isO this 8) (h : w_X8_forget this μ Q) : gk_CT yX8_forget cX8_forget 2 (some .int) 0 [.ref this] μ (gk_Qi Q) := by
  unfold w_X8_forget at h
  refine gk_enter (by decide) (Nat.le_of_ble_eq_true rfl) ?_
  show Go RX8 cX8_forget 2 (some .int) 0 0 [(0, .ref this)] [] μ (gk_Qi Q)
  refine go_aload_n 0 dX8_forget_0 rfl rfl ?_
  refine go_getI dX8_forget_1 fl_RX8_310 h_this (nf_8_37 h_this) ?_
  refine gb_istore_n (fun v1 => [(1, .int v1), (0, .ref this)]) dX8_forget_4 rfl (by decide) (fun _ => rfl) (fun v1 e => ?_)
  replace h := h v1 e
  refine go_aload_n 1 dX8_forget_5 rfl rfl ?_
  refine go_iconst (v := 0) dX8_forget_6 (by decide) ?_
  refine gb_putI dX8_forget_7 fp_RX8_310 h_this (nf_8_37 h_this) (fun m2 e => ?_)
  replace h := h m2 e
  refine go_iload_n 0 dX8_forget_10 rfl rfl ?_
  exact go_iret dX8_forget_11 ⟨_, rfl, h⟩
def w_X8_isSeen_l8 (Q : Int32 → gk_St → Prop) (K : Int32 → gk_St → Prop) (this : Nat) : Nat → Int32 → Int32 → gk_St → Prop
  | 0, _, _, _ => False
  | n + 1, x1, x2, μ => (if (μ this 37) ≤ x2 then K x1 μ else (if x1 = 0 then K x1 μ else (vp_in x2 (gk_ln (gk_rf this 38)) ∧ (vp_in x2 (gk_ln (gk_rf this 39)) ∧ (vp_in (((2 : Int32) * (μ (gk_rf this 38) x2.toNatClampNeg)) + (μ (gk_rf this 39) x2.toNatClampNeg)) (gk_ln (gk_rf this 31)) ∧ (vp_in x2 (gk_ln (gk_rf this 40)) ∧ (if (μ (gk_rf this 31) (Int32.toNatClampNeg (((2 : Int32) * (μ (gk_rf this 38) x2.toNatClampNeg)) + (μ (gk_rf this 39) x2.toNatClampNeg)))) = (μ (gk_rf this 40) x2.toNatClampNeg) then (∀ v3 : Int32, v3 = x2 + 1 → w_X8_isSeen_l8 Q K this n 1 v3 μ) else (∀ v2 : Int32, v2 = x2 + 1 → w_X8_isSeen_l8 Q K this n 0 v2 μ))))))))
set_option maxRecDepth 100000 in
set_option maxHeartbeats 4000000 in
theorem k_X8_isSeen_l8 {Q : Int32 → gk_St → Prop} {K : Int32 → gk_St → Prop} {this : Nat} (h_this : gk_isO this 8) (hK : ∀ (e1 : Int32) (em : gk_St), K e1 em → Go RX8 cX8_isSeen 3 (some .boolean) 4 61 [(1, .int e1)] [] em (gk_Qi Q)) : ∀ (n : Nat) (x1 : Int32) (x2 : Int32) (μ : gk_St), w_X8_isSeen_l8 Q K this n x1 x2 μ → Go RX8 cX8_isSeen 3 (some .boolean) 4 8 [(0, .ref this), (1, .int x1), (2, .int x2)] [] μ (gk_Qi Q) := by
  intro n
  induction n with
  | zero =>
    intro x1 x2 μ h
    exact False.elim h
  | succ n ih =>
    intro x1 x2 μ h
    unfold w_X8_isSeen_l8 at h
    refine go_iload_n 2 dX8_isSeen_8 rfl rfl ?_
    refine go_aload_n 0 dX8_isSeen_9 rfl rfl ?_
    refine go_getI dX8_isSeen_10 fl_RX8_310 h_this (nf_8_37 h_this) ?_
    refine go_icmp_ge 61 dX8_isSeen_13 (by decide) (fun c => ?_) (fun c => ?_)
    · replace h := gk_ip h c
      refine go_lv [1] rfl ?_
      exact hK _ _ h
    · replace h := gk_in h c
      refine go_iload_n 1 dX8_isSeen_16 rfl rfl ?_
      refine go_if_eq 61 dX8_isSeen_17 (by decide) (fun c => ?_) (fun c => ?_)
      · replace h := gk_ip h c
        refine go_lv [1] rfl ?_
        exact hK _ _ h
      · replace h := gk_in h c
        refine go_aload_n 0 dX8_isSeen_20 rfl rfl ?_
        refine go_getR dX8_isSeen_21 fl_RX8_64 h_this (rr_8_31 h_this) ?_
        refine go_iconst (v := 2) dX8_isSeen_24 (by decide) ?_
        refine go_aload_n 0 dX8_isSeen_25 rfl rfl ?_
        refine go_getR dX8_isSeen_26 fl_RX8_82 h_this (rr_8_38 h_this) ?_
        refine go_iload_n 2 dX8_isSeen_29 rfl rfl ?_
        refine go_iaload dX8_isSeen_30 (rt_8_38 h_this) h.1 ?_
        replace h := h.2
        refine go_imul dX8_isSeen_31 ?_
        refine go_aload_n 0 dX8_isSeen_32 rfl rfl ?_
        refine go_getR dX8_isSeen_33 fl_RX8_85 h_this (rr_8_39 h_this) ?_
        refine go_iload_n 2 dX8_isSeen_36 rfl rfl ?_
        refine go_iaload dX8_isSeen_37 (rt_8_39 h_this) h.1 ?_
        replace h := h.2
        refine go_iadd dX8_isSeen_38 ?_
        refine go_iaload dX8_isSeen_39 (rt_8_31 h_this) h.1 ?_
        replace h := h.2
        refine go_aload_n 0 dX8_isSeen_40 rfl rfl ?_
        refine go_getR dX8_isSeen_41 fl_RX8_88 h_this (rr_8_40 h_this) ?_
        refine go_iload_n 2 dX8_isSeen_44 rfl rfl ?_
        refine go_iaload dX8_isSeen_45 (rt_8_40 h_this) h.1 ?_
        replace h := h.2
        refine go_icmp_ne 53 dX8_isSeen_46 (by decide) (fun c => ?_) (fun c => ?_)
        · replace h := gk_in h c
          refine go_iconst (v := 0) dX8_isSeen_53 (by decide) ?_
          refine go_istore_n [(1, .int 0), (0, .ref this), (2, .int x2)] dX8_isSeen_54 rfl (by decide) rfl ?_
          refine gb_iinc (w := 1) 2 (fun v2 => [(2, .int v2), (1, .int 0), (0, .ref this)]) dX8_isSeen_55 rfl (by decide) (by decide) (fun _ => rfl) (fun v2 e => ?_)
          replace h := h v2 e
          refine go_goto 8 dX8_isSeen_58 (by decide) ?_
          refine go_lv [2, 1, 0] rfl ?_
          exact ih _ _ _ h
        · replace h := gk_ip h c
          refine go_iconst (v := 1) dX8_isSeen_49 (by decide) ?_
          refine go_goto 54 dX8_isSeen_50 (by decide) ?_
          refine go_istore_n [(1, .int 1), (0, .ref this), (2, .int x2)] dX8_isSeen_54 rfl (by decide) rfl ?_
          refine gb_iinc (w := 1) 2 (fun v3 => [(2, .int v3), (1, .int 1), (0, .ref this)]) dX8_isSeen_55 rfl (by decide) (by decide) (fun _ => rfl) (fun v3 e => ?_)
          replace h := h v3 e
          refine go_goto 8 dX8_isSeen_58 (by decide) ?_
          refine go_lv [2, 1, 0] rfl ?_
          exact ih _ _ _ h
def w_X8_isSeen (this : Nat) (μ : gk_St) (Q : Int32 → gk_St → Prop) : Prop := w_X8_runs this μ (fun m1 => (∃ n8 : Nat, w_X8_isSeen_l8 Q (fun y4 m5 => (gk_b y4 ∧ Q y4 m5)) this n8 1 0 m1))
set_option maxRecDepth 100000 in
set_option maxHeartbeats 4000000 in
theorem k_X8_isSeen {this : Nat} {μ : gk_St} {Q : Int32 → gk_St → Prop} (h_this : gk_isO this 8) (h : w_X8_isSeen this μ Q) : gk_CT yX8_isSeen cX8_isSeen 3 (some .boolean) 4 [.ref this] μ (gk_Qi Q) := by
  unfold w_X8_isSeen at h
  refine gk_enter (by decide) (Nat.le_of_ble_eq_true rfl) ?_
  show Go RX8 cX8_isSeen 3 (some .boolean) 4 0 [(0, .ref this)] [] μ (gk_Qi Q)
  refine go_aload_n 0 dX8_isSeen_0 rfl rfl ?_
  refine go_callV (ci := 8) (d' := 3) [] dX8_isSeen_1 cw_RX8_247 ki_X8_runs ks_X8_runs rfl (by decide) h_this rfl (Nat.le_of_ble_eq_true rfl) (by decide) (k_X8_runs h_this h) (gk_kv (fun m1 h => ?_))
  refine go_iconst (v := 1) dX8_isSeen_4 (by decide) ?_
  refine go_istore_n [(1, .int 1), (0, .ref this)] dX8_isSeen_5 rfl (by decide) rfl ?_
  refine go_iconst (v := 0) dX8_isSeen_6 (by decide) ?_
  refine go_istore_n [(2, .int 0), (1, .int 1), (0, .ref this)] dX8_isSeen_7 rfl (by decide) rfl ?_
  refine go_lv [2, 1, 0] rfl ?_
  obtain ⟨n8, h⟩ := h
  refine k_X8_isSeen_l8 h_this (fun y4 m5 h => ?_) n8 _ _ _ h
  refine go_iload_n 0 dX8_isSeen_61 rfl rfl ?_
  exact go_zret dX8_isSeen_62 h.1 ⟨_, rfl, h.2⟩
def w_X8_neverNow_j38 (Q : Int32 → gk_St → Prop) (K : Int32 → gk_St → Prop) (C : Int32 → Int32 → gk_St → Prop) (this : Nat) (x2 : Int32) (s0 : Int32) (s1 : Int32) (μ : gk_St) : Prop := (∀ v5 : Int32, v5 = (s1 ||| s0) → (∀ v6 : Int32, v6 = x2 + 1 → C v5 v6 μ))
set_option maxRecDepth 100000 in
set_option maxHeartbeats 4000000 in
theorem k_X8_neverNow_j38 {Q : Int32 → gk_St → Prop} {K : Int32 → gk_St → Prop} {C : Int32 → Int32 → gk_St → Prop} {this : Nat} {x2 : Int32} {s0 : Int32} {s1 : Int32} {μ : gk_St} (h_this : gk_isO this 8) (hK : ∀ (e1 : Int32) (em : gk_St), K e1 em → Go RX8 cX8_neverNow 3 (some .int) 7 46 [(1, .int e1)] [] em (gk_Qi Q)) (hC : ∀ (c1 : Int32) (c2 : Int32) (cm : gk_St), C c1 c2 cm → Go RX8 cX8_neverNow 3 (some .int) 7 8 [(0, .ref this), (1, .int c1), (2, .int c2)] [] cm (gk_Qi Q)) (h : w_X8_neverNow_j38 Q K C this x2 s0 s1 μ) : Go RX8 cX8_neverNow 3 (some .int) 7 38 [(0, .ref this), (2, .int x2)] [.int s0, .int s1] μ (gk_Qi Q) := by
  unfold w_X8_neverNow_j38 at h
  refine go_ior dX8_neverNow_38 ?_
  refine gb_istore_n (fun v5 => [(1, .int v5), (0, .ref this), (2, .int x2)]) dX8_neverNow_39 rfl (by decide) (fun _ => rfl) (fun v5 e => ?_)
  replace h := h v5 e
  refine gb_iinc (w := 1) 2 (fun v6 => [(2, .int v6), (1, .int v5), (0, .ref this)]) dX8_neverNow_40 rfl (by decide) (by decide) (fun _ => rfl) (fun v6 e => ?_)
  replace h := h v6 e
  refine go_goto 8 dX8_neverNow_43 (by decide) ?_
  refine go_lv [2, 1, 0] rfl ?_
  exact hC _ _ _ h
def w_X8_neverNow_l8 (Q : Int32 → gk_St → Prop) (K : Int32 → gk_St → Prop) (this : Nat) : Nat → Int32 → Int32 → gk_St → Prop
  | 0, _, _, _ => False
  | n + 1, x1, x2, μ => (if (μ this 12) ≤ x2 then K x1 μ else (∀ m2 : gk_St, m2 = gk_up μ this 17 ((1 : Int32) <<< (x2 &&& 31)) → w_X8_isSeen this m2 (fun r4 m3 => (if r4 = 0 then w_X8_neverNow_j38 Q K (fun c_x1 c_x2 cm => w_X8_neverNow_l8 Q K this n c_x1 c_x2 cm) this x2 0 x1 m3 else w_X8_neverNow_j38 Q K (fun c_x1 c_x2 cm => w_X8_neverNow_l8 Q K this n c_x1 c_x2 cm) this x2 ((1 : Int32) <<< (x2 &&& 31)) x1 m3))))
set_option maxRecDepth 100000 in
set_option maxHeartbeats 4000000 in
theorem k_X8_neverNow_l8 {Q : Int32 → gk_St → Prop} {K : Int32 → gk_St → Prop} {this : Nat} (h_this : gk_isO this 8) (hK : ∀ (e1 : Int32) (em : gk_St), K e1 em → Go RX8 cX8_neverNow 3 (some .int) 7 46 [(1, .int e1)] [] em (gk_Qi Q)) : ∀ (n : Nat) (x1 : Int32) (x2 : Int32) (μ : gk_St), w_X8_neverNow_l8 Q K this n x1 x2 μ → Go RX8 cX8_neverNow 3 (some .int) 7 8 [(0, .ref this), (1, .int x1), (2, .int x2)] [] μ (gk_Qi Q) := by
  intro n
  induction n with
  | zero =>
    intro x1 x2 μ h
    exact False.elim h
  | succ n ih =>
    intro x1 x2 μ h
    unfold w_X8_neverNow_l8 at h
    refine go_iload_n 2 dX8_neverNow_8 rfl rfl ?_
    refine go_aload_n 0 dX8_neverNow_9 rfl rfl ?_
    refine go_getI dX8_neverNow_10 fl_RX8_179 h_this (nf_8_12 h_this) ?_
    refine go_icmp_ge 46 dX8_neverNow_13 (by decide) (fun c => ?_) (fun c => ?_)
    · replace h := gk_ip h c
      refine go_lv [1] rfl ?_
      exact hK _ _ h
    · replace h := gk_in h c
      refine go_aload_n 0 dX8_neverNow_16 rfl rfl ?_
      refine go_iconst (v := 1) dX8_neverNow_17 (by decide) ?_
      refine go_iload_n 2 dX8_neverNow_18 rfl rfl ?_
      refine go_ishl dX8_neverNow_19 ?_
      refine gb_putI dX8_neverNow_20 fp_RX8_192 h_this (nf_8_17 h_this) (fun m2 e => ?_)
      replace h := h m2 e
      refine go_iload_n 1 dX8_neverNow_23 rfl rfl ?_
      refine go_aload_n 0 dX8_neverNow_24 rfl rfl ?_
      refine go_callV (ci := 8) (d' := 4) [] dX8_neverNow_25 cw_RX8_313 ki_X8_isSeen ks_X8_isSeen rfl (by decide) h_this rfl (Nat.le_of_ble_eq_true rfl) (by decide) (k_X8_isSeen h_this h) (gk_ki (fun r4 m3 h => ?_))
      refine go_if_eq 37 dX8_neverNow_28 (by decide) (fun c => ?_) (fun c => ?_)
      · replace h := gk_ip h c
        refine go_iconst (v := 0) dX8_neverNow_37 (by decide) ?_
        refine go_lv [0, 2] rfl ?_
        exact k_X8_neverNow_j38 h_this hK (fun _ _ _ h => ih _ _ _ h) h
      · replace h := gk_in h c
        refine go_iconst (v := 1) dX8_neverNow_31 (by decide) ?_
        refine go_iload_n 2 dX8_neverNow_32 rfl rfl ?_
        refine go_ishl dX8_neverNow_33 ?_
        refine go_goto 38 dX8_neverNow_34 (by decide) ?_
        refine go_lv [0, 2] rfl ?_
        exact k_X8_neverNow_j38 h_this hK (fun _ _ _ h => ih _ _ _ h) h
def w_X8_neverNow (this : Nat) (μ : gk_St) (Q : Int32 → gk_St → Prop) : Prop := w_X8_asTold this μ (fun m1 => (∃ n8 : Nat, w_X8_neverNow_l8 Q (fun y7 m8 => Q y7 m8) this n8 0 0 m1))
set_option maxRecDepth 100000 in
set_option maxHeartbeats 4000000 in
theorem k_X8_neverNow {this : Nat} {μ : gk_St} {Q : Int32 → gk_St → Prop} (h_this : gk_isO this 8) (h : w_X8_neverNow this μ Q) : gk_CT yX8_neverNow cX8_neverNow 3 (some .int) 7 [.ref this] μ (gk_Qi Q) := by
  unfold w_X8_neverNow at h
  refine gk_enter (by decide) (Nat.le_of_ble_eq_true rfl) ?_
  show Go RX8 cX8_neverNow 3 (some .int) 7 0 [(0, .ref this)] [] μ (gk_Qi Q)
  refine go_aload_n 0 dX8_neverNow_0 rfl rfl ?_
  refine go_callV (ci := 8) (d' := 6) [] dX8_neverNow_1 cw_RX8_244 ki_X8_asTold ks_X8_asTold rfl (by decide) h_this rfl (Nat.le_of_ble_eq_true rfl) (by decide) (k_X8_asTold h_this h) (gk_kv (fun m1 h => ?_))
  refine go_iconst (v := 0) dX8_neverNow_4 (by decide) ?_
  refine go_istore_n [(1, .int 0), (0, .ref this)] dX8_neverNow_5 rfl (by decide) rfl ?_
  refine go_iconst (v := 0) dX8_neverNow_6 (by decide) ?_
  refine go_istore_n [(2, .int 0), (1, .int 0), (0, .ref this)] dX8_neverNow_7 rfl (by decide) rfl ?_
  refine go_lv [2, 1, 0] rfl ?_
  obtain ⟨n8, h⟩ := h
  refine k_X8_neverNow_l8 h_this (fun y7 m8 h => ?_) n8 _ _ _ h
  refine go_iload_n 0 dX8_neverNow_46 rfl rfl ?_
  exact go_iret dX8_neverNow_47 ⟨_, rfl, h⟩
def w_X8_never (this : Nat) (μ : gk_St) (Q : Int32 → gk_St → Prop) : Prop := w_X8_neverNow this μ (fun r2 m1 => Q r2 m1)
set_option maxRecDepth 100000 in
set_option maxHeartbeats 4000000 in
theorem k_X8_never {this : Nat} {μ : gk_St} {Q : Int32 → gk_St → Prop} (h_this : gk_isO this 8) (h : w_X8_never this μ Q) : gk_CT yX8_never cX8_never 1 (some .int) 8 [.ref this] μ (gk_Qi Q) := by
  unfold w_X8_never at h
  refine gk_enter (by decide) (Nat.le_of_ble_eq_true rfl) ?_
  show Go RX8 cX8_never 1 (some .int) 8 0 [(0, .ref this)] [] μ (gk_Qi Q)
  refine go_aload_n 0 dX8_never_0 rfl rfl ?_
  refine go_callV (ci := 8) (d' := 7) [] dX8_never_1 cw_RX8_317 ki_X8_neverNow ks_X8_neverNow rfl (by decide) h_this rfl (Nat.le_of_ble_eq_true rfl) (by decide) (k_X8_neverNow h_this h) (gk_ki (fun r2 m1 h => ?_))
  exact go_iret dX8_never_4 ⟨_, rfl, h⟩
def w_X8_roomsBy_l52 (Q : Int32 → gk_St → Prop) (K : Int32 → Int32 → Int32 → Int32 → gk_St → Prop) (this : Nat) : Nat → Int32 → Int32 → Int32 → Int32 → Int32 → gk_St → Prop
  | 0, _, _, _, _, _, _ => False
  | n + 1, x1, x2, x3, x4, x5, μ => (if 24 ≤ x5 then K x1 x2 x3 x4 μ else (vp_in ((2 : Int32) * x5) (gk_ln (gk_rf this 31)) ∧ (vp_in (((2 : Int32) * x5) + 1) (gk_ln (gk_rf this 31)) ∧ (vp_in (((24 : Int32) * x4) + x5) (gk_ln (gk_rf this 41)) ∧ (∀ m7 : gk_St, m7 = gk_up μ (gk_rf this 41) (Int32.toNatClampNeg (((24 : Int32) * x4) + x5)) (((128 : Int32) * (μ (gk_rf this 31) (Int32.toNatClampNeg ((2 : Int32) * x5)))) + (μ (gk_rf this 31) (Int32.toNatClampNeg (((2 : Int32) * x5) + 1)))) → (∀ v8 : Int32, v8 = x5 + 1 → w_X8_roomsBy_l52 Q K this n x1 x2 x3 x4 v8 m7))))))
set_option maxRecDepth 100000 in
set_option maxHeartbeats 4000000 in
theorem k_X8_roomsBy_l52 {Q : Int32 → gk_St → Prop} {K : Int32 → Int32 → Int32 → Int32 → gk_St → Prop} {this : Nat} (h_this : gk_isO this 8) (hK : ∀ (e1 : Int32) (e2 : Int32) (e3 : Int32) (e4 : Int32) (em : gk_St), K e1 e2 e3 e4 em → Go RX8 cX8_roomsBy 6 (some .int) 7 103 [(0, .ref this), (1, .int e1), (2, .int e2), (3, .int e3), (4, .int e4)] [] em (gk_Qi Q)) : ∀ (n : Nat) (x1 : Int32) (x2 : Int32) (x3 : Int32) (x4 : Int32) (x5 : Int32) (μ : gk_St), w_X8_roomsBy_l52 Q K this n x1 x2 x3 x4 x5 μ → Go RX8 cX8_roomsBy 6 (some .int) 7 52 [(0, .ref this), (1, .int x1), (2, .int x2), (3, .int x3), (4, .int x4), (5, .int x5)] [] μ (gk_Qi Q) := by
  intro n
  induction n with
  | zero =>
    intro x1 x2 x3 x4 x5 μ h
    exact False.elim h
  | succ n ih =>
    intro x1 x2 x3 x4 x5 μ h
    unfold w_X8_roomsBy_l52 at h
    refine go_iload 5 dX8_roomsBy_52 rfl ?_
    refine go_bipush (v := 24) dX8_roomsBy_54 (by decide) ?_
    refine go_icmp_ge 103 dX8_roomsBy_56 (by decide) (fun c => ?_) (fun c => ?_)
    · replace h := gk_ip h c
      refine go_lv [0, 1, 2, 3, 4] rfl ?_
      exact hK _ _ _ _ _ h
    · replace h := gk_in h c
      refine go_aload_n 0 dX8_roomsBy_59 rfl rfl ?_
      refine go_getR dX8_roomsBy_60 fl_RX8_91 h_this (rr_8_41 h_this) ?_
      refine go_bipush (v := 24) dX8_roomsBy_63 (by decide) ?_
      refine go_iload 4 dX8_roomsBy_65 rfl ?_
      refine go_imul dX8_roomsBy_67 ?_
      refine go_iload 5 dX8_roomsBy_68 rfl ?_
      refine go_iadd dX8_roomsBy_70 ?_
      refine go_sipush (v := 128) dX8_roomsBy_71 (by decide) ?_
      refine go_aload_n 0 dX8_roomsBy_74 rfl rfl ?_
      refine go_getR dX8_roomsBy_75 fl_RX8_64 h_this (rr_8_31 h_this) ?_
      refine go_iconst (v := 2) dX8_roomsBy_78 (by decide) ?_
      refine go_iload 5 dX8_roomsBy_79 rfl ?_
      refine go_imul dX8_roomsBy_81 ?_
      refine go_iaload dX8_roomsBy_82 (rt_8_31 h_this) h.1 ?_
      replace h := h.2
      refine go_imul dX8_roomsBy_83 ?_
      refine go_aload_n 0 dX8_roomsBy_84 rfl rfl ?_
      refine go_getR dX8_roomsBy_85 fl_RX8_64 h_this (rr_8_31 h_this) ?_
      refine go_iconst (v := 2) dX8_roomsBy_88 (by decide) ?_
      refine go_iload 5 dX8_roomsBy_89 rfl ?_
      refine go_imul dX8_roomsBy_91 ?_
      refine go_iconst (v := 1) dX8_roomsBy_92 (by decide) ?_
      refine go_iadd dX8_roomsBy_93 ?_
      refine go_iaload dX8_roomsBy_94 (rt_8_31 h_this) h.1 ?_
      replace h := h.2
      refine go_iadd dX8_roomsBy_95 ?_
      refine gb_iastore dX8_roomsBy_96 (rt_8_41 h_this) h.1 (fun m7 e => ?_)
      replace h := h.2 m7 e
      refine gb_iinc (w := 1) 5 (fun v8 => [(5, .int v8), (0, .ref this), (1, .int x1), (2, .int x2), (3, .int x3), (4, .int x4)]) dX8_roomsBy_97 rfl (by decide) (by decide) (fun _ => rfl) (fun v8 e => ?_)
      replace h := h v8 e
      refine go_goto 52 dX8_roomsBy_100 (by decide) ?_
      refine go_lv [1, 2, 3, 4, 5, 0] rfl ?_
      exact ih _ _ _ _ _ _ h
def w_X8_roomsBy_j47 (Q : Int32 → gk_St → Prop) (K : Int32 → Int32 → Int32 → gk_St → Prop) (C : Int32 → Int32 → Int32 → Int32 → gk_St → Prop) (this : Nat) (x1 : Int32) (x2 : Int32) (x4 : Int32) (s0 : Int32) (s1 : Int32) (μ : gk_St) : Prop := (∀ v6 : Int32, v6 = (s1 ||| s0) → (∃ n52 : Nat, w_X8_roomsBy_l52 Q (fun y9 y10 y11 y12 m13 => (∀ v14 : Int32, v14 = y12 + 1 → C y9 y10 y11 v14 m13)) this n52 x1 x2 v6 x4 0 μ))
set_option maxRecDepth 100000 in
set_option maxHeartbeats 4000000 in
theorem k_X8_roomsBy_j47 {Q : Int32 → gk_St → Prop} {K : Int32 → Int32 → Int32 → gk_St → Prop} {C : Int32 → Int32 → Int32 → Int32 → gk_St → Prop} {this : Nat} {x1 : Int32} {x2 : Int32} {x4 : Int32} {s0 : Int32} {s1 : Int32} {μ : gk_St} (h_this : gk_isO this 8) (hK : ∀ (e1 : Int32) (e2 : Int32) (e3 : Int32) (em : gk_St), K e1 e2 e3 em → Go RX8 cX8_roomsBy 6 (some .int) 7 109 [(0, .ref this), (1, .int e1), (2, .int e2), (3, .int e3)] [] em (gk_Qi Q)) (hC : ∀ (c1 : Int32) (c2 : Int32) (c3 : Int32) (c4 : Int32) (cm : gk_St), C c1 c2 c3 c4 cm → Go RX8 cX8_roomsBy 6 (some .int) 7 16 [(0, .ref this), (1, .int c1), (2, .int c2), (3, .int c3), (4, .int c4)] [] cm (gk_Qi Q)) (h : w_X8_roomsBy_j47 Q K C this x1 x2 x4 s0 s1 μ) : Go RX8 cX8_roomsBy 6 (some .int) 7 47 [(0, .ref this), (1, .int x1), (2, .int x2), (4, .int x4)] [.int s0, .int s1] μ (gk_Qi Q) := by
  unfold w_X8_roomsBy_j47 at h
  refine go_ior dX8_roomsBy_47 ?_
  refine gb_istore_n (fun v6 => [(3, .int v6), (0, .ref this), (1, .int x1), (2, .int x2), (4, .int x4)]) dX8_roomsBy_48 rfl (by decide) (fun _ => rfl) (fun v6 e => ?_)
  replace h := h v6 e
  refine go_iconst (v := 0) dX8_roomsBy_49 (by decide) ?_
  refine go_istore [(5, .int 0), (3, .int v6), (0, .ref this), (1, .int x1), (2, .int x2), (4, .int x4)] dX8_roomsBy_50 (by decide) rfl ?_
  refine go_lv [2, 3, 4, 1, 5, 0] rfl ?_
  obtain ⟨n52, h⟩ := h
  refine k_X8_roomsBy_l52 h_this (fun y9 y10 y11 y12 m13 h => ?_) n52 _ _ _ _ _ _ h
  refine gb_iinc (w := 1) 4 (fun v14 => [(4, .int v14), (0, .ref this), (1, .int y9), (2, .int y10), (3, .int y11)]) dX8_roomsBy_103 rfl (by decide) (by decide) (fun _ => rfl) (fun v14 e => ?_)
  replace h := h v14 e
  refine go_goto 16 dX8_roomsBy_106 (by decide) ?_
  refine go_lv [1, 2, 3, 4, 0] rfl ?_
  exact hC _ _ _ _ _ h
def w_X8_roomsBy_l16 (Q : Int32 → gk_St → Prop) (K : Int32 → Int32 → Int32 → gk_St → Prop) (this : Nat) : Nat → Int32 → Int32 → Int32 → Int32 → gk_St → Prop
  | 0, _, _, _, _, _ => False
  | n + 1, x1, x2, x3, x4, μ => (if 10 ≤ x4 then K x1 x2 x3 μ else (vp_in x1 (gk_ln (gk_rf this 5)) ∧ (∀ m3 : gk_St, m3 = gk_up μ (gk_rf this 5) x1.toNatClampNeg x4 → w_X8_isSeen this m3 (fun r5 m4 => (if r5 = 0 then w_X8_roomsBy_j47 Q K (fun c_x1 c_x2 c_x3 c_x4 cm => w_X8_roomsBy_l16 Q K this n c_x1 c_x2 c_x3 c_x4 cm) this x1 x2 x4 0 x3 m4 else w_X8_roomsBy_j47 Q K (fun c_x1 c_x2 c_x3 c_x4 cm => w_X8_roomsBy_l16 Q K this n c_x1 c_x2 c_x3 c_x4 cm) this x1 x2 x4 ((1 : Int32) <<< (x4 &&& 31)) x3 m4)))))
set_option maxRecDepth 100000 in
set_option maxHeartbeats 4000000 in
theorem k_X8_roomsBy_l16 {Q : Int32 → gk_St → Prop} {K : Int32 → Int32 → Int32 → gk_St → Prop} {this : Nat} (h_this : gk_isO this 8) (hK : ∀ (e1 : Int32) (e2 : Int32) (e3 : Int32) (em : gk_St), K e1 e2 e3 em → Go RX8 cX8_roomsBy 6 (some .int) 7 109 [(0, .ref this), (1, .int e1), (2, .int e2), (3, .int e3)] [] em (gk_Qi Q)) : ∀ (n : Nat) (x1 : Int32) (x2 : Int32) (x3 : Int32) (x4 : Int32) (μ : gk_St), w_X8_roomsBy_l16 Q K this n x1 x2 x3 x4 μ → Go RX8 cX8_roomsBy 6 (some .int) 7 16 [(0, .ref this), (1, .int x1), (2, .int x2), (3, .int x3), (4, .int x4)] [] μ (gk_Qi Q) := by
  intro n
  induction n with
  | zero =>
    intro x1 x2 x3 x4 μ h
    exact False.elim h
  | succ n ih =>
    intro x1 x2 x3 x4 μ h
    unfold w_X8_roomsBy_l16 at h
    refine go_iload 4 dX8_roomsBy_16 rfl ?_
    refine go_bipush (v := 10) dX8_roomsBy_18 (by decide) ?_
    refine go_icmp_ge 109 dX8_roomsBy_20 (by decide) (fun c => ?_) (fun c => ?_)
    · replace h := gk_ip h c
      refine go_lv [0, 1, 2, 3] rfl ?_
      exact hK _ _ _ _ h
    · replace h := gk_in h c
      refine go_aload_n 0 dX8_roomsBy_23 rfl rfl ?_
      refine go_getR dX8_roomsBy_24 fl_RX8_22 h_this (rr_8_5 h_this) ?_
      refine go_iload_n 1 dX8_roomsBy_27 rfl rfl ?_
      refine go_iload 4 dX8_roomsBy_28 rfl ?_
      refine gb_iastore dX8_roomsBy_30 (rt_8_5 h_this) h.1 (fun m3 e => ?_)
      replace h := h.2 m3 e
      refine go_iload_n 3 dX8_roomsBy_31 rfl rfl ?_
      refine go_aload_n 0 dX8_roomsBy_32 rfl rfl ?_
      refine go_callV (ci := 8) (d' := 4) [] dX8_roomsBy_33 cw_RX8_313 ki_X8_isSeen ks_X8_isSeen rfl (by decide) h_this rfl (Nat.le_of_ble_eq_true rfl) (by decide) (k_X8_isSeen h_this h) (gk_ki (fun r5 m4 h => ?_))
      refine go_if_eq 46 dX8_roomsBy_36 (by decide) (fun c => ?_) (fun c => ?_)
      · replace h := gk_ip h c
        refine go_iconst (v := 0) dX8_roomsBy_46 (by decide) ?_
        refine go_lv [0, 1, 2, 4] rfl ?_
        exact k_X8_roomsBy_j47 h_this hK (fun _ _ _ _ _ h => ih _ _ _ _ _ h) h
      · replace h := gk_in h c
        refine go_iconst (v := 1) dX8_roomsBy_39 (by decide) ?_
        refine go_iload 4 dX8_roomsBy_40 rfl ?_
        refine go_ishl dX8_roomsBy_42 ?_
        refine go_goto 47 dX8_roomsBy_43 (by decide) ?_
        refine go_lv [0, 1, 2, 4] rfl ?_
        exact k_X8_roomsBy_j47 h_this hK (fun _ _ _ _ _ h => ih _ _ _ _ _ h) h
def w_X8_roomsBy (this : Nat) (x1 : Int32) (μ : gk_St) (Q : Int32 → gk_St → Prop) : Prop := w_X8_asTold this μ (fun m1 => (vp_in x1 (gk_ln (gk_rf this 5)) ∧ (∀ v2 : Int32, v2 = (m1 (gk_rf this 5) x1.toNatClampNeg) → (∃ n16 : Nat, w_X8_roomsBy_l16 Q (fun y15 y16 y17 m18 => (vp_in y15 (gk_ln (gk_rf this 5)) ∧ (∀ m19 : gk_St, m19 = gk_up m18 (gk_rf this 5) y15.toNatClampNeg y16 → Q y17 m19))) this n16 x1 v2 0 1 m1))))
set_option maxRecDepth 100000 in
set_option maxHeartbeats 4000000 in
theorem k_X8_roomsBy {this : Nat} {x1 : Int32} {μ : gk_St} {Q : Int32 → gk_St → Prop} (h_this : gk_isO this 8) (h : w_X8_roomsBy this x1 μ Q) : gk_CT yX8_roomsBy cX8_roomsBy 6 (some .int) 7 [.ref this, .int x1] μ (gk_Qi Q) := by
  unfold w_X8_roomsBy at h
  refine gk_enter (by decide) (Nat.le_of_ble_eq_true rfl) ?_
  show Go RX8 cX8_roomsBy 6 (some .int) 7 0 [(0, .ref this), (1, .int x1)] [] μ (gk_Qi Q)
  refine go_aload_n 0 dX8_roomsBy_0 rfl rfl ?_
  refine go_callV (ci := 8) (d' := 6) [] dX8_roomsBy_1 cw_RX8_244 ki_X8_asTold ks_X8_asTold rfl (by decide) h_this rfl (Nat.le_of_ble_eq_true rfl) (by decide) (k_X8_asTold h_this h) (gk_kv (fun m1 h => ?_))
  refine go_aload_n 0 dX8_roomsBy_4 rfl rfl ?_
  refine go_getR dX8_roomsBy_5 fl_RX8_22 h_this (rr_8_5 h_this) ?_
  refine go_iload_n 1 dX8_roomsBy_8 rfl rfl ?_
  refine go_iaload dX8_roomsBy_9 (rt_8_5 h_this) h.1 ?_
  replace h := h.2
  refine gb_istore_n (fun v2 => [(2, .int v2), (0, .ref this), (1, .int x1)]) dX8_roomsBy_10 rfl (by decide) (fun _ => rfl) (fun v2 e => ?_)
  replace h := h v2 e
  refine go_iconst (v := 0) dX8_roomsBy_11 (by decide) ?_
  refine go_istore_n [(3, .int 0), (2, .int v2), (0, .ref this), (1, .int x1)] dX8_roomsBy_12 rfl (by decide) rfl ?_
  refine go_iconst (v := 1) dX8_roomsBy_13 (by decide) ?_
  refine go_istore [(4, .int 1), (3, .int 0), (2, .int v2), (0, .ref this), (1, .int x1)] dX8_roomsBy_14 (by decide) rfl ?_
  refine go_lv [3, 4, 2, 1, 0] rfl ?_
  obtain ⟨n16, h⟩ := h
  refine k_X8_roomsBy_l16 h_this (fun y15 y16 y17 m18 h => ?_) n16 _ _ _ _ _ h
  refine go_aload_n 0 dX8_roomsBy_109 rfl rfl ?_
  refine go_getR dX8_roomsBy_110 fl_RX8_22 h_this (rr_8_5 h_this) ?_
  refine go_iload_n 1 dX8_roomsBy_113 rfl rfl ?_
  refine go_iload_n 2 dX8_roomsBy_114 rfl rfl ?_
  refine gb_iastore dX8_roomsBy_115 (rt_8_5 h_this) h.1 (fun m19 e => ?_)
  replace h := h.2 m19 e
  refine go_iload_n 3 dX8_roomsBy_116 rfl rfl ?_
  exact go_iret dX8_roomsBy_117 ⟨_, rfl, h⟩
def w_X8_sortsBy_j46 (Q : Int32 → gk_St → Prop) (K : Int32 → Int32 → Int32 → gk_St → Prop) (C : Int32 → Int32 → Int32 → Int32 → gk_St → Prop) (this : Nat) (x1 : Int32) (x2 : Int32) (x4 : Int32) (s0 : Int32) (s1 : Int32) (μ : gk_St) : Prop := (∀ v6 : Int32, v6 = (s1 ||| s0) → (∀ v7 : Int32, v7 = x4 + 1 → C x1 x2 v6 v7 μ))
set_option maxRecDepth 100000 in
set_option maxHeartbeats 4000000 in
theorem k_X8_sortsBy_j46 {Q : Int32 → gk_St → Prop} {K : Int32 → Int32 → Int32 → gk_St → Prop} {C : Int32 → Int32 → Int32 → Int32 → gk_St → Prop} {this : Nat} {x1 : Int32} {x2 : Int32} {x4 : Int32} {s0 : Int32} {s1 : Int32} {μ : gk_St} (h_this : gk_isO this 8) (hK : ∀ (e1 : Int32) (e2 : Int32) (e3 : Int32) (em : gk_St), K e1 e2 e3 em → Go RX8 cX8_sortsBy 5 (some .int) 7 54 [(0, .ref this), (1, .int e1), (2, .int e2), (3, .int e3)] [] em (gk_Qi Q)) (hC : ∀ (c1 : Int32) (c2 : Int32) (c3 : Int32) (c4 : Int32) (cm : gk_St), C c1 c2 c3 c4 cm → Go RX8 cX8_sortsBy 5 (some .int) 7 16 [(0, .ref this), (1, .int c1), (2, .int c2), (3, .int c3), (4, .int c4)] [] cm (gk_Qi Q)) (h : w_X8_sortsBy_j46 Q K C this x1 x2 x4 s0 s1 μ) : Go RX8 cX8_sortsBy 5 (some .int) 7 46 [(0, .ref this), (1, .int x1), (2, .int x2), (4, .int x4)] [.int s0, .int s1] μ (gk_Qi Q) := by
  unfold w_X8_sortsBy_j46 at h
  refine go_ior dX8_sortsBy_46 ?_
  refine gb_istore_n (fun v6 => [(3, .int v6), (0, .ref this), (1, .int x1), (2, .int x2), (4, .int x4)]) dX8_sortsBy_47 rfl (by decide) (fun _ => rfl) (fun v6 e => ?_)
  replace h := h v6 e
  refine gb_iinc (w := 1) 4 (fun v7 => [(4, .int v7), (3, .int v6), (0, .ref this), (1, .int x1), (2, .int x2)]) dX8_sortsBy_48 rfl (by decide) (by decide) (fun _ => rfl) (fun v7 e => ?_)
  replace h := h v7 e
  refine go_goto 16 dX8_sortsBy_51 (by decide) ?_
  refine go_lv [2, 3, 4, 1, 0] rfl ?_
  exact hC _ _ _ _ _ h
def w_X8_sortsBy_l16 (Q : Int32 → gk_St → Prop) (K : Int32 → Int32 → Int32 → gk_St → Prop) (this : Nat) : Nat → Int32 → Int32 → Int32 → Int32 → gk_St → Prop
  | 0, _, _, _, _, _ => False
  | n + 1, x1, x2, x3, x4, μ => (if 3 ≤ x4 then K x1 x2 x3 μ else (vp_in x1 (gk_ln (gk_rf this 4)) ∧ (∀ m3 : gk_St, m3 = gk_up μ (gk_rf this 4) x1.toNatClampNeg x4 → w_X8_isSeen this m3 (fun r5 m4 => (if r5 = 0 then w_X8_sortsBy_j46 Q K (fun c_x1 c_x2 c_x3 c_x4 cm => w_X8_sortsBy_l16 Q K this n c_x1 c_x2 c_x3 c_x4 cm) this x1 x2 x4 0 x3 m4 else w_X8_sortsBy_j46 Q K (fun c_x1 c_x2 c_x3 c_x4 cm => w_X8_sortsBy_l16 Q K this n c_x1 c_x2 c_x3 c_x4 cm) this x1 x2 x4 ((1 : Int32) <<< (x4 &&& 31)) x3 m4)))))
set_option maxRecDepth 100000 in
set_option maxHeartbeats 4000000 in
theorem k_X8_sortsBy_l16 {Q : Int32 → gk_St → Prop} {K : Int32 → Int32 → Int32 → gk_St → Prop} {this : Nat} (h_this : gk_isO this 8) (hK : ∀ (e1 : Int32) (e2 : Int32) (e3 : Int32) (em : gk_St), K e1 e2 e3 em → Go RX8 cX8_sortsBy 5 (some .int) 7 54 [(0, .ref this), (1, .int e1), (2, .int e2), (3, .int e3)] [] em (gk_Qi Q)) : ∀ (n : Nat) (x1 : Int32) (x2 : Int32) (x3 : Int32) (x4 : Int32) (μ : gk_St), w_X8_sortsBy_l16 Q K this n x1 x2 x3 x4 μ → Go RX8 cX8_sortsBy 5 (some .int) 7 16 [(0, .ref this), (1, .int x1), (2, .int x2), (3, .int x3), (4, .int x4)] [] μ (gk_Qi Q) := by
  intro n
  induction n with
  | zero =>
    intro x1 x2 x3 x4 μ h
    exact False.elim h
  | succ n ih =>
    intro x1 x2 x3 x4 μ h
    unfold w_X8_sortsBy_l16 at h
    refine go_iload 4 dX8_sortsBy_16 rfl ?_
    refine go_iconst (v := 3) dX8_sortsBy_18 (by decide) ?_
    refine go_icmp_ge 54 dX8_sortsBy_19 (by decide) (fun c => ?_) (fun c => ?_)
    · replace h := gk_ip h c
      refine go_lv [0, 1, 2, 3] rfl ?_
      exact hK _ _ _ _ h
    · replace h := gk_in h c
      refine go_aload_n 0 dX8_sortsBy_22 rfl rfl ?_
      refine go_getR dX8_sortsBy_23 fl_RX8_19 h_this (rr_8_4 h_this) ?_
      refine go_iload_n 1 dX8_sortsBy_26 rfl rfl ?_
      refine go_iload 4 dX8_sortsBy_27 rfl ?_
      refine gb_iastore dX8_sortsBy_29 (rt_8_4 h_this) h.1 (fun m3 e => ?_)
      replace h := h.2 m3 e
      refine go_iload_n 3 dX8_sortsBy_30 rfl rfl ?_
      refine go_aload_n 0 dX8_sortsBy_31 rfl rfl ?_
      refine go_callV (ci := 8) (d' := 4) [] dX8_sortsBy_32 cw_RX8_313 ki_X8_isSeen ks_X8_isSeen rfl (by decide) h_this rfl (Nat.le_of_ble_eq_true rfl) (by decide) (k_X8_isSeen h_this h) (gk_ki (fun r5 m4 h => ?_))
      refine go_if_eq 45 dX8_sortsBy_35 (by decide) (fun c => ?_) (fun c => ?_)
      · replace h := gk_ip h c
        refine go_iconst (v := 0) dX8_sortsBy_45 (by decide) ?_
        refine go_lv [0, 1, 2, 4] rfl ?_
        exact k_X8_sortsBy_j46 h_this hK (fun _ _ _ _ _ h => ih _ _ _ _ _ h) h
      · replace h := gk_in h c
        refine go_iconst (v := 1) dX8_sortsBy_38 (by decide) ?_
        refine go_iload 4 dX8_sortsBy_39 rfl ?_
        refine go_ishl dX8_sortsBy_41 ?_
        refine go_goto 46 dX8_sortsBy_42 (by decide) ?_
        refine go_lv [0, 1, 2, 4] rfl ?_
        exact k_X8_sortsBy_j46 h_this hK (fun _ _ _ _ _ h => ih _ _ _ _ _ h) h
def w_X8_sortsBy (this : Nat) (x1 : Int32) (μ : gk_St) (Q : Int32 → gk_St → Prop) : Prop := w_X8_asTold this μ (fun m1 => (vp_in x1 (gk_ln (gk_rf this 4)) ∧ (∀ v2 : Int32, v2 = (m1 (gk_rf this 4) x1.toNatClampNeg) → (∃ n16 : Nat, w_X8_sortsBy_l16 Q (fun y8 y9 y10 m11 => (vp_in y8 (gk_ln (gk_rf this 4)) ∧ (∀ m12 : gk_St, m12 = gk_up m11 (gk_rf this 4) y8.toNatClampNeg y9 → Q y10 m12))) this n16 x1 v2 0 0 m1))))
set_option maxRecDepth 100000 in
set_option maxHeartbeats 4000000 in
theorem k_X8_sortsBy {this : Nat} {x1 : Int32} {μ : gk_St} {Q : Int32 → gk_St → Prop} (h_this : gk_isO this 8) (h : w_X8_sortsBy this x1 μ Q) : gk_CT yX8_sortsBy cX8_sortsBy 5 (some .int) 7 [.ref this, .int x1] μ (gk_Qi Q) := by
  unfold w_X8_sortsBy at h
  refine gk_enter (by decide) (Nat.le_of_ble_eq_true rfl) ?_
  show Go RX8 cX8_sortsBy 5 (some .int) 7 0 [(0, .ref this), (1, .int x1)] [] μ (gk_Qi Q)
  refine go_aload_n 0 dX8_sortsBy_0 rfl rfl ?_
  refine go_callV (ci := 8) (d' := 6) [] dX8_sortsBy_1 cw_RX8_244 ki_X8_asTold ks_X8_asTold rfl (by decide) h_this rfl (Nat.le_of_ble_eq_true rfl) (by decide) (k_X8_asTold h_this h) (gk_kv (fun m1 h => ?_))
  refine go_aload_n 0 dX8_sortsBy_4 rfl rfl ?_
  refine go_getR dX8_sortsBy_5 fl_RX8_19 h_this (rr_8_4 h_this) ?_
  refine go_iload_n 1 dX8_sortsBy_8 rfl rfl ?_
  refine go_iaload dX8_sortsBy_9 (rt_8_4 h_this) h.1 ?_
  replace h := h.2
  refine gb_istore_n (fun v2 => [(2, .int v2), (0, .ref this), (1, .int x1)]) dX8_sortsBy_10 rfl (by decide) (fun _ => rfl) (fun v2 e => ?_)
  replace h := h v2 e
  refine go_iconst (v := 0) dX8_sortsBy_11 (by decide) ?_
  refine go_istore_n [(3, .int 0), (2, .int v2), (0, .ref this), (1, .int x1)] dX8_sortsBy_12 rfl (by decide) rfl ?_
  refine go_iconst (v := 0) dX8_sortsBy_13 (by decide) ?_
  refine go_istore [(4, .int 0), (3, .int 0), (2, .int v2), (0, .ref this), (1, .int x1)] dX8_sortsBy_14 (by decide) rfl ?_
  refine go_lv [3, 4, 2, 1, 0] rfl ?_
  obtain ⟨n16, h⟩ := h
  refine k_X8_sortsBy_l16 h_this (fun y8 y9 y10 m11 h => ?_) n16 _ _ _ _ _ h
  refine go_aload_n 0 dX8_sortsBy_54 rfl rfl ?_
  refine go_getR dX8_sortsBy_55 fl_RX8_19 h_this (rr_8_4 h_this) ?_
  refine go_iload_n 1 dX8_sortsBy_58 rfl rfl ?_
  refine go_iload_n 2 dX8_sortsBy_59 rfl rfl ?_
  refine gb_iastore dX8_sortsBy_60 (rt_8_4 h_this) h.1 (fun m12 e => ?_)
  replace h := h.2 m12 e
  refine go_iload_n 3 dX8_sortsBy_61 rfl rfl ?_
  exact go_iret dX8_sortsBy_62 ⟨_, rfl, h⟩
def w_X8_was (this : Nat) (x1 : Int32) (x2 : Int32) (μ : gk_St) (Q : Int32 → gk_St → Prop) : Prop := w_X8_isCar this x1 μ (fun r2 m1 => (if r2 = 0 then Q (-2) m1 else w_X8_isTwo x2 m1 (fun r4 m3 => (if r4 = 0 then Q (-2) m3 else (if x2 = 0 then w_X8_roomsBy this x1 m3 (fun r8 m7 => Q r8 m7) else w_X8_sortsBy this x1 m3 (fun r6 m5 => Q r6 m5))))))
set_option maxRecDepth 100000 in
set_option maxHeartbeats 4000000 in
theorem k_X8_was {this : Nat} {x1 : Int32} {x2 : Int32} {μ : gk_St} {Q : Int32 → gk_St → Prop} (h_this : gk_isO this 8) (h : w_X8_was this x1 x2 μ Q) : gk_CT yX8_was cX8_was 3 (some .int) 8 [.ref this, .int x1, .int x2] μ (gk_Qi Q) := by
  unfold w_X8_was at h
  refine gk_enter (by decide) (Nat.le_of_ble_eq_true rfl) ?_
  show Go RX8 cX8_was 3 (some .int) 8 0 [(0, .ref this), (1, .int x1), (2, .int x2)] [] μ (gk_Qi Q)
  refine go_aload_n 0 dX8_was_0 rfl rfl ?_
  refine go_iload_n 1 dX8_was_1 rfl rfl ?_
  refine go_callV (ci := 8) (d' := 6) [.int x1] dX8_was_2 cw_RX8_164 ki_X8_isCar ks_X8_isCar rfl (by decide) h_this rfl (Nat.le_of_ble_eq_true rfl) (by decide) (k_X8_isCar h_this h) (gk_ki (fun r2 m1 h => ?_))
  refine go_if_eq 35 dX8_was_5 (by decide) (fun c => ?_) (fun c => ?_)
  · replace h := gk_ip h c
    refine go_bipush (v := (-2)) dX8_was_35 (by decide) ?_
    exact go_iret dX8_was_37 ⟨_, rfl, h⟩
  · replace h := gk_in h c
    refine go_iload_n 2 dX8_was_8 rfl rfl ?_
    refine go_callS (d' := 1) [.int x2] dX8_was_9 cw_RX8_253 kt_X8_isTwo rfl (Nat.le_of_ble_eq_true rfl) (by decide) (k_X8_isTwo h) (gk_ki (fun r4 m3 h => ?_))
    refine go_if_eq 35 dX8_was_12 (by decide) (fun c => ?_) (fun c => ?_)
    · replace h := gk_ip h c
      refine go_bipush (v := (-2)) dX8_was_35 (by decide) ?_
      exact go_iret dX8_was_37 ⟨_, rfl, h⟩
    · replace h := gk_in h c
      refine go_iload_n 2 dX8_was_15 rfl rfl ?_
      refine go_if_ne 27 dX8_was_16 (by decide) (fun c => ?_) (fun c => ?_)
      · replace h := gk_in h c
        refine go_aload_n 0 dX8_was_27 rfl rfl ?_
        refine go_iload_n 1 dX8_was_28 rfl rfl ?_
        refine go_callV (ci := 8) (d' := 7) [.int x1] dX8_was_29 cw_RX8_323 ki_X8_sortsBy ks_X8_sortsBy rfl (by decide) h_this rfl (Nat.le_of_ble_eq_true rfl) (by decide) (k_X8_sortsBy h_this h) (gk_ki (fun r6 m5 h => ?_))
        refine go_goto 37 dX8_was_32 (by decide) ?_
        exact go_iret dX8_was_37 ⟨_, rfl, h⟩
      · replace h := gk_ip h c
        refine go_aload_n 0 dX8_was_19 rfl rfl ?_
        refine go_iload_n 1 dX8_was_20 rfl rfl ?_
        refine go_callV (ci := 8) (d' := 7) [.int x1] dX8_was_21 cw_RX8_320 ki_X8_roomsBy ks_X8_roomsBy rfl (by decide) h_this rfl (Nat.le_of_ble_eq_true rfl) (by decide) (k_X8_roomsBy h_this h) (gk_ki (fun r8 m7 h => ?_))
        refine go_goto 37 dX8_was_24 (by decide) ?_
        exact go_iret dX8_was_37 ⟨_, rfl, h⟩
def w_X8_askOf_j101 (Q : Int32 → gk_St → Prop) (K : Int32 → Int32 → Int32 → Int32 → Int32 → Int32 → Int32 → gk_St → Prop) (C : Int32 → Int32 → Int32 → Int32 → Int32 → Int32 → Int32 → Int32 → gk_St → Prop) (this : Nat) (x2 : Int32) (x3 : Int32) (x4 : Int32) (x5 : Int32) (x6 : Int32) (x7 : Int32) (x9 : Int32) (s0 : Int32) (s1 : Int32) (μ : gk_St) : Prop := (∀ v5 : Int32, v5 = (s1 + s0) → (∀ v6 : Int32, v6 = x9 + 1 → C x2 x3 x4 x5 x6 x7 v5 v6 μ))
set_option maxRecDepth 100000 in
set_option maxHeartbeats 4000000 in
theorem k_X8_askOf_j101 {Q : Int32 → gk_St → Prop} {K : Int32 → Int32 → Int32 → Int32 → Int32 → Int32 → Int32 → gk_St → Prop} {C : Int32 → Int32 → Int32 → Int32 → Int32 → Int32 → Int32 → Int32 → gk_St → Prop} {this : Nat} {x2 : Int32} {x3 : Int32} {x4 : Int32} {x5 : Int32} {x6 : Int32} {x7 : Int32} {x9 : Int32} {s0 : Int32} {s1 : Int32} {μ : gk_St} (h_this : gk_isO this 8) (hK : ∀ (e2 : Int32) (e3 : Int32) (e4 : Int32) (e5 : Int32) (e6 : Int32) (e7 : Int32) (e8 : Int32) (em : gk_St), K e2 e3 e4 e5 e6 e7 e8 em → Go RX8 cX8_askOf 10 (some .int) 8 110 [(0, .ref this), (2, .int e2), (3, .int e3), (4, .int e4), (5, .int e5), (6, .int e6), (7, .int e7), (8, .int e8)] [] em (gk_Qi Q)) (hC : ∀ (c2 : Int32) (c3 : Int32) (c4 : Int32) (c5 : Int32) (c6 : Int32) (c7 : Int32) (c8 : Int32) (c9 : Int32) (cm : gk_St), C c2 c3 c4 c5 c6 c7 c8 c9 cm → Go RX8 cX8_askOf 10 (some .int) 8 40 [(0, .ref this), (2, .int c2), (3, .int c3), (4, .int c4), (5, .int c5), (6, .int c6), (7, .int c7), (8, .int c8), (9, .int c9)] [] cm (gk_Qi Q)) (h : w_X8_askOf_j101 Q K C this x2 x3 x4 x5 x6 x7 x9 s0 s1 μ) : Go RX8 cX8_askOf 10 (some .int) 8 101 [(0, .ref this), (2, .int x2), (3, .int x3), (4, .int x4), (5, .int x5), (6, .int x6), (7, .int x7), (9, .int x9)] [.int s0, .int s1] μ (gk_Qi Q) := by
  unfold w_X8_askOf_j101 at h
  refine go_iadd dX8_askOf_101 ?_
  refine gb_istore (fun v5 => [(8, .int v5), (0, .ref this), (2, .int x2), (3, .int x3), (4, .int x4), (5, .int x5), (6, .int x6), (7, .int x7), (9, .int x9)]) dX8_askOf_102 (by decide) (fun _ => rfl) (fun v5 e => ?_)
  replace h := h v5 e
  refine gb_iinc (w := 1) 8 (fun v6 => [(9, .int v6), (8, .int v5), (0, .ref this), (2, .int x2), (3, .int x3), (4, .int x4), (5, .int x5), (6, .int x6), (7, .int x7)]) dX8_askOf_104 rfl (by decide) (by decide) (fun _ => rfl) (fun v6 e => ?_)
  replace h := h v6 e
  refine go_goto 40 dX8_askOf_107 (by decide) ?_
  refine go_lv [2, 3, 4, 5, 6, 7, 8, 1, 0] rfl ?_
  exact hC _ _ _ _ _ _ _ _ _ h
def w_X8_askOf_j100 (Q : Int32 → gk_St → Prop) (K : Int32 → Int32 → Int32 → Int32 → Int32 → Int32 → Int32 → gk_St → Prop) (C : Int32 → Int32 → Int32 → Int32 → Int32 → Int32 → Int32 → Int32 → gk_St → Prop) (this : Nat) (x2 : Int32) (x3 : Int32) (x4 : Int32) (x5 : Int32) (x6 : Int32) (x7 : Int32) (x9 : Int32) (s0 : Int32) (μ : gk_St) : Prop := w_X8_askOf_j101 Q K C this x2 x3 x4 x5 x6 x7 x9 0 s0 μ
set_option maxRecDepth 100000 in
set_option maxHeartbeats 4000000 in
theorem k_X8_askOf_j100 {Q : Int32 → gk_St → Prop} {K : Int32 → Int32 → Int32 → Int32 → Int32 → Int32 → Int32 → gk_St → Prop} {C : Int32 → Int32 → Int32 → Int32 → Int32 → Int32 → Int32 → Int32 → gk_St → Prop} {this : Nat} {x2 : Int32} {x3 : Int32} {x4 : Int32} {x5 : Int32} {x6 : Int32} {x7 : Int32} {x9 : Int32} {s0 : Int32} {μ : gk_St} (h_this : gk_isO this 8) (hK : ∀ (e2 : Int32) (e3 : Int32) (e4 : Int32) (e5 : Int32) (e6 : Int32) (e7 : Int32) (e8 : Int32) (em : gk_St), K e2 e3 e4 e5 e6 e7 e8 em → Go RX8 cX8_askOf 10 (some .int) 8 110 [(0, .ref this), (2, .int e2), (3, .int e3), (4, .int e4), (5, .int e5), (6, .int e6), (7, .int e7), (8, .int e8)] [] em (gk_Qi Q)) (hC : ∀ (c2 : Int32) (c3 : Int32) (c4 : Int32) (c5 : Int32) (c6 : Int32) (c7 : Int32) (c8 : Int32) (c9 : Int32) (cm : gk_St), C c2 c3 c4 c5 c6 c7 c8 c9 cm → Go RX8 cX8_askOf 10 (some .int) 8 40 [(0, .ref this), (2, .int c2), (3, .int c3), (4, .int c4), (5, .int c5), (6, .int c6), (7, .int c7), (8, .int c8), (9, .int c9)] [] cm (gk_Qi Q)) (h : w_X8_askOf_j100 Q K C this x2 x3 x4 x5 x6 x7 x9 s0 μ) : Go RX8 cX8_askOf 10 (some .int) 8 100 [(0, .ref this), (2, .int x2), (3, .int x3), (4, .int x4), (5, .int x5), (6, .int x6), (7, .int x7), (9, .int x9)] [.int s0] μ (gk_Qi Q) := by
  unfold w_X8_askOf_j100 at h
  refine go_iconst (v := 0) dX8_askOf_100 (by decide) ?_
  exact k_X8_askOf_j101 h_this hK hC h
def w_X8_askOf_l40 (Q : Int32 → gk_St → Prop) (K : Int32 → Int32 → Int32 → Int32 → Int32 → Int32 → Int32 → gk_St → Prop) (this : Nat) : Nat → Int32 → Int32 → Int32 → Int32 → Int32 → Int32 → Int32 → Int32 → gk_St → Prop
  | 0, _, _, _, _, _, _, _, _, _ => False
  | n + 1, x2, x3, x4, x5, x6, x7, x8, x9, μ => (if 10 ≤ x9 then K x2 x3 x4 x5 x6 x7 x8 μ else w_X8_isIn x2 x7 μ (fun r4 m3 => (if r4 = 0 then w_X8_askOf_j100 Q K (fun c_x2 c_x3 c_x4 c_x5 c_x6 c_x7 c_x8 c_x9 cm => w_X8_askOf_l40 Q K this n c_x2 c_x3 c_x4 c_x5 c_x6 c_x7 c_x8 c_x9 cm) this x2 x3 x4 x5 x6 x7 x9 x8 m3 else w_X8_isIn x2 x9 m3 (fun r8 m7 => (if r8 = 0 then w_X8_askOf_j100 Q K (fun c_x2 c_x3 c_x4 c_x5 c_x6 c_x7 c_x8 c_x9 cm => w_X8_askOf_l40 Q K this n c_x2 c_x3 c_x4 c_x5 c_x6 c_x7 c_x8 c_x9 cm) this x2 x3 x4 x5 x6 x7 x9 x8 m7 else (vp_in (((24 : Int32) * x7) + x5) (gk_ln (gk_rf this 41)) ∧ (vp_in (((24 : Int32) * x9) + x5) (gk_ln (gk_rf this 41)) ∧ (if (m7 (gk_rf this 41) (Int32.toNatClampNeg (((24 : Int32) * x7) + x5))) = (m7 (gk_rf this 41) (Int32.toNatClampNeg (((24 : Int32) * x9) + x5))) then w_X8_askOf_j101 Q K (fun c_x2 c_x3 c_x4 c_x5 c_x6 c_x7 c_x8 c_x9 cm => w_X8_askOf_l40 Q K this n c_x2 c_x3 c_x4 c_x5 c_x6 c_x7 c_x8 c_x9 cm) this x2 x3 x4 x5 x6 x7 x9 1 x8 m7 else w_X8_askOf_j100 Q K (fun c_x2 c_x3 c_x4 c_x5 c_x6 c_x7 c_x8 c_x9 cm => w_X8_askOf_l40 Q K this n c_x2 c_x3 c_x4 c_x5 c_x6 c_x7 c_x8 c_x9 cm) this x2 x3 x4 x5 x6 x7 x9 x8 m7))))))))
set_option maxRecDepth 100000 in
set_option maxHeartbeats 4000000 in
theorem k_X8_askOf_l40 {Q : Int32 → gk_St → Prop} {K : Int32 → Int32 → Int32 → Int32 → Int32 → Int32 → Int32 → gk_St → Prop} {this : Nat} (h_this : gk_isO this 8) (hK : ∀ (e2 : Int32) (e3 : Int32) (e4 : Int32) (e5 : Int32) (e6 : Int32) (e7 : Int32) (e8 : Int32) (em : gk_St), K e2 e3 e4 e5 e6 e7 e8 em → Go RX8 cX8_askOf 10 (some .int) 8 110 [(0, .ref this), (2, .int e2), (3, .int e3), (4, .int e4), (5, .int e5), (6, .int e6), (7, .int e7), (8, .int e8)] [] em (gk_Qi Q)) : ∀ (n : Nat) (x2 : Int32) (x3 : Int32) (x4 : Int32) (x5 : Int32) (x6 : Int32) (x7 : Int32) (x8 : Int32) (x9 : Int32) (μ : gk_St), w_X8_askOf_l40 Q K this n x2 x3 x4 x5 x6 x7 x8 x9 μ → Go RX8 cX8_askOf 10 (some .int) 8 40 [(0, .ref this), (2, .int x2), (3, .int x3), (4, .int x4), (5, .int x5), (6, .int x6), (7, .int x7), (8, .int x8), (9, .int x9)] [] μ (gk_Qi Q) := by
  intro n
  induction n with
  | zero =>
    intro x2 x3 x4 x5 x6 x7 x8 x9 μ h
    exact False.elim h
  | succ n ih =>
    intro x2 x3 x4 x5 x6 x7 x8 x9 μ h
    unfold w_X8_askOf_l40 at h
    refine go_iload 8 dX8_askOf_40 rfl ?_
    refine go_bipush (v := 10) dX8_askOf_42 (by decide) ?_
    refine go_icmp_ge 110 dX8_askOf_44 (by decide) (fun c => ?_) (fun c => ?_)
    · replace h := gk_ip h c
      refine go_lv [0, 1, 2, 3, 4, 5, 6, 7] rfl ?_
      exact hK _ _ _ _ _ _ _ _ h
    · replace h := gk_in h c
      refine go_iload 7 dX8_askOf_47 rfl ?_
      refine go_iload_n 1 dX8_askOf_49 rfl rfl ?_
      refine go_iload 6 dX8_askOf_50 rfl ?_
      refine go_callS (d' := 0) [.int x2, .int x7] dX8_askOf_52 cw_RX8_202 kt_X8_isIn rfl (Nat.le_of_ble_eq_true rfl) (by decide) (k_X8_isIn h) (gk_ki (fun r4 m3 h => ?_))
      refine go_if_eq 100 dX8_askOf_55 (by decide) (fun c => ?_) (fun c => ?_)
      · replace h := gk_ip h c
        refine go_lv [0, 1, 2, 3, 4, 5, 6, 8] rfl ?_
        exact k_X8_askOf_j100 h_this hK (fun _ _ _ _ _ _ _ _ _ h => ih _ _ _ _ _ _ _ _ _ h) h
      · replace h := gk_in h c
        refine go_iload_n 1 dX8_askOf_58 rfl rfl ?_
        refine go_iload 8 dX8_askOf_59 rfl ?_
        refine go_callS (d' := 0) [.int x2, .int x9] dX8_askOf_61 cw_RX8_202 kt_X8_isIn rfl (Nat.le_of_ble_eq_true rfl) (by decide) (k_X8_isIn h) (gk_ki (fun r8 m7 h => ?_))
        refine go_if_eq 100 dX8_askOf_64 (by decide) (fun c => ?_) (fun c => ?_)
        · replace h := gk_ip h c
          refine go_lv [0, 1, 2, 3, 4, 5, 6, 8] rfl ?_
          exact k_X8_askOf_j100 h_this hK (fun _ _ _ _ _ _ _ _ _ h => ih _ _ _ _ _ _ _ _ _ h) h
        · replace h := gk_in h c
          refine go_aload_n 0 dX8_askOf_67 rfl rfl ?_
          refine go_getR dX8_askOf_68 fl_RX8_91 h_this (rr_8_41 h_this) ?_
          refine go_bipush (v := 24) dX8_askOf_71 (by decide) ?_
          refine go_iload 6 dX8_askOf_73 rfl ?_
          refine go_imul dX8_askOf_75 ?_
          refine go_iload 4 dX8_askOf_76 rfl ?_
          refine go_iadd dX8_askOf_78 ?_
          refine go_iaload dX8_askOf_79 (rt_8_41 h_this) h.1 ?_
          replace h := h.2
          refine go_aload_n 0 dX8_askOf_80 rfl rfl ?_
          refine go_getR dX8_askOf_81 fl_RX8_91 h_this (rr_8_41 h_this) ?_
          refine go_bipush (v := 24) dX8_askOf_84 (by decide) ?_
          refine go_iload 8 dX8_askOf_86 rfl ?_
          refine go_imul dX8_askOf_88 ?_
          refine go_iload 4 dX8_askOf_89 rfl ?_
          refine go_iadd dX8_askOf_91 ?_
          refine go_iaload dX8_askOf_92 (rt_8_41 h_this) h.1 ?_
          replace h := h.2
          refine go_icmp_ne 100 dX8_askOf_93 (by decide) (fun c => ?_) (fun c => ?_)
          · replace h := gk_in h c
            refine go_lv [0, 1, 2, 3, 4, 5, 6, 8] rfl ?_
            exact k_X8_askOf_j100 h_this hK (fun _ _ _ _ _ _ _ _ _ h => ih _ _ _ _ _ _ _ _ _ h) h
          · replace h := gk_ip h c
            refine go_iconst (v := 1) dX8_askOf_96 (by decide) ?_
            refine go_goto 101 dX8_askOf_97 (by decide) ?_
            refine go_lv [0, 1, 2, 3, 4, 5, 6, 8] rfl ?_
            exact k_X8_askOf_j101 h_this hK (fun _ _ _ _ _ _ _ _ _ h => ih _ _ _ _ _ _ _ _ _ h) h
def w_X8_askOf_l27 (Q : Int32 → gk_St → Prop) (K : Int32 → Int32 → Int32 → Int32 → Int32 → gk_St → Prop) (this : Nat) : Nat → Int32 → Int32 → Int32 → Int32 → Int32 → Int32 → gk_St → Prop
  | 0, _, _, _, _, _, _, _ => False
  | n + 1, x2, x3, x4, x5, x6, x7, μ => (if 10 ≤ x7 then K x2 x3 x4 x5 x6 μ else (∃ n40 : Nat, w_X8_askOf_l40 Q (fun y9 y10 y11 y12 y13 y14 y15 m16 => (if y15 ≤ y13 then (∀ v17 : Int32, v17 = y14 + 1 → w_X8_askOf_l27 Q K this n y9 y10 y11 y12 y13 v17 m16) else (∀ v18 : Int32, v18 = y14 + 1 → w_X8_askOf_l27 Q K this n y9 y10 y11 y12 y15 v18 m16))) this n40 x2 x3 x4 x5 x6 x7 0 1 μ))
set_option maxRecDepth 100000 in
set_option maxHeartbeats 4000000 in
theorem k_X8_askOf_l27 {Q : Int32 → gk_St → Prop} {K : Int32 → Int32 → Int32 → Int32 → Int32 → gk_St → Prop} {this : Nat} (h_this : gk_isO this 8) (hK : ∀ (e2 : Int32) (e3 : Int32) (e4 : Int32) (e5 : Int32) (e6 : Int32) (em : gk_St), K e2 e3 e4 e5 e6 em → Go RX8 cX8_askOf 10 (some .int) 8 132 [(0, .ref this), (2, .int e2), (3, .int e3), (4, .int e4), (5, .int e5), (6, .int e6)] [] em (gk_Qi Q)) : ∀ (n : Nat) (x2 : Int32) (x3 : Int32) (x4 : Int32) (x5 : Int32) (x6 : Int32) (x7 : Int32) (μ : gk_St), w_X8_askOf_l27 Q K this n x2 x3 x4 x5 x6 x7 μ → Go RX8 cX8_askOf 10 (some .int) 8 27 [(0, .ref this), (2, .int x2), (3, .int x3), (4, .int x4), (5, .int x5), (6, .int x6), (7, .int x7)] [] μ (gk_Qi Q) := by
  intro n
  induction n with
  | zero =>
    intro x2 x3 x4 x5 x6 x7 μ h
    exact False.elim h
  | succ n ih =>
    intro x2 x3 x4 x5 x6 x7 μ h
    unfold w_X8_askOf_l27 at h
    refine go_iload 6 dX8_askOf_27 rfl ?_
    refine go_bipush (v := 10) dX8_askOf_29 (by decide) ?_
    refine go_icmp_ge 132 dX8_askOf_31 (by decide) (fun c => ?_) (fun c => ?_)
    · replace h := gk_ip h c
      refine go_lv [0, 1, 2, 3, 4, 5] rfl ?_
      exact hK _ _ _ _ _ _ h
    · replace h := gk_in h c
      refine go_iconst (v := 0) dX8_askOf_34 (by decide) ?_
      refine go_istore [(8, .int 0), (0, .ref this), (2, .int x2), (3, .int x3), (4, .int x4), (5, .int x5), (6, .int x6), (7, .int x7)] dX8_askOf_35 (by decide) rfl ?_
      refine go_iconst (v := 1) dX8_askOf_37 (by decide) ?_
      refine go_istore [(9, .int 1), (8, .int 0), (0, .ref this), (2, .int x2), (3, .int x3), (4, .int x4), (5, .int x5), (6, .int x6), (7, .int x7)] dX8_askOf_38 (by decide) rfl ?_
      refine go_lv [2, 3, 4, 5, 6, 7, 8, 1, 0] rfl ?_
      obtain ⟨n40, h⟩ := h
      refine k_X8_askOf_l40 h_this (fun y9 y10 y11 y12 y13 y14 y15 m16 h => ?_) n40 _ _ _ _ _ _ _ _ _ h
      refine go_iload 7 dX8_askOf_110 rfl ?_
      refine go_iload 5 dX8_askOf_112 rfl ?_
      refine go_icmp_le 122 dX8_askOf_114 (by decide) (fun c => ?_) (fun c => ?_)
      · replace h := gk_ip h c
        refine go_iload 5 dX8_askOf_122 rfl ?_
        refine go_istore [(6, .int y13), (0, .ref this), (2, .int y9), (3, .int y10), (4, .int y11), (5, .int y12), (7, .int y14), (8, .int y15)] dX8_askOf_124 (by decide) rfl ?_
        refine gb_iinc (w := 1) 6 (fun v17 => [(7, .int v17), (6, .int y13), (0, .ref this), (2, .int y9), (3, .int y10), (4, .int y11), (5, .int y12), (8, .int y15)]) dX8_askOf_126 rfl (by decide) (by decide) (fun _ => rfl) (fun v17 e => ?_)
        replace h := h v17 e
        refine go_goto 27 dX8_askOf_129 (by decide) ?_
        refine go_lv [2, 3, 4, 5, 6, 1, 0] rfl ?_
        exact ih _ _ _ _ _ _ _ h
      · replace h := gk_in h c
        refine go_iload 7 dX8_askOf_117 rfl ?_
        refine go_goto 124 dX8_askOf_119 (by decide) ?_
        refine go_istore [(6, .int y15), (0, .ref this), (2, .int y9), (3, .int y10), (4, .int y11), (5, .int y12), (7, .int y14), (8, .int y15)] dX8_askOf_124 (by decide) rfl ?_
        refine gb_iinc (w := 1) 6 (fun v18 => [(7, .int v18), (6, .int y15), (0, .ref this), (2, .int y9), (3, .int y10), (4, .int y11), (5, .int y12), (8, .int y15)]) dX8_askOf_126 rfl (by decide) (by decide) (fun _ => rfl) (fun v18 e => ?_)
        replace h := h v18 e
        refine go_goto 27 dX8_askOf_129 (by decide) ?_
        refine go_lv [2, 3, 4, 5, 6, 1, 0] rfl ?_
        exact ih _ _ _ _ _ _ _ h
def w_X8_askOf_j162 (Q : Int32 → gk_St → Prop) (K : Int32 → gk_St → Prop) (C : Int32 → Int32 → Int32 → Int32 → gk_St → Prop) (this : Nat) (x2 : Int32) (x4 : Int32) (x5 : Int32) (x6 : Int32) (x7 : Int32) (s0 : Int32) (μ : gk_St) : Prop := (if x7 = 0 then (∀ v25 : Int32, v25 = x5 + 1 → C x2 s0 x4 v25 μ) else (∀ v26 : Int32, v26 = x5 + 1 → C x2 s0 x6 v26 μ))
set_option maxRecDepth 100000 in
set_option maxHeartbeats 4000000 in
theorem k_X8_askOf_j162 {Q : Int32 → gk_St → Prop} {K : Int32 → gk_St → Prop} {C : Int32 → Int32 → Int32 → Int32 → gk_St → Prop} {this : Nat} {x2 : Int32} {x4 : Int32} {x5 : Int32} {x6 : Int32} {x7 : Int32} {s0 : Int32} {μ : gk_St} (h_this : gk_isO this 8) (hK : ∀ (e3 : Int32) (em : gk_St), K e3 em → Go RX8 cX8_askOf 10 (some .int) 8 183 [(3, .int e3)] [] em (gk_Qi Q)) (hC : ∀ (c2 : Int32) (c3 : Int32) (c4 : Int32) (c5 : Int32) (cm : gk_St), C c2 c3 c4 c5 cm → Go RX8 cX8_askOf 10 (some .int) 8 14 [(0, .ref this), (2, .int c2), (3, .int c3), (4, .int c4), (5, .int c5)] [] cm (gk_Qi Q)) (h : w_X8_askOf_j162 Q K C this x2 x4 x5 x6 x7 s0 μ) : Go RX8 cX8_askOf 10 (some .int) 8 162 [(0, .ref this), (2, .int x2), (4, .int x4), (5, .int x5), (6, .int x6), (7, .int x7)] [.int s0] μ (gk_Qi Q) := by
  unfold w_X8_askOf_j162 at h
  refine go_istore_n [(3, .int s0), (0, .ref this), (2, .int x2), (4, .int x4), (5, .int x5), (6, .int x6), (7, .int x7)] dX8_askOf_162 rfl (by decide) rfl ?_
  refine go_iload 6 dX8_askOf_163 rfl ?_
  refine go_if_eq 173 dX8_askOf_165 (by decide) (fun c => ?_) (fun c => ?_)
  · replace h := gk_ip h c
    refine go_iload 3 dX8_askOf_173 rfl ?_
    refine go_istore [(4, .int x4), (3, .int s0), (0, .ref this), (2, .int x2), (5, .int x5), (6, .int x6), (7, .int x7)] dX8_askOf_175 (by decide) rfl ?_
    refine gb_iinc (w := 1) 4 (fun v25 => [(5, .int v25), (4, .int x4), (3, .int s0), (0, .ref this), (2, .int x2), (6, .int x6), (7, .int x7)]) dX8_askOf_177 rfl (by decide) (by decide) (fun _ => rfl) (fun v25 e => ?_)
    replace h := h v25 e
    refine go_goto 14 dX8_askOf_180 (by decide) ?_
    refine go_lv [3, 4, 2, 1, 0] rfl ?_
    exact hC _ _ _ _ _ h
  · replace h := gk_in h c
    refine go_iload 5 dX8_askOf_168 rfl ?_
    refine go_goto 175 dX8_askOf_170 (by decide) ?_
    refine go_istore [(4, .int x6), (3, .int s0), (0, .ref this), (2, .int x2), (5, .int x5), (6, .int x6), (7, .int x7)] dX8_askOf_175 (by decide) rfl ?_
    refine gb_iinc (w := 1) 4 (fun v26 => [(5, .int v26), (4, .int x6), (3, .int s0), (0, .ref this), (2, .int x2), (6, .int x6), (7, .int x7)]) dX8_askOf_177 rfl (by decide) (by decide) (fun _ => rfl) (fun v26 e => ?_)
    replace h := h v26 e
    refine go_goto 14 dX8_askOf_180 (by decide) ?_
    refine go_lv [3, 4, 2, 1, 0] rfl ?_
    exact hC _ _ _ _ _ h
def w_X8_askOf_j149 (Q : Int32 → gk_St → Prop) (K : Int32 → gk_St → Prop) (C : Int32 → Int32 → Int32 → Int32 → gk_St → Prop) (this : Nat) (x2 : Int32) (x3 : Int32) (x4 : Int32) (x5 : Int32) (x6 : Int32) (s0 : Int32) (μ : gk_St) : Prop := (if s0 = 0 then w_X8_askOf_j162 Q K C this x2 x4 x5 x6 s0 x3 μ else w_X8_askOf_j162 Q K C this x2 x4 x5 x6 s0 x5 μ)
set_option maxRecDepth 100000 in
set_option maxHeartbeats 4000000 in
theorem k_X8_askOf_j149 {Q : Int32 → gk_St → Prop} {K : Int32 → gk_St → Prop} {C : Int32 → Int32 → Int32 → Int32 → gk_St → Prop} {this : Nat} {x2 : Int32} {x3 : Int32} {x4 : Int32} {x5 : Int32} {x6 : Int32} {s0 : Int32} {μ : gk_St} (h_this : gk_isO this 8) (hK : ∀ (e3 : Int32) (em : gk_St), K e3 em → Go RX8 cX8_askOf 10 (some .int) 8 183 [(3, .int e3)] [] em (gk_Qi Q)) (hC : ∀ (c2 : Int32) (c3 : Int32) (c4 : Int32) (c5 : Int32) (cm : gk_St), C c2 c3 c4 c5 cm → Go RX8 cX8_askOf 10 (some .int) 8 14 [(0, .ref this), (2, .int c2), (3, .int c3), (4, .int c4), (5, .int c5)] [] cm (gk_Qi Q)) (h : w_X8_askOf_j149 Q K C this x2 x3 x4 x5 x6 s0 μ) : Go RX8 cX8_askOf 10 (some .int) 8 149 [(0, .ref this), (2, .int x2), (3, .int x3), (4, .int x4), (5, .int x5), (6, .int x6)] [.int s0] μ (gk_Qi Q) := by
  unfold w_X8_askOf_j149 at h
  refine go_istore [(7, .int s0), (0, .ref this), (2, .int x2), (3, .int x3), (4, .int x4), (5, .int x5), (6, .int x6)] dX8_askOf_149 (by decide) rfl ?_
  refine go_iload 0 dX8_askOf_151 rfl ?_
  refine go_if_eq 161 dX8_askOf_153 (by decide) (fun c => ?_) (fun c => ?_)
  · replace h := gk_ip h c
    refine go_iload_n 3 dX8_askOf_161 rfl rfl ?_
    refine go_lv [1, 2, 4, 5, 6, 0] rfl ?_
    exact k_X8_askOf_j162 h_this hK hC h
  · replace h := gk_in h c
    refine go_iload 5 dX8_askOf_156 rfl ?_
    refine go_goto 162 dX8_askOf_158 (by decide) ?_
    refine go_lv [1, 2, 4, 5, 6, 0] rfl ?_
    exact k_X8_askOf_j162 h_this hK hC h
def w_X8_askOf_j144 (Q : Int32 → gk_St → Prop) (K : Int32 → gk_St → Prop) (C : Int32 → Int32 → Int32 → Int32 → gk_St → Prop) (this : Nat) (x2 : Int32) (x3 : Int32) (x4 : Int32) (x5 : Int32) (x6 : Int32) (μ : gk_St) : Prop := w_X8_askOf_j149 Q K C this x2 x3 x4 x5 x6 1 μ
set_option maxRecDepth 100000 in
set_option maxHeartbeats 4000000 in
theorem k_X8_askOf_j144 {Q : Int32 → gk_St → Prop} {K : Int32 → gk_St → Prop} {C : Int32 → Int32 → Int32 → Int32 → gk_St → Prop} {this : Nat} {x2 : Int32} {x3 : Int32} {x4 : Int32} {x5 : Int32} {x6 : Int32} {μ : gk_St} (h_this : gk_isO this 8) (hK : ∀ (e3 : Int32) (em : gk_St), K e3 em → Go RX8 cX8_askOf 10 (some .int) 8 183 [(3, .int e3)] [] em (gk_Qi Q)) (hC : ∀ (c2 : Int32) (c3 : Int32) (c4 : Int32) (c5 : Int32) (cm : gk_St), C c2 c3 c4 c5 cm → Go RX8 cX8_askOf 10 (some .int) 8 14 [(0, .ref this), (2, .int c2), (3, .int c3), (4, .int c4), (5, .int c5)] [] cm (gk_Qi Q)) (h : w_X8_askOf_j144 Q K C this x2 x3 x4 x5 x6 μ) : Go RX8 cX8_askOf 10 (some .int) 8 144 [(0, .ref this), (2, .int x2), (3, .int x3), (4, .int x4), (5, .int x5), (6, .int x6)] [] μ (gk_Qi Q) := by
  unfold w_X8_askOf_j144 at h
  refine go_iconst (v := 1) dX8_askOf_144 (by decide) ?_
  refine go_goto 149 dX8_askOf_145 (by decide) ?_
  exact k_X8_askOf_j149 h_this hK hC h
def w_X8_askOf_l14 (Q : Int32 → gk_St → Prop) (K : Int32 → gk_St → Prop) (this : Nat) : Nat → Int32 → Int32 → Int32 → Int32 → gk_St → Prop
  | 0, _, _, _, _, _ => False
  | n + 1, x2, x3, x4, x5, μ => (if 24 ≤ x5 then K x3 μ else (∃ n27 : Nat, w_X8_askOf_l27 Q (fun y19 y20 y21 y22 y23 m24 => (if y20 = (-1) then w_X8_askOf_j144 Q K (fun c_x2 c_x3 c_x4 c_x5 cm => w_X8_askOf_l14 Q K this n c_x2 c_x3 c_x4 c_x5 cm) this y19 y20 y21 y22 y23 m24 else (if y21 ≤ y23 then w_X8_askOf_j149 Q K (fun c_x2 c_x3 c_x4 c_x5 cm => w_X8_askOf_l14 Q K this n c_x2 c_x3 c_x4 c_x5 cm) this y19 y20 y21 y22 y23 0 m24 else w_X8_askOf_j144 Q K (fun c_x2 c_x3 c_x4 c_x5 cm => w_X8_askOf_l14 Q K this n c_x2 c_x3 c_x4 c_x5 cm) this y19 y20 y21 y22 y23 m24))) this n27 x2 x3 x4 x5 0 1 μ))
set_option maxRecDepth 100000 in
set_option maxHeartbeats 4000000 in
theorem k_X8_askOf_l14 {Q : Int32 → gk_St → Prop} {K : Int32 → gk_St → Prop} {this : Nat} (h_this : gk_isO this 8) (hK : ∀ (e3 : Int32) (em : gk_St), K e3 em → Go RX8 cX8_askOf 10 (some .int) 8 183 [(3, .int e3)] [] em (gk_Qi Q)) : ∀ (n : Nat) (x2 : Int32) (x3 : Int32) (x4 : Int32) (x5 : Int32) (μ : gk_St), w_X8_askOf_l14 Q K this n x2 x3 x4 x5 μ → Go RX8 cX8_askOf 10 (some .int) 8 14 [(0, .ref this), (2, .int x2), (3, .int x3), (4, .int x4), (5, .int x5)] [] μ (gk_Qi Q) := by
  intro n
  induction n with
  | zero =>
    intro x2 x3 x4 x5 μ h
    exact False.elim h
  | succ n ih =>
    intro x2 x3 x4 x5 μ h
    unfold w_X8_askOf_l14 at h
    refine go_iload 4 dX8_askOf_14 rfl ?_
    refine go_bipush (v := 24) dX8_askOf_16 (by decide) ?_
    refine go_icmp_ge 183 dX8_askOf_18 (by decide) (fun c => ?_) (fun c => ?_)
    · replace h := gk_ip h c
      refine go_lv [2] rfl ?_
      exact hK _ _ h
    · replace h := gk_in h c
      refine go_iconst (v := 0) dX8_askOf_21 (by decide) ?_
      refine go_istore [(6, .int 0), (0, .ref this), (2, .int x2), (3, .int x3), (4, .int x4), (5, .int x5)] dX8_askOf_22 (by decide) rfl ?_
      refine go_iconst (v := 1) dX8_askOf_24 (by decide) ?_
      refine go_istore [(7, .int 1), (6, .int 0), (0, .ref this), (2, .int x2), (3, .int x3), (4, .int x4), (5, .int x5)] dX8_askOf_25 (by decide) rfl ?_
      refine go_lv [2, 3, 4, 5, 6, 1, 0] rfl ?_
      obtain ⟨n27, h⟩ := h
      refine k_X8_askOf_l27 h_this (fun y19 y20 y21 y22 y23 m24 h => ?_) n27 _ _ _ _ _ _ _ h
      refine go_iload_n 2 dX8_askOf_132 rfl rfl ?_
      refine go_iconst (v := (-1)) dX8_askOf_133 (by decide) ?_
      refine go_icmp_eq 144 dX8_askOf_134 (by decide) (fun c => ?_) (fun c => ?_)
      · replace h := gk_ip h c
        exact k_X8_askOf_j144 h_this hK (fun _ _ _ _ _ h => ih _ _ _ _ _ h) h
      · replace h := gk_in h c
        refine go_iload 5 dX8_askOf_137 rfl ?_
        refine go_iload 3 dX8_askOf_139 rfl ?_
        refine go_icmp_ge 148 dX8_askOf_141 (by decide) (fun c => ?_) (fun c => ?_)
        · replace h := gk_ip h c
          refine go_iconst (v := 0) dX8_askOf_148 (by decide) ?_
          exact k_X8_askOf_j149 h_this hK (fun _ _ _ _ _ h => ih _ _ _ _ _ h) h
        · replace h := gk_in h c
          exact k_X8_askOf_j144 h_this hK (fun _ _ _ _ _ h => ih _ _ _ _ _ h) h
def w_X8_askOf (this : Nat) (x1 : Int32) (μ : gk_St) (Q : Int32 → gk_St → Prop) : Prop := w_X8_roomsBy this x1 μ (fun r2 m1 => (∃ n14 : Nat, w_X8_askOf_l14 Q (fun y27 m28 => Q y27 m28) this n14 r2 (-1) 0 0 m1))
set_option maxRecDepth 100000 in
set_option maxHeartbeats 4000000 in
theorem k_X8_askOf {this : Nat} {x1 : Int32} {μ : gk_St} {Q : Int32 → gk_St → Prop} (h_this : gk_isO this 8) (h : w_X8_askOf this x1 μ Q) : gk_CT yX8_askOf cX8_askOf 10 (some .int) 8 [.ref this, .int x1] μ (gk_Qi Q) := by
  unfold w_X8_askOf at h
  refine gk_enter (by decide) (Nat.le_of_ble_eq_true rfl) ?_
  show Go RX8 cX8_askOf 10 (some .int) 8 0 [(0, .ref this), (1, .int x1)] [] μ (gk_Qi Q)
  refine go_aload_n 0 dX8_askOf_0 rfl rfl ?_
  refine go_iload_n 1 dX8_askOf_1 rfl rfl ?_
  refine go_callV (ci := 8) (d' := 7) [.int x1] dX8_askOf_2 cw_RX8_320 ki_X8_roomsBy ks_X8_roomsBy rfl (by decide) h_this rfl (Nat.le_of_ble_eq_true rfl) (by decide) (k_X8_roomsBy h_this h) (gk_ki (fun r2 m1 h => ?_))
  refine go_istore_n [(2, .int r2), (0, .ref this), (1, .int x1)] dX8_askOf_5 rfl (by decide) rfl ?_
  refine go_iconst (v := (-1)) dX8_askOf_6 (by decide) ?_
  refine go_istore_n [(3, .int (-1)), (2, .int r2), (0, .ref this), (1, .int x1)] dX8_askOf_7 rfl (by decide) rfl ?_
  refine go_iconst (v := 0) dX8_askOf_8 (by decide) ?_
  refine go_istore [(4, .int 0), (3, .int (-1)), (2, .int r2), (0, .ref this), (1, .int x1)] dX8_askOf_9 (by decide) rfl ?_
  refine go_iconst (v := 0) dX8_askOf_11 (by decide) ?_
  refine go_istore [(5, .int 0), (4, .int 0), (3, .int (-1)), (2, .int r2), (0, .ref this), (1, .int x1)] dX8_askOf_12 (by decide) rfl ?_
  refine go_lv [4, 3, 2, 1, 0] rfl ?_
  obtain ⟨n14, h⟩ := h
  refine k_X8_askOf_l14 h_this (fun y27 m28 h => ?_) n14 _ _ _ _ _ h
  refine go_iload_n 0 dX8_askOf_183 rfl rfl ?_
  exact go_iret dX8_askOf_184 ⟨_, rfl, h⟩
def w_X8_ask (this : Nat) (x1 : Int32) (μ : gk_St) (Q : Int32 → gk_St → Prop) : Prop := w_X8_isCar this x1 μ (fun r2 m1 => (if r2 = 0 then Q (-2) m1 else w_X8_askOf this x1 m1 (fun r4 m3 => Q r4 m3)))
set_option maxRecDepth 100000 in
set_option maxHeartbeats 4000000 in
theorem k_X8_ask {this : Nat} {x1 : Int32} {μ : gk_St} {Q : Int32 → gk_St → Prop} (h_this : gk_isO this 8) (h : w_X8_ask this x1 μ Q) : gk_CT yX8_ask cX8_ask 2 (some .int) 9 [.ref this, .int x1] μ (gk_Qi Q) := by
  unfold w_X8_ask at h
  refine gk_enter (by decide) (Nat.le_of_ble_eq_true rfl) ?_
  show Go RX8 cX8_ask 2 (some .int) 9 0 [(0, .ref this), (1, .int x1)] [] μ (gk_Qi Q)
  refine go_aload_n 0 dX8_ask_0 rfl rfl ?_
  refine go_iload_n 1 dX8_ask_1 rfl rfl ?_
  refine go_callV (ci := 8) (d' := 6) [.int x1] dX8_ask_2 cw_RX8_164 ki_X8_isCar ks_X8_isCar rfl (by decide) h_this rfl (Nat.le_of_ble_eq_true rfl) (by decide) (k_X8_isCar h_this h) (gk_ki (fun r2 m1 h => ?_))
  refine go_if_eq 16 dX8_ask_5 (by decide) (fun c => ?_) (fun c => ?_)
  · replace h := gk_ip h c
    refine go_bipush (v := (-2)) dX8_ask_16 (by decide) ?_
    exact go_iret dX8_ask_18 ⟨_, rfl, h⟩
  · replace h := gk_in h c
    refine go_aload_n 0 dX8_ask_8 rfl rfl ?_
    refine go_iload_n 1 dX8_ask_9 rfl rfl ?_
    refine go_callV (ci := 8) (d' := 8) [.int x1] dX8_ask_10 cw_RX8_326 ki_X8_askOf ks_X8_askOf rfl (by decide) h_this rfl (Nat.le_of_ble_eq_true rfl) (by decide) (k_X8_askOf h_this h) (gk_ki (fun r4 m3 h => ?_))
    refine go_goto 18 dX8_ask_13 (by decide) ?_
    exact go_iret dX8_ask_18 ⟨_, rfl, h⟩
