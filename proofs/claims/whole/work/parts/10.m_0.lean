def w_X7_within (x0 : Int32) (x1 : Int32) (x2 : Int32) (μ : gk_St) (Q : Int32 → gk_St → Prop) : Prop := (if x0 < x1 then Q 0 μ else (if x2 < x0 then Q 0 μ else Q 1 μ))
set_option maxRecDepth 100000 in
set_option maxHeartbeats 4000000 in
theorem k_X7_within {x0 : Int32} {x1 : Int32} {x2 : Int32} {μ : gk_St} {Q : Int32 → gk_St → Prop} (h : w_X7_within x0 x1 x2 μ Q) : gk_CT yX7_within cX7_within 3 (some .boolean) 0 [.int x0, .int x1, .int x2] μ (gk_Qi Q) := by
  unfold w_X7_within at h
  refine gk_enter (by decide) (Nat.le_of_ble_eq_true rfl) ?_
  show Go RX7 cX7_within 3 (some .boolean) 0 0 [(0, .int x0), (1, .int x1), (2, .int x2)] [] μ (gk_Qi Q)
  refine go_iload_n 0 dX7_within_0 rfl rfl ?_
  refine go_iload_n 1 dX7_within_1 rfl rfl ?_
  refine go_icmp_lt 14 dX7_within_2 (by decide) (fun c => ?_) (fun c => ?_)
  · replace h := gk_ip h c
    refine go_iconst (v := 0) dX7_within_14 (by decide) ?_
    exact go_zret dX7_within_15 (Or.inl rfl) ⟨_, rfl, h⟩
  · replace h := gk_in h c
    refine go_iload_n 0 dX7_within_5 rfl rfl ?_
    refine go_iload_n 2 dX7_within_6 rfl rfl ?_
    refine go_icmp_gt 14 dX7_within_7 (by decide) (fun c => ?_) (fun c => ?_)
    · replace h := gk_ip h c
      refine go_iconst (v := 0) dX7_within_14 (by decide) ?_
      exact go_zret dX7_within_15 (Or.inl rfl) ⟨_, rfl, h⟩
    · replace h := gk_in h c
      refine go_iconst (v := 1) dX7_within_10 (by decide) ?_
      refine go_goto 15 dX7_within_11 (by decide) ?_
      exact go_zret dX7_within_15 (Or.inr rfl) ⟨_, rfl, h⟩
def w_X7_isMoment (x0 : Int32) (μ : gk_St) (Q : Int32 → gk_St → Prop) : Prop := w_X7_within x0 0 23 μ (fun r2 m1 => (gk_b r2 ∧ Q r2 m1))
set_option maxRecDepth 100000 in
set_option maxHeartbeats 4000000 in
theorem k_X7_isMoment {x0 : Int32} {μ : gk_St} {Q : Int32 → gk_St → Prop} (h : w_X7_isMoment x0 μ Q) : gk_CT yX7_isMoment cX7_isMoment 1 (some .boolean) 1 [.int x0] μ (gk_Qi Q) := by
  unfold w_X7_isMoment at h
  refine gk_enter (by decide) (Nat.le_of_ble_eq_true rfl) ?_
  show Go RX7 cX7_isMoment 1 (some .boolean) 1 0 [(0, .int x0)] [] μ (gk_Qi Q)
  refine go_iload_n 0 dX7_isMoment_0 rfl rfl ?_
  refine go_iconst (v := 0) dX7_isMoment_1 (by decide) ?_
  refine go_bipush (v := 23) dX7_isMoment_2 (by decide) ?_
  refine go_callS (d' := 0) [.int x0, .int 0, .int 23] dX7_isMoment_4 cw_RX7_107 kt_X7_within rfl (Nat.le_of_ble_eq_true rfl) (by decide) (k_X7_within h) (gk_ki (fun r2 m1 h => ?_))
  exact go_zret dX7_isMoment_7 h.1 ⟨_, rfl, h.2⟩
def w_X0_mayBe (this : Nat) (x1 : Int32) (x2 : Int32) (x3 : Int32) (μ : gk_St) (Q : Int32 → gk_St → Prop) : Prop := w_X7_within x1 0 2 μ (fun r2 m1 => (if r2 = 0 then Q 0 m1 else w_X7_isMoment x2 m1 (fun r4 m3 => (if r4 = 0 then Q 0 m3 else w_X7_within x3 0 5 m3 (fun r6 m5 => (if r6 = 0 then Q 0 m5 else Q 1 m5))))))
set_option maxRecDepth 100000 in
set_option maxHeartbeats 4000000 in
theorem k_X0_mayBe {this : Nat} {x1 : Int32} {x2 : Int32} {x3 : Int32} {μ : gk_St} {Q : Int32 → gk_St → Prop} (h_this : gk_isO this 0) (h : w_X0_mayBe this x1 x2 x3 μ Q) : gk_CT yX0_mayBe cX0_mayBe 4 (some .boolean) 2 [.ref this, .int x1, .int x2, .int x3] μ (gk_Qi Q) := by
  unfold w_X0_mayBe at h
  refine gk_enter (by decide) (Nat.le_of_ble_eq_true rfl) ?_
  show Go RX0 cX0_mayBe 4 (some .boolean) 2 0 [(0, .ref this), (1, .int x1), (2, .int x2), (3, .int x3)] [] μ (gk_Qi Q)
  refine go_iload_n 1 dX0_mayBe_0 rfl rfl ?_
  refine go_iconst (v := 0) dX0_mayBe_1 (by decide) ?_
  refine go_iconst (v := 2) dX0_mayBe_2 (by decide) ?_
  refine go_callSN (d' := 0) (n := 3) [.int x1, .int 0, .int 2] dX0_mayBe_3 cn_RX0_25 kc_X7_within kn_X7_within (by decide +kernel) (by decide) kt_X7_within rfl (Nat.le_of_ble_eq_true rfl) (by decide) (k_X7_within h) (gk_ki (fun r2 m1 h => ?_))
  refine go_if_eq 29 dX0_mayBe_6 (by decide) (fun c => ?_) (fun c => ?_)
  · replace h := gk_ip h c
    refine go_iconst (v := 0) dX0_mayBe_29 (by decide) ?_
    exact go_zret dX0_mayBe_30 (Or.inl rfl) ⟨_, rfl, h⟩
  · replace h := gk_in h c
    refine go_iload_n 2 dX0_mayBe_9 rfl rfl ?_
    refine go_callSN (d' := 1) (n := 1) [.int x2] dX0_mayBe_10 cn_RX0_29 kc_X7_isMoment kn_X7_isMoment (by decide +kernel) (by decide) kt_X7_isMoment rfl (Nat.le_of_ble_eq_true rfl) (by decide) (k_X7_isMoment h) (gk_ki (fun r4 m3 h => ?_))
    refine go_if_eq 29 dX0_mayBe_13 (by decide) (fun c => ?_) (fun c => ?_)
    · replace h := gk_ip h c
      refine go_iconst (v := 0) dX0_mayBe_29 (by decide) ?_
      exact go_zret dX0_mayBe_30 (Or.inl rfl) ⟨_, rfl, h⟩
    · replace h := gk_in h c
      refine go_iload_n 3 dX0_mayBe_16 rfl rfl ?_
      refine go_iconst (v := 0) dX0_mayBe_17 (by decide) ?_
      refine go_iconst (v := 5) dX0_mayBe_18 (by decide) ?_
      refine go_callSN (d' := 0) (n := 3) [.int x3, .int 0, .int 5] dX0_mayBe_19 cn_RX0_25 kc_X7_within kn_X7_within (by decide +kernel) (by decide) kt_X7_within rfl (Nat.le_of_ble_eq_true rfl) (by decide) (k_X7_within h) (gk_ki (fun r6 m5 h => ?_))
      refine go_if_eq 29 dX0_mayBe_22 (by decide) (fun c => ?_) (fun c => ?_)
      · replace h := gk_ip h c
        refine go_iconst (v := 0) dX0_mayBe_29 (by decide) ?_
        exact go_zret dX0_mayBe_30 (Or.inl rfl) ⟨_, rfl, h⟩
      · replace h := gk_in h c
        refine go_iconst (v := 1) dX0_mayBe_25 (by decide) ?_
        refine go_goto 30 dX0_mayBe_26 (by decide) ?_
        exact go_zret dX0_mayBe_30 (Or.inr rfl) ⟨_, rfl, h⟩
def w_X0_hasSpace (this : Nat) (μ : gk_St) (Q : Int32 → gk_St → Prop) : Prop := (if 8 ≤ (μ this 3) then Q 0 μ else Q 1 μ)
set_option maxRecDepth 100000 in
set_option maxHeartbeats 4000000 in
theorem k_X0_hasSpace {this : Nat} {μ : gk_St} {Q : Int32 → gk_St → Prop} (h_this : gk_isO this 0) (h : w_X0_hasSpace this μ Q) : gk_CT yX0_hasSpace cX0_hasSpace 1 (some .boolean) 0 [.ref this] μ (gk_Qi Q) := by
  unfold w_X0_hasSpace at h
  refine gk_enter (by decide) (Nat.le_of_ble_eq_true rfl) ?_
  show Go RX0 cX0_hasSpace 1 (some .boolean) 0 0 [(0, .ref this)] [] μ (gk_Qi Q)
  refine go_aload_n 0 dX0_hasSpace_0 rfl rfl ?_
  refine go_getI dX0_hasSpace_1 fl_RX0_21 h_this (nf_0_3 h_this) ?_
  refine go_bipush (v := 8) dX0_hasSpace_4 (by decide) ?_
  refine go_icmp_ge 13 dX0_hasSpace_6 (by decide) (fun c => ?_) (fun c => ?_)
  · replace h := gk_ip h c
    refine go_iconst (v := 0) dX0_hasSpace_13 (by decide) ?_
    exact go_zret dX0_hasSpace_14 (Or.inl rfl) ⟨_, rfl, h⟩
  · replace h := gk_in h c
    refine go_iconst (v := 1) dX0_hasSpace_9 (by decide) ?_
    refine go_goto 14 dX0_hasSpace_10 (by decide) ?_
    exact go_zret dX0_hasSpace_14 (Or.inr rfl) ⟨_, rfl, h⟩
def w_X0_append (this : Nat) (x1 : Int32) (x2 : Int32) (x3 : Int32) (μ : gk_St) (Q : gk_St → Prop) : Prop := w_X0_hasSpace this μ (fun r2 m1 => (if r2 = 0 then Q m1 else (vp_in (m1 this 3) (gk_ln (gk_rf this 0)) ∧ (∀ m3 : gk_St, m3 = gk_up m1 (gk_rf this 0) (Int32.toNatClampNeg (m1 this 3)) x1 → (vp_in (m3 this 3) (gk_ln (gk_rf this 1)) ∧ (∀ m4 : gk_St, m4 = gk_up m3 (gk_rf this 1) (Int32.toNatClampNeg (m3 this 3)) x2 → (vp_in (m4 this 3) (gk_ln (gk_rf this 2)) ∧ (∀ m5 : gk_St, m5 = gk_up m4 (gk_rf this 2) (Int32.toNatClampNeg (m4 this 3)) x3 → (∀ m6 : gk_St, m6 = gk_up m5 this 3 ((m5 this 3) + 1) → Q m6)))))))))
set_option maxRecDepth 100000 in
set_option maxHeartbeats 4000000 in
theorem k_X0_append {this : Nat} {x1 : Int32} {x2 : Int32} {x3 : Int32} {μ : gk_St} {Q : gk_St → Prop} (h_this : gk_isO this 0) (h : w_X0_append this x1 x2 x3 μ Q) : gk_CT yX0_append cX0_append 4 none 1 [.ref this, .int x1, .int x2, .int x3] μ (gk_Qv Q) := by
  unfold w_X0_append at h
  refine gk_enter (by decide) (Nat.le_of_ble_eq_true rfl) ?_
  show Go RX0 cX0_append 4 none 1 0 [(0, .ref this), (1, .int x1), (2, .int x2), (3, .int x3)] [] μ (gk_Qv Q)
  refine go_aload_n 0 dX0_append_0 rfl rfl ?_
  refine go_callV (ci := 0) (d' := 0) [] dX0_append_1 cw_RX0_33 ki_X0_hasSpace ks_X0_hasSpace rfl (by decide) h_this rfl (Nat.le_of_ble_eq_true rfl) (by decide) (k_X0_hasSpace h_this h) (gk_ki (fun r2 m1 h => ?_))
  refine go_if_eq 47 dX0_append_4 (by decide) (fun c => ?_) (fun c => ?_)
  · replace h := gk_ip h c
    exact go_vret dX0_append_47 ⟨rfl, h⟩
  · replace h := gk_in h c
    refine go_aload_n 0 dX0_append_7 rfl rfl ?_
    refine go_getR dX0_append_8 fl_RX0_9 h_this (rr_0_0 h_this) ?_
    refine go_aload_n 0 dX0_append_11 rfl rfl ?_
    refine go_getI dX0_append_12 fl_RX0_21 h_this (nf_0_3 h_this) ?_
    refine go_iload_n 1 dX0_append_15 rfl rfl ?_
    refine gb_iastore dX0_append_16 (rt_0_0 h_this) h.1 (fun m3 e => ?_)
    replace h := h.2 m3 e
    refine go_aload_n 0 dX0_append_17 rfl rfl ?_
    refine go_getR dX0_append_18 fl_RX0_15 h_this (rr_0_1 h_this) ?_
    refine go_aload_n 0 dX0_append_21 rfl rfl ?_
    refine go_getI dX0_append_22 fl_RX0_21 h_this (nf_0_3 h_this) ?_
    refine go_iload_n 2 dX0_append_25 rfl rfl ?_
    refine gb_iastore dX0_append_26 (rt_0_1 h_this) h.1 (fun m4 e => ?_)
    replace h := h.2 m4 e
    refine go_aload_n 0 dX0_append_27 rfl rfl ?_
    refine go_getR dX0_append_28 fl_RX0_18 h_this (rr_0_2 h_this) ?_
    refine go_aload_n 0 dX0_append_31 rfl rfl ?_
    refine go_getI dX0_append_32 fl_RX0_21 h_this (nf_0_3 h_this) ?_
    refine go_iload_n 3 dX0_append_35 rfl rfl ?_
    refine gb_iastore dX0_append_36 (rt_0_2 h_this) h.1 (fun m5 e => ?_)
    replace h := h.2 m5 e
    refine go_aload_n 0 dX0_append_37 rfl rfl ?_
    refine go_dup dX0_append_38 rfl ?_
    refine go_getI dX0_append_39 fl_RX0_21 h_this (nf_0_3 h_this) ?_
    refine go_iconst (v := 1) dX0_append_42 (by decide) ?_
    refine go_iadd dX0_append_43 ?_
    refine gb_putI dX0_append_44 fp_RX0_21 h_this (nf_0_3 h_this) (fun m6 e => ?_)
    replace h := h m6 e
    exact go_vret dX0_append_47 ⟨rfl, h⟩
def w_X1_takeCars_l15 (Q : gk_St → Prop) (K : gk_St → Prop) (this : Nat) (a1 : Nat) : Nat → Int32 → gk_St → Prop
  | 0, _, _ => False
  | n + 1, x2, μ => (if (μ this 0) ≤ x2 then K  μ else (vp_in x2 (gk_ln (gk_rf a1 3)) ∧ (vp_in x2 (gk_ln (gk_rf this 1)) ∧ (∀ m2 : gk_St, m2 = gk_up μ (gk_rf this 1) x2.toNatClampNeg (μ (gk_rf a1 3) x2.toNatClampNeg) → (vp_in x2 (gk_ln (gk_rf a1 4)) ∧ (vp_in x2 (gk_ln (gk_rf this 2)) ∧ (∀ m3 : gk_St, m3 = gk_up m2 (gk_rf this 2) x2.toNatClampNeg (m2 (gk_rf a1 4) x2.toNatClampNeg) → (vp_in x2 (gk_ln (gk_rf a1 5)) ∧ (vp_in x2 (gk_ln (gk_rf this 3)) ∧ (∀ m4 : gk_St, m4 = gk_up m3 (gk_rf this 3) x2.toNatClampNeg (m3 (gk_rf a1 5) x2.toNatClampNeg) → (∀ v5 : Int32, v5 = x2 + 1 → w_X1_takeCars_l15 Q K this a1 n v5 m4)))))))))))
set_option maxRecDepth 100000 in
set_option maxHeartbeats 4000000 in
theorem k_X1_takeCars_l15 {Q : gk_St → Prop} {K : gk_St → Prop} {this a1 : Nat} (h_this : gk_isO this 1) (h_a1 : gk_isO a1 6) (hK : ∀ (em : gk_St), K  em → Go RX1 cX1_takeCars 3 none 1 65 [] [] em (gk_Qv Q)) : ∀ (n : Nat) (x2 : Int32) (μ : gk_St), w_X1_takeCars_l15 Q K this a1 n x2 μ → Go RX1 cX1_takeCars 3 none 1 15 [(0, .ref this), (1, .ref a1), (2, .int x2)] [] μ (gk_Qv Q) := by
  intro n
  induction n with
  | zero =>
    intro x2 μ h
    exact False.elim h
  | succ n ih =>
    intro x2 μ h
    unfold w_X1_takeCars_l15 at h
    refine go_iload_n 2 dX1_takeCars_15 rfl rfl ?_
    refine go_aload_n 0 dX1_takeCars_16 rfl rfl ?_
    refine go_getI dX1_takeCars_17 fl_RX1_9 h_this (nf_1_0 h_this) ?_
    refine go_icmp_ge 65 dX1_takeCars_20 (by decide) (fun c => ?_) (fun c => ?_)
    · replace h := gk_ip h c
      refine go_lv [] rfl ?_
      exact hK  _ h
    · replace h := gk_in h c
      refine go_aload_n 0 dX1_takeCars_23 rfl rfl ?_
      refine go_getR dX1_takeCars_24 fl_RX1_15 h_this (rr_1_1 h_this) ?_
      refine go_iload_n 2 dX1_takeCars_27 rfl rfl ?_
      refine go_aload_n 1 dX1_takeCars_28 rfl rfl ?_
      refine go_getR dX1_takeCars_29 fl_RX1_54 h_a1 (rr_6_3 h_a1) ?_
      refine go_iload_n 2 dX1_takeCars_32 rfl rfl ?_
      refine go_iaload dX1_takeCars_33 (rt_6_3 h_a1) h.1 ?_
      replace h := h.2
      refine gb_iastore dX1_takeCars_34 (rt_1_1 h_this) h.1 (fun m2 e => ?_)
      replace h := h.2 m2 e
      refine go_aload_n 0 dX1_takeCars_35 rfl rfl ?_
      refine go_getR dX1_takeCars_36 fl_RX1_19 h_this (rr_1_2 h_this) ?_
      refine go_iload_n 2 dX1_takeCars_39 rfl rfl ?_
      refine go_aload_n 1 dX1_takeCars_40 rfl rfl ?_
      refine go_getR dX1_takeCars_41 fl_RX1_57 h_a1 (rr_6_4 h_a1) ?_
      refine go_iload_n 2 dX1_takeCars_44 rfl rfl ?_
      refine go_iaload dX1_takeCars_45 (rt_6_4 h_a1) h.1 ?_
      replace h := h.2
      refine gb_iastore dX1_takeCars_46 (rt_1_2 h_this) h.1 (fun m3 e => ?_)
      replace h := h.2 m3 e
      refine go_aload_n 0 dX1_takeCars_47 rfl rfl ?_
      refine go_getR dX1_takeCars_48 fl_RX1_22 h_this (rr_1_3 h_this) ?_
      refine go_iload_n 2 dX1_takeCars_51 rfl rfl ?_
      refine go_aload_n 1 dX1_takeCars_52 rfl rfl ?_
      refine go_getR dX1_takeCars_53 fl_RX1_60 h_a1 (rr_6_5 h_a1) ?_
      refine go_iload_n 2 dX1_takeCars_56 rfl rfl ?_
      refine go_iaload dX1_takeCars_57 (rt_6_5 h_a1) h.1 ?_
      replace h := h.2
      refine gb_iastore dX1_takeCars_58 (rt_1_3 h_this) h.1 (fun m4 e => ?_)
      replace h := h.2 m4 e
      refine gb_iinc (w := 1) 2 (fun v5 => [(2, .int v5), (0, .ref this), (1, .ref a1)]) dX1_takeCars_59 rfl (by decide) (by decide) (fun _ => rfl) (fun v5 e => ?_)
      replace h := h v5 e
      refine go_goto 15 dX1_takeCars_62 (by decide) ?_
      refine go_lv [1, 2, 0] rfl ?_
      exact ih _ _ h
def w_X1_takeCars (this : Nat) (a1 : Nat) (μ : gk_St) (Q : gk_St → Prop) : Prop := (∀ m1 : gk_St, m1 = gk_up μ this 0 (gk_mn (μ a1 6) 6) → (∃ n15 : Nat, w_X1_takeCars_l15 Q (fun m6 => Q m6) this a1 n15 0 m1))
set_option maxRecDepth 100000 in
set_option maxHeartbeats 4000000 in
theorem k_X1_takeCars {this : Nat} {a1 : Nat} {μ : gk_St} {Q : gk_St → Prop} (h_this : gk_isO this 1) (h_a1 : gk_isO a1 6) (h : w_X1_takeCars this a1 μ Q) : gk_CT yX1_takeCars cX1_takeCars 3 none 1 [.ref this, .ref a1] μ (gk_Qv Q) := by
  unfold w_X1_takeCars at h
  refine gk_enter (by decide) (Nat.le_of_ble_eq_true rfl) ?_
  show Go RX1 cX1_takeCars 3 none 1 0 [(0, .ref this), (1, .ref a1)] [] μ (gk_Qv Q)
  refine go_aload_n 0 dX1_takeCars_0 rfl rfl ?_
  refine go_aload_n 1 dX1_takeCars_1 rfl rfl ?_
  refine go_getI dX1_takeCars_2 fl_RX1_43 h_a1 (nf_6_6 h_a1) ?_
  refine go_bipush (v := 6) dX1_takeCars_5 (by decide) ?_
  refine gb_mmin dX1_takeCars_7 mw_RX1_48 mt_min mi_Math mc_min (Nat.le_of_ble_eq_true rfl) (by decide) ?_
  refine gb_putI dX1_takeCars_10 fp_RX1_9 h_this (nf_1_0 h_this) (fun m1 e => ?_)
  replace h := h m1 e
  refine go_iconst (v := 0) dX1_takeCars_13 (by decide) ?_
  refine go_istore_n [(2, .int 0), (0, .ref this), (1, .ref a1)] dX1_takeCars_14 rfl (by decide) rfl ?_
  refine go_lv [1, 2, 0] rfl ?_
  obtain ⟨n15, h⟩ := h
  refine k_X1_takeCars_l15 h_this h_a1 (fun m6 h => ?_) n15 _ _ h
  exact go_vret dX1_takeCars_65 ⟨rfl, h⟩
def w_J7_fill_53178_l5 (Q : gk_St → Prop) (K : gk_St → Prop) (a0 : Nat) : Nat → Int32 → Int32 → Int32 → gk_St → Prop
  | 0, _, _, _, _ => False
  | n + 1, x1, x2, x3, μ => (if x3 ≤ x2 then K  μ else (vp_in x2 (gk_ln a0) ∧ (∀ m2 : gk_St, m2 = gk_up μ a0 x2.toNatClampNeg x1 → (∀ v3 : Int32, v3 = x2 + 1 → w_J7_fill_53178_l5 Q K a0 n x1 v3 x3 m2))))
set_option maxRecDepth 100000 in
set_option maxHeartbeats 4000000 in
theorem k_J7_fill_53178_l5 {Q : gk_St → Prop} {K : gk_St → Prop} {a0 : Nat} (h_a0 : gk_isO a0 100) (hK : ∀ (em : gk_St), K  em → Go RJ7 cJ7_fill_53178 4 none 0 20 [] [] em (gk_Qv Q)) : ∀ (n : Nat) (x1 : Int32) (x2 : Int32) (x3 : Int32) (μ : gk_St), w_J7_fill_53178_l5 Q K a0 n x1 x2 x3 μ → Go RJ7 cJ7_fill_53178 4 none 0 5 [(0, .ref a0), (1, .int x1), (2, .int x2), (3, .int x3)] [] μ (gk_Qv Q) := by
  intro n
  induction n with
  | zero =>
    intro x1 x2 x3 μ h
    exact False.elim h
  | succ n ih =>
    intro x1 x2 x3 μ h
    unfold w_J7_fill_53178_l5 at h
    refine go_iload_n 2 dJ7_fill_53178_5 rfl rfl ?_
    refine go_iload_n 3 dJ7_fill_53178_6 rfl rfl ?_
    refine go_icmp_ge 20 dJ7_fill_53178_7 (by decide) (fun c => ?_) (fun c => ?_)
    · replace h := gk_ip h c
      refine go_lv [] rfl ?_
      exact hK  _ h
    · replace h := gk_in h c
      refine go_aload_n 0 dJ7_fill_53178_10 rfl rfl ?_
      refine go_iload_n 2 dJ7_fill_53178_11 rfl rfl ?_
      refine go_iload_n 1 dJ7_fill_53178_12 rfl rfl ?_
      refine gb_iastore dJ7_fill_53178_13 h_a0 h.1 (fun m2 e => ?_)
      replace h := h.2 m2 e
      refine gb_iinc (w := 1) 2 (fun v3 => [(2, .int v3), (0, .ref a0), (1, .int x1), (3, .int x3)]) dJ7_fill_53178_14 rfl (by decide) (by decide) (fun _ => rfl) (fun v3 e => ?_)
      replace h := h v3 e
      refine go_goto 5 dJ7_fill_53178_17 (by decide) ?_
      refine go_lv [1, 2, 0, 3] rfl ?_
      exact ih _ _ _ _ h
def w_J7_fill_53178 (a0 : Nat) (x1 : Int32) (μ : gk_St) (Q : gk_St → Prop) : Prop := (∀ v1 : Int32, v1 = (Int32.ofNat (gk_ln a0)) → (∃ n5 : Nat, w_J7_fill_53178_l5 Q (fun m4 => Q m4) a0 n5 x1 0 v1 μ))
set_option maxRecDepth 100000 in
set_option maxHeartbeats 4000000 in
theorem k_J7_fill_53178 {a0 : Nat} {x1 : Int32} {μ : gk_St} {Q : gk_St → Prop} (h_a0 : gk_isO a0 100) (h : w_J7_fill_53178 a0 x1 μ Q) : gk_CT yJ7_fill_53178 cJ7_fill_53178 4 none 0 [.ref a0, .int x1] μ (gk_Qv Q) := by
  unfold w_J7_fill_53178 at h
  refine gk_enter (by decide) (Nat.le_of_ble_eq_true rfl) ?_
  show Go RJ7 cJ7_fill_53178 4 none 0 0 [(0, .ref a0), (1, .int x1)] [] μ (gk_Qv Q)
  refine go_iconst (v := 0) dJ7_fill_53178_0 (by decide) ?_
  refine go_istore_n [(2, .int 0), (0, .ref a0), (1, .int x1)] dJ7_fill_53178_1 rfl (by decide) rfl ?_
  refine go_aload_n 1 dJ7_fill_53178_2 rfl rfl ?_
  refine go_alen dJ7_fill_53178_3 h_a0 ?_
  refine gb_istore_n (fun v1 => [(3, .int v1), (2, .int 0), (0, .ref a0), (1, .int x1)]) dJ7_fill_53178_4 rfl (by decide) (fun _ => rfl) (fun v1 e => ?_)
  replace h := h v1 e
  refine go_lv [2, 3, 1, 0] rfl ?_
  obtain ⟨n5, h⟩ := h
  refine k_J7_fill_53178_l5 h_a0 (fun m4 h => ?_) n5 _ _ _ _ h
  exact go_vret dJ7_fill_53178_20 ⟨rfl, h⟩
def w_X1_takeComings_l22 (Q : gk_St → Prop) (K : gk_St → Prop) (this : Nat) (a1 : Nat) : Nat → Int32 → gk_St → Prop
  | 0, _, _ => False
  | n + 1, x2, μ => (if (μ a1 6) ≤ x2 then K  μ else (vp_in x2 (gk_ln (gk_rf a1 4)) ∧ (vp_in (μ (gk_rf a1 4) x2.toNatClampNeg) (gk_rl (gk_rf this 5)) ∧ (vp_in x2 (gk_ln (gk_rf a1 3)) ∧ (vp_in (μ (gk_rf a1 3) x2.toNatClampNeg) (gk_ln (gk_rw (gk_rf this 5) (Int32.toNatClampNeg (μ (gk_rf a1 4) x2.toNatClampNeg)))) ∧ (vp_in x2 (gk_ln (gk_rf a1 5)) ∧ (vp_in (μ (gk_rf a1 3) x2.toNatClampNeg) (gk_ln (gk_rw (gk_rf this 5) (Int32.toNatClampNeg (μ (gk_rf a1 4) x2.toNatClampNeg)))) ∧ (∀ m6 : gk_St, m6 = gk_up μ (gk_rw (gk_rf this 5) (Int32.toNatClampNeg (μ (gk_rf a1 4) x2.toNatClampNeg))) (Int32.toNatClampNeg (μ (gk_rf a1 3) x2.toNatClampNeg)) ((μ (gk_rw (gk_rf this 5) (Int32.toNatClampNeg (μ (gk_rf a1 4) x2.toNatClampNeg))) (Int32.toNatClampNeg (μ (gk_rf a1 3) x2.toNatClampNeg))) + (μ (gk_rf a1 5) x2.toNatClampNeg)) → (∀ v7 : Int32, v7 = x2 + 1 → w_X1_takeComings_l22 Q K this a1 n v7 m6)))))))))
set_option maxRecDepth 100000 in
set_option maxHeartbeats 4000000 in
theorem k_X1_takeComings_l22 {Q : gk_St → Prop} {K : gk_St → Prop} {this a1 : Nat} (h_this : gk_isO this 1) (h_a1 : gk_isO a1 6) (hK : ∀ (em : gk_St), K  em → Go RX1 cX1_takeComings 3 none 1 63 [] [] em (gk_Qv Q)) : ∀ (n : Nat) (x2 : Int32) (μ : gk_St), w_X1_takeComings_l22 Q K this a1 n x2 μ → Go RX1 cX1_takeComings 3 none 1 22 [(0, .ref this), (1, .ref a1), (2, .int x2)] [] μ (gk_Qv Q) := by
  intro n
  induction n with
  | zero =>
    intro x2 μ h
    exact False.elim h
  | succ n ih =>
    intro x2 μ h
    unfold w_X1_takeComings_l22 at h
    refine go_iload_n 2 dX1_takeComings_22 rfl rfl ?_
    refine go_aload_n 1 dX1_takeComings_23 rfl rfl ?_
    refine go_getI dX1_takeComings_24 fl_RX1_43 h_a1 (nf_6_6 h_a1) ?_
    refine go_icmp_ge 63 dX1_takeComings_27 (by decide) (fun c => ?_) (fun c => ?_)
    · replace h := gk_ip h c
      refine go_lv [] rfl ?_
      exact hK  _ h
    · replace h := gk_in h c
      refine go_aload_n 0 dX1_takeComings_30 rfl rfl ?_
      refine go_getR dX1_takeComings_31 fl_RX1_30 h_this (rr_1_5 h_this) ?_
      refine go_aload_n 1 dX1_takeComings_34 rfl rfl ?_
      refine go_getR dX1_takeComings_35 fl_RX1_57 h_a1 (rr_6_4 h_a1) ?_
      refine go_iload_n 2 dX1_takeComings_38 rfl rfl ?_
      refine go_iaload dX1_takeComings_39 (rt_6_4 h_a1) h.1 ?_
      replace h := h.2
      have hb5 := h.1
      refine go_aaload dX1_takeComings_40 (rt_1_5 h_this) hb5 ?_
      replace h := h.2
      refine go_aload_n 1 dX1_takeComings_41 rfl rfl ?_
      refine go_getR dX1_takeComings_42 fl_RX1_54 h_a1 (rr_6_3 h_a1) ?_
      refine go_iload_n 2 dX1_takeComings_45 rfl rfl ?_
      refine go_iaload dX1_takeComings_46 (rt_6_3 h_a1) h.1 ?_
      replace h := h.2
      refine go_dup2 dX1_takeComings_47 rfl rfl ?_
      refine go_iaload dX1_takeComings_48 ((gk_rows (rt_1_5 h_this) (gk_inlt hb5)).1) h.1 ?_
      replace h := h.2
      refine go_aload_n 1 dX1_takeComings_49 rfl rfl ?_
      refine go_getR dX1_takeComings_50 fl_RX1_60 h_a1 (rr_6_5 h_a1) ?_
      refine go_iload_n 2 dX1_takeComings_53 rfl rfl ?_
      refine go_iaload dX1_takeComings_54 (rt_6_5 h_a1) h.1 ?_
      replace h := h.2
      refine go_iadd dX1_takeComings_55 ?_
      refine gb_iastore dX1_takeComings_56 ((gk_rows (rt_1_5 h_this) (gk_inlt hb5)).1) h.1 (fun m6 e => ?_)
      replace h := h.2 m6 e
      refine gb_iinc (w := 1) 2 (fun v7 => [(2, .int v7), (0, .ref this), (1, .ref a1)]) dX1_takeComings_57 rfl (by decide) (by decide) (fun _ => rfl) (fun v7 e => ?_)
      replace h := h v7 e
      refine go_goto 22 dX1_takeComings_60 (by decide) ?_
      refine go_lv [1, 2, 0] rfl ?_
      exact ih _ _ h
def w_X1_takeComings (this : Nat) (a1 : Nat) (μ : gk_St) (Q : gk_St → Prop) : Prop := (vp_in 0 (gk_rl (gk_rf this 5)) ∧ w_J7_fill_53178 (gk_rw (gk_rf this 5) (0 : Int32).toNatClampNeg) 0 μ (fun m2 => (vp_in 1 (gk_rl (gk_rf this 5)) ∧ w_J7_fill_53178 (gk_rw (gk_rf this 5) (1 : Int32).toNatClampNeg) 0 m2 (fun m4 => (∃ n22 : Nat, w_X1_takeComings_l22 Q (fun m8 => Q m8) this a1 n22 0 m4)))))
set_option maxRecDepth 100000 in
set_option maxHeartbeats 4000000 in
theorem k_X1_takeComings {this : Nat} {a1 : Nat} {μ : gk_St} {Q : gk_St → Prop} (h_this : gk_isO this 1) (h_a1 : gk_isO a1 6) (h : w_X1_takeComings this a1 μ Q) : gk_CT yX1_takeComings cX1_takeComings 3 none 1 [.ref this, .ref a1] μ (gk_Qv Q) := by
  unfold w_X1_takeComings at h
  refine gk_enter (by decide) (Nat.le_of_ble_eq_true rfl) ?_
  show Go RX1 cX1_takeComings 3 none 1 0 [(0, .ref this), (1, .ref a1)] [] μ (gk_Qv Q)
  refine go_aload_n 0 dX1_takeComings_0 rfl rfl ?_
  refine go_getR dX1_takeComings_1 fl_RX1_30 h_this (rr_1_5 h_this) ?_
  refine go_iconst (v := 0) dX1_takeComings_4 (by decide) ?_
  have hb1 := h.1
  refine go_aaload dX1_takeComings_5 (rt_1_5 h_this) hb1 ?_
  replace h := h.2
  refine go_iconst (v := 0) dX1_takeComings_6 (by decide) ?_
  refine go_callS (d' := 0) [.ref (gk_rw (gk_rf this 5) (0 : Int32).toNatClampNeg), .int 0] dX1_takeComings_7 cw_RX1_63 kt_J7_fill_53178 rfl (Nat.le_of_ble_eq_true rfl) (by decide) (k_J7_fill_53178 ((gk_rows (rt_1_5 h_this) (gk_inlt hb1)).1) h) (gk_kv (fun m2 h => ?_))
  refine go_aload_n 0 dX1_takeComings_10 rfl rfl ?_
  refine go_getR dX1_takeComings_11 fl_RX1_30 h_this (rr_1_5 h_this) ?_
  refine go_iconst (v := 1) dX1_takeComings_14 (by decide) ?_
  have hb3 := h.1
  refine go_aaload dX1_takeComings_15 (rt_1_5 h_this) hb3 ?_
  replace h := h.2
  refine go_iconst (v := 0) dX1_takeComings_16 (by decide) ?_
  refine go_callS (d' := 0) [.ref (gk_rw (gk_rf this 5) (1 : Int32).toNatClampNeg), .int 0] dX1_takeComings_17 cw_RX1_63 kt_J7_fill_53178 rfl (Nat.le_of_ble_eq_true rfl) (by decide) (k_J7_fill_53178 ((gk_rows (rt_1_5 h_this) (gk_inlt hb3)).1) h) (gk_kv (fun m4 h => ?_))
  refine go_iconst (v := 0) dX1_takeComings_20 (by decide) ?_
  refine go_istore_n [(2, .int 0), (0, .ref this), (1, .ref a1)] dX1_takeComings_21 rfl (by decide) rfl ?_
  refine go_lv [1, 2, 0] rfl ?_
  obtain ⟨n22, h⟩ := h
  refine k_X1_takeComings_l22 h_this h_a1 (fun m8 h => ?_) n22 _ _ h
  exact go_vret dX1_takeComings_63 ⟨rfl, h⟩
def w_X1_takeEvent_j23 (Q : gk_St → Prop) (this : Nat) (x1 : Int32) (x2 : Int32) (x3 : Int32) (μ : gk_St) : Prop := (if x1 = 2 then (vp_in x3 (gk_ln (gk_rf this 4)) ∧ (vp_in x3 (gk_ln (gk_rf this 4)) ∧ (∀ m1 : gk_St, m1 = gk_up μ (gk_rf this 4) x3.toNatClampNeg (gk_mn (μ (gk_rf this 4) x3.toNatClampNeg) x2) → Q m1))) else Q μ)
set_option maxRecDepth 100000 in
set_option maxHeartbeats 4000000 in
theorem k_X1_takeEvent_j23 {Q : gk_St → Prop} {this : Nat} {x1 : Int32} {x2 : Int32} {x3 : Int32} {μ : gk_St} (h_this : gk_isO this 1) (h : w_X1_takeEvent_j23 Q this x1 x2 x3 μ) : Go RX1 cX1_takeEvent 4 none 1 23 [(0, .ref this), (1, .int x1), (2, .int x2), (3, .int x3)] [] μ (gk_Qv Q) := by
  unfold w_X1_takeEvent_j23 at h
  refine go_iload_n 1 dX1_takeEvent_23 rfl rfl ?_
  refine go_iconst (v := 2) dX1_takeEvent_24 (by decide) ?_
  refine go_icmp_ne 44 dX1_takeEvent_25 (by decide) (fun c => ?_) (fun c => ?_)
  · replace h := gk_in h c
    exact go_vret dX1_takeEvent_44 ⟨rfl, h⟩
  · replace h := gk_ip h c
    refine go_aload_n 0 dX1_takeEvent_28 rfl rfl ?_
    refine go_getR dX1_takeEvent_29 fl_RX1_25 h_this (rr_1_4 h_this) ?_
    refine go_iload_n 3 dX1_takeEvent_32 rfl rfl ?_
    refine go_aload_n 0 dX1_takeEvent_33 rfl rfl ?_
    refine go_getR dX1_takeEvent_34 fl_RX1_25 h_this (rr_1_4 h_this) ?_
    refine go_iload_n 3 dX1_takeEvent_37 rfl rfl ?_
    refine go_iaload dX1_takeEvent_38 (rt_1_4 h_this) h.1 ?_
    replace h := h.2
    refine go_iload_n 2 dX1_takeEvent_39 rfl rfl ?_
    refine gb_mmin dX1_takeEvent_40 mw_RX1_48 mt_min mi_Math mc_min (Nat.le_of_ble_eq_true rfl) (by decide) ?_
    refine gb_iastore dX1_takeEvent_43 (rt_1_4 h_this) h.1 (fun m1 e => ?_)
    replace h := h.2 m1 e
    exact go_vret dX1_takeEvent_44 ⟨rfl, h⟩
def w_X1_takeEvent_j11 (Q : gk_St → Prop) (this : Nat) (x1 : Int32) (x2 : Int32) (x3 : Int32) (μ : gk_St) : Prop := (if x1 = 1 then (vp_in x2 (gk_ln (gk_rf this 8)) ∧ (∀ m2 : gk_St, m2 = gk_up μ (gk_rf this 8) x2.toNatClampNeg 1 → w_X1_takeEvent_j23 Q this x1 x2 x3 m2)) else w_X1_takeEvent_j23 Q this x1 x2 x3 μ)
set_option maxRecDepth 100000 in
set_option maxHeartbeats 4000000 in
theorem k_X1_takeEvent_j11 {Q : gk_St → Prop} {this : Nat} {x1 : Int32} {x2 : Int32} {x3 : Int32} {μ : gk_St} (h_this : gk_isO this 1) (h : w_X1_takeEvent_j11 Q this x1 x2 x3 μ) : Go RX1 cX1_takeEvent 4 none 1 11 [(0, .ref this), (1, .int x1), (2, .int x2), (3, .int x3)] [] μ (gk_Qv Q) := by
  unfold w_X1_takeEvent_j11 at h
  refine go_iload_n 1 dX1_takeEvent_11 rfl rfl ?_
  refine go_iconst (v := 1) dX1_takeEvent_12 (by decide) ?_
  refine go_icmp_ne 23 dX1_takeEvent_13 (by decide) (fun c => ?_) (fun c => ?_)
  · replace h := gk_in h c
    exact k_X1_takeEvent_j23 h_this h
  · replace h := gk_ip h c
    refine go_aload_n 0 dX1_takeEvent_16 rfl rfl ?_
    refine go_getR dX1_takeEvent_17 fl_RX1_40 h_this (rr_1_8 h_this) ?_
    refine go_iload_n 2 dX1_takeEvent_20 rfl rfl ?_
    refine go_iconst (v := 1) dX1_takeEvent_21 (by decide) ?_
    refine gb_bastore dX1_takeEvent_22 (rt_1_8 h_this) h.1 (Or.inr rfl) (fun m2 e => ?_)
    replace h := h.2 m2 e
    exact k_X1_takeEvent_j23 h_this h
def w_X1_takeEvent (this : Nat) (x1 : Int32) (x2 : Int32) (x3 : Int32) (μ : gk_St) (Q : gk_St → Prop) : Prop := (if x1 = 0 then (vp_in x2 (gk_ln (gk_rf this 7)) ∧ (∀ m3 : gk_St, m3 = gk_up μ (gk_rf this 7) x2.toNatClampNeg 1 → w_X1_takeEvent_j11 Q this x1 x2 x3 m3)) else w_X1_takeEvent_j11 Q this x1 x2 x3 μ)
set_option maxRecDepth 100000 in
set_option maxHeartbeats 4000000 in
theorem k_X1_takeEvent {this : Nat} {x1 : Int32} {x2 : Int32} {x3 : Int32} {μ : gk_St} {Q : gk_St → Prop} (h_this : gk_isO this 1) (h : w_X1_takeEvent this x1 x2 x3 μ Q) : gk_CT yX1_takeEvent cX1_takeEvent 4 none 1 [.ref this, .int x1, .int x2, .int x3] μ (gk_Qv Q) := by
  unfold w_X1_takeEvent at h
  refine gk_enter (by decide) (Nat.le_of_ble_eq_true rfl) ?_
  show Go RX1 cX1_takeEvent 4 none 1 0 [(0, .ref this), (1, .int x1), (2, .int x2), (3, .int x3)] [] μ (gk_Qv Q)
  refine go_iload_n 1 dX1_takeEvent_0 rfl rfl ?_
  refine go_if_ne 11 dX1_takeEvent_1 (by decide) (fun c => ?_) (fun c => ?_)
  · replace h := gk_in h c
    exact k_X1_takeEvent_j11 h_this h
  · replace h := gk_ip h c
    refine go_aload_n 0 dX1_takeEvent_4 rfl rfl ?_
    refine go_getR dX1_takeEvent_5 fl_RX1_36 h_this (rr_1_7 h_this) ?_
    refine go_iload_n 2 dX1_takeEvent_8 rfl rfl ?_
    refine go_iconst (v := 1) dX1_takeEvent_9 (by decide) ?_
    refine gb_bastore dX1_takeEvent_10 (rt_1_7 h_this) h.1 (Or.inr rfl) (fun m3 e => ?_)
    replace h := h.2 m3 e
    exact k_X1_takeEvent_j11 h_this h
def w_X1_takeEvents_l2 (Q : gk_St → Prop) (K : Int32 → gk_St → Prop) (this : Nat) (a1 : Nat) : Nat → Int32 → Int32 → gk_St → Prop
  | 0, _, _, _ => False
  | n + 1, x2, x3, μ => (if 24 ≤ x3 then K x2 μ else (vp_in x3 (gk_ln (gk_rf this 7)) ∧ (∀ m1 : gk_St, m1 = gk_up μ (gk_rf this 7) x3.toNatClampNeg 0 → (vp_in x3 (gk_ln (gk_rf this 8)) ∧ (∀ m2 : gk_St, m2 = gk_up m1 (gk_rf this 8) x3.toNatClampNeg 0 → (∀ v3 : Int32, v3 = x3 + 1 → w_X1_takeEvents_l2 Q K this a1 n x2 v3 m2))))))
set_option maxRecDepth 100000 in
set_option maxHeartbeats 4000000 in
theorem k_X1_takeEvents_l2 {Q : gk_St → Prop} {K : Int32 → gk_St → Prop} {this a1 : Nat} (h_this : gk_isO this 1) (h_a1 : gk_isO a1 0) (hK : ∀ (e2 : Int32) (em : gk_St), K e2 em → Go RX1 cX1_takeEvents 4 none 2 28 [(0, .ref this), (1, .ref a1), (2, .int e2)] [] em (gk_Qv Q)) : ∀ (n : Nat) (x2 : Int32) (x3 : Int32) (μ : gk_St), w_X1_takeEvents_l2 Q K this a1 n x2 x3 μ → Go RX1 cX1_takeEvents 4 none 2 2 [(0, .ref this), (1, .ref a1), (2, .int x2), (3, .int x3)] [] μ (gk_Qv Q) := by
  intro n
  induction n with
  | zero =>
    intro x2 x3 μ h
    exact False.elim h
  | succ n ih =>
    intro x2 x3 μ h
    unfold w_X1_takeEvents_l2 at h
    refine go_iload_n 3 dX1_takeEvents_2 rfl rfl ?_
    refine go_bipush (v := 24) dX1_takeEvents_3 (by decide) ?_
    refine go_icmp_ge 28 dX1_takeEvents_5 (by decide) (fun c => ?_) (fun c => ?_)
    · replace h := gk_ip h c
      refine go_lv [0, 1, 2] rfl ?_
      exact hK _ _ h
    · replace h := gk_in h c
      refine go_aload_n 0 dX1_takeEvents_8 rfl rfl ?_
      refine go_getR dX1_takeEvents_9 fl_RX1_36 h_this (rr_1_7 h_this) ?_
      refine go_iload_n 3 dX1_takeEvents_12 rfl rfl ?_
      refine go_iconst (v := 0) dX1_takeEvents_13 (by decide) ?_
      refine gb_bastore dX1_takeEvents_14 (rt_1_7 h_this) h.1 (Or.inl rfl) (fun m1 e => ?_)
      replace h := h.2 m1 e
      refine go_aload_n 0 dX1_takeEvents_15 rfl rfl ?_
      refine go_getR dX1_takeEvents_16 fl_RX1_40 h_this (rr_1_8 h_this) ?_
      refine go_iload_n 3 dX1_takeEvents_19 rfl rfl ?_
      refine go_iconst (v := 0) dX1_takeEvents_20 (by decide) ?_
      refine gb_bastore dX1_takeEvents_21 (rt_1_8 h_this) h.1 (Or.inl rfl) (fun m2 e => ?_)
      replace h := h.2 m2 e
      refine gb_iinc (w := 1) 3 (fun v3 => [(3, .int v3), (0, .ref this), (1, .ref a1), (2, .int x2)]) dX1_takeEvents_22 rfl (by decide) (by decide) (fun _ => rfl) (fun v3 e => ?_)
      replace h := h v3 e
      refine go_goto 2 dX1_takeEvents_25 (by decide) ?_
      refine go_lv [1, 2, 3, 0] rfl ?_
      exact ih _ _ _ h
def w_X1_takeEvents_l39 (Q : gk_St → Prop) (K : gk_St → Prop) (this : Nat) (a1 : Nat) : Nat → Int32 → Int32 → gk_St → Prop
  | 0, _, _, _ => False
  | n + 1, x2, x3, μ => (if (μ a1 3) ≤ x3 then K  μ else (if ((x2 >>> (x3 &&& 31)) &&& 1) = 1 then (vp_in x3 (gk_ln (gk_rf a1 0)) ∧ (vp_in x3 (gk_ln (gk_rf a1 1)) ∧ (vp_in x3 (gk_ln (gk_rf a1 2)) ∧ w_X1_takeEvent this (μ (gk_rf a1 0) x3.toNatClampNeg) (μ (gk_rf a1 1) x3.toNatClampNeg) (μ (gk_rf a1 2) x3.toNatClampNeg) μ (fun m8 => (∀ v9 : Int32, v9 = x3 + 1 → w_X1_takeEvents_l39 Q K this a1 n x2 v9 m8))))) else (∀ v7 : Int32, v7 = x3 + 1 → w_X1_takeEvents_l39 Q K this a1 n x2 v7 μ)))
set_option maxRecDepth 100000 in
set_option maxHeartbeats 4000000 in
theorem k_X1_takeEvents_l39 {Q : gk_St → Prop} {K : gk_St → Prop} {this a1 : Nat} (h_this : gk_isO this 1) (h_a1 : gk_isO a1 0) (hK : ∀ (em : gk_St), K  em → Go RX1 cX1_takeEvents 4 none 2 84 [] [] em (gk_Qv Q)) : ∀ (n : Nat) (x2 : Int32) (x3 : Int32) (μ : gk_St), w_X1_takeEvents_l39 Q K this a1 n x2 x3 μ → Go RX1 cX1_takeEvents 4 none 2 39 [(0, .ref this), (1, .ref a1), (2, .int x2), (3, .int x3)] [] μ (gk_Qv Q) := by
  intro n
  induction n with
  | zero =>
    intro x2 x3 μ h
    exact False.elim h
  | succ n ih =>
    intro x2 x3 μ h
    unfold w_X1_takeEvents_l39 at h
    refine go_iload_n 3 dX1_takeEvents_39 rfl rfl ?_
    refine go_aload_n 1 dX1_takeEvents_40 rfl rfl ?_
    refine go_getI dX1_takeEvents_41 fl_RX1_69 h_a1 (nf_0_3 h_a1) ?_
    refine go_icmp_ge 84 dX1_takeEvents_44 (by decide) (fun c => ?_) (fun c => ?_)
    · replace h := gk_ip h c
      refine go_lv [] rfl ?_
      exact hK  _ h
    · replace h := gk_in h c
      refine go_iload_n 2 dX1_takeEvents_47 rfl rfl ?_
      refine go_iload_n 3 dX1_takeEvents_48 rfl rfl ?_
      refine go_ishr dX1_takeEvents_49 ?_
      refine go_iconst (v := 1) dX1_takeEvents_50 (by decide) ?_
      refine go_iand dX1_takeEvents_51 ?_
      refine go_iconst (v := 1) dX1_takeEvents_52 (by decide) ?_
      refine go_icmp_ne 78 dX1_takeEvents_53 (by decide) (fun c => ?_) (fun c => ?_)
      · replace h := gk_in h c
        refine gb_iinc (w := 1) 3 (fun v7 => [(3, .int v7), (0, .ref this), (1, .ref a1), (2, .int x2)]) dX1_takeEvents_78 rfl (by decide) (by decide) (fun _ => rfl) (fun v7 e => ?_)
        replace h := h v7 e
        refine go_goto 39 dX1_takeEvents_81 (by decide) ?_
        refine go_lv [1, 2, 3, 0] rfl ?_
        exact ih _ _ _ h
      · replace h := gk_ip h c
        refine go_aload_n 0 dX1_takeEvents_56 rfl rfl ?_
        refine go_aload_n 1 dX1_takeEvents_57 rfl rfl ?_
        refine go_getR dX1_takeEvents_58 fl_RX1_72 h_a1 (rr_0_0 h_a1) ?_
        refine go_iload_n 3 dX1_takeEvents_61 rfl rfl ?_
        refine go_iaload dX1_takeEvents_62 (rt_0_0 h_a1) h.1 ?_
        replace h := h.2
        refine go_aload_n 1 dX1_takeEvents_63 rfl rfl ?_
        refine go_getR dX1_takeEvents_64 fl_RX1_75 h_a1 (rr_0_1 h_a1) ?_
        refine go_iload_n 3 dX1_takeEvents_67 rfl rfl ?_
        refine go_iaload dX1_takeEvents_68 (rt_0_1 h_a1) h.1 ?_
        replace h := h.2
        refine go_aload_n 1 dX1_takeEvents_69 rfl rfl ?_
        refine go_getR dX1_takeEvents_70 fl_RX1_78 h_a1 (rr_0_2 h_a1) ?_
        refine go_iload_n 3 dX1_takeEvents_73 rfl rfl ?_
        refine go_iaload dX1_takeEvents_74 (rt_0_2 h_a1) h.1 ?_
        replace h := h.2
        refine go_callV (ci := 1) (d' := 1) [.int (μ (gk_rf a1 0) x3.toNatClampNeg), .int (μ (gk_rf a1 1) x3.toNatClampNeg), .int (μ (gk_rf a1 2) x3.toNatClampNeg)] dX1_takeEvents_75 cw_RX1_81 ki_X1_takeEvent ks_X1_takeEvent rfl (by decide) h_this rfl (Nat.le_of_ble_eq_true rfl) (by decide) (k_X1_takeEvent h_this h) (gk_kv (fun m8 h => ?_))
        refine gb_iinc (w := 1) 3 (fun v9 => [(3, .int v9), (0, .ref this), (1, .ref a1), (2, .int x2)]) dX1_takeEvents_78 rfl (by decide) (by decide) (fun _ => rfl) (fun v9 e => ?_)
        replace h := h v9 e
        refine go_goto 39 dX1_takeEvents_81 (by decide) ?_
        refine go_lv [1, 2, 3, 0] rfl ?_
        exact ih _ _ _ h
def w_X1_takeEvents (this : Nat) (a1 : Nat) (x2 : Int32) (μ : gk_St) (Q : gk_St → Prop) : Prop := (∃ n2 : Nat, w_X1_takeEvents_l2 Q (fun y4 m5 => w_J7_fill_53178 (gk_rf this 4) 24 m5 (fun m6 => (∃ n39 : Nat, w_X1_takeEvents_l39 Q (fun m10 => Q m10) this a1 n39 y4 0 m6))) this a1 n2 x2 0 μ)
set_option maxRecDepth 100000 in
set_option maxHeartbeats 4000000 in
theorem k_X1_takeEvents {this : Nat} {a1 : Nat} {x2 : Int32} {μ : gk_St} {Q : gk_St → Prop} (h_this : gk_isO this 1) (h_a1 : gk_isO a1 0) (h : w_X1_takeEvents this a1 x2 μ Q) : gk_CT yX1_takeEvents cX1_takeEvents 4 none 2 [.ref this, .ref a1, .int x2] μ (gk_Qv Q) := by
  unfold w_X1_takeEvents at h
  refine gk_enter (by decide) (Nat.le_of_ble_eq_true rfl) ?_
  show Go RX1 cX1_takeEvents 4 none 2 0 [(0, .ref this), (1, .ref a1), (2, .int x2)] [] μ (gk_Qv Q)
  refine go_iconst (v := 0) dX1_takeEvents_0 (by decide) ?_
  refine go_istore_n [(3, .int 0), (0, .ref this), (1, .ref a1), (2, .int x2)] dX1_takeEvents_1 rfl (by decide) rfl ?_
  refine go_lv [1, 2, 3, 0] rfl ?_
  obtain ⟨n2, h⟩ := h
  refine k_X1_takeEvents_l2 h_this h_a1 (fun y4 m5 h => ?_) n2 _ _ _ h
  refine go_aload_n 0 dX1_takeEvents_28 rfl rfl ?_
  refine go_getR dX1_takeEvents_29 fl_RX1_25 h_this (rr_1_4 h_this) ?_
  refine go_bipush (v := 24) dX1_takeEvents_32 (by decide) ?_
  refine go_callS (d' := 0) [.ref (gk_rf this 4), .int 24] dX1_takeEvents_34 cw_RX1_63 kt_J7_fill_53178 rfl (Nat.le_of_ble_eq_true rfl) (by decide) (k_J7_fill_53178 (rt_1_4 h_this) h) (gk_kv (fun m6 h => ?_))
  refine go_iconst (v := 0) dX1_takeEvents_37 (by decide) ?_
  refine go_istore_n [(3, .int 0), (0, .ref this), (1, .ref a1), (2, .int y4)] dX1_takeEvents_38 rfl (by decide) rfl ?_
  refine go_lv [1, 2, 3, 0] rfl ?_
  obtain ⟨n39, h⟩ := h
  refine k_X1_takeEvents_l39 h_this h_a1 (fun m10 h => ?_) n39 _ _ _ h
  exact go_vret dX1_takeEvents_84 ⟨rfl, h⟩
def w_X1_places (this : Nat) (x1 : Int32) (μ : gk_St) (Q : Int32 → gk_St → Prop) : Prop := (vp_in x1 (gk_ln (gk_rf this 8)) ∧ (if (μ (gk_rf this 8) x1.toNatClampNeg) = 0 then (vp_in x1 (gk_ln (gk_rf this 6)) ∧ Q (μ (gk_rf this 6) x1.toNatClampNeg) μ) else Q 0 μ))
set_option maxRecDepth 100000 in
set_option maxHeartbeats 4000000 in
theorem k_X1_places {this : Nat} {x1 : Int32} {μ : gk_St} {Q : Int32 → gk_St → Prop} (h_this : gk_isO this 1) (h : w_X1_places this x1 μ Q) : gk_CT yX1_places cX1_places 2 (some .int) 0 [.ref this, .int x1] μ (gk_Qi Q) := by
  unfold w_X1_places at h
  refine gk_enter (by decide) (Nat.le_of_ble_eq_true rfl) ?_
  show Go RX1 cX1_places 2 (some .int) 0 0 [(0, .ref this), (1, .int x1)] [] μ (gk_Qi Q)
  refine go_aload_n 0 dX1_places_0 rfl rfl ?_
  refine go_getR dX1_places_1 fl_RX1_40 h_this (rr_1_8 h_this) ?_
  refine go_iload_n 1 dX1_places_4 rfl rfl ?_
  refine go_baload dX1_places_5 (rt_1_8 h_this) h.1 ?_
  replace h := h.2
  refine go_if_eq 13 dX1_places_6 (by decide) (fun c => ?_) (fun c => ?_)
  · replace h := gk_ip h c
    refine go_aload_n 0 dX1_places_13 rfl rfl ?_
    refine go_getR dX1_places_14 fl_RX1_33 h_this (rr_1_6 h_this) ?_
    refine go_iload_n 1 dX1_places_17 rfl rfl ?_
    refine go_iaload dX1_places_18 (rt_1_6 h_this) h.1 ?_
    replace h := h.2
    exact go_iret dX1_places_19 ⟨_, rfl, h⟩
  · replace h := gk_in h c
    refine go_iconst (v := 0) dX1_places_9 (by decide) ?_
    refine go_goto 19 dX1_places_10 (by decide) ?_
    exact go_iret dX1_places_19 ⟨_, rfl, h⟩
def w_X1_roomIn (this : Nat) (x1 : Int32) (μ : gk_St) (Q : Int32 → gk_St → Prop) : Prop := (vp_in x1 (gk_ln (gk_rf this 2)) ∧ (if (μ (gk_rf this 2) x1.toNatClampNeg) = 2 then (vp_in x1 (gk_ln (gk_rf this 3)) ∧ Q ((μ (gk_rf this 3) x1.toNatClampNeg) / 2) μ) else (vp_in x1 (gk_ln (gk_rf this 3)) ∧ Q (μ (gk_rf this 3) x1.toNatClampNeg) μ)))
set_option maxRecDepth 100000 in
set_option maxHeartbeats 4000000 in
theorem k_X1_roomIn {this : Nat} {x1 : Int32} {μ : gk_St} {Q : Int32 → gk_St → Prop} (h_this : gk_isO this 1) (h : w_X1_roomIn this x1 μ Q) : gk_CT yX1_roomIn cX1_roomIn 2 (some .int) 0 [.ref this, .int x1] μ (gk_Qi Q) := by
  unfold w_X1_roomIn at h
  refine gk_enter (by decide) (Nat.le_of_ble_eq_true rfl) ?_
  show Go RX1 cX1_roomIn 2 (some .int) 0 0 [(0, .ref this), (1, .int x1)] [] μ (gk_Qi Q)
  refine go_aload_n 0 dX1_roomIn_0 rfl rfl ?_
  refine go_getR dX1_roomIn_1 fl_RX1_19 h_this (rr_1_2 h_this) ?_
  refine go_iload_n 1 dX1_roomIn_4 rfl rfl ?_
  refine go_iaload dX1_roomIn_5 (rt_1_2 h_this) h.1 ?_
  replace h := h.2
  refine go_iconst (v := 2) dX1_roomIn_6 (by decide) ?_
  refine go_icmp_ne 21 dX1_roomIn_7 (by decide) (fun c => ?_) (fun c => ?_)
  · replace h := gk_in h c
    refine go_aload_n 0 dX1_roomIn_21 rfl rfl ?_
    refine go_getR dX1_roomIn_22 fl_RX1_22 h_this (rr_1_3 h_this) ?_
    refine go_iload_n 1 dX1_roomIn_25 rfl rfl ?_
    refine go_iaload dX1_roomIn_26 (rt_1_3 h_this) h.1 ?_
    replace h := h.2
    exact go_iret dX1_roomIn_27 ⟨_, rfl, h⟩
  · replace h := gk_ip h c
    refine go_aload_n 0 dX1_roomIn_10 rfl rfl ?_
    refine go_getR dX1_roomIn_11 fl_RX1_22 h_this (rr_1_3 h_this) ?_
    refine go_iload_n 1 dX1_roomIn_14 rfl rfl ?_
    refine go_iaload dX1_roomIn_15 (rt_1_3 h_this) h.1 ?_
    replace h := h.2
    refine go_iconst (v := 2) dX1_roomIn_16 (by decide) ?_
    refine go_idiv dX1_roomIn_17 (by decide) ?_
    refine go_goto 27 dX1_roomIn_18 (by decide) ?_
    exact go_iret dX1_roomIn_27 ⟨_, rfl, h⟩
def w_X1_isClosed (this : Nat) (x1 : Int32) (x2 : Int32) (μ : gk_St) (Q : Int32 → gk_St → Prop) : Prop := (vp_in x1 (gk_ln (gk_rf this 4)) ∧ (if (μ (gk_rf this 4) x1.toNatClampNeg) ≤ x2 then Q 1 μ else (vp_in x2 (gk_ln (gk_rf this 7)) ∧ (if (μ (gk_rf this 7) x2.toNatClampNeg) = 0 then Q 0 μ else (vp_in x1 (gk_ln (gk_rf this 2)) ∧ (if (μ (gk_rf this 2) x1.toNatClampNeg) = 0 then Q 1 μ else Q 0 μ))))))
set_option maxRecDepth 100000 in
set_option maxHeartbeats 4000000 in
theorem k_X1_isClosed {this : Nat} {x1 : Int32} {x2 : Int32} {μ : gk_St} {Q : Int32 → gk_St → Prop} (h_this : gk_isO this 1) (h : w_X1_isClosed this x1 x2 μ Q) : gk_CT yX1_isClosed cX1_isClosed 3 (some .boolean) 0 [.ref this, .int x1, .int x2] μ (gk_Qi Q) := by
  unfold w_X1_isClosed at h
  refine gk_enter (by decide) (Nat.le_of_ble_eq_true rfl) ?_
  show Go RX1 cX1_isClosed 3 (some .boolean) 0 0 [(0, .ref this), (1, .int x1), (2, .int x2)] [] μ (gk_Qi Q)
  refine go_iload_n 2 dX1_isClosed_0 rfl rfl ?_
  refine go_aload_n 0 dX1_isClosed_1 rfl rfl ?_
  refine go_getR dX1_isClosed_2 fl_RX1_25 h_this (rr_1_4 h_this) ?_
  refine go_iload_n 1 dX1_isClosed_5 rfl rfl ?_
  refine go_iaload dX1_isClosed_6 (rt_1_4 h_this) h.1 ?_
  replace h := h.2
  refine go_icmp_ge 28 dX1_isClosed_7 (by decide) (fun c => ?_) (fun c => ?_)
  · replace h := gk_ip h c
    refine go_iconst (v := 1) dX1_isClosed_28 (by decide) ?_
    refine go_goto 33 dX1_isClosed_29 (by decide) ?_
    exact go_zret dX1_isClosed_33 (Or.inr rfl) ⟨_, rfl, h⟩
  · replace h := gk_in h c
    refine go_aload_n 0 dX1_isClosed_10 rfl rfl ?_
    refine go_getR dX1_isClosed_11 fl_RX1_36 h_this (rr_1_7 h_this) ?_
    refine go_iload_n 2 dX1_isClosed_14 rfl rfl ?_
    refine go_baload dX1_isClosed_15 (rt_1_7 h_this) h.1 ?_
    replace h := h.2
    refine go_if_eq 32 dX1_isClosed_16 (by decide) (fun c => ?_) (fun c => ?_)
    · replace h := gk_ip h c
      refine go_iconst (v := 0) dX1_isClosed_32 (by decide) ?_
      exact go_zret dX1_isClosed_33 (Or.inl rfl) ⟨_, rfl, h⟩
    · replace h := gk_in h c
      refine go_aload_n 0 dX1_isClosed_19 rfl rfl ?_
      refine go_getR dX1_isClosed_20 fl_RX1_19 h_this (rr_1_2 h_this) ?_
      refine go_iload_n 1 dX1_isClosed_23 rfl rfl ?_
      refine go_iaload dX1_isClosed_24 (rt_1_2 h_this) h.1 ?_
      replace h := h.2
      refine go_if_ne 32 dX1_isClosed_25 (by decide) (fun c => ?_) (fun c => ?_)
      · replace h := gk_in h c
        refine go_iconst (v := 0) dX1_isClosed_32 (by decide) ?_
        exact go_zret dX1_isClosed_33 (Or.inl rfl) ⟨_, rfl, h⟩
      · replace h := gk_ip h c
        refine go_iconst (v := 1) dX1_isClosed_28 (by decide) ?_
        refine go_goto 33 dX1_isClosed_29 (by decide) ?_
        exact go_zret dX1_isClosed_33 (Or.inr rfl) ⟨_, rfl, h⟩
def w_X2_start_l10 (Q : gk_St → Prop) (K : gk_St → Prop) (this : Nat) (a1 : Nat) : Nat → Int32 → gk_St → Prop
  | 0, _, _ => False
  | n + 1, x2, μ => (if (μ this 9) ≤ x2 then K  μ else (vp_in x2 (gk_ln (gk_rf a1 1)) ∧ (vp_in x2 (gk_ln (gk_rf this 4)) ∧ (∀ m2 : gk_St, m2 = gk_up μ (gk_rf this 4) x2.toNatClampNeg (μ (gk_rf a1 1) x2.toNatClampNeg) → (vp_in x2 (gk_ln (gk_rf this 5)) ∧ (∀ m3 : gk_St, m3 = gk_up m2 (gk_rf this 5) x2.toNatClampNeg 0 → (vp_in x2 (gk_ln (gk_rf this 6)) ∧ (∀ m4 : gk_St, m4 = gk_up m3 (gk_rf this 6) x2.toNatClampNeg 0 → (∀ v5 : Int32, v5 = x2 + 1 → w_X2_start_l10 Q K this a1 n v5 m4)))))))))
set_option maxRecDepth 100000 in
set_option maxHeartbeats 4000000 in
theorem k_X2_start_l10 {Q : gk_St → Prop} {K : gk_St → Prop} {this a1 : Nat} (h_this : gk_isO this 2) (h_a1 : gk_isO a1 1) (hK : ∀ (em : gk_St), K  em → Go RX2 cX2_start 3 none 0 50 [(0, .ref this)] [] em (gk_Qv Q)) : ∀ (n : Nat) (x2 : Int32) (μ : gk_St), w_X2_start_l10 Q K this a1 n x2 μ → Go RX2 cX2_start 3 none 0 10 [(0, .ref this), (1, .ref a1), (2, .int x2)] [] μ (gk_Qv Q) := by
  intro n
  induction n with
  | zero =>
    intro x2 μ h
    exact False.elim h
  | succ n ih =>
    intro x2 μ h
    unfold w_X2_start_l10 at h
    refine go_iload_n 2 dX2_start_10 rfl rfl ?_
    refine go_aload_n 0 dX2_start_11 rfl rfl ?_
    refine go_getI dX2_start_12 fl_RX2_41 h_this (nf_2_9 h_this) ?_
    refine go_icmp_ge 50 dX2_start_15 (by decide) (fun c => ?_) (fun c => ?_)
    · replace h := gk_ip h c
      refine go_lv [0] rfl ?_
      exact hK  _ h
    · replace h := gk_in h c
      refine go_aload_n 0 dX2_start_18 rfl rfl ?_
      refine go_getR dX2_start_19 fl_RX2_26 h_this (rr_2_4 h_this) ?_
      refine go_iload_n 2 dX2_start_22 rfl rfl ?_
      refine go_aload_n 1 dX2_start_23 rfl rfl ?_
      refine go_getR dX2_start_24 fl_RX2_80 h_a1 (rr_1_1 h_a1) ?_
      refine go_iload_n 2 dX2_start_27 rfl rfl ?_
      refine go_iaload dX2_start_28 (rt_1_1 h_a1) h.1 ?_
      replace h := h.2
      refine gb_iastore dX2_start_29 (rt_2_4 h_this) h.1 (fun m2 e => ?_)
      replace h := h.2 m2 e
      refine go_aload_n 0 dX2_start_30 rfl rfl ?_
      refine go_getR dX2_start_31 fl_RX2_29 h_this (rr_2_5 h_this) ?_
      refine go_iload_n 2 dX2_start_34 rfl rfl ?_
      refine go_iconst (v := 0) dX2_start_35 (by decide) ?_
      refine gb_iastore dX2_start_36 (rt_2_5 h_this) h.1 (fun m3 e => ?_)
      replace h := h.2 m3 e
      refine go_aload_n 0 dX2_start_37 rfl rfl ?_
      refine go_getR dX2_start_38 fl_RX2_32 h_this (rr_2_6 h_this) ?_
      refine go_iload_n 2 dX2_start_41 rfl rfl ?_
      refine go_iconst (v := 0) dX2_start_42 (by decide) ?_
      refine gb_iastore dX2_start_43 (rt_2_6 h_this) h.1 (fun m4 e => ?_)
      replace h := h.2 m4 e
      refine gb_iinc (w := 1) 2 (fun v5 => [(2, .int v5), (0, .ref this), (1, .ref a1)]) dX2_start_44 rfl (by decide) (by decide) (fun _ => rfl) (fun v5 e => ?_)
      replace h := h v5 e
      refine go_goto 10 dX2_start_47 (by decide) ?_
      refine go_lv [1, 2, 0] rfl ?_
      exact ih _ _ h
def w_X2_start_l52 (Q : gk_St → Prop) (K : gk_St → Prop) (this : Nat) : Nat → Int32 → gk_St → Prop
  | 0, _, _ => False
  | n + 1, x2, μ => (if 2 ≤ x2 then K  μ else (vp_in x2 (gk_ln (gk_rf this 7)) ∧ (∀ m7 : gk_St, m7 = gk_up μ (gk_rf this 7) x2.toNatClampNeg 0 → (vp_in x2 (gk_ln (gk_rf this 8)) ∧ (∀ m8 : gk_St, m8 = gk_up m7 (gk_rf this 8) x2.toNatClampNeg 0 → (∀ v9 : Int32, v9 = x2 + 1 → w_X2_start_l52 Q K this n v9 m8))))))
set_option maxRecDepth 100000 in
set_option maxHeartbeats 4000000 in
theorem k_X2_start_l52 {Q : gk_St → Prop} {K : gk_St → Prop} {this : Nat} (h_this : gk_isO this 2) (hK : ∀ (em : gk_St), K  em → Go RX2 cX2_start 3 none 0 77 [(0, .ref this)] [] em (gk_Qv Q)) : ∀ (n : Nat) (x2 : Int32) (μ : gk_St), w_X2_start_l52 Q K this n x2 μ → Go RX2 cX2_start 3 none 0 52 [(0, .ref this), (2, .int x2)] [] μ (gk_Qv Q) := by
  intro n
  induction n with
  | zero =>
    intro x2 μ h
    exact False.elim h
  | succ n ih =>
    intro x2 μ h
    unfold w_X2_start_l52 at h
    refine go_iload_n 1 dX2_start_52 rfl rfl ?_
    refine go_iconst (v := 2) dX2_start_53 (by decide) ?_
    refine go_icmp_ge 77 dX2_start_54 (by decide) (fun c => ?_) (fun c => ?_)
    · replace h := gk_ip h c
      refine go_lv [0] rfl ?_
      exact hK  _ h
    · replace h := gk_in h c
      refine go_aload_n 0 dX2_start_57 rfl rfl ?_
      refine go_getR dX2_start_58 fl_RX2_35 h_this (rr_2_7 h_this) ?_
      refine go_iload_n 1 dX2_start_61 rfl rfl ?_
      refine go_iconst (v := 0) dX2_start_62 (by decide) ?_
      refine gb_iastore dX2_start_63 (rt_2_7 h_this) h.1 (fun m7 e => ?_)
      replace h := h.2 m7 e
      refine go_aload_n 0 dX2_start_64 rfl rfl ?_
      refine go_getR dX2_start_65 fl_RX2_38 h_this (rr_2_8 h_this) ?_
      refine go_iload_n 1 dX2_start_68 rfl rfl ?_
      refine go_iconst (v := 0) dX2_start_69 (by decide) ?_
      refine gb_iastore dX2_start_70 (rt_2_8 h_this) h.1 (fun m8 e => ?_)
      replace h := h.2 m8 e
      refine gb_iinc (w := 1) 1 (fun v9 => [(2, .int v9), (0, .ref this)]) dX2_start_71 rfl (by decide) (by decide) (fun _ => rfl) (fun v9 e => ?_)
      replace h := h v9 e
      refine go_goto 52 dX2_start_74 (by decide) ?_
      refine go_lv [1, 0] rfl ?_
      exact ih _ _ h
def w_X2_start (this : Nat) (a1 : Nat) (μ : gk_St) (Q : gk_St → Prop) : Prop := (∀ m1 : gk_St, m1 = gk_up μ this 9 (μ a1 0) → (∃ n10 : Nat, w_X2_start_l10 Q (fun m6 => (∃ n52 : Nat, w_X2_start_l52 Q (fun m10 => (∀ m11 : gk_St, m11 = gk_up m10 this 10 0 → (∀ m12 : gk_St, m12 = gk_up m11 this 11 (-1) → (∀ m13 : gk_St, m13 = gk_up m12 this 12 (-1) → Q m13)))) this n52 0 m6)) this a1 n10 0 m1))
set_option maxRecDepth 100000 in
set_option maxHeartbeats 4000000 in
theorem k_X2_start {this : Nat} {a1 : Nat} {μ : gk_St} {Q : gk_St → Prop} (h_this : gk_isO this 2) (h_a1 : gk_isO a1 1) (h : w_X2_start this a1 μ Q) : gk_CT yX2_start cX2_start 3 none 0 [.ref this, .ref a1] μ (gk_Qv Q) := by
  unfold w_X2_start at h
  refine gk_enter (by decide) (Nat.le_of_ble_eq_true rfl) ?_
  show Go RX2 cX2_start 3 none 0 0 [(0, .ref this), (1, .ref a1)] [] μ (gk_Qv Q)
  refine go_aload_n 0 dX2_start_0 rfl rfl ?_
  refine go_aload_n 1 dX2_start_1 rfl rfl ?_
  refine go_getI dX2_start_2 fl_RX2_79 h_a1 (nf_1_0 h_a1) ?_
  refine gb_putI dX2_start_5 fp_RX2_41 h_this (nf_2_9 h_this) (fun m1 e => ?_)
  replace h := h m1 e
  refine go_iconst (v := 0) dX2_start_8 (by decide) ?_
  refine go_istore_n [(2, .int 0), (0, .ref this), (1, .ref a1)] dX2_start_9 rfl (by decide) rfl ?_
  refine go_lv [1, 2, 0] rfl ?_
  obtain ⟨n10, h⟩ := h
  refine k_X2_start_l10 h_this h_a1 (fun m6 h => ?_) n10 _ _ h
  refine go_iconst (v := 0) dX2_start_50 (by decide) ?_
  refine go_istore_n [(2, .int 0), (0, .ref this)] dX2_start_51 rfl (by decide) rfl ?_
  refine go_lv [1, 0] rfl ?_
  obtain ⟨n52, h⟩ := h
  refine k_X2_start_l52 h_this (fun m10 h => ?_) n52 _ _ h
  refine go_aload_n 0 dX2_start_77 rfl rfl ?_
  refine go_iconst (v := 0) dX2_start_78 (by decide) ?_
  refine gb_putI dX2_start_79 fp_RX2_45 h_this (nf_2_10 h_this) (fun m11 e => ?_)
  replace h := h m11 e
  refine go_aload_n 0 dX2_start_82 rfl rfl ?_
  refine go_iconst (v := (-1)) dX2_start_83 (by decide) ?_
  refine gb_putI dX2_start_84 fp_RX2_48 h_this (nf_2_11 h_this) (fun m12 e => ?_)
  replace h := h m12 e
  refine go_aload_n 0 dX2_start_87 rfl rfl ?_
  refine go_iconst (v := (-1)) dX2_start_88 (by decide) ?_
  refine gb_putI dX2_start_89 fp_RX2_51 h_this (nf_2_12 h_this) (fun m13 e => ?_)
  replace h := h m13 e
  exact go_vret dX2_start_92 ⟨rfl, h⟩
def w_X2_stationAt (x0 : Int32) (μ : gk_St) (Q : Int32 → gk_St → Prop) : Prop := (if x0 = 0 then Q 0 μ else (if x0 = 12 then Q 1 μ else Q (-1) μ))
set_option maxRecDepth 100000 in
set_option maxHeartbeats 4000000 in
theorem k_X2_stationAt {x0 : Int32} {μ : gk_St} {Q : Int32 → gk_St → Prop} (h : w_X2_stationAt x0 μ Q) : gk_CT yX2_stationAt cX2_stationAt 1 (some .int) 0 [.int x0] μ (gk_Qi Q) := by
  unfold w_X2_stationAt at h
  refine gk_enter (by decide) (Nat.le_of_ble_eq_true rfl) ?_
  show Go RX2 cX2_stationAt 1 (some .int) 0 0 [(0, .int x0)] [] μ (gk_Qi Q)
  refine go_iload_n 0 dX2_stationAt_0 rfl rfl ?_
  refine go_if_ne 6 dX2_stationAt_1 (by decide) (fun c => ?_) (fun c => ?_)
  · replace h := gk_in h c
    refine go_iload_n 0 dX2_stationAt_6 rfl rfl ?_
    refine go_bipush (v := 12) dX2_stationAt_7 (by decide) ?_
    refine go_icmp_ne 16 dX2_stationAt_9 (by decide) (fun c => ?_) (fun c => ?_)
    · replace h := gk_in h c
      refine go_iconst (v := (-1)) dX2_stationAt_16 (by decide) ?_
      exact go_iret dX2_stationAt_17 ⟨_, rfl, h⟩
    · replace h := gk_ip h c
      refine go_iconst (v := 1) dX2_stationAt_12 (by decide) ?_
      refine go_goto 17 dX2_stationAt_13 (by decide) ?_
      exact go_iret dX2_stationAt_17 ⟨_, rfl, h⟩
  · replace h := gk_ip h c
    refine go_iconst (v := 0) dX2_stationAt_4 (by decide) ?_
    exact go_iret dX2_stationAt_5 ⟨_, rfl, h⟩
def w_X2_letOut_j27 (Q : gk_St → Prop) (this : Nat) (x1 : Int32) (x2 : Int32) (μ : gk_St) : Prop := (vp_in x2 (gk_ln (gk_rf this 8)) ∧ (vp_in x1 (gk_ln (gk_rf this 5)) ∧ (vp_in x2 (gk_ln (gk_rf this 8)) ∧ (∀ m1 : gk_St, m1 = gk_up μ (gk_rf this 8) x2.toNatClampNeg ((μ (gk_rf this 8) x2.toNatClampNeg) + (μ (gk_rf this 5) x1.toNatClampNeg)) → (vp_in x1 (gk_ln (gk_rf this 6)) ∧ (vp_in x1 (gk_ln (gk_rf this 5)) ∧ (vp_in x1 (gk_ln (gk_rf this 6)) ∧ (∀ m2 : gk_St, m2 = gk_up m1 (gk_rf this 6) x1.toNatClampNeg ((m1 (gk_rf this 6) x1.toNatClampNeg) + (m1 (gk_rf this 5) x1.toNatClampNeg)) → (vp_in x1 (gk_ln (gk_rf this 5)) ∧ (∀ m3 : gk_St, m3 = gk_up m2 (gk_rf this 5) x1.toNatClampNeg 0 → Q m3))))))))))
set_option maxRecDepth 100000 in
set_option maxHeartbeats 4000000 in
theorem k_X2_letOut_j27 {Q : gk_St → Prop} {this : Nat} {x1 : Int32} {x2 : Int32} {μ : gk_St} (h_this : gk_isO this 2) (h : w_X2_letOut_j27 Q this x1 x2 μ) : Go RX2 cX2_letOut 4 none 0 27 [(0, .ref this), (1, .int x1), (2, .int x2)] [] μ (gk_Qv Q) := by
  unfold w_X2_letOut_j27 at h
  refine go_aload_n 0 dX2_letOut_27 rfl rfl ?_
  refine go_getR dX2_letOut_28 fl_RX2_38 h_this (rr_2_8 h_this) ?_
  refine go_iload_n 2 dX2_letOut_31 rfl rfl ?_
  refine go_dup2 dX2_letOut_32 rfl rfl ?_
  refine go_iaload dX2_letOut_33 (rt_2_8 h_this) h.1 ?_
  replace h := h.2
  refine go_aload_n 0 dX2_letOut_34 rfl rfl ?_
  refine go_getR dX2_letOut_35 fl_RX2_29 h_this (rr_2_5 h_this) ?_
  refine go_iload_n 1 dX2_letOut_38 rfl rfl ?_
  refine go_iaload dX2_letOut_39 (rt_2_5 h_this) h.1 ?_
  replace h := h.2
  refine go_iadd dX2_letOut_40 ?_
  refine gb_iastore dX2_letOut_41 (rt_2_8 h_this) h.1 (fun m1 e => ?_)
  replace h := h.2 m1 e
  refine go_aload_n 0 dX2_letOut_42 rfl rfl ?_
  refine go_getR dX2_letOut_43 fl_RX2_32 h_this (rr_2_6 h_this) ?_
  refine go_iload_n 1 dX2_letOut_46 rfl rfl ?_
  refine go_dup2 dX2_letOut_47 rfl rfl ?_
  refine go_iaload dX2_letOut_48 (rt_2_6 h_this) h.1 ?_
  replace h := h.2
  refine go_aload_n 0 dX2_letOut_49 rfl rfl ?_
  refine go_getR dX2_letOut_50 fl_RX2_29 h_this (rr_2_5 h_this) ?_
  refine go_iload_n 1 dX2_letOut_53 rfl rfl ?_
  refine go_iaload dX2_letOut_54 (rt_2_5 h_this) h.1 ?_
  replace h := h.2
  refine go_iadd dX2_letOut_55 ?_
  refine gb_iastore dX2_letOut_56 (rt_2_6 h_this) h.1 (fun m2 e => ?_)
  replace h := h.2 m2 e
  refine go_aload_n 0 dX2_letOut_57 rfl rfl ?_
  refine go_getR dX2_letOut_58 fl_RX2_29 h_this (rr_2_5 h_this) ?_
  refine go_iload_n 1 dX2_letOut_61 rfl rfl ?_
  refine go_iconst (v := 0) dX2_letOut_62 (by decide) ?_
  refine gb_iastore dX2_letOut_63 (rt_2_5 h_this) h.1 (fun m3 e => ?_)
  replace h := h.2 m3 e
  exact go_vret dX2_letOut_64 ⟨rfl, h⟩
def w_X2_letOut (this : Nat) (x1 : Int32) (x2 : Int32) (x3 : Int32) (μ : gk_St) (Q : gk_St → Prop) : Prop := (vp_in x1 (gk_ln (gk_rf this 5)) ∧ (if (μ (gk_rf this 5) x1.toNatClampNeg) ≤ 0 then w_X2_letOut_j27 Q this x1 x2 μ else (if (μ this 11) = (-1) then (∀ m4 : gk_St, m4 = gk_up μ this 11 x3 → (∀ m5 : gk_St, m5 = gk_up m4 this 12 x1 → w_X2_letOut_j27 Q this x1 x2 m5)) else w_X2_letOut_j27 Q this x1 x2 μ)))
set_option maxRecDepth 100000 in
set_option maxHeartbeats 4000000 in
theorem k_X2_letOut {this : Nat} {x1 : Int32} {x2 : Int32} {x3 : Int32} {μ : gk_St} {Q : gk_St → Prop} (h_this : gk_isO this 2) (h : w_X2_letOut this x1 x2 x3 μ Q) : gk_CT yX2_letOut cX2_letOut 4 none 0 [.ref this, .int x1, .int x2, .int x3] μ (gk_Qv Q) := by
  unfold w_X2_letOut at h
  refine gk_enter (by decide) (Nat.le_of_ble_eq_true rfl) ?_
  show Go RX2 cX2_letOut 4 none 0 0 [(0, .ref this), (1, .int x1), (2, .int x2), (3, .int x3)] [] μ (gk_Qv Q)
  refine go_aload_n 0 dX2_letOut_0 rfl rfl ?_
  refine go_getR dX2_letOut_1 fl_RX2_29 h_this (rr_2_5 h_this) ?_
  refine go_iload_n 1 dX2_letOut_4 rfl rfl ?_
  refine go_iaload dX2_letOut_5 (rt_2_5 h_this) h.1 ?_
  replace h := h.2
  refine go_if_le 27 dX2_letOut_6 (by decide) (fun c => ?_) (fun c => ?_)
  · replace h := gk_ip h c
    refine go_lv [0, 1, 2] rfl ?_
    exact k_X2_letOut_j27 h_this h
  · replace h := gk_in h c
    refine go_aload_n 0 dX2_letOut_9 rfl rfl ?_
    refine go_getI dX2_letOut_10 fl_RX2_48 h_this (nf_2_11 h_this) ?_
    refine go_iconst (v := (-1)) dX2_letOut_13 (by decide) ?_
    refine go_icmp_ne 27 dX2_letOut_14 (by decide) (fun c => ?_) (fun c => ?_)
    · replace h := gk_in h c
      refine go_lv [0, 1, 2] rfl ?_
      exact k_X2_letOut_j27 h_this h
    · replace h := gk_ip h c
      refine go_aload_n 0 dX2_letOut_17 rfl rfl ?_
      refine go_iload_n 3 dX2_letOut_18 rfl rfl ?_
      refine gb_putI dX2_letOut_19 fp_RX2_48 h_this (nf_2_11 h_this) (fun m4 e => ?_)
      replace h := h m4 e
      refine go_aload_n 0 dX2_letOut_22 rfl rfl ?_
      refine go_iload_n 1 dX2_letOut_23 rfl rfl ?_
      refine gb_putI dX2_letOut_24 fp_RX2_51 h_this (nf_2_12 h_this) (fun m5 e => ?_)
      replace h := h m5 e
      refine go_lv [0, 1, 2] rfl ?_
      exact k_X2_letOut_j27 h_this h
def w_X2_letIn (this : Nat) (x1 : Int32) (x2 : Int32) (x3 : Int32) (μ : gk_St) (Q : gk_St → Prop) : Prop := (vp_in x2 (gk_ln (gk_rf this 7)) ∧ (∀ v1 : Int32, v1 = (gk_mn (μ (gk_rf this 7) x2.toNatClampNeg) x3) → (if v1 ≤ 0 then Q μ else (vp_in x2 (gk_ln (gk_rf this 7)) ∧ (vp_in x2 (gk_ln (gk_rf this 7)) ∧ (∀ m2 : gk_St, m2 = gk_up μ (gk_rf this 7) x2.toNatClampNeg ((μ (gk_rf this 7) x2.toNatClampNeg) - v1) → (vp_in x1 (gk_ln (gk_rf this 5)) ∧ (vp_in x1 (gk_ln (gk_rf this 5)) ∧ (∀ m3 : gk_St, m3 = gk_up m2 (gk_rf this 5) x1.toNatClampNeg ((m2 (gk_rf this 5) x1.toNatClampNeg) + v1) → (∀ m4 : gk_St, m4 = gk_up m3 this 10 ((m3 this 10) ||| ((1 : Int32) <<< (x1 &&& 31))) → Q m4))))))))))
set_option maxRecDepth 100000 in
set_option maxHeartbeats 4000000 in
theorem k_X2_letIn {this : Nat} {x1 : Int32} {x2 : Int32} {x3 : Int32} {μ : gk_St} {Q : gk_St → Prop} (h_this : gk_isO this 2) (h : w_X2_letIn this x1 x2 x3 μ Q) : gk_CT yX2_letIn cX2_letIn 5 none 1 [.ref this, .int x1, .int x2, .int x3] μ (gk_Qv Q) := by
  unfold w_X2_letIn at h
  refine gk_enter (by decide) (Nat.le_of_ble_eq_true rfl) ?_
  show Go RX2 cX2_letIn 5 none 1 0 [(0, .ref this), (1, .int x1), (2, .int x2), (3, .int x3)] [] μ (gk_Qv Q)
  refine go_aload_n 0 dX2_letIn_0 rfl rfl ?_
  refine go_getR dX2_letIn_1 fl_RX2_35 h_this (rr_2_7 h_this) ?_
  refine go_iload_n 2 dX2_letIn_4 rfl rfl ?_
  refine go_iaload dX2_letIn_5 (rt_2_7 h_this) h.1 ?_
  replace h := h.2
  refine go_iload_n 3 dX2_letIn_6 rfl rfl ?_
  refine gb_mmin dX2_letIn_7 mw_RX2_104 mt_min mi_Math mc_min (Nat.le_of_ble_eq_true rfl) (by decide) ?_
  refine gb_istore (fun v1 => [(4, .int v1), (0, .ref this), (1, .int x1), (2, .int x2), (3, .int x3)]) dX2_letIn_10 (by decide) (fun _ => rfl) (fun v1 e => ?_)
  replace h := h v1 e
  refine go_iload 0 dX2_letIn_12 rfl ?_
  refine go_if_le 51 dX2_letIn_14 (by decide) (fun c => ?_) (fun c => ?_)
  · replace h := gk_ip h c
    exact go_vret dX2_letIn_51 ⟨rfl, h⟩
  · replace h := gk_in h c
    refine go_aload_n 1 dX2_letIn_17 rfl rfl ?_
    refine go_getR dX2_letIn_18 fl_RX2_35 h_this (rr_2_7 h_this) ?_
    refine go_iload_n 3 dX2_letIn_21 rfl rfl ?_
    refine go_dup2 dX2_letIn_22 rfl rfl ?_
    refine go_iaload dX2_letIn_23 (rt_2_7 h_this) h.1 ?_
    replace h := h.2
    refine go_iload 0 dX2_letIn_24 rfl ?_
    refine go_isub dX2_letIn_26 ?_
    refine gb_iastore dX2_letIn_27 (rt_2_7 h_this) h.1 (fun m2 e => ?_)
    replace h := h.2 m2 e
    refine go_aload_n 1 dX2_letIn_28 rfl rfl ?_
    refine go_getR dX2_letIn_29 fl_RX2_29 h_this (rr_2_5 h_this) ?_
    refine go_iload_n 2 dX2_letIn_32 rfl rfl ?_
    refine go_dup2 dX2_letIn_33 rfl rfl ?_
    refine go_iaload dX2_letIn_34 (rt_2_5 h_this) h.1 ?_
    replace h := h.2
    refine go_iload 0 dX2_letIn_35 rfl ?_
    refine go_iadd dX2_letIn_37 ?_
    refine gb_iastore dX2_letIn_38 (rt_2_5 h_this) h.1 (fun m3 e => ?_)
    replace h := h.2 m3 e
    refine go_aload_n 1 dX2_letIn_39 rfl rfl ?_
    refine go_dup dX2_letIn_40 rfl ?_
    refine go_getI dX2_letIn_41 fl_RX2_45 h_this (nf_2_10 h_this) ?_
    refine go_iconst (v := 1) dX2_letIn_44 (by decide) ?_
    refine go_iload_n 2 dX2_letIn_45 rfl rfl ?_
    refine go_ishl dX2_letIn_46 ?_
    refine go_ior dX2_letIn_47 ?_
    refine gb_putI dX2_letIn_48 fp_RX2_45 h_this (nf_2_10 h_this) (fun m4 e => ?_)
    replace h := h m4 e
    exact go_vret dX2_letIn_51 ⟨rfl, h⟩
def w_X2_goOn_j45 (Q : Int32 → gk_St → Prop) (K : Int32 → gk_St → Prop) (C : Int32 → Int32 → Int32 → gk_St → Prop) (this : Nat) (a1 : Nat) (x2 : Int32) (x4 : Int32) (s0 : Int32) (s1 : Int32) (μ : gk_St) : Prop := (∀ v1 : Int32, v1 = (s1 + s0) → (vp_in x4 (gk_ln (gk_rf this 4)) ∧ (vp_in x4 (gk_ln (gk_rf this 4)) ∧ (∀ m2 : gk_St, m2 = gk_up μ (gk_rf this 4) x4.toNatClampNeg (gk_md ((μ (gk_rf this 4) x4.toNatClampNeg) + 1) 24) → (vp_in x4 (gk_ln (gk_rf this 4)) ∧ w_X2_stationAt (m2 (gk_rf this 4) x4.toNatClampNeg) m2 (fun r4 m3 => (if r4 = (-1) then (∀ v5 : Int32, v5 = x4 + 1 → C x2 v1 v5 m3) else w_X1_isClosed a1 x4 x2 m3 (fun r7 m6 => (if r7 = 0 then w_X2_letOut this x4 r4 x2 m6 (fun m9 => w_X1_roomIn a1 x4 m9 (fun r11 m10 => w_X2_letIn this x4 r4 r11 m10 (fun m12 => (∀ v13 : Int32, v13 = x4 + 1 → C x2 v1 v13 m12)))) else (∀ v8 : Int32, v8 = x4 + 1 → C x2 v1 v8 m6))))))))))
set_option maxRecDepth 100000 in
set_option maxHeartbeats 4000000 in
theorem k_X2_goOn_j45 {Q : Int32 → gk_St → Prop} {K : Int32 → gk_St → Prop} {C : Int32 → Int32 → Int32 → gk_St → Prop} {this a1 : Nat} {x2 : Int32} {x4 : Int32} {s0 : Int32} {s1 : Int32} {μ : gk_St} (h_this : gk_isO this 2) (h_a1 : gk_isO a1 1) (hK : ∀ (e3 : Int32) (em : gk_St), K e3 em → Go RX2 cX2_goOn 6 (some .int) 2 123 [(3, .int e3)] [] em (gk_Qi Q)) (hC : ∀ (c2 : Int32) (c3 : Int32) (c4 : Int32) (cm : gk_St), C c2 c3 c4 cm → Go RX2 cX2_goOn 6 (some .int) 2 5 [(0, .ref this), (1, .ref a1), (2, .int c2), (3, .int c3), (4, .int c4)] [] cm (gk_Qi Q)) (h : w_X2_goOn_j45 Q K C this a1 x2 x4 s0 s1 μ) : Go RX2 cX2_goOn 6 (some .int) 2 45 [(0, .ref this), (1, .ref a1), (2, .int x2), (4, .int x4)] [.int s0, .int s1] μ (gk_Qi Q) := by
  unfold w_X2_goOn_j45 at h
  refine go_iadd dX2_goOn_45 ?_
  refine gb_istore_n (fun v1 => [(3, .int v1), (0, .ref this), (1, .ref a1), (2, .int x2), (4, .int x4)]) dX2_goOn_46 rfl (by decide) (fun _ => rfl) (fun v1 e => ?_)
  replace h := h v1 e
  refine go_aload_n 1 dX2_goOn_47 rfl rfl ?_
  refine go_getR dX2_goOn_48 fl_RX2_26 h_this (rr_2_4 h_this) ?_
  refine go_iload 4 dX2_goOn_51 rfl ?_
  refine go_aload_n 1 dX2_goOn_53 rfl rfl ?_
  refine go_getR dX2_goOn_54 fl_RX2_26 h_this (rr_2_4 h_this) ?_
  refine go_iload 4 dX2_goOn_57 rfl ?_
  refine go_iaload dX2_goOn_59 (rt_2_4 h_this) h.1 ?_
  replace h := h.2
  refine go_iconst (v := 1) dX2_goOn_60 (by decide) ?_
  refine go_iadd dX2_goOn_61 ?_
  refine go_bipush (v := 24) dX2_goOn_62 (by decide) ?_
  refine gb_irem dX2_goOn_64 (by decide) ?_
  refine gb_iastore dX2_goOn_65 (rt_2_4 h_this) h.1 (fun m2 e => ?_)
  replace h := h.2 m2 e
  refine go_aload_n 1 dX2_goOn_66 rfl rfl ?_
  refine go_getR dX2_goOn_67 fl_RX2_26 h_this (rr_2_4 h_this) ?_
  refine go_iload 4 dX2_goOn_70 rfl ?_
  refine go_iaload dX2_goOn_72 (rt_2_4 h_this) h.1 ?_
  replace h := h.2
  refine go_callS (d' := 0) [.int (m2 (gk_rf this 4) x4.toNatClampNeg)] dX2_goOn_73 cw_RX2_81 kt_X2_stationAt rfl (Nat.le_of_ble_eq_true rfl) (by decide) (k_X2_stationAt h) (gk_ki (fun r4 m3 h => ?_))
  refine go_istore [(5, .int r4), (3, .int v1), (0, .ref this), (1, .ref a1), (2, .int x2), (4, .int x4)] dX2_goOn_76 (by decide) rfl ?_
  refine go_iload 0 dX2_goOn_78 rfl ?_
  refine go_iconst (v := (-1)) dX2_goOn_80 (by decide) ?_
  refine go_icmp_eq 117 dX2_goOn_81 (by decide) (fun c => ?_) (fun c => ?_)
  · replace h := gk_ip h c
    refine gb_iinc (w := 1) 5 (fun v5 => [(4, .int v5), (5, .int r4), (3, .int v1), (0, .ref this), (1, .ref a1), (2, .int x2)]) dX2_goOn_117 rfl (by decide) (by decide) (fun _ => rfl) (fun v5 e => ?_)
    replace h := h v5 e
    refine go_goto 5 dX2_goOn_120 (by decide) ?_
    refine go_lv [3, 4, 5, 2, 0] rfl ?_
    exact hC _ _ _ _ h
  · replace h := gk_in h c
    refine go_aload_n 3 dX2_goOn_84 rfl rfl ?_
    refine go_iload 5 dX2_goOn_85 rfl ?_
    refine go_iload_n 4 dX2_goOn_87 rfl rfl ?_
    refine go_callV (ci := 1) (d' := 0) [.int x4, .int x2] dX2_goOn_88 cw_RX2_84 ki_X1_isClosed ks_X1_isClosed rfl (by decide) h_a1 rfl (Nat.le_of_ble_eq_true rfl) (by decide) (k_X1_isClosed h_a1 h) (gk_ki (fun r7 m6 h => ?_))
    refine go_if_ne 117 dX2_goOn_91 (by decide) (fun c => ?_) (fun c => ?_)
    · replace h := gk_in h c
      refine gb_iinc (w := 1) 5 (fun v8 => [(4, .int v8), (5, .int r4), (3, .int v1), (0, .ref this), (1, .ref a1), (2, .int x2)]) dX2_goOn_117 rfl (by decide) (by decide) (fun _ => rfl) (fun v8 e => ?_)
      replace h := h v8 e
      refine go_goto 5 dX2_goOn_120 (by decide) ?_
      refine go_lv [3, 4, 5, 2, 0] rfl ?_
      exact hC _ _ _ _ h
    · replace h := gk_ip h c
      refine go_aload_n 2 dX2_goOn_94 rfl rfl ?_
      refine go_iload 5 dX2_goOn_95 rfl ?_
      refine go_iload 0 dX2_goOn_97 rfl ?_
      refine go_iload_n 4 dX2_goOn_99 rfl rfl ?_
      refine go_callV (ci := 2) (d' := 0) [.int x4, .int r4, .int x2] dX2_goOn_100 cw_RX2_88 ki_X2_letOut ks_X2_letOut rfl (by decide) h_this rfl (Nat.le_of_ble_eq_true rfl) (by decide) (k_X2_letOut h_this h) (gk_kv (fun m9 h => ?_))
      refine go_aload_n 2 dX2_goOn_103 rfl rfl ?_
      refine go_iload 5 dX2_goOn_104 rfl ?_
      refine go_iload 0 dX2_goOn_106 rfl ?_
      refine go_aload_n 3 dX2_goOn_108 rfl rfl ?_
      refine go_iload 5 dX2_goOn_109 rfl ?_
      refine go_callV (ci := 1) (d' := 0) [.int x4] dX2_goOn_111 cw_RX2_92 ki_X1_roomIn ks_X1_roomIn rfl (by decide) h_a1 rfl (Nat.le_of_ble_eq_true rfl) (by decide) (k_X1_roomIn h_a1 h) (gk_ki (fun r11 m10 h => ?_))
      refine go_callV (ci := 2) (d' := 1) [.int x4, .int r4, .int r11] dX2_goOn_114 cw_RX2_95 ki_X2_letIn ks_X2_letIn rfl (by decide) h_this rfl (Nat.le_of_ble_eq_true rfl) (by decide) (k_X2_letIn h_this h) (gk_kv (fun m12 h => ?_))
      refine gb_iinc (w := 1) 5 (fun v13 => [(4, .int v13), (5, .int r4), (3, .int v1), (0, .ref this), (1, .ref a1), (2, .int x2)]) dX2_goOn_117 rfl (by decide) (by decide) (fun _ => rfl) (fun v13 e => ?_)
      replace h := h v13 e
      refine go_goto 5 dX2_goOn_120 (by decide) ?_
      refine go_lv [3, 4, 5, 2, 0] rfl ?_
      exact hC _ _ _ _ h
def w_X2_goOn_l5 (Q : Int32 → gk_St → Prop) (K : Int32 → gk_St → Prop) (this : Nat) (a1 : Nat) : Nat → Int32 → Int32 → Int32 → gk_St → Prop
  | 0, _, _, _, _ => False
  | n + 1, x2, x3, x4, μ => (if (μ this 9) ≤ x4 then K x3 μ else (vp_in x4 (gk_ln (gk_rf this 4)) ∧ (if 12 ≤ (μ (gk_rf this 4) x4.toNatClampNeg) then (vp_in x4 (gk_ln (gk_rf this 5)) ∧ w_X2_goOn_j45 Q K (fun c_x2 c_x3 c_x4 cm => w_X2_goOn_l5 Q K this a1 n c_x2 c_x3 c_x4 cm) this a1 x2 x4 (-(μ (gk_rf this 5) x4.toNatClampNeg)) x3 μ) else (vp_in x4 (gk_ln (gk_rf this 5)) ∧ w_X2_goOn_j45 Q K (fun c_x2 c_x3 c_x4 cm => w_X2_goOn_l5 Q K this a1 n c_x2 c_x3 c_x4 cm) this a1 x2 x4 (μ (gk_rf this 5) x4.toNatClampNeg) x3 μ))))
set_option maxRecDepth 100000 in
set_option maxHeartbeats 4000000 in
theorem k_X2_goOn_l5 {Q : Int32 → gk_St → Prop} {K : Int32 → gk_St → Prop} {this a1 : Nat} (h_this : gk_isO this 2) (h_a1 : gk_isO a1 1) (hK : ∀ (e3 : Int32) (em : gk_St), K e3 em → Go RX2 cX2_goOn 6 (some .int) 2 123 [(3, .int e3)] [] em (gk_Qi Q)) : ∀ (n : Nat) (x2 : Int32) (x3 : Int32) (x4 : Int32) (μ : gk_St), w_X2_goOn_l5 Q K this a1 n x2 x3 x4 μ → Go RX2 cX2_goOn 6 (some .int) 2 5 [(0, .ref this), (1, .ref a1), (2, .int x2), (3, .int x3), (4, .int x4)] [] μ (gk_Qi Q) := by
  intro n
  induction n with
  | zero =>
    intro x2 x3 x4 μ h
    exact False.elim h
  | succ n ih =>
    intro x2 x3 x4 μ h
    unfold w_X2_goOn_l5 at h
    refine go_iload 4 dX2_goOn_5 rfl ?_
    refine go_aload_n 0 dX2_goOn_7 rfl rfl ?_
    refine go_getI dX2_goOn_8 fl_RX2_41 h_this (nf_2_9 h_this) ?_
    refine go_icmp_ge 123 dX2_goOn_11 (by decide) (fun c => ?_) (fun c => ?_)
    · replace h := gk_ip h c
      refine go_lv [3] rfl ?_
      exact hK _ _ h
    · replace h := gk_in h c
      refine go_iload_n 3 dX2_goOn_14 rfl rfl ?_
      refine go_aload_n 0 dX2_goOn_15 rfl rfl ?_
      refine go_getR dX2_goOn_16 fl_RX2_26 h_this (rr_2_4 h_this) ?_
      refine go_iload 4 dX2_goOn_19 rfl ?_
      refine go_iaload dX2_goOn_21 (rt_2_4 h_this) h.1 ?_
      replace h := h.2
      refine go_bipush (v := 12) dX2_goOn_22 (by decide) ?_
      refine go_icmp_ge 37 dX2_goOn_24 (by decide) (fun c => ?_) (fun c => ?_)
      · replace h := gk_ip h c
        refine go_aload_n 0 dX2_goOn_37 rfl rfl ?_
        refine go_getR dX2_goOn_38 fl_RX2_29 h_this (rr_2_5 h_this) ?_
        refine go_iload 4 dX2_goOn_41 rfl ?_
        refine go_iaload dX2_goOn_43 (rt_2_5 h_this) h.1 ?_
        replace h := h.2
        refine go_ineg dX2_goOn_44 ?_
        refine go_lv [0, 1, 2, 4] rfl ?_
        exact k_X2_goOn_j45 h_this h_a1 hK (fun _ _ _ _ h => ih _ _ _ _ h) h
      · replace h := gk_in h c
        refine go_aload_n 0 dX2_goOn_27 rfl rfl ?_
        refine go_getR dX2_goOn_28 fl_RX2_29 h_this (rr_2_5 h_this) ?_
        refine go_iload 4 dX2_goOn_31 rfl ?_
        refine go_iaload dX2_goOn_33 (rt_2_5 h_this) h.1 ?_
        replace h := h.2
        refine go_goto 45 dX2_goOn_34 (by decide) ?_
        refine go_lv [0, 1, 2, 4] rfl ?_
        exact k_X2_goOn_j45 h_this h_a1 hK (fun _ _ _ _ h => ih _ _ _ _ h) h
def w_X2_goOn (this : Nat) (a1 : Nat) (x2 : Int32) (μ : gk_St) (Q : Int32 → gk_St → Prop) : Prop := (∃ n5 : Nat, w_X2_goOn_l5 Q (fun y14 m15 => Q (gk_mx 0 y14) m15) this a1 n5 x2 0 0 μ)
set_option maxRecDepth 100000 in
set_option maxHeartbeats 4000000 in
theorem k_X2_goOn {this : Nat} {a1 : Nat} {x2 : Int32} {μ : gk_St} {Q : Int32 → gk_St → Prop} (h_this : gk_isO this 2) (h_a1 : gk_isO a1 1) (h : w_X2_goOn this a1 x2 μ Q) : gk_CT yX2_goOn cX2_goOn 6 (some .int) 2 [.ref this, .ref a1, .int x2] μ (gk_Qi Q) := by
  unfold w_X2_goOn at h
  refine gk_enter (by decide) (Nat.le_of_ble_eq_true rfl) ?_
  show Go RX2 cX2_goOn 6 (some .int) 2 0 [(0, .ref this), (1, .ref a1), (2, .int x2)] [] μ (gk_Qi Q)
  refine go_iconst (v := 0) dX2_goOn_0 (by decide) ?_
  refine go_istore_n [(3, .int 0), (0, .ref this), (1, .ref a1), (2, .int x2)] dX2_goOn_1 rfl (by decide) rfl ?_
  refine go_iconst (v := 0) dX2_goOn_2 (by decide) ?_
  refine go_istore [(4, .int 0), (3, .int 0), (0, .ref this), (1, .ref a1), (2, .int x2)] dX2_goOn_3 (by decide) rfl ?_
  refine go_lv [2, 3, 4, 1, 0] rfl ?_
  obtain ⟨n5, h⟩ := h
  refine k_X2_goOn_l5 h_this h_a1 (fun y14 m15 h => ?_) n5 _ _ _ _ h
  refine go_iconst (v := 0) dX2_goOn_123 (by decide) ?_
  refine go_iload_n 0 dX2_goOn_124 rfl rfl ?_
  refine gb_mmax dX2_goOn_125 mw_RX2_98 mt_max mi_Math mc_max (Nat.le_of_ble_eq_true rfl) (by decide) ?_
  exact go_iret dX2_goOn_128 ⟨_, rfl, h⟩
def w_X2_stand_l2 (Q : gk_St → Prop) (K : gk_St → Prop) (this : Nat) (a1 : Nat) : Nat → Int32 → Int32 → gk_St → Prop
  | 0, _, _, _ => False
  | n + 1, x2, x3, μ => (if (μ this 9) ≤ x3 then K  μ else (vp_in x3 (gk_ln (gk_rf this 4)) ∧ w_X2_stationAt (μ (gk_rf this 4) x3.toNatClampNeg) μ (fun r2 m1 => (if r2 = (-1) then (∀ v3 : Int32, v3 = x3 + 1 → w_X2_stand_l2 Q K this a1 n x2 v3 m1) else w_X1_isClosed a1 x3 x2 m1 (fun r5 m4 => (if r5 = 0 then w_X1_roomIn a1 x3 m4 (fun r8 m7 => (vp_in x3 (gk_ln (gk_rf this 5)) ∧ w_X2_letIn this x3 r2 (r8 - (m7 (gk_rf this 5) x3.toNatClampNeg)) m7 (fun m9 => (∀ v10 : Int32, v10 = x3 + 1 → w_X2_stand_l2 Q K this a1 n x2 v10 m9)))) else (∀ v6 : Int32, v6 = x3 + 1 → w_X2_stand_l2 Q K this a1 n x2 v6 m4)))))))
set_option maxRecDepth 100000 in
set_option maxHeartbeats 4000000 in
theorem k_X2_stand_l2 {Q : gk_St → Prop} {K : gk_St → Prop} {this a1 : Nat} (h_this : gk_isO this 2) (h_a1 : gk_isO a1 1) (hK : ∀ (em : gk_St), K  em → Go RX2 cX2_stand 5 none 2 61 [] [] em (gk_Qv Q)) : ∀ (n : Nat) (x2 : Int32) (x3 : Int32) (μ : gk_St), w_X2_stand_l2 Q K this a1 n x2 x3 μ → Go RX2 cX2_stand 5 none 2 2 [(0, .ref this), (1, .ref a1), (2, .int x2), (3, .int x3)] [] μ (gk_Qv Q) := by
  intro n
  induction n with
  | zero =>
    intro x2 x3 μ h
    exact False.elim h
  | succ n ih =>
    intro x2 x3 μ h
    unfold w_X2_stand_l2 at h
    refine go_iload_n 3 dX2_stand_2 rfl rfl ?_
    refine go_aload_n 0 dX2_stand_3 rfl rfl ?_
    refine go_getI dX2_stand_4 fl_RX2_41 h_this (nf_2_9 h_this) ?_
    refine go_icmp_ge 61 dX2_stand_7 (by decide) (fun c => ?_) (fun c => ?_)
    · replace h := gk_ip h c
      refine go_lv [] rfl ?_
      exact hK  _ h
    · replace h := gk_in h c
      refine go_aload_n 0 dX2_stand_10 rfl rfl ?_
      refine go_getR dX2_stand_11 fl_RX2_26 h_this (rr_2_4 h_this) ?_
      refine go_iload_n 3 dX2_stand_14 rfl rfl ?_
      refine go_iaload dX2_stand_15 (rt_2_4 h_this) h.1 ?_
      replace h := h.2
      refine go_callS (d' := 0) [.int (μ (gk_rf this 4) x3.toNatClampNeg)] dX2_stand_16 cw_RX2_81 kt_X2_stationAt rfl (Nat.le_of_ble_eq_true rfl) (by decide) (k_X2_stationAt h) (gk_ki (fun r2 m1 h => ?_))
      refine go_istore [(4, .int r2), (0, .ref this), (1, .ref a1), (2, .int x2), (3, .int x3)] dX2_stand_19 (by decide) rfl ?_
      refine go_iload 0 dX2_stand_21 rfl ?_
      refine go_iconst (v := (-1)) dX2_stand_23 (by decide) ?_
      refine go_icmp_eq 55 dX2_stand_24 (by decide) (fun c => ?_) (fun c => ?_)
      · replace h := gk_ip h c
        refine gb_iinc (w := 1) 4 (fun v3 => [(3, .int v3), (4, .int r2), (0, .ref this), (1, .ref a1), (2, .int x2)]) dX2_stand_55 rfl (by decide) (by decide) (fun _ => rfl) (fun v3 e => ?_)
        replace h := h v3 e
        refine go_goto 2 dX2_stand_58 (by decide) ?_
        refine go_lv [2, 3, 4, 0] rfl ?_
        exact ih _ _ _ h
      · replace h := gk_in h c
        refine go_aload_n 2 dX2_stand_27 rfl rfl ?_
        refine go_iload_n 4 dX2_stand_28 rfl rfl ?_
        refine go_iload_n 3 dX2_stand_29 rfl rfl ?_
        refine go_callV (ci := 1) (d' := 0) [.int x3, .int x2] dX2_stand_30 cw_RX2_84 ki_X1_isClosed ks_X1_isClosed rfl (by decide) h_a1 rfl (Nat.le_of_ble_eq_true rfl) (by decide) (k_X1_isClosed h_a1 h) (gk_ki (fun r5 m4 h => ?_))
        refine go_if_ne 55 dX2_stand_33 (by decide) (fun c => ?_) (fun c => ?_)
        · replace h := gk_in h c
          refine gb_iinc (w := 1) 4 (fun v6 => [(3, .int v6), (4, .int r2), (0, .ref this), (1, .ref a1), (2, .int x2)]) dX2_stand_55 rfl (by decide) (by decide) (fun _ => rfl) (fun v6 e => ?_)
          replace h := h v6 e
          refine go_goto 2 dX2_stand_58 (by decide) ?_
          refine go_lv [2, 3, 4, 0] rfl ?_
          exact ih _ _ _ h
        · replace h := gk_ip h c
          refine go_aload_n 1 dX2_stand_36 rfl rfl ?_
          refine go_iload_n 4 dX2_stand_37 rfl rfl ?_
          refine go_iload 0 dX2_stand_38 rfl ?_
          refine go_aload_n 2 dX2_stand_40 rfl rfl ?_
          refine go_iload_n 4 dX2_stand_41 rfl rfl ?_
          refine go_callV (ci := 1) (d' := 0) [.int x3] dX2_stand_42 cw_RX2_92 ki_X1_roomIn ks_X1_roomIn rfl (by decide) h_a1 rfl (Nat.le_of_ble_eq_true rfl) (by decide) (k_X1_roomIn h_a1 h) (gk_ki (fun r8 m7 h => ?_))
          refine go_aload_n 1 dX2_stand_45 rfl rfl ?_
          refine go_getR dX2_stand_46 fl_RX2_29 h_this (rr_2_5 h_this) ?_
          refine go_iload_n 4 dX2_stand_49 rfl rfl ?_
          refine go_iaload dX2_stand_50 (rt_2_5 h_this) h.1 ?_
          replace h := h.2
          refine go_isub dX2_stand_51 ?_
          refine go_callV (ci := 2) (d' := 1) [.int x3, .int r2, .int (r8 - (m7 (gk_rf this 5) x3.toNatClampNeg))] dX2_stand_52 cw_RX2_95 ki_X2_letIn ks_X2_letIn rfl (by decide) h_this rfl (Nat.le_of_ble_eq_true rfl) (by decide) (k_X2_letIn h_this h) (gk_kv (fun m9 h => ?_))
          refine gb_iinc (w := 1) 4 (fun v10 => [(3, .int v10), (4, .int r2), (0, .ref this), (1, .ref a1), (2, .int x2)]) dX2_stand_55 rfl (by decide) (by decide) (fun _ => rfl) (fun v10 e => ?_)
          replace h := h v10 e
          refine go_goto 2 dX2_stand_58 (by decide) ?_
          refine go_lv [2, 3, 4, 0] rfl ?_
          exact ih _ _ _ h
def w_X2_stand (this : Nat) (a1 : Nat) (x2 : Int32) (μ : gk_St) (Q : gk_St → Prop) : Prop := (∃ n2 : Nat, w_X2_stand_l2 Q (fun m11 => Q m11) this a1 n2 x2 0 μ)
set_option maxRecDepth 100000 in
set_option maxHeartbeats 4000000 in
theorem k_X2_stand {this : Nat} {a1 : Nat} {x2 : Int32} {μ : gk_St} {Q : gk_St → Prop} (h_this : gk_isO this 2) (h_a1 : gk_isO a1 1) (h : w_X2_stand this a1 x2 μ Q) : gk_CT yX2_stand cX2_stand 5 none 2 [.ref this, .ref a1, .int x2] μ (gk_Qv Q) := by
  unfold w_X2_stand at h
  refine gk_enter (by decide) (Nat.le_of_ble_eq_true rfl) ?_
  show Go RX2 cX2_stand 5 none 2 0 [(0, .ref this), (1, .ref a1), (2, .int x2)] [] μ (gk_Qv Q)
  refine go_iconst (v := 0) dX2_stand_0 (by decide) ?_
  refine go_istore_n [(3, .int 0), (0, .ref this), (1, .ref a1), (2, .int x2)] dX2_stand_1 rfl (by decide) rfl ?_
  refine go_lv [1, 2, 3, 0] rfl ?_
  obtain ⟨n2, h⟩ := h
  refine k_X2_stand_l2 h_this h_a1 (fun m11 h => ?_) n2 _ _ _ h
  exact go_vret dX2_stand_61 ⟨rfl, h⟩
def w_X2_note_l2 (Q : gk_St → Prop) (K : Int32 → gk_St → Prop) (this : Nat) : Nat → Int32 → Int32 → gk_St → Prop
  | 0, _, _, _ => False
  | n + 1, x1, x2, μ => (if (μ this 9) ≤ x2 then K x1 μ else (vp_in x2 (gk_rl (gk_rf this 0)) ∧ (vp_in x2 (gk_ln (gk_rf this 4)) ∧ (vp_in x1 (gk_ln (gk_rw (gk_rf this 0) x2.toNatClampNeg)) ∧ (∀ m2 : gk_St, m2 = gk_up μ (gk_rw (gk_rf this 0) x2.toNatClampNeg) x1.toNatClampNeg (μ (gk_rf this 4) x2.toNatClampNeg) → (vp_in x2 (gk_rl (gk_rf this 1)) ∧ (vp_in x2 (gk_ln (gk_rf this 5)) ∧ (vp_in x1 (gk_ln (gk_rw (gk_rf this 1) x2.toNatClampNeg)) ∧ (∀ m4 : gk_St, m4 = gk_up m2 (gk_rw (gk_rf this 1) x2.toNatClampNeg) x1.toNatClampNeg (m2 (gk_rf this 5) x2.toNatClampNeg) → (∀ v5 : Int32, v5 = x2 + 1 → w_X2_note_l2 Q K this n x1 v5 m4))))))))))
set_option maxRecDepth 100000 in
set_option maxHeartbeats 4000000 in
theorem k_X2_note_l2 {Q : gk_St → Prop} {K : Int32 → gk_St → Prop} {this : Nat} (h_this : gk_isO this 2) (hK : ∀ (e1 : Int32) (em : gk_St), K e1 em → Go RX2 cX2_note 3 none 0 44 [(0, .ref this), (1, .int e1)] [] em (gk_Qv Q)) : ∀ (n : Nat) (x1 : Int32) (x2 : Int32) (μ : gk_St), w_X2_note_l2 Q K this n x1 x2 μ → Go RX2 cX2_note 3 none 0 2 [(0, .ref this), (1, .int x1), (2, .int x2)] [] μ (gk_Qv Q) := by
  intro n
  induction n with
  | zero =>
    intro x1 x2 μ h
    exact False.elim h
  | succ n ih =>
    intro x1 x2 μ h
    unfold w_X2_note_l2 at h
    refine go_iload_n 2 dX2_note_2 rfl rfl ?_
    refine go_aload_n 0 dX2_note_3 rfl rfl ?_
    refine go_getI dX2_note_4 fl_RX2_41 h_this (nf_2_9 h_this) ?_
    refine go_icmp_ge 44 dX2_note_7 (by decide) (fun c => ?_) (fun c => ?_)
    · replace h := gk_ip h c
      refine go_lv [0, 1] rfl ?_
      exact hK _ _ h
    · replace h := gk_in h c
      refine go_aload_n 0 dX2_note_10 rfl rfl ?_
      refine go_getR dX2_note_11 fl_RX2_11 h_this (rr_2_0 h_this) ?_
      refine go_iload_n 2 dX2_note_14 rfl rfl ?_
      have hb1 := h.1
      refine go_aaload dX2_note_15 (rt_2_0 h_this) hb1 ?_
      replace h := h.2
      refine go_iload_n 1 dX2_note_16 rfl rfl ?_
      refine go_aload_n 0 dX2_note_17 rfl rfl ?_
      refine go_getR dX2_note_18 fl_RX2_26 h_this (rr_2_4 h_this) ?_
      refine go_iload_n 2 dX2_note_21 rfl rfl ?_
      refine go_iaload dX2_note_22 (rt_2_4 h_this) h.1 ?_
      replace h := h.2
      refine gb_iastore dX2_note_23 ((gk_rows (rt_2_0 h_this) (gk_inlt hb1)).1) h.1 (fun m2 e => ?_)
      replace h := h.2 m2 e
      refine go_aload_n 0 dX2_note_24 rfl rfl ?_
      refine go_getR dX2_note_25 fl_RX2_16 h_this (rr_2_1 h_this) ?_
      refine go_iload_n 2 dX2_note_28 rfl rfl ?_
      have hb3 := h.1
      refine go_aaload dX2_note_29 (rt_2_1 h_this) hb3 ?_
      replace h := h.2
      refine go_iload_n 1 dX2_note_30 rfl rfl ?_
      refine go_aload_n 0 dX2_note_31 rfl rfl ?_
      refine go_getR dX2_note_32 fl_RX2_29 h_this (rr_2_5 h_this) ?_
      refine go_iload_n 2 dX2_note_35 rfl rfl ?_
      refine go_iaload dX2_note_36 (rt_2_5 h_this) h.1 ?_
      replace h := h.2
      refine gb_iastore dX2_note_37 ((gk_rows (rt_2_1 h_this) (gk_inlt hb3)).1) h.1 (fun m4 e => ?_)
      replace h := h.2 m4 e
      refine gb_iinc (w := 1) 2 (fun v5 => [(2, .int v5), (0, .ref this), (1, .int x1)]) dX2_note_38 rfl (by decide) (by decide) (fun _ => rfl) (fun v5 e => ?_)
      replace h := h v5 e
      refine go_goto 2 dX2_note_41 (by decide) ?_
      refine go_lv [1, 2, 0] rfl ?_
      exact ih _ _ _ h
def w_X2_note (this : Nat) (x1 : Int32) (μ : gk_St) (Q : gk_St → Prop) : Prop := (∃ n2 : Nat, w_X2_note_l2 Q (fun y6 m7 => (vp_in 0 (gk_rl (gk_rf this 2)) ∧ (vp_in 0 (gk_ln (gk_rf this 7)) ∧ (vp_in y6 (gk_ln (gk_rw (gk_rf this 2) (0 : Int32).toNatClampNeg)) ∧ (∀ m9 : gk_St, m9 = gk_up m7 (gk_rw (gk_rf this 2) (0 : Int32).toNatClampNeg) y6.toNatClampNeg (m7 (gk_rf this 7) (0 : Int32).toNatClampNeg) → (vp_in 1 (gk_rl (gk_rf this 2)) ∧ (vp_in 1 (gk_ln (gk_rf this 7)) ∧ (vp_in y6 (gk_ln (gk_rw (gk_rf this 2) (1 : Int32).toNatClampNeg)) ∧ (∀ m11 : gk_St, m11 = gk_up m9 (gk_rw (gk_rf this 2) (1 : Int32).toNatClampNeg) y6.toNatClampNeg (m9 (gk_rf this 7) (1 : Int32).toNatClampNeg) → Q m11))))))))) this n2 x1 0 μ)
set_option maxRecDepth 100000 in
set_option maxHeartbeats 4000000 in
theorem k_X2_note {this : Nat} {x1 : Int32} {μ : gk_St} {Q : gk_St → Prop} (h_this : gk_isO this 2) (h : w_X2_note this x1 μ Q) : gk_CT yX2_note cX2_note 3 none 0 [.ref this, .int x1] μ (gk_Qv Q) := by
  unfold w_X2_note at h
  refine gk_enter (by decide) (Nat.le_of_ble_eq_true rfl) ?_
  show Go RX2 cX2_note 3 none 0 0 [(0, .ref this), (1, .int x1)] [] μ (gk_Qv Q)
  refine go_iconst (v := 0) dX2_note_0 (by decide) ?_
  refine go_istore_n [(2, .int 0), (0, .ref this), (1, .int x1)] dX2_note_1 rfl (by decide) rfl ?_
  refine go_lv [1, 2, 0] rfl ?_
  obtain ⟨n2, h⟩ := h
  refine k_X2_note_l2 h_this (fun y6 m7 h => ?_) n2 _ _ _ h
  refine go_aload_n 0 dX2_note_44 rfl rfl ?_
  refine go_getR dX2_note_45 fl_RX2_19 h_this (rr_2_2 h_this) ?_
  refine go_iconst (v := 0) dX2_note_48 (by decide) ?_
  have hb8 := h.1
  refine go_aaload dX2_note_49 (rt_2_2 h_this) hb8 ?_
  replace h := h.2
  refine go_iload_n 1 dX2_note_50 rfl rfl ?_
  refine go_aload_n 0 dX2_note_51 rfl rfl ?_
  refine go_getR dX2_note_52 fl_RX2_35 h_this (rr_2_7 h_this) ?_
  refine go_iconst (v := 0) dX2_note_55 (by decide) ?_
  refine go_iaload dX2_note_56 (rt_2_7 h_this) h.1 ?_
  replace h := h.2
  refine gb_iastore dX2_note_57 ((gk_rows (rt_2_2 h_this) (gk_inlt hb8)).1) h.1 (fun m9 e => ?_)
  replace h := h.2 m9 e
  refine go_aload_n 0 dX2_note_58 rfl rfl ?_
  refine go_getR dX2_note_59 fl_RX2_19 h_this (rr_2_2 h_this) ?_
  refine go_iconst (v := 1) dX2_note_62 (by decide) ?_
  have hb10 := h.1
  refine go_aaload dX2_note_63 (rt_2_2 h_this) hb10 ?_
  replace h := h.2
  refine go_iload_n 1 dX2_note_64 rfl rfl ?_
  refine go_aload_n 0 dX2_note_65 rfl rfl ?_
  refine go_getR dX2_note_66 fl_RX2_35 h_this (rr_2_7 h_this) ?_
  refine go_iconst (v := 1) dX2_note_69 (by decide) ?_
  refine go_iaload dX2_note_70 (rt_2_7 h_this) h.1 ?_
  replace h := h.2
  refine gb_iastore dX2_note_71 ((gk_rows (rt_2_2 h_this) (gk_inlt hb10)).1) h.1 (fun m11 e => ?_)
  replace h := h.2 m11 e
  exact go_vret dX2_note_72 ⟨rfl, h⟩
def w_X2_run_l65 (Q : gk_St → Prop) (K : Int32 → Int32 → Int32 → Int32 → gk_St → Prop) (this : Nat) (a1 : Nat) : Nat → Int32 → Int32 → Int32 → Int32 → Int32 → gk_St → Prop
  | 0, _, _, _, _, _, _ => False
  | n + 1, x2, x3, x4, x5, x6, μ => (if x4 ≤ x6 then K x2 x3 x4 x5 μ else w_X2_goOn this a1 x3 μ (fun r9 m8 => (∀ v10 : Int32, v10 = (x5 + r9) → (∀ v11 : Int32, v11 = x6 + 1 → w_X2_run_l65 Q K this a1 n x2 x3 x4 v10 v11 m8))))
set_option maxRecDepth 100000 in
set_option maxHeartbeats 4000000 in
theorem k_X2_run_l65 {Q : gk_St → Prop} {K : Int32 → Int32 → Int32 → Int32 → gk_St → Prop} {this a1 : Nat} (h_this : gk_isO this 2) (h_a1 : gk_isO a1 1) (hK : ∀ (e2 : Int32) (e3 : Int32) (e4 : Int32) (e5 : Int32) (em : gk_St), K e2 e3 e4 e5 em → Go RX2 cX2_run 7 none 3 89 [(0, .ref this), (1, .ref a1), (2, .int e2), (3, .int e3), (4, .int e4), (5, .int e5)] [] em (gk_Qv Q)) : ∀ (n : Nat) (x2 : Int32) (x3 : Int32) (x4 : Int32) (x5 : Int32) (x6 : Int32) (μ : gk_St), w_X2_run_l65 Q K this a1 n x2 x3 x4 x5 x6 μ → Go RX2 cX2_run 7 none 3 65 [(0, .ref this), (1, .ref a1), (2, .int x2), (3, .int x3), (4, .int x4), (5, .int x5), (6, .int x6)] [] μ (gk_Qv Q) := by
  intro n
  induction n with
  | zero =>
    intro x2 x3 x4 x5 x6 μ h
    exact False.elim h
  | succ n ih =>
    intro x2 x3 x4 x5 x6 μ h
    unfold w_X2_run_l65 at h
    refine go_iload 6 dX2_run_65 rfl ?_
    refine go_iload 4 dX2_run_67 rfl ?_
    refine go_icmp_ge 89 dX2_run_69 (by decide) (fun c => ?_) (fun c => ?_)
    · replace h := gk_ip h c
      refine go_lv [0, 1, 2, 3, 4, 5] rfl ?_
      exact hK _ _ _ _ _ h
    · replace h := gk_in h c
      refine go_iload 5 dX2_run_72 rfl ?_
      refine go_aload_n 0 dX2_run_74 rfl rfl ?_
      refine go_aload_n 1 dX2_run_75 rfl rfl ?_
      refine go_iload_n 3 dX2_run_76 rfl rfl ?_
      refine go_callV (ci := 2) (d' := 2) [.ref a1, .int x3] dX2_run_77 cw_RX2_67 ki_X2_goOn ks_X2_goOn rfl (by decide) h_this rfl (Nat.le_of_ble_eq_true rfl) (by decide) (k_X2_goOn h_this h_a1 h) (gk_ki (fun r9 m8 h => ?_))
      refine go_iadd dX2_run_80 ?_
      refine gb_istore (fun v10 => [(5, .int v10), (0, .ref this), (1, .ref a1), (2, .int x2), (3, .int x3), (4, .int x4), (6, .int x6)]) dX2_run_81 (by decide) (fun _ => rfl) (fun v10 e => ?_)
      replace h := h v10 e
      refine gb_iinc (w := 1) 6 (fun v11 => [(6, .int v11), (5, .int v10), (0, .ref this), (1, .ref a1), (2, .int x2), (3, .int x3), (4, .int x4)]) dX2_run_83 rfl (by decide) (by decide) (fun _ => rfl) (fun v11 e => ?_)
      replace h := h v11 e
      refine go_goto 65 dX2_run_86 (by decide) ?_
      refine go_lv [2, 3, 4, 5, 6, 1, 0] rfl ?_
      exact ih _ _ _ _ _ _ h
def w_X2_run_j100 (Q : gk_St → Prop) (K : gk_St → Prop) (C : Int32 → Int32 → gk_St → Prop) (this : Nat) (a1 : Nat) (x2 : Int32) (x3 : Int32) (x5 : Int32) (μ : gk_St) : Prop := (vp_in x3 (gk_ln (gk_rf this 3)) ∧ (∀ m17 : gk_St, m17 = gk_up μ (gk_rf this 3) x3.toNatClampNeg x5 → w_X2_note this x3 m17 (fun m18 => (∀ v19 : Int32, v19 = x3 + 1 → C x2 v19 m18))))
set_option maxRecDepth 100000 in
set_option maxHeartbeats 4000000 in
theorem k_X2_run_j100 {Q : gk_St → Prop} {K : gk_St → Prop} {C : Int32 → Int32 → gk_St → Prop} {this a1 : Nat} {x2 : Int32} {x3 : Int32} {x5 : Int32} {μ : gk_St} (h_this : gk_isO this 2) (h_a1 : gk_isO a1 1) (hK : ∀ (em : gk_St), K  em → Go RX2 cX2_run 7 none 3 119 [] [] em (gk_Qv Q)) (hC : ∀ (c2 : Int32) (c3 : Int32) (cm : gk_St), C c2 c3 cm → Go RX2 cX2_run 7 none 3 7 [(0, .ref this), (1, .ref a1), (2, .int c2), (3, .int c3)] [] cm (gk_Qv Q)) (h : w_X2_run_j100 Q K C this a1 x2 x3 x5 μ) : Go RX2 cX2_run 7 none 3 100 [(0, .ref this), (1, .ref a1), (2, .int x2), (3, .int x3), (5, .int x5)] [] μ (gk_Qv Q) := by
  unfold w_X2_run_j100 at h
  refine go_aload_n 0 dX2_run_100 rfl rfl ?_
  refine go_getR dX2_run_101 fl_RX2_22 h_this (rr_2_3 h_this) ?_
  refine go_iload_n 3 dX2_run_104 rfl rfl ?_
  refine go_iload 4 dX2_run_105 rfl ?_
  refine gb_iastore dX2_run_107 (rt_2_3 h_this) h.1 (fun m17 e => ?_)
  replace h := h.2 m17 e
  refine go_aload_n 0 dX2_run_108 rfl rfl ?_
  refine go_iload_n 3 dX2_run_109 rfl rfl ?_
  refine go_callV (ci := 2) (d' := 0) [.int x3] dX2_run_110 cw_RX2_75 ki_X2_note ks_X2_note rfl (by decide) h_this rfl (Nat.le_of_ble_eq_true rfl) (by decide) (k_X2_note h_this h) (gk_kv (fun m18 h => ?_))
  refine gb_iinc (w := 1) 3 (fun v19 => [(3, .int v19), (0, .ref this), (1, .ref a1), (2, .int x2), (5, .int x5)]) dX2_run_113 rfl (by decide) (by decide) (fun _ => rfl) (fun v19 e => ?_)
  replace h := h v19 e
  refine go_goto 7 dX2_run_116 (by decide) ?_
  refine go_lv [1, 2, 3, 0] rfl ?_
  exact hC _ _ _ h
def w_X2_run_l7 (Q : gk_St → Prop) (K : gk_St → Prop) (this : Nat) (a1 : Nat) : Nat → Int32 → Int32 → gk_St → Prop
  | 0, _, _, _ => False
  | n + 1, x2, x3, μ => (if 24 ≤ x3 then K  μ else (if x2 < x3 then K  μ else (vp_in 0 (gk_ln (gk_rf this 7)) ∧ (vp_in 0 (gk_rl (gk_rf a1 5)) ∧ (vp_in x3 (gk_ln (gk_rw (gk_rf a1 5) (0 : Int32).toNatClampNeg)) ∧ (vp_in 0 (gk_ln (gk_rf this 7)) ∧ (∀ m3 : gk_St, m3 = gk_up μ (gk_rf this 7) (0 : Int32).toNatClampNeg ((μ (gk_rf this 7) (0 : Int32).toNatClampNeg) + (μ (gk_rw (gk_rf a1 5) (0 : Int32).toNatClampNeg) x3.toNatClampNeg)) → (vp_in 1 (gk_ln (gk_rf this 7)) ∧ (vp_in 1 (gk_rl (gk_rf a1 5)) ∧ (vp_in x3 (gk_ln (gk_rw (gk_rf a1 5) (1 : Int32).toNatClampNeg)) ∧ (vp_in 1 (gk_ln (gk_rf this 7)) ∧ (∀ m5 : gk_St, m5 = gk_up m3 (gk_rf this 7) (1 : Int32).toNatClampNeg ((m3 (gk_rf this 7) (1 : Int32).toNatClampNeg) + (m3 (gk_rw (gk_rf a1 5) (1 : Int32).toNatClampNeg) x3.toNatClampNeg)) → w_X1_places a1 x3 m5 (fun r7 m6 => (∃ n65 : Nat, w_X2_run_l65 Q (fun y12 y13 y14 y15 m16 => (if y14 = 0 then w_X2_stand this a1 y13 m16 (fun m20 => w_X2_run_j100 Q K (fun c_x2 c_x3 cm => w_X2_run_l7 Q K this a1 n c_x2 c_x3 cm) this a1 y12 y13 y15 m20) else w_X2_run_j100 Q K (fun c_x2 c_x3 cm => w_X2_run_l7 Q K this a1 n c_x2 c_x3 cm) this a1 y12 y13 y15 m16)) this a1 n65 x2 x3 r7 0 0 m6))))))))))))))
set_option maxRecDepth 100000 in
set_option maxHeartbeats 4000000 in
theorem k_X2_run_l7 {Q : gk_St → Prop} {K : gk_St → Prop} {this a1 : Nat} (h_this : gk_isO this 2) (h_a1 : gk_isO a1 1) (hK : ∀ (em : gk_St), K  em → Go RX2 cX2_run 7 none 3 119 [] [] em (gk_Qv Q)) : ∀ (n : Nat) (x2 : Int32) (x3 : Int32) (μ : gk_St), w_X2_run_l7 Q K this a1 n x2 x3 μ → Go RX2 cX2_run 7 none 3 7 [(0, .ref this), (1, .ref a1), (2, .int x2), (3, .int x3)] [] μ (gk_Qv Q) := by
  intro n
  induction n with
  | zero =>
    intro x2 x3 μ h
    exact False.elim h
  | succ n ih =>
    intro x2 x3 μ h
    unfold w_X2_run_l7 at h
    refine go_iload_n 3 dX2_run_7 rfl rfl ?_
    refine go_bipush (v := 24) dX2_run_8 (by decide) ?_
    refine go_icmp_ge 119 dX2_run_10 (by decide) (fun c => ?_) (fun c => ?_)
    · replace h := gk_ip h c
      refine go_lv [] rfl ?_
      exact hK  _ h
    · replace h := gk_in h c
      refine go_iload_n 3 dX2_run_13 rfl rfl ?_
      refine go_iload_n 2 dX2_run_14 rfl rfl ?_
      refine go_icmp_gt 119 dX2_run_15 (by decide) (fun c => ?_) (fun c => ?_)
      · replace h := gk_ip h c
        refine go_lv [] rfl ?_
        exact hK  _ h
      · replace h := gk_in h c
        refine go_aload_n 0 dX2_run_18 rfl rfl ?_
        refine go_getR dX2_run_19 fl_RX2_35 h_this (rr_2_7 h_this) ?_
        refine go_iconst (v := 0) dX2_run_22 (by decide) ?_
        refine go_dup2 dX2_run_23 rfl rfl ?_
        refine go_iaload dX2_run_24 (rt_2_7 h_this) h.1 ?_
        replace h := h.2
        refine go_aload_n 1 dX2_run_25 rfl rfl ?_
        refine go_getR dX2_run_26 fl_RX2_58 h_a1 (rr_1_5 h_a1) ?_
        refine go_iconst (v := 0) dX2_run_29 (by decide) ?_
        have hb2 := h.1
        refine go_aaload dX2_run_30 (rt_1_5 h_a1) hb2 ?_
        replace h := h.2
        refine go_iload_n 3 dX2_run_31 rfl rfl ?_
        refine go_iaload dX2_run_32 ((gk_rows (rt_1_5 h_a1) (gk_inlt hb2)).1) h.1 ?_
        replace h := h.2
        refine go_iadd dX2_run_33 ?_
        refine gb_iastore dX2_run_34 (rt_2_7 h_this) h.1 (fun m3 e => ?_)
        replace h := h.2 m3 e
        refine go_aload_n 0 dX2_run_35 rfl rfl ?_
        refine go_getR dX2_run_36 fl_RX2_35 h_this (rr_2_7 h_this) ?_
        refine go_iconst (v := 1) dX2_run_39 (by decide) ?_
        refine go_dup2 dX2_run_40 rfl rfl ?_
        refine go_iaload dX2_run_41 (rt_2_7 h_this) h.1 ?_
        replace h := h.2
        refine go_aload_n 1 dX2_run_42 rfl rfl ?_
        refine go_getR dX2_run_43 fl_RX2_58 h_a1 (rr_1_5 h_a1) ?_
        refine go_iconst (v := 1) dX2_run_46 (by decide) ?_
        have hb4 := h.1
        refine go_aaload dX2_run_47 (rt_1_5 h_a1) hb4 ?_
        replace h := h.2
        refine go_iload_n 3 dX2_run_48 rfl rfl ?_
        refine go_iaload dX2_run_49 ((gk_rows (rt_1_5 h_a1) (gk_inlt hb4)).1) h.1 ?_
        replace h := h.2
        refine go_iadd dX2_run_50 ?_
        refine gb_iastore dX2_run_51 (rt_2_7 h_this) h.1 (fun m5 e => ?_)
        replace h := h.2 m5 e
        refine go_aload_n 1 dX2_run_52 rfl rfl ?_
        refine go_iload_n 3 dX2_run_53 rfl rfl ?_
        refine go_callV (ci := 1) (d' := 0) [.int x3] dX2_run_54 cw_RX2_63 ki_X1_places ks_X1_places rfl (by decide) h_a1 rfl (Nat.le_of_ble_eq_true rfl) (by decide) (k_X1_places h_a1 h) (gk_ki (fun r7 m6 h => ?_))
        refine go_istore [(4, .int r7), (0, .ref this), (1, .ref a1), (2, .int x2), (3, .int x3)] dX2_run_57 (by decide) rfl ?_
        refine go_iconst (v := 0) dX2_run_59 (by decide) ?_
        refine go_istore [(5, .int 0), (4, .int r7), (0, .ref this), (1, .ref a1), (2, .int x2), (3, .int x3)] dX2_run_60 (by decide) rfl ?_
        refine go_iconst (v := 0) dX2_run_62 (by decide) ?_
        refine go_istore [(6, .int 0), (5, .int 0), (4, .int r7), (0, .ref this), (1, .ref a1), (2, .int x2), (3, .int x3)] dX2_run_63 (by decide) rfl ?_
        refine go_lv [3, 4, 5, 6, 2, 1, 0] rfl ?_
        obtain ⟨n65, h⟩ := h
        refine k_X2_run_l65 h_this h_a1 (fun y12 y13 y14 y15 m16 h => ?_) n65 _ _ _ _ _ _ h
        refine go_iload 4 dX2_run_89 rfl ?_
        refine go_if_ne 100 dX2_run_91 (by decide) (fun c => ?_) (fun c => ?_)
        · replace h := gk_in h c
          refine go_lv [0, 1, 2, 3, 5] rfl ?_
          exact k_X2_run_j100 h_this h_a1 hK (fun _ _ _ h => ih _ _ _ h) h
        · replace h := gk_ip h c
          refine go_aload_n 0 dX2_run_94 rfl rfl ?_
          refine go_aload_n 1 dX2_run_95 rfl rfl ?_
          refine go_iload_n 3 dX2_run_96 rfl rfl ?_
          refine go_callV (ci := 2) (d' := 2) [.ref a1, .int y13] dX2_run_97 cw_RX2_71 ki_X2_stand ks_X2_stand rfl (by decide) h_this rfl (Nat.le_of_ble_eq_true rfl) (by decide) (k_X2_stand h_this h_a1 h) (gk_kv (fun m20 h => ?_))
          refine go_lv [0, 1, 2, 3, 5] rfl ?_
          exact k_X2_run_j100 h_this h_a1 hK (fun _ _ _ h => ih _ _ _ h) h
def w_X2_run (this : Nat) (a1 : Nat) (x2 : Int32) (μ : gk_St) (Q : gk_St → Prop) : Prop := w_X2_start this a1 μ (fun m1 => (∃ n7 : Nat, w_X2_run_l7 Q (fun m21 => Q m21) this a1 n7 x2 0 m1))
set_option maxRecDepth 100000 in
set_option maxHeartbeats 4000000 in
theorem k_X2_run {this : Nat} {a1 : Nat} {x2 : Int32} {μ : gk_St} {Q : gk_St → Prop} (h_this : gk_isO this 2) (h_a1 : gk_isO a1 1) (h : w_X2_run this a1 x2 μ Q) : gk_CT yX2_run cX2_run 7 none 3 [.ref this, .ref a1, .int x2] μ (gk_Qv Q) := by
  unfold w_X2_run at h
  refine gk_enter (by decide) (Nat.le_of_ble_eq_true rfl) ?_
  show Go RX2 cX2_run 7 none 3 0 [(0, .ref this), (1, .ref a1), (2, .int x2)] [] μ (gk_Qv Q)
  refine go_aload_n 0 dX2_run_0 rfl rfl ?_
  refine go_aload_n 1 dX2_run_1 rfl rfl ?_
  refine go_callV (ci := 2) (d' := 0) [.ref a1] dX2_run_2 cw_RX2_54 ki_X2_start ks_X2_start rfl (by decide) h_this rfl (Nat.le_of_ble_eq_true rfl) (by decide) (k_X2_start h_this h_a1 h) (gk_kv (fun m1 h => ?_))
  refine go_iconst (v := 0) dX2_run_5 (by decide) ?_
  refine go_istore_n [(3, .int 0), (0, .ref this), (1, .ref a1), (2, .int x2)] dX2_run_6 rfl (by decide) rfl ?_
  refine go_lv [1, 2, 3, 0] rfl ?_
  obtain ⟨n7, h⟩ := h
  refine k_X2_run_l7 h_this h_a1 (fun m21 h => ?_) n7 _ _ _ h
  exact go_vret dX2_run_119 ⟨rfl, h⟩
def w_X2_allInside_l4 (Q : Int32 → gk_St → Prop) (K : Int32 → gk_St → Prop) (this : Nat) : Nat → Int32 → Int32 → Int32 → gk_St → Prop
  | 0, _, _, _, _ => False
  | n + 1, x1, x2, x3, μ => (if (μ this 9) ≤ x3 then K x2 μ else (vp_in x3 (gk_rl (gk_rf this 1)) ∧ (vp_in x1 (gk_ln (gk_rw (gk_rf this 1) x3.toNatClampNeg)) ∧ (∀ v2 : Int32, v2 = (x2 + (μ (gk_rw (gk_rf this 1) x3.toNatClampNeg) x1.toNatClampNeg)) → (∀ v3 : Int32, v3 = x3 + 1 → w_X2_allInside_l4 Q K this n x1 v2 v3 μ)))))
set_option maxRecDepth 100000 in
set_option maxHeartbeats 4000000 in
theorem k_X2_allInside_l4 {Q : Int32 → gk_St → Prop} {K : Int32 → gk_St → Prop} {this : Nat} (h_this : gk_isO this 2) (hK : ∀ (e2 : Int32) (em : gk_St), K e2 em → Go RX2 cX2_allInside 4 (some .int) 0 29 [(2, .int e2)] [] em (gk_Qi Q)) : ∀ (n : Nat) (x1 : Int32) (x2 : Int32) (x3 : Int32) (μ : gk_St), w_X2_allInside_l4 Q K this n x1 x2 x3 μ → Go RX2 cX2_allInside 4 (some .int) 0 4 [(0, .ref this), (1, .int x1), (2, .int x2), (3, .int x3)] [] μ (gk_Qi Q) := by
  intro n
  induction n with
  | zero =>
    intro x1 x2 x3 μ h
    exact False.elim h
  | succ n ih =>
    intro x1 x2 x3 μ h
    unfold w_X2_allInside_l4 at h
    refine go_iload_n 3 dX2_allInside_4 rfl rfl ?_
    refine go_aload_n 0 dX2_allInside_5 rfl rfl ?_
    refine go_getI dX2_allInside_6 fl_RX2_41 h_this (nf_2_9 h_this) ?_
    refine go_icmp_ge 29 dX2_allInside_9 (by decide) (fun c => ?_) (fun c => ?_)
    · replace h := gk_ip h c
      refine go_lv [2] rfl ?_
      exact hK _ _ h
    · replace h := gk_in h c
      refine go_iload_n 2 dX2_allInside_12 rfl rfl ?_
      refine go_aload_n 0 dX2_allInside_13 rfl rfl ?_
      refine go_getR dX2_allInside_14 fl_RX2_16 h_this (rr_2_1 h_this) ?_
      refine go_iload_n 3 dX2_allInside_17 rfl rfl ?_
      have hb1 := h.1
      refine go_aaload dX2_allInside_18 (rt_2_1 h_this) hb1 ?_
      replace h := h.2
      refine go_iload_n 1 dX2_allInside_19 rfl rfl ?_
      refine go_iaload dX2_allInside_20 ((gk_rows (rt_2_1 h_this) (gk_inlt hb1)).1) h.1 ?_
      replace h := h.2
      refine go_iadd dX2_allInside_21 ?_
      refine gb_istore_n (fun v2 => [(2, .int v2), (0, .ref this), (1, .int x1), (3, .int x3)]) dX2_allInside_22 rfl (by decide) (fun _ => rfl) (fun v2 e => ?_)
      replace h := h v2 e
      refine gb_iinc (w := 1) 3 (fun v3 => [(3, .int v3), (2, .int v2), (0, .ref this), (1, .int x1)]) dX2_allInside_23 rfl (by decide) (by decide) (fun _ => rfl) (fun v3 e => ?_)
      replace h := h v3 e
      refine go_goto 4 dX2_allInside_26 (by decide) ?_
      refine go_lv [2, 3, 1, 0] rfl ?_
      exact ih _ _ _ _ h
def w_X2_allInside (this : Nat) (x1 : Int32) (μ : gk_St) (Q : Int32 → gk_St → Prop) : Prop := (∃ n4 : Nat, w_X2_allInside_l4 Q (fun y4 m5 => Q y4 m5) this n4 x1 0 0 μ)
set_option maxRecDepth 100000 in
set_option maxHeartbeats 4000000 in
theorem k_X2_allInside {this : Nat} {x1 : Int32} {μ : gk_St} {Q : Int32 → gk_St → Prop} (h_this : gk_isO this 2) (h : w_X2_allInside this x1 μ Q) : gk_CT yX2_allInside cX2_allInside 4 (some .int) 0 [.ref this, .int x1] μ (gk_Qi Q) := by
  unfold w_X2_allInside at h
  refine gk_enter (by decide) (Nat.le_of_ble_eq_true rfl) ?_
  show Go RX2 cX2_allInside 4 (some .int) 0 0 [(0, .ref this), (1, .int x1)] [] μ (gk_Qi Q)
  refine go_iconst (v := 0) dX2_allInside_0 (by decide) ?_
  refine go_istore_n [(2, .int 0), (0, .ref this), (1, .int x1)] dX2_allInside_1 rfl (by decide) rfl ?_
  refine go_iconst (v := 0) dX2_allInside_2 (by decide) ?_
  refine go_istore_n [(3, .int 0), (2, .int 0), (0, .ref this), (1, .int x1)] dX2_allInside_3 rfl (by decide) rfl ?_
  refine go_lv [2, 3, 1, 0] rfl ?_
  obtain ⟨n4, h⟩ := h
  refine k_X2_allInside_l4 h_this (fun y4 m5 h => ?_) n4 _ _ _ _ h
  refine go_iload_n 0 dX2_allInside_29 rfl rfl ?_
  exact go_iret dX2_allInside_30 ⟨_, rfl, h⟩
def w_X2_allOver (this : Nat) (μ : gk_St) (Q : Int32 → gk_St → Prop) : Prop := (vp_in 0 (gk_ln (gk_rf this 8)) ∧ (vp_in 1 (gk_ln (gk_rf this 8)) ∧ Q ((μ (gk_rf this 8) (0 : Int32).toNatClampNeg) + (μ (gk_rf this 8) (1 : Int32).toNatClampNeg)) μ))
set_option maxRecDepth 100000 in
set_option maxHeartbeats 4000000 in
theorem k_X2_allOver {this : Nat} {μ : gk_St} {Q : Int32 → gk_St → Prop} (h_this : gk_isO this 2) (h : w_X2_allOver this μ Q) : gk_CT yX2_allOver cX2_allOver 1 (some .int) 0 [.ref this] μ (gk_Qi Q) := by
  unfold w_X2_allOver at h
  refine gk_enter (by decide) (Nat.le_of_ble_eq_true rfl) ?_
  show Go RX2 cX2_allOver 1 (some .int) 0 0 [(0, .ref this)] [] μ (gk_Qi Q)
  refine go_aload_n 0 dX2_allOver_0 rfl rfl ?_
  refine go_getR dX2_allOver_1 fl_RX2_38 h_this (rr_2_8 h_this) ?_
  refine go_iconst (v := 0) dX2_allOver_4 (by decide) ?_
  refine go_iaload dX2_allOver_5 (rt_2_8 h_this) h.1 ?_
  replace h := h.2
  refine go_aload_n 0 dX2_allOver_6 rfl rfl ?_
  refine go_getR dX2_allOver_7 fl_RX2_38 h_this (rr_2_8 h_this) ?_
  refine go_iconst (v := 1) dX2_allOver_10 (by decide) ?_
  refine go_iaload dX2_allOver_11 (rt_2_8 h_this) h.1 ?_
  replace h := h.2
  refine go_iadd dX2_allOver_12 ?_
  exact go_iret dX2_allOver_13 ⟨_, rfl, h⟩
def w_X2_allPower_l4 (Q : Int32 → gk_St → Prop) (K : Int32 → gk_St → Prop) (this : Nat) : Nat → Int32 → Int32 → gk_St → Prop
  | 0, _, _, _ => False
  | n + 1, x1, x2, μ => (if 24 ≤ x2 then K x1 μ else (vp_in x2 (gk_ln (gk_rf this 3)) ∧ (∀ v1 : Int32, v1 = (x1 + (μ (gk_rf this 3) x2.toNatClampNeg)) → (∀ v2 : Int32, v2 = x2 + 1 → w_X2_allPower_l4 Q K this n v1 v2 μ))))
set_option maxRecDepth 100000 in
set_option maxHeartbeats 4000000 in
theorem k_X2_allPower_l4 {Q : Int32 → gk_St → Prop} {K : Int32 → gk_St → Prop} {this : Nat} (h_this : gk_isO this 2) (hK : ∀ (e1 : Int32) (em : gk_St), K e1 em → Go RX2 cX2_allPower 3 (some .int) 0 25 [(1, .int e1)] [] em (gk_Qi Q)) : ∀ (n : Nat) (x1 : Int32) (x2 : Int32) (μ : gk_St), w_X2_allPower_l4 Q K this n x1 x2 μ → Go RX2 cX2_allPower 3 (some .int) 0 4 [(0, .ref this), (1, .int x1), (2, .int x2)] [] μ (gk_Qi Q) := by
  intro n
  induction n with
  | zero =>
    intro x1 x2 μ h
    exact False.elim h
  | succ n ih =>
    intro x1 x2 μ h
    unfold w_X2_allPower_l4 at h
    refine go_iload_n 2 dX2_allPower_4 rfl rfl ?_
    refine go_bipush (v := 24) dX2_allPower_5 (by decide) ?_
    refine go_icmp_ge 25 dX2_allPower_7 (by decide) (fun c => ?_) (fun c => ?_)
    · replace h := gk_ip h c
      refine go_lv [1] rfl ?_
      exact hK _ _ h
    · replace h := gk_in h c
      refine go_iload_n 1 dX2_allPower_10 rfl rfl ?_
      refine go_aload_n 0 dX2_allPower_11 rfl rfl ?_
      refine go_getR dX2_allPower_12 fl_RX2_22 h_this (rr_2_3 h_this) ?_
      refine go_iload_n 2 dX2_allPower_15 rfl rfl ?_
      refine go_iaload dX2_allPower_16 (rt_2_3 h_this) h.1 ?_
      replace h := h.2
      refine go_iadd dX2_allPower_17 ?_
      refine gb_istore_n (fun v1 => [(1, .int v1), (0, .ref this), (2, .int x2)]) dX2_allPower_18 rfl (by decide) (fun _ => rfl) (fun v1 e => ?_)
      replace h := h v1 e
      refine gb_iinc (w := 1) 2 (fun v2 => [(2, .int v2), (1, .int v1), (0, .ref this)]) dX2_allPower_19 rfl (by decide) (by decide) (fun _ => rfl) (fun v2 e => ?_)
      replace h := h v2 e
      refine go_goto 4 dX2_allPower_22 (by decide) ?_
      refine go_lv [2, 1, 0] rfl ?_
      exact ih _ _ _ h
def w_X2_allPower (this : Nat) (μ : gk_St) (Q : Int32 → gk_St → Prop) : Prop := (∃ n4 : Nat, w_X2_allPower_l4 Q (fun y3 m4 => Q y3 m4) this n4 0 0 μ)
set_option maxRecDepth 100000 in
set_option maxHeartbeats 4000000 in
theorem k_X2_allPower {this : Nat} {μ : gk_St} {Q : Int32 → gk_St → Prop} (h_this : gk_isO this 2) (h : w_X2_allPower this μ Q) : gk_CT yX2_allPower cX2_allPower 3 (some .int) 0 [.ref this] μ (gk_Qi Q) := by
  unfold w_X2_allPower at h
  refine gk_enter (by decide) (Nat.le_of_ble_eq_true rfl) ?_
  show Go RX2 cX2_allPower 3 (some .int) 0 0 [(0, .ref this)] [] μ (gk_Qi Q)
  refine go_iconst (v := 0) dX2_allPower_0 (by decide) ?_
  refine go_istore_n [(1, .int 0), (0, .ref this)] dX2_allPower_1 rfl (by decide) rfl ?_
  refine go_iconst (v := 0) dX2_allPower_2 (by decide) ?_
  refine go_istore_n [(2, .int 0), (1, .int 0), (0, .ref this)] dX2_allPower_3 rfl (by decide) rfl ?_
  refine go_lv [2, 1, 0] rfl ?_
  obtain ⟨n4, h⟩ := h
  refine k_X2_allPower_l4 h_this (fun y3 m4 h => ?_) n4 _ _ _ h
  refine go_iload_n 0 dX2_allPower_25 rfl rfl ?_
  exact go_iret dX2_allPower_26 ⟨_, rfl, h⟩
def w_X2_crowdKey (this : Nat) (x1 : Int32) (μ : gk_St) (Q : Int32 → gk_St → Prop) : Prop := (vp_in 0 (gk_rl (gk_rf this 2)) ∧ (vp_in x1 (gk_ln (gk_rw (gk_rf this 2) (0 : Int32).toNatClampNeg)) ∧ (vp_in 1 (gk_rl (gk_rf this 2)) ∧ (vp_in x1 (gk_ln (gk_rw (gk_rf this 2) (1 : Int32).toNatClampNeg)) ∧ Q (((μ (gk_rw (gk_rf this 2) (0 : Int32).toNatClampNeg) x1.toNatClampNeg) * 109) + (μ (gk_rw (gk_rf this 2) (1 : Int32).toNatClampNeg) x1.toNatClampNeg)) μ))))
set_option maxRecDepth 100000 in
set_option maxHeartbeats 4000000 in
theorem k_X2_crowdKey {this : Nat} {x1 : Int32} {μ : gk_St} {Q : Int32 → gk_St → Prop} (h_this : gk_isO this 2) (h : w_X2_crowdKey this x1 μ Q) : gk_CT yX2_crowdKey cX2_crowdKey 2 (some .int) 0 [.ref this, .int x1] μ (gk_Qi Q) := by
  unfold w_X2_crowdKey at h
  refine gk_enter (by decide) (Nat.le_of_ble_eq_true rfl) ?_
  show Go RX2 cX2_crowdKey 2 (some .int) 0 0 [(0, .ref this), (1, .int x1)] [] μ (gk_Qi Q)
  refine go_aload_n 0 dX2_crowdKey_0 rfl rfl ?_
  refine go_getR dX2_crowdKey_1 fl_RX2_19 h_this (rr_2_2 h_this) ?_
  refine go_iconst (v := 0) dX2_crowdKey_4 (by decide) ?_
  have hb1 := h.1
  refine go_aaload dX2_crowdKey_5 (rt_2_2 h_this) hb1 ?_
  replace h := h.2
  refine go_iload_n 1 dX2_crowdKey_6 rfl rfl ?_
  refine go_iaload dX2_crowdKey_7 ((gk_rows (rt_2_2 h_this) (gk_inlt hb1)).1) h.1 ?_
  replace h := h.2
  refine go_bipush (v := 109) dX2_crowdKey_8 (by decide) ?_
  refine go_imul dX2_crowdKey_10 ?_
  refine go_aload_n 0 dX2_crowdKey_11 rfl rfl ?_
  refine go_getR dX2_crowdKey_12 fl_RX2_19 h_this (rr_2_2 h_this) ?_
  refine go_iconst (v := 1) dX2_crowdKey_15 (by decide) ?_
  have hb2 := h.1
  refine go_aaload dX2_crowdKey_16 (rt_2_2 h_this) hb2 ?_
  replace h := h.2
  refine go_iload_n 1 dX2_crowdKey_17 rfl rfl ?_
  refine go_iaload dX2_crowdKey_18 ((gk_rows (rt_2_2 h_this) (gk_inlt hb2)).1) h.1 ?_
  replace h := h.2
  refine go_iadd dX2_crowdKey_19 ?_
  exact go_iret dX2_crowdKey_20 ⟨_, rfl, h⟩
def w_X3_renew (this : Nat) (x1 : Int32) (x2 : Int32) (μ : gk_St) (Q : gk_St → Prop) : Prop := w_J7_fill_53178 (gk_rf this 0) 0 μ (fun m1 => (∀ m2 : gk_St, m2 = gk_up m1 this 2 x1 → (∀ m3 : gk_St, m3 = gk_up m2 this 3 (gk_mx 0 (gk_mn x2 60)) → (∀ m4 : gk_St, m4 = gk_up m3 this 1 0 → Q m4))))
set_option maxRecDepth 100000 in
set_option maxHeartbeats 4000000 in
theorem k_X3_renew {this : Nat} {x1 : Int32} {x2 : Int32} {μ : gk_St} {Q : gk_St → Prop} (h_this : gk_isO this 3) (h : w_X3_renew this x1 x2 μ Q) : gk_CT yX3_renew cX3_renew 3 none 1 [.ref this, .int x1, .int x2] μ (gk_Qv Q) := by
  unfold w_X3_renew at h
  refine gk_enter (by decide) (Nat.le_of_ble_eq_true rfl) ?_
  show Go RX3 cX3_renew 3 none 1 0 [(0, .ref this), (1, .int x1), (2, .int x2)] [] μ (gk_Qv Q)
  refine go_aload_n 0 dX3_renew_0 rfl rfl ?_
  refine go_getR dX3_renew_1 fl_RX3_9 h_this (rr_3_0 h_this) ?_
  refine go_iconst (v := 0) dX3_renew_4 (by decide) ?_
  refine go_callS (d' := 0) [.ref (gk_rf this 0), .int 0] dX3_renew_5 cw_RX3_26 kt_J7_fill_53178 rfl (Nat.le_of_ble_eq_true rfl) (by decide) (k_J7_fill_53178 (rt_3_0 h_this) h) (gk_kv (fun m1 h => ?_))
  refine go_aload_n 0 dX3_renew_8 rfl rfl ?_
  refine go_iload_n 1 dX3_renew_9 rfl rfl ?_
  refine gb_putI dX3_renew_10 fp_RX3_19 h_this (nf_3_2 h_this) (fun m2 e => ?_)
  replace h := h m2 e
  refine go_aload_n 0 dX3_renew_13 rfl rfl ?_
  refine go_iconst (v := 0) dX3_renew_14 (by decide) ?_
  refine go_iload_n 2 dX3_renew_15 rfl rfl ?_
  refine go_bipush (v := 60) dX3_renew_16 (by decide) ?_
  refine gb_mmin dX3_renew_18 mw_RX3_32 mt_min mi_Math mc_min (Nat.le_of_ble_eq_true rfl) (by decide) ?_
  refine gb_mmax dX3_renew_21 mw_RX3_38 mt_max mi_Math mc_max (Nat.le_of_ble_eq_true rfl) (by decide) ?_
  refine gb_putI dX3_renew_24 fp_RX3_23 h_this (nf_3_3 h_this) (fun m3 e => ?_)
  replace h := h m3 e
  refine go_aload_n 0 dX3_renew_27 rfl rfl ?_
  refine go_iconst (v := 0) dX3_renew_28 (by decide) ?_
  refine gb_putZ dX3_renew_29 fp_RX3_15 h_this (nf_3_1 h_this) (Or.inl rfl) (fun m4 e => ?_)
  replace h := h m4 e
  exact go_vret dX3_renew_32 ⟨rfl, h⟩
