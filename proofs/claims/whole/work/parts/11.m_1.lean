def w_X3_hasRun (this : Nat) (x1 : Int32) (x2 : Int32) (μ : gk_St) (Q : Int32 → gk_St → Prop) : Prop := (if x1 < 0 then Q 0 μ else (if x2 < 0 then Q 0 μ else (if (μ this 3) < x1 then Q 0 μ else (if ((μ this 3) - x1) < x2 then Q 0 μ else Q 1 μ))))
set_option maxRecDepth 100000 in
set_option maxHeartbeats 4000000 in
theorem k_X3_hasRun {this : Nat} {x1 : Int32} {x2 : Int32} {μ : gk_St} {Q : Int32 → gk_St → Prop} (h_this : gk_isO this 3) (h : w_X3_hasRun this x1 x2 μ Q) : gk_CT yX3_hasRun cX3_hasRun 3 (some .boolean) 0 [.ref this, .int x1, .int x2] μ (gk_Qi Q) := by
  unfold w_X3_hasRun at h
  refine gk_enter (by decide) (Nat.le_of_ble_eq_true rfl) ?_
  show Go RX3 cX3_hasRun 3 (some .boolean) 0 0 [(0, .ref this), (1, .int x1), (2, .int x2)] [] μ (gk_Qi Q)
  refine go_iload_n 1 dX3_hasRun_0 rfl rfl ?_
  refine go_if_lt 30 dX3_hasRun_1 (by decide) (fun c => ?_) (fun c => ?_)
  · replace h := gk_ip h c
    refine go_iconst (v := 0) dX3_hasRun_30 (by decide) ?_
    exact go_zret dX3_hasRun_31 (Or.inl rfl) ⟨_, rfl, h⟩
  · replace h := gk_in h c
    refine go_iload_n 2 dX3_hasRun_4 rfl rfl ?_
    refine go_if_lt 30 dX3_hasRun_5 (by decide) (fun c => ?_) (fun c => ?_)
    · replace h := gk_ip h c
      refine go_iconst (v := 0) dX3_hasRun_30 (by decide) ?_
      exact go_zret dX3_hasRun_31 (Or.inl rfl) ⟨_, rfl, h⟩
    · replace h := gk_in h c
      refine go_iload_n 1 dX3_hasRun_8 rfl rfl ?_
      refine go_aload_n 0 dX3_hasRun_9 rfl rfl ?_
      refine go_getI dX3_hasRun_10 fl_RX3_23 h_this (nf_3_3 h_this) ?_
      refine go_icmp_gt 30 dX3_hasRun_13 (by decide) (fun c => ?_) (fun c => ?_)
      · replace h := gk_ip h c
        refine go_iconst (v := 0) dX3_hasRun_30 (by decide) ?_
        exact go_zret dX3_hasRun_31 (Or.inl rfl) ⟨_, rfl, h⟩
      · replace h := gk_in h c
        refine go_iload_n 2 dX3_hasRun_16 rfl rfl ?_
        refine go_aload_n 0 dX3_hasRun_17 rfl rfl ?_
        refine go_getI dX3_hasRun_18 fl_RX3_23 h_this (nf_3_3 h_this) ?_
        refine go_iload_n 1 dX3_hasRun_21 rfl rfl ?_
        refine go_isub dX3_hasRun_22 ?_
        refine go_icmp_gt 30 dX3_hasRun_23 (by decide) (fun c => ?_) (fun c => ?_)
        · replace h := gk_ip h c
          refine go_iconst (v := 0) dX3_hasRun_30 (by decide) ?_
          exact go_zret dX3_hasRun_31 (Or.inl rfl) ⟨_, rfl, h⟩
        · replace h := gk_in h c
          refine go_iconst (v := 1) dX3_hasRun_26 (by decide) ?_
          refine go_goto 31 dX3_hasRun_27 (by decide) ?_
          exact go_zret dX3_hasRun_31 (Or.inr rfl) ⟨_, rfl, h⟩
def w_X3_wrongWith (this : Nat) (x1 : Int32) (x2 : Int32) (μ : gk_St) (Q : Int32 → gk_St → Prop) : Prop := (if (μ this 1) = 0 then (if x1 = (μ this 2) then w_X3_hasRun this x2 1 μ (fun r2 m1 => (if r2 = 0 then Q 2 m1 else Q 0 m1)) else Q 3 μ) else Q 1 μ)
set_option maxRecDepth 100000 in
set_option maxHeartbeats 4000000 in
theorem k_X3_wrongWith {this : Nat} {x1 : Int32} {x2 : Int32} {μ : gk_St} {Q : Int32 → gk_St → Prop} (h_this : gk_isO this 3) (h : w_X3_wrongWith this x1 x2 μ Q) : gk_CT yX3_wrongWith cX3_wrongWith 3 (some .int) 1 [.ref this, .int x1, .int x2] μ (gk_Qi Q) := by
  unfold w_X3_wrongWith at h
  refine gk_enter (by decide) (Nat.le_of_ble_eq_true rfl) ?_
  show Go RX3 cX3_wrongWith 3 (some .int) 1 0 [(0, .ref this), (1, .int x1), (2, .int x2)] [] μ (gk_Qi Q)
  refine go_aload_n 0 dX3_wrongWith_0 rfl rfl ?_
  refine go_getI dX3_wrongWith_1 fl_RX3_15 h_this (nf_3_1 h_this) ?_
  refine go_if_eq 9 dX3_wrongWith_4 (by decide) (fun c => ?_) (fun c => ?_)
  · replace h := gk_ip h c
    refine go_iload_n 1 dX3_wrongWith_9 rfl rfl ?_
    refine go_aload_n 0 dX3_wrongWith_10 rfl rfl ?_
    refine go_getI dX3_wrongWith_11 fl_RX3_19 h_this (nf_3_2 h_this) ?_
    refine go_icmp_eq 19 dX3_wrongWith_14 (by decide) (fun c => ?_) (fun c => ?_)
    · replace h := gk_ip h c
      refine go_aload_n 0 dX3_wrongWith_19 rfl rfl ?_
      refine go_iload_n 2 dX3_wrongWith_20 rfl rfl ?_
      refine go_iconst (v := 1) dX3_wrongWith_21 (by decide) ?_
      refine go_callV (ci := 3) (d' := 0) [.int x2, .int 1] dX3_wrongWith_22 cw_RX3_41 ki_X3_hasRun ks_X3_hasRun rfl (by decide) h_this rfl (Nat.le_of_ble_eq_true rfl) (by decide) (k_X3_hasRun h_this h) (gk_ki (fun r2 m1 h => ?_))
      refine go_if_eq 32 dX3_wrongWith_25 (by decide) (fun c => ?_) (fun c => ?_)
      · replace h := gk_ip h c
        refine go_iconst (v := 2) dX3_wrongWith_32 (by decide) ?_
        exact go_iret dX3_wrongWith_33 ⟨_, rfl, h⟩
      · replace h := gk_in h c
        refine go_iconst (v := 0) dX3_wrongWith_28 (by decide) ?_
        refine go_goto 33 dX3_wrongWith_29 (by decide) ?_
        exact go_iret dX3_wrongWith_33 ⟨_, rfl, h⟩
    · replace h := gk_in h c
      refine go_iconst (v := 3) dX3_wrongWith_17 (by decide) ?_
      exact go_iret dX3_wrongWith_18 ⟨_, rfl, h⟩
  · replace h := gk_in h c
    refine go_iconst (v := 1) dX3_wrongWith_7 (by decide) ?_
    exact go_iret dX3_wrongWith_8 ⟨_, rfl, h⟩
def w_X3_store (this : Nat) (x1 : Int32) (x2 : Int32) (μ : gk_St) (Q : gk_St → Prop) : Prop := w_X3_hasRun this x1 1 μ (fun r2 m1 => (if r2 = 0 then Q m1 else (if (m1 this 2) = 0 then (vp_in x1 (gk_ln (gk_rf this 0)) ∧ (∀ m3 : gk_St, m3 = gk_up m1 (gk_rf this 0) x1.toNatClampNeg ((x2).toInt8.toInt32) → Q m3)) else (if (m1 this 2) = 1 then (vp_in x1 (gk_ln (gk_rf this 0)) ∧ (∀ m4 : gk_St, m4 = gk_up m1 (gk_rf this 0) x1.toNatClampNeg ((x2).toInt16.toInt32) → Q m4)) else (vp_in x1 (gk_ln (gk_rf this 0)) ∧ (∀ m5 : gk_St, m5 = gk_up m1 (gk_rf this 0) x1.toNatClampNeg x2 → Q m5))))))
set_option maxRecDepth 100000 in
set_option maxHeartbeats 4000000 in
theorem k_X3_store {this : Nat} {x1 : Int32} {x2 : Int32} {μ : gk_St} {Q : gk_St → Prop} (h_this : gk_isO this 3) (h : w_X3_store this x1 x2 μ Q) : gk_CT yX3_store cX3_store 3 none 1 [.ref this, .int x1, .int x2] μ (gk_Qv Q) := by
  unfold w_X3_store at h
  refine gk_enter (by decide) (Nat.le_of_ble_eq_true rfl) ?_
  show Go RX3 cX3_store 3 none 1 0 [(0, .ref this), (1, .int x1), (2, .int x2)] [] μ (gk_Qv Q)
  refine go_aload_n 0 dX3_store_0 rfl rfl ?_
  refine go_iload_n 1 dX3_store_1 rfl rfl ?_
  refine go_iconst (v := 1) dX3_store_2 (by decide) ?_
  refine go_callV (ci := 3) (d' := 0) [.int x1, .int 1] dX3_store_3 cw_RX3_41 ki_X3_hasRun ks_X3_hasRun rfl (by decide) h_this rfl (Nat.le_of_ble_eq_true rfl) (by decide) (k_X3_hasRun h_this h) (gk_ki (fun r2 m1 h => ?_))
  refine go_if_ne 10 dX3_store_6 (by decide) (fun c => ?_) (fun c => ?_)
  · replace h := gk_in h c
    refine go_aload_n 0 dX3_store_10 rfl rfl ?_
    refine go_getI dX3_store_11 fl_RX3_19 h_this (nf_3_2 h_this) ?_
    by_cases c : (m1 this 2) = 0
    · replace h := gk_ip h c
      refine go_lookup (off := 26) 40 dX3_store_14 (by decide) (by rw [c]; decide) (by decide) ?_
      refine go_aload_n 0 dX3_store_40 rfl rfl ?_
      refine go_getR dX3_store_41 fl_RX3_9 h_this (rr_3_0 h_this) ?_
      refine go_iload_n 1 dX3_store_44 rfl rfl ?_
      refine go_iload_n 2 dX3_store_45 rfl rfl ?_
      refine go_i2b dX3_store_46 ?_
      refine gb_iastore dX3_store_47 (rt_3_0 h_this) h.1 (fun m3 e => ?_)
      replace h := h.2 m3 e
      refine go_goto 69 dX3_store_48 (by decide) ?_
      exact go_vret dX3_store_69 ⟨rfl, h⟩
    replace h := gk_in h c
    have c0 := c
    clear c
    by_cases c : (m1 this 2) = 1
    · replace h := gk_ip h c
      refine go_lookup (off := 37) 51 dX3_store_14 (by decide) (by rw [c]; decide) (by decide) ?_
      refine go_aload_n 0 dX3_store_51 rfl rfl ?_
      refine go_getR dX3_store_52 fl_RX3_9 h_this (rr_3_0 h_this) ?_
      refine go_iload_n 1 dX3_store_55 rfl rfl ?_
      refine go_iload_n 2 dX3_store_56 rfl rfl ?_
      refine go_i2s dX3_store_57 ?_
      refine gb_iastore dX3_store_58 (rt_3_0 h_this) h.1 (fun m4 e => ?_)
      replace h := h.2 m4 e
      refine go_goto 69 dX3_store_59 (by decide) ?_
      exact go_vret dX3_store_69 ⟨rfl, h⟩
    replace h := gk_in h c
    have c1 := c
    clear c
    have t0 := gk_neT (a := 0) (by decide) c0
    have t1 := gk_neT (a := 1) (by decide) c1
    refine go_lookup (off := 48) 62 dX3_store_14 (by decide) (gk_lk2 t0 t1) (by decide) ?_
    refine go_aload_n 0 dX3_store_62 rfl rfl ?_
    refine go_getR dX3_store_63 fl_RX3_9 h_this (rr_3_0 h_this) ?_
    refine go_iload_n 1 dX3_store_66 rfl rfl ?_
    refine go_iload_n 2 dX3_store_67 rfl rfl ?_
    refine gb_iastore dX3_store_68 (rt_3_0 h_this) h.1 (fun m5 e => ?_)
    replace h := h.2 m5 e
    exact go_vret dX3_store_69 ⟨rfl, h⟩
  · replace h := gk_ip h c
    exact go_vret dX3_store_9 ⟨rfl, h⟩
def w_X4_hasSpace (this : Nat) (μ : gk_St) (Q : Int32 → gk_St → Prop) : Prop := (if 8 ≤ (μ this 3) then Q 0 μ else Q 1 μ)
set_option maxRecDepth 100000 in
set_option maxHeartbeats 4000000 in
theorem k_X4_hasSpace {this : Nat} {μ : gk_St} {Q : Int32 → gk_St → Prop} (h_this : gk_isO this 4) (h : w_X4_hasSpace this μ Q) : gk_CT yX4_hasSpace cX4_hasSpace 1 (some .boolean) 0 [.ref this] μ (gk_Qi Q) := by
  unfold w_X4_hasSpace at h
  refine gk_enter (by decide) (Nat.le_of_ble_eq_true rfl) ?_
  show Go RX4 cX4_hasSpace 1 (some .boolean) 0 0 [(0, .ref this)] [] μ (gk_Qi Q)
  refine go_aload_n 0 dX4_hasSpace_0 rfl rfl ?_
  refine go_getI dX4_hasSpace_1 fl_RX4_21 h_this (nf_4_3 h_this) ?_
  refine go_bipush (v := 8) dX4_hasSpace_4 (by decide) ?_
  refine go_icmp_ge 13 dX4_hasSpace_6 (by decide) (fun c => ?_) (fun c => ?_)
  · replace h := gk_ip h c
    refine go_iconst (v := 0) dX4_hasSpace_13 (by decide) ?_
    exact go_zret dX4_hasSpace_14 (Or.inl rfl) ⟨_, rfl, h⟩
  · replace h := gk_in h c
    refine go_iconst (v := 1) dX4_hasSpace_9 (by decide) ?_
    refine go_goto 14 dX4_hasSpace_10 (by decide) ?_
    exact go_zret dX4_hasSpace_14 (Or.inr rfl) ⟨_, rfl, h⟩
def w_X4_append (this : Nat) (x1 : Int32) (x2 : Int32) (x3 : Int32) (μ : gk_St) (Q : gk_St → Prop) : Prop := w_X4_hasSpace this μ (fun r2 m1 => (if r2 = 0 then Q m1 else (vp_in (m1 this 3) (gk_ln (gk_rf this 0)) ∧ (∀ m3 : gk_St, m3 = gk_up m1 (gk_rf this 0) (Int32.toNatClampNeg (m1 this 3)) x1 → (vp_in (m3 this 3) (gk_ln (gk_rf this 1)) ∧ (∀ m4 : gk_St, m4 = gk_up m3 (gk_rf this 1) (Int32.toNatClampNeg (m3 this 3)) x2 → (vp_in (m4 this 3) (gk_ln (gk_rf this 2)) ∧ (∀ m5 : gk_St, m5 = gk_up m4 (gk_rf this 2) (Int32.toNatClampNeg (m4 this 3)) x3 → (∀ m6 : gk_St, m6 = gk_up m5 this 3 ((m5 this 3) + 1) → Q m6)))))))))
set_option maxRecDepth 100000 in
set_option maxHeartbeats 4000000 in
theorem k_X4_append {this : Nat} {x1 : Int32} {x2 : Int32} {x3 : Int32} {μ : gk_St} {Q : gk_St → Prop} (h_this : gk_isO this 4) (h : w_X4_append this x1 x2 x3 μ Q) : gk_CT yX4_append cX4_append 4 none 1 [.ref this, .int x1, .int x2, .int x3] μ (gk_Qv Q) := by
  unfold w_X4_append at h
  refine gk_enter (by decide) (Nat.le_of_ble_eq_true rfl) ?_
  show Go RX4 cX4_append 4 none 1 0 [(0, .ref this), (1, .int x1), (2, .int x2), (3, .int x3)] [] μ (gk_Qv Q)
  refine go_aload_n 0 dX4_append_0 rfl rfl ?_
  refine go_callV (ci := 4) (d' := 0) [] dX4_append_1 cw_RX4_25 ki_X4_hasSpace ks_X4_hasSpace rfl (by decide) h_this rfl (Nat.le_of_ble_eq_true rfl) (by decide) (k_X4_hasSpace h_this h) (gk_ki (fun r2 m1 h => ?_))
  refine go_if_eq 47 dX4_append_4 (by decide) (fun c => ?_) (fun c => ?_)
  · replace h := gk_ip h c
    exact go_vret dX4_append_47 ⟨rfl, h⟩
  · replace h := gk_in h c
    refine go_aload_n 0 dX4_append_7 rfl rfl ?_
    refine go_getR dX4_append_8 fl_RX4_9 h_this (rr_4_0 h_this) ?_
    refine go_aload_n 0 dX4_append_11 rfl rfl ?_
    refine go_getI dX4_append_12 fl_RX4_21 h_this (nf_4_3 h_this) ?_
    refine go_iload_n 1 dX4_append_15 rfl rfl ?_
    refine gb_iastore dX4_append_16 (rt_4_0 h_this) h.1 (fun m3 e => ?_)
    replace h := h.2 m3 e
    refine go_aload_n 0 dX4_append_17 rfl rfl ?_
    refine go_getR dX4_append_18 fl_RX4_15 h_this (rr_4_1 h_this) ?_
    refine go_aload_n 0 dX4_append_21 rfl rfl ?_
    refine go_getI dX4_append_22 fl_RX4_21 h_this (nf_4_3 h_this) ?_
    refine go_iload_n 2 dX4_append_25 rfl rfl ?_
    refine gb_iastore dX4_append_26 (rt_4_1 h_this) h.1 (fun m4 e => ?_)
    replace h := h.2 m4 e
    refine go_aload_n 0 dX4_append_27 rfl rfl ?_
    refine go_getR dX4_append_28 fl_RX4_18 h_this (rr_4_2 h_this) ?_
    refine go_aload_n 0 dX4_append_31 rfl rfl ?_
    refine go_getI dX4_append_32 fl_RX4_21 h_this (nf_4_3 h_this) ?_
    refine go_iload_n 3 dX4_append_35 rfl rfl ?_
    refine gb_iastore dX4_append_36 (rt_4_2 h_this) h.1 (fun m5 e => ?_)
    replace h := h.2 m5 e
    refine go_aload_n 0 dX4_append_37 rfl rfl ?_
    refine go_dup dX4_append_38 rfl ?_
    refine go_getI dX4_append_39 fl_RX4_21 h_this (nf_4_3 h_this) ?_
    refine go_iconst (v := 1) dX4_append_42 (by decide) ?_
    refine go_iadd dX4_append_43 ?_
    refine gb_putI dX4_append_44 fp_RX4_21 h_this (nf_4_3 h_this) (fun m6 e => ?_)
    replace h := h m6 e
    exact go_vret dX4_append_47 ⟨rfl, h⟩
def w_X4_agreeWith_l2 (Q : Int32 → gk_St → Prop) (K : gk_St → Prop) (this : Nat) (a1 : Nat) : Nat → Int32 → gk_St → Prop
  | 0, _, _ => False
  | n + 1, x2, μ => (if (μ this 3) ≤ x2 then K  μ else (vp_in x2 (gk_ln (gk_rf this 1)) ∧ (vp_in (μ (gk_rf this 1) x2.toNatClampNeg) (gk_rl (gk_rf a1 2)) ∧ (vp_in x2 (gk_ln (gk_rf this 0)) ∧ (vp_in (μ (gk_rf this 0) x2.toNatClampNeg) (gk_ln (gk_rw (gk_rf a1 2) (Int32.toNatClampNeg (μ (gk_rf this 1) x2.toNatClampNeg)))) ∧ (vp_in x2 (gk_ln (gk_rf this 2)) ∧ (if (μ (gk_rw (gk_rf a1 2) (Int32.toNatClampNeg (μ (gk_rf this 1) x2.toNatClampNeg))) (Int32.toNatClampNeg (μ (gk_rf this 0) x2.toNatClampNeg))) = (μ (gk_rf this 2) x2.toNatClampNeg) then (∀ v2 : Int32, v2 = x2 + 1 → w_X4_agreeWith_l2 Q K this a1 n v2 μ) else Q 0 μ)))))))
set_option maxRecDepth 100000 in
set_option maxHeartbeats 4000000 in
theorem k_X4_agreeWith_l2 {Q : Int32 → gk_St → Prop} {K : gk_St → Prop} {this a1 : Nat} (h_this : gk_isO this 4) (h_a1 : gk_isO a1 2) (hK : ∀ (em : gk_St), K  em → Go RX4 cX4_agreeWith 3 (some .boolean) 0 45 [] [] em (gk_Qi Q)) : ∀ (n : Nat) (x2 : Int32) (μ : gk_St), w_X4_agreeWith_l2 Q K this a1 n x2 μ → Go RX4 cX4_agreeWith 3 (some .boolean) 0 2 [(0, .ref this), (1, .ref a1), (2, .int x2)] [] μ (gk_Qi Q) := by
  intro n
  induction n with
  | zero =>
    intro x2 μ h
    exact False.elim h
  | succ n ih =>
    intro x2 μ h
    unfold w_X4_agreeWith_l2 at h
    refine go_iload_n 2 dX4_agreeWith_2 rfl rfl ?_
    refine go_aload_n 0 dX4_agreeWith_3 rfl rfl ?_
    refine go_getI dX4_agreeWith_4 fl_RX4_21 h_this (nf_4_3 h_this) ?_
    refine go_icmp_ge 45 dX4_agreeWith_7 (by decide) (fun c => ?_) (fun c => ?_)
    · replace h := gk_ip h c
      refine go_lv [] rfl ?_
      exact hK  _ h
    · replace h := gk_in h c
      refine go_aload_n 1 dX4_agreeWith_10 rfl rfl ?_
      refine go_getR dX4_agreeWith_11 fl_RX4_29 h_a1 (rr_2_2 h_a1) ?_
      refine go_aload_n 0 dX4_agreeWith_14 rfl rfl ?_
      refine go_getR dX4_agreeWith_15 fl_RX4_15 h_this (rr_4_1 h_this) ?_
      refine go_iload_n 2 dX4_agreeWith_18 rfl rfl ?_
      refine go_iaload dX4_agreeWith_19 (rt_4_1 h_this) h.1 ?_
      replace h := h.2
      have hb1 := h.1
      refine go_aaload dX4_agreeWith_20 (rt_2_2 h_a1) hb1 ?_
      replace h := h.2
      refine go_aload_n 0 dX4_agreeWith_21 rfl rfl ?_
      refine go_getR dX4_agreeWith_22 fl_RX4_9 h_this (rr_4_0 h_this) ?_
      refine go_iload_n 2 dX4_agreeWith_25 rfl rfl ?_
      refine go_iaload dX4_agreeWith_26 (rt_4_0 h_this) h.1 ?_
      replace h := h.2
      refine go_iaload dX4_agreeWith_27 ((gk_rows (rt_2_2 h_a1) (gk_inlt hb1)).1) h.1 ?_
      replace h := h.2
      refine go_aload_n 0 dX4_agreeWith_28 rfl rfl ?_
      refine go_getR dX4_agreeWith_29 fl_RX4_18 h_this (rr_4_2 h_this) ?_
      refine go_iload_n 2 dX4_agreeWith_32 rfl rfl ?_
      refine go_iaload dX4_agreeWith_33 (rt_4_2 h_this) h.1 ?_
      replace h := h.2
      refine go_icmp_eq 39 dX4_agreeWith_34 (by decide) (fun c => ?_) (fun c => ?_)
      · replace h := gk_ip h c
        refine gb_iinc (w := 1) 2 (fun v2 => [(2, .int v2), (0, .ref this), (1, .ref a1)]) dX4_agreeWith_39 rfl (by decide) (by decide) (fun _ => rfl) (fun v2 e => ?_)
        replace h := h v2 e
        refine go_goto 2 dX4_agreeWith_42 (by decide) ?_
        refine go_lv [1, 2, 0] rfl ?_
        exact ih _ _ h
      · replace h := gk_in h c
        refine go_iconst (v := 0) dX4_agreeWith_37 (by decide) ?_
        exact go_zret dX4_agreeWith_38 (Or.inl rfl) ⟨_, rfl, h⟩
def w_X4_agreeWith (this : Nat) (a1 : Nat) (μ : gk_St) (Q : Int32 → gk_St → Prop) : Prop := (∃ n2 : Nat, w_X4_agreeWith_l2 Q (fun m3 => Q 1 m3) this a1 n2 0 μ)
set_option maxRecDepth 100000 in
set_option maxHeartbeats 4000000 in
theorem k_X4_agreeWith {this : Nat} {a1 : Nat} {μ : gk_St} {Q : Int32 → gk_St → Prop} (h_this : gk_isO this 4) (h_a1 : gk_isO a1 2) (h : w_X4_agreeWith this a1 μ Q) : gk_CT yX4_agreeWith cX4_agreeWith 3 (some .boolean) 0 [.ref this, .ref a1] μ (gk_Qi Q) := by
  unfold w_X4_agreeWith at h
  refine gk_enter (by decide) (Nat.le_of_ble_eq_true rfl) ?_
  show Go RX4 cX4_agreeWith 3 (some .boolean) 0 0 [(0, .ref this), (1, .ref a1)] [] μ (gk_Qi Q)
  refine go_iconst (v := 0) dX4_agreeWith_0 (by decide) ?_
  refine go_istore_n [(2, .int 0), (0, .ref this), (1, .ref a1)] dX4_agreeWith_1 rfl (by decide) rfl ?_
  refine go_lv [1, 2, 0] rfl ?_
  obtain ⟨n2, h⟩ := h
  refine k_X4_agreeWith_l2 h_this h_a1 (fun m3 h => ?_) n2 _ _ h
  refine go_iconst (v := 1) dX4_agreeWith_45 (by decide) ?_
  exact go_zret dX4_agreeWith_46 (Or.inr rfl) ⟨_, rfl, h⟩
def w_X5_hasSpace (this : Nat) (μ : gk_St) (Q : Int32 → gk_St → Prop) : Prop := (if (μ this 1) ≤ (μ this 2) then Q 0 μ else Q 1 μ)
set_option maxRecDepth 100000 in
set_option maxHeartbeats 4000000 in
theorem k_X5_hasSpace {this : Nat} {μ : gk_St} {Q : Int32 → gk_St → Prop} (h_this : gk_isO this 5) (h : w_X5_hasSpace this μ Q) : gk_CT yX5_hasSpace cX5_hasSpace 1 (some .boolean) 0 [.ref this] μ (gk_Qi Q) := by
  unfold w_X5_hasSpace at h
  refine gk_enter (by decide) (Nat.le_of_ble_eq_true rfl) ?_
  show Go RX5 cX5_hasSpace 1 (some .boolean) 0 0 [(0, .ref this)] [] μ (gk_Qi Q)
  refine go_aload_n 0 dX5_hasSpace_0 rfl rfl ?_
  refine go_getI dX5_hasSpace_1 fl_RX5_15 h_this (nf_5_2 h_this) ?_
  refine go_aload_n 0 dX5_hasSpace_4 rfl rfl ?_
  refine go_getI dX5_hasSpace_5 fl_RX5_25 h_this (nf_5_1 h_this) ?_
  refine go_icmp_ge 15 dX5_hasSpace_8 (by decide) (fun c => ?_) (fun c => ?_)
  · replace h := gk_ip h c
    refine go_iconst (v := 0) dX5_hasSpace_15 (by decide) ?_
    exact go_zret dX5_hasSpace_16 (Or.inl rfl) ⟨_, rfl, h⟩
  · replace h := gk_in h c
    refine go_iconst (v := 1) dX5_hasSpace_11 (by decide) ?_
    refine go_goto 16 dX5_hasSpace_12 (by decide) ?_
    exact go_zret dX5_hasSpace_16 (Or.inr rfl) ⟨_, rfl, h⟩
def w_X5_append (this : Nat) (x1 : Int32) (μ : gk_St) (Q : gk_St → Prop) : Prop := w_X5_hasSpace this μ (fun r2 m1 => (if r2 = 0 then Q m1 else (vp_in (m1 this 2) (gk_ln (gk_rf this 0)) ∧ (∀ m3 : gk_St, m3 = gk_up m1 (gk_rf this 0) (Int32.toNatClampNeg (m1 this 2)) x1 → (∀ m4 : gk_St, m4 = gk_up m3 this 2 ((m3 this 2) + 1) → Q m4)))))
set_option maxRecDepth 100000 in
set_option maxHeartbeats 4000000 in
theorem k_X5_append {this : Nat} {x1 : Int32} {μ : gk_St} {Q : gk_St → Prop} (h_this : gk_isO this 5) (h : w_X5_append this x1 μ Q) : gk_CT yX5_append cX5_append 2 none 1 [.ref this, .int x1] μ (gk_Qv Q) := by
  unfold w_X5_append at h
  refine gk_enter (by decide) (Nat.le_of_ble_eq_true rfl) ?_
  show Go RX5 cX5_append 2 none 1 0 [(0, .ref this), (1, .int x1)] [] μ (gk_Qv Q)
  refine go_aload_n 0 dX5_append_0 rfl rfl ?_
  refine go_callV (ci := 5) (d' := 0) [] dX5_append_1 cw_RX5_28 ki_X5_hasSpace ks_X5_hasSpace rfl (by decide) h_this rfl (Nat.le_of_ble_eq_true rfl) (by decide) (k_X5_hasSpace h_this h) (gk_ki (fun r2 m1 h => ?_))
  refine go_if_eq 27 dX5_append_4 (by decide) (fun c => ?_) (fun c => ?_)
  · replace h := gk_ip h c
    exact go_vret dX5_append_27 ⟨rfl, h⟩
  · replace h := gk_in h c
    refine go_aload_n 0 dX5_append_7 rfl rfl ?_
    refine go_getR dX5_append_8 fl_RX5_9 h_this (rr_5_0 h_this) ?_
    refine go_aload_n 0 dX5_append_11 rfl rfl ?_
    refine go_getI dX5_append_12 fl_RX5_15 h_this (nf_5_2 h_this) ?_
    refine go_iload_n 1 dX5_append_15 rfl rfl ?_
    refine gb_iastore dX5_append_16 (rt_5_0 h_this) h.1 (fun m3 e => ?_)
    replace h := h.2 m3 e
    refine go_aload_n 0 dX5_append_17 rfl rfl ?_
    refine go_dup dX5_append_18 rfl ?_
    refine go_getI dX5_append_19 fl_RX5_15 h_this (nf_5_2 h_this) ?_
    refine go_iconst (v := 1) dX5_append_22 (by decide) ?_
    refine go_iadd dX5_append_23 ?_
    refine gb_putI dX5_append_24 fp_RX5_15 h_this (nf_5_2 h_this) (fun m4 e => ?_)
    replace h := h m4 e
    exact go_vret dX5_append_27 ⟨rfl, h⟩
def w_X6_part (this : Nat) (x1 : Int32) (x2 : Int32) (μ : gk_St) (Q : Int32 → gk_St → Prop) : Prop := (if x2 = 0 then (vp_in x1 (gk_ln (gk_rf this 3)) ∧ Q (μ (gk_rf this 3) x1.toNatClampNeg) μ) else (if x2 = 1 then (vp_in x1 (gk_ln (gk_rf this 4)) ∧ Q (μ (gk_rf this 4) x1.toNatClampNeg) μ) else (vp_in x1 (gk_ln (gk_rf this 5)) ∧ Q (μ (gk_rf this 5) x1.toNatClampNeg) μ)))
set_option maxRecDepth 100000 in
set_option maxHeartbeats 4000000 in
theorem k_X6_part {this : Nat} {x1 : Int32} {x2 : Int32} {μ : gk_St} {Q : Int32 → gk_St → Prop} (h_this : gk_isO this 6) (h : w_X6_part this x1 x2 μ Q) : gk_CT yX6_part cX6_part 3 (some .int) 0 [.ref this, .int x1, .int x2] μ (gk_Qi Q) := by
  unfold w_X6_part at h
  refine gk_enter (by decide) (Nat.le_of_ble_eq_true rfl) ?_
  show Go RX6 cX6_part 3 (some .int) 0 0 [(0, .ref this), (1, .int x1), (2, .int x2)] [] μ (gk_Qi Q)
  refine go_iload_n 2 dX6_part_0 rfl rfl ?_
  by_cases c : x2 = 0
  · replace h := gk_ip h c
    refine go_lookup (off := 27) 28 dX6_part_1 (by decide) (by rw [c]; decide) (by decide) ?_
    refine go_aload_n 0 dX6_part_28 rfl rfl ?_
    refine go_getR dX6_part_29 fl_RX6_9 h_this (rr_6_3 h_this) ?_
    refine go_iload_n 1 dX6_part_32 rfl rfl ?_
    refine go_iaload dX6_part_33 (rt_6_3 h_this) h.1 ?_
    replace h := h.2
    exact go_iret dX6_part_34 ⟨_, rfl, h⟩
  replace h := gk_in h c
  have c0 := c
  clear c
  by_cases c : x2 = 1
  · replace h := gk_ip h c
    refine go_lookup (off := 34) 35 dX6_part_1 (by decide) (by rw [c]; decide) (by decide) ?_
    refine go_aload_n 0 dX6_part_35 rfl rfl ?_
    refine go_getR dX6_part_36 fl_RX6_15 h_this (rr_6_4 h_this) ?_
    refine go_iload_n 1 dX6_part_39 rfl rfl ?_
    refine go_iaload dX6_part_40 (rt_6_4 h_this) h.1 ?_
    replace h := h.2
    exact go_iret dX6_part_41 ⟨_, rfl, h⟩
  replace h := gk_in h c
  have c1 := c
  clear c
  have t0 := gk_neT (a := 0) (by decide) c0
  have t1 := gk_neT (a := 1) (by decide) c1
  refine go_lookup (off := 41) 42 dX6_part_1 (by decide) (gk_lk2 t0 t1) (by decide) ?_
  refine go_aload_n 0 dX6_part_42 rfl rfl ?_
  refine go_getR dX6_part_43 fl_RX6_18 h_this (rr_6_5 h_this) ?_
  refine go_iload_n 1 dX6_part_46 rfl rfl ?_
  refine go_iaload dX6_part_47 (rt_6_5 h_this) h.1 ?_
  replace h := h.2
  exact go_iret dX6_part_48 ⟨_, rfl, h⟩
def w_X6_isTaken_l2 (Q : Int32 → gk_St → Prop) (K : gk_St → Prop) (a1 : Nat) : Nat → Int32 → Int32 → gk_St → Prop
  | 0, _, _, _ => False
  | n + 1, x2, x3, μ => (if x2 ≤ x3 then K  μ else (vp_in x3 (gk_ln (gk_rf a1 0)) ∧ (vp_in x2 (gk_ln (gk_rf a1 0)) ∧ (if (μ (gk_rf a1 0) x3.toNatClampNeg) = (μ (gk_rf a1 0) x2.toNatClampNeg) then Q 1 μ else (∀ v1 : Int32, v1 = x3 + 4 → w_X6_isTaken_l2 Q K a1 n x2 v1 μ)))))
set_option maxRecDepth 100000 in
set_option maxHeartbeats 4000000 in
theorem k_X6_isTaken_l2 {Q : Int32 → gk_St → Prop} {K : gk_St → Prop} {a1 : Nat} (h_a1 : gk_isO a1 5) (hK : ∀ (em : gk_St), K  em → Go RX6 cX6_isTaken 4 (some .boolean) 0 30 [] [] em (gk_Qi Q)) : ∀ (n : Nat) (x2 : Int32) (x3 : Int32) (μ : gk_St), w_X6_isTaken_l2 Q K a1 n x2 x3 μ → Go RX6 cX6_isTaken 4 (some .boolean) 0 2 [(1, .ref a1), (2, .int x2), (3, .int x3)] [] μ (gk_Qi Q) := by
  intro n
  induction n with
  | zero =>
    intro x2 x3 μ h
    exact False.elim h
  | succ n ih =>
    intro x2 x3 μ h
    unfold w_X6_isTaken_l2 at h
    refine go_iload_n 2 dX6_isTaken_2 rfl rfl ?_
    refine go_iload_n 1 dX6_isTaken_3 rfl rfl ?_
    refine go_icmp_ge 30 dX6_isTaken_4 (by decide) (fun c => ?_) (fun c => ?_)
    · replace h := gk_ip h c
      refine go_lv [] rfl ?_
      exact hK  _ h
    · replace h := gk_in h c
      refine go_aload_n 0 dX6_isTaken_7 rfl rfl ?_
      refine go_getR dX6_isTaken_8 fl_RX6_54 h_a1 (rr_5_0 h_a1) ?_
      refine go_iload_n 2 dX6_isTaken_11 rfl rfl ?_
      refine go_iaload dX6_isTaken_12 (rt_5_0 h_a1) h.1 ?_
      replace h := h.2
      refine go_aload_n 0 dX6_isTaken_13 rfl rfl ?_
      refine go_getR dX6_isTaken_14 fl_RX6_54 h_a1 (rr_5_0 h_a1) ?_
      refine go_iload_n 1 dX6_isTaken_17 rfl rfl ?_
      refine go_iaload dX6_isTaken_18 (rt_5_0 h_a1) h.1 ?_
      replace h := h.2
      refine go_icmp_ne 24 dX6_isTaken_19 (by decide) (fun c => ?_) (fun c => ?_)
      · replace h := gk_in h c
        refine gb_iinc (w := 4) 2 (fun v1 => [(3, .int v1), (1, .ref a1), (2, .int x2)]) dX6_isTaken_24 rfl (by decide) (by decide) (fun _ => rfl) (fun v1 e => ?_)
        replace h := h v1 e
        refine go_goto 2 dX6_isTaken_27 (by decide) ?_
        refine go_lv [1, 2, 0] rfl ?_
        exact ih _ _ _ h
      · replace h := gk_ip h c
        refine go_iconst (v := 1) dX6_isTaken_22 (by decide) ?_
        exact go_zret dX6_isTaken_23 (Or.inr rfl) ⟨_, rfl, h⟩
def w_X6_isTaken (this : Nat) (a1 : Nat) (x2 : Int32) (μ : gk_St) (Q : Int32 → gk_St → Prop) : Prop := (∃ n2 : Nat, w_X6_isTaken_l2 Q (fun m2 => Q 0 m2) a1 n2 x2 0 μ)
set_option maxRecDepth 100000 in
set_option maxHeartbeats 4000000 in
theorem k_X6_isTaken {this : Nat} {a1 : Nat} {x2 : Int32} {μ : gk_St} {Q : Int32 → gk_St → Prop} (h_this : gk_isO this 6) (h_a1 : gk_isO a1 5) (h : w_X6_isTaken this a1 x2 μ Q) : gk_CT yX6_isTaken cX6_isTaken 4 (some .boolean) 0 [.ref this, .ref a1, .int x2] μ (gk_Qi Q) := by
  unfold w_X6_isTaken at h
  refine gk_enter (by decide) (Nat.le_of_ble_eq_true rfl) ?_
  show Go RX6 cX6_isTaken 4 (some .boolean) 0 0 [(0, .ref this), (1, .ref a1), (2, .int x2)] [] μ (gk_Qi Q)
  refine go_iconst (v := 0) dX6_isTaken_0 (by decide) ?_
  refine go_istore_n [(3, .int 0), (0, .ref this), (1, .ref a1), (2, .int x2)] dX6_isTaken_1 rfl (by decide) rfl ?_
  refine go_lv [2, 3, 0] rfl ?_
  obtain ⟨n2, h⟩ := h
  refine k_X6_isTaken_l2 h_a1 (fun m2 h => ?_) n2 _ _ _ h
  refine go_iconst (v := 0) dX6_isTaken_30 (by decide) ?_
  exact go_zret dX6_isTaken_31 (Or.inl rfl) ⟨_, rfl, h⟩
def w_X6_goesOn (this : Nat) (a1 : Nat) (x2 : Int32) (μ : gk_St) (Q : Int32 → gk_St → Prop) : Prop := (vp_in x2 (gk_ln (gk_rf a1 0)) ∧ (∀ v1 : Int32, v1 = (μ (gk_rf a1 0) x2.toNatClampNeg) → (if (gk_md x2 4) = 0 then (if (μ this 1) ≤ (x2 / 4) then Q 0 μ else w_X7_within v1 97 120 μ (fun r3 m2 => (if r3 = 0 then Q 0 m2 else (if (m2 this 2) = 0 then Q 1 m2 else w_X6_isTaken this a1 x2 m2 (fun r5 m4 => (if r5 = 0 then Q 1 m4 else Q 0 m4)))))) else (if (gk_md x2 4) = 1 then (if (gk_ix (gk_rf this 0) (((v1).toUInt32 % 65536).toInt32)) < 0 then Q 0 μ else Q 1 μ) else (if (gk_md x2 4) = 2 then w_X7_within v1 49 57 μ (fun r7 m6 => (gk_b r7 ∧ Q r7 m6)) else (if v1 = 59 then Q 1 μ else Q 0 μ))))))
set_option maxRecDepth 100000 in
set_option maxHeartbeats 4000000 in
theorem k_X6_goesOn {this : Nat} {a1 : Nat} {x2 : Int32} {μ : gk_St} {Q : Int32 → gk_St → Prop} (h_this : gk_isO this 6) (h_a1 : gk_isO a1 5) (h : w_X6_goesOn this a1 x2 μ Q) : gk_CT yX6_goesOn cX6_goesOn 4 (some .boolean) 6 [.ref this, .ref a1, .int x2] μ (gk_Qi Q) := by
  unfold w_X6_goesOn at h
  refine gk_enter (by decide) (Nat.le_of_ble_eq_true rfl) ?_
  show Go RX6 cX6_goesOn 4 (some .boolean) 6 0 [(0, .ref this), (1, .ref a1), (2, .int x2)] [] μ (gk_Qi Q)
  refine go_aload_n 1 dX6_goesOn_0 rfl rfl ?_
  refine go_getR dX6_goesOn_1 fl_RX6_54 h_a1 (rr_5_0 h_a1) ?_
  refine go_iload_n 2 dX6_goesOn_4 rfl rfl ?_
  refine go_iaload dX6_goesOn_5 (rt_5_0 h_a1) h.1 ?_
  replace h := h.2
  refine gb_istore_n (fun v1 => [(3, .int v1), (0, .ref this), (1, .ref a1), (2, .int x2)]) dX6_goesOn_6 rfl (by decide) (fun _ => rfl) (fun v1 e => ?_)
  replace h := h v1 e
  refine go_iload_n 3 dX6_goesOn_7 rfl rfl ?_
  refine go_iconst (v := 4) dX6_goesOn_8 (by decide) ?_
  refine gb_irem dX6_goesOn_9 (by decide) ?_
  by_cases c : (gk_md x2 4) = 0
  · replace h := gk_ip h c
    refine go_tableIn (k := 0) (off := 26) 36 dX6_goesOn_10 c (by decide) (by decide) (by decide) (by decide) ?_
    refine go_iload_n 3 dX6_goesOn_36 rfl rfl ?_
    refine go_iconst (v := 4) dX6_goesOn_37 (by decide) ?_
    refine go_idiv dX6_goesOn_38 (by decide) ?_
    refine go_aload_n 1 dX6_goesOn_39 rfl rfl ?_
    refine go_getI dX6_goesOn_40 fl_RX6_38 h_this (nf_6_1 h_this) ?_
    refine go_icmp_ge 77 dX6_goesOn_43 (by decide) (fun c => ?_) (fun c => ?_)
    · replace h := gk_ip h c
      refine go_iconst (v := 0) dX6_goesOn_77 (by decide) ?_
      exact go_zret dX6_goesOn_78 (Or.inl rfl) ⟨_, rfl, h⟩
    · replace h := gk_in h c
      refine go_iload_n 0 dX6_goesOn_46 rfl rfl ?_
      refine go_bipush (v := 97) dX6_goesOn_47 (by decide) ?_
      refine go_bipush (v := 120) dX6_goesOn_49 (by decide) ?_
      refine go_callSN (d' := 0) (n := 3) [.int v1, .int 97, .int 120] dX6_goesOn_51 cn_RX6_67 kc_X7_within kn_X7_within (by decide +kernel) (by decide) kt_X7_within rfl (Nat.le_of_ble_eq_true rfl) (by decide) (k_X7_within h) (gk_ki (fun r3 m2 h => ?_))
      refine go_if_eq 77 dX6_goesOn_54 (by decide) (fun c => ?_) (fun c => ?_)
      · replace h := gk_ip h c
        refine go_iconst (v := 0) dX6_goesOn_77 (by decide) ?_
        exact go_zret dX6_goesOn_78 (Or.inl rfl) ⟨_, rfl, h⟩
      · replace h := gk_in h c
        refine go_aload_n 1 dX6_goesOn_57 rfl rfl ?_
        refine go_getI dX6_goesOn_58 fl_RX6_41 h_this (nf_6_2 h_this) ?_
        refine go_if_eq 73 dX6_goesOn_61 (by decide) (fun c => ?_) (fun c => ?_)
        · replace h := gk_ip h c
          refine go_iconst (v := 1) dX6_goesOn_73 (by decide) ?_
          refine go_goto 78 dX6_goesOn_74 (by decide) ?_
          exact go_zret dX6_goesOn_78 (Or.inr rfl) ⟨_, rfl, h⟩
        · replace h := gk_in h c
          refine go_aload_n 1 dX6_goesOn_64 rfl rfl ?_
          refine go_aload_n 2 dX6_goesOn_65 rfl rfl ?_
          refine go_iload_n 3 dX6_goesOn_66 rfl rfl ?_
          refine go_callV (ci := 6) (d' := 0) [.ref a1, .int x2] dX6_goesOn_67 cw_RX6_71 ki_X6_isTaken ks_X6_isTaken rfl (by decide) h_this rfl (Nat.le_of_ble_eq_true rfl) (by decide) (k_X6_isTaken h_this h_a1 h) (gk_ki (fun r5 m4 h => ?_))
          refine go_if_ne 77 dX6_goesOn_70 (by decide) (fun c => ?_) (fun c => ?_)
          · replace h := gk_in h c
            refine go_iconst (v := 0) dX6_goesOn_77 (by decide) ?_
            exact go_zret dX6_goesOn_78 (Or.inl rfl) ⟨_, rfl, h⟩
          · replace h := gk_ip h c
            refine go_iconst (v := 1) dX6_goesOn_73 (by decide) ?_
            refine go_goto 78 dX6_goesOn_74 (by decide) ?_
            exact go_zret dX6_goesOn_78 (Or.inr rfl) ⟨_, rfl, h⟩
  replace h := gk_in h c
  have c0 := c
  clear c
  by_cases c : (gk_md x2 4) = 1
  · replace h := gk_ip h c
    refine go_tableIn (k := 1) (off := 69) 79 dX6_goesOn_10 c (by decide) (by decide) (by decide) (by decide) ?_
    refine go_aload_n 1 dX6_goesOn_79 rfl rfl ?_
    refine go_getR dX6_goesOn_80 fl_RX6_28 h_this (rr_6_0 h_this) ?_
    refine go_iload_n 0 dX6_goesOn_83 rfl rfl ?_
    refine go_i2c dX6_goesOn_84 ?_
    refine go_ixof dX6_goesOn_85 cw_RX6_57 (rs_6_0 h_this) (Nat.le_of_ble_eq_true rfl) (by decide) ?_
    refine go_if_lt 95 dX6_goesOn_88 (by decide) (fun c => ?_) (fun c => ?_)
    · replace h := gk_ip h c
      refine go_iconst (v := 0) dX6_goesOn_95 (by decide) ?_
      exact go_zret dX6_goesOn_96 (Or.inl rfl) ⟨_, rfl, h⟩
    · replace h := gk_in h c
      refine go_iconst (v := 1) dX6_goesOn_91 (by decide) ?_
      refine go_goto 96 dX6_goesOn_92 (by decide) ?_
      exact go_zret dX6_goesOn_96 (Or.inr rfl) ⟨_, rfl, h⟩
  replace h := gk_in h c
  have c1 := c
  clear c
  by_cases c : (gk_md x2 4) = 2
  · replace h := gk_ip h c
    refine go_tableIn (k := 2) (off := 87) 97 dX6_goesOn_10 c (by decide) (by decide) (by decide) (by decide) ?_
    refine go_iload_n 0 dX6_goesOn_97 rfl rfl ?_
    refine go_bipush (v := 49) dX6_goesOn_98 (by decide) ?_
    refine go_bipush (v := 57) dX6_goesOn_100 (by decide) ?_
    refine go_callSN (d' := 0) (n := 3) [.int v1, .int 49, .int 57] dX6_goesOn_102 cn_RX6_67 kc_X7_within kn_X7_within (by decide +kernel) (by decide) kt_X7_within rfl (Nat.le_of_ble_eq_true rfl) (by decide) (k_X7_within h) (gk_ki (fun r7 m6 h => ?_))
    exact go_zret dX6_goesOn_105 h.1 ⟨_, rfl, h.2⟩
  replace h := gk_in h c
  have c2 := c
  clear c
  have t0 := gk_neT (a := 0) (by decide) c0
  have t1 := gk_neT (a := 1) (by decide) c1
  have t2 := gk_neT (a := 2) (by decide) c2
  refine go_tableOut 106 dX6_goesOn_10 (by omega) (by decide) ?_
  refine go_iload_n 0 dX6_goesOn_106 rfl rfl ?_
  refine go_bipush (v := 59) dX6_goesOn_107 (by decide) ?_
  refine go_icmp_ne 116 dX6_goesOn_109 (by decide) (fun c => ?_) (fun c => ?_)
  · replace h := gk_in h c
    refine go_iconst (v := 0) dX6_goesOn_116 (by decide) ?_
    exact go_zret dX6_goesOn_117 (Or.inl rfl) ⟨_, rfl, h⟩
  · replace h := gk_ip h c
    refine go_iconst (v := 1) dX6_goesOn_112 (by decide) ?_
    refine go_goto 117 dX6_goesOn_113 (by decide) ?_
    exact go_zret dX6_goesOn_117 (Or.inr rfl) ⟨_, rfl, h⟩
def w_X6_faultIn_l2 (Q : Int32 → gk_St → Prop) (K : gk_St → Prop) (this : Nat) (a1 : Nat) : Nat → Int32 → gk_St → Prop
  | 0, _, _ => False
  | n + 1, x2, μ => (if (μ a1 2) ≤ x2 then K  μ else w_X6_goesOn this a1 x2 μ (fun r2 m1 => (if r2 = 0 then Q x2 m1 else (∀ v3 : Int32, v3 = x2 + 1 → w_X6_faultIn_l2 Q K this a1 n v3 m1))))
set_option maxRecDepth 100000 in
set_option maxHeartbeats 4000000 in
theorem k_X6_faultIn_l2 {Q : Int32 → gk_St → Prop} {K : gk_St → Prop} {this a1 : Nat} (h_this : gk_isO this 6) (h_a1 : gk_isO a1 5) (hK : ∀ (em : gk_St), K  em → Go RX6 cX6_faultIn 3 (some .int) 7 27 [(1, .ref a1)] [] em (gk_Qi Q)) : ∀ (n : Nat) (x2 : Int32) (μ : gk_St), w_X6_faultIn_l2 Q K this a1 n x2 μ → Go RX6 cX6_faultIn 3 (some .int) 7 2 [(0, .ref this), (1, .ref a1), (2, .int x2)] [] μ (gk_Qi Q) := by
  intro n
  induction n with
  | zero =>
    intro x2 μ h
    exact False.elim h
  | succ n ih =>
    intro x2 μ h
    unfold w_X6_faultIn_l2 at h
    refine go_iload_n 2 dX6_faultIn_2 rfl rfl ?_
    refine go_aload_n 1 dX6_faultIn_3 rfl rfl ?_
    refine go_getI dX6_faultIn_4 fl_RX6_49 h_a1 (nf_5_2 h_a1) ?_
    refine go_icmp_ge 27 dX6_faultIn_7 (by decide) (fun c => ?_) (fun c => ?_)
    · replace h := gk_ip h c
      refine go_lv [1] rfl ?_
      exact hK  _ h
    · replace h := gk_in h c
      refine go_aload_n 0 dX6_faultIn_10 rfl rfl ?_
      refine go_aload_n 1 dX6_faultIn_11 rfl rfl ?_
      refine go_iload_n 2 dX6_faultIn_12 rfl rfl ?_
      refine go_callV (ci := 6) (d' := 6) [.ref a1, .int x2] dX6_faultIn_13 cw_RX6_63 ki_X6_goesOn ks_X6_goesOn rfl (by decide) h_this rfl (Nat.le_of_ble_eq_true rfl) (by decide) (k_X6_goesOn h_this h_a1 h) (gk_ki (fun r2 m1 h => ?_))
      refine go_if_ne 21 dX6_faultIn_16 (by decide) (fun c => ?_) (fun c => ?_)
      · replace h := gk_in h c
        refine gb_iinc (w := 1) 2 (fun v3 => [(2, .int v3), (0, .ref this), (1, .ref a1)]) dX6_faultIn_21 rfl (by decide) (by decide) (fun _ => rfl) (fun v3 e => ?_)
        replace h := h v3 e
        refine go_goto 2 dX6_faultIn_24 (by decide) ?_
        refine go_lv [1, 2, 0] rfl ?_
        exact ih _ _ h
      · replace h := gk_ip h c
        refine go_iload_n 2 dX6_faultIn_19 rfl rfl ?_
        exact go_iret dX6_faultIn_20 ⟨_, rfl, h⟩
def w_X6_faultIn (this : Nat) (a1 : Nat) (μ : gk_St) (Q : Int32 → gk_St → Prop) : Prop := (∃ n2 : Nat, w_X6_faultIn_l2 Q (fun m4 => (if (m4 a1 2) = 0 then Q (-1) m4 else (if (gk_md (m4 a1 2) 4) = 3 then Q (-1) m4 else Q (m4 a1 2) m4))) this a1 n2 0 μ)
set_option maxRecDepth 100000 in
set_option maxHeartbeats 4000000 in
theorem k_X6_faultIn {this : Nat} {a1 : Nat} {μ : gk_St} {Q : Int32 → gk_St → Prop} (h_this : gk_isO this 6) (h_a1 : gk_isO a1 5) (h : w_X6_faultIn this a1 μ Q) : gk_CT yX6_faultIn cX6_faultIn 3 (some .int) 7 [.ref this, .ref a1] μ (gk_Qi Q) := by
  unfold w_X6_faultIn at h
  refine gk_enter (by decide) (Nat.le_of_ble_eq_true rfl) ?_
  show Go RX6 cX6_faultIn 3 (some .int) 7 0 [(0, .ref this), (1, .ref a1)] [] μ (gk_Qi Q)
  refine go_iconst (v := 0) dX6_faultIn_0 (by decide) ?_
  refine go_istore_n [(2, .int 0), (0, .ref this), (1, .ref a1)] dX6_faultIn_1 rfl (by decide) rfl ?_
  refine go_lv [1, 2, 0] rfl ?_
  obtain ⟨n2, h⟩ := h
  refine k_X6_faultIn_l2 h_this h_a1 (fun m4 h => ?_) n2 _ _ h
  refine go_aload_n 0 dX6_faultIn_27 rfl rfl ?_
  refine go_getI dX6_faultIn_28 fl_RX6_49 h_a1 (nf_5_2 h_a1) ?_
  refine go_if_eq 44 dX6_faultIn_31 (by decide) (fun c => ?_) (fun c => ?_)
  · replace h := gk_ip h c
    refine go_iconst (v := (-1)) dX6_faultIn_44 (by decide) ?_
    refine go_goto 52 dX6_faultIn_45 (by decide) ?_
    exact go_iret dX6_faultIn_52 ⟨_, rfl, h⟩
  · replace h := gk_in h c
    refine go_aload_n 0 dX6_faultIn_34 rfl rfl ?_
    refine go_getI dX6_faultIn_35 fl_RX6_49 h_a1 (nf_5_2 h_a1) ?_
    refine go_iconst (v := 4) dX6_faultIn_38 (by decide) ?_
    refine gb_irem dX6_faultIn_39 (by decide) ?_
    refine go_iconst (v := 3) dX6_faultIn_40 (by decide) ?_
    refine go_icmp_ne 48 dX6_faultIn_41 (by decide) (fun c => ?_) (fun c => ?_)
    · replace h := gk_in h c
      refine go_aload_n 0 dX6_faultIn_48 rfl rfl ?_
      refine go_getI dX6_faultIn_49 fl_RX6_49 h_a1 (nf_5_2 h_a1) ?_
      exact go_iret dX6_faultIn_52 ⟨_, rfl, h⟩
    · replace h := gk_ip h c
      refine go_iconst (v := (-1)) dX6_faultIn_44 (by decide) ?_
      refine go_goto 52 dX6_faultIn_45 (by decide) ?_
      exact go_iret dX6_faultIn_52 ⟨_, rfl, h⟩
def w_X6_parse_l25 (Q : gk_St → Prop) (K : gk_St → Prop) (this : Nat) (a1 : Nat) : Nat → Int32 → gk_St → Prop
  | 0, _, _ => False
  | n + 1, x2, μ => (if (μ a1 2) ≤ (x2 + 2) then K  μ else (if (μ this 1) ≤ (μ this 6) then K  μ else (vp_in x2 (gk_ln (gk_rf a1 0)) ∧ (vp_in (μ this 6) (gk_ln (gk_rf this 3)) ∧ (∀ m5 : gk_St, m5 = gk_up μ (gk_rf this 3) (Int32.toNatClampNeg (μ this 6)) ((μ (gk_rf a1 0) x2.toNatClampNeg) - 97) → (vp_in (x2 + 1) (gk_ln (gk_rf a1 0)) ∧ (vp_in (m5 this 6) (gk_ln (gk_rf this 4)) ∧ (∀ m6 : gk_St, m6 = gk_up m5 (gk_rf this 4) (Int32.toNatClampNeg (m5 this 6)) (gk_ix (gk_rf this 0) ((((m5 (gk_rf a1 0) (Int32.toNatClampNeg (x2 + 1)))).toUInt32 % 65536).toInt32)) → (vp_in (x2 + 2) (gk_ln (gk_rf a1 0)) ∧ (vp_in (m6 this 6) (gk_ln (gk_rf this 5)) ∧ (∀ m7 : gk_St, m7 = gk_up m6 (gk_rf this 5) (Int32.toNatClampNeg (m6 this 6)) ((m6 (gk_rf a1 0) (Int32.toNatClampNeg (x2 + 2))) - 48) → (∀ m8 : gk_St, m8 = gk_up m7 this 6 ((m7 this 6) + 1) → (∀ v9 : Int32, v9 = x2 + 4 → w_X6_parse_l25 Q K this a1 n v9 m8)))))))))))))
set_option maxRecDepth 100000 in
set_option maxHeartbeats 4000000 in
theorem k_X6_parse_l25 {Q : gk_St → Prop} {K : gk_St → Prop} {this a1 : Nat} (h_this : gk_isO this 6) (h_a1 : gk_isO a1 5) (hK : ∀ (em : gk_St), K  em → Go RX6 cX6_parse 3 none 8 125 [] [] em (gk_Qv Q)) : ∀ (n : Nat) (x2 : Int32) (μ : gk_St), w_X6_parse_l25 Q K this a1 n x2 μ → Go RX6 cX6_parse 3 none 8 25 [(0, .ref this), (1, .ref a1), (2, .int x2)] [] μ (gk_Qv Q) := by
  intro n
  induction n with
  | zero =>
    intro x2 μ h
    exact False.elim h
  | succ n ih =>
    intro x2 μ h
    unfold w_X6_parse_l25 at h
    refine go_iload_n 2 dX6_parse_25 rfl rfl ?_
    refine go_iconst (v := 2) dX6_parse_26 (by decide) ?_
    refine go_iadd dX6_parse_27 ?_
    refine go_aload_n 1 dX6_parse_28 rfl rfl ?_
    refine go_getI dX6_parse_29 fl_RX6_49 h_a1 (nf_5_2 h_a1) ?_
    refine go_icmp_ge 125 dX6_parse_32 (by decide) (fun c => ?_) (fun c => ?_)
    · replace h := gk_ip h c
      refine go_lv [] rfl ?_
      exact hK  _ h
    · replace h := gk_in h c
      refine go_aload_n 0 dX6_parse_35 rfl rfl ?_
      refine go_getI dX6_parse_36 fl_RX6_21 h_this (nf_6_6 h_this) ?_
      refine go_aload_n 0 dX6_parse_39 rfl rfl ?_
      refine go_getI dX6_parse_40 fl_RX6_38 h_this (nf_6_1 h_this) ?_
      refine go_icmp_ge 125 dX6_parse_43 (by decide) (fun c => ?_) (fun c => ?_)
      · replace h := gk_ip h c
        refine go_lv [] rfl ?_
        exact hK  _ h
      · replace h := gk_in h c
        refine go_aload_n 0 dX6_parse_46 rfl rfl ?_
        refine go_getR dX6_parse_47 fl_RX6_9 h_this (rr_6_3 h_this) ?_
        refine go_aload_n 0 dX6_parse_50 rfl rfl ?_
        refine go_getI dX6_parse_51 fl_RX6_21 h_this (nf_6_6 h_this) ?_
        refine go_aload_n 1 dX6_parse_54 rfl rfl ?_
        refine go_getR dX6_parse_55 fl_RX6_54 h_a1 (rr_5_0 h_a1) ?_
        refine go_iload_n 2 dX6_parse_58 rfl rfl ?_
        refine go_iaload dX6_parse_59 (rt_5_0 h_a1) h.1 ?_
        replace h := h.2
        refine go_bipush (v := 97) dX6_parse_60 (by decide) ?_
        refine go_isub dX6_parse_62 ?_
        refine gb_iastore dX6_parse_63 (rt_6_3 h_this) h.1 (fun m5 e => ?_)
        replace h := h.2 m5 e
        refine go_aload_n 0 dX6_parse_64 rfl rfl ?_
        refine go_getR dX6_parse_65 fl_RX6_15 h_this (rr_6_4 h_this) ?_
        refine go_aload_n 0 dX6_parse_68 rfl rfl ?_
        refine go_getI dX6_parse_69 fl_RX6_21 h_this (nf_6_6 h_this) ?_
        refine go_aload_n 0 dX6_parse_72 rfl rfl ?_
        refine go_getR dX6_parse_73 fl_RX6_28 h_this (rr_6_0 h_this) ?_
        refine go_aload_n 1 dX6_parse_76 rfl rfl ?_
        refine go_getR dX6_parse_77 fl_RX6_54 h_a1 (rr_5_0 h_a1) ?_
        refine go_iload_n 2 dX6_parse_80 rfl rfl ?_
        refine go_iconst (v := 1) dX6_parse_81 (by decide) ?_
        refine go_iadd dX6_parse_82 ?_
        refine go_iaload dX6_parse_83 (rt_5_0 h_a1) h.1 ?_
        replace h := h.2
        refine go_i2c dX6_parse_84 ?_
        refine go_ixof dX6_parse_85 cw_RX6_57 (rs_6_0 h_this) (Nat.le_of_ble_eq_true rfl) (by decide) ?_
        refine gb_iastore dX6_parse_88 (rt_6_4 h_this) h.1 (fun m6 e => ?_)
        replace h := h.2 m6 e
        refine go_aload_n 0 dX6_parse_89 rfl rfl ?_
        refine go_getR dX6_parse_90 fl_RX6_18 h_this (rr_6_5 h_this) ?_
        refine go_aload_n 0 dX6_parse_93 rfl rfl ?_
        refine go_getI dX6_parse_94 fl_RX6_21 h_this (nf_6_6 h_this) ?_
        refine go_aload_n 1 dX6_parse_97 rfl rfl ?_
        refine go_getR dX6_parse_98 fl_RX6_54 h_a1 (rr_5_0 h_a1) ?_
        refine go_iload_n 2 dX6_parse_101 rfl rfl ?_
        refine go_iconst (v := 2) dX6_parse_102 (by decide) ?_
        refine go_iadd dX6_parse_103 ?_
        refine go_iaload dX6_parse_104 (rt_5_0 h_a1) h.1 ?_
        replace h := h.2
        refine go_bipush (v := 48) dX6_parse_105 (by decide) ?_
        refine go_isub dX6_parse_107 ?_
        refine gb_iastore dX6_parse_108 (rt_6_5 h_this) h.1 (fun m7 e => ?_)
        replace h := h.2 m7 e
        refine go_aload_n 0 dX6_parse_109 rfl rfl ?_
        refine go_dup dX6_parse_110 rfl ?_
        refine go_getI dX6_parse_111 fl_RX6_21 h_this (nf_6_6 h_this) ?_
        refine go_iconst (v := 1) dX6_parse_114 (by decide) ?_
        refine go_iadd dX6_parse_115 ?_
        refine gb_putI dX6_parse_116 fp_RX6_21 h_this (nf_6_6 h_this) (fun m8 e => ?_)
        replace h := h m8 e
        refine gb_iinc (w := 4) 2 (fun v9 => [(2, .int v9), (0, .ref this), (1, .ref a1)]) dX6_parse_119 rfl (by decide) (by decide) (fun _ => rfl) (fun v9 e => ?_)
        replace h := h v9 e
        refine go_goto 25 dX6_parse_122 (by decide) ?_
        refine go_lv [1, 2, 0] rfl ?_
        exact ih _ _ h
def w_X6_parse (this : Nat) (a1 : Nat) (μ : gk_St) (Q : gk_St → Prop) : Prop := w_X6_faultIn this a1 μ (fun r2 m1 => (∀ m3 : gk_St, m3 = gk_up m1 this 7 r2 → (∀ m4 : gk_St, m4 = gk_up m3 this 6 0 → (if (m4 this 7) = (-1) then (∃ n25 : Nat, w_X6_parse_l25 Q (fun m10 => Q m10) this a1 n25 0 m4) else Q m4))))
set_option maxRecDepth 100000 in
set_option maxHeartbeats 4000000 in
theorem k_X6_parse {this : Nat} {a1 : Nat} {μ : gk_St} {Q : gk_St → Prop} (h_this : gk_isO this 6) (h_a1 : gk_isO a1 5) (h : w_X6_parse this a1 μ Q) : gk_CT yX6_parse cX6_parse 3 none 8 [.ref this, .ref a1] μ (gk_Qv Q) := by
  unfold w_X6_parse at h
  refine gk_enter (by decide) (Nat.le_of_ble_eq_true rfl) ?_
  show Go RX6 cX6_parse 3 none 8 0 [(0, .ref this), (1, .ref a1)] [] μ (gk_Qv Q)
  refine go_aload_n 0 dX6_parse_0 rfl rfl ?_
  refine go_aload_n 0 dX6_parse_1 rfl rfl ?_
  refine go_aload_n 1 dX6_parse_2 rfl rfl ?_
  refine go_callV (ci := 6) (d' := 7) [.ref a1] dX6_parse_3 cw_RX6_45 ki_X6_faultIn ks_X6_faultIn rfl (by decide) h_this rfl (Nat.le_of_ble_eq_true rfl) (by decide) (k_X6_faultIn h_this h_a1 h) (gk_ki (fun r2 m1 h => ?_))
  refine gb_putI dX6_parse_6 fp_RX6_25 h_this (nf_6_7 h_this) (fun m3 e => ?_)
  replace h := h m3 e
  refine go_aload_n 0 dX6_parse_9 rfl rfl ?_
  refine go_iconst (v := 0) dX6_parse_10 (by decide) ?_
  refine gb_putI dX6_parse_11 fp_RX6_21 h_this (nf_6_6 h_this) (fun m4 e => ?_)
  replace h := h m4 e
  refine go_aload_n 0 dX6_parse_14 rfl rfl ?_
  refine go_getI dX6_parse_15 fl_RX6_25 h_this (nf_6_7 h_this) ?_
  refine go_iconst (v := (-1)) dX6_parse_18 (by decide) ?_
  refine go_icmp_eq 23 dX6_parse_19 (by decide) (fun c => ?_) (fun c => ?_)
  · replace h := gk_ip h c
    refine go_iconst (v := 0) dX6_parse_23 (by decide) ?_
    refine go_istore_n [(2, .int 0), (0, .ref this), (1, .ref a1)] dX6_parse_24 rfl (by decide) rfl ?_
    refine go_lv [1, 2, 0] rfl ?_
    obtain ⟨n25, h⟩ := h
    refine k_X6_parse_l25 h_this h_a1 (fun m10 h => ?_) n25 _ _ h
    exact go_vret dX6_parse_125 ⟨rfl, h⟩
  · replace h := gk_in h c
    exact go_vret dX6_parse_22 ⟨rfl, h⟩
def w_X7_textOf (this : Nat) (x1 : Int32) (μ : gk_St) (Q : Option Nat → gk_St → Prop) : Prop := (if x1 = 0 then Q (some (gk_rf this 0)) μ else (if x1 = 1 then Q (some (gk_rf this 1)) μ else (if x1 = 2 then Q (some (gk_rf this 2)) μ else Q none μ)))
set_option maxRecDepth 100000 in
set_option maxHeartbeats 4000000 in
theorem k_X7_textOf {this : Nat} {x1 : Int32} {μ : gk_St} {Q : Option Nat → gk_St → Prop} (h_this : gk_isO this 7) (h : w_X7_textOf this x1 μ Q) : gk_CT yX7_textOf cX7_textOf 2 (some (.object "CableCars$Text")) 0 [.ref this, .int x1] μ (gk_Qq 5 Q) := by
  unfold w_X7_textOf at h
  refine gk_enter (by decide) (Nat.le_of_ble_eq_true rfl) ?_
  show Go RX7 cX7_textOf 2 (some (.object "CableCars$Text")) 0 0 [(0, .ref this), (1, .int x1)] [] μ (gk_Qq 5 Q)
  refine go_iload_n 1 dX7_textOf_0 rfl rfl ?_
  by_cases c : x1 = 0
  · replace h := gk_ip h c
    refine go_tableIn (k := 0) (off := 27) 28 dX7_textOf_1 c (by decide) (by decide) (by decide) (by decide) ?_
    refine go_aload_n 0 dX7_textOf_28 rfl rfl ?_
    refine go_getR dX7_textOf_29 fl_RX7_14 h_this (rr_7_0 h_this) ?_
    exact go_aret dX7_textOf_32 (Or.inr ⟨_, rfl, (rt_7_0 h_this), h⟩)
  replace h := gk_in h c
  have c0 := c
  clear c
  by_cases c : x1 = 1
  · replace h := gk_ip h c
    refine go_tableIn (k := 1) (off := 32) 33 dX7_textOf_1 c (by decide) (by decide) (by decide) (by decide) ?_
    refine go_aload_n 0 dX7_textOf_33 rfl rfl ?_
    refine go_getR dX7_textOf_34 fl_RX7_18 h_this (rr_7_1 h_this) ?_
    exact go_aret dX7_textOf_37 (Or.inr ⟨_, rfl, (rt_7_1 h_this), h⟩)
  replace h := gk_in h c
  have c1 := c
  clear c
  by_cases c : x1 = 2
  · replace h := gk_ip h c
    refine go_tableIn (k := 2) (off := 37) 38 dX7_textOf_1 c (by decide) (by decide) (by decide) (by decide) ?_
    refine go_aload_n 0 dX7_textOf_38 rfl rfl ?_
    refine go_getR dX7_textOf_39 fl_RX7_21 h_this (rr_7_2 h_this) ?_
    exact go_aret dX7_textOf_42 (Or.inr ⟨_, rfl, (rt_7_2 h_this), h⟩)
  replace h := gk_in h c
  have c2 := c
  clear c
  have t0 := gk_neT (a := 0) (by decide) c0
  have t1 := gk_neT (a := 1) (by decide) c1
  have t2 := gk_neT (a := 2) (by decide) c2
  refine go_tableOut 43 dX7_textOf_1 (by omega) (by decide) ?_
  refine go_null dX7_textOf_43 ?_
  exact go_aretN dX7_textOf_44 (Or.inl ⟨rfl, h⟩)
def w_X7_faultOfSpeed_l2 (Q : Int32 → gk_St → Prop) (K : gk_St → Prop) (this : Nat) : Nat → Int32 → gk_St → Prop
  | 0, _, _ => False
  | n + 1, x1, μ => (if (μ (gk_rf this 2) 2) ≤ x1 then K  μ else (vp_in x1 (gk_ln (gk_rf (gk_rf this 2) 0)) ∧ w_X7_within (μ (gk_rf (gk_rf this 2) 0) x1.toNatClampNeg) 48 51 μ (fun r2 m1 => (if r2 = 0 then Q x1 m1 else (∀ v3 : Int32, v3 = x1 + 1 → w_X7_faultOfSpeed_l2 Q K this n v3 m1)))))
set_option maxRecDepth 100000 in
set_option maxHeartbeats 4000000 in
theorem k_X7_faultOfSpeed_l2 {Q : Int32 → gk_St → Prop} {K : gk_St → Prop} {this : Nat} (h_this : gk_isO this 7) (hK : ∀ (em : gk_St), K  em → Go RX7 cX7_faultOfSpeed 2 (some .int) 1 40 [] [] em (gk_Qi Q)) : ∀ (n : Nat) (x1 : Int32) (μ : gk_St), w_X7_faultOfSpeed_l2 Q K this n x1 μ → Go RX7 cX7_faultOfSpeed 2 (some .int) 1 2 [(0, .ref this), (1, .int x1)] [] μ (gk_Qi Q) := by
  intro n
  induction n with
  | zero =>
    intro x1 μ h
    exact False.elim h
  | succ n ih =>
    intro x1 μ h
    unfold w_X7_faultOfSpeed_l2 at h
    refine go_iload_n 1 dX7_faultOfSpeed_2 rfl rfl ?_
    refine go_aload_n 0 dX7_faultOfSpeed_3 rfl rfl ?_
    refine go_getR dX7_faultOfSpeed_4 fl_RX7_21 h_this (rr_7_2 h_this) ?_
    refine go_getI dX7_faultOfSpeed_7 fl_RX7_121 (rt_7_2 h_this) (nf_5_2 (rt_7_2 h_this)) ?_
    refine go_icmp_ge 40 dX7_faultOfSpeed_10 (by decide) (fun c => ?_) (fun c => ?_)
    · replace h := gk_ip h c
      refine go_lv [] rfl ?_
      exact hK  _ h
    · replace h := gk_in h c
      refine go_aload_n 0 dX7_faultOfSpeed_13 rfl rfl ?_
      refine go_getR dX7_faultOfSpeed_14 fl_RX7_21 h_this (rr_7_2 h_this) ?_
      refine go_getR dX7_faultOfSpeed_17 fl_RX7_400 (rt_7_2 h_this) (rr_5_0 (rt_7_2 h_this)) ?_
      refine go_iload_n 1 dX7_faultOfSpeed_20 rfl rfl ?_
      refine go_iaload dX7_faultOfSpeed_21 (rt_5_0 (rt_7_2 h_this)) h.1 ?_
      replace h := h.2
      refine go_bipush (v := 48) dX7_faultOfSpeed_22 (by decide) ?_
      refine go_bipush (v := 51) dX7_faultOfSpeed_24 (by decide) ?_
      refine go_callS (d' := 0) [.int (μ (gk_rf (gk_rf this 2) 0) x1.toNatClampNeg), .int 48, .int 51] dX7_faultOfSpeed_26 cw_RX7_107 kt_X7_within rfl (Nat.le_of_ble_eq_true rfl) (by decide) (k_X7_within h) (gk_ki (fun r2 m1 h => ?_))
      refine go_if_ne 34 dX7_faultOfSpeed_29 (by decide) (fun c => ?_) (fun c => ?_)
      · replace h := gk_in h c
        refine gb_iinc (w := 1) 1 (fun v3 => [(1, .int v3), (0, .ref this)]) dX7_faultOfSpeed_34 rfl (by decide) (by decide) (fun _ => rfl) (fun v3 e => ?_)
        replace h := h v3 e
        refine go_goto 2 dX7_faultOfSpeed_37 (by decide) ?_
        refine go_lv [1, 0] rfl ?_
        exact ih _ _ h
      · replace h := gk_ip h c
        refine go_iload_n 1 dX7_faultOfSpeed_32 rfl rfl ?_
        exact go_iret dX7_faultOfSpeed_33 ⟨_, rfl, h⟩
def w_X7_faultOfSpeed (this : Nat) (μ : gk_St) (Q : Int32 → gk_St → Prop) : Prop := (∃ n2 : Nat, w_X7_faultOfSpeed_l2 Q (fun m4 => Q (-1) m4) this n2 0 μ)
set_option maxRecDepth 100000 in
set_option maxHeartbeats 4000000 in
theorem k_X7_faultOfSpeed {this : Nat} {μ : gk_St} {Q : Int32 → gk_St → Prop} (h_this : gk_isO this 7) (h : w_X7_faultOfSpeed this μ Q) : gk_CT yX7_faultOfSpeed cX7_faultOfSpeed 2 (some .int) 1 [.ref this] μ (gk_Qi Q) := by
  unfold w_X7_faultOfSpeed at h
  refine gk_enter (by decide) (Nat.le_of_ble_eq_true rfl) ?_
  show Go RX7 cX7_faultOfSpeed 2 (some .int) 1 0 [(0, .ref this)] [] μ (gk_Qi Q)
  refine go_iconst (v := 0) dX7_faultOfSpeed_0 (by decide) ?_
  refine go_istore_n [(1, .int 0), (0, .ref this)] dX7_faultOfSpeed_1 rfl (by decide) rfl ?_
  refine go_lv [1, 0] rfl ?_
  obtain ⟨n2, h⟩ := h
  refine k_X7_faultOfSpeed_l2 h_this (fun m4 h => ?_) n2 _ _ h
  refine go_iconst (v := (-1)) dX7_faultOfSpeed_40 (by decide) ?_
  exact go_iret dX7_faultOfSpeed_41 ⟨_, rfl, h⟩
def w_X7_readAgain_j31 (Q : gk_St → Prop) (this : Nat) (x1 : Int32) (μ : gk_St) : Prop := (if x1 = 2 then w_X7_faultOfSpeed this μ (fun r3 m2 => (∀ m4 : gk_St, m4 = gk_up m2 this 15 r3 → (∀ m5 : gk_St, m5 = gk_up m4 this 16 1 → Q m5))) else (∀ m1 : gk_St, m1 = gk_up μ this 16 1 → Q m1))
set_option maxRecDepth 100000 in
set_option maxHeartbeats 4000000 in
theorem k_X7_readAgain_j31 {Q : gk_St → Prop} {this : Nat} {x1 : Int32} {μ : gk_St} (h_this : gk_isO this 7) (h : w_X7_readAgain_j31 Q this x1 μ) : Go RX7 cX7_readAgain 2 none 9 31 [(0, .ref this), (1, .int x1)] [] μ (gk_Qv Q) := by
  unfold w_X7_readAgain_j31 at h
  refine go_iload_n 1 dX7_readAgain_31 rfl rfl ?_
  refine go_iconst (v := 2) dX7_readAgain_32 (by decide) ?_
  refine go_icmp_ne 44 dX7_readAgain_33 (by decide) (fun c => ?_) (fun c => ?_)
  · replace h := gk_in h c
    refine go_aload_n 0 dX7_readAgain_44 rfl rfl ?_
    refine go_iconst (v := 1) dX7_readAgain_45 (by decide) ?_
    refine gb_putZ dX7_readAgain_46 fp_RX7_96 h_this (nf_7_16 h_this) (Or.inr rfl) (fun m1 e => ?_)
    replace h := h m1 e
    exact go_vret dX7_readAgain_49 ⟨rfl, h⟩
  · replace h := gk_ip h c
    refine go_aload_n 0 dX7_readAgain_36 rfl rfl ?_
    refine go_aload_n 0 dX7_readAgain_37 rfl rfl ?_
    refine go_callV (ci := 7) (d' := 1) [] dX7_readAgain_38 cw_RX7_397 ki_X7_faultOfSpeed ks_X7_faultOfSpeed rfl (by decide) h_this rfl (Nat.le_of_ble_eq_true rfl) (by decide) (k_X7_faultOfSpeed h_this h) (gk_ki (fun r3 m2 h => ?_))
    refine gb_putI dX7_readAgain_41 fp_RX7_92 h_this (nf_7_15 h_this) (fun m4 e => ?_)
    replace h := h m4 e
    refine go_aload_n 0 dX7_readAgain_44 rfl rfl ?_
    refine go_iconst (v := 1) dX7_readAgain_45 (by decide) ?_
    refine gb_putZ dX7_readAgain_46 fp_RX7_96 h_this (nf_7_16 h_this) (Or.inr rfl) (fun m5 e => ?_)
    replace h := h m5 e
    exact go_vret dX7_readAgain_49 ⟨rfl, h⟩
def w_X7_readAgain_j15 (Q : gk_St → Prop) (this : Nat) (x1 : Int32) (μ : gk_St) : Prop := (if x1 = 1 then w_X6_parse (gk_rf this 4) (gk_rf this 1) μ (fun m6 => w_X7_readAgain_j31 Q this x1 m6) else w_X7_readAgain_j31 Q this x1 μ)
set_option maxRecDepth 100000 in
set_option maxHeartbeats 4000000 in
theorem k_X7_readAgain_j15 {Q : gk_St → Prop} {this : Nat} {x1 : Int32} {μ : gk_St} (h_this : gk_isO this 7) (h : w_X7_readAgain_j15 Q this x1 μ) : Go RX7 cX7_readAgain 2 none 9 15 [(0, .ref this), (1, .int x1)] [] μ (gk_Qv Q) := by
  unfold w_X7_readAgain_j15 at h
  refine go_iload_n 1 dX7_readAgain_15 rfl rfl ?_
  refine go_iconst (v := 1) dX7_readAgain_16 (by decide) ?_
  refine go_icmp_ne 31 dX7_readAgain_17 (by decide) (fun c => ?_) (fun c => ?_)
  · replace h := gk_in h c
    exact k_X7_readAgain_j31 h_this h
  · replace h := gk_ip h c
    refine go_aload_n 0 dX7_readAgain_20 rfl rfl ?_
    refine go_getR dX7_readAgain_21 fl_RX7_37 h_this (rr_7_4 h_this) ?_
    refine go_aload_n 0 dX7_readAgain_24 rfl rfl ?_
    refine go_getR dX7_readAgain_25 fl_RX7_18 h_this (rr_7_1 h_this) ?_
    refine go_callV (ci := 6) (d' := 8) [.ref (gk_rf this 1)] dX7_readAgain_28 cw_RX7_393 ki_X6_parse ks_X6_parse rfl (by decide) (rt_7_4 h_this) rfl (Nat.le_of_ble_eq_true rfl) (by decide) (k_X6_parse (rt_7_4 h_this) (rt_7_1 h_this) h) (gk_kv (fun m6 h => ?_))
    exact k_X7_readAgain_j31 h_this h
def w_X7_readAgain (this : Nat) (x1 : Int32) (μ : gk_St) (Q : gk_St → Prop) : Prop := (if x1 = 0 then w_X6_parse (gk_rf this 3) (gk_rf this 0) μ (fun m7 => w_X7_readAgain_j15 Q this x1 m7) else w_X7_readAgain_j15 Q this x1 μ)
set_option maxRecDepth 100000 in
set_option maxHeartbeats 4000000 in
theorem k_X7_readAgain {this : Nat} {x1 : Int32} {μ : gk_St} {Q : gk_St → Prop} (h_this : gk_isO this 7) (h : w_X7_readAgain this x1 μ Q) : gk_CT yX7_readAgain cX7_readAgain 2 none 9 [.ref this, .int x1] μ (gk_Qv Q) := by
  unfold w_X7_readAgain at h
  refine gk_enter (by decide) (Nat.le_of_ble_eq_true rfl) ?_
  show Go RX7 cX7_readAgain 2 none 9 0 [(0, .ref this), (1, .int x1)] [] μ (gk_Qv Q)
  refine go_iload_n 1 dX7_readAgain_0 rfl rfl ?_
  refine go_if_ne 15 dX7_readAgain_1 (by decide) (fun c => ?_) (fun c => ?_)
  · replace h := gk_in h c
    exact k_X7_readAgain_j15 h_this h
  · replace h := gk_ip h c
    refine go_aload_n 0 dX7_readAgain_4 rfl rfl ?_
    refine go_getR dX7_readAgain_5 fl_RX7_31 h_this (rr_7_3 h_this) ?_
    refine go_aload_n 0 dX7_readAgain_8 rfl rfl ?_
    refine go_getR dX7_readAgain_9 fl_RX7_14 h_this (rr_7_0 h_this) ?_
    refine go_callV (ci := 6) (d' := 8) [.ref (gk_rf this 0)] dX7_readAgain_12 cw_RX7_393 ki_X6_parse ks_X6_parse rfl (by decide) (rt_7_3 h_this) rfl (Nat.le_of_ble_eq_true rfl) (by decide) (k_X6_parse (rt_7_3 h_this) (rt_7_0 h_this) h) (gk_kv (fun m7 h => ?_))
    exact k_X7_readAgain_j15 h_this h
def w_X7_type (this : Nat) (x1 : Int32) (x2 : Int32) (μ : gk_St) (Q : Int32 → gk_St → Prop) : Prop := w_X7_textOf this x1 μ (fun t9 m1 => match t9 with | none => Q (-2) m1 | some o2 => w_X7_within x2 0 255 m1 (fun r4 m3 => (if r4 = 0 then Q (-2) m3 else w_X5_hasSpace o2 m3 (fun r6 m5 => (if r6 = 0 then Q (-4) m5 else w_X5_append o2 x2 m5 (fun m7 => w_X7_readAgain this x1 m7 (fun m8 => Q (m8 o2 2) m8)))))))
set_option maxRecDepth 100000 in
set_option maxHeartbeats 4000000 in
theorem k_X7_type {this : Nat} {x1 : Int32} {x2 : Int32} {μ : gk_St} {Q : Int32 → gk_St → Prop} (h_this : gk_isO this 7) (h : w_X7_type this x1 x2 μ Q) : gk_CT yX7_type cX7_type 4 (some .int) 10 [.ref this, .int x1, .int x2] μ (gk_Qi Q) := by
  unfold w_X7_type at h
  refine gk_enter (by decide) (Nat.le_of_ble_eq_true rfl) ?_
  show Go RX7 cX7_type 4 (some .int) 10 0 [(0, .ref this), (1, .int x1), (2, .int x2)] [] μ (gk_Qi Q)
  refine go_aload_n 0 dX7_type_0 rfl rfl ?_
  refine go_iload_n 1 dX7_type_1 rfl rfl ?_
  refine go_callV (ci := 7) (d' := 0) [.int x1] dX7_type_2 cw_RX7_103 ki_X7_textOf ks_X7_textOf rfl (by decide) h_this rfl (Nat.le_of_ble_eq_true rfl) (by decide) (k_X7_textOf h_this h) (gk_kq (fun m1 h => ?_) (fun o2 m1 h_o2 h => ?_))
  · try dsimp only at h
    refine go_astore_nN [(3, .null), (0, .ref this), (1, .int x1), (2, .int x2)] dX7_type_5 rfl (by decide) rfl ?_
    refine go_aload_nN 0 dX7_type_6 rfl rfl ?_
    refine go_ifnullN 21 dX7_type_7 (by decide) ?_
    refine go_bipush (v := (-2)) dX7_type_21 (by decide) ?_
    exact go_iret dX7_type_23 ⟨_, rfl, h⟩
  · try dsimp only at h
    refine go_astore_n [(3, .ref o2), (0, .ref this), (1, .int x1), (2, .int x2)] dX7_type_5 rfl (by decide) rfl ?_
    refine go_aload_n 0 dX7_type_6 rfl rfl ?_
    refine go_ifnull dX7_type_7 ?_
    refine go_iload_n 3 dX7_type_10 rfl rfl ?_
    refine go_iconst (v := 0) dX7_type_11 (by decide) ?_
    refine go_sipush (v := 255) dX7_type_12 (by decide) ?_
    refine go_callS (d' := 0) [.int x2, .int 0, .int 255] dX7_type_15 cw_RX7_107 kt_X7_within rfl (Nat.le_of_ble_eq_true rfl) (by decide) (k_X7_within h) (gk_ki (fun r4 m3 h => ?_))
    refine go_if_ne 24 dX7_type_18 (by decide) (fun c => ?_) (fun c => ?_)
    · replace h := gk_in h c
      refine go_aload_n 0 dX7_type_24 rfl rfl ?_
      refine go_callV (ci := 5) (d' := 0) [] dX7_type_25 cw_RX7_111 ki_X5_hasSpace ks_X5_hasSpace rfl (by decide) h_o2 rfl (Nat.le_of_ble_eq_true rfl) (by decide) (k_X5_hasSpace h_o2 h) (gk_ki (fun r6 m5 h => ?_))
      refine go_if_ne 34 dX7_type_28 (by decide) (fun c => ?_) (fun c => ?_)
      · replace h := gk_in h c
        refine go_aload_n 0 dX7_type_34 rfl rfl ?_
        refine go_iload_n 3 dX7_type_35 rfl rfl ?_
        refine go_callV (ci := 5) (d' := 1) [.int x2] dX7_type_36 cw_RX7_115 ki_X5_append ks_X5_append rfl (by decide) h_o2 rfl (Nat.le_of_ble_eq_true rfl) (by decide) (k_X5_append h_o2 h) (gk_kv (fun m7 h => ?_))
        refine go_aload_n 1 dX7_type_39 rfl rfl ?_
        refine go_iload_n 2 dX7_type_40 rfl rfl ?_
        refine go_callV (ci := 7) (d' := 9) [.int x1] dX7_type_41 cw_RX7_118 ki_X7_readAgain ks_X7_readAgain rfl (by decide) h_this rfl (Nat.le_of_ble_eq_true rfl) (by decide) (k_X7_readAgain h_this h) (gk_kv (fun m8 h => ?_))
        refine go_aload_n 0 dX7_type_44 rfl rfl ?_
        refine go_getI dX7_type_45 fl_RX7_121 h_o2 (nf_5_2 h_o2) ?_
        exact go_iret dX7_type_48 ⟨_, rfl, h⟩
      · replace h := gk_ip h c
        refine go_bipush (v := (-4)) dX7_type_31 (by decide) ?_
        exact go_iret dX7_type_33 ⟨_, rfl, h⟩
    · replace h := gk_ip h c
      refine go_bipush (v := (-2)) dX7_type_21 (by decide) ?_
      exact go_iret dX7_type_23 ⟨_, rfl, h⟩
def w_X7_wipe (this : Nat) (x1 : Int32) (μ : gk_St) (Q : Int32 → gk_St → Prop) : Prop := w_X7_textOf this x1 μ (fun t6 m1 => match t6 with | none => Q (-2) m1 | some o2 => (∀ v3 : Int32, v3 = (m1 o2 2) → (∀ m4 : gk_St, m4 = gk_up m1 o2 2 0 → w_X7_readAgain this x1 m4 (fun m5 => Q v3 m5))))
set_option maxRecDepth 100000 in
set_option maxHeartbeats 4000000 in
theorem k_X7_wipe {this : Nat} {x1 : Int32} {μ : gk_St} {Q : Int32 → gk_St → Prop} (h_this : gk_isO this 7) (h : w_X7_wipe this x1 μ Q) : gk_CT yX7_wipe cX7_wipe 4 (some .int) 10 [.ref this, .int x1] μ (gk_Qi Q) := by
  unfold w_X7_wipe at h
  refine gk_enter (by decide) (Nat.le_of_ble_eq_true rfl) ?_
  show Go RX7 cX7_wipe 4 (some .int) 10 0 [(0, .ref this), (1, .int x1)] [] μ (gk_Qi Q)
  refine go_aload_n 0 dX7_wipe_0 rfl rfl ?_
  refine go_iload_n 1 dX7_wipe_1 rfl rfl ?_
  refine go_callV (ci := 7) (d' := 0) [.int x1] dX7_wipe_2 cw_RX7_103 ki_X7_textOf ks_X7_textOf rfl (by decide) h_this rfl (Nat.le_of_ble_eq_true rfl) (by decide) (k_X7_textOf h_this h) (gk_kq (fun m1 h => ?_) (fun o2 m1 h_o2 h => ?_))
  · try dsimp only at h
    refine go_astore_nN [(2, .null), (0, .ref this), (1, .int x1)] dX7_wipe_5 rfl (by decide) rfl ?_
    refine go_aload_nN 0 dX7_wipe_6 rfl rfl ?_
    refine go_ifnonnullN dX7_wipe_7 ?_
    refine go_bipush (v := (-2)) dX7_wipe_10 (by decide) ?_
    exact go_iret dX7_wipe_12 ⟨_, rfl, h⟩
  · try dsimp only at h
    refine go_astore_n [(2, .ref o2), (0, .ref this), (1, .int x1)] dX7_wipe_5 rfl (by decide) rfl ?_
    refine go_aload_n 0 dX7_wipe_6 rfl rfl ?_
    refine go_ifnonnull 13 dX7_wipe_7 (by decide) ?_
    refine go_aload_n 0 dX7_wipe_13 rfl rfl ?_
    refine go_getI dX7_wipe_14 fl_RX7_121 h_o2 (nf_5_2 h_o2) ?_
    refine gb_istore_n (fun v3 => [(3, .int v3), (2, .ref o2), (0, .ref this), (1, .int x1)]) dX7_wipe_17 rfl (by decide) (fun _ => rfl) (fun v3 e => ?_)
    replace h := h v3 e
    refine go_aload_n 1 dX7_wipe_18 rfl rfl ?_
    refine go_iconst (v := 0) dX7_wipe_19 (by decide) ?_
    refine gb_putI dX7_wipe_20 fp_RX7_121 h_o2 (nf_5_2 h_o2) (fun m4 e => ?_)
    replace h := h m4 e
    refine go_aload_n 2 dX7_wipe_23 rfl rfl ?_
    refine go_iload_n 3 dX7_wipe_24 rfl rfl ?_
    refine go_callV (ci := 7) (d' := 9) [.int x1] dX7_wipe_25 cw_RX7_118 ki_X7_readAgain ks_X7_readAgain rfl (by decide) h_this rfl (Nat.le_of_ble_eq_true rfl) (by decide) (k_X7_readAgain h_this h) (gk_kv (fun m5 h => ?_))
    refine go_iload_n 0 dX7_wipe_28 rfl rfl ?_
    exact go_iret dX7_wipe_29 ⟨_, rfl, h⟩
def w_X7_undo (this : Nat) (x1 : Int32) (μ : gk_St) (Q : Int32 → gk_St → Prop) : Prop := w_X7_textOf this x1 μ (fun t5 m1 => match t5 with | none => Q (-2) m1 | some o2 => (if (m1 o2 2) = 0 then Q (-3) m1 else (∀ m3 : gk_St, m3 = gk_up m1 o2 2 ((m1 o2 2) - 1) → w_X7_readAgain this x1 m3 (fun m4 => Q (m4 o2 2) m4))))
set_option maxRecDepth 100000 in
set_option maxHeartbeats 4000000 in
theorem k_X7_undo {this : Nat} {x1 : Int32} {μ : gk_St} {Q : Int32 → gk_St → Prop} (h_this : gk_isO this 7) (h : w_X7_undo this x1 μ Q) : gk_CT yX7_undo cX7_undo 3 (some .int) 10 [.ref this, .int x1] μ (gk_Qi Q) := by
  unfold w_X7_undo at h
  refine gk_enter (by decide) (Nat.le_of_ble_eq_true rfl) ?_
  show Go RX7 cX7_undo 3 (some .int) 10 0 [(0, .ref this), (1, .int x1)] [] μ (gk_Qi Q)
  refine go_aload_n 0 dX7_undo_0 rfl rfl ?_
  refine go_iload_n 1 dX7_undo_1 rfl rfl ?_
  refine go_callV (ci := 7) (d' := 0) [.int x1] dX7_undo_2 cw_RX7_103 ki_X7_textOf ks_X7_textOf rfl (by decide) h_this rfl (Nat.le_of_ble_eq_true rfl) (by decide) (k_X7_textOf h_this h) (gk_kq (fun m1 h => ?_) (fun o2 m1 h_o2 h => ?_))
  · try dsimp only at h
    refine go_astore_nN [(2, .null), (0, .ref this), (1, .int x1)] dX7_undo_5 rfl (by decide) rfl ?_
    refine go_aload_nN 0 dX7_undo_6 rfl rfl ?_
    refine go_ifnonnullN dX7_undo_7 ?_
    refine go_bipush (v := (-2)) dX7_undo_10 (by decide) ?_
    exact go_iret dX7_undo_12 ⟨_, rfl, h⟩
  · try dsimp only at h
    refine go_astore_n [(2, .ref o2), (0, .ref this), (1, .int x1)] dX7_undo_5 rfl (by decide) rfl ?_
    refine go_aload_n 0 dX7_undo_6 rfl rfl ?_
    refine go_ifnonnull 13 dX7_undo_7 (by decide) ?_
    refine go_aload_n 0 dX7_undo_13 rfl rfl ?_
    refine go_getI dX7_undo_14 fl_RX7_121 h_o2 (nf_5_2 h_o2) ?_
    refine go_if_ne 23 dX7_undo_17 (by decide) (fun c => ?_) (fun c => ?_)
    · replace h := gk_in h c
      refine go_aload_n 0 dX7_undo_23 rfl rfl ?_
      refine go_dup dX7_undo_24 rfl ?_
      refine go_getI dX7_undo_25 fl_RX7_121 h_o2 (nf_5_2 h_o2) ?_
      refine go_iconst (v := 1) dX7_undo_28 (by decide) ?_
      refine go_isub dX7_undo_29 ?_
      refine gb_putI dX7_undo_30 fp_RX7_121 h_o2 (nf_5_2 h_o2) (fun m3 e => ?_)
      replace h := h m3 e
      refine go_aload_n 1 dX7_undo_33 rfl rfl ?_
      refine go_iload_n 2 dX7_undo_34 rfl rfl ?_
      refine go_callV (ci := 7) (d' := 9) [.int x1] dX7_undo_35 cw_RX7_118 ki_X7_readAgain ks_X7_readAgain rfl (by decide) h_this rfl (Nat.le_of_ble_eq_true rfl) (by decide) (k_X7_readAgain h_this h) (gk_kv (fun m4 h => ?_))
      refine go_aload_n 0 dX7_undo_38 rfl rfl ?_
      refine go_getI dX7_undo_39 fl_RX7_121 h_o2 (nf_5_2 h_o2) ?_
      exact go_iret dX7_undo_42 ⟨_, rfl, h⟩
    · replace h := gk_ip h c
      refine go_bipush (v := (-3)) dX7_undo_20 (by decide) ?_
      exact go_iret dX7_undo_22 ⟨_, rfl, h⟩
def w_X7_fault (this : Nat) (x1 : Int32) (μ : gk_St) (Q : Int32 → gk_St → Prop) : Prop := (if x1 = 0 then Q (μ (gk_rf this 3) 7) μ else (if x1 = 1 then Q (μ (gk_rf this 4) 7) μ else (if x1 = 2 then Q (μ this 15) μ else Q (-2) μ)))
set_option maxRecDepth 100000 in
set_option maxHeartbeats 4000000 in
theorem k_X7_fault {this : Nat} {x1 : Int32} {μ : gk_St} {Q : Int32 → gk_St → Prop} (h_this : gk_isO this 7) (h : w_X7_fault this x1 μ Q) : gk_CT yX7_fault cX7_fault 2 (some .int) 0 [.ref this, .int x1] μ (gk_Qi Q) := by
  unfold w_X7_fault at h
  refine gk_enter (by decide) (Nat.le_of_ble_eq_true rfl) ?_
  show Go RX7 cX7_fault 2 (some .int) 0 0 [(0, .ref this), (1, .int x1)] [] μ (gk_Qi Q)
  refine go_iload_n 1 dX7_fault_0 rfl rfl ?_
  by_cases c : x1 = 0
  · replace h := gk_ip h c
    refine go_tableIn (k := 0) (off := 27) 28 dX7_fault_1 c (by decide) (by decide) (by decide) (by decide) ?_
    refine go_aload_n 0 dX7_fault_28 rfl rfl ?_
    refine go_getR dX7_fault_29 fl_RX7_31 h_this (rr_7_3 h_this) ?_
    refine go_getI dX7_fault_32 fl_RX7_124 (rt_7_3 h_this) (nf_6_7 (rt_7_3 h_this)) ?_
    exact go_iret dX7_fault_35 ⟨_, rfl, h⟩
  replace h := gk_in h c
  have c0 := c
  clear c
  by_cases c : x1 = 1
  · replace h := gk_ip h c
    refine go_tableIn (k := 1) (off := 35) 36 dX7_fault_1 c (by decide) (by decide) (by decide) (by decide) ?_
    refine go_aload_n 0 dX7_fault_36 rfl rfl ?_
    refine go_getR dX7_fault_37 fl_RX7_37 h_this (rr_7_4 h_this) ?_
    refine go_getI dX7_fault_40 fl_RX7_124 (rt_7_4 h_this) (nf_6_7 (rt_7_4 h_this)) ?_
    exact go_iret dX7_fault_43 ⟨_, rfl, h⟩
  replace h := gk_in h c
  have c1 := c
  clear c
  by_cases c : x1 = 2
  · replace h := gk_ip h c
    refine go_tableIn (k := 2) (off := 43) 44 dX7_fault_1 c (by decide) (by decide) (by decide) (by decide) ?_
    refine go_aload_n 0 dX7_fault_44 rfl rfl ?_
    refine go_getI dX7_fault_45 fl_RX7_92 h_this (nf_7_15 h_this) ?_
    exact go_iret dX7_fault_48 ⟨_, rfl, h⟩
  replace h := gk_in h c
  have c2 := c
  clear c
  have t0 := gk_neT (a := 0) (by decide) c0
  have t1 := gk_neT (a := 1) (by decide) c1
  have t2 := gk_neT (a := 2) (by decide) c2
  refine go_tableOut 49 dX7_fault_1 (by omega) (by decide) ?_
  refine go_bipush (v := (-2)) dX7_fault_49 (by decide) ?_
  exact go_iret dX7_fault_51 ⟨_, rfl, h⟩
def w_X7_isCar (this : Nat) (x1 : Int32) (μ : gk_St) (Q : Int32 → gk_St → Prop) : Prop := w_X7_within x1 0 ((μ (gk_rf this 3) 6) - 1) μ (fun r2 m1 => (gk_b r2 ∧ Q r2 m1))
set_option maxRecDepth 100000 in
set_option maxHeartbeats 4000000 in
theorem k_X7_isCar {this : Nat} {x1 : Int32} {μ : gk_St} {Q : Int32 → gk_St → Prop} (h_this : gk_isO this 7) (h : w_X7_isCar this x1 μ Q) : gk_CT yX7_isCar cX7_isCar 2 (some .boolean) 1 [.ref this, .int x1] μ (gk_Qi Q) := by
  unfold w_X7_isCar at h
  refine gk_enter (by decide) (Nat.le_of_ble_eq_true rfl) ?_
  show Go RX7 cX7_isCar 2 (some .boolean) 1 0 [(0, .ref this), (1, .int x1)] [] μ (gk_Qi Q)
  refine go_iload_n 1 dX7_isCar_0 rfl rfl ?_
  refine go_iconst (v := 0) dX7_isCar_1 (by decide) ?_
  refine go_aload_n 0 dX7_isCar_2 rfl rfl ?_
  refine go_getR dX7_isCar_3 fl_RX7_31 h_this (rr_7_3 h_this) ?_
  refine go_getI dX7_isCar_6 fl_RX7_135 (rt_7_3 h_this) (nf_6_6 (rt_7_3 h_this)) ?_
  refine go_iconst (v := 1) dX7_isCar_9 (by decide) ?_
  refine go_isub dX7_isCar_10 ?_
  refine go_callS (d' := 0) [.int x1, .int 0, .int ((μ (gk_rf this 3) 6) - 1)] dX7_isCar_11 cw_RX7_107 kt_X7_within rfl (Nat.le_of_ble_eq_true rfl) (by decide) (k_X7_within h) (gk_ki (fun r2 m1 h => ?_))
  exact go_zret dX7_isCar_14 h.1 ⟨_, rfl, h.2⟩
def w_X7_car (this : Nat) (x1 : Int32) (x2 : Int32) (μ : gk_St) (Q : Int32 → gk_St → Prop) : Prop := w_X7_isCar this x1 μ (fun r2 m1 => (if r2 = 0 then Q (-2) m1 else w_X7_within x2 0 2 m1 (fun r4 m3 => (if r4 = 0 then Q (-2) m3 else w_X6_part (gk_rf this 3) x1 x2 m3 (fun r6 m5 => Q r6 m5)))))
set_option maxRecDepth 100000 in
set_option maxHeartbeats 4000000 in
theorem k_X7_car {this : Nat} {x1 : Int32} {x2 : Int32} {μ : gk_St} {Q : Int32 → gk_St → Prop} (h_this : gk_isO this 7) (h : w_X7_car this x1 x2 μ Q) : gk_CT yX7_car cX7_car 3 (some .int) 2 [.ref this, .int x1, .int x2] μ (gk_Qi Q) := by
  unfold w_X7_car at h
  refine gk_enter (by decide) (Nat.le_of_ble_eq_true rfl) ?_
  show Go RX7 cX7_car 3 (some .int) 2 0 [(0, .ref this), (1, .int x1), (2, .int x2)] [] μ (gk_Qi Q)
  refine go_aload_n 0 dX7_car_0 rfl rfl ?_
  refine go_iload_n 1 dX7_car_1 rfl rfl ?_
  refine go_callV (ci := 7) (d' := 1) [.int x1] dX7_car_2 cw_RX7_127 ki_X7_isCar ks_X7_isCar rfl (by decide) h_this rfl (Nat.le_of_ble_eq_true rfl) (by decide) (k_X7_isCar h_this h) (gk_ki (fun r2 m1 h => ?_))
  refine go_if_eq 17 dX7_car_5 (by decide) (fun c => ?_) (fun c => ?_)
  · replace h := gk_ip h c
    refine go_bipush (v := (-2)) dX7_car_17 (by decide) ?_
    exact go_iret dX7_car_19 ⟨_, rfl, h⟩
  · replace h := gk_in h c
    refine go_iload_n 2 dX7_car_8 rfl rfl ?_
    refine go_iconst (v := 0) dX7_car_9 (by decide) ?_
    refine go_iconst (v := 2) dX7_car_10 (by decide) ?_
    refine go_callS (d' := 0) [.int x2, .int 0, .int 2] dX7_car_11 cw_RX7_107 kt_X7_within rfl (Nat.le_of_ble_eq_true rfl) (by decide) (k_X7_within h) (gk_ki (fun r4 m3 h => ?_))
    refine go_if_ne 20 dX7_car_14 (by decide) (fun c => ?_) (fun c => ?_)
    · replace h := gk_in h c
      refine go_aload_n 0 dX7_car_20 rfl rfl ?_
      refine go_getR dX7_car_21 fl_RX7_31 h_this (rr_7_3 h_this) ?_
      refine go_iload_n 1 dX7_car_24 rfl rfl ?_
      refine go_iload_n 2 dX7_car_25 rfl rfl ?_
      refine go_callV (ci := 6) (d' := 0) [.int x1, .int x2] dX7_car_26 cw_RX7_131 ki_X6_part ks_X6_part rfl (by decide) (rt_7_3 h_this) rfl (Nat.le_of_ble_eq_true rfl) (by decide) (k_X6_part (rt_7_3 h_this) h) (gk_ki (fun r6 m5 h => ?_))
      exact go_iret dX7_car_29 ⟨_, rfl, h⟩
    · replace h := gk_ip h c
      refine go_bipush (v := (-2)) dX7_car_17 (by decide) ?_
      exact go_iret dX7_car_19 ⟨_, rfl, h⟩
def w_X7_coming (this : Nat) (x1 : Int32) (x2 : Int32) (μ : gk_St) (Q : Int32 → gk_St → Prop) : Prop := w_X7_within x1 0 11 μ (fun r2 m1 => (if r2 = 0 then Q (-2) m1 else w_X7_within x2 0 2 m1 (fun r4 m3 => (if r4 = 0 then Q (-2) m3 else (if (m3 (gk_rf this 4) 6) ≤ x1 then Q (-1) m3 else w_X6_part (gk_rf this 4) x1 x2 m3 (fun r6 m5 => Q r6 m5))))))
set_option maxRecDepth 100000 in
set_option maxHeartbeats 4000000 in
theorem k_X7_coming {this : Nat} {x1 : Int32} {x2 : Int32} {μ : gk_St} {Q : Int32 → gk_St → Prop} (h_this : gk_isO this 7) (h : w_X7_coming this x1 x2 μ Q) : gk_CT yX7_coming cX7_coming 3 (some .int) 1 [.ref this, .int x1, .int x2] μ (gk_Qi Q) := by
  unfold w_X7_coming at h
  refine gk_enter (by decide) (Nat.le_of_ble_eq_true rfl) ?_
  show Go RX7 cX7_coming 3 (some .int) 1 0 [(0, .ref this), (1, .int x1), (2, .int x2)] [] μ (gk_Qi Q)
  refine go_iload_n 1 dX7_coming_0 rfl rfl ?_
  refine go_iconst (v := 0) dX7_coming_1 (by decide) ?_
  refine go_bipush (v := 11) dX7_coming_2 (by decide) ?_
  refine go_callS (d' := 0) [.int x1, .int 0, .int 11] dX7_coming_4 cw_RX7_107 kt_X7_within rfl (Nat.le_of_ble_eq_true rfl) (by decide) (k_X7_within h) (gk_ki (fun r2 m1 h => ?_))
  refine go_if_eq 19 dX7_coming_7 (by decide) (fun c => ?_) (fun c => ?_)
  · replace h := gk_ip h c
    refine go_bipush (v := (-2)) dX7_coming_19 (by decide) ?_
    exact go_iret dX7_coming_21 ⟨_, rfl, h⟩
  · replace h := gk_in h c
    refine go_iload_n 2 dX7_coming_10 rfl rfl ?_
    refine go_iconst (v := 0) dX7_coming_11 (by decide) ?_
    refine go_iconst (v := 2) dX7_coming_12 (by decide) ?_
    refine go_callS (d' := 0) [.int x2, .int 0, .int 2] dX7_coming_13 cw_RX7_107 kt_X7_within rfl (Nat.le_of_ble_eq_true rfl) (by decide) (k_X7_within h) (gk_ki (fun r4 m3 h => ?_))
    refine go_if_ne 22 dX7_coming_16 (by decide) (fun c => ?_) (fun c => ?_)
    · replace h := gk_in h c
      refine go_iload_n 1 dX7_coming_22 rfl rfl ?_
      refine go_aload_n 0 dX7_coming_23 rfl rfl ?_
      refine go_getR dX7_coming_24 fl_RX7_37 h_this (rr_7_4 h_this) ?_
      refine go_getI dX7_coming_27 fl_RX7_135 (rt_7_4 h_this) (nf_6_6 (rt_7_4 h_this)) ?_
      refine go_icmp_ge 45 dX7_coming_30 (by decide) (fun c => ?_) (fun c => ?_)
      · replace h := gk_ip h c
        refine go_iconst (v := (-1)) dX7_coming_45 (by decide) ?_
        exact go_iret dX7_coming_46 ⟨_, rfl, h⟩
      · replace h := gk_in h c
        refine go_aload_n 0 dX7_coming_33 rfl rfl ?_
        refine go_getR dX7_coming_34 fl_RX7_37 h_this (rr_7_4 h_this) ?_
        refine go_iload_n 1 dX7_coming_37 rfl rfl ?_
        refine go_iload_n 2 dX7_coming_38 rfl rfl ?_
        refine go_callV (ci := 6) (d' := 0) [.int x1, .int x2] dX7_coming_39 cw_RX7_131 ki_X6_part ks_X6_part rfl (by decide) (rt_7_4 h_this) rfl (Nat.le_of_ble_eq_true rfl) (by decide) (k_X6_part (rt_7_4 h_this) h) (gk_ki (fun r6 m5 h => ?_))
        refine go_goto 46 dX7_coming_42 (by decide) ?_
        exact go_iret dX7_coming_46 ⟨_, rfl, h⟩
    · replace h := gk_ip h c
      refine go_bipush (v := (-2)) dX7_coming_19 (by decide) ?_
      exact go_iret dX7_coming_21 ⟨_, rfl, h⟩
def w_X7_toldSpeed (this : Nat) (x1 : Int32) (μ : gk_St) (Q : Int32 → gk_St → Prop) : Prop := (if (μ this 15) = (-1) then (if x1 < (μ (gk_rf this 2) 2) then (vp_in x1 (gk_ln (gk_rf (gk_rf this 2) 0)) ∧ Q ((μ (gk_rf (gk_rf this 2) 0) x1.toNatClampNeg) - 48) μ) else Q 1 μ) else Q 1 μ)
set_option maxRecDepth 100000 in
set_option maxHeartbeats 4000000 in
theorem k_X7_toldSpeed {this : Nat} {x1 : Int32} {μ : gk_St} {Q : Int32 → gk_St → Prop} (h_this : gk_isO this 7) (h : w_X7_toldSpeed this x1 μ Q) : gk_CT yX7_toldSpeed cX7_toldSpeed 2 (some .int) 0 [.ref this, .int x1] μ (gk_Qi Q) := by
  unfold w_X7_toldSpeed at h
  refine gk_enter (by decide) (Nat.le_of_ble_eq_true rfl) ?_
  show Go RX7 cX7_toldSpeed 2 (some .int) 0 0 [(0, .ref this), (1, .int x1)] [] μ (gk_Qi Q)
  refine go_aload_n 0 dX7_toldSpeed_0 rfl rfl ?_
  refine go_getI dX7_toldSpeed_1 fl_RX7_92 h_this (nf_7_15 h_this) ?_
  refine go_iconst (v := (-1)) dX7_toldSpeed_4 (by decide) ?_
  refine go_icmp_ne 19 dX7_toldSpeed_5 (by decide) (fun c => ?_) (fun c => ?_)
  · replace h := gk_in h c
    refine go_iconst (v := 1) dX7_toldSpeed_19 (by decide) ?_
    exact go_iret dX7_toldSpeed_20 ⟨_, rfl, h⟩
  · replace h := gk_ip h c
    refine go_iload_n 1 dX7_toldSpeed_8 rfl rfl ?_
    refine go_aload_n 0 dX7_toldSpeed_9 rfl rfl ?_
    refine go_getR dX7_toldSpeed_10 fl_RX7_21 h_this (rr_7_2 h_this) ?_
    refine go_getI dX7_toldSpeed_13 fl_RX7_121 (rt_7_2 h_this) (nf_5_2 (rt_7_2 h_this)) ?_
    refine go_icmp_lt 21 dX7_toldSpeed_16 (by decide) (fun c => ?_) (fun c => ?_)
    · replace h := gk_ip h c
      refine go_aload_n 0 dX7_toldSpeed_21 rfl rfl ?_
      refine go_getR dX7_toldSpeed_22 fl_RX7_21 h_this (rr_7_2 h_this) ?_
      refine go_getR dX7_toldSpeed_25 fl_RX7_400 (rt_7_2 h_this) (rr_5_0 (rt_7_2 h_this)) ?_
      refine go_iload_n 1 dX7_toldSpeed_28 rfl rfl ?_
      refine go_iaload dX7_toldSpeed_29 (rt_5_0 (rt_7_2 h_this)) h.1 ?_
      replace h := h.2
      refine go_bipush (v := 48) dX7_toldSpeed_30 (by decide) ?_
      refine go_isub dX7_toldSpeed_32 ?_
      exact go_iret dX7_toldSpeed_33 ⟨_, rfl, h⟩
    · replace h := gk_in h c
      refine go_iconst (v := 1) dX7_toldSpeed_19 (by decide) ?_
      exact go_iret dX7_toldSpeed_20 ⟨_, rfl, h⟩
def w_X7_speed (this : Nat) (x1 : Int32) (μ : gk_St) (Q : Int32 → gk_St → Prop) : Prop := w_X7_isMoment x1 μ (fun r2 m1 => (if r2 = 0 then Q (-2) m1 else w_X7_toldSpeed this x1 m1 (fun r4 m3 => Q r4 m3)))
set_option maxRecDepth 100000 in
set_option maxHeartbeats 4000000 in
theorem k_X7_speed {this : Nat} {x1 : Int32} {μ : gk_St} {Q : Int32 → gk_St → Prop} (h_this : gk_isO this 7) (h : w_X7_speed this x1 μ Q) : gk_CT yX7_speed cX7_speed 2 (some .int) 2 [.ref this, .int x1] μ (gk_Qi Q) := by
  unfold w_X7_speed at h
  refine gk_enter (by decide) (Nat.le_of_ble_eq_true rfl) ?_
  show Go RX7 cX7_speed 2 (some .int) 2 0 [(0, .ref this), (1, .int x1)] [] μ (gk_Qi Q)
  refine go_iload_n 1 dX7_speed_0 rfl rfl ?_
  refine go_callS (d' := 1) [.int x1] dX7_speed_1 cw_RX7_138 kt_X7_isMoment rfl (Nat.le_of_ble_eq_true rfl) (by decide) (k_X7_isMoment h) (gk_ki (fun r2 m1 h => ?_))
  refine go_if_eq 15 dX7_speed_4 (by decide) (fun c => ?_) (fun c => ?_)
  · replace h := gk_ip h c
    refine go_bipush (v := (-2)) dX7_speed_15 (by decide) ?_
    exact go_iret dX7_speed_17 ⟨_, rfl, h⟩
  · replace h := gk_in h c
    refine go_aload_n 0 dX7_speed_7 rfl rfl ?_
    refine go_iload_n 1 dX7_speed_8 rfl rfl ?_
    refine go_callV (ci := 7) (d' := 0) [.int x1] dX7_speed_9 cw_RX7_141 ki_X7_toldSpeed ks_X7_toldSpeed rfl (by decide) h_this rfl (Nat.le_of_ble_eq_true rfl) (by decide) (k_X7_toldSpeed h_this h) (gk_ki (fun r4 m3 h => ?_))
    refine go_goto 17 dX7_speed_12 (by decide) ?_
    exact go_iret dX7_speed_17 ⟨_, rfl, h⟩
def w_X7_event (this : Nat) (x1 : Int32) (x2 : Int32) (x3 : Int32) (μ : gk_St) (Q : Int32 → gk_St → Prop) : Prop := w_X0_mayBe (gk_rf this 5) x1 x2 x3 μ (fun r2 m1 => (if r2 = 0 then Q (-2) m1 else w_X0_hasSpace (gk_rf this 5) m1 (fun r4 m3 => (if r4 = 0 then Q (-4) m3 else w_X0_append (gk_rf this 5) x1 x2 x3 m3 (fun m5 => (∀ m6 : gk_St, m6 = gk_up m5 this 16 1 → Q (m6 (gk_rf this 5) 3) m6))))))
set_option maxRecDepth 100000 in
set_option maxHeartbeats 4000000 in
theorem k_X7_event {this : Nat} {x1 : Int32} {x2 : Int32} {x3 : Int32} {μ : gk_St} {Q : Int32 → gk_St → Prop} (h_this : gk_isO this 7) (h : w_X7_event this x1 x2 x3 μ Q) : gk_CT yX7_event cX7_event 4 (some .int) 3 [.ref this, .int x1, .int x2, .int x3] μ (gk_Qi Q) := by
  unfold w_X7_event at h
  refine gk_enter (by decide) (Nat.le_of_ble_eq_true rfl) ?_
  show Go RX7 cX7_event 4 (some .int) 3 0 [(0, .ref this), (1, .int x1), (2, .int x2), (3, .int x3)] [] μ (gk_Qi Q)
  refine go_aload_n 0 dX7_event_0 rfl rfl ?_
  refine go_getR dX7_event_1 fl_RX7_43 h_this (rr_7_5 h_this) ?_
  refine go_iload_n 1 dX7_event_4 rfl rfl ?_
  refine go_iload_n 2 dX7_event_5 rfl rfl ?_
  refine go_iload_n 3 dX7_event_6 rfl rfl ?_
  refine go_callV (ci := 0) (d' := 2) [.int x1, .int x2, .int x3] dX7_event_7 cw_RX7_145 ki_X0_mayBe ks_X0_mayBe rfl (by decide) (rt_7_5 h_this) rfl (Nat.le_of_ble_eq_true rfl) (by decide) (k_X0_mayBe (rt_7_5 h_this) h) (gk_ki (fun r2 m1 h => ?_))
  refine go_if_ne 16 dX7_event_10 (by decide) (fun c => ?_) (fun c => ?_)
  · replace h := gk_in h c
    refine go_aload_n 0 dX7_event_16 rfl rfl ?_
    refine go_getR dX7_event_17 fl_RX7_43 h_this (rr_7_5 h_this) ?_
    refine go_callV (ci := 0) (d' := 0) [] dX7_event_20 cw_RX7_148 ki_X0_hasSpace ks_X0_hasSpace rfl (by decide) (rt_7_5 h_this) rfl (Nat.le_of_ble_eq_true rfl) (by decide) (k_X0_hasSpace (rt_7_5 h_this) h) (gk_ki (fun r4 m3 h => ?_))
    refine go_if_ne 29 dX7_event_23 (by decide) (fun c => ?_) (fun c => ?_)
    · replace h := gk_in h c
      refine go_aload_n 0 dX7_event_29 rfl rfl ?_
      refine go_getR dX7_event_30 fl_RX7_43 h_this (rr_7_5 h_this) ?_
      refine go_iload_n 1 dX7_event_33 rfl rfl ?_
      refine go_iload_n 2 dX7_event_34 rfl rfl ?_
      refine go_iload_n 3 dX7_event_35 rfl rfl ?_
      refine go_callV (ci := 0) (d' := 1) [.int x1, .int x2, .int x3] dX7_event_36 cw_RX7_149 ki_X0_append ks_X0_append rfl (by decide) (rt_7_5 h_this) rfl (Nat.le_of_ble_eq_true rfl) (by decide) (k_X0_append (rt_7_5 h_this) h) (gk_kv (fun m5 h => ?_))
      refine go_aload_n 0 dX7_event_39 rfl rfl ?_
      refine go_iconst (v := 1) dX7_event_40 (by decide) ?_
      refine gb_putZ dX7_event_41 fp_RX7_96 h_this (nf_7_16 h_this) (Or.inr rfl) (fun m6 e => ?_)
      replace h := h m6 e
      refine go_aload_n 0 dX7_event_44 rfl rfl ?_
      refine go_getR dX7_event_45 fl_RX7_43 h_this (rr_7_5 h_this) ?_
      refine go_getI dX7_event_48 fl_RX7_152 (rt_7_5 h_this) (nf_0_3 (rt_7_5 h_this)) ?_
      exact go_iret dX7_event_51 ⟨_, rfl, h⟩
    · replace h := gk_ip h c
      refine go_bipush (v := (-4)) dX7_event_26 (by decide) ?_
      exact go_iret dX7_event_28 ⟨_, rfl, h⟩
  · replace h := gk_ip h c
    refine go_bipush (v := (-2)) dX7_event_13 (by decide) ?_
    exact go_iret dX7_event_15 ⟨_, rfl, h⟩
def w_X7_back (this : Nat) (μ : gk_St) (Q : Int32 → gk_St → Prop) : Prop := (if (μ (gk_rf this 5) 3) = 0 then Q (-3) μ else (∀ m1 : gk_St, m1 = gk_up μ (gk_rf this 5) 3 ((μ (gk_rf this 5) 3) - 1) → (∀ m2 : gk_St, m2 = gk_up m1 this 16 1 → Q (m2 (gk_rf this 5) 3) m2)))
set_option maxRecDepth 100000 in
set_option maxHeartbeats 4000000 in
theorem k_X7_back {this : Nat} {μ : gk_St} {Q : Int32 → gk_St → Prop} (h_this : gk_isO this 7) (h : w_X7_back this μ Q) : gk_CT yX7_back cX7_back 1 (some .int) 0 [.ref this] μ (gk_Qi Q) := by
  unfold w_X7_back at h
  refine gk_enter (by decide) (Nat.le_of_ble_eq_true rfl) ?_
  show Go RX7 cX7_back 1 (some .int) 0 0 [(0, .ref this)] [] μ (gk_Qi Q)
  refine go_aload_n 0 dX7_back_0 rfl rfl ?_
  refine go_getR dX7_back_1 fl_RX7_43 h_this (rr_7_5 h_this) ?_
  refine go_getI dX7_back_4 fl_RX7_152 (rt_7_5 h_this) (nf_0_3 (rt_7_5 h_this)) ?_
  refine go_if_ne 13 dX7_back_7 (by decide) (fun c => ?_) (fun c => ?_)
  · replace h := gk_in h c
    refine go_aload_n 0 dX7_back_13 rfl rfl ?_
    refine go_getR dX7_back_14 fl_RX7_43 h_this (rr_7_5 h_this) ?_
    refine go_dup dX7_back_17 rfl ?_
    refine go_getI dX7_back_18 fl_RX7_152 (rt_7_5 h_this) (nf_0_3 (rt_7_5 h_this)) ?_
    refine go_iconst (v := 1) dX7_back_21 (by decide) ?_
    refine go_isub dX7_back_22 ?_
    refine gb_putI dX7_back_23 fp_RX7_152 (rt_7_5 h_this) (nf_0_3 (rt_7_5 h_this)) (fun m1 e => ?_)
    replace h := h m1 e
    refine go_aload_n 0 dX7_back_26 rfl rfl ?_
    refine go_iconst (v := 1) dX7_back_27 (by decide) ?_
    refine gb_putZ dX7_back_28 fp_RX7_96 h_this (nf_7_16 h_this) (Or.inr rfl) (fun m2 e => ?_)
    replace h := h m2 e
    refine go_aload_n 0 dX7_back_31 rfl rfl ?_
    refine go_getR dX7_back_32 fl_RX7_43 h_this (rr_7_5 h_this) ?_
    refine go_getI dX7_back_35 fl_RX7_152 (rt_7_5 h_this) (nf_0_3 (rt_7_5 h_this)) ?_
    exact go_iret dX7_back_38 ⟨_, rfl, h⟩
  · replace h := gk_ip h c
    refine go_bipush (v := (-3)) dX7_back_10 (by decide) ?_
    exact go_iret dX7_back_12 ⟨_, rfl, h⟩
def w_X7_sheetOf (this : Nat) (x1 : Int32) (μ : gk_St) (Q : Option Nat → gk_St → Prop) : Prop := (if x1 = 0 then Q (some (gk_rf this 7)) μ else (if x1 = 1 then Q (some (gk_rf this 8)) μ else (if x1 = 2 then Q (some (gk_rf this 9)) μ else (if x1 = 3 then Q (some (gk_rf this 10)) μ else Q none μ))))
set_option maxRecDepth 100000 in
set_option maxHeartbeats 4000000 in
theorem k_X7_sheetOf {this : Nat} {x1 : Int32} {μ : gk_St} {Q : Option Nat → gk_St → Prop} (h_this : gk_isO this 7) (h : w_X7_sheetOf this x1 μ Q) : gk_CT yX7_sheetOf cX7_sheetOf 2 (some (.object "CableCars$Sheet")) 0 [.ref this, .int x1] μ (gk_Qq 3 Q) := by
  unfold w_X7_sheetOf at h
  refine gk_enter (by decide) (Nat.le_of_ble_eq_true rfl) ?_
  show Go RX7 cX7_sheetOf 2 (some (.object "CableCars$Sheet")) 0 0 [(0, .ref this), (1, .int x1)] [] μ (gk_Qq 3 Q)
  refine go_iload_n 1 dX7_sheetOf_0 rfl rfl ?_
  by_cases c : x1 = 0
  · replace h := gk_ip h c
    refine go_tableIn (k := 0) (off := 31) 32 dX7_sheetOf_1 c (by decide) (by decide) (by decide) (by decide) ?_
    refine go_aload_n 0 dX7_sheetOf_32 rfl rfl ?_
    refine go_getR dX7_sheetOf_33 fl_RX7_57 h_this (rr_7_7 h_this) ?_
    exact go_aret dX7_sheetOf_36 (Or.inr ⟨_, rfl, (rt_7_7 h_this), h⟩)
  replace h := gk_in h c
  have c0 := c
  clear c
  by_cases c : x1 = 1
  · replace h := gk_ip h c
    refine go_tableIn (k := 1) (off := 36) 37 dX7_sheetOf_1 c (by decide) (by decide) (by decide) (by decide) ?_
    refine go_aload_n 0 dX7_sheetOf_37 rfl rfl ?_
    refine go_getR dX7_sheetOf_38 fl_RX7_61 h_this (rr_7_8 h_this) ?_
    exact go_aret dX7_sheetOf_41 (Or.inr ⟨_, rfl, (rt_7_8 h_this), h⟩)
  replace h := gk_in h c
  have c1 := c
  clear c
  by_cases c : x1 = 2
  · replace h := gk_ip h c
    refine go_tableIn (k := 2) (off := 41) 42 dX7_sheetOf_1 c (by decide) (by decide) (by decide) (by decide) ?_
    refine go_aload_n 0 dX7_sheetOf_42 rfl rfl ?_
    refine go_getR dX7_sheetOf_43 fl_RX7_64 h_this (rr_7_9 h_this) ?_
    exact go_aret dX7_sheetOf_46 (Or.inr ⟨_, rfl, (rt_7_9 h_this), h⟩)
  replace h := gk_in h c
  have c2 := c
  clear c
  by_cases c : x1 = 3
  · replace h := gk_ip h c
    refine go_tableIn (k := 3) (off := 46) 47 dX7_sheetOf_1 c (by decide) (by decide) (by decide) (by decide) ?_
    refine go_aload_n 0 dX7_sheetOf_47 rfl rfl ?_
    refine go_getR dX7_sheetOf_48 fl_RX7_67 h_this (rr_7_10 h_this) ?_
    exact go_aret dX7_sheetOf_51 (Or.inr ⟨_, rfl, (rt_7_10 h_this), h⟩)
  replace h := gk_in h c
  have c3 := c
  clear c
  have t0 := gk_neT (a := 0) (by decide) c0
  have t1 := gk_neT (a := 1) (by decide) c1
  have t2 := gk_neT (a := 2) (by decide) c2
  have t3 := gk_neT (a := 3) (by decide) c3
  refine go_tableOut 52 dX7_sheetOf_1 (by omega) (by decide) ?_
  refine go_null dX7_sheetOf_52 ?_
  exact go_aretN dX7_sheetOf_53 (Or.inl ⟨rfl, h⟩)
def w_X7_found (this : Nat) (x1 : Int32) (μ : gk_St) (Q : Int32 → gk_St → Prop) : Prop := (∀ m1 : gk_St, m1 = gk_up μ this 17 x1 → Q (((-10) : Int32) - x1) m1)
set_option maxRecDepth 100000 in
set_option maxHeartbeats 4000000 in
theorem k_X7_found {this : Nat} {x1 : Int32} {μ : gk_St} {Q : Int32 → gk_St → Prop} (h_this : gk_isO this 7) (h : w_X7_found this x1 μ Q) : gk_CT yX7_found cX7_found 2 (some .int) 0 [.ref this, .int x1] μ (gk_Qi Q) := by
  unfold w_X7_found at h
  refine gk_enter (by decide) (Nat.le_of_ble_eq_true rfl) ?_
  show Go RX7 cX7_found 2 (some .int) 0 0 [(0, .ref this), (1, .int x1)] [] μ (gk_Qi Q)
  refine go_aload_n 0 dX7_found_0 rfl rfl ?_
  refine go_iload_n 1 dX7_found_1 rfl rfl ?_
  refine gb_putI dX7_found_2 fp_RX7_100 h_this (nf_7_17 h_this) (fun m1 e => ?_)
  replace h := h m1 e
  refine go_bipush (v := (-10)) dX7_found_5 (by decide) ?_
  refine go_iload_n 1 dX7_found_7 rfl rfl ?_
  refine go_isub dX7_found_8 ?_
  exact go_iret dX7_found_9 ⟨_, rfl, h⟩
def w_X7_read_l31 (Q : Int32 → gk_St → Prop) (K : Int32 → gk_St → Prop) (this : Nat) (a2 : Nat) : Nat → Int32 → Int32 → gk_St → Prop
  | 0, _, _, _ => False
  | n + 1, x3, x4, μ => (if (μ a2 3) ≤ (x4 + 2) then K x3 μ else (vp_in x4 (gk_ln (gk_rf a2 0)) ∧ (vp_in (x4 + 1) (gk_ln (gk_rf a2 0)) ∧ (vp_in (x4 + 2) (gk_ln (gk_rf a2 0)) ∧ w_X7_event this (μ (gk_rf a2 0) x4.toNatClampNeg) (μ (gk_rf a2 0) (Int32.toNatClampNeg (x4 + 1))) (μ (gk_rf a2 0) (Int32.toNatClampNeg (x4 + 2))) μ (fun r4 m3 => (if 0 ≤ r4 then (∀ v5 : Int32, v5 = x3 + 1 → (∀ v6 : Int32, v6 = x4 + 3 → w_X7_read_l31 Q K this a2 n v5 v6 m3)) else K x3 m3))))))
set_option maxRecDepth 100000 in
set_option maxHeartbeats 4000000 in
theorem k_X7_read_l31 {Q : Int32 → gk_St → Prop} {K : Int32 → gk_St → Prop} {this a2 : Nat} (h_this : gk_isO this 7) (h_a2 : gk_isO a2 3) (hK : ∀ (e3 : Int32) (em : gk_St), K e3 em → Go RX7 cX7_read 5 (some .int) 4 86 [(3, .int e3)] [] em (gk_Qi Q)) : ∀ (n : Nat) (x3 : Int32) (x4 : Int32) (μ : gk_St), w_X7_read_l31 Q K this a2 n x3 x4 μ → Go RX7 cX7_read 5 (some .int) 4 31 [(0, .ref this), (2, .ref a2), (3, .int x3), (4, .int x4)] [] μ (gk_Qi Q) := by
  intro n
  induction n with
  | zero =>
    intro x3 x4 μ h
    exact False.elim h
  | succ n ih =>
    intro x3 x4 μ h
    unfold w_X7_read_l31 at h
    refine go_iload 3 dX7_read_31 rfl ?_
    refine go_iconst (v := 2) dX7_read_33 (by decide) ?_
    refine go_iadd dX7_read_34 ?_
    refine go_aload_n 1 dX7_read_35 rfl rfl ?_
    refine go_getI dX7_read_36 fl_RX7_163 h_a2 (nf_3_3 h_a2) ?_
    refine go_icmp_ge 86 dX7_read_39 (by decide) (fun c => ?_) (fun c => ?_)
    · replace h := gk_ip h c
      refine go_lv [2] rfl ?_
      exact hK _ _ h
    · replace h := gk_in h c
      refine go_aload_n 0 dX7_read_42 rfl rfl ?_
      refine go_aload_n 1 dX7_read_43 rfl rfl ?_
      refine go_getR dX7_read_44 fl_RX7_164 h_a2 (rr_3_0 h_a2) ?_
      refine go_iload 3 dX7_read_47 rfl ?_
      refine go_iaload dX7_read_49 (rt_3_0 h_a2) h.1 ?_
      replace h := h.2
      refine go_aload_n 1 dX7_read_50 rfl rfl ?_
      refine go_getR dX7_read_51 fl_RX7_164 h_a2 (rr_3_0 h_a2) ?_
      refine go_iload 3 dX7_read_54 rfl ?_
      refine go_iconst (v := 1) dX7_read_56 (by decide) ?_
      refine go_iadd dX7_read_57 ?_
      refine go_iaload dX7_read_58 (rt_3_0 h_a2) h.1 ?_
      replace h := h.2
      refine go_aload_n 1 dX7_read_59 rfl rfl ?_
      refine go_getR dX7_read_60 fl_RX7_164 h_a2 (rr_3_0 h_a2) ?_
      refine go_iload 3 dX7_read_63 rfl ?_
      refine go_iconst (v := 2) dX7_read_65 (by decide) ?_
      refine go_iadd dX7_read_66 ?_
      refine go_iaload dX7_read_67 (rt_3_0 h_a2) h.1 ?_
      replace h := h.2
      refine go_callV (ci := 7) (d' := 3) [.int (μ (gk_rf a2 0) x4.toNatClampNeg), .int (μ (gk_rf a2 0) (Int32.toNatClampNeg (x4 + 1))), .int (μ (gk_rf a2 0) (Int32.toNatClampNeg (x4 + 2)))] dX7_read_68 cw_RX7_168 ki_X7_event ks_X7_event rfl (by decide) h_this rfl (Nat.le_of_ble_eq_true rfl) (by decide) (k_X7_event h_this h) (gk_ki (fun r4 m3 h => ?_))
      refine go_if_ge 77 dX7_read_71 (by decide) (fun c => ?_) (fun c => ?_)
      · replace h := gk_ip h c
        refine gb_iinc (w := 1) 2 (fun v5 => [(3, .int v5), (0, .ref this), (2, .ref a2), (4, .int x4)]) dX7_read_77 rfl (by decide) (by decide) (fun _ => rfl) (fun v5 e => ?_)
        replace h := h v5 e
        refine gb_iinc (w := 3) 3 (fun v6 => [(4, .int v6), (3, .int v5), (0, .ref this), (2, .ref a2)]) dX7_read_80 rfl (by decide) (by decide) (fun _ => rfl) (fun v6 e => ?_)
        replace h := h v6 e
        refine go_goto 31 dX7_read_83 (by decide) ?_
        refine go_lv [2, 3, 1, 0] rfl ?_
        exact ih _ _ _ h
      · replace h := gk_in h c
        refine go_goto 86 dX7_read_74 (by decide) ?_
        refine go_lv [2] rfl ?_
        exact hK _ _ h
def w_X7_read (this : Nat) (x1 : Int32) (μ : gk_St) (Q : Int32 → gk_St → Prop) : Prop := w_X7_sheetOf this x1 μ (fun t11 m1 => match t11 with | none => Q (-2) m1 | some o2 => (if (m1 o2 1) = 0 then (∃ n31 : Nat, w_X7_read_l31 Q (fun y7 m8 => Q y7 m8) this o2 n31 0 0 m1) else w_X7_found this 1 m1 (fun r10 m9 => Q r10 m9)))
set_option maxRecDepth 100000 in
set_option maxHeartbeats 4000000 in
theorem k_X7_read {this : Nat} {x1 : Int32} {μ : gk_St} {Q : Int32 → gk_St → Prop} (h_this : gk_isO this 7) (h : w_X7_read this x1 μ Q) : gk_CT yX7_read cX7_read 5 (some .int) 4 [.ref this, .int x1] μ (gk_Qi Q) := by
  unfold w_X7_read at h
  refine gk_enter (by decide) (Nat.le_of_ble_eq_true rfl) ?_
  show Go RX7 cX7_read 5 (some .int) 4 0 [(0, .ref this), (1, .int x1)] [] μ (gk_Qi Q)
  refine go_aload_n 0 dX7_read_0 rfl rfl ?_
  refine go_iload_n 1 dX7_read_1 rfl rfl ?_
  refine go_callV (ci := 7) (d' := 0) [.int x1] dX7_read_2 cw_RX7_153 ki_X7_sheetOf ks_X7_sheetOf rfl (by decide) h_this rfl (Nat.le_of_ble_eq_true rfl) (by decide) (k_X7_sheetOf h_this h) (gk_kq (fun m1 h => ?_) (fun o2 m1 h_o2 h => ?_))
  · try dsimp only at h
    refine go_astore_nN [(2, .null), (0, .ref this), (1, .int x1)] dX7_read_5 rfl (by decide) rfl ?_
    refine go_aload_nN 0 dX7_read_6 rfl rfl ?_
    refine go_ifnonnullN dX7_read_7 ?_
    refine go_bipush (v := (-2)) dX7_read_10 (by decide) ?_
    exact go_iret dX7_read_12 ⟨_, rfl, h⟩
  · try dsimp only at h
    refine go_astore_n [(2, .ref o2), (0, .ref this), (1, .int x1)] dX7_read_5 rfl (by decide) rfl ?_
    refine go_aload_n 0 dX7_read_6 rfl rfl ?_
    refine go_ifnonnull 13 dX7_read_7 (by decide) ?_
    refine go_aload_n 0 dX7_read_13 rfl rfl ?_
    refine go_getI dX7_read_14 fl_RX7_157 h_o2 (nf_3_1 h_o2) ?_
    refine go_if_eq 26 dX7_read_17 (by decide) (fun c => ?_) (fun c => ?_)
    · replace h := gk_ip h c
      refine go_iconst (v := 0) dX7_read_26 (by decide) ?_
      refine go_istore_n [(3, .int 0), (2, .ref o2), (0, .ref this), (1, .int x1)] dX7_read_27 rfl (by decide) rfl ?_
      refine go_iconst (v := 0) dX7_read_28 (by decide) ?_
      refine go_istore [(4, .int 0), (3, .int 0), (2, .ref o2), (0, .ref this), (1, .int x1)] dX7_read_29 (by decide) rfl ?_
      refine go_lv [3, 2, 1, 0] rfl ?_
      obtain ⟨n31, h⟩ := h
      refine k_X7_read_l31 h_this h_o2 (fun y7 m8 h => ?_) n31 _ _ _ h
      refine go_iload_n 0 dX7_read_86 rfl rfl ?_
      exact go_iret dX7_read_87 ⟨_, rfl, h⟩
    · replace h := gk_in h c
      refine go_aload_n 1 dX7_read_20 rfl rfl ?_
      refine go_iconst (v := 1) dX7_read_21 (by decide) ?_
      refine go_callV (ci := 7) (d' := 0) [.int 1] dX7_read_22 cw_RX7_160 ki_X7_found ks_X7_found rfl (by decide) h_this rfl (Nat.le_of_ble_eq_true rfl) (by decide) (k_X7_found h_this h) (gk_ki (fun r10 m9 h => ?_))
      exact go_iret dX7_read_25 ⟨_, rfl, h⟩
def w_X7_planAsTold_l24 (Q : gk_St → Prop) (K : gk_St → Prop) (this : Nat) : Nat → Int32 → gk_St → Prop
  | 0, _, _ => False
  | n + 1, x1, μ => (if 24 ≤ x1 then K  μ else w_X7_toldSpeed this x1 μ (fun r4 m3 => (vp_in x1 (gk_ln (gk_rf (gk_rf this 11) 6)) ∧ (∀ m5 : gk_St, m5 = gk_up m3 (gk_rf (gk_rf this 11) 6) x1.toNatClampNeg r4 → (∀ v6 : Int32, v6 = x1 + 1 → w_X7_planAsTold_l24 Q K this n v6 m5)))))
set_option maxRecDepth 100000 in
set_option maxHeartbeats 4000000 in
theorem k_X7_planAsTold_l24 {Q : gk_St → Prop} {K : gk_St → Prop} {this : Nat} (h_this : gk_isO this 7) (hK : ∀ (em : gk_St), K  em → Go RX7 cX7_planAsTold 2 none 3 50 [(0, .ref this)] [] em (gk_Qv Q)) : ∀ (n : Nat) (x1 : Int32) (μ : gk_St), w_X7_planAsTold_l24 Q K this n x1 μ → Go RX7 cX7_planAsTold 2 none 3 24 [(0, .ref this), (1, .int x1)] [] μ (gk_Qv Q) := by
  intro n
  induction n with
  | zero =>
    intro x1 μ h
    exact False.elim h
  | succ n ih =>
    intro x1 μ h
    unfold w_X7_planAsTold_l24 at h
    refine go_iload_n 1 dX7_planAsTold_24 rfl rfl ?_
    refine go_bipush (v := 24) dX7_planAsTold_25 (by decide) ?_
    refine go_icmp_ge 50 dX7_planAsTold_27 (by decide) (fun c => ?_) (fun c => ?_)
    · replace h := gk_ip h c
      refine go_lv [0] rfl ?_
      exact hK  _ h
    · replace h := gk_in h c
      refine go_aload_n 0 dX7_planAsTold_30 rfl rfl ?_
      refine go_getR dX7_planAsTold_31 fl_RX7_73 h_this (rr_7_11 h_this) ?_
      refine go_getR dX7_planAsTold_34 fl_RX7_234 (rt_7_11 h_this) (rr_1_6 (rt_7_11 h_this)) ?_
      refine go_iload_n 1 dX7_planAsTold_37 rfl rfl ?_
      refine go_aload_n 0 dX7_planAsTold_38 rfl rfl ?_
      refine go_iload_n 1 dX7_planAsTold_39 rfl rfl ?_
      refine go_callV (ci := 7) (d' := 0) [.int x1] dX7_planAsTold_40 cw_RX7_141 ki_X7_toldSpeed ks_X7_toldSpeed rfl (by decide) h_this rfl (Nat.le_of_ble_eq_true rfl) (by decide) (k_X7_toldSpeed h_this h) (gk_ki (fun r4 m3 h => ?_))
      refine gb_iastore dX7_planAsTold_43 (rt_1_6 (rt_7_11 h_this)) h.1 (fun m5 e => ?_)
      replace h := h.2 m5 e
      refine gb_iinc (w := 1) 1 (fun v6 => [(1, .int v6), (0, .ref this)]) dX7_planAsTold_44 rfl (by decide) (by decide) (fun _ => rfl) (fun v6 e => ?_)
      replace h := h v6 e
      refine go_goto 24 dX7_planAsTold_47 (by decide) ?_
      refine go_lv [1, 0] rfl ?_
      exact ih _ _ h
def w_X7_planAsTold (this : Nat) (μ : gk_St) (Q : gk_St → Prop) : Prop := w_X1_takeCars (gk_rf this 11) (gk_rf this 3) μ (fun m1 => w_X1_takeComings (gk_rf this 11) (gk_rf this 4) m1 (fun m2 => (∃ n24 : Nat, w_X7_planAsTold_l24 Q (fun m7 => w_X1_takeEvents (gk_rf this 11) (gk_rf this 5) 255 m7 (fun m8 => Q m8)) this n24 0 m2)))
set_option maxRecDepth 100000 in
set_option maxHeartbeats 4000000 in
theorem k_X7_planAsTold {this : Nat} {μ : gk_St} {Q : gk_St → Prop} (h_this : gk_isO this 7) (h : w_X7_planAsTold this μ Q) : gk_CT yX7_planAsTold cX7_planAsTold 2 none 3 [.ref this] μ (gk_Qv Q) := by
  unfold w_X7_planAsTold at h
  refine gk_enter (by decide) (Nat.le_of_ble_eq_true rfl) ?_
  show Go RX7 cX7_planAsTold 2 none 3 0 [(0, .ref this)] [] μ (gk_Qv Q)
  refine go_aload_n 0 dX7_planAsTold_0 rfl rfl ?_
  refine go_getR dX7_planAsTold_1 fl_RX7_73 h_this (rr_7_11 h_this) ?_
  refine go_aload_n 0 dX7_planAsTold_4 rfl rfl ?_
  refine go_getR dX7_planAsTold_5 fl_RX7_31 h_this (rr_7_3 h_this) ?_
  refine go_callV (ci := 1) (d' := 1) [.ref (gk_rf this 3)] dX7_planAsTold_8 cw_RX7_406 ki_X1_takeCars ks_X1_takeCars rfl (by decide) (rt_7_11 h_this) rfl (Nat.le_of_ble_eq_true rfl) (by decide) (k_X1_takeCars (rt_7_11 h_this) (rt_7_3 h_this) h) (gk_kv (fun m1 h => ?_))
  refine go_aload_n 0 dX7_planAsTold_11 rfl rfl ?_
  refine go_getR dX7_planAsTold_12 fl_RX7_73 h_this (rr_7_11 h_this) ?_
  refine go_aload_n 0 dX7_planAsTold_15 rfl rfl ?_
  refine go_getR dX7_planAsTold_16 fl_RX7_37 h_this (rr_7_4 h_this) ?_
  refine go_callV (ci := 1) (d' := 1) [.ref (gk_rf this 4)] dX7_planAsTold_19 cw_RX7_410 ki_X1_takeComings ks_X1_takeComings rfl (by decide) (rt_7_11 h_this) rfl (Nat.le_of_ble_eq_true rfl) (by decide) (k_X1_takeComings (rt_7_11 h_this) (rt_7_4 h_this) h) (gk_kv (fun m2 h => ?_))
  refine go_iconst (v := 0) dX7_planAsTold_22 (by decide) ?_
  refine go_istore_n [(1, .int 0), (0, .ref this)] dX7_planAsTold_23 rfl (by decide) rfl ?_
  refine go_lv [1, 0] rfl ?_
  obtain ⟨n24, h⟩ := h
  refine k_X7_planAsTold_l24 h_this (fun m7 h => ?_) n24 _ _ h
  refine go_aload_n 0 dX7_planAsTold_50 rfl rfl ?_
  refine go_getR dX7_planAsTold_51 fl_RX7_73 h_this (rr_7_11 h_this) ?_
  refine go_aload_n 0 dX7_planAsTold_54 rfl rfl ?_
  refine go_getR dX7_planAsTold_55 fl_RX7_43 h_this (rr_7_5 h_this) ?_
  refine go_sipush (v := 255) dX7_planAsTold_58 (by decide) ?_
  refine go_callV (ci := 1) (d' := 2) [.ref (gk_rf this 5), .int 255] dX7_planAsTold_61 cw_RX7_251 ki_X1_takeEvents ks_X1_takeEvents rfl (by decide) (rt_7_11 h_this) rfl (Nat.le_of_ble_eq_true rfl) (by decide) (k_X1_takeEvents (rt_7_11 h_this) (rt_7_5 h_this) h) (gk_kv (fun m8 h => ?_))
  exact go_vret dX7_planAsTold_64 ⟨rfl, h⟩
def w_X7_asTold (this : Nat) (μ : gk_St) (Q : Nat → gk_St → Prop) : Prop := (if (μ this 16) = 0 then Q (gk_rf this 12) μ else w_X7_planAsTold this μ (fun m1 => w_X2_run (gk_rf this 12) (gk_rf this 11) 23 m1 (fun m2 => (∀ m3 : gk_St, m3 = gk_up m2 this 16 0 → Q (gk_rf this 12) m3))))
set_option maxRecDepth 100000 in
set_option maxHeartbeats 4000000 in
theorem k_X7_asTold {this : Nat} {μ : gk_St} {Q : Nat → gk_St → Prop} (h_this : gk_isO this 7) (h : w_X7_asTold this μ Q) : gk_CT yX7_asTold cX7_asTold 1 (some (.object "CableCars$Ride")) 4 [.ref this] μ (gk_Qr 2 Q) := by
  unfold w_X7_asTold at h
  refine gk_enter (by decide) (Nat.le_of_ble_eq_true rfl) ?_
  show Go RX7 cX7_asTold 1 (some (.object "CableCars$Ride")) 4 0 [(0, .ref this)] [] μ (gk_Qr 2 Q)
  refine go_aload_n 0 dX7_asTold_0 rfl rfl ?_
  refine go_getI dX7_asTold_1 fl_RX7_96 h_this (nf_7_16 h_this) ?_
  refine go_if_eq 29 dX7_asTold_4 (by decide) (fun c => ?_) (fun c => ?_)
  · replace h := gk_ip h c
    refine go_aload_n 0 dX7_asTold_29 rfl rfl ?_
    refine go_getR dX7_asTold_30 fl_RX7_80 h_this (rr_7_12 h_this) ?_
    exact go_aret dX7_asTold_33 ⟨_, rfl, (rt_7_12 h_this), h⟩
  · replace h := gk_in h c
    refine go_aload_n 0 dX7_asTold_7 rfl rfl ?_
    refine go_callV (ci := 7) (d' := 3) [] dX7_asTold_8 cw_RX7_217 ki_X7_planAsTold ks_X7_planAsTold rfl (by decide) h_this rfl (Nat.le_of_ble_eq_true rfl) (by decide) (k_X7_planAsTold h_this h) (gk_kv (fun m1 h => ?_))
    refine go_aload_n 0 dX7_asTold_11 rfl rfl ?_
    refine go_getR dX7_asTold_12 fl_RX7_80 h_this (rr_7_12 h_this) ?_
    refine go_aload_n 0 dX7_asTold_15 rfl rfl ?_
    refine go_getR dX7_asTold_16 fl_RX7_73 h_this (rr_7_11 h_this) ?_
    refine go_bipush (v := 23) dX7_asTold_19 (by decide) ?_
    refine go_callV (ci := 2) (d' := 3) [.ref (gk_rf this 11), .int 23] dX7_asTold_21 cw_RX7_227 ki_X2_run ks_X2_run rfl (by decide) (rt_7_12 h_this) rfl (Nat.le_of_ble_eq_true rfl) (by decide) (k_X2_run (rt_7_12 h_this) (rt_7_11 h_this) h) (gk_kv (fun m2 h => ?_))
    refine go_aload_n 0 dX7_asTold_24 rfl rfl ?_
    refine go_iconst (v := 0) dX7_asTold_25 (by decide) ?_
    refine gb_putZ dX7_asTold_26 fp_RX7_96 h_this (nf_7_16 h_this) (Or.inl rfl) (fun m3 e => ?_)
    replace h := h m3 e
    refine go_aload_n 0 dX7_asTold_29 rfl rfl ?_
    refine go_getR dX7_asTold_30 fl_RX7_80 h_this (rr_7_12 h_this) ?_
    exact go_aret dX7_asTold_33 ⟨_, rfl, (rt_7_12 h_this), h⟩
def w_X7_at (this : Nat) (x1 : Int32) (x2 : Int32) (x3 : Int32) (μ : gk_St) (Q : Int32 → gk_St → Prop) : Prop := w_X7_isMoment x1 μ (fun r2 m1 => (if r2 = 0 then Q (-2) m1 else w_X7_isCar this x2 m1 (fun r4 m3 => (if r4 = 0 then Q (-2) m3 else w_X7_within x3 0 1 m3 (fun r6 m5 => (if r6 = 0 then Q (-2) m5 else w_X7_asTold this m5 (fun o8 m7 => (if x3 = 0 then (vp_in x2 (gk_rl (gk_rf o8 0)) ∧ (vp_in x1 (gk_ln (gk_rw (gk_rf o8 0) x2.toNatClampNeg)) ∧ Q (m7 (gk_rw (gk_rf o8 0) x2.toNatClampNeg) x1.toNatClampNeg) m7)) else (vp_in x2 (gk_rl (gk_rf o8 1)) ∧ (vp_in x1 (gk_ln (gk_rw (gk_rf o8 1) x2.toNatClampNeg)) ∧ Q (m7 (gk_rw (gk_rf o8 1) x2.toNatClampNeg) x1.toNatClampNeg) m7))))))))))
set_option maxRecDepth 100000 in
set_option maxHeartbeats 4000000 in
theorem k_X7_at {this : Nat} {x1 : Int32} {x2 : Int32} {x3 : Int32} {μ : gk_St} {Q : Int32 → gk_St → Prop} (h_this : gk_isO this 7) (h : w_X7_at this x1 x2 x3 μ Q) : gk_CT yX7_at cX7_at 5 (some .int) 5 [.ref this, .int x1, .int x2, .int x3] μ (gk_Qi Q) := by
  unfold w_X7_at at h
  refine gk_enter (by decide) (Nat.le_of_ble_eq_true rfl) ?_
  show Go RX7 cX7_at 5 (some .int) 5 0 [(0, .ref this), (1, .int x1), (2, .int x2), (3, .int x3)] [] μ (gk_Qi Q)
  refine go_iload_n 1 dX7_at_0 rfl rfl ?_
  refine go_callS (d' := 1) [.int x1] dX7_at_1 cw_RX7_138 kt_X7_isMoment rfl (Nat.le_of_ble_eq_true rfl) (by decide) (k_X7_isMoment h) (gk_ki (fun r2 m1 h => ?_))
  refine go_if_eq 24 dX7_at_4 (by decide) (fun c => ?_) (fun c => ?_)
  · replace h := gk_ip h c
    refine go_bipush (v := (-2)) dX7_at_24 (by decide) ?_
    exact go_iret dX7_at_26 ⟨_, rfl, h⟩
  · replace h := gk_in h c
    refine go_aload_n 0 dX7_at_7 rfl rfl ?_
    refine go_iload_n 2 dX7_at_8 rfl rfl ?_
    refine go_callV (ci := 7) (d' := 1) [.int x2] dX7_at_9 cw_RX7_127 ki_X7_isCar ks_X7_isCar rfl (by decide) h_this rfl (Nat.le_of_ble_eq_true rfl) (by decide) (k_X7_isCar h_this h) (gk_ki (fun r4 m3 h => ?_))
    refine go_if_eq 24 dX7_at_12 (by decide) (fun c => ?_) (fun c => ?_)
    · replace h := gk_ip h c
      refine go_bipush (v := (-2)) dX7_at_24 (by decide) ?_
      exact go_iret dX7_at_26 ⟨_, rfl, h⟩
    · replace h := gk_in h c
      refine go_iload_n 3 dX7_at_15 rfl rfl ?_
      refine go_iconst (v := 0) dX7_at_16 (by decide) ?_
      refine go_iconst (v := 1) dX7_at_17 (by decide) ?_
      refine go_callS (d' := 0) [.int x3, .int 0, .int 1] dX7_at_18 cw_RX7_107 kt_X7_within rfl (Nat.le_of_ble_eq_true rfl) (by decide) (k_X7_within h) (gk_ki (fun r6 m5 h => ?_))
      refine go_if_ne 27 dX7_at_21 (by decide) (fun c => ?_) (fun c => ?_)
      · replace h := gk_in h c
        refine go_aload_n 0 dX7_at_27 rfl rfl ?_
        refine go_callV (ci := 7) (d' := 4) [] dX7_at_28 cw_RX7_172 ki_X7_asTold ks_X7_asTold rfl (by decide) h_this rfl (Nat.le_of_ble_eq_true rfl) (by decide) (k_X7_asTold h_this h) (gk_kr (fun o8 m7 h_o8 h => ?_))
        refine go_astore [(4, .ref o8), (0, .ref this), (1, .int x1), (2, .int x2), (3, .int x3)] dX7_at_31 (by decide) rfl ?_
        refine go_iload_n 4 dX7_at_33 rfl rfl ?_
        refine go_if_ne 49 dX7_at_34 (by decide) (fun c => ?_) (fun c => ?_)
        · replace h := gk_in h c
          refine go_aload 0 dX7_at_49 rfl ?_
          refine go_getR dX7_at_51 fl_RX7_179 h_o8 (rr_2_1 h_o8) ?_
          refine go_iload_n 3 dX7_at_54 rfl rfl ?_
          have hb9 := h.1
          refine go_aaload dX7_at_55 (rt_2_1 h_o8) hb9 ?_
          replace h := h.2
          refine go_iload_n 2 dX7_at_56 rfl rfl ?_
          refine go_iaload dX7_at_57 ((gk_rows (rt_2_1 h_o8) (gk_inlt hb9)).1) h.1 ?_
          replace h := h.2
          exact go_iret dX7_at_58 ⟨_, rfl, h⟩
        · replace h := gk_ip h c
          refine go_aload 0 dX7_at_37 rfl ?_
          refine go_getR dX7_at_39 fl_RX7_176 h_o8 (rr_2_0 h_o8) ?_
          refine go_iload_n 3 dX7_at_42 rfl rfl ?_
          have hb10 := h.1
          refine go_aaload dX7_at_43 (rt_2_0 h_o8) hb10 ?_
          replace h := h.2
          refine go_iload_n 2 dX7_at_44 rfl rfl ?_
          refine go_iaload dX7_at_45 ((gk_rows (rt_2_0 h_o8) (gk_inlt hb10)).1) h.1 ?_
          replace h := h.2
          refine go_goto 58 dX7_at_46 (by decide) ?_
          exact go_iret dX7_at_58 ⟨_, rfl, h⟩
      · replace h := gk_ip h c
        refine go_bipush (v := (-2)) dX7_at_24 (by decide) ?_
        exact go_iret dX7_at_26 ⟨_, rfl, h⟩
