def w_X7_noteCrowdsByRoom_l30 (Q : gk_St → Prop) (K : Int32 → Int32 → gk_St → Prop) (this : Nat) : Nat → Int32 → Int32 → Int32 → Int32 → gk_St → Prop
  | 0, _, _, _, _, _ => False
  | n + 1, x1, x2, x3, x4, μ => (if 24 ≤ x4 then K x1 x2 μ else (vp_in x2 (gk_rl (gk_rf this 14)) ∧ (if x3 = 0 then (vp_in x4 (gk_ln (gk_rw (gk_rf this 14) x2.toNatClampNeg)) ∧ (∀ m6 : gk_St, m6 = gk_up μ (gk_rw (gk_rf this 14) x2.toNatClampNeg) x4.toNatClampNeg (-1) → (∀ v7 : Int32, v7 = x4 + 1 → w_X7_noteCrowdsByRoom_l30 Q K this n x1 x2 x3 v7 m6))) else w_X2_crowdKey (gk_rf this 13) x4 μ (fun r9 m8 => (vp_in x4 (gk_ln (gk_rw (gk_rf this 14) x2.toNatClampNeg)) ∧ (∀ m10 : gk_St, m10 = gk_up m8 (gk_rw (gk_rf this 14) x2.toNatClampNeg) x4.toNatClampNeg r9 → (∀ v11 : Int32, v11 = x4 + 1 → w_X7_noteCrowdsByRoom_l30 Q K this n x1 x2 x3 v11 m10)))))))
set_option maxRecDepth 100000 in
set_option maxHeartbeats 4000000 in
theorem k_X7_noteCrowdsByRoom_l30 {Q : gk_St → Prop} {K : Int32 → Int32 → gk_St → Prop} {this : Nat} (h_this : gk_isO this 7) (hK : ∀ (e1 : Int32) (e2 : Int32) (em : gk_St), K e1 e2 em → Go RX7 cX7_noteCrowdsByRoom 5 none 5 69 [(0, .ref this), (1, .int e1), (2, .int e2)] [] em (gk_Qv Q)) : ∀ (n : Nat) (x1 : Int32) (x2 : Int32) (x3 : Int32) (x4 : Int32) (μ : gk_St), w_X7_noteCrowdsByRoom_l30 Q K this n x1 x2 x3 x4 μ → Go RX7 cX7_noteCrowdsByRoom 5 none 5 30 [(0, .ref this), (1, .int x1), (2, .int x2), (3, .int x3), (4, .int x4)] [] μ (gk_Qv Q) := by
  intro n
  induction n with
  | zero =>
    intro x1 x2 x3 x4 μ h
    exact False.elim h
  | succ n ih =>
    intro x1 x2 x3 x4 μ h
    unfold w_X7_noteCrowdsByRoom_l30 at h
    refine go_iload 4 dX7_noteCrowdsByRoom_30 rfl ?_
    refine go_bipush (v := 24) dX7_noteCrowdsByRoom_32 (by decide) ?_
    refine go_icmp_ge 69 dX7_noteCrowdsByRoom_34 (by decide) (fun c => ?_) (fun c => ?_)
    · replace h := gk_ip h c
      refine go_lv [0, 1, 2] rfl ?_
      exact hK _ _ _ h
    · replace h := gk_in h c
      refine go_aload_n 0 dX7_noteCrowdsByRoom_37 rfl rfl ?_
      refine go_getR dX7_noteCrowdsByRoom_38 fl_RX7_89 h_this (rr_7_14 h_this) ?_
      refine go_iload_n 2 dX7_noteCrowdsByRoom_41 rfl rfl ?_
      have hb5 := h.1
      refine go_aaload dX7_noteCrowdsByRoom_42 (rt_7_14 h_this) hb5 ?_
      replace h := h.2
      refine go_iload 4 dX7_noteCrowdsByRoom_43 rfl ?_
      refine go_iload_n 3 dX7_noteCrowdsByRoom_45 rfl rfl ?_
      refine go_if_eq 61 dX7_noteCrowdsByRoom_46 (by decide) (fun c => ?_) (fun c => ?_)
      · replace h := gk_ip h c
        refine go_iconst (v := (-1)) dX7_noteCrowdsByRoom_61 (by decide) ?_
        refine gb_iastore dX7_noteCrowdsByRoom_62 ((gk_rows (rt_7_14 h_this) (gk_inlt hb5)).1) h.1 (fun m6 e => ?_)
        replace h := h.2 m6 e
        refine gb_iinc (w := 1) 4 (fun v7 => [(4, .int v7), (0, .ref this), (1, .int x1), (2, .int x2), (3, .int x3)]) dX7_noteCrowdsByRoom_63 rfl (by decide) (by decide) (fun _ => rfl) (fun v7 e => ?_)
        replace h := h v7 e
        refine go_goto 30 dX7_noteCrowdsByRoom_66 (by decide) ?_
        refine go_lv [1, 2, 3, 4, 0] rfl ?_
        exact ih _ _ _ _ _ h
      · replace h := gk_in h c
        refine go_aload_n 0 dX7_noteCrowdsByRoom_49 rfl rfl ?_
        refine go_getR dX7_noteCrowdsByRoom_50 fl_RX7_84 h_this (rr_7_13 h_this) ?_
        refine go_iload 4 dX7_noteCrowdsByRoom_53 rfl ?_
        refine go_callV (ci := 2) (d' := 0) [.int x4] dX7_noteCrowdsByRoom_55 cw_RX7_429 ki_X2_crowdKey ks_X2_crowdKey rfl (by decide) (rt_7_13 h_this) rfl (Nat.le_of_ble_eq_true rfl) (by decide) (k_X2_crowdKey (rt_7_13 h_this) h) (gk_ki (fun r9 m8 h => ?_))
        refine go_goto 62 dX7_noteCrowdsByRoom_58 (by decide) ?_
        refine gb_iastore dX7_noteCrowdsByRoom_62 ((gk_rows (rt_7_14 h_this) (gk_inlt hb5)).1) h.1 (fun m10 e => ?_)
        replace h := h.2 m10 e
        refine gb_iinc (w := 1) 4 (fun v11 => [(4, .int v11), (0, .ref this), (1, .int x1), (2, .int x2), (3, .int x3)]) dX7_noteCrowdsByRoom_63 rfl (by decide) (by decide) (fun _ => rfl) (fun v11 e => ?_)
        replace h := h v11 e
        refine go_goto 30 dX7_noteCrowdsByRoom_66 (by decide) ?_
        refine go_lv [1, 2, 3, 4, 0] rfl ?_
        exact ih _ _ _ _ _ h
def w_X7_noteCrowdsByRoom_l6 (Q : gk_St → Prop) (K : gk_St → Prop) (this : Nat) : Nat → Int32 → Int32 → gk_St → Prop
  | 0, _, _, _ => False
  | n + 1, x1, x2, μ => (if 9 < x2 then K  μ else (vp_in x1 (gk_ln (gk_rf (gk_rf this 11) 3)) ∧ (∀ m2 : gk_St, m2 = gk_up μ (gk_rf (gk_rf this 11) 3) x1.toNatClampNeg x2 → w_X7_comesOutAsSeen this m2 (fun r4 m3 => (∃ n30 : Nat, w_X7_noteCrowdsByRoom_l30 Q (fun y12 y13 m14 => (∀ v15 : Int32, v15 = y13 + 1 → w_X7_noteCrowdsByRoom_l6 Q K this n y12 v15 m14)) this n30 x1 x2 r4 0 m3)))))
set_option maxRecDepth 100000 in
set_option maxHeartbeats 4000000 in
theorem k_X7_noteCrowdsByRoom_l6 {Q : gk_St → Prop} {K : gk_St → Prop} {this : Nat} (h_this : gk_isO this 7) (hK : ∀ (em : gk_St), K  em → Go RX7 cX7_noteCrowdsByRoom 5 none 5 75 [] [] em (gk_Qv Q)) : ∀ (n : Nat) (x1 : Int32) (x2 : Int32) (μ : gk_St), w_X7_noteCrowdsByRoom_l6 Q K this n x1 x2 μ → Go RX7 cX7_noteCrowdsByRoom 5 none 5 6 [(0, .ref this), (1, .int x1), (2, .int x2)] [] μ (gk_Qv Q) := by
  intro n
  induction n with
  | zero =>
    intro x1 x2 μ h
    exact False.elim h
  | succ n ih =>
    intro x1 x2 μ h
    unfold w_X7_noteCrowdsByRoom_l6 at h
    refine go_iload_n 2 dX7_noteCrowdsByRoom_6 rfl rfl ?_
    refine go_bipush (v := 9) dX7_noteCrowdsByRoom_7 (by decide) ?_
    refine go_icmp_gt 75 dX7_noteCrowdsByRoom_9 (by decide) (fun c => ?_) (fun c => ?_)
    · replace h := gk_ip h c
      refine go_lv [] rfl ?_
      exact hK  _ h
    · replace h := gk_in h c
      refine go_aload_n 0 dX7_noteCrowdsByRoom_12 rfl rfl ?_
      refine go_getR dX7_noteCrowdsByRoom_13 fl_RX7_73 h_this (rr_7_11 h_this) ?_
      refine go_getR dX7_noteCrowdsByRoom_16 fl_RX7_423 (rt_7_11 h_this) (rr_1_3 (rt_7_11 h_this)) ?_
      refine go_iload_n 1 dX7_noteCrowdsByRoom_19 rfl rfl ?_
      refine go_iload_n 2 dX7_noteCrowdsByRoom_20 rfl rfl ?_
      refine gb_iastore dX7_noteCrowdsByRoom_21 (rt_1_3 (rt_7_11 h_this)) h.1 (fun m2 e => ?_)
      replace h := h.2 m2 e
      refine go_aload_n 0 dX7_noteCrowdsByRoom_22 rfl rfl ?_
      refine go_callV (ci := 7) (d' := 4) [] dX7_noteCrowdsByRoom_23 cw_RX7_255 ki_X7_comesOutAsSeen ks_X7_comesOutAsSeen rfl (by decide) h_this rfl (Nat.le_of_ble_eq_true rfl) (by decide) (k_X7_comesOutAsSeen h_this h) (gk_ki (fun r4 m3 h => ?_))
      refine go_istore_n [(3, .int r4), (0, .ref this), (1, .int x1), (2, .int x2)] dX7_noteCrowdsByRoom_26 rfl (by decide) rfl ?_
      refine go_iconst (v := 0) dX7_noteCrowdsByRoom_27 (by decide) ?_
      refine go_istore [(4, .int 0), (3, .int r4), (0, .ref this), (1, .int x1), (2, .int x2)] dX7_noteCrowdsByRoom_28 (by decide) rfl ?_
      refine go_lv [2, 3, 4, 1, 0] rfl ?_
      obtain ⟨n30, h⟩ := h
      refine k_X7_noteCrowdsByRoom_l30 h_this (fun y12 y13 m14 h => ?_) n30 _ _ _ _ _ h
      refine gb_iinc (w := 1) 2 (fun v15 => [(2, .int v15), (0, .ref this), (1, .int y12)]) dX7_noteCrowdsByRoom_69 rfl (by decide) (by decide) (fun _ => rfl) (fun v15 e => ?_)
      replace h := h v15 e
      refine go_goto 6 dX7_noteCrowdsByRoom_72 (by decide) ?_
      refine go_lv [1, 2, 0] rfl ?_
      exact ih _ _ _ h
def w_X7_noteCrowdsByRoom (this : Nat) (x1 : Int32) (μ : gk_St) (Q : gk_St → Prop) : Prop := w_X7_planAsTold this μ (fun m1 => (∃ n6 : Nat, w_X7_noteCrowdsByRoom_l6 Q (fun m16 => Q m16) this n6 x1 1 m1))
set_option maxRecDepth 100000 in
set_option maxHeartbeats 4000000 in
theorem k_X7_noteCrowdsByRoom {this : Nat} {x1 : Int32} {μ : gk_St} {Q : gk_St → Prop} (h_this : gk_isO this 7) (h : w_X7_noteCrowdsByRoom this x1 μ Q) : gk_CT yX7_noteCrowdsByRoom cX7_noteCrowdsByRoom 5 none 5 [.ref this, .int x1] μ (gk_Qv Q) := by
  unfold w_X7_noteCrowdsByRoom at h
  refine gk_enter (by decide) (Nat.le_of_ble_eq_true rfl) ?_
  show Go RX7 cX7_noteCrowdsByRoom 5 none 5 0 [(0, .ref this), (1, .int x1)] [] μ (gk_Qv Q)
  refine go_aload_n 0 dX7_noteCrowdsByRoom_0 rfl rfl ?_
  refine go_callV (ci := 7) (d' := 3) [] dX7_noteCrowdsByRoom_1 cw_RX7_217 ki_X7_planAsTold ks_X7_planAsTold rfl (by decide) h_this rfl (Nat.le_of_ble_eq_true rfl) (by decide) (k_X7_planAsTold h_this h) (gk_kv (fun m1 h => ?_))
  refine go_iconst (v := 1) dX7_noteCrowdsByRoom_4 (by decide) ?_
  refine go_istore_n [(2, .int 1), (0, .ref this), (1, .int x1)] dX7_noteCrowdsByRoom_5 rfl (by decide) rfl ?_
  refine go_lv [1, 2, 0] rfl ?_
  obtain ⟨n6, h⟩ := h
  refine k_X7_noteCrowdsByRoom_l6 h_this (fun m16 h => ?_) n6 _ _ _ h
  exact go_vret dX7_noteCrowdsByRoom_75 ⟨rfl, h⟩
def w_X7_mostAlike_l26 (Q : Int32 → gk_St → Prop) (K : Int32 → Int32 → Int32 → Int32 → gk_St → Prop) (this : Nat) : Nat → Int32 → Int32 → Int32 → Int32 → Int32 → Int32 → gk_St → Prop
  | 0, _, _, _, _, _, _, _ => False
  | n + 1, x1, x2, x3, x4, x5, x6, μ => (if 9 < x6 then K x1 x2 x3 x5 μ else (if x4 = (-1) then (∀ v3 : Int32, v3 = x6 + 1 → w_X7_mostAlike_l26 Q K this n x1 x2 x3 x4 x5 v3 μ) else (vp_in x6 (gk_rl (gk_rf this 14)) ∧ (vp_in x1 (gk_ln (gk_rw (gk_rf this 14) x6.toNatClampNeg)) ∧ (if (μ (gk_rw (gk_rf this 14) x6.toNatClampNeg) x1.toNatClampNeg) = x4 then (∀ v6 : Int32, v6 = x5 + 1 → (∀ v7 : Int32, v7 = x6 + 1 → w_X7_mostAlike_l26 Q K this n x1 x2 x3 x4 v6 v7 μ)) else (∀ v5 : Int32, v5 = x6 + 1 → w_X7_mostAlike_l26 Q K this n x1 x2 x3 x4 x5 v5 μ))))))
set_option maxRecDepth 100000 in
set_option maxHeartbeats 4000000 in
theorem k_X7_mostAlike_l26 {Q : Int32 → gk_St → Prop} {K : Int32 → Int32 → Int32 → Int32 → gk_St → Prop} {this : Nat} (h_this : gk_isO this 7) (hK : ∀ (e1 : Int32) (e2 : Int32) (e3 : Int32) (e5 : Int32) (em : gk_St), K e1 e2 e3 e5 em → Go RX7 cX7_mostAlike 7 (some .int) 1 62 [(0, .ref this), (1, .int e1), (2, .int e2), (3, .int e3), (5, .int e5)] [] em (gk_Qi Q)) : ∀ (n : Nat) (x1 : Int32) (x2 : Int32) (x3 : Int32) (x4 : Int32) (x5 : Int32) (x6 : Int32) (μ : gk_St), w_X7_mostAlike_l26 Q K this n x1 x2 x3 x4 x5 x6 μ → Go RX7 cX7_mostAlike 7 (some .int) 1 26 [(0, .ref this), (1, .int x1), (2, .int x2), (3, .int x3), (4, .int x4), (5, .int x5), (6, .int x6)] [] μ (gk_Qi Q) := by
  intro n
  induction n with
  | zero =>
    intro x1 x2 x3 x4 x5 x6 μ h
    exact False.elim h
  | succ n ih =>
    intro x1 x2 x3 x4 x5 x6 μ h
    unfold w_X7_mostAlike_l26 at h
    refine go_iload 6 dX7_mostAlike_26 rfl ?_
    refine go_bipush (v := 9) dX7_mostAlike_28 (by decide) ?_
    refine go_icmp_gt 62 dX7_mostAlike_30 (by decide) (fun c => ?_) (fun c => ?_)
    · replace h := gk_ip h c
      refine go_lv [0, 1, 2, 3, 5] rfl ?_
      exact hK _ _ _ _ _ h
    · replace h := gk_in h c
      refine go_iload 4 dX7_mostAlike_33 rfl ?_
      refine go_iconst (v := (-1)) dX7_mostAlike_35 (by decide) ?_
      refine go_icmp_eq 56 dX7_mostAlike_36 (by decide) (fun c => ?_) (fun c => ?_)
      · replace h := gk_ip h c
        refine gb_iinc (w := 1) 6 (fun v3 => [(6, .int v3), (0, .ref this), (1, .int x1), (2, .int x2), (3, .int x3), (4, .int x4), (5, .int x5)]) dX7_mostAlike_56 rfl (by decide) (by decide) (fun _ => rfl) (fun v3 e => ?_)
        replace h := h v3 e
        refine go_goto 26 dX7_mostAlike_59 (by decide) ?_
        refine go_lv [1, 2, 3, 4, 5, 6, 0] rfl ?_
        exact ih _ _ _ _ _ _ _ h
      · replace h := gk_in h c
        refine go_aload_n 0 dX7_mostAlike_39 rfl rfl ?_
        refine go_getR dX7_mostAlike_40 fl_RX7_89 h_this (rr_7_14 h_this) ?_
        refine go_iload 6 dX7_mostAlike_43 rfl ?_
        have hb4 := h.1
        refine go_aaload dX7_mostAlike_45 (rt_7_14 h_this) hb4 ?_
        replace h := h.2
        refine go_iload_n 1 dX7_mostAlike_46 rfl rfl ?_
        refine go_iaload dX7_mostAlike_47 ((gk_rows (rt_7_14 h_this) (gk_inlt hb4)).1) h.1 ?_
        replace h := h.2
        refine go_iload 4 dX7_mostAlike_48 rfl ?_
        refine go_icmp_ne 56 dX7_mostAlike_50 (by decide) (fun c => ?_) (fun c => ?_)
        · replace h := gk_in h c
          refine gb_iinc (w := 1) 6 (fun v5 => [(6, .int v5), (0, .ref this), (1, .int x1), (2, .int x2), (3, .int x3), (4, .int x4), (5, .int x5)]) dX7_mostAlike_56 rfl (by decide) (by decide) (fun _ => rfl) (fun v5 e => ?_)
          replace h := h v5 e
          refine go_goto 26 dX7_mostAlike_59 (by decide) ?_
          refine go_lv [1, 2, 3, 4, 5, 6, 0] rfl ?_
          exact ih _ _ _ _ _ _ _ h
        · replace h := gk_ip h c
          refine gb_iinc (w := 1) 5 (fun v6 => [(5, .int v6), (0, .ref this), (1, .int x1), (2, .int x2), (3, .int x3), (4, .int x4), (6, .int x6)]) dX7_mostAlike_53 rfl (by decide) (by decide) (fun _ => rfl) (fun v6 e => ?_)
          replace h := h v6 e
          refine gb_iinc (w := 1) 6 (fun v7 => [(6, .int v7), (5, .int v6), (0, .ref this), (1, .int x1), (2, .int x2), (3, .int x3), (4, .int x4)]) dX7_mostAlike_56 rfl (by decide) (by decide) (fun _ => rfl) (fun v7 e => ?_)
          replace h := h v7 e
          refine go_goto 26 dX7_mostAlike_59 (by decide) ?_
          refine go_lv [2, 3, 4, 5, 6, 1, 0] rfl ?_
          exact ih _ _ _ _ _ _ _ h
def w_X7_mostAlike_l4 (Q : Int32 → gk_St → Prop) (K : Int32 → gk_St → Prop) (this : Nat) : Nat → Int32 → Int32 → Int32 → gk_St → Prop
  | 0, _, _, _, _ => False
  | n + 1, x1, x2, x3, μ => (if 9 < x3 then K x2 μ else (vp_in x3 (gk_rl (gk_rf this 14)) ∧ (vp_in x1 (gk_ln (gk_rw (gk_rf this 14) x3.toNatClampNeg)) ∧ (∀ v2 : Int32, v2 = (μ (gk_rw (gk_rf this 14) x3.toNatClampNeg) x1.toNatClampNeg) → (∃ n26 : Nat, w_X7_mostAlike_l26 Q (fun y8 y9 y10 y11 m12 => (∀ v13 : Int32, v13 = (gk_mx y9 y11) → (∀ v14 : Int32, v14 = y10 + 1 → w_X7_mostAlike_l4 Q K this n y8 v13 v14 m12))) this n26 x1 x2 x3 v2 0 1 μ)))))
set_option maxRecDepth 100000 in
set_option maxHeartbeats 4000000 in
theorem k_X7_mostAlike_l4 {Q : Int32 → gk_St → Prop} {K : Int32 → gk_St → Prop} {this : Nat} (h_this : gk_isO this 7) (hK : ∀ (e2 : Int32) (em : gk_St), K e2 em → Go RX7 cX7_mostAlike 7 (some .int) 1 75 [(2, .int e2)] [] em (gk_Qi Q)) : ∀ (n : Nat) (x1 : Int32) (x2 : Int32) (x3 : Int32) (μ : gk_St), w_X7_mostAlike_l4 Q K this n x1 x2 x3 μ → Go RX7 cX7_mostAlike 7 (some .int) 1 4 [(0, .ref this), (1, .int x1), (2, .int x2), (3, .int x3)] [] μ (gk_Qi Q) := by
  intro n
  induction n with
  | zero =>
    intro x1 x2 x3 μ h
    exact False.elim h
  | succ n ih =>
    intro x1 x2 x3 μ h
    unfold w_X7_mostAlike_l4 at h
    refine go_iload_n 3 dX7_mostAlike_4 rfl rfl ?_
    refine go_bipush (v := 9) dX7_mostAlike_5 (by decide) ?_
    refine go_icmp_gt 75 dX7_mostAlike_7 (by decide) (fun c => ?_) (fun c => ?_)
    · replace h := gk_ip h c
      refine go_lv [2] rfl ?_
      exact hK _ _ h
    · replace h := gk_in h c
      refine go_aload_n 0 dX7_mostAlike_10 rfl rfl ?_
      refine go_getR dX7_mostAlike_11 fl_RX7_89 h_this (rr_7_14 h_this) ?_
      refine go_iload_n 3 dX7_mostAlike_14 rfl rfl ?_
      have hb1 := h.1
      refine go_aaload dX7_mostAlike_15 (rt_7_14 h_this) hb1 ?_
      replace h := h.2
      refine go_iload_n 1 dX7_mostAlike_16 rfl rfl ?_
      refine go_iaload dX7_mostAlike_17 ((gk_rows (rt_7_14 h_this) (gk_inlt hb1)).1) h.1 ?_
      replace h := h.2
      refine gb_istore (fun v2 => [(4, .int v2), (0, .ref this), (1, .int x1), (2, .int x2), (3, .int x3)]) dX7_mostAlike_18 (by decide) (fun _ => rfl) (fun v2 e => ?_)
      replace h := h v2 e
      refine go_iconst (v := 0) dX7_mostAlike_20 (by decide) ?_
      refine go_istore [(5, .int 0), (4, .int v2), (0, .ref this), (1, .int x1), (2, .int x2), (3, .int x3)] dX7_mostAlike_21 (by decide) rfl ?_
      refine go_iconst (v := 1) dX7_mostAlike_23 (by decide) ?_
      refine go_istore [(6, .int 1), (5, .int 0), (4, .int v2), (0, .ref this), (1, .int x1), (2, .int x2), (3, .int x3)] dX7_mostAlike_24 (by decide) rfl ?_
      refine go_lv [3, 4, 5, 6, 2, 1, 0] rfl ?_
      obtain ⟨n26, h⟩ := h
      refine k_X7_mostAlike_l26 h_this (fun y8 y9 y10 y11 m12 h => ?_) n26 _ _ _ _ _ _ _ h
      refine go_iload_n 2 dX7_mostAlike_62 rfl rfl ?_
      refine go_iload 4 dX7_mostAlike_63 rfl ?_
      refine gb_mmax dX7_mostAlike_65 mw_RX7_432 mt_max mi_Math mc_max (Nat.le_of_ble_eq_true rfl) (by decide) ?_
      refine gb_istore_n (fun v13 => [(2, .int v13), (0, .ref this), (1, .int y8), (3, .int y10), (5, .int y11)]) dX7_mostAlike_68 rfl (by decide) (fun _ => rfl) (fun v13 e => ?_)
      replace h := h v13 e
      refine gb_iinc (w := 1) 3 (fun v14 => [(3, .int v14), (2, .int v13), (0, .ref this), (1, .int y8), (5, .int y11)]) dX7_mostAlike_69 rfl (by decide) (by decide) (fun _ => rfl) (fun v14 e => ?_)
      replace h := h v14 e
      refine go_goto 4 dX7_mostAlike_72 (by decide) ?_
      refine go_lv [2, 3, 1, 0] rfl ?_
      exact ih _ _ _ _ h
def w_X7_mostAlike (this : Nat) (x1 : Int32) (μ : gk_St) (Q : Int32 → gk_St → Prop) : Prop := (∃ n4 : Nat, w_X7_mostAlike_l4 Q (fun y15 m16 => Q y15 m16) this n4 x1 0 1 μ)
set_option maxRecDepth 100000 in
set_option maxHeartbeats 4000000 in
theorem k_X7_mostAlike {this : Nat} {x1 : Int32} {μ : gk_St} {Q : Int32 → gk_St → Prop} (h_this : gk_isO this 7) (h : w_X7_mostAlike this x1 μ Q) : gk_CT yX7_mostAlike cX7_mostAlike 7 (some .int) 1 [.ref this, .int x1] μ (gk_Qi Q) := by
  unfold w_X7_mostAlike at h
  refine gk_enter (by decide) (Nat.le_of_ble_eq_true rfl) ?_
  show Go RX7 cX7_mostAlike 7 (some .int) 1 0 [(0, .ref this), (1, .int x1)] [] μ (gk_Qi Q)
  refine go_iconst (v := 0) dX7_mostAlike_0 (by decide) ?_
  refine go_istore_n [(2, .int 0), (0, .ref this), (1, .int x1)] dX7_mostAlike_1 rfl (by decide) rfl ?_
  refine go_iconst (v := 1) dX7_mostAlike_2 (by decide) ?_
  refine go_istore_n [(3, .int 1), (2, .int 0), (0, .ref this), (1, .int x1)] dX7_mostAlike_3 rfl (by decide) rfl ?_
  refine go_lv [2, 3, 1, 0] rfl ?_
  obtain ⟨n4, h⟩ := h
  refine k_X7_mostAlike_l4 h_this (fun y15 m16 h => ?_) n4 _ _ _ _ h
  refine go_iload_n 0 dX7_mostAlike_75 rfl rfl ?_
  exact go_iret dX7_mostAlike_76 ⟨_, rfl, h⟩
def w_X7_ask_l27 (Q : Int32 → gk_St → Prop) (K : Int32 → gk_St → Prop) (this : Nat) : Nat → Int32 → Int32 → Int32 → gk_St → Prop
  | 0, _, _, _, _ => False
  | n + 1, x2, x3, x4, μ => (if 24 ≤ x4 then K x2 μ else w_X7_mostAlike this x4 μ (fun r7 m6 => (if x3 ≤ r7 then (∀ v8 : Int32, v8 = x4 + 1 → w_X7_ask_l27 Q K this n x2 x3 v8 m6) else (∀ v9 : Int32, v9 = x4 + 1 → w_X7_ask_l27 Q K this n x4 r7 v9 m6))))
set_option maxRecDepth 100000 in
set_option maxHeartbeats 4000000 in
theorem k_X7_ask_l27 {Q : Int32 → gk_St → Prop} {K : Int32 → gk_St → Prop} {this : Nat} (h_this : gk_isO this 7) (hK : ∀ (e2 : Int32) (em : gk_St), K e2 em → Go RX7 cX7_ask 6 (some .int) 6 60 [(2, .int e2)] [] em (gk_Qi Q)) : ∀ (n : Nat) (x2 : Int32) (x3 : Int32) (x4 : Int32) (μ : gk_St), w_X7_ask_l27 Q K this n x2 x3 x4 μ → Go RX7 cX7_ask 6 (some .int) 6 27 [(0, .ref this), (2, .int x2), (3, .int x3), (4, .int x4)] [] μ (gk_Qi Q) := by
  intro n
  induction n with
  | zero =>
    intro x2 x3 x4 μ h
    exact False.elim h
  | succ n ih =>
    intro x2 x3 x4 μ h
    unfold w_X7_ask_l27 at h
    refine go_iload 3 dX7_ask_27 rfl ?_
    refine go_bipush (v := 24) dX7_ask_29 (by decide) ?_
    refine go_icmp_ge 60 dX7_ask_31 (by decide) (fun c => ?_) (fun c => ?_)
    · replace h := gk_ip h c
      refine go_lv [1] rfl ?_
      exact hK _ _ h
    · replace h := gk_in h c
      refine go_aload_n 0 dX7_ask_34 rfl rfl ?_
      refine go_iload 3 dX7_ask_35 rfl ?_
      refine go_callV (ci := 7) (d' := 1) [.int x4] dX7_ask_37 cw_RX7_267 ki_X7_mostAlike ks_X7_mostAlike rfl (by decide) h_this rfl (Nat.le_of_ble_eq_true rfl) (by decide) (k_X7_mostAlike h_this h) (gk_ki (fun r7 m6 h => ?_))
      refine go_istore [(5, .int r7), (0, .ref this), (2, .int x2), (3, .int x3), (4, .int x4)] dX7_ask_40 (by decide) rfl ?_
      refine go_iload 0 dX7_ask_42 rfl ?_
      refine go_iload_n 3 dX7_ask_44 rfl rfl ?_
      refine go_icmp_ge 54 dX7_ask_45 (by decide) (fun c => ?_) (fun c => ?_)
      · replace h := gk_ip h c
        refine gb_iinc (w := 1) 4 (fun v8 => [(4, .int v8), (5, .int r7), (0, .ref this), (2, .int x2), (3, .int x3)]) dX7_ask_54 rfl (by decide) (by decide) (fun _ => rfl) (fun v8 e => ?_)
        replace h := h v8 e
        refine go_goto 27 dX7_ask_57 (by decide) ?_
        refine go_lv [2, 3, 4, 0] rfl ?_
        exact ih _ _ _ _ h
      · replace h := gk_in h c
        refine go_iload 4 dX7_ask_48 rfl ?_
        refine go_istore_n [(2, .int x4), (5, .int r7), (0, .ref this), (3, .int x3), (4, .int x4)] dX7_ask_50 rfl (by decide) rfl ?_
        refine go_iload 1 dX7_ask_51 rfl ?_
        refine go_istore_n [(3, .int r7), (2, .int x4), (5, .int r7), (0, .ref this), (4, .int x4)] dX7_ask_53 rfl (by decide) rfl ?_
        refine gb_iinc (w := 1) 4 (fun v9 => [(4, .int v9), (3, .int r7), (2, .int x4), (5, .int r7), (0, .ref this)]) dX7_ask_54 rfl (by decide) (by decide) (fun _ => rfl) (fun v9 e => ?_)
        replace h := h v9 e
        refine go_goto 27 dX7_ask_57 (by decide) ?_
        refine go_lv [4, 2, 1, 0] rfl ?_
        exact ih _ _ _ _ h
def w_X7_ask (this : Nat) (x1 : Int32) (μ : gk_St) (Q : Int32 → gk_St → Prop) : Prop := w_X7_isCar this x1 μ (fun r2 m1 => (if r2 = 0 then Q (-2) m1 else w_X7_noteCrowdsByRoom this x1 m1 (fun m3 => w_X7_mostAlike this 0 m3 (fun r5 m4 => (∃ n27 : Nat, w_X7_ask_l27 Q (fun y10 m11 => Q y10 m11) this n27 0 r5 1 m4)))))
set_option maxRecDepth 100000 in
set_option maxHeartbeats 4000000 in
theorem k_X7_ask {this : Nat} {x1 : Int32} {μ : gk_St} {Q : Int32 → gk_St → Prop} (h_this : gk_isO this 7) (h : w_X7_ask this x1 μ Q) : gk_CT yX7_ask cX7_ask 6 (some .int) 6 [.ref this, .int x1] μ (gk_Qi Q) := by
  unfold w_X7_ask at h
  refine gk_enter (by decide) (Nat.le_of_ble_eq_true rfl) ?_
  show Go RX7 cX7_ask 6 (some .int) 6 0 [(0, .ref this), (1, .int x1)] [] μ (gk_Qi Q)
  refine go_aload_n 0 dX7_ask_0 rfl rfl ?_
  refine go_iload_n 1 dX7_ask_1 rfl rfl ?_
  refine go_callV (ci := 7) (d' := 1) [.int x1] dX7_ask_2 cw_RX7_127 ki_X7_isCar ks_X7_isCar rfl (by decide) h_this rfl (Nat.le_of_ble_eq_true rfl) (by decide) (k_X7_isCar h_this h) (gk_ki (fun r2 m1 h => ?_))
  refine go_if_ne 11 dX7_ask_5 (by decide) (fun c => ?_) (fun c => ?_)
  · replace h := gk_in h c
    refine go_aload_n 0 dX7_ask_11 rfl rfl ?_
    refine go_iload_n 1 dX7_ask_12 rfl rfl ?_
    refine go_callV (ci := 7) (d' := 5) [.int x1] dX7_ask_13 cw_RX7_264 ki_X7_noteCrowdsByRoom ks_X7_noteCrowdsByRoom rfl (by decide) h_this rfl (Nat.le_of_ble_eq_true rfl) (by decide) (k_X7_noteCrowdsByRoom h_this h) (gk_kv (fun m3 h => ?_))
    refine go_iconst (v := 0) dX7_ask_16 (by decide) ?_
    refine go_istore_n [(2, .int 0), (0, .ref this), (1, .int x1)] dX7_ask_17 rfl (by decide) rfl ?_
    refine go_aload_n 1 dX7_ask_18 rfl rfl ?_
    refine go_iconst (v := 0) dX7_ask_19 (by decide) ?_
    refine go_callV (ci := 7) (d' := 1) [.int 0] dX7_ask_20 cw_RX7_267 ki_X7_mostAlike ks_X7_mostAlike rfl (by decide) h_this rfl (Nat.le_of_ble_eq_true rfl) (by decide) (k_X7_mostAlike h_this h) (gk_ki (fun r5 m4 h => ?_))
    refine go_istore_n [(3, .int r5), (2, .int 0), (0, .ref this), (1, .int x1)] dX7_ask_23 rfl (by decide) rfl ?_
    refine go_iconst (v := 1) dX7_ask_24 (by decide) ?_
    refine go_istore [(4, .int 1), (3, .int r5), (2, .int 0), (0, .ref this), (1, .int x1)] dX7_ask_25 (by decide) rfl ?_
    refine go_lv [3, 2, 1, 0] rfl ?_
    obtain ⟨n27, h⟩ := h
    refine k_X7_ask_l27 h_this (fun y10 m11 h => ?_) n27 _ _ _ _ h
    refine go_iload_n 0 dX7_ask_60 rfl rfl ?_
    exact go_iret dX7_ask_61 ⟨_, rfl, h⟩
  · replace h := gk_ip h c
    refine go_bipush (v := (-2)) dX7_ask_8 (by decide) ?_
    exact go_iret dX7_ask_10 ⟨_, rfl, h⟩
def w_X7_sharesOf_j38 (Q : Int64 → gk_St → Prop) (K : Int64 → gk_St → Prop) (C : Int32 → Int32 → Int64 → Int32 → gk_St → Prop) (this : Nat) (x1 : Int32) (x2 : Int32) (x5 : Int32) (s0 : Int64) (s1 : Int64) (μ : gk_St) : Prop := (∀ v1 : Int64, v1 = (s1 * s0) → (∀ v2 : Int32, v2 = x5 + 1 → C x1 x2 v1 v2 μ))
set_option maxRecDepth 100000 in
set_option maxHeartbeats 4000000 in
theorem k_X7_sharesOf_j38 {Q : Int64 → gk_St → Prop} {K : Int64 → gk_St → Prop} {C : Int32 → Int32 → Int64 → Int32 → gk_St → Prop} {this : Nat} {x1 : Int32} {x2 : Int32} {x5 : Int32} {s0 : Int64} {s1 : Int64} {μ : gk_St} (h_this : gk_isO this 7) (hK : ∀ (e3 : Int64) (em : gk_St), K e3 em → Go RX7 cX7_sharesOf 6 (some .long) 0 46 [(3, .long e3)] [] em (gk_Ql Q)) (hC : ∀ (c1 : Int32) (c2 : Int32) (c3 : Int64) (c5 : Int32) (cm : gk_St), C c1 c2 c3 c5 cm → Go RX7 cX7_sharesOf 6 (some .long) 0 5 [(0, .ref this), (1, .int c1), (2, .int c2), (3, .long c3), (5, .int c5)] [] cm (gk_Ql Q)) (h : w_X7_sharesOf_j38 Q K C this x1 x2 x5 s0 s1 μ) : Go RX7 cX7_sharesOf 6 (some .long) 0 38 [(0, .ref this), (1, .int x1), (2, .int x2), (5, .int x5)] [.long s0, .long s1] μ (gk_Ql Q) := by
  unfold w_X7_sharesOf_j38 at h
  refine go_lmul dX7_sharesOf_38 ?_
  refine gb_lstore_n (fun v1 => [(3, .long v1), (0, .ref this), (1, .int x1), (2, .int x2), (5, .int x5)]) dX7_sharesOf_39 rfl (by decide) (fun _ => rfl) (fun v1 e => ?_)
  replace h := h v1 e
  refine gb_iinc (w := 1) 4 (fun v2 => [(5, .int v2), (3, .long v1), (0, .ref this), (1, .int x1), (2, .int x2)]) dX7_sharesOf_40 rfl (by decide) (by decide) (fun _ => rfl) (fun v2 e => ?_)
  replace h := h v2 e
  refine go_goto 5 dX7_sharesOf_43 (by decide) ?_
  refine go_lv [2, 3, 4, 1, 0] rfl ?_
  exact hC _ _ _ _ _ h
def w_X7_sharesOf_l5 (Q : Int64 → gk_St → Prop) (K : Int64 → gk_St → Prop) (this : Nat) : Nat → Int32 → Int32 → Int64 → Int32 → gk_St → Prop
  | 0, _, _, _, _, _ => False
  | n + 1, x1, x2, x3, x5, μ => (if (μ (gk_rf this 5) 3) ≤ x5 then K x3 μ else (if ((x1 >>> (x5 &&& 31)) &&& 1) = 1 then w_X7_sharesOf_j38 Q K (fun c_x1 c_x2 c_x3 c_x5 cm => w_X7_sharesOf_l5 Q K this n c_x1 c_x2 c_x3 c_x5 cm) this x1 x2 x5 (Int32.toInt64 x2) x3 μ else w_X7_sharesOf_j38 Q K (fun c_x1 c_x2 c_x3 c_x5 cm => w_X7_sharesOf_l5 Q K this n c_x1 c_x2 c_x3 c_x5 cm) this x1 x2 x5 (Int32.toInt64 ((16 : Int32) - x2)) x3 μ))
set_option maxRecDepth 100000 in
set_option maxHeartbeats 4000000 in
theorem k_X7_sharesOf_l5 {Q : Int64 → gk_St → Prop} {K : Int64 → gk_St → Prop} {this : Nat} (h_this : gk_isO this 7) (hK : ∀ (e3 : Int64) (em : gk_St), K e3 em → Go RX7 cX7_sharesOf 6 (some .long) 0 46 [(3, .long e3)] [] em (gk_Ql Q)) : ∀ (n : Nat) (x1 : Int32) (x2 : Int32) (x3 : Int64) (x5 : Int32) (μ : gk_St), w_X7_sharesOf_l5 Q K this n x1 x2 x3 x5 μ → Go RX7 cX7_sharesOf 6 (some .long) 0 5 [(0, .ref this), (1, .int x1), (2, .int x2), (3, .long x3), (5, .int x5)] [] μ (gk_Ql Q) := by
  intro n
  induction n with
  | zero =>
    intro x1 x2 x3 x5 μ h
    exact False.elim h
  | succ n ih =>
    intro x1 x2 x3 x5 μ h
    unfold w_X7_sharesOf_l5 at h
    refine go_iload 4 dX7_sharesOf_5 rfl ?_
    refine go_aload_n 0 dX7_sharesOf_7 rfl rfl ?_
    refine go_getR dX7_sharesOf_8 fl_RX7_43 h_this (rr_7_5 h_this) ?_
    refine go_getI dX7_sharesOf_11 fl_RX7_152 (rt_7_5 h_this) (nf_0_3 (rt_7_5 h_this)) ?_
    refine go_icmp_ge 46 dX7_sharesOf_14 (by decide) (fun c => ?_) (fun c => ?_)
    · replace h := gk_ip h c
      refine go_lv [3] rfl ?_
      exact hK _ _ h
    · replace h := gk_in h c
      refine go_lload_n 3 dX7_sharesOf_17 rfl rfl ?_
      refine go_iload_n 1 dX7_sharesOf_18 rfl rfl ?_
      refine go_iload 4 dX7_sharesOf_19 rfl ?_
      refine go_ishr dX7_sharesOf_21 ?_
      refine go_iconst (v := 1) dX7_sharesOf_22 (by decide) ?_
      refine go_iand dX7_sharesOf_23 ?_
      refine go_iconst (v := 1) dX7_sharesOf_24 (by decide) ?_
      refine go_icmp_ne 33 dX7_sharesOf_25 (by decide) (fun c => ?_) (fun c => ?_)
      · replace h := gk_in h c
        refine go_bipush (v := 16) dX7_sharesOf_33 (by decide) ?_
        refine go_iload_n 2 dX7_sharesOf_35 rfl rfl ?_
        refine go_isub dX7_sharesOf_36 ?_
        refine go_i2l dX7_sharesOf_37 ?_
        refine go_lv [0, 1, 2, 4] rfl ?_
        exact k_X7_sharesOf_j38 h_this hK (fun _ _ _ _ _ h => ih _ _ _ _ _ h) h
      · replace h := gk_ip h c
        refine go_iload_n 2 dX7_sharesOf_28 rfl rfl ?_
        refine go_i2l dX7_sharesOf_29 ?_
        refine go_goto 38 dX7_sharesOf_30 (by decide) ?_
        refine go_lv [0, 1, 2, 4] rfl ?_
        exact k_X7_sharesOf_j38 h_this hK (fun _ _ _ _ _ h => ih _ _ _ _ _ h) h
def w_X7_sharesOf (this : Nat) (x1 : Int32) (x2 : Int32) (μ : gk_St) (Q : Int64 → gk_St → Prop) : Prop := (∃ n5 : Nat, w_X7_sharesOf_l5 Q (fun y3 m4 => Q y3 m4) this n5 x1 x2 1 0 μ)
set_option maxRecDepth 100000 in
set_option maxHeartbeats 4000000 in
theorem k_X7_sharesOf {this : Nat} {x1 : Int32} {x2 : Int32} {μ : gk_St} {Q : Int64 → gk_St → Prop} (h_this : gk_isO this 7) (h : w_X7_sharesOf this x1 x2 μ Q) : gk_CT yX7_sharesOf cX7_sharesOf 6 (some .long) 0 [.ref this, .int x1, .int x2] μ (gk_Ql Q) := by
  unfold w_X7_sharesOf at h
  refine gk_enter (by decide) (Nat.le_of_ble_eq_true rfl) ?_
  show Go RX7 cX7_sharesOf 6 (some .long) 0 0 [(0, .ref this), (1, .int x1), (2, .int x2)] [] μ (gk_Ql Q)
  refine go_lconst (v := 1) dX7_sharesOf_0 (by decide) ?_
  refine go_lstore_n [(3, .long 1), (0, .ref this), (1, .int x1), (2, .int x2)] dX7_sharesOf_1 rfl (by decide) rfl ?_
  refine go_iconst (v := 0) dX7_sharesOf_2 (by decide) ?_
  refine go_istore [(5, .int 0), (3, .long 1), (0, .ref this), (1, .int x1), (2, .int x2)] dX7_sharesOf_3 (by decide) rfl ?_
  refine go_lv [2, 3, 4, 1, 0] rfl ?_
  obtain ⟨n5, h⟩ := h
  refine k_X7_sharesOf_l5 h_this (fun y3 m4 h => ?_) n5 _ _ _ _ _ h
  refine go_lload_n 0 dX7_sharesOf_46 rfl rfl ?_
  exact go_lret dX7_sharesOf_47 ⟨_, rfl, h⟩
def w_X7_sharesWithNobodyWaiting_l9 (Q : Int64 → gk_St → Prop) (K : Int64 → gk_St → Prop) (this : Nat) : Nat → Int32 → Int32 → Int64 → Int32 → gk_St → Prop
  | 0, _, _, _, _, _ => False
  | n + 1, x1, x2, x3, x5, μ => (if ((1 : Int32) <<< ((μ (gk_rf this 5) 3) &&& 31)) ≤ x5 then K x3 μ else w_X7_sharesOf this x5 x1 μ (fun r3 m2 => (if (lg_cmp r3 0) = 0 then (∀ v11 : Int32, v11 = x5 + 1 → w_X7_sharesWithNobodyWaiting_l9 Q K this n x1 x2 x3 v11 m2) else w_X1_takeEvents (gk_rf this 11) (gk_rf this 5) x5 m2 (fun m4 => w_X2_run (gk_rf this 13) (gk_rf this 11) x2 m4 (fun m5 => w_X2_crowdKey (gk_rf this 13) x2 m5 (fun r7 m6 => (if r7 = 0 then (∀ v9 : Int64, v9 = (x3 + r3) → (∀ v10 : Int32, v10 = x5 + 1 → w_X7_sharesWithNobodyWaiting_l9 Q K this n x1 x2 v9 v10 m6)) else (∀ v8 : Int32, v8 = x5 + 1 → w_X7_sharesWithNobodyWaiting_l9 Q K this n x1 x2 x3 v8 m6))))))))
set_option maxRecDepth 100000 in
set_option maxHeartbeats 4000000 in
theorem k_X7_sharesWithNobodyWaiting_l9 {Q : Int64 → gk_St → Prop} {K : Int64 → gk_St → Prop} {this : Nat} (h_this : gk_isO this 7) (hK : ∀ (e3 : Int64) (em : gk_St), K e3 em → Go RX7 cX7_sharesWithNobodyWaiting 8 (some .long) 4 89 [(3, .long e3)] [] em (gk_Ql Q)) : ∀ (n : Nat) (x1 : Int32) (x2 : Int32) (x3 : Int64) (x5 : Int32) (μ : gk_St), w_X7_sharesWithNobodyWaiting_l9 Q K this n x1 x2 x3 x5 μ → Go RX7 cX7_sharesWithNobodyWaiting 8 (some .long) 4 9 [(0, .ref this), (1, .int x1), (2, .int x2), (3, .long x3), (5, .int x5)] [] μ (gk_Ql Q) := by
  intro n
  induction n with
  | zero =>
    intro x1 x2 x3 x5 μ h
    exact False.elim h
  | succ n ih =>
    intro x1 x2 x3 x5 μ h
    unfold w_X7_sharesWithNobodyWaiting_l9 at h
    refine go_iload 4 dX7_sharesWithNobodyWaiting_9 rfl ?_
    refine go_iconst (v := 1) dX7_sharesWithNobodyWaiting_11 (by decide) ?_
    refine go_aload_n 0 dX7_sharesWithNobodyWaiting_12 rfl rfl ?_
    refine go_getR dX7_sharesWithNobodyWaiting_13 fl_RX7_43 h_this (rr_7_5 h_this) ?_
    refine go_getI dX7_sharesWithNobodyWaiting_16 fl_RX7_152 (rt_7_5 h_this) (nf_0_3 (rt_7_5 h_this)) ?_
    refine go_ishl dX7_sharesWithNobodyWaiting_19 ?_
    refine go_icmp_ge 89 dX7_sharesWithNobodyWaiting_20 (by decide) (fun c => ?_) (fun c => ?_)
    · replace h := gk_ip h c
      refine go_lv [3] rfl ?_
      exact hK _ _ h
    · replace h := gk_in h c
      refine go_aload_n 0 dX7_sharesWithNobodyWaiting_23 rfl rfl ?_
      refine go_iload 4 dX7_sharesWithNobodyWaiting_24 rfl ?_
      refine go_iload_n 1 dX7_sharesWithNobodyWaiting_26 rfl rfl ?_
      refine go_callV (ci := 7) (d' := 0) [.int x5, .int x1] dX7_sharesWithNobodyWaiting_27 cw_RX7_435 ki_X7_sharesOf ks_X7_sharesOf rfl (by decide) h_this rfl (Nat.le_of_ble_eq_true rfl) (by decide) (k_X7_sharesOf h_this h) (gk_kl (fun r3 m2 h => ?_))
      refine go_lstore [(6, .long r3), (0, .ref this), (1, .int x1), (2, .int x2), (3, .long x3), (5, .int x5)] dX7_sharesWithNobodyWaiting_30 (by decide) rfl ?_
      refine go_lload 0 dX7_sharesWithNobodyWaiting_32 rfl ?_
      refine go_lconst (v := 0) dX7_sharesWithNobodyWaiting_34 (by decide) ?_
      refine go_lcmp dX7_sharesWithNobodyWaiting_35 ?_
      refine go_if_ne 42 dX7_sharesWithNobodyWaiting_36 (by decide) (fun c => ?_) (fun c => ?_)
      · replace h := gk_in h c
        refine go_aload_n 1 dX7_sharesWithNobodyWaiting_42 rfl rfl ?_
        refine go_getR dX7_sharesWithNobodyWaiting_43 fl_RX7_73 h_this (rr_7_11 h_this) ?_
        refine go_aload_n 1 dX7_sharesWithNobodyWaiting_46 rfl rfl ?_
        refine go_getR dX7_sharesWithNobodyWaiting_47 fl_RX7_43 h_this (rr_7_5 h_this) ?_
        refine go_iload 5 dX7_sharesWithNobodyWaiting_50 rfl ?_
        refine go_callV (ci := 1) (d' := 2) [.ref (gk_rf this 5), .int x5] dX7_sharesWithNobodyWaiting_52 cw_RX7_251 ki_X1_takeEvents ks_X1_takeEvents rfl (by decide) (rt_7_11 h_this) rfl (Nat.le_of_ble_eq_true rfl) (by decide) (k_X1_takeEvents (rt_7_11 h_this) (rt_7_5 h_this) h) (gk_kv (fun m4 h => ?_))
        refine go_aload_n 1 dX7_sharesWithNobodyWaiting_55 rfl rfl ?_
        refine go_getR dX7_sharesWithNobodyWaiting_56 fl_RX7_84 h_this (rr_7_13 h_this) ?_
        refine go_aload_n 1 dX7_sharesWithNobodyWaiting_59 rfl rfl ?_
        refine go_getR dX7_sharesWithNobodyWaiting_60 fl_RX7_73 h_this (rr_7_11 h_this) ?_
        refine go_iload_n 3 dX7_sharesWithNobodyWaiting_63 rfl rfl ?_
        refine go_callV (ci := 2) (d' := 3) [.ref (gk_rf this 11), .int x2] dX7_sharesWithNobodyWaiting_64 cw_RX7_227 ki_X2_run ks_X2_run rfl (by decide) (rt_7_13 h_this) rfl (Nat.le_of_ble_eq_true rfl) (by decide) (k_X2_run (rt_7_13 h_this) (rt_7_11 h_this) h) (gk_kv (fun m5 h => ?_))
        refine go_aload_n 1 dX7_sharesWithNobodyWaiting_67 rfl rfl ?_
        refine go_getR dX7_sharesWithNobodyWaiting_68 fl_RX7_84 h_this (rr_7_13 h_this) ?_
        refine go_iload_n 3 dX7_sharesWithNobodyWaiting_71 rfl rfl ?_
        refine go_callV (ci := 2) (d' := 0) [.int x2] dX7_sharesWithNobodyWaiting_72 cw_RX7_429 ki_X2_crowdKey ks_X2_crowdKey rfl (by decide) (rt_7_13 h_this) rfl (Nat.le_of_ble_eq_true rfl) (by decide) (k_X2_crowdKey (rt_7_13 h_this) h) (gk_ki (fun r7 m6 h => ?_))
        refine go_if_ne 83 dX7_sharesWithNobodyWaiting_75 (by decide) (fun c => ?_) (fun c => ?_)
        · replace h := gk_in h c
          refine gb_iinc (w := 1) 5 (fun v8 => [(5, .int v8), (6, .long r3), (0, .ref this), (1, .int x1), (2, .int x2), (3, .long x3)]) dX7_sharesWithNobodyWaiting_83 rfl (by decide) (by decide) (fun _ => rfl) (fun v8 e => ?_)
          replace h := h v8 e
          refine go_goto 9 dX7_sharesWithNobodyWaiting_86 (by decide) ?_
          refine go_lv [2, 3, 4, 5, 0] rfl ?_
          exact ih _ _ _ _ _ h
        · replace h := gk_ip h c
          refine go_lload_n 4 dX7_sharesWithNobodyWaiting_78 rfl rfl ?_
          refine go_lload 0 dX7_sharesWithNobodyWaiting_79 rfl ?_
          refine go_ladd dX7_sharesWithNobodyWaiting_81 ?_
          refine gb_lstore_n (fun v9 => [(3, .long v9), (6, .long r3), (0, .ref this), (1, .int x1), (2, .int x2), (5, .int x5)]) dX7_sharesWithNobodyWaiting_82 rfl (by decide) (fun _ => rfl) (fun v9 e => ?_)
          replace h := h v9 e
          refine gb_iinc (w := 1) 5 (fun v10 => [(5, .int v10), (3, .long v9), (6, .long r3), (0, .ref this), (1, .int x1), (2, .int x2)]) dX7_sharesWithNobodyWaiting_83 rfl (by decide) (by decide) (fun _ => rfl) (fun v10 e => ?_)
          replace h := h v10 e
          refine go_goto 9 dX7_sharesWithNobodyWaiting_86 (by decide) ?_
          refine go_lv [3, 4, 5, 1, 0] rfl ?_
          exact ih _ _ _ _ _ h
      · replace h := gk_ip h c
        refine go_goto 83 dX7_sharesWithNobodyWaiting_39 (by decide) ?_
        refine gb_iinc (w := 1) 5 (fun v11 => [(5, .int v11), (6, .long r3), (0, .ref this), (1, .int x1), (2, .int x2), (3, .long x3)]) dX7_sharesWithNobodyWaiting_83 rfl (by decide) (by decide) (fun _ => rfl) (fun v11 e => ?_)
        replace h := h v11 e
        refine go_goto 9 dX7_sharesWithNobodyWaiting_86 (by decide) ?_
        refine go_lv [2, 3, 4, 5, 0] rfl ?_
        exact ih _ _ _ _ _ h
def w_X7_sharesWithNobodyWaiting (this : Nat) (x1 : Int32) (x2 : Int32) (μ : gk_St) (Q : Int64 → gk_St → Prop) : Prop := w_X7_planAsTold this μ (fun m1 => (∃ n9 : Nat, w_X7_sharesWithNobodyWaiting_l9 Q (fun y12 m13 => Q y12 m13) this n9 x1 x2 0 0 m1))
set_option maxRecDepth 100000 in
set_option maxHeartbeats 4000000 in
theorem k_X7_sharesWithNobodyWaiting {this : Nat} {x1 : Int32} {x2 : Int32} {μ : gk_St} {Q : Int64 → gk_St → Prop} (h_this : gk_isO this 7) (h : w_X7_sharesWithNobodyWaiting this x1 x2 μ Q) : gk_CT yX7_sharesWithNobodyWaiting cX7_sharesWithNobodyWaiting 8 (some .long) 4 [.ref this, .int x1, .int x2] μ (gk_Ql Q) := by
  unfold w_X7_sharesWithNobodyWaiting at h
  refine gk_enter (by decide) (Nat.le_of_ble_eq_true rfl) ?_
  show Go RX7 cX7_sharesWithNobodyWaiting 8 (some .long) 4 0 [(0, .ref this), (1, .int x1), (2, .int x2)] [] μ (gk_Ql Q)
  refine go_aload_n 0 dX7_sharesWithNobodyWaiting_0 rfl rfl ?_
  refine go_callV (ci := 7) (d' := 3) [] dX7_sharesWithNobodyWaiting_1 cw_RX7_217 ki_X7_planAsTold ks_X7_planAsTold rfl (by decide) h_this rfl (Nat.le_of_ble_eq_true rfl) (by decide) (k_X7_planAsTold h_this h) (gk_kv (fun m1 h => ?_))
  refine go_lconst (v := 0) dX7_sharesWithNobodyWaiting_4 (by decide) ?_
  refine go_lstore_n [(3, .long 0), (0, .ref this), (1, .int x1), (2, .int x2)] dX7_sharesWithNobodyWaiting_5 rfl (by decide) rfl ?_
  refine go_iconst (v := 0) dX7_sharesWithNobodyWaiting_6 (by decide) ?_
  refine go_istore [(5, .int 0), (3, .long 0), (0, .ref this), (1, .int x1), (2, .int x2)] dX7_sharesWithNobodyWaiting_7 (by decide) rfl ?_
  refine go_lv [2, 3, 4, 1, 0] rfl ?_
  obtain ⟨n9, h⟩ := h
  refine k_X7_sharesWithNobodyWaiting_l9 h_this (fun y12 m13 h => ?_) n9 _ _ _ _ _ h
  refine go_lload_n 0 dX7_sharesWithNobodyWaiting_89 rfl rfl ?_
  exact go_lret dX7_sharesWithNobodyWaiting_90 ⟨_, rfl, h⟩
def w_X7_chance_l71 (Q : Int64 → gk_St → Prop) (K : Int32 → Int64 → Int64 → gk_St → Prop) : Nat → Int32 → Int64 → Int64 → Int32 → gk_St → Prop
  | 0, _, _, _, _, _ => False
  | n + 1, x3, x4, x6, x8, μ => (if 32 ≤ x8 then K x3 x4 x6 μ else (if (lg_cmp (gk_ml x4 2) 0) = 0 then (if (lg_cmp x6 1) ≤ 0 then K x3 x4 x6 μ else (∀ v10 : Int64, v10 = (x4 / 2) → (∀ v11 : Int64, v11 = (x6 / 2) → (∀ v12 : Int32, v12 = x8 + 1 → w_X7_chance_l71 Q K n x3 v10 v11 v12 μ)))) else K x3 x4 x6 μ))
set_option maxRecDepth 100000 in
set_option maxHeartbeats 4000000 in
theorem k_X7_chance_l71 {Q : Int64 → gk_St → Prop} {K : Int32 → Int64 → Int64 → gk_St → Prop} (hK : ∀ (e3 : Int32) (e4 : Int64) (e6 : Int64) (em : gk_St), K e3 e4 e6 em → Go RX7 cX7_chance 9 (some .long) 5 118 [(3, .int e3), (4, .long e4), (6, .long e6)] [] em (gk_Ql Q)) : ∀ (n : Nat) (x3 : Int32) (x4 : Int64) (x6 : Int64) (x8 : Int32) (μ : gk_St), w_X7_chance_l71 Q K n x3 x4 x6 x8 μ → Go RX7 cX7_chance 9 (some .long) 5 71 [(3, .int x3), (4, .long x4), (6, .long x6), (8, .int x8)] [] μ (gk_Ql Q) := by
  intro n
  induction n with
  | zero =>
    intro x3 x4 x6 x8 μ h
    exact False.elim h
  | succ n ih =>
    intro x3 x4 x6 x8 μ h
    unfold w_X7_chance_l71 at h
    refine go_iload 3 dX7_chance_71 rfl ?_
    refine go_bipush (v := 32) dX7_chance_73 (by decide) ?_
    refine go_icmp_ge 118 dX7_chance_75 (by decide) (fun c => ?_) (fun c => ?_)
    · replace h := gk_ip h c
      refine go_lv [0, 1, 2] rfl ?_
      exact hK _ _ _ _ h
    · replace h := gk_in h c
      refine go_lload 1 dX7_chance_78 rfl ?_
      refine go_ldc2_w dX7_chance_80 ct_RX7_276 ?_
      refine gb_lrem dX7_chance_83 (by decide) ?_
      refine go_lconst (v := 0) dX7_chance_84 (by decide) ?_
      refine go_lcmp dX7_chance_85 ?_
      refine go_if_ne 118 dX7_chance_86 (by decide) (fun c => ?_) (fun c => ?_)
      · replace h := gk_in h c
        refine go_lv [0, 1, 2] rfl ?_
        exact hK _ _ _ _ h
      · replace h := gk_ip h c
        refine go_lload 2 dX7_chance_89 rfl ?_
        refine go_lconst (v := 1) dX7_chance_91 (by decide) ?_
        refine go_lcmp dX7_chance_92 ?_
        refine go_if_le 118 dX7_chance_93 (by decide) (fun c => ?_) (fun c => ?_)
        · replace h := gk_ip h c
          refine go_lv [0, 1, 2] rfl ?_
          exact hK _ _ _ _ h
        · replace h := gk_in h c
          refine go_lload 1 dX7_chance_96 rfl ?_
          refine go_ldc2_w dX7_chance_98 ct_RX7_276 ?_
          refine go_ldiv dX7_chance_101 (by decide) ?_
          refine gb_lstore (fun v10 => [(4, .long v10), (3, .int x3), (6, .long x6), (8, .int x8)]) dX7_chance_102 (by decide) (fun _ => rfl) (fun v10 e => ?_)
          replace h := h v10 e
          refine go_lload 2 dX7_chance_104 rfl ?_
          refine go_ldc2_w dX7_chance_106 ct_RX7_276 ?_
          refine go_ldiv dX7_chance_109 (by decide) ?_
          refine gb_lstore (fun v11 => [(6, .long v11), (4, .long v10), (3, .int x3), (8, .int x8)]) dX7_chance_110 (by decide) (fun _ => rfl) (fun v11 e => ?_)
          replace h := h v11 e
          refine gb_iinc (w := 1) 3 (fun v12 => [(8, .int v12), (6, .long v11), (4, .long v10), (3, .int x3)]) dX7_chance_112 rfl (by decide) (by decide) (fun _ => rfl) (fun v12 e => ?_)
          replace h := h v12 e
          refine go_goto 71 dX7_chance_115 (by decide) ?_
          refine go_lv [3, 2, 1, 0] rfl ?_
          exact ih _ _ _ _ _ h
def w_X7_chance_j118 (Q : Int64 → gk_St → Prop) (x3 : Int32) (x4 : Int64) (x6 : Int64) (μ : gk_St) : Prop := (if x3 = 0 then Q x4 μ else Q x6 μ)
set_option maxRecDepth 100000 in
set_option maxHeartbeats 4000000 in
theorem k_X7_chance_j118 {Q : Int64 → gk_St → Prop} {x3 : Int32} {x4 : Int64} {x6 : Int64} {μ : gk_St} (h : w_X7_chance_j118 Q x3 x4 x6 μ) : Go RX7 cX7_chance 9 (some .long) 5 118 [(3, .int x3), (4, .long x4), (6, .long x6)] [] μ (gk_Ql Q) := by
  unfold w_X7_chance_j118 at h
  refine go_iload_n 0 dX7_chance_118 rfl rfl ?_
  refine go_if_ne 127 dX7_chance_119 (by decide) (fun c => ?_) (fun c => ?_)
  · replace h := gk_in h c
    refine go_lload 2 dX7_chance_127 rfl ?_
    exact go_lret dX7_chance_129 ⟨_, rfl, h⟩
  · replace h := gk_ip h c
    refine go_lload 1 dX7_chance_122 rfl ?_
    refine go_goto 129 dX7_chance_124 (by decide) ?_
    exact go_lret dX7_chance_129 ⟨_, rfl, h⟩
def w_X7_chance (this : Nat) (x1 : Int32) (x2 : Int32) (x3 : Int32) (μ : gk_St) (Q : Int64 → gk_St → Prop) : Prop := w_X7_within x1 0 16 μ (fun r2 m1 => (if r2 = 0 then Q (-9223372036854775806) m1 else w_X7_isMoment x2 m1 (fun r4 m3 => (if r4 = 0 then Q (-9223372036854775806) m3 else w_X7_within x3 0 1 m3 (fun r6 m5 => (if r6 = 0 then Q (-9223372036854775806) m5 else w_X7_sharesWithNobodyWaiting this x1 x2 m5 (fun r8 m7 => (∀ v9 : Int64, v9 = ((1 : Int64) <<< ((((4 : Int32) * (m7 (gk_rf this 5) 3)) : Int32).toInt64 &&& 63)) → (if (lg_cmp r8 0) = 0 then (if x3 = 0 then Q 0 m7 else Q 1 m7) else (∃ n71 : Nat, w_X7_chance_l71 Q (fun y13 y14 y15 m16 => w_X7_chance_j118 Q y13 y14 y15 m16) n71 x3 r8 v9 0 m7))))))))))
set_option maxRecDepth 100000 in
set_option maxHeartbeats 4000000 in
theorem k_X7_chance {this : Nat} {x1 : Int32} {x2 : Int32} {x3 : Int32} {μ : gk_St} {Q : Int64 → gk_St → Prop} (h_this : gk_isO this 7) (h : w_X7_chance this x1 x2 x3 μ Q) : gk_CT yX7_chance cX7_chance 9 (some .long) 5 [.ref this, .int x1, .int x2, .int x3] μ (gk_Ql Q) := by
  unfold w_X7_chance at h
  refine gk_enter (by decide) (Nat.le_of_ble_eq_true rfl) ?_
  show Go RX7 cX7_chance 9 (some .long) 5 0 [(0, .ref this), (1, .int x1), (2, .int x2), (3, .int x3)] [] μ (gk_Ql Q)
  refine go_iload_n 1 dX7_chance_0 rfl rfl ?_
  refine go_iconst (v := 0) dX7_chance_1 (by decide) ?_
  refine go_bipush (v := 16) dX7_chance_2 (by decide) ?_
  refine go_callS (d' := 0) [.int x1, .int 0, .int 16] dX7_chance_4 cw_RX7_107 kt_X7_within rfl (Nat.le_of_ble_eq_true rfl) (by decide) (k_X7_within h) (gk_ki (fun r2 m1 h => ?_))
  refine go_if_eq 26 dX7_chance_7 (by decide) (fun c => ?_) (fun c => ?_)
  · replace h := gk_ip h c
    refine go_ldc2_w dX7_chance_26 ct_RX7_270 ?_
    exact go_lret dX7_chance_29 ⟨_, rfl, h⟩
  · replace h := gk_in h c
    refine go_iload_n 2 dX7_chance_10 rfl rfl ?_
    refine go_callS (d' := 1) [.int x2] dX7_chance_11 cw_RX7_138 kt_X7_isMoment rfl (Nat.le_of_ble_eq_true rfl) (by decide) (k_X7_isMoment h) (gk_ki (fun r4 m3 h => ?_))
    refine go_if_eq 26 dX7_chance_14 (by decide) (fun c => ?_) (fun c => ?_)
    · replace h := gk_ip h c
      refine go_ldc2_w dX7_chance_26 ct_RX7_270 ?_
      exact go_lret dX7_chance_29 ⟨_, rfl, h⟩
    · replace h := gk_in h c
      refine go_iload_n 3 dX7_chance_17 rfl rfl ?_
      refine go_iconst (v := 0) dX7_chance_18 (by decide) ?_
      refine go_iconst (v := 1) dX7_chance_19 (by decide) ?_
      refine go_callS (d' := 0) [.int x3, .int 0, .int 1] dX7_chance_20 cw_RX7_107 kt_X7_within rfl (Nat.le_of_ble_eq_true rfl) (by decide) (k_X7_within h) (gk_ki (fun r6 m5 h => ?_))
      refine go_if_ne 30 dX7_chance_23 (by decide) (fun c => ?_) (fun c => ?_)
      · replace h := gk_in h c
        refine go_aload_n 0 dX7_chance_30 rfl rfl ?_
        refine go_iload_n 1 dX7_chance_31 rfl rfl ?_
        refine go_iload_n 2 dX7_chance_32 rfl rfl ?_
        refine go_callV (ci := 7) (d' := 4) [.int x1, .int x2] dX7_chance_33 cw_RX7_272 ki_X7_sharesWithNobodyWaiting ks_X7_sharesWithNobodyWaiting rfl (by decide) h_this rfl (Nat.le_of_ble_eq_true rfl) (by decide) (k_X7_sharesWithNobodyWaiting h_this h) (gk_kl (fun r8 m7 h => ?_))
        refine go_lstore [(4, .long r8), (0, .ref this), (1, .int x1), (2, .int x2), (3, .int x3)] dX7_chance_36 (by decide) rfl ?_
        refine go_lconst (v := 1) dX7_chance_38 (by decide) ?_
        refine go_iconst (v := 4) dX7_chance_39 (by decide) ?_
        refine go_aload_n 1 dX7_chance_40 rfl rfl ?_
        refine go_getR dX7_chance_41 fl_RX7_43 h_this (rr_7_5 h_this) ?_
        refine go_getI dX7_chance_44 fl_RX7_152 (rt_7_5 h_this) (nf_0_3 (rt_7_5 h_this)) ?_
        refine go_imul dX7_chance_47 ?_
        refine go_lshl dX7_chance_48 ?_
        refine gb_lstore (fun v9 => [(6, .long v9), (4, .long r8), (0, .ref this), (1, .int x1), (2, .int x2), (3, .int x3)]) dX7_chance_49 (by decide) (fun _ => rfl) (fun v9 e => ?_)
        replace h := h v9 e
        refine go_lload 1 dX7_chance_51 rfl ?_
        refine go_lconst (v := 0) dX7_chance_53 (by decide) ?_
        refine go_lcmp dX7_chance_54 ?_
        refine go_if_ne 68 dX7_chance_55 (by decide) (fun c => ?_) (fun c => ?_)
        · replace h := gk_in h c
          refine go_iconst (v := 0) dX7_chance_68 (by decide) ?_
          refine go_istore [(8, .int 0), (6, .long v9), (4, .long r8), (0, .ref this), (1, .int x1), (2, .int x2), (3, .int x3)] dX7_chance_69 (by decide) rfl ?_
          refine go_lv [6, 2, 1, 0] rfl ?_
          obtain ⟨n71, h⟩ := h
          refine k_X7_chance_l71 (fun y13 y14 y15 m16 h => ?_) n71 _ _ _ _ _ h
          exact k_X7_chance_j118 h
        · replace h := gk_ip h c
          refine go_iload_n 5 dX7_chance_58 rfl rfl ?_
          refine go_if_ne 66 dX7_chance_59 (by decide) (fun c => ?_) (fun c => ?_)
          · replace h := gk_in h c
            refine go_lconst (v := 1) dX7_chance_66 (by decide) ?_
            exact go_lret dX7_chance_67 ⟨_, rfl, h⟩
          · replace h := gk_ip h c
            refine go_lconst (v := 0) dX7_chance_62 (by decide) ?_
            refine go_goto 67 dX7_chance_63 (by decide) ?_
            exact go_lret dX7_chance_67 ⟨_, rfl, h⟩
      · replace h := gk_ip h c
        refine go_ldc2_w dX7_chance_26 ct_RX7_270 ?_
        exact go_lret dX7_chance_29 ⟨_, rfl, h⟩
def w_X7_years_l32 (Q : Int32 → gk_St → Prop) (K : Int32 → Int32 → gk_St → Prop) (this : Nat) : Nat → Int32 → Int32 → Int32 → Int32 → gk_St → Prop
  | 0, _, _, _, _, _ => False
  | n + 1, x2, x3, x4, x5, μ => (if x2 ≤ x5 then K x2 x3 μ else (∀ v6 : Int32, v6 = (((1103515245 : Int32) * x4) + 12345) → (vp_in x5 (gk_ln (gk_rf (gk_rf this 11) 6)) ∧ (∀ m7 : gk_St, m7 = gk_up μ (gk_rf (gk_rf this 11) 6) x5.toNatClampNeg (gk_md (gk_us v6 16) 4) → (∀ v8 : Int32, v8 = x5 + 1 → w_X7_years_l32 Q K this n x2 x3 v6 v8 m7)))))
set_option maxRecDepth 100000 in
set_option maxHeartbeats 4000000 in
theorem k_X7_years_l32 {Q : Int32 → gk_St → Prop} {K : Int32 → Int32 → gk_St → Prop} {this : Nat} (h_this : gk_isO this 7) (hK : ∀ (e2 : Int32) (e3 : Int32) (em : gk_St), K e2 e3 em → Go RX7 cX7_years 6 (some .int) 4 73 [(0, .ref this), (2, .int e2), (3, .int e3)] [] em (gk_Qi Q)) : ∀ (n : Nat) (x2 : Int32) (x3 : Int32) (x4 : Int32) (x5 : Int32) (μ : gk_St), w_X7_years_l32 Q K this n x2 x3 x4 x5 μ → Go RX7 cX7_years 6 (some .int) 4 32 [(0, .ref this), (2, .int x2), (3, .int x3), (4, .int x4), (5, .int x5)] [] μ (gk_Qi Q) := by
  intro n
  induction n with
  | zero =>
    intro x2 x3 x4 x5 μ h
    exact False.elim h
  | succ n ih =>
    intro x2 x3 x4 x5 μ h
    unfold w_X7_years_l32 at h
    refine go_iload 4 dX7_years_32 rfl ?_
    refine go_iload_n 1 dX7_years_34 rfl rfl ?_
    refine go_icmp_ge 73 dX7_years_35 (by decide) (fun c => ?_) (fun c => ?_)
    · replace h := gk_ip h c
      refine go_lv [0, 1, 2] rfl ?_
      exact hK _ _ _ h
    · replace h := gk_in h c
      refine go_ldc_w dX7_years_38 ct_RX7_278 ?_
      refine go_iload 3 dX7_years_41 rfl ?_
      refine go_imul dX7_years_43 ?_
      refine go_sipush (v := 12345) dX7_years_44 (by decide) ?_
      refine go_iadd dX7_years_47 ?_
      refine gb_istore (fun v6 => [(4, .int v6), (0, .ref this), (2, .int x2), (3, .int x3), (5, .int x5)]) dX7_years_48 (by decide) (fun _ => rfl) (fun v6 e => ?_)
      replace h := h v6 e
      refine go_aload_n 1 dX7_years_50 rfl rfl ?_
      refine go_getR dX7_years_51 fl_RX7_73 h_this (rr_7_11 h_this) ?_
      refine go_getR dX7_years_54 fl_RX7_234 (rt_7_11 h_this) (rr_1_6 (rt_7_11 h_this)) ?_
      refine go_iload 4 dX7_years_57 rfl ?_
      refine go_iload 0 dX7_years_59 rfl ?_
      refine go_bipush (v := 16) dX7_years_61 (by decide) ?_
      refine gb_iushr dX7_years_63 ?_
      refine go_iconst (v := 4) dX7_years_64 (by decide) ?_
      refine gb_irem dX7_years_65 (by decide) ?_
      refine gb_iastore dX7_years_66 (rt_1_6 (rt_7_11 h_this)) h.1 (fun m7 e => ?_)
      replace h := h.2 m7 e
      refine gb_iinc (w := 1) 4 (fun v8 => [(5, .int v8), (4, .int v6), (0, .ref this), (2, .int x2), (3, .int x3)]) dX7_years_67 rfl (by decide) (by decide) (fun _ => rfl) (fun v8 e => ?_)
      replace h := h v8 e
      refine go_goto 32 dX7_years_70 (by decide) ?_
      refine go_lv [2, 3, 4, 1, 0] rfl ?_
      exact ih _ _ _ _ _ h
def w_X7_years_l76 (Q : Int32 → gk_St → Prop) (K : Int32 → gk_St → Prop) (this : Nat) : Nat → Int32 → Int32 → gk_St → Prop
  | 0, _, _, _ => False
  | n + 1, x3, x5, μ => (if 24 ≤ x5 then K x3 μ else (vp_in x5 (gk_ln (gk_rf (gk_rf this 11) 6)) ∧ (∀ m12 : gk_St, m12 = gk_up μ (gk_rf (gk_rf this 11) 6) x5.toNatClampNeg 1 → (∀ v13 : Int32, v13 = x5 + 1 → w_X7_years_l76 Q K this n x3 v13 m12))))
set_option maxRecDepth 100000 in
set_option maxHeartbeats 4000000 in
theorem k_X7_years_l76 {Q : Int32 → gk_St → Prop} {K : Int32 → gk_St → Prop} {this : Nat} (h_this : gk_isO this 7) (hK : ∀ (e3 : Int32) (em : gk_St), K e3 em → Go RX7 cX7_years 6 (some .int) 4 100 [(0, .ref this), (3, .int e3)] [] em (gk_Qi Q)) : ∀ (n : Nat) (x3 : Int32) (x5 : Int32) (μ : gk_St), w_X7_years_l76 Q K this n x3 x5 μ → Go RX7 cX7_years 6 (some .int) 4 76 [(0, .ref this), (3, .int x3), (5, .int x5)] [] μ (gk_Qi Q) := by
  intro n
  induction n with
  | zero =>
    intro x3 x5 μ h
    exact False.elim h
  | succ n ih =>
    intro x3 x5 μ h
    unfold w_X7_years_l76 at h
    refine go_iload 2 dX7_years_76 rfl ?_
    refine go_bipush (v := 24) dX7_years_78 (by decide) ?_
    refine go_icmp_ge 100 dX7_years_80 (by decide) (fun c => ?_) (fun c => ?_)
    · replace h := gk_ip h c
      refine go_lv [0, 1] rfl ?_
      exact hK _ _ h
    · replace h := gk_in h c
      refine go_aload_n 0 dX7_years_83 rfl rfl ?_
      refine go_getR dX7_years_84 fl_RX7_73 h_this (rr_7_11 h_this) ?_
      refine go_getR dX7_years_87 fl_RX7_234 (rt_7_11 h_this) (rr_1_6 (rt_7_11 h_this)) ?_
      refine go_iload 2 dX7_years_90 rfl ?_
      refine go_iconst (v := 1) dX7_years_92 (by decide) ?_
      refine gb_iastore dX7_years_93 (rt_1_6 (rt_7_11 h_this)) h.1 (fun m12 e => ?_)
      replace h := h.2 m12 e
      refine gb_iinc (w := 1) 2 (fun v13 => [(5, .int v13), (0, .ref this), (3, .int x3)]) dX7_years_94 rfl (by decide) (by decide) (fun _ => rfl) (fun v13 e => ?_)
      replace h := h v13 e
      refine go_goto 76 dX7_years_97 (by decide) ?_
      refine go_lv [1, 2, 0] rfl ?_
      exact ih _ _ _ h
def w_X7_years (this : Nat) (x1 : Int32) (x2 : Int32) (x3 : Int32) (μ : gk_St) (Q : Int32 → gk_St → Prop) : Prop := w_X7_within x2 0 24 μ (fun r2 m1 => (if r2 = 0 then Q (-2) m1 else w_X7_within x3 0 1 m1 (fun r4 m3 => (if r4 = 0 then Q (-2) m3 else w_X7_planAsTold this m3 (fun m5 => (∃ n32 : Nat, w_X7_years_l32 Q (fun y9 y10 m11 => (∃ n76 : Nat, w_X7_years_l76 Q (fun y14 m15 => w_X2_run (gk_rf this 13) (gk_rf this 11) 23 m15 (fun m16 => (if y14 = 0 then w_X2_allOver (gk_rf this 13) m16 (fun r20 m19 => Q r20 m19) else w_X2_allPower (gk_rf this 13) m16 (fun r18 m17 => Q r18 m17)))) this n76 y10 y9 m11)) this n32 x2 x3 x1 0 m5))))))
set_option maxRecDepth 100000 in
set_option maxHeartbeats 4000000 in
theorem k_X7_years {this : Nat} {x1 : Int32} {x2 : Int32} {x3 : Int32} {μ : gk_St} {Q : Int32 → gk_St → Prop} (h_this : gk_isO this 7) (h : w_X7_years this x1 x2 x3 μ Q) : gk_CT yX7_years cX7_years 6 (some .int) 4 [.ref this, .int x1, .int x2, .int x3] μ (gk_Qi Q) := by
  unfold w_X7_years at h
  refine gk_enter (by decide) (Nat.le_of_ble_eq_true rfl) ?_
  show Go RX7 cX7_years 6 (some .int) 4 0 [(0, .ref this), (1, .int x1), (2, .int x2), (3, .int x3)] [] μ (gk_Qi Q)
  refine go_iload_n 2 dX7_years_0 rfl rfl ?_
  refine go_iconst (v := 0) dX7_years_1 (by decide) ?_
  refine go_bipush (v := 24) dX7_years_2 (by decide) ?_
  refine go_callS (d' := 0) [.int x2, .int 0, .int 24] dX7_years_4 cw_RX7_107 kt_X7_within rfl (Nat.le_of_ble_eq_true rfl) (by decide) (k_X7_within h) (gk_ki (fun r2 m1 h => ?_))
  refine go_if_eq 19 dX7_years_7 (by decide) (fun c => ?_) (fun c => ?_)
  · replace h := gk_ip h c
    refine go_bipush (v := (-2)) dX7_years_19 (by decide) ?_
    exact go_iret dX7_years_21 ⟨_, rfl, h⟩
  · replace h := gk_in h c
    refine go_iload_n 3 dX7_years_10 rfl rfl ?_
    refine go_iconst (v := 0) dX7_years_11 (by decide) ?_
    refine go_iconst (v := 1) dX7_years_12 (by decide) ?_
    refine go_callS (d' := 0) [.int x3, .int 0, .int 1] dX7_years_13 cw_RX7_107 kt_X7_within rfl (Nat.le_of_ble_eq_true rfl) (by decide) (k_X7_within h) (gk_ki (fun r4 m3 h => ?_))
    refine go_if_ne 22 dX7_years_16 (by decide) (fun c => ?_) (fun c => ?_)
    · replace h := gk_in h c
      refine go_aload_n 0 dX7_years_22 rfl rfl ?_
      refine go_callV (ci := 7) (d' := 3) [] dX7_years_23 cw_RX7_217 ki_X7_planAsTold ks_X7_planAsTold rfl (by decide) h_this rfl (Nat.le_of_ble_eq_true rfl) (by decide) (k_X7_planAsTold h_this h) (gk_kv (fun m5 h => ?_))
      refine go_iload_n 1 dX7_years_26 rfl rfl ?_
      refine go_istore [(4, .int x1), (0, .ref this), (1, .int x1), (2, .int x2), (3, .int x3)] dX7_years_27 (by decide) rfl ?_
      refine go_iconst (v := 0) dX7_years_29 (by decide) ?_
      refine go_istore [(5, .int 0), (4, .int x1), (0, .ref this), (1, .int x1), (2, .int x2), (3, .int x3)] dX7_years_30 (by decide) rfl ?_
      refine go_lv [2, 4, 5, 1, 0] rfl ?_
      obtain ⟨n32, h⟩ := h
      refine k_X7_years_l32 h_this (fun y9 y10 m11 h => ?_) n32 _ _ _ _ _ h
      refine go_iload_n 1 dX7_years_73 rfl rfl ?_
      refine go_istore [(5, .int y9), (0, .ref this), (2, .int y9), (3, .int y10)] dX7_years_74 (by decide) rfl ?_
      refine go_lv [1, 3, 0] rfl ?_
      obtain ⟨n76, h⟩ := h
      refine k_X7_years_l76 h_this (fun y14 m15 h => ?_) n76 _ _ _ h
      refine go_aload_n 0 dX7_years_100 rfl rfl ?_
      refine go_getR dX7_years_101 fl_RX7_84 h_this (rr_7_13 h_this) ?_
      refine go_aload_n 0 dX7_years_104 rfl rfl ?_
      refine go_getR dX7_years_105 fl_RX7_73 h_this (rr_7_11 h_this) ?_
      refine go_bipush (v := 23) dX7_years_108 (by decide) ?_
      refine go_callV (ci := 2) (d' := 3) [.ref (gk_rf this 11), .int 23] dX7_years_110 cw_RX7_227 ki_X2_run ks_X2_run rfl (by decide) (rt_7_13 h_this) rfl (Nat.le_of_ble_eq_true rfl) (by decide) (k_X2_run (rt_7_13 h_this) (rt_7_11 h_this) h) (gk_kv (fun m16 h => ?_))
      refine go_iload_n 1 dX7_years_113 rfl rfl ?_
      refine go_if_ne 127 dX7_years_114 (by decide) (fun c => ?_) (fun c => ?_)
      · replace h := gk_in h c
        refine go_aload_n 0 dX7_years_127 rfl rfl ?_
        refine go_getR dX7_years_128 fl_RX7_84 h_this (rr_7_13 h_this) ?_
        refine go_callV (ci := 2) (d' := 0) [] dX7_years_131 cw_RX7_197 ki_X2_allPower ks_X2_allPower rfl (by decide) (rt_7_13 h_this) rfl (Nat.le_of_ble_eq_true rfl) (by decide) (k_X2_allPower (rt_7_13 h_this) h) (gk_ki (fun r18 m17 h => ?_))
        exact go_iret dX7_years_134 ⟨_, rfl, h⟩
      · replace h := gk_ip h c
        refine go_aload_n 0 dX7_years_117 rfl rfl ?_
        refine go_getR dX7_years_118 fl_RX7_84 h_this (rr_7_13 h_this) ?_
        refine go_callV (ci := 2) (d' := 0) [] dX7_years_121 cw_RX7_231 ki_X2_allOver ks_X2_allOver rfl (by decide) (rt_7_13 h_this) rfl (Nat.le_of_ble_eq_true rfl) (by decide) (k_X2_allOver (rt_7_13 h_this) h) (gk_ki (fun r20 m19 h => ?_))
        refine go_goto 134 dX7_years_124 (by decide) ?_
        exact go_iret dX7_years_134 ⟨_, rfl, h⟩
    · replace h := gk_ip h c
      refine go_bipush (v := (-2)) dX7_years_19 (by decide) ?_
      exact go_iret dX7_years_21 ⟨_, rfl, h⟩
def w_X7_isForm (x0 : Int32) (μ : gk_St) (Q : Int32 → gk_St → Prop) : Prop := w_X7_within x0 0 2 μ (fun r2 m1 => (gk_b r2 ∧ Q r2 m1))
set_option maxRecDepth 100000 in
set_option maxHeartbeats 4000000 in
theorem k_X7_isForm {x0 : Int32} {μ : gk_St} {Q : Int32 → gk_St → Prop} (h : w_X7_isForm x0 μ Q) : gk_CT yX7_isForm cX7_isForm 1 (some .boolean) 1 [.int x0] μ (gk_Qi Q) := by
  unfold w_X7_isForm at h
  refine gk_enter (by decide) (Nat.le_of_ble_eq_true rfl) ?_
  show Go RX7 cX7_isForm 1 (some .boolean) 1 0 [(0, .int x0)] [] μ (gk_Qi Q)
  refine go_iload_n 0 dX7_isForm_0 rfl rfl ?_
  refine go_iconst (v := 0) dX7_isForm_1 (by decide) ?_
  refine go_iconst (v := 2) dX7_isForm_2 (by decide) ?_
  refine go_callS (d' := 0) [.int x0, .int 0, .int 2] dX7_isForm_3 cw_RX7_107 kt_X7_within rfl (Nat.le_of_ble_eq_true rfl) (by decide) (k_X7_within h) (gk_ki (fun r2 m1 h => ?_))
  exact go_zret dX7_isForm_6 h.1 ⟨_, rfl, h.2⟩
def w_X7_sheet (this : Nat) (x1 : Int32) (x2 : Int32) (x3 : Int32) (μ : gk_St) (Q : Int32 → gk_St → Prop) : Prop := w_X7_sheetOf this x1 μ (fun t8 m1 => match t8 with | none => Q (-2) m1 | some o2 => w_X7_isForm x2 m1 (fun r4 m3 => (if r4 = 0 then Q (-2) m3 else (if x3 ≤ 60 then (if 0 ≤ x3 then w_X3_renew o2 x2 x3 m3 (fun m5 => Q x3 m5) else w_X7_found this 5 m3 (fun r7 m6 => Q r7 m6)) else Q (-2) m3))))
set_option maxRecDepth 100000 in
set_option maxHeartbeats 4000000 in
theorem k_X7_sheet {this : Nat} {x1 : Int32} {x2 : Int32} {x3 : Int32} {μ : gk_St} {Q : Int32 → gk_St → Prop} (h_this : gk_isO this 7) (h : w_X7_sheet this x1 x2 x3 μ Q) : gk_CT yX7_sheet cX7_sheet 5 (some .int) 2 [.ref this, .int x1, .int x2, .int x3] μ (gk_Qi Q) := by
  unfold w_X7_sheet at h
  refine gk_enter (by decide) (Nat.le_of_ble_eq_true rfl) ?_
  show Go RX7 cX7_sheet 5 (some .int) 2 0 [(0, .ref this), (1, .int x1), (2, .int x2), (3, .int x3)] [] μ (gk_Qi Q)
  refine go_aload_n 0 dX7_sheet_0 rfl rfl ?_
  refine go_iload_n 1 dX7_sheet_1 rfl rfl ?_
  refine go_callV (ci := 7) (d' := 0) [.int x1] dX7_sheet_2 cw_RX7_153 ki_X7_sheetOf ks_X7_sheetOf rfl (by decide) h_this rfl (Nat.le_of_ble_eq_true rfl) (by decide) (k_X7_sheetOf h_this h) (gk_kq (fun m1 h => ?_) (fun o2 m1 h_o2 h => ?_))
  · try dsimp only at h
    refine go_astoreN [(4, .null), (0, .ref this), (1, .int x1), (2, .int x2), (3, .int x3)] dX7_sheet_5 (by decide) rfl ?_
    refine go_aloadN 0 dX7_sheet_7 rfl ?_
    refine go_ifnullN 25 dX7_sheet_9 (by decide) ?_
    refine go_bipush (v := (-2)) dX7_sheet_25 (by decide) ?_
    exact go_iret dX7_sheet_27 ⟨_, rfl, h⟩
  · try dsimp only at h
    refine go_astore [(4, .ref o2), (0, .ref this), (1, .int x1), (2, .int x2), (3, .int x3)] dX7_sheet_5 (by decide) rfl ?_
    refine go_aload 0 dX7_sheet_7 rfl ?_
    refine go_ifnull dX7_sheet_9 ?_
    refine go_iload_n 3 dX7_sheet_12 rfl rfl ?_
    refine go_callS (d' := 1) [.int x2] dX7_sheet_13 cw_RX7_279 kt_X7_isForm rfl (Nat.le_of_ble_eq_true rfl) (by decide) (k_X7_isForm h) (gk_ki (fun r4 m3 h => ?_))
    refine go_if_eq 25 dX7_sheet_16 (by decide) (fun c => ?_) (fun c => ?_)
    · replace h := gk_ip h c
      refine go_bipush (v := (-2)) dX7_sheet_25 (by decide) ?_
      exact go_iret dX7_sheet_27 ⟨_, rfl, h⟩
    · replace h := gk_in h c
      refine go_iload_n 4 dX7_sheet_19 rfl rfl ?_
      refine go_bipush (v := 60) dX7_sheet_20 (by decide) ?_
      refine go_icmp_le 28 dX7_sheet_22 (by decide) (fun c => ?_) (fun c => ?_)
      · replace h := gk_ip h c
        refine go_iload_n 4 dX7_sheet_28 rfl rfl ?_
        refine go_if_ge 38 dX7_sheet_29 (by decide) (fun c => ?_) (fun c => ?_)
        · replace h := gk_ip h c
          refine go_aload 0 dX7_sheet_38 rfl ?_
          refine go_iload_n 3 dX7_sheet_40 rfl rfl ?_
          refine go_iload_n 4 dX7_sheet_41 rfl rfl ?_
          refine go_callV (ci := 3) (d' := 1) [.int x2, .int x3] dX7_sheet_42 cw_RX7_282 ki_X3_renew ks_X3_renew rfl (by decide) h_o2 rfl (Nat.le_of_ble_eq_true rfl) (by decide) (k_X3_renew h_o2 h) (gk_kv (fun m5 h => ?_))
          refine go_iload_n 4 dX7_sheet_45 rfl rfl ?_
          exact go_iret dX7_sheet_46 ⟨_, rfl, h⟩
        · replace h := gk_in h c
          refine go_aload_n 1 dX7_sheet_32 rfl rfl ?_
          refine go_iconst (v := 5) dX7_sheet_33 (by decide) ?_
          refine go_callV (ci := 7) (d' := 0) [.int 5] dX7_sheet_34 cw_RX7_160 ki_X7_found ks_X7_found rfl (by decide) h_this rfl (Nat.le_of_ble_eq_true rfl) (by decide) (k_X7_found h_this h) (gk_ki (fun r7 m6 h => ?_))
          exact go_iret dX7_sheet_37 ⟨_, rfl, h⟩
      · replace h := gk_in h c
        refine go_bipush (v := (-2)) dX7_sheet_25 (by decide) ?_
        exact go_iret dX7_sheet_27 ⟨_, rfl, h⟩
def w_X7_lose (this : Nat) (x1 : Int32) (μ : gk_St) (Q : Int32 → gk_St → Prop) : Prop := w_X7_sheetOf this x1 μ (fun t6 m1 => match t6 with | none => Q (-2) m1 | some o2 => (if (m1 o2 1) = 0 then (∀ m3 : gk_St, m3 = gk_up m1 o2 1 1 → Q (m3 o2 3) m3) else w_X7_found this 1 m1 (fun r5 m4 => Q r5 m4)))
set_option maxRecDepth 100000 in
set_option maxHeartbeats 4000000 in
theorem k_X7_lose {this : Nat} {x1 : Int32} {μ : gk_St} {Q : Int32 → gk_St → Prop} (h_this : gk_isO this 7) (h : w_X7_lose this x1 μ Q) : gk_CT yX7_lose cX7_lose 3 (some .int) 1 [.ref this, .int x1] μ (gk_Qi Q) := by
  unfold w_X7_lose at h
  refine gk_enter (by decide) (Nat.le_of_ble_eq_true rfl) ?_
  show Go RX7 cX7_lose 3 (some .int) 1 0 [(0, .ref this), (1, .int x1)] [] μ (gk_Qi Q)
  refine go_aload_n 0 dX7_lose_0 rfl rfl ?_
  refine go_iload_n 1 dX7_lose_1 rfl rfl ?_
  refine go_callV (ci := 7) (d' := 0) [.int x1] dX7_lose_2 cw_RX7_153 ki_X7_sheetOf ks_X7_sheetOf rfl (by decide) h_this rfl (Nat.le_of_ble_eq_true rfl) (by decide) (k_X7_sheetOf h_this h) (gk_kq (fun m1 h => ?_) (fun o2 m1 h_o2 h => ?_))
  · try dsimp only at h
    refine go_astore_nN [(2, .null), (0, .ref this), (1, .int x1)] dX7_lose_5 rfl (by decide) rfl ?_
    refine go_aload_nN 0 dX7_lose_6 rfl rfl ?_
    refine go_ifnonnullN dX7_lose_7 ?_
    refine go_bipush (v := (-2)) dX7_lose_10 (by decide) ?_
    exact go_iret dX7_lose_12 ⟨_, rfl, h⟩
  · try dsimp only at h
    refine go_astore_n [(2, .ref o2), (0, .ref this), (1, .int x1)] dX7_lose_5 rfl (by decide) rfl ?_
    refine go_aload_n 0 dX7_lose_6 rfl rfl ?_
    refine go_ifnonnull 13 dX7_lose_7 (by decide) ?_
    refine go_aload_n 0 dX7_lose_13 rfl rfl ?_
    refine go_getI dX7_lose_14 fl_RX7_157 h_o2 (nf_3_1 h_o2) ?_
    refine go_if_eq 26 dX7_lose_17 (by decide) (fun c => ?_) (fun c => ?_)
    · replace h := gk_ip h c
      refine go_aload_n 0 dX7_lose_26 rfl rfl ?_
      refine go_iconst (v := 1) dX7_lose_27 (by decide) ?_
      refine gb_putZ dX7_lose_28 fp_RX7_157 h_o2 (nf_3_1 h_o2) (Or.inr rfl) (fun m3 e => ?_)
      replace h := h m3 e
      refine go_aload_n 0 dX7_lose_31 rfl rfl ?_
      refine go_getI dX7_lose_32 fl_RX7_163 h_o2 (nf_3_3 h_o2) ?_
      exact go_iret dX7_lose_35 ⟨_, rfl, h⟩
    · replace h := gk_in h c
      refine go_aload_n 1 dX7_lose_20 rfl rfl ?_
      refine go_iconst (v := 1) dX7_lose_21 (by decide) ?_
      refine go_callV (ci := 7) (d' := 0) [.int 1] dX7_lose_22 cw_RX7_160 ki_X7_found ks_X7_found rfl (by decide) h_this rfl (Nat.le_of_ble_eq_true rfl) (by decide) (k_X7_found h_this h) (gk_ki (fun r5 m4 h => ?_))
      exact go_iret dX7_lose_25 ⟨_, rfl, h⟩
def w_X7_put (this : Nat) (x1 : Int32) (x2 : Int32) (x3 : Int32) (x4 : Int32) (μ : gk_St) (Q : Int32 → gk_St → Prop) : Prop := w_X7_sheetOf this x1 μ (fun t10 m1 => match t10 with | none => Q (-2) m1 | some o2 => w_X7_isForm x2 m1 (fun r4 m3 => (if r4 = 0 then Q (-2) m3 else w_X3_wrongWith o2 x2 x3 m3 (fun r6 m5 => (if r6 = 0 then w_X3_store o2 x3 x4 m5 (fun m7 => Q 1 m7) else w_X7_found this r6 m5 (fun r9 m8 => Q r9 m8))))))
set_option maxRecDepth 100000 in
set_option maxHeartbeats 4000000 in
theorem k_X7_put {this : Nat} {x1 : Int32} {x2 : Int32} {x3 : Int32} {x4 : Int32} {μ : gk_St} {Q : Int32 → gk_St → Prop} (h_this : gk_isO this 7) (h : w_X7_put this x1 x2 x3 x4 μ Q) : gk_CT yX7_put cX7_put 7 (some .int) 2 [.ref this, .int x1, .int x2, .int x3, .int x4] μ (gk_Qi Q) := by
  unfold w_X7_put at h
  refine gk_enter (by decide) (Nat.le_of_ble_eq_true rfl) ?_
  show Go RX7 cX7_put 7 (some .int) 2 0 [(0, .ref this), (1, .int x1), (2, .int x2), (3, .int x3), (4, .int x4)] [] μ (gk_Qi Q)
  refine go_aload_n 0 dX7_put_0 rfl rfl ?_
  refine go_iload_n 1 dX7_put_1 rfl rfl ?_
  refine go_callV (ci := 7) (d' := 0) [.int x1] dX7_put_2 cw_RX7_153 ki_X7_sheetOf ks_X7_sheetOf rfl (by decide) h_this rfl (Nat.le_of_ble_eq_true rfl) (by decide) (k_X7_sheetOf h_this h) (gk_kq (fun m1 h => ?_) (fun o2 m1 h_o2 h => ?_))
  · try dsimp only at h
    refine go_astoreN [(5, .null), (0, .ref this), (1, .int x1), (2, .int x2), (3, .int x3), (4, .int x4)] dX7_put_5 (by decide) rfl ?_
    refine go_aloadN 0 dX7_put_7 rfl ?_
    refine go_ifnullN 19 dX7_put_9 (by decide) ?_
    refine go_bipush (v := (-2)) dX7_put_19 (by decide) ?_
    exact go_iret dX7_put_21 ⟨_, rfl, h⟩
  · try dsimp only at h
    refine go_astore [(5, .ref o2), (0, .ref this), (1, .int x1), (2, .int x2), (3, .int x3), (4, .int x4)] dX7_put_5 (by decide) rfl ?_
    refine go_aload 0 dX7_put_7 rfl ?_
    refine go_ifnull dX7_put_9 ?_
    refine go_iload_n 3 dX7_put_12 rfl rfl ?_
    refine go_callS (d' := 1) [.int x2] dX7_put_13 cw_RX7_279 kt_X7_isForm rfl (Nat.le_of_ble_eq_true rfl) (by decide) (k_X7_isForm h) (gk_ki (fun r4 m3 h => ?_))
    refine go_if_ne 22 dX7_put_16 (by decide) (fun c => ?_) (fun c => ?_)
    · replace h := gk_in h c
      refine go_aload 0 dX7_put_22 rfl ?_
      refine go_iload_n 3 dX7_put_24 rfl rfl ?_
      refine go_iload_n 4 dX7_put_25 rfl rfl ?_
      refine go_callV (ci := 3) (d' := 1) [.int x2, .int x3] dX7_put_26 cw_RX7_286 ki_X3_wrongWith ks_X3_wrongWith rfl (by decide) h_o2 rfl (Nat.le_of_ble_eq_true rfl) (by decide) (k_X3_wrongWith h_o2 h) (gk_ki (fun r6 m5 h => ?_))
      refine go_istore [(6, .int r6), (5, .ref o2), (0, .ref this), (1, .int x1), (2, .int x2), (3, .int x3), (4, .int x4)] dX7_put_29 (by decide) rfl ?_
      refine go_iload 0 dX7_put_31 rfl ?_
      refine go_if_eq 43 dX7_put_33 (by decide) (fun c => ?_) (fun c => ?_)
      · replace h := gk_ip h c
        refine go_aload 1 dX7_put_43 rfl ?_
        refine go_iload_n 5 dX7_put_45 rfl rfl ?_
        refine go_iload 6 dX7_put_46 rfl ?_
        refine go_callV (ci := 3) (d' := 1) [.int x3, .int x4] dX7_put_48 cw_RX7_289 ki_X3_store ks_X3_store rfl (by decide) h_o2 rfl (Nat.le_of_ble_eq_true rfl) (by decide) (k_X3_store h_o2 h) (gk_kv (fun m7 h => ?_))
        refine go_iconst (v := 1) dX7_put_51 (by decide) ?_
        exact go_iret dX7_put_52 ⟨_, rfl, h⟩
      · replace h := gk_in h c
        refine go_aload_n 2 dX7_put_36 rfl rfl ?_
        refine go_iload 0 dX7_put_37 rfl ?_
        refine go_callV (ci := 7) (d' := 0) [.int r6] dX7_put_39 cw_RX7_160 ki_X7_found ks_X7_found rfl (by decide) h_this rfl (Nat.le_of_ble_eq_true rfl) (by decide) (k_X7_found h_this h) (gk_ki (fun r9 m8 h => ?_))
        exact go_iret dX7_put_42 ⟨_, rfl, h⟩
    · replace h := gk_ip h c
      refine go_bipush (v := (-2)) dX7_put_19 (by decide) ?_
      exact go_iret dX7_put_21 ⟨_, rfl, h⟩
def w_X7_get (this : Nat) (x1 : Int32) (x2 : Int32) (x3 : Int32) (μ : gk_St) (Q : Int32 → gk_St → Prop) : Prop := w_X7_sheetOf this x1 μ (fun t8 m1 => match t8 with | none => Q (-2147483648) m1 | some o2 => w_X7_isForm x2 m1 (fun r4 m3 => (if r4 = 0 then Q (-2147483648) m3 else w_X3_wrongWith o2 x2 x3 m3 (fun r6 m5 => (if r6 = 0 then (vp_in x3 (gk_ln (gk_rf o2 0)) ∧ Q (m5 (gk_rf o2 0) x3.toNatClampNeg) m5) else (∀ m7 : gk_St, m7 = gk_up m5 this 17 r6 → Q (-2147483648) m7))))))
set_option maxRecDepth 100000 in
set_option maxHeartbeats 4000000 in
theorem k_X7_get {this : Nat} {x1 : Int32} {x2 : Int32} {x3 : Int32} {μ : gk_St} {Q : Int32 → gk_St → Prop} (h_this : gk_isO this 7) (h : w_X7_get this x1 x2 x3 μ Q) : gk_CT yX7_get cX7_get 6 (some .int) 2 [.ref this, .int x1, .int x2, .int x3] μ (gk_Qi Q) := by
  unfold w_X7_get at h
  refine gk_enter (by decide) (Nat.le_of_ble_eq_true rfl) ?_
  show Go RX7 cX7_get 6 (some .int) 2 0 [(0, .ref this), (1, .int x1), (2, .int x2), (3, .int x3)] [] μ (gk_Qi Q)
  refine go_aload_n 0 dX7_get_0 rfl rfl ?_
  refine go_iload_n 1 dX7_get_1 rfl rfl ?_
  refine go_callV (ci := 7) (d' := 0) [.int x1] dX7_get_2 cw_RX7_153 ki_X7_sheetOf ks_X7_sheetOf rfl (by decide) h_this rfl (Nat.le_of_ble_eq_true rfl) (by decide) (k_X7_sheetOf h_this h) (gk_kq (fun m1 h => ?_) (fun o2 m1 h_o2 h => ?_))
  · try dsimp only at h
    refine go_astoreN [(4, .null), (0, .ref this), (1, .int x1), (2, .int x2), (3, .int x3)] dX7_get_5 (by decide) rfl ?_
    refine go_aloadN 0 dX7_get_7 rfl ?_
    refine go_ifnullN 19 dX7_get_9 (by decide) ?_
    refine go_ldc_w dX7_get_19 ct_RX7_292 ?_
    exact go_iret dX7_get_22 ⟨_, rfl, h⟩
  · try dsimp only at h
    refine go_astore [(4, .ref o2), (0, .ref this), (1, .int x1), (2, .int x2), (3, .int x3)] dX7_get_5 (by decide) rfl ?_
    refine go_aload 0 dX7_get_7 rfl ?_
    refine go_ifnull dX7_get_9 ?_
    refine go_iload_n 3 dX7_get_12 rfl rfl ?_
    refine go_callS (d' := 1) [.int x2] dX7_get_13 cw_RX7_279 kt_X7_isForm rfl (Nat.le_of_ble_eq_true rfl) (by decide) (k_X7_isForm h) (gk_ki (fun r4 m3 h => ?_))
    refine go_if_ne 23 dX7_get_16 (by decide) (fun c => ?_) (fun c => ?_)
    · replace h := gk_in h c
      refine go_aload 0 dX7_get_23 rfl ?_
      refine go_iload_n 3 dX7_get_25 rfl rfl ?_
      refine go_iload_n 4 dX7_get_26 rfl rfl ?_
      refine go_callV (ci := 3) (d' := 1) [.int x2, .int x3] dX7_get_27 cw_RX7_286 ki_X3_wrongWith ks_X3_wrongWith rfl (by decide) h_o2 rfl (Nat.le_of_ble_eq_true rfl) (by decide) (k_X3_wrongWith h_o2 h) (gk_ki (fun r6 m5 h => ?_))
      refine go_istore [(5, .int r6), (4, .ref o2), (0, .ref this), (1, .int x1), (2, .int x2), (3, .int x3)] dX7_get_30 (by decide) rfl ?_
      refine go_iload 0 dX7_get_32 rfl ?_
      refine go_if_eq 47 dX7_get_34 (by decide) (fun c => ?_) (fun c => ?_)
      · replace h := gk_ip h c
        refine go_aload 1 dX7_get_47 rfl ?_
        refine go_getR dX7_get_49 fl_RX7_164 h_o2 (rr_3_0 h_o2) ?_
        refine go_iload_n 5 dX7_get_52 rfl rfl ?_
        refine go_iaload dX7_get_53 (rt_3_0 h_o2) h.1 ?_
        replace h := h.2
        exact go_iret dX7_get_54 ⟨_, rfl, h⟩
      · replace h := gk_in h c
        refine go_aload_n 2 dX7_get_37 rfl rfl ?_
        refine go_iload 0 dX7_get_38 rfl ?_
        refine gb_putI dX7_get_40 fp_RX7_100 h_this (nf_7_17 h_this) (fun m7 e => ?_)
        replace h := h m7 e
        refine go_ldc_w dX7_get_43 ct_RX7_292 ?_
        exact go_iret dX7_get_46 ⟨_, rfl, h⟩
    · replace h := gk_ip h c
      refine go_ldc_w dX7_get_19 ct_RX7_292 ?_
      exact go_iret dX7_get_22 ⟨_, rfl, h⟩
def w_X7_copy_j43 (Q : Int32 → gk_St → Prop) (this : Nat) (μ : gk_St) : Prop := w_X7_found this 1 μ (fun r9 m8 => Q r9 m8)
set_option maxRecDepth 100000 in
set_option maxHeartbeats 4000000 in
theorem k_X7_copy_j43 {Q : Int32 → gk_St → Prop} {this : Nat} {μ : gk_St} (h_this : gk_isO this 7) (h : w_X7_copy_j43 Q this μ) : Go RX7 cX7_copy 8 (some .int) 1 43 [(0, .ref this)] [] μ (gk_Qi Q) := by
  unfold w_X7_copy_j43 at h
  refine go_aload_n 0 dX7_copy_43 rfl rfl ?_
  refine go_iconst (v := 1) dX7_copy_44 (by decide) ?_
  refine go_callV (ci := 7) (d' := 0) [.int 1] dX7_copy_45 cw_RX7_160 ki_X7_found ks_X7_found rfl (by decide) h_this rfl (Nat.le_of_ble_eq_true rfl) (by decide) (k_X7_found h_this h) (gk_ki (fun r9 m8 h => ?_))
  exact go_iret dX7_copy_48 ⟨_, rfl, h⟩
def w_X7_copy_j91 (Q : Int32 → gk_St → Prop) (this : Nat) (μ : gk_St) : Prop := w_X7_found this 2 μ (fun r13 m12 => Q r13 m12)
set_option maxRecDepth 100000 in
set_option maxHeartbeats 4000000 in
theorem k_X7_copy_j91 {Q : Int32 → gk_St → Prop} {this : Nat} {μ : gk_St} (h_this : gk_isO this 7) (h : w_X7_copy_j91 Q this μ) : Go RX7 cX7_copy 8 (some .int) 1 91 [(0, .ref this)] [] μ (gk_Qi Q) := by
  unfold w_X7_copy_j91 at h
  refine go_aload_n 0 dX7_copy_91 rfl rfl ?_
  refine go_iconst (v := 2) dX7_copy_92 (by decide) ?_
  refine go_callV (ci := 7) (d' := 0) [.int 2] dX7_copy_93 cw_RX7_160 ki_X7_found ks_X7_found rfl (by decide) h_this rfl (Nat.le_of_ble_eq_true rfl) (by decide) (k_X7_found h_this h) (gk_ki (fun r13 m12 h => ?_))
  exact go_iret dX7_copy_96 ⟨_, rfl, h⟩
def w_X7_copy (this : Nat) (x1 : Int32) (x2 : Int32) (x3 : Int32) (x4 : Int32) (x5 : Int32) (μ : gk_St) (Q : Int32 → gk_St → Prop) : Prop := w_X7_sheetOf this x1 μ (fun t20 m1 => match t20 with | none => w_X7_sheetOf this x3 m1 (fun t5 m3 => match t5 with | none => Q (-2) m3 | some o4 => Q (-2) m3) | some o2 => w_X7_sheetOf this x3 m1 (fun t19 m6 => match t19 with | none => Q (-2) m6 | some o7 => (if (m6 o2 1) = 0 then (if (m6 o7 1) = 0 then (if (m6 o2 2) = (m6 o7 2) then w_X3_hasRun o2 x2 x5 m6 (fun r11 m10 => (if r11 = 0 then w_X7_copy_j91 Q this m10 else w_X3_hasRun o7 x4 x5 m10 (fun r15 m14 => (if r15 = 0 then w_X7_copy_j91 Q this m14 else ((¬ x2 < 0 ∧ ¬ x4 < 0 ∧ ¬ x5 < 0 ∧ x2.toNatClampNeg + x5.toNatClampNeg ≤ gk_ln (gk_rf o2 0) ∧ x4.toNatClampNeg + x5.toNatClampNeg ≤ gk_ln (gk_rf o7 0)) ∧ (∀ m16 : gk_St, m16 = gk_sa m14 (gk_rf o7 0) (va_cpy (m14 (gk_rf o2 0)) (m14 (gk_rf o7 0)) x2.toNatClampNeg x4.toNatClampNeg x5.toNatClampNeg) → Q 1 m16)))))) else w_X7_found this 4 m6 (fun r18 m17 => Q r18 m17)) else w_X7_copy_j43 Q this m6) else w_X7_copy_j43 Q this m6)))
set_option maxRecDepth 100000 in
set_option maxHeartbeats 4000000 in
theorem k_X7_copy {this : Nat} {x1 : Int32} {x2 : Int32} {x3 : Int32} {x4 : Int32} {x5 : Int32} {μ : gk_St} {Q : Int32 → gk_St → Prop} (h_this : gk_isO this 7) (h : w_X7_copy this x1 x2 x3 x4 x5 μ Q) : gk_CT yX7_copy cX7_copy 8 (some .int) 1 [.ref this, .int x1, .int x2, .int x3, .int x4, .int x5] μ (gk_Qi Q) := by
  unfold w_X7_copy at h
  refine gk_enter (by decide) (Nat.le_of_ble_eq_true rfl) ?_
  show Go RX7 cX7_copy 8 (some .int) 1 0 [(0, .ref this), (1, .int x1), (2, .int x2), (3, .int x3), (4, .int x4), (5, .int x5)] [] μ (gk_Qi Q)
  refine go_aload_n 0 dX7_copy_0 rfl rfl ?_
  refine go_iload_n 1 dX7_copy_1 rfl rfl ?_
  refine go_callV (ci := 7) (d' := 0) [.int x1] dX7_copy_2 cw_RX7_153 ki_X7_sheetOf ks_X7_sheetOf rfl (by decide) h_this rfl (Nat.le_of_ble_eq_true rfl) (by decide) (k_X7_sheetOf h_this h) (gk_kq (fun m1 h => ?_) (fun o2 m1 h_o2 h => ?_))
  · try dsimp only at h
    refine go_astoreN [(6, .null), (0, .ref this), (1, .int x1), (2, .int x2), (3, .int x3), (4, .int x4), (5, .int x5)] dX7_copy_5 (by decide) rfl ?_
    refine go_aload_n 1 dX7_copy_7 rfl rfl ?_
    refine go_iload_n 4 dX7_copy_8 rfl rfl ?_
    refine go_callV (ci := 7) (d' := 0) [.int x3] dX7_copy_9 cw_RX7_153 ki_X7_sheetOf ks_X7_sheetOf rfl (by decide) h_this rfl (Nat.le_of_ble_eq_true rfl) (by decide) (k_X7_sheetOf h_this h) (gk_kq (fun m3 h => ?_) (fun o4 m3 h_o4 h => ?_))
    · try dsimp only at h
      refine go_astoreN [(7, .null), (6, .null), (0, .ref this), (1, .int x1), (2, .int x2), (3, .int x3), (4, .int x4), (5, .int x5)] dX7_copy_12 (by decide) rfl ?_
      refine go_aloadN 1 dX7_copy_14 rfl ?_
      refine go_ifnullN 24 dX7_copy_16 (by decide) ?_
      refine go_bipush (v := (-2)) dX7_copy_24 (by decide) ?_
      exact go_iret dX7_copy_26 ⟨_, rfl, h⟩
    · try dsimp only at h
      refine go_astore [(7, .ref o4), (6, .null), (0, .ref this), (1, .int x1), (2, .int x2), (3, .int x3), (4, .int x4), (5, .int x5)] dX7_copy_12 (by decide) rfl ?_
      refine go_aloadN 1 dX7_copy_14 rfl ?_
      refine go_ifnullN 24 dX7_copy_16 (by decide) ?_
      refine go_bipush (v := (-2)) dX7_copy_24 (by decide) ?_
      exact go_iret dX7_copy_26 ⟨_, rfl, h⟩
  · try dsimp only at h
    refine go_astore [(6, .ref o2), (0, .ref this), (1, .int x1), (2, .int x2), (3, .int x3), (4, .int x4), (5, .int x5)] dX7_copy_5 (by decide) rfl ?_
    refine go_aload_n 1 dX7_copy_7 rfl rfl ?_
    refine go_iload_n 4 dX7_copy_8 rfl rfl ?_
    refine go_callV (ci := 7) (d' := 0) [.int x3] dX7_copy_9 cw_RX7_153 ki_X7_sheetOf ks_X7_sheetOf rfl (by decide) h_this rfl (Nat.le_of_ble_eq_true rfl) (by decide) (k_X7_sheetOf h_this h) (gk_kq (fun m6 h => ?_) (fun o7 m6 h_o7 h => ?_))
    · try dsimp only at h
      refine go_astoreN [(7, .null), (6, .ref o2), (0, .ref this), (1, .int x1), (2, .int x2), (3, .int x3), (4, .int x4), (5, .int x5)] dX7_copy_12 (by decide) rfl ?_
      refine go_aload 1 dX7_copy_14 rfl ?_
      refine go_ifnull dX7_copy_16 ?_
      refine go_aloadN 0 dX7_copy_19 rfl ?_
      refine go_ifnonnullN dX7_copy_21 ?_
      refine go_bipush (v := (-2)) dX7_copy_24 (by decide) ?_
      exact go_iret dX7_copy_26 ⟨_, rfl, h⟩
    · try dsimp only at h
      refine go_astore [(7, .ref o7), (6, .ref o2), (0, .ref this), (1, .int x1), (2, .int x2), (3, .int x3), (4, .int x4), (5, .int x5)] dX7_copy_12 (by decide) rfl ?_
      refine go_aload 1 dX7_copy_14 rfl ?_
      refine go_ifnull dX7_copy_16 ?_
      refine go_aload 0 dX7_copy_19 rfl ?_
      refine go_ifnonnull 27 dX7_copy_21 (by decide) ?_
      refine go_aload 1 dX7_copy_27 rfl ?_
      refine go_getI dX7_copy_29 fl_RX7_157 h_o2 (nf_3_1 h_o2) ?_
      refine go_if_ne 43 dX7_copy_32 (by decide) (fun c => ?_) (fun c => ?_)
      · replace h := gk_in h c
        refine go_lv [2] rfl ?_
        exact k_X7_copy_j43 h_this h
      · replace h := gk_ip h c
        refine go_aload 0 dX7_copy_35 rfl ?_
        refine go_getI dX7_copy_37 fl_RX7_157 h_o7 (nf_3_1 h_o7) ?_
        refine go_if_eq 49 dX7_copy_40 (by decide) (fun c => ?_) (fun c => ?_)
        · replace h := gk_ip h c
          refine go_aload 1 dX7_copy_49 rfl ?_
          refine go_getI dX7_copy_51 fl_RX7_293 h_o2 (nf_3_2 h_o2) ?_
          refine go_aload 0 dX7_copy_54 rfl ?_
          refine go_getI dX7_copy_56 fl_RX7_293 h_o7 (nf_3_2 h_o7) ?_
          refine go_icmp_eq 68 dX7_copy_59 (by decide) (fun c => ?_) (fun c => ?_)
          · replace h := gk_ip h c
            refine go_aload 1 dX7_copy_68 rfl ?_
            refine go_iload_n 4 dX7_copy_70 rfl rfl ?_
            refine go_iload 7 dX7_copy_71 rfl ?_
            refine go_callV (ci := 3) (d' := 0) [.int x2, .int x5] dX7_copy_73 cw_RX7_296 ki_X3_hasRun ks_X3_hasRun rfl (by decide) h_o2 rfl (Nat.le_of_ble_eq_true rfl) (by decide) (k_X3_hasRun h_o2 h) (gk_ki (fun r11 m10 h => ?_))
            refine go_if_eq 91 dX7_copy_76 (by decide) (fun c => ?_) (fun c => ?_)
            · replace h := gk_ip h c
              refine go_lv [2] rfl ?_
              exact k_X7_copy_j91 h_this h
            · replace h := gk_in h c
              refine go_aload 0 dX7_copy_79 rfl ?_
              refine go_iload 6 dX7_copy_81 rfl ?_
              refine go_iload 7 dX7_copy_83 rfl ?_
              refine go_callV (ci := 3) (d' := 0) [.int x4, .int x5] dX7_copy_85 cw_RX7_296 ki_X3_hasRun ks_X3_hasRun rfl (by decide) h_o7 rfl (Nat.le_of_ble_eq_true rfl) (by decide) (k_X3_hasRun h_o7 h) (gk_ki (fun r15 m14 h => ?_))
              refine go_if_ne 97 dX7_copy_88 (by decide) (fun c => ?_) (fun c => ?_)
              · replace h := gk_in h c
                refine go_aload 1 dX7_copy_97 rfl ?_
                refine go_getR dX7_copy_99 fl_RX7_164 h_o2 (rr_3_0 h_o2) ?_
                refine go_iload_n 4 dX7_copy_102 rfl rfl ?_
                refine go_aload 0 dX7_copy_103 rfl ?_
                refine go_getR dX7_copy_105 fl_RX7_164 h_o7 (rr_3_0 h_o7) ?_
                refine go_iload 6 dX7_copy_108 rfl ?_
                refine go_iload 7 dX7_copy_110 rfl ?_
                refine gb_acopy dX7_copy_112 ac_RX7_299 ac_n ac_s ac_i (rt_3_0 h_o2) (rt_3_0 h_o7) h.1 (Nat.le_of_ble_eq_true rfl) (by decide) (fun m16 e => ?_)
                replace h := h.2 m16 e
                refine go_iconst (v := 1) dX7_copy_115 (by decide) ?_
                exact go_iret dX7_copy_116 ⟨_, rfl, h⟩
              · replace h := gk_ip h c
                refine go_lv [2] rfl ?_
                exact k_X7_copy_j91 h_this h
          · replace h := gk_in h c
            refine go_aload_n 2 dX7_copy_62 rfl rfl ?_
            refine go_iconst (v := 4) dX7_copy_63 (by decide) ?_
            refine go_callV (ci := 7) (d' := 0) [.int 4] dX7_copy_64 cw_RX7_160 ki_X7_found ks_X7_found rfl (by decide) h_this rfl (Nat.le_of_ble_eq_true rfl) (by decide) (k_X7_found h_this h) (gk_ki (fun r18 m17 h => ?_))
            exact go_iret dX7_copy_67 ⟨_, rfl, h⟩
        · replace h := gk_in h c
          refine go_lv [2] rfl ?_
          exact k_X7_copy_j43 h_this h
def w_X7_write_l58 (Q : Int32 → gk_St → Prop) (K : Int32 → gk_St → Prop) (a3 : Nat) (a4 : Nat) : Nat → Int32 → Int32 → gk_St → Prop
  | 0, _, _, _ => False
  | n + 1, x5, x6, μ => (if x5 ≤ x6 then K x5 μ else (vp_in x6 (gk_ln a4) ∧ w_X3_store a3 x6 (μ a4 x6.toNatClampNeg) μ (fun m11 => (∀ v12 : Int32, v12 = x6 + 1 → w_X7_write_l58 Q K a3 a4 n x5 v12 m11))))
set_option maxRecDepth 100000 in
set_option maxHeartbeats 4000000 in
theorem k_X7_write_l58 {Q : Int32 → gk_St → Prop} {K : Int32 → gk_St → Prop} {a3 a4 : Nat} (h_a3 : gk_isO a3 3) (h_a4 : gk_isO a4 100) (hK : ∀ (e5 : Int32) (em : gk_St), K e5 em → Go RX7 cX7_write 7 (some .int) 5 82 [(5, .int e5)] [] em (gk_Qi Q)) : ∀ (n : Nat) (x5 : Int32) (x6 : Int32) (μ : gk_St), w_X7_write_l58 Q K a3 a4 n x5 x6 μ → Go RX7 cX7_write 7 (some .int) 5 58 [(3, .ref a3), (4, .ref a4), (5, .int x5), (6, .int x6)] [] μ (gk_Qi Q) := by
  intro n
  induction n with
  | zero =>
    intro x5 x6 μ h
    exact False.elim h
  | succ n ih =>
    intro x5 x6 μ h
    unfold w_X7_write_l58 at h
    refine go_iload 3 dX7_write_58 rfl ?_
    refine go_iload 2 dX7_write_60 rfl ?_
    refine go_icmp_ge 82 dX7_write_62 (by decide) (fun c => ?_) (fun c => ?_)
    · replace h := gk_ip h c
      refine go_lv [2] rfl ?_
      exact hK _ _ h
    · replace h := gk_in h c
      refine go_aload_n 0 dX7_write_65 rfl rfl ?_
      refine go_iload 3 dX7_write_66 rfl ?_
      refine go_aload 1 dX7_write_68 rfl ?_
      refine go_iload 3 dX7_write_70 rfl ?_
      refine go_iaload dX7_write_72 h_a4 h.1 ?_
      replace h := h.2
      refine go_callV (ci := 3) (d' := 1) [.int x6, .int (μ a4 x6.toNatClampNeg)] dX7_write_73 cw_RX7_289 ki_X3_store ks_X3_store rfl (by decide) h_a3 rfl (Nat.le_of_ble_eq_true rfl) (by decide) (k_X3_store h_a3 h) (gk_kv (fun m11 h => ?_))
      refine gb_iinc (w := 1) 3 (fun v12 => [(6, .int v12), (3, .ref a3), (4, .ref a4), (5, .int x5)]) dX7_write_76 rfl (by decide) (by decide) (fun _ => rfl) (fun v12 e => ?_)
      replace h := h v12 e
      refine go_goto 58 dX7_write_79 (by decide) ?_
      refine go_lv [1, 2, 3, 0] rfl ?_
      exact ih _ _ _ h
def w_X7_write (this : Nat) (x1 : Int32) (x2 : Int32) (μ : gk_St) (Q : Int32 → gk_St → Prop) : Prop := w_X7_sheetOf this x2 μ (fun t17 m1 => match t17 with | none => w_X7_isStation x1 m1 (fun r4 m3 => (if r4 = 0 then Q (-2) m3 else Q (-2) m3)) | some o2 => w_X7_isStation x1 m1 (fun r6 m5 => (if r6 = 0 then Q (-2) m5 else (if (m5 o2 1) = 0 then w_X7_asTold this m5 (fun o8 m7 => (vp_in x1 (gk_rl (gk_rf o8 2)) ∧ (∀ v10 : Int32, v10 = (gk_mn (m7 o2 3) 24) → (∃ n58 : Nat, w_X7_write_l58 Q (fun y13 m14 => Q y13 m14) o2 (gk_rw (gk_rf o8 2) x1.toNatClampNeg) n58 v10 0 m7)))) else w_X7_found this 1 m5 (fun r16 m15 => Q r16 m15)))))
set_option maxRecDepth 100000 in
set_option maxHeartbeats 4000000 in
theorem k_X7_write {this : Nat} {x1 : Int32} {x2 : Int32} {μ : gk_St} {Q : Int32 → gk_St → Prop} (h_this : gk_isO this 7) (h : w_X7_write this x1 x2 μ Q) : gk_CT yX7_write cX7_write 7 (some .int) 5 [.ref this, .int x1, .int x2] μ (gk_Qi Q) := by
  unfold w_X7_write at h
  refine gk_enter (by decide) (Nat.le_of_ble_eq_true rfl) ?_
  show Go RX7 cX7_write 7 (some .int) 5 0 [(0, .ref this), (1, .int x1), (2, .int x2)] [] μ (gk_Qi Q)
  refine go_aload_n 0 dX7_write_0 rfl rfl ?_
  refine go_iload_n 2 dX7_write_1 rfl rfl ?_
  refine go_callV (ci := 7) (d' := 0) [.int x2] dX7_write_2 cw_RX7_153 ki_X7_sheetOf ks_X7_sheetOf rfl (by decide) h_this rfl (Nat.le_of_ble_eq_true rfl) (by decide) (k_X7_sheetOf h_this h) (gk_kq (fun m1 h => ?_) (fun o2 m1 h_o2 h => ?_))
  · try dsimp only at h
    refine go_astore_nN [(3, .null), (0, .ref this), (1, .int x1), (2, .int x2)] dX7_write_5 rfl (by decide) rfl ?_
    refine go_iload_n 2 dX7_write_6 rfl rfl ?_
    refine go_callS (d' := 1) [.int x1] dX7_write_7 cw_RX7_191 kt_X7_isStation rfl (Nat.le_of_ble_eq_true rfl) (by decide) (k_X7_isStation h) (gk_ki (fun r4 m3 h => ?_))
    refine go_if_eq 17 dX7_write_10 (by decide) (fun c => ?_) (fun c => ?_)
    · replace h := gk_ip h c
      refine go_bipush (v := (-2)) dX7_write_17 (by decide) ?_
      exact go_iret dX7_write_19 ⟨_, rfl, h⟩
    · replace h := gk_in h c
      refine go_aload_nN 0 dX7_write_13 rfl rfl ?_
      refine go_ifnonnullN dX7_write_14 ?_
      refine go_bipush (v := (-2)) dX7_write_17 (by decide) ?_
      exact go_iret dX7_write_19 ⟨_, rfl, h⟩
  · try dsimp only at h
    refine go_astore_n [(3, .ref o2), (0, .ref this), (1, .int x1), (2, .int x2)] dX7_write_5 rfl (by decide) rfl ?_
    refine go_iload_n 2 dX7_write_6 rfl rfl ?_
    refine go_callS (d' := 1) [.int x1] dX7_write_7 cw_RX7_191 kt_X7_isStation rfl (Nat.le_of_ble_eq_true rfl) (by decide) (k_X7_isStation h) (gk_ki (fun r6 m5 h => ?_))
    refine go_if_eq 17 dX7_write_10 (by decide) (fun c => ?_) (fun c => ?_)
    · replace h := gk_ip h c
      refine go_bipush (v := (-2)) dX7_write_17 (by decide) ?_
      exact go_iret dX7_write_19 ⟨_, rfl, h⟩
    · replace h := gk_in h c
      refine go_aload_n 0 dX7_write_13 rfl rfl ?_
      refine go_ifnonnull 20 dX7_write_14 (by decide) ?_
      refine go_aload_n 0 dX7_write_20 rfl rfl ?_
      refine go_getI dX7_write_21 fl_RX7_157 h_o2 (nf_3_1 h_o2) ?_
      refine go_if_eq 33 dX7_write_24 (by decide) (fun c => ?_) (fun c => ?_)
      · replace h := gk_ip h c
        refine go_aload_n 1 dX7_write_33 rfl rfl ?_
        refine go_callV (ci := 7) (d' := 4) [] dX7_write_34 cw_RX7_172 ki_X7_asTold ks_X7_asTold rfl (by decide) h_this rfl (Nat.le_of_ble_eq_true rfl) (by decide) (k_X7_asTold h_this h) (gk_kr (fun o8 m7 h_o8 h => ?_))
        refine go_getR dX7_write_37 fl_RX7_182 h_o8 (rr_2_2 h_o8) ?_
        refine go_iload_n 2 dX7_write_40 rfl rfl ?_
        have hb9 := h.1
        refine go_aaload dX7_write_41 (rt_2_2 h_o8) hb9 ?_
        replace h := h.2
        refine go_astore [(4, .ref (gk_rw (gk_rf o8 2) x1.toNatClampNeg)), (3, .ref o2), (0, .ref this), (1, .int x1), (2, .int x2)] dX7_write_42 (by decide) rfl ?_
        refine go_aload_n 1 dX7_write_44 rfl rfl ?_
        refine go_getI dX7_write_45 fl_RX7_163 h_o2 (nf_3_3 h_o2) ?_
        refine go_bipush (v := 24) dX7_write_48 (by decide) ?_
        refine gb_mmin dX7_write_50 mw_RX7_305 mt_min mi_Math mc_min (Nat.le_of_ble_eq_true rfl) (by decide) ?_
        refine gb_istore (fun v10 => [(5, .int v10), (4, .ref (gk_rw (gk_rf o8 2) x1.toNatClampNeg)), (3, .ref o2), (0, .ref this), (1, .int x1), (2, .int x2)]) dX7_write_53 (by decide) (fun _ => rfl) (fun v10 e => ?_)
        replace h := h v10 e
        refine go_iconst (v := 0) dX7_write_55 (by decide) ?_
        refine go_istore [(6, .int 0), (5, .int v10), (4, .ref (gk_rw (gk_rf o8 2) x1.toNatClampNeg)), (3, .ref o2), (0, .ref this), (1, .int x1), (2, .int x2)] dX7_write_56 (by decide) rfl ?_
        refine go_lv [3, 2, 1, 0] rfl ?_
        obtain ⟨n58, h⟩ := h
        refine k_X7_write_l58 h_o2 ((gk_rows (rt_2_2 h_o8) (gk_inlt hb9)).1) (fun y13 m14 h => ?_) n58 _ _ _ h
        refine go_iload 0 dX7_write_82 rfl ?_
        exact go_iret dX7_write_84 ⟨_, rfl, h⟩
      · replace h := gk_in h c
        refine go_aload_n 1 dX7_write_27 rfl rfl ?_
        refine go_iconst (v := 1) dX7_write_28 (by decide) ?_
        refine go_callV (ci := 7) (d' := 0) [.int 1] dX7_write_29 cw_RX7_160 ki_X7_found ks_X7_found rfl (by decide) h_this rfl (Nat.le_of_ble_eq_true rfl) (by decide) (k_X7_found h_this h) (gk_ki (fun r16 m15 h => ?_))
        exact go_iret dX7_write_32 ⟨_, rfl, h⟩
def w_X7_count (this : Nat) (x1 : Int32) (μ : gk_St) (Q : Int32 → gk_St → Prop) : Prop := (if x1 = 0 then Q (μ (gk_rf this 3) 6) μ else (if x1 = 1 then Q (μ (gk_rf this 4) 6) μ else (if x1 = 2 then (if (μ this 15) = (-1) then Q (μ (gk_rf this 2) 2) μ else Q 0 μ) else (if x1 = 3 then Q (μ (gk_rf this 0) 2) μ else (if x1 = 4 then Q (μ (gk_rf this 1) 2) μ else (if x1 = 5 then Q (μ (gk_rf this 2) 2) μ else (if x1 = 6 then Q (μ (gk_rf this 5) 3) μ else (if x1 = 7 then Q (μ (gk_rf this 6) 3) μ else (if x1 = 8 then Q (μ this 17) μ else Q (-2) μ)))))))))
set_option maxRecDepth 100000 in
set_option maxHeartbeats 4000000 in
theorem k_X7_count {this : Nat} {x1 : Int32} {μ : gk_St} {Q : Int32 → gk_St → Prop} (h_this : gk_isO this 7) (h : w_X7_count this x1 μ Q) : gk_CT yX7_count cX7_count 2 (some .int) 0 [.ref this, .int x1] μ (gk_Qi Q) := by
  unfold w_X7_count at h
  refine gk_enter (by decide) (Nat.le_of_ble_eq_true rfl) ?_
  show Go RX7 cX7_count 2 (some .int) 0 0 [(0, .ref this), (1, .int x1)] [] μ (gk_Qi Q)
  refine go_iload_n 1 dX7_count_0 rfl rfl ?_
  by_cases c : x1 = 0
  · replace h := gk_ip h c
    refine go_tableIn (k := 0) (off := 51) 52 dX7_count_1 c (by decide) (by decide) (by decide) (by decide) ?_
    refine go_aload_n 0 dX7_count_52 rfl rfl ?_
    refine go_getR dX7_count_53 fl_RX7_31 h_this (rr_7_3 h_this) ?_
    refine go_getI dX7_count_56 fl_RX7_135 (rt_7_3 h_this) (nf_6_6 (rt_7_3 h_this)) ?_
    exact go_iret dX7_count_59 ⟨_, rfl, h⟩
  replace h := gk_in h c
  have c0 := c
  clear c
  by_cases c : x1 = 1
  · replace h := gk_ip h c
    refine go_tableIn (k := 1) (off := 59) 60 dX7_count_1 c (by decide) (by decide) (by decide) (by decide) ?_
    refine go_aload_n 0 dX7_count_60 rfl rfl ?_
    refine go_getR dX7_count_61 fl_RX7_37 h_this (rr_7_4 h_this) ?_
    refine go_getI dX7_count_64 fl_RX7_135 (rt_7_4 h_this) (nf_6_6 (rt_7_4 h_this)) ?_
    exact go_iret dX7_count_67 ⟨_, rfl, h⟩
  replace h := gk_in h c
  have c1 := c
  clear c
  by_cases c : x1 = 2
  · replace h := gk_ip h c
    refine go_tableIn (k := 2) (off := 67) 68 dX7_count_1 c (by decide) (by decide) (by decide) (by decide) ?_
    refine go_aload_n 0 dX7_count_68 rfl rfl ?_
    refine go_getI dX7_count_69 fl_RX7_92 h_this (nf_7_15 h_this) ?_
    refine go_iconst (v := (-1)) dX7_count_72 (by decide) ?_
    refine go_icmp_ne 86 dX7_count_73 (by decide) (fun c => ?_) (fun c => ?_)
    · replace h := gk_in h c
      refine go_iconst (v := 0) dX7_count_86 (by decide) ?_
      exact go_iret dX7_count_87 ⟨_, rfl, h⟩
    · replace h := gk_ip h c
      refine go_aload_n 0 dX7_count_76 rfl rfl ?_
      refine go_getR dX7_count_77 fl_RX7_21 h_this (rr_7_2 h_this) ?_
      refine go_getI dX7_count_80 fl_RX7_121 (rt_7_2 h_this) (nf_5_2 (rt_7_2 h_this)) ?_
      refine go_goto 87 dX7_count_83 (by decide) ?_
      exact go_iret dX7_count_87 ⟨_, rfl, h⟩
  replace h := gk_in h c
  have c2 := c
  clear c
  by_cases c : x1 = 3
  · replace h := gk_ip h c
    refine go_tableIn (k := 3) (off := 87) 88 dX7_count_1 c (by decide) (by decide) (by decide) (by decide) ?_
    refine go_aload_n 0 dX7_count_88 rfl rfl ?_
    refine go_getR dX7_count_89 fl_RX7_14 h_this (rr_7_0 h_this) ?_
    refine go_getI dX7_count_92 fl_RX7_121 (rt_7_0 h_this) (nf_5_2 (rt_7_0 h_this)) ?_
    exact go_iret dX7_count_95 ⟨_, rfl, h⟩
  replace h := gk_in h c
  have c3 := c
  clear c
  by_cases c : x1 = 4
  · replace h := gk_ip h c
    refine go_tableIn (k := 4) (off := 95) 96 dX7_count_1 c (by decide) (by decide) (by decide) (by decide) ?_
    refine go_aload_n 0 dX7_count_96 rfl rfl ?_
    refine go_getR dX7_count_97 fl_RX7_18 h_this (rr_7_1 h_this) ?_
    refine go_getI dX7_count_100 fl_RX7_121 (rt_7_1 h_this) (nf_5_2 (rt_7_1 h_this)) ?_
    exact go_iret dX7_count_103 ⟨_, rfl, h⟩
  replace h := gk_in h c
  have c4 := c
  clear c
  by_cases c : x1 = 5
  · replace h := gk_ip h c
    refine go_tableIn (k := 5) (off := 103) 104 dX7_count_1 c (by decide) (by decide) (by decide) (by decide) ?_
    refine go_aload_n 0 dX7_count_104 rfl rfl ?_
    refine go_getR dX7_count_105 fl_RX7_21 h_this (rr_7_2 h_this) ?_
    refine go_getI dX7_count_108 fl_RX7_121 (rt_7_2 h_this) (nf_5_2 (rt_7_2 h_this)) ?_
    exact go_iret dX7_count_111 ⟨_, rfl, h⟩
  replace h := gk_in h c
  have c5 := c
  clear c
  by_cases c : x1 = 6
  · replace h := gk_ip h c
    refine go_tableIn (k := 6) (off := 111) 112 dX7_count_1 c (by decide) (by decide) (by decide) (by decide) ?_
    refine go_aload_n 0 dX7_count_112 rfl rfl ?_
    refine go_getR dX7_count_113 fl_RX7_43 h_this (rr_7_5 h_this) ?_
    refine go_getI dX7_count_116 fl_RX7_152 (rt_7_5 h_this) (nf_0_3 (rt_7_5 h_this)) ?_
    exact go_iret dX7_count_119 ⟨_, rfl, h⟩
  replace h := gk_in h c
  have c6 := c
  clear c
  by_cases c : x1 = 7
  · replace h := gk_ip h c
    refine go_tableIn (k := 7) (off := 119) 120 dX7_count_1 c (by decide) (by decide) (by decide) (by decide) ?_
    refine go_aload_n 0 dX7_count_120 rfl rfl ?_
    refine go_getR dX7_count_121 fl_RX7_50 h_this (rr_7_6 h_this) ?_
    refine go_getI dX7_count_124 fl_RX7_250 (rt_7_6 h_this) (nf_4_3 (rt_7_6 h_this)) ?_
    exact go_iret dX7_count_127 ⟨_, rfl, h⟩
  replace h := gk_in h c
  have c7 := c
  clear c
  by_cases c : x1 = 8
  · replace h := gk_ip h c
    refine go_tableIn (k := 8) (off := 127) 128 dX7_count_1 c (by decide) (by decide) (by decide) (by decide) ?_
    refine go_aload_n 0 dX7_count_128 rfl rfl ?_
    refine go_getI dX7_count_129 fl_RX7_100 h_this (nf_7_17 h_this) ?_
    exact go_iret dX7_count_132 ⟨_, rfl, h⟩
  replace h := gk_in h c
  have c8 := c
  clear c
  have t0 := gk_neT (a := 0) (by decide) c0
  have t1 := gk_neT (a := 1) (by decide) c1
  have t2 := gk_neT (a := 2) (by decide) c2
  have t3 := gk_neT (a := 3) (by decide) c3
  have t4 := gk_neT (a := 4) (by decide) c4
  have t5 := gk_neT (a := 5) (by decide) c5
  have t6 := gk_neT (a := 6) (by decide) c6
  have t7 := gk_neT (a := 7) (by decide) c7
  have t8 := gk_neT (a := 8) (by decide) c8
  refine go_tableOut 133 dX7_count_1 (by omega) (by decide) ?_
  refine go_bipush (v := (-2)) dX7_count_133 (by decide) ?_
  exact go_iret dX7_count_135 ⟨_, rfl, h⟩
def w_X7_mix (x0 : Int64) (x2 : Int64) (μ : gk_St) (Q : Int64 → gk_St → Prop) : Prop := Q (((31 : Int64) * x0) + x2) μ
set_option maxRecDepth 100000 in
set_option maxHeartbeats 4000000 in
theorem k_X7_mix {x0 : Int64} {x2 : Int64} {μ : gk_St} {Q : Int64 → gk_St → Prop} (h : w_X7_mix x0 x2 μ Q) : gk_CT yX7_mix cX7_mix 4 (some .long) 0 [.long x0, .long x2] μ (gk_Ql Q) := by
  unfold w_X7_mix at h
  refine gk_enter (by decide) (Nat.le_of_ble_eq_true rfl) ?_
  show Go RX7 cX7_mix 4 (some .long) 0 0 [(0, .long x0), (2, .long x2)] [] μ (gk_Ql Q)
  refine go_ldc2_w dX7_mix_0 ct_RX7_391 ?_
  refine go_lload_n 0 dX7_mix_3 rfl rfl ?_
  refine go_lmul dX7_mix_4 ?_
  refine go_lload_n 1 dX7_mix_5 rfl rfl ?_
  refine go_ladd dX7_mix_6 ?_
  exact go_lret dX7_mix_7 ⟨_, rfl, h⟩
