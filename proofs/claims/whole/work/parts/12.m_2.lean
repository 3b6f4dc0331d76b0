def w_X7_waits (this : Nat) (x1 : Int32) (x2 : Int32) (μ : gk_St) (Q : Int32 → gk_St → Prop) : Prop := w_X7_isMoment x1 μ (fun r2 m1 => (if r2 = 0 then Q (-2) m1 else w_X7_within x2 0 3 m1 (fun r4 m3 => (if r4 = 0 then Q (-2) m3 else w_X7_asTold this m3 (fun o6 m5 => (if x2 = 0 then (vp_in 0 (gk_rl (gk_rf o6 2)) ∧ (vp_in x1 (gk_ln (gk_rw (gk_rf o6 2) (0 : Int32).toNatClampNeg)) ∧ Q (m5 (gk_rw (gk_rf o6 2) (0 : Int32).toNatClampNeg) x1.toNatClampNeg) m5)) else (if x2 = 1 then (vp_in 1 (gk_rl (gk_rf o6 2)) ∧ (vp_in x1 (gk_ln (gk_rw (gk_rf o6 2) (1 : Int32).toNatClampNeg)) ∧ Q (m5 (gk_rw (gk_rf o6 2) (1 : Int32).toNatClampNeg) x1.toNatClampNeg) m5)) else (if x2 = 2 then w_X2_allInside o6 x1 m5 (fun r10 m9 => Q r10 m9) else (vp_in x1 (gk_ln (gk_rf o6 3)) ∧ Q (m5 (gk_rf o6 3) x1.toNatClampNeg) m5)))))))))
set_option maxRecDepth 100000 in
set_option maxHeartbeats 4000000 in
theorem k_X7_waits {this : Nat} {x1 : Int32} {x2 : Int32} {μ : gk_St} {Q : Int32 → gk_St → Prop} (h_this : gk_isO this 7) (h : w_X7_waits this x1 x2 μ Q) : gk_CT yX7_waits cX7_waits 4 (some .int) 5 [.ref this, .int x1, .int x2] μ (gk_Qi Q) := by
  unfold w_X7_waits at h
  refine gk_enter (by decide) (Nat.le_of_ble_eq_true rfl) ?_
  show Go RX7 cX7_waits 4 (some .int) 5 0 [(0, .ref this), (1, .int x1), (2, .int x2)] [] μ (gk_Qi Q)
  refine go_iload_n 1 dX7_waits_0 rfl rfl ?_
  refine go_callS (d' := 1) [.int x1] dX7_waits_1 cw_RX7_138 kt_X7_isMoment rfl (Nat.le_of_ble_eq_true rfl) (by decide) (k_X7_isMoment h) (gk_ki (fun r2 m1 h => ?_))
  refine go_if_eq 16 dX7_waits_4 (by decide) (fun c => ?_) (fun c => ?_)
  · replace h := gk_ip h c
    refine go_bipush (v := (-2)) dX7_waits_16 (by decide) ?_
    exact go_iret dX7_waits_18 ⟨_, rfl, h⟩
  · replace h := gk_in h c
    refine go_iload_n 2 dX7_waits_7 rfl rfl ?_
    refine go_iconst (v := 0) dX7_waits_8 (by decide) ?_
    refine go_iconst (v := 3) dX7_waits_9 (by decide) ?_
    refine go_callS (d' := 0) [.int x2, .int 0, .int 3] dX7_waits_10 cw_RX7_107 kt_X7_within rfl (Nat.le_of_ble_eq_true rfl) (by decide) (k_X7_within h) (gk_ki (fun r4 m3 h => ?_))
    refine go_if_ne 19 dX7_waits_13 (by decide) (fun c => ?_) (fun c => ?_)
    · replace h := gk_in h c
      refine go_aload_n 0 dX7_waits_19 rfl rfl ?_
      refine go_callV (ci := 7) (d' := 4) [] dX7_waits_20 cw_RX7_172 ki_X7_asTold ks_X7_asTold rfl (by decide) h_this rfl (Nat.le_of_ble_eq_true rfl) (by decide) (k_X7_asTold h_this h) (gk_kr (fun o6 m5 h_o6 h => ?_))
      refine go_astore_n [(3, .ref o6), (0, .ref this), (1, .int x1), (2, .int x2)] dX7_waits_23 rfl (by decide) rfl ?_
      refine go_iload_n 3 dX7_waits_24 rfl rfl ?_
      by_cases c : x2 = 0
      · replace h := gk_ip h c
        refine go_tableIn (k := 0) (off := 27) 52 dX7_waits_25 c (by decide) (by decide) (by decide) (by decide) ?_
        refine go_aload_n 0 dX7_waits_52 rfl rfl ?_
        refine go_getR dX7_waits_53 fl_RX7_182 h_o6 (rr_2_2 h_o6) ?_
        refine go_iconst (v := 0) dX7_waits_56 (by decide) ?_
        have hb7 := h.1
        refine go_aaload dX7_waits_57 (rt_2_2 h_o6) hb7 ?_
        replace h := h.2
        refine go_iload_n 2 dX7_waits_58 rfl rfl ?_
        refine go_iaload dX7_waits_59 ((gk_rows (rt_2_2 h_o6) (gk_inlt hb7)).1) h.1 ?_
        replace h := h.2
        exact go_iret dX7_waits_60 ⟨_, rfl, h⟩
      replace h := gk_in h c
      have c0 := c
      clear c
      by_cases c : x2 = 1
      · replace h := gk_ip h c
        refine go_tableIn (k := 1) (off := 36) 61 dX7_waits_25 c (by decide) (by decide) (by decide) (by decide) ?_
        refine go_aload_n 0 dX7_waits_61 rfl rfl ?_
        refine go_getR dX7_waits_62 fl_RX7_182 h_o6 (rr_2_2 h_o6) ?_
        refine go_iconst (v := 1) dX7_waits_65 (by decide) ?_
        have hb8 := h.1
        refine go_aaload dX7_waits_66 (rt_2_2 h_o6) hb8 ?_
        replace h := h.2
        refine go_iload_n 2 dX7_waits_67 rfl rfl ?_
        refine go_iaload dX7_waits_68 ((gk_rows (rt_2_2 h_o6) (gk_inlt hb8)).1) h.1 ?_
        replace h := h.2
        exact go_iret dX7_waits_69 ⟨_, rfl, h⟩
      replace h := gk_in h c
      have c1 := c
      clear c
      by_cases c : x2 = 2
      · replace h := gk_ip h c
        refine go_tableIn (k := 2) (off := 45) 70 dX7_waits_25 c (by decide) (by decide) (by decide) (by decide) ?_
        refine go_aload_n 0 dX7_waits_70 rfl rfl ?_
        refine go_iload_n 2 dX7_waits_71 rfl rfl ?_
        refine go_callV (ci := 2) (d' := 0) [.int x1] dX7_waits_72 cw_RX7_185 ki_X2_allInside ks_X2_allInside rfl (by decide) h_o6 rfl (Nat.le_of_ble_eq_true rfl) (by decide) (k_X2_allInside h_o6 h) (gk_ki (fun r10 m9 h => ?_))
        exact go_iret dX7_waits_75 ⟨_, rfl, h⟩
      replace h := gk_in h c
      have c2 := c
      clear c
      have t0 := gk_neT (a := 0) (by decide) c0
      have t1 := gk_neT (a := 1) (by decide) c1
      have t2 := gk_neT (a := 2) (by decide) c2
      refine go_tableOut 76 dX7_waits_25 (by omega) (by decide) ?_
      refine go_aload_n 0 dX7_waits_76 rfl rfl ?_
      refine go_getR dX7_waits_77 fl_RX7_188 h_o6 (rr_2_3 h_o6) ?_
      refine go_iload_n 2 dX7_waits_80 rfl rfl ?_
      refine go_iaload dX7_waits_81 (rt_2_3 h_o6) h.1 ?_
      replace h := h.2
      exact go_iret dX7_waits_82 ⟨_, rfl, h⟩
    · replace h := gk_ip h c
      refine go_bipush (v := (-2)) dX7_waits_16 (by decide) ?_
      exact go_iret dX7_waits_18 ⟨_, rfl, h⟩
def w_X7_isStation (x0 : Int32) (μ : gk_St) (Q : Int32 → gk_St → Prop) : Prop := w_X7_within x0 0 1 μ (fun r2 m1 => (gk_b r2 ∧ Q r2 m1))
set_option maxRecDepth 100000 in
set_option maxHeartbeats 4000000 in
theorem k_X7_isStation {x0 : Int32} {μ : gk_St} {Q : Int32 → gk_St → Prop} (h : w_X7_isStation x0 μ Q) : gk_CT yX7_isStation cX7_isStation 1 (some .boolean) 1 [.int x0] μ (gk_Qi Q) := by
  unfold w_X7_isStation at h
  refine gk_enter (by decide) (Nat.le_of_ble_eq_true rfl) ?_
  show Go RX7 cX7_isStation 1 (some .boolean) 1 0 [(0, .int x0)] [] μ (gk_Qi Q)
  refine go_iload_n 0 dX7_isStation_0 rfl rfl ?_
  refine go_iconst (v := 0) dX7_isStation_1 (by decide) ?_
  refine go_iconst (v := 1) dX7_isStation_2 (by decide) ?_
  refine go_callS (d' := 0) [.int x0, .int 0, .int 1] dX7_isStation_3 cw_RX7_107 kt_X7_within rfl (Nat.le_of_ble_eq_true rfl) (by decide) (k_X7_within h) (gk_ki (fun r2 m1 h => ?_))
  exact go_zret dX7_isStation_6 h.1 ⟨_, rfl, h.2⟩
def w_X7_over (this : Nat) (x1 : Int32) (μ : gk_St) (Q : Int32 → gk_St → Prop) : Prop := w_X7_isStation x1 μ (fun r2 m1 => (if r2 = 0 then Q (-2) m1 else w_X7_asTold this m1 (fun o4 m3 => (vp_in x1 (gk_ln (gk_rf o4 8)) ∧ Q (m3 (gk_rf o4 8) x1.toNatClampNeg) m3))))
set_option maxRecDepth 100000 in
set_option maxHeartbeats 4000000 in
theorem k_X7_over {this : Nat} {x1 : Int32} {μ : gk_St} {Q : Int32 → gk_St → Prop} (h_this : gk_isO this 7) (h : w_X7_over this x1 μ Q) : gk_CT yX7_over cX7_over 2 (some .int) 5 [.ref this, .int x1] μ (gk_Qi Q) := by
  unfold w_X7_over at h
  refine gk_enter (by decide) (Nat.le_of_ble_eq_true rfl) ?_
  show Go RX7 cX7_over 2 (some .int) 5 0 [(0, .ref this), (1, .int x1)] [] μ (gk_Qi Q)
  refine go_iload_n 1 dX7_over_0 rfl rfl ?_
  refine go_callS (d' := 1) [.int x1] dX7_over_1 cw_RX7_191 kt_X7_isStation rfl (Nat.le_of_ble_eq_true rfl) (by decide) (k_X7_isStation h) (gk_ki (fun r2 m1 h => ?_))
  refine go_if_eq 19 dX7_over_4 (by decide) (fun c => ?_) (fun c => ?_)
  · replace h := gk_ip h c
    refine go_bipush (v := (-2)) dX7_over_19 (by decide) ?_
    exact go_iret dX7_over_21 ⟨_, rfl, h⟩
  · replace h := gk_in h c
    refine go_aload_n 0 dX7_over_7 rfl rfl ?_
    refine go_callV (ci := 7) (d' := 4) [] dX7_over_8 cw_RX7_172 ki_X7_asTold ks_X7_asTold rfl (by decide) h_this rfl (Nat.le_of_ble_eq_true rfl) (by decide) (k_X7_asTold h_this h) (gk_kr (fun o4 m3 h_o4 h => ?_))
    refine go_getR dX7_over_11 fl_RX7_194 h_o4 (rr_2_8 h_o4) ?_
    refine go_iload_n 1 dX7_over_14 rfl rfl ?_
    refine go_iaload dX7_over_15 (rt_2_8 h_o4) h.1 ?_
    replace h := h.2
    refine go_goto 21 dX7_over_16 (by decide) ?_
    exact go_iret dX7_over_21 ⟨_, rfl, h⟩
def w_X7_sum (this : Nat) (μ : gk_St) (Q : Int32 → gk_St → Prop) : Prop := w_X7_asTold this μ (fun o2 m1 => w_X2_allPower o2 m1 (fun r4 m3 => Q r4 m3))
set_option maxRecDepth 100000 in
set_option maxHeartbeats 4000000 in
theorem k_X7_sum {this : Nat} {μ : gk_St} {Q : Int32 → gk_St → Prop} (h_this : gk_isO this 7) (h : w_X7_sum this μ Q) : gk_CT yX7_sum cX7_sum 1 (some .int) 5 [.ref this] μ (gk_Qi Q) := by
  unfold w_X7_sum at h
  refine gk_enter (by decide) (Nat.le_of_ble_eq_true rfl) ?_
  show Go RX7 cX7_sum 1 (some .int) 5 0 [(0, .ref this)] [] μ (gk_Qi Q)
  refine go_aload_n 0 dX7_sum_0 rfl rfl ?_
  refine go_callV (ci := 7) (d' := 4) [] dX7_sum_1 cw_RX7_172 ki_X7_asTold ks_X7_asTold rfl (by decide) h_this rfl (Nat.le_of_ble_eq_true rfl) (by decide) (k_X7_asTold h_this h) (gk_kr (fun o2 m1 h_o2 h => ?_))
  refine go_callV (ci := 2) (d' := 0) [] dX7_sum_4 cw_RX7_197 ki_X2_allPower ks_X2_allPower rfl (by decide) h_o2 rfl (Nat.le_of_ble_eq_true rfl) (by decide) (k_X2_allPower h_o2 h) (gk_ki (fun r4 m3 h => ?_))
  exact go_iret dX7_sum_7 ⟨_, rfl, h⟩
def w_X7_crowd_l35 (Q : Int32 → gk_St → Prop) (K : Int32 → Int32 → gk_St → Prop) (a3 : Nat) : Nat → Int32 → Int32 → Int32 → gk_St → Prop
  | 0, _, _, _, _ => False
  | n + 1, x2, x4, x5, μ => (if 24 ≤ x5 then K x2 x4 μ else (vp_in x5 (gk_ln a3) ∧ (vp_in x4 (gk_ln a3) ∧ (if (μ a3 x5.toNatClampNeg) ≤ (μ a3 x4.toNatClampNeg) then (∀ v8 : Int32, v8 = x5 + 1 → w_X7_crowd_l35 Q K a3 n x2 x4 v8 μ) else (∀ v9 : Int32, v9 = x5 + 1 → w_X7_crowd_l35 Q K a3 n x2 x5 v9 μ)))))
set_option maxRecDepth 100000 in
set_option maxHeartbeats 4000000 in
theorem k_X7_crowd_l35 {Q : Int32 → gk_St → Prop} {K : Int32 → Int32 → gk_St → Prop} {a3 : Nat} (h_a3 : gk_isO a3 100) (hK : ∀ (e2 : Int32) (e4 : Int32) (em : gk_St), K e2 e4 em → Go RX7 cX7_crowd 6 (some .int) 5 63 [(2, .int e2), (3, .ref a3), (4, .int e4)] [] em (gk_Qi Q)) : ∀ (n : Nat) (x2 : Int32) (x4 : Int32) (x5 : Int32) (μ : gk_St), w_X7_crowd_l35 Q K a3 n x2 x4 x5 μ → Go RX7 cX7_crowd 6 (some .int) 5 35 [(2, .int x2), (3, .ref a3), (4, .int x4), (5, .int x5)] [] μ (gk_Qi Q) := by
  intro n
  induction n with
  | zero =>
    intro x2 x4 x5 μ h
    exact False.elim h
  | succ n ih =>
    intro x2 x4 x5 μ h
    unfold w_X7_crowd_l35 at h
    refine go_iload 3 dX7_crowd_35 rfl ?_
    refine go_bipush (v := 24) dX7_crowd_37 (by decide) ?_
    refine go_icmp_ge 63 dX7_crowd_39 (by decide) (fun c => ?_) (fun c => ?_)
    · replace h := gk_ip h c
      refine go_lv [0, 1, 2] rfl ?_
      exact hK _ _ _ h
    · replace h := gk_in h c
      refine go_aload_n 1 dX7_crowd_42 rfl rfl ?_
      refine go_iload 3 dX7_crowd_43 rfl ?_
      refine go_iaload dX7_crowd_45 h_a3 h.1 ?_
      replace h := h.2
      refine go_aload_n 1 dX7_crowd_46 rfl rfl ?_
      refine go_iload 2 dX7_crowd_47 rfl ?_
      refine go_iaload dX7_crowd_49 h_a3 h.1 ?_
      replace h := h.2
      refine go_icmp_le 57 dX7_crowd_50 (by decide) (fun c => ?_) (fun c => ?_)
      · replace h := gk_ip h c
        refine gb_iinc (w := 1) 3 (fun v8 => [(5, .int v8), (2, .int x2), (3, .ref a3), (4, .int x4)]) dX7_crowd_57 rfl (by decide) (by decide) (fun _ => rfl) (fun v8 e => ?_)
        replace h := h v8 e
        refine go_goto 35 dX7_crowd_60 (by decide) ?_
        refine go_lv [1, 2, 3, 0] rfl ?_
        exact ih _ _ _ _ h
      · replace h := gk_in h c
        refine go_iload 3 dX7_crowd_53 rfl ?_
        refine go_istore [(4, .int x5), (2, .int x2), (3, .ref a3), (5, .int x5)] dX7_crowd_55 (by decide) rfl ?_
        refine gb_iinc (w := 1) 3 (fun v9 => [(5, .int v9), (4, .int x5), (2, .int x2), (3, .ref a3)]) dX7_crowd_57 rfl (by decide) (by decide) (fun _ => rfl) (fun v9 e => ?_)
        replace h := h v9 e
        refine go_goto 35 dX7_crowd_60 (by decide) ?_
        refine go_lv [2, 3, 1, 0] rfl ?_
        exact ih _ _ _ _ h
def w_X7_crowd (this : Nat) (x1 : Int32) (x2 : Int32) (μ : gk_St) (Q : Int32 → gk_St → Prop) : Prop := w_X7_isStation x1 μ (fun r2 m1 => (if r2 = 0 then Q (-2) m1 else w_X7_within x2 0 1 m1 (fun r4 m3 => (if r4 = 0 then Q (-2) m3 else w_X7_asTold this m3 (fun o6 m5 => (vp_in x1 (gk_rl (gk_rf o6 2)) ∧ (∃ n35 : Nat, w_X7_crowd_l35 Q (fun y10 y11 m12 => (if y10 = 0 then Q y11 m12 else (vp_in y11 (gk_ln (gk_rw (gk_rf o6 2) x1.toNatClampNeg)) ∧ Q (m12 (gk_rw (gk_rf o6 2) x1.toNatClampNeg) y11.toNatClampNeg) m12))) (gk_rw (gk_rf o6 2) x1.toNatClampNeg) n35 x2 0 1 m5)))))))
set_option maxRecDepth 100000 in
set_option maxHeartbeats 4000000 in
theorem k_X7_crowd {this : Nat} {x1 : Int32} {x2 : Int32} {μ : gk_St} {Q : Int32 → gk_St → Prop} (h_this : gk_isO this 7) (h : w_X7_crowd this x1 x2 μ Q) : gk_CT yX7_crowd cX7_crowd 6 (some .int) 5 [.ref this, .int x1, .int x2] μ (gk_Qi Q) := by
  unfold w_X7_crowd at h
  refine gk_enter (by decide) (Nat.le_of_ble_eq_true rfl) ?_
  show Go RX7 cX7_crowd 6 (some .int) 5 0 [(0, .ref this), (1, .int x1), (2, .int x2)] [] μ (gk_Qi Q)
  refine go_iload_n 1 dX7_crowd_0 rfl rfl ?_
  refine go_callS (d' := 1) [.int x1] dX7_crowd_1 cw_RX7_191 kt_X7_isStation rfl (Nat.le_of_ble_eq_true rfl) (by decide) (k_X7_isStation h) (gk_ki (fun r2 m1 h => ?_))
  refine go_if_eq 16 dX7_crowd_4 (by decide) (fun c => ?_) (fun c => ?_)
  · replace h := gk_ip h c
    refine go_bipush (v := (-2)) dX7_crowd_16 (by decide) ?_
    exact go_iret dX7_crowd_18 ⟨_, rfl, h⟩
  · replace h := gk_in h c
    refine go_iload_n 2 dX7_crowd_7 rfl rfl ?_
    refine go_iconst (v := 0) dX7_crowd_8 (by decide) ?_
    refine go_iconst (v := 1) dX7_crowd_9 (by decide) ?_
    refine go_callS (d' := 0) [.int x2, .int 0, .int 1] dX7_crowd_10 cw_RX7_107 kt_X7_within rfl (Nat.le_of_ble_eq_true rfl) (by decide) (k_X7_within h) (gk_ki (fun r4 m3 h => ?_))
    refine go_if_ne 19 dX7_crowd_13 (by decide) (fun c => ?_) (fun c => ?_)
    · replace h := gk_in h c
      refine go_aload_n 0 dX7_crowd_19 rfl rfl ?_
      refine go_callV (ci := 7) (d' := 4) [] dX7_crowd_20 cw_RX7_172 ki_X7_asTold ks_X7_asTold rfl (by decide) h_this rfl (Nat.le_of_ble_eq_true rfl) (by decide) (k_X7_asTold h_this h) (gk_kr (fun o6 m5 h_o6 h => ?_))
      refine go_getR dX7_crowd_23 fl_RX7_182 h_o6 (rr_2_2 h_o6) ?_
      refine go_iload_n 1 dX7_crowd_26 rfl rfl ?_
      have hb7 := h.1
      refine go_aaload dX7_crowd_27 (rt_2_2 h_o6) hb7 ?_
      replace h := h.2
      refine go_astore_n [(3, .ref (gk_rw (gk_rf o6 2) x1.toNatClampNeg)), (0, .ref this), (1, .int x1), (2, .int x2)] dX7_crowd_28 rfl (by decide) rfl ?_
      refine go_iconst (v := 0) dX7_crowd_29 (by decide) ?_
      refine go_istore [(4, .int 0), (3, .ref (gk_rw (gk_rf o6 2) x1.toNatClampNeg)), (0, .ref this), (1, .int x1), (2, .int x2)] dX7_crowd_30 (by decide) rfl ?_
      refine go_iconst (v := 1) dX7_crowd_32 (by decide) ?_
      refine go_istore [(5, .int 1), (4, .int 0), (3, .ref (gk_rw (gk_rf o6 2) x1.toNatClampNeg)), (0, .ref this), (1, .int x1), (2, .int x2)] dX7_crowd_33 (by decide) rfl ?_
      refine go_lv [5, 2, 1, 0] rfl ?_
      obtain ⟨n35, h⟩ := h
      refine k_X7_crowd_l35 ((gk_rows (rt_2_2 h_o6) (gk_inlt hb7)).1) (fun y10 y11 m12 h => ?_) n35 _ _ _ _ h
      refine go_iload_n 0 dX7_crowd_63 rfl rfl ?_
      refine go_if_ne 72 dX7_crowd_64 (by decide) (fun c => ?_) (fun c => ?_)
      · replace h := gk_in h c
        refine go_aload_n 1 dX7_crowd_72 rfl rfl ?_
        refine go_iload 2 dX7_crowd_73 rfl ?_
        refine go_iaload dX7_crowd_75 ((gk_rows (rt_2_2 h_o6) (gk_inlt hb7)).1) h.1 ?_
        replace h := h.2
        exact go_iret dX7_crowd_76 ⟨_, rfl, h⟩
      · replace h := gk_ip h c
        refine go_iload 2 dX7_crowd_67 rfl ?_
        refine go_goto 76 dX7_crowd_69 (by decide) ?_
        exact go_iret dX7_crowd_76 ⟨_, rfl, h⟩
    · replace h := gk_ip h c
      refine go_bipush (v := (-2)) dX7_crowd_16 (by decide) ?_
      exact go_iret dX7_crowd_18 ⟨_, rfl, h⟩
def w_X7_first (this : Nat) (x1 : Int32) (μ : gk_St) (Q : Int32 → gk_St → Prop) : Prop := (if x1 = 0 then w_X7_asTold this μ (fun o2 m1 => Q (m1 o2 11) m1) else (if x1 = 1 then w_X7_asTold this μ (fun o4 m3 => Q (m3 o4 12) m3) else Q (-2) μ))
set_option maxRecDepth 100000 in
set_option maxHeartbeats 4000000 in
theorem k_X7_first {this : Nat} {x1 : Int32} {μ : gk_St} {Q : Int32 → gk_St → Prop} (h_this : gk_isO this 7) (h : w_X7_first this x1 μ Q) : gk_CT yX7_first cX7_first 2 (some .int) 5 [.ref this, .int x1] μ (gk_Qi Q) := by
  unfold w_X7_first at h
  refine gk_enter (by decide) (Nat.le_of_ble_eq_true rfl) ?_
  show Go RX7 cX7_first 2 (some .int) 5 0 [(0, .ref this), (1, .int x1)] [] μ (gk_Qi Q)
  refine go_iload_n 1 dX7_first_0 rfl rfl ?_
  by_cases c : x1 = 0
  · replace h := gk_ip h c
    refine go_lookup (off := 27) 28 dX7_first_1 (by decide) (by rw [c]; decide) (by decide) ?_
    refine go_aload_n 0 dX7_first_28 rfl rfl ?_
    refine go_callV (ci := 7) (d' := 4) [] dX7_first_29 cw_RX7_172 ki_X7_asTold ks_X7_asTold rfl (by decide) h_this rfl (Nat.le_of_ble_eq_true rfl) (by decide) (k_X7_asTold h_this h) (gk_kr (fun o2 m1 h_o2 h => ?_))
    refine go_getI dX7_first_32 fl_RX7_201 h_o2 (nf_2_11 h_o2) ?_
    exact go_iret dX7_first_35 ⟨_, rfl, h⟩
  replace h := gk_in h c
  have c0 := c
  clear c
  by_cases c : x1 = 1
  · replace h := gk_ip h c
    refine go_lookup (off := 35) 36 dX7_first_1 (by decide) (by rw [c]; decide) (by decide) ?_
    refine go_aload_n 0 dX7_first_36 rfl rfl ?_
    refine go_callV (ci := 7) (d' := 4) [] dX7_first_37 cw_RX7_172 ki_X7_asTold ks_X7_asTold rfl (by decide) h_this rfl (Nat.le_of_ble_eq_true rfl) (by decide) (k_X7_asTold h_this h) (gk_kr (fun o4 m3 h_o4 h => ?_))
    refine go_getI dX7_first_40 fl_RX7_204 h_o4 (nf_2_12 h_o4) ?_
    exact go_iret dX7_first_43 ⟨_, rfl, h⟩
  replace h := gk_in h c
  have c1 := c
  clear c
  have t0 := gk_neT (a := 0) (by decide) c0
  have t1 := gk_neT (a := 1) (by decide) c1
  refine go_lookup (off := 43) 44 dX7_first_1 (by decide) (gk_lk2 t0 t1) (by decide) ?_
  refine go_bipush (v := (-2)) dX7_first_44 (by decide) ?_
  exact go_iret dX7_first_46 ⟨_, rfl, h⟩
def w_X7_carried (this : Nat) (x1 : Int32) (μ : gk_St) (Q : Int32 → gk_St → Prop) : Prop := w_X7_isCar this x1 μ (fun r2 m1 => (if r2 = 0 then Q (-2) m1 else w_X7_asTold this m1 (fun o4 m3 => (vp_in x1 (gk_ln (gk_rf o4 6)) ∧ Q (m3 (gk_rf o4 6) x1.toNatClampNeg) m3))))
set_option maxRecDepth 100000 in
set_option maxHeartbeats 4000000 in
theorem k_X7_carried {this : Nat} {x1 : Int32} {μ : gk_St} {Q : Int32 → gk_St → Prop} (h_this : gk_isO this 7) (h : w_X7_carried this x1 μ Q) : gk_CT yX7_carried cX7_carried 2 (some .int) 5 [.ref this, .int x1] μ (gk_Qi Q) := by
  unfold w_X7_carried at h
  refine gk_enter (by decide) (Nat.le_of_ble_eq_true rfl) ?_
  show Go RX7 cX7_carried 2 (some .int) 5 0 [(0, .ref this), (1, .int x1)] [] μ (gk_Qi Q)
  refine go_aload_n 0 dX7_carried_0 rfl rfl ?_
  refine go_iload_n 1 dX7_carried_1 rfl rfl ?_
  refine go_callV (ci := 7) (d' := 1) [.int x1] dX7_carried_2 cw_RX7_127 ki_X7_isCar ks_X7_isCar rfl (by decide) h_this rfl (Nat.le_of_ble_eq_true rfl) (by decide) (k_X7_isCar h_this h) (gk_ki (fun r2 m1 h => ?_))
  refine go_if_eq 20 dX7_carried_5 (by decide) (fun c => ?_) (fun c => ?_)
  · replace h := gk_ip h c
    refine go_bipush (v := (-2)) dX7_carried_20 (by decide) ?_
    exact go_iret dX7_carried_22 ⟨_, rfl, h⟩
  · replace h := gk_in h c
    refine go_aload_n 0 dX7_carried_8 rfl rfl ?_
    refine go_callV (ci := 7) (d' := 4) [] dX7_carried_9 cw_RX7_172 ki_X7_asTold ks_X7_asTold rfl (by decide) h_this rfl (Nat.le_of_ble_eq_true rfl) (by decide) (k_X7_asTold h_this h) (gk_kr (fun o4 m3 h_o4 h => ?_))
    refine go_getR dX7_carried_12 fl_RX7_207 h_o4 (rr_2_6 h_o4) ?_
    refine go_iload_n 1 dX7_carried_15 rfl rfl ?_
    refine go_iaload dX7_carried_16 (rt_2_6 h_o4) h.1 ?_
    replace h := h.2
    refine go_goto 22 dX7_carried_17 (by decide) ?_
    exact go_iret dX7_carried_22 ⟨_, rfl, h⟩
def w_X7_idle (this : Nat) (μ : gk_St) (Q : Int32 → gk_St → Prop) : Prop := w_X7_asTold this μ (fun o2 m1 => Q ((((1 : Int32) <<< ((μ (gk_rf this 3) 6) &&& 31)) - 1) &&& ((m1 o2 10) ^^^ (-1))) m1)
set_option maxRecDepth 100000 in
set_option maxHeartbeats 4000000 in
theorem k_X7_idle {this : Nat} {μ : gk_St} {Q : Int32 → gk_St → Prop} (h_this : gk_isO this 7) (h : w_X7_idle this μ Q) : gk_CT yX7_idle cX7_idle 1 (some .int) 5 [.ref this] μ (gk_Qi Q) := by
  unfold w_X7_idle at h
  refine gk_enter (by decide) (Nat.le_of_ble_eq_true rfl) ?_
  show Go RX7 cX7_idle 1 (some .int) 5 0 [(0, .ref this)] [] μ (gk_Qi Q)
  refine go_iconst (v := 1) dX7_idle_0 (by decide) ?_
  refine go_aload_n 0 dX7_idle_1 rfl rfl ?_
  refine go_getR dX7_idle_2 fl_RX7_31 h_this (rr_7_3 h_this) ?_
  refine go_getI dX7_idle_5 fl_RX7_135 (rt_7_3 h_this) (nf_6_6 (rt_7_3 h_this)) ?_
  refine go_ishl dX7_idle_8 ?_
  refine go_iconst (v := 1) dX7_idle_9 (by decide) ?_
  refine go_isub dX7_idle_10 ?_
  refine go_aload_n 0 dX7_idle_11 rfl rfl ?_
  refine go_callV (ci := 7) (d' := 4) [] dX7_idle_12 cw_RX7_172 ki_X7_asTold ks_X7_asTold rfl (by decide) h_this rfl (Nat.le_of_ble_eq_true rfl) (by decide) (k_X7_asTold h_this h) (gk_kr (fun o2 m1 h_o2 h => ?_))
  refine go_getI dX7_idle_15 fl_RX7_210 h_o2 (nf_2_10 h_o2) ?_
  refine go_iconst (v := (-1)) dX7_idle_18 (by decide) ?_
  refine go_ixor dX7_idle_19 ?_
  refine go_iand dX7_idle_20 ?_
  exact go_iret dX7_idle_21 ⟨_, rfl, h⟩
def w_X7_leftBehind_l4 (Q : Int32 → gk_St → Prop) (K : Int32 → gk_St → Prop) (this : Nat) (a1 : Nat) : Nat → Int32 → Int32 → gk_St → Prop
  | 0, _, _, _ => False
  | n + 1, x2, x3, μ => (if (μ (gk_rf this 4) 6) ≤ x3 then K x2 μ else (vp_in x3 (gk_ln (gk_rf (gk_rf this 4) 5)) ∧ (∀ v1 : Int32, v1 = (x2 + (μ (gk_rf (gk_rf this 4) 5) x3.toNatClampNeg)) → (∀ v2 : Int32, v2 = x3 + 1 → w_X7_leftBehind_l4 Q K this a1 n v1 v2 μ))))
set_option maxRecDepth 100000 in
set_option maxHeartbeats 4000000 in
theorem k_X7_leftBehind_l4 {Q : Int32 → gk_St → Prop} {K : Int32 → gk_St → Prop} {this a1 : Nat} (h_this : gk_isO this 7) (h_a1 : gk_isO a1 2) (hK : ∀ (e2 : Int32) (em : gk_St), K e2 em → Go RX7 cX7_leftBehind 4 (some .int) 1 33 [(1, .ref a1), (2, .int e2)] [] em (gk_Qi Q)) : ∀ (n : Nat) (x2 : Int32) (x3 : Int32) (μ : gk_St), w_X7_leftBehind_l4 Q K this a1 n x2 x3 μ → Go RX7 cX7_leftBehind 4 (some .int) 1 4 [(0, .ref this), (1, .ref a1), (2, .int x2), (3, .int x3)] [] μ (gk_Qi Q) := by
  intro n
  induction n with
  | zero =>
    intro x2 x3 μ h
    exact False.elim h
  | succ n ih =>
    intro x2 x3 μ h
    unfold w_X7_leftBehind_l4 at h
    refine go_iload_n 3 dX7_leftBehind_4 rfl rfl ?_
    refine go_aload_n 0 dX7_leftBehind_5 rfl rfl ?_
    refine go_getR dX7_leftBehind_6 fl_RX7_37 h_this (rr_7_4 h_this) ?_
    refine go_getI dX7_leftBehind_9 fl_RX7_135 (rt_7_4 h_this) (nf_6_6 (rt_7_4 h_this)) ?_
    refine go_icmp_ge 33 dX7_leftBehind_12 (by decide) (fun c => ?_) (fun c => ?_)
    · replace h := gk_ip h c
      refine go_lv [1, 2] rfl ?_
      exact hK _ _ h
    · replace h := gk_in h c
      refine go_iload_n 2 dX7_leftBehind_15 rfl rfl ?_
      refine go_aload_n 0 dX7_leftBehind_16 rfl rfl ?_
      refine go_getR dX7_leftBehind_17 fl_RX7_37 h_this (rr_7_4 h_this) ?_
      refine go_getR dX7_leftBehind_20 fl_RX7_413 (rt_7_4 h_this) (rr_6_5 (rt_7_4 h_this)) ?_
      refine go_iload_n 3 dX7_leftBehind_23 rfl rfl ?_
      refine go_iaload dX7_leftBehind_24 (rt_6_5 (rt_7_4 h_this)) h.1 ?_
      replace h := h.2
      refine go_iadd dX7_leftBehind_25 ?_
      refine gb_istore_n (fun v1 => [(2, .int v1), (0, .ref this), (1, .ref a1), (3, .int x3)]) dX7_leftBehind_26 rfl (by decide) (fun _ => rfl) (fun v1 e => ?_)
      replace h := h v1 e
      refine gb_iinc (w := 1) 3 (fun v2 => [(3, .int v2), (2, .int v1), (0, .ref this), (1, .ref a1)]) dX7_leftBehind_27 rfl (by decide) (by decide) (fun _ => rfl) (fun v2 e => ?_)
      replace h := h v2 e
      refine go_goto 4 dX7_leftBehind_30 (by decide) ?_
      refine go_lv [2, 3, 1, 0] rfl ?_
      exact ih _ _ _ h
def w_X7_leftBehind (this : Nat) (a1 : Nat) (μ : gk_St) (Q : Int32 → gk_St → Prop) : Prop := (∃ n4 : Nat, w_X7_leftBehind_l4 Q (fun y3 m4 => w_X2_allOver a1 m4 (fun r6 m5 => Q (y3 - r6) m5)) this a1 n4 0 0 μ)
set_option maxRecDepth 100000 in
set_option maxHeartbeats 4000000 in
theorem k_X7_leftBehind {this : Nat} {a1 : Nat} {μ : gk_St} {Q : Int32 → gk_St → Prop} (h_this : gk_isO this 7) (h_a1 : gk_isO a1 2) (h : w_X7_leftBehind this a1 μ Q) : gk_CT yX7_leftBehind cX7_leftBehind 4 (some .int) 1 [.ref this, .ref a1] μ (gk_Qi Q) := by
  unfold w_X7_leftBehind at h
  refine gk_enter (by decide) (Nat.le_of_ble_eq_true rfl) ?_
  show Go RX7 cX7_leftBehind 4 (some .int) 1 0 [(0, .ref this), (1, .ref a1)] [] μ (gk_Qi Q)
  refine go_iconst (v := 0) dX7_leftBehind_0 (by decide) ?_
  refine go_istore_n [(2, .int 0), (0, .ref this), (1, .ref a1)] dX7_leftBehind_1 rfl (by decide) rfl ?_
  refine go_iconst (v := 0) dX7_leftBehind_2 (by decide) ?_
  refine go_istore_n [(3, .int 0), (2, .int 0), (0, .ref this), (1, .ref a1)] dX7_leftBehind_3 rfl (by decide) rfl ?_
  refine go_lv [2, 3, 1, 0] rfl ?_
  obtain ⟨n4, h⟩ := h
  refine k_X7_leftBehind_l4 h_this h_a1 (fun y3 m4 h => ?_) n4 _ _ _ h
  refine go_iload_n 1 dX7_leftBehind_33 rfl rfl ?_
  refine go_aload_n 0 dX7_leftBehind_34 rfl rfl ?_
  refine go_callV (ci := 2) (d' := 0) [] dX7_leftBehind_35 cw_RX7_231 ki_X2_allOver ks_X2_allOver rfl (by decide) h_a1 rfl (Nat.le_of_ble_eq_true rfl) (by decide) (k_X2_allOver h_a1 h) (gk_ki (fun r6 m5 h => ?_))
  refine go_isub dX7_leftBehind_38 ?_
  exact go_iret dX7_leftBehind_39 ⟨_, rfl, h⟩
def w_X7_left (this : Nat) (μ : gk_St) (Q : Int32 → gk_St → Prop) : Prop := w_X7_asTold this μ (fun o2 m1 => w_X7_leftBehind this o2 m1 (fun r4 m3 => Q r4 m3))
set_option maxRecDepth 100000 in
set_option maxHeartbeats 4000000 in
theorem k_X7_left {this : Nat} {μ : gk_St} {Q : Int32 → gk_St → Prop} (h_this : gk_isO this 7) (h : w_X7_left this μ Q) : gk_CT yX7_left cX7_left 1 (some .int) 5 [.ref this] μ (gk_Qi Q) := by
  unfold w_X7_left at h
  refine gk_enter (by decide) (Nat.le_of_ble_eq_true rfl) ?_
  show Go RX7 cX7_left 1 (some .int) 5 0 [(0, .ref this)] [] μ (gk_Qi Q)
  refine go_aload_n 0 dX7_left_0 rfl rfl ?_
  refine go_aload_n 0 dX7_left_1 rfl rfl ?_
  refine go_callV (ci := 7) (d' := 4) [] dX7_left_2 cw_RX7_172 ki_X7_asTold ks_X7_asTold rfl (by decide) h_this rfl (Nat.le_of_ble_eq_true rfl) (by decide) (k_X7_asTold h_this h) (gk_kr (fun o2 m1 h_o2 h => ?_))
  refine go_callV (ci := 7) (d' := 1) [.ref o2] dX7_left_5 cw_RX7_213 ki_X7_leftBehind ks_X7_leftBehind rfl (by decide) h_this rfl (Nat.le_of_ble_eq_true rfl) (by decide) (k_X7_leftBehind h_this h_o2 h) (gk_ki (fun r4 m3 h => ?_))
  exact go_iret dX7_left_8 ⟨_, rfl, h⟩
def w_X7_anotherHangsAt_l2 (Q : Int32 → gk_St → Prop) (K : gk_St → Prop) (this : Nat) : Nat → Int32 → Int32 → Int32 → gk_St → Prop
  | 0, _, _, _, _ => False
  | n + 1, x1, x2, x3, μ => (if (μ (gk_rf this 3) 6) ≤ x3 then K  μ else (if x3 = x2 then (∀ v1 : Int32, v1 = x3 + 1 → w_X7_anotherHangsAt_l2 Q K this n x1 x2 v1 μ) else (vp_in x3 (gk_ln (gk_rf (gk_rf this 3) 3)) ∧ (if (μ (gk_rf (gk_rf this 3) 3) x3.toNatClampNeg) = x1 then Q 1 μ else (∀ v2 : Int32, v2 = x3 + 1 → w_X7_anotherHangsAt_l2 Q K this n x1 x2 v2 μ)))))
set_option maxRecDepth 100000 in
set_option maxHeartbeats 4000000 in
theorem k_X7_anotherHangsAt_l2 {Q : Int32 → gk_St → Prop} {K : gk_St → Prop} {this : Nat} (h_this : gk_isO this 7) (hK : ∀ (em : gk_St), K  em → Go RX7 cX7_anotherHangsAt 4 (some .boolean) 0 39 [] [] em (gk_Qi Q)) : ∀ (n : Nat) (x1 : Int32) (x2 : Int32) (x3 : Int32) (μ : gk_St), w_X7_anotherHangsAt_l2 Q K this n x1 x2 x3 μ → Go RX7 cX7_anotherHangsAt 4 (some .boolean) 0 2 [(0, .ref this), (1, .int x1), (2, .int x2), (3, .int x3)] [] μ (gk_Qi Q) := by
  intro n
  induction n with
  | zero =>
    intro x1 x2 x3 μ h
    exact False.elim h
  | succ n ih =>
    intro x1 x2 x3 μ h
    unfold w_X7_anotherHangsAt_l2 at h
    refine go_iload_n 3 dX7_anotherHangsAt_2 rfl rfl ?_
    refine go_aload_n 0 dX7_anotherHangsAt_3 rfl rfl ?_
    refine go_getR dX7_anotherHangsAt_4 fl_RX7_31 h_this (rr_7_3 h_this) ?_
    refine go_getI dX7_anotherHangsAt_7 fl_RX7_135 (rt_7_3 h_this) (nf_6_6 (rt_7_3 h_this)) ?_
    refine go_icmp_ge 39 dX7_anotherHangsAt_10 (by decide) (fun c => ?_) (fun c => ?_)
    · replace h := gk_ip h c
      refine go_lv [] rfl ?_
      exact hK  _ h
    · replace h := gk_in h c
      refine go_iload_n 3 dX7_anotherHangsAt_13 rfl rfl ?_
      refine go_iload_n 2 dX7_anotherHangsAt_14 rfl rfl ?_
      refine go_icmp_eq 33 dX7_anotherHangsAt_15 (by decide) (fun c => ?_) (fun c => ?_)
      · replace h := gk_ip h c
        refine gb_iinc (w := 1) 3 (fun v1 => [(3, .int v1), (0, .ref this), (1, .int x1), (2, .int x2)]) dX7_anotherHangsAt_33 rfl (by decide) (by decide) (fun _ => rfl) (fun v1 e => ?_)
        replace h := h v1 e
        refine go_goto 2 dX7_anotherHangsAt_36 (by decide) ?_
        refine go_lv [1, 2, 3, 0] rfl ?_
        exact ih _ _ _ _ h
      · replace h := gk_in h c
        refine go_aload_n 0 dX7_anotherHangsAt_18 rfl rfl ?_
        refine go_getR dX7_anotherHangsAt_19 fl_RX7_31 h_this (rr_7_3 h_this) ?_
        refine go_getR dX7_anotherHangsAt_22 fl_RX7_403 (rt_7_3 h_this) (rr_6_3 (rt_7_3 h_this)) ?_
        refine go_iload_n 3 dX7_anotherHangsAt_25 rfl rfl ?_
        refine go_iaload dX7_anotherHangsAt_26 (rt_6_3 (rt_7_3 h_this)) h.1 ?_
        replace h := h.2
        refine go_iload_n 1 dX7_anotherHangsAt_27 rfl rfl ?_
        refine go_icmp_ne 33 dX7_anotherHangsAt_28 (by decide) (fun c => ?_) (fun c => ?_)
        · replace h := gk_in h c
          refine gb_iinc (w := 1) 3 (fun v2 => [(3, .int v2), (0, .ref this), (1, .int x1), (2, .int x2)]) dX7_anotherHangsAt_33 rfl (by decide) (by decide) (fun _ => rfl) (fun v2 e => ?_)
          replace h := h v2 e
          refine go_goto 2 dX7_anotherHangsAt_36 (by decide) ?_
          refine go_lv [1, 2, 3, 0] rfl ?_
          exact ih _ _ _ _ h
        · replace h := gk_ip h c
          refine go_iconst (v := 1) dX7_anotherHangsAt_31 (by decide) ?_
          exact go_zret dX7_anotherHangsAt_32 (Or.inr rfl) ⟨_, rfl, h⟩
def w_X7_anotherHangsAt (this : Nat) (x1 : Int32) (x2 : Int32) (μ : gk_St) (Q : Int32 → gk_St → Prop) : Prop := (∃ n2 : Nat, w_X7_anotherHangsAt_l2 Q (fun m3 => Q 0 m3) this n2 x1 x2 0 μ)
set_option maxRecDepth 100000 in
set_option maxHeartbeats 4000000 in
theorem k_X7_anotherHangsAt {this : Nat} {x1 : Int32} {x2 : Int32} {μ : gk_St} {Q : Int32 → gk_St → Prop} (h_this : gk_isO this 7) (h : w_X7_anotherHangsAt this x1 x2 μ Q) : gk_CT yX7_anotherHangsAt cX7_anotherHangsAt 4 (some .boolean) 0 [.ref this, .int x1, .int x2] μ (gk_Qi Q) := by
  unfold w_X7_anotherHangsAt at h
  refine gk_enter (by decide) (Nat.le_of_ble_eq_true rfl) ?_
  show Go RX7 cX7_anotherHangsAt 4 (some .boolean) 0 0 [(0, .ref this), (1, .int x1), (2, .int x2)] [] μ (gk_Qi Q)
  refine go_iconst (v := 0) dX7_anotherHangsAt_0 (by decide) ?_
  refine go_istore_n [(3, .int 0), (0, .ref this), (1, .int x1), (2, .int x2)] dX7_anotherHangsAt_1 rfl (by decide) rfl ?_
  refine go_lv [1, 2, 3, 0] rfl ?_
  obtain ⟨n2, h⟩ := h
  refine k_X7_anotherHangsAt_l2 h_this (fun m3 h => ?_) n2 _ _ _ _ h
  refine go_iconst (v := 0) dX7_anotherHangsAt_39 (by decide) ?_
  exact go_zret dX7_anotherHangsAt_40 (Or.inl rfl) ⟨_, rfl, h⟩
def w_X7_hang_l32 (Q : Int32 → gk_St → Prop) (K : Int32 → Int32 → Int32 → gk_St → Prop) (this : Nat) : Nat → Int32 → Int32 → Int32 → Int32 → Int32 → gk_St → Prop
  | 0, _, _, _, _, _, _ => False
  | n + 1, x1, x2, x3, x4, x5, μ => (if 24 ≤ x5 then K x2 x3 x4 μ else w_X7_anotherHangsAt this x5 x1 μ (fun r7 m6 => (if r7 = 0 then (vp_in x1 (gk_ln (gk_rf (gk_rf this 11) 1)) ∧ (∀ m8 : gk_St, m8 = gk_up m6 (gk_rf (gk_rf this 11) 1) x1.toNatClampNeg x5 → w_X2_run (gk_rf this 13) (gk_rf this 11) 23 m8 (fun m9 => w_X2_allOver (gk_rf this 13) m9 (fun r11 m10 => (if r11 ≤ x4 then (∀ v12 : Int32, v12 = x5 + 1 → w_X7_hang_l32 Q K this n x1 x2 x3 x4 v12 m10) else w_X2_allOver (gk_rf this 13) m10 (fun r14 m13 => (∀ v15 : Int32, v15 = x5 + 1 → w_X7_hang_l32 Q K this n x1 x2 x5 r14 v15 m13))))))) else (∀ v16 : Int32, v16 = x5 + 1 → w_X7_hang_l32 Q K this n x1 x2 x3 x4 v16 m6))))
set_option maxRecDepth 100000 in
set_option maxHeartbeats 4000000 in
theorem k_X7_hang_l32 {Q : Int32 → gk_St → Prop} {K : Int32 → Int32 → Int32 → gk_St → Prop} {this : Nat} (h_this : gk_isO this 7) (hK : ∀ (e2 : Int32) (e3 : Int32) (e4 : Int32) (em : gk_St), K e2 e3 e4 em → Go RX7 cX7_hang 6 (some .int) 4 106 [(2, .int e2), (3, .int e3), (4, .int e4)] [] em (gk_Qi Q)) : ∀ (n : Nat) (x1 : Int32) (x2 : Int32) (x3 : Int32) (x4 : Int32) (x5 : Int32) (μ : gk_St), w_X7_hang_l32 Q K this n x1 x2 x3 x4 x5 μ → Go RX7 cX7_hang 6 (some .int) 4 32 [(0, .ref this), (1, .int x1), (2, .int x2), (3, .int x3), (4, .int x4), (5, .int x5)] [] μ (gk_Qi Q) := by
  intro n
  induction n with
  | zero =>
    intro x1 x2 x3 x4 x5 μ h
    exact False.elim h
  | succ n ih =>
    intro x1 x2 x3 x4 x5 μ h
    unfold w_X7_hang_l32 at h
    refine go_iload 5 dX7_hang_32 rfl ?_
    refine go_bipush (v := 24) dX7_hang_34 (by decide) ?_
    refine go_icmp_ge 106 dX7_hang_36 (by decide) (fun c => ?_) (fun c => ?_)
    · replace h := gk_ip h c
      refine go_lv [2, 3, 4] rfl ?_
      exact hK _ _ _ _ h
    · replace h := gk_in h c
      refine go_aload_n 0 dX7_hang_39 rfl rfl ?_
      refine go_iload 5 dX7_hang_40 rfl ?_
      refine go_iload_n 1 dX7_hang_42 rfl rfl ?_
      refine go_callV (ci := 7) (d' := 0) [.int x5, .int x1] dX7_hang_43 cw_RX7_220 ki_X7_anotherHangsAt ks_X7_anotherHangsAt rfl (by decide) h_this rfl (Nat.le_of_ble_eq_true rfl) (by decide) (k_X7_anotherHangsAt h_this h) (gk_ki (fun r7 m6 h => ?_))
      refine go_if_eq 52 dX7_hang_46 (by decide) (fun c => ?_) (fun c => ?_)
      · replace h := gk_ip h c
        refine go_aload_n 0 dX7_hang_52 rfl rfl ?_
        refine go_getR dX7_hang_53 fl_RX7_73 h_this (rr_7_11 h_this) ?_
        refine go_getR dX7_hang_56 fl_RX7_224 (rt_7_11 h_this) (rr_1_1 (rt_7_11 h_this)) ?_
        refine go_iload_n 1 dX7_hang_59 rfl rfl ?_
        refine go_iload 5 dX7_hang_60 rfl ?_
        refine gb_iastore dX7_hang_62 (rt_1_1 (rt_7_11 h_this)) h.1 (fun m8 e => ?_)
        replace h := h.2 m8 e
        refine go_aload_n 0 dX7_hang_63 rfl rfl ?_
        refine go_getR dX7_hang_64 fl_RX7_84 h_this (rr_7_13 h_this) ?_
        refine go_aload_n 0 dX7_hang_67 rfl rfl ?_
        refine go_getR dX7_hang_68 fl_RX7_73 h_this (rr_7_11 h_this) ?_
        refine go_bipush (v := 23) dX7_hang_71 (by decide) ?_
        refine go_callV (ci := 2) (d' := 3) [.ref (gk_rf this 11), .int 23] dX7_hang_73 cw_RX7_227 ki_X2_run ks_X2_run rfl (by decide) (rt_7_13 h_this) rfl (Nat.le_of_ble_eq_true rfl) (by decide) (k_X2_run (rt_7_13 h_this) (rt_7_11 h_this) h) (gk_kv (fun m9 h => ?_))
        refine go_aload_n 0 dX7_hang_76 rfl rfl ?_
        refine go_getR dX7_hang_77 fl_RX7_84 h_this (rr_7_13 h_this) ?_
        refine go_callV (ci := 2) (d' := 0) [] dX7_hang_80 cw_RX7_231 ki_X2_allOver ks_X2_allOver rfl (by decide) (rt_7_13 h_this) rfl (Nat.le_of_ble_eq_true rfl) (by decide) (k_X2_allOver (rt_7_13 h_this) h) (gk_ki (fun r11 m10 h => ?_))
        refine go_iload 4 dX7_hang_83 rfl ?_
        refine go_icmp_le 100 dX7_hang_85 (by decide) (fun c => ?_) (fun c => ?_)
        · replace h := gk_ip h c
          refine gb_iinc (w := 1) 5 (fun v12 => [(5, .int v12), (0, .ref this), (1, .int x1), (2, .int x2), (3, .int x3), (4, .int x4)]) dX7_hang_100 rfl (by decide) (by decide) (fun _ => rfl) (fun v12 e => ?_)
          replace h := h v12 e
          refine go_goto 32 dX7_hang_103 (by decide) ?_
          refine go_lv [1, 2, 3, 4, 5, 0] rfl ?_
          exact ih _ _ _ _ _ _ h
        · replace h := gk_in h c
          refine go_iload 5 dX7_hang_88 rfl ?_
          refine go_istore_n [(3, .int x5), (0, .ref this), (1, .int x1), (2, .int x2), (4, .int x4), (5, .int x5)] dX7_hang_90 rfl (by decide) rfl ?_
          refine go_aload_n 1 dX7_hang_91 rfl rfl ?_
          refine go_getR dX7_hang_92 fl_RX7_84 h_this (rr_7_13 h_this) ?_
          refine go_callV (ci := 2) (d' := 0) [] dX7_hang_95 cw_RX7_231 ki_X2_allOver ks_X2_allOver rfl (by decide) (rt_7_13 h_this) rfl (Nat.le_of_ble_eq_true rfl) (by decide) (k_X2_allOver (rt_7_13 h_this) h) (gk_ki (fun r14 m13 h => ?_))
          refine go_istore [(4, .int r14), (3, .int x5), (0, .ref this), (1, .int x1), (2, .int x2), (5, .int x5)] dX7_hang_98 (by decide) rfl ?_
          refine gb_iinc (w := 1) 5 (fun v15 => [(5, .int v15), (4, .int r14), (3, .int x5), (0, .ref this), (1, .int x1), (2, .int x2)]) dX7_hang_100 rfl (by decide) (by decide) (fun _ => rfl) (fun v15 e => ?_)
          replace h := h v15 e
          refine go_goto 32 dX7_hang_103 (by decide) ?_
          refine go_lv [3, 4, 5, 2, 1, 0] rfl ?_
          exact ih _ _ _ _ _ _ h
      · replace h := gk_in h c
        refine go_goto 100 dX7_hang_49 (by decide) ?_
        refine gb_iinc (w := 1) 5 (fun v16 => [(5, .int v16), (0, .ref this), (1, .int x1), (2, .int x2), (3, .int x3), (4, .int x4)]) dX7_hang_100 rfl (by decide) (by decide) (fun _ => rfl) (fun v16 e => ?_)
        replace h := h v16 e
        refine go_goto 32 dX7_hang_103 (by decide) ?_
        refine go_lv [1, 2, 3, 4, 5, 0] rfl ?_
        exact ih _ _ _ _ _ _ h
def w_X7_hang (this : Nat) (x1 : Int32) (x2 : Int32) (μ : gk_St) (Q : Int32 → gk_St → Prop) : Prop := w_X7_isCar this x1 μ (fun r2 m1 => (if r2 = 0 then Q (-2) m1 else w_X7_within x2 0 1 m1 (fun r4 m3 => (if r4 = 0 then Q (-2) m3 else w_X7_planAsTold this m3 (fun m5 => (∃ n32 : Nat, w_X7_hang_l32 Q (fun y17 y18 y19 m20 => (if y17 = 0 then Q y18 m20 else Q y19 m20)) this n32 x1 x2 (-1) (-1) 0 m5))))))
set_option maxRecDepth 100000 in
set_option maxHeartbeats 4000000 in
theorem k_X7_hang {this : Nat} {x1 : Int32} {x2 : Int32} {μ : gk_St} {Q : Int32 → gk_St → Prop} (h_this : gk_isO this 7) (h : w_X7_hang this x1 x2 μ Q) : gk_CT yX7_hang cX7_hang 6 (some .int) 4 [.ref this, .int x1, .int x2] μ (gk_Qi Q) := by
  unfold w_X7_hang at h
  refine gk_enter (by decide) (Nat.le_of_ble_eq_true rfl) ?_
  show Go RX7 cX7_hang 6 (some .int) 4 0 [(0, .ref this), (1, .int x1), (2, .int x2)] [] μ (gk_Qi Q)
  refine go_aload_n 0 dX7_hang_0 rfl rfl ?_
  refine go_iload_n 1 dX7_hang_1 rfl rfl ?_
  refine go_callV (ci := 7) (d' := 1) [.int x1] dX7_hang_2 cw_RX7_127 ki_X7_isCar ks_X7_isCar rfl (by decide) h_this rfl (Nat.le_of_ble_eq_true rfl) (by decide) (k_X7_isCar h_this h) (gk_ki (fun r2 m1 h => ?_))
  refine go_if_eq 17 dX7_hang_5 (by decide) (fun c => ?_) (fun c => ?_)
  · replace h := gk_ip h c
    refine go_bipush (v := (-2)) dX7_hang_17 (by decide) ?_
    exact go_iret dX7_hang_19 ⟨_, rfl, h⟩
  · replace h := gk_in h c
    refine go_iload_n 2 dX7_hang_8 rfl rfl ?_
    refine go_iconst (v := 0) dX7_hang_9 (by decide) ?_
    refine go_iconst (v := 1) dX7_hang_10 (by decide) ?_
    refine go_callS (d' := 0) [.int x2, .int 0, .int 1] dX7_hang_11 cw_RX7_107 kt_X7_within rfl (Nat.le_of_ble_eq_true rfl) (by decide) (k_X7_within h) (gk_ki (fun r4 m3 h => ?_))
    refine go_if_ne 20 dX7_hang_14 (by decide) (fun c => ?_) (fun c => ?_)
    · replace h := gk_in h c
      refine go_aload_n 0 dX7_hang_20 rfl rfl ?_
      refine go_callV (ci := 7) (d' := 3) [] dX7_hang_21 cw_RX7_217 ki_X7_planAsTold ks_X7_planAsTold rfl (by decide) h_this rfl (Nat.le_of_ble_eq_true rfl) (by decide) (k_X7_planAsTold h_this h) (gk_kv (fun m5 h => ?_))
      refine go_iconst (v := (-1)) dX7_hang_24 (by decide) ?_
      refine go_istore_n [(3, .int (-1)), (0, .ref this), (1, .int x1), (2, .int x2)] dX7_hang_25 rfl (by decide) rfl ?_
      refine go_iconst (v := (-1)) dX7_hang_26 (by decide) ?_
      refine go_istore [(4, .int (-1)), (3, .int (-1)), (0, .ref this), (1, .int x1), (2, .int x2)] dX7_hang_27 (by decide) rfl ?_
      refine go_iconst (v := 0) dX7_hang_29 (by decide) ?_
      refine go_istore [(5, .int 0), (4, .int (-1)), (3, .int (-1)), (0, .ref this), (1, .int x1), (2, .int x2)] dX7_hang_30 (by decide) rfl ?_
      refine go_lv [3, 4, 5, 2, 1, 0] rfl ?_
      obtain ⟨n32, h⟩ := h
      refine k_X7_hang_l32 h_this (fun y17 y18 y19 m20 h => ?_) n32 _ _ _ _ _ _ h
      refine go_iload_n 0 dX7_hang_106 rfl rfl ?_
      refine go_if_ne 114 dX7_hang_107 (by decide) (fun c => ?_) (fun c => ?_)
      · replace h := gk_in h c
        refine go_iload 2 dX7_hang_114 rfl ?_
        exact go_iret dX7_hang_116 ⟨_, rfl, h⟩
      · replace h := gk_ip h c
        refine go_iload_n 1 dX7_hang_110 rfl rfl ?_
        refine go_goto 116 dX7_hang_111 (by decide) ?_
        exact go_iret dX7_hang_116 ⟨_, rfl, h⟩
    · replace h := gk_ip h c
      refine go_bipush (v := (-2)) dX7_hang_17 (by decide) ?_
      exact go_iret dX7_hang_19 ⟨_, rfl, h⟩
def w_X7_pace_l31 (Q : Int32 → gk_St → Prop) (K : Int32 → Int32 → Int32 → gk_St → Prop) (this : Nat) : Nat → Int32 → Int32 → Int32 → Int32 → Int32 → gk_St → Prop
  | 0, _, _, _, _, _, _ => False
  | n + 1, x1, x2, x3, x4, x5, μ => (if 3 < x5 then K x2 x3 x4 μ else (vp_in x1 (gk_ln (gk_rf (gk_rf this 11) 6)) ∧ (∀ m6 : gk_St, m6 = gk_up μ (gk_rf (gk_rf this 11) 6) x1.toNatClampNeg x5 → w_X2_run (gk_rf this 13) (gk_rf this 11) 23 m6 (fun m7 => w_X2_allOver (gk_rf this 13) m7 (fun r9 m8 => (if r9 ≤ x4 then (∀ v10 : Int32, v10 = x5 + 1 → w_X7_pace_l31 Q K this n x1 x2 x3 x4 v10 m8) else w_X2_allOver (gk_rf this 13) m8 (fun r12 m11 => (∀ v13 : Int32, v13 = x5 + 1 → w_X7_pace_l31 Q K this n x1 x2 x5 r12 v13 m11))))))))
set_option maxRecDepth 100000 in
set_option maxHeartbeats 4000000 in
theorem k_X7_pace_l31 {Q : Int32 → gk_St → Prop} {K : Int32 → Int32 → Int32 → gk_St → Prop} {this : Nat} (h_this : gk_isO this 7) (hK : ∀ (e2 : Int32) (e3 : Int32) (e4 : Int32) (em : gk_St), K e2 e3 e4 em → Go RX7 cX7_pace 6 (some .int) 4 91 [(2, .int e2), (3, .int e3), (4, .int e4)] [] em (gk_Qi Q)) : ∀ (n : Nat) (x1 : Int32) (x2 : Int32) (x3 : Int32) (x4 : Int32) (x5 : Int32) (μ : gk_St), w_X7_pace_l31 Q K this n x1 x2 x3 x4 x5 μ → Go RX7 cX7_pace 6 (some .int) 4 31 [(0, .ref this), (1, .int x1), (2, .int x2), (3, .int x3), (4, .int x4), (5, .int x5)] [] μ (gk_Qi Q) := by
  intro n
  induction n with
  | zero =>
    intro x1 x2 x3 x4 x5 μ h
    exact False.elim h
  | succ n ih =>
    intro x1 x2 x3 x4 x5 μ h
    unfold w_X7_pace_l31 at h
    refine go_iload 5 dX7_pace_31 rfl ?_
    refine go_iconst (v := 3) dX7_pace_33 (by decide) ?_
    refine go_icmp_gt 91 dX7_pace_34 (by decide) (fun c => ?_) (fun c => ?_)
    · replace h := gk_ip h c
      refine go_lv [2, 3, 4] rfl ?_
      exact hK _ _ _ _ h
    · replace h := gk_in h c
      refine go_aload_n 0 dX7_pace_37 rfl rfl ?_
      refine go_getR dX7_pace_38 fl_RX7_73 h_this (rr_7_11 h_this) ?_
      refine go_getR dX7_pace_41 fl_RX7_234 (rt_7_11 h_this) (rr_1_6 (rt_7_11 h_this)) ?_
      refine go_iload_n 1 dX7_pace_44 rfl rfl ?_
      refine go_iload 5 dX7_pace_45 rfl ?_
      refine gb_iastore dX7_pace_47 (rt_1_6 (rt_7_11 h_this)) h.1 (fun m6 e => ?_)
      replace h := h.2 m6 e
      refine go_aload_n 0 dX7_pace_48 rfl rfl ?_
      refine go_getR dX7_pace_49 fl_RX7_84 h_this (rr_7_13 h_this) ?_
      refine go_aload_n 0 dX7_pace_52 rfl rfl ?_
      refine go_getR dX7_pace_53 fl_RX7_73 h_this (rr_7_11 h_this) ?_
      refine go_bipush (v := 23) dX7_pace_56 (by decide) ?_
      refine go_callV (ci := 2) (d' := 3) [.ref (gk_rf this 11), .int 23] dX7_pace_58 cw_RX7_227 ki_X2_run ks_X2_run rfl (by decide) (rt_7_13 h_this) rfl (Nat.le_of_ble_eq_true rfl) (by decide) (k_X2_run (rt_7_13 h_this) (rt_7_11 h_this) h) (gk_kv (fun m7 h => ?_))
      refine go_aload_n 0 dX7_pace_61 rfl rfl ?_
      refine go_getR dX7_pace_62 fl_RX7_84 h_this (rr_7_13 h_this) ?_
      refine go_callV (ci := 2) (d' := 0) [] dX7_pace_65 cw_RX7_231 ki_X2_allOver ks_X2_allOver rfl (by decide) (rt_7_13 h_this) rfl (Nat.le_of_ble_eq_true rfl) (by decide) (k_X2_allOver (rt_7_13 h_this) h) (gk_ki (fun r9 m8 h => ?_))
      refine go_iload 4 dX7_pace_68 rfl ?_
      refine go_icmp_le 85 dX7_pace_70 (by decide) (fun c => ?_) (fun c => ?_)
      · replace h := gk_ip h c
        refine gb_iinc (w := 1) 5 (fun v10 => [(5, .int v10), (0, .ref this), (1, .int x1), (2, .int x2), (3, .int x3), (4, .int x4)]) dX7_pace_85 rfl (by decide) (by decide) (fun _ => rfl) (fun v10 e => ?_)
        replace h := h v10 e
        refine go_goto 31 dX7_pace_88 (by decide) ?_
        refine go_lv [1, 2, 3, 4, 5, 0] rfl ?_
        exact ih _ _ _ _ _ _ h
      · replace h := gk_in h c
        refine go_iload 5 dX7_pace_73 rfl ?_
        refine go_istore_n [(3, .int x5), (0, .ref this), (1, .int x1), (2, .int x2), (4, .int x4), (5, .int x5)] dX7_pace_75 rfl (by decide) rfl ?_
        refine go_aload_n 1 dX7_pace_76 rfl rfl ?_
        refine go_getR dX7_pace_77 fl_RX7_84 h_this (rr_7_13 h_this) ?_
        refine go_callV (ci := 2) (d' := 0) [] dX7_pace_80 cw_RX7_231 ki_X2_allOver ks_X2_allOver rfl (by decide) (rt_7_13 h_this) rfl (Nat.le_of_ble_eq_true rfl) (by decide) (k_X2_allOver (rt_7_13 h_this) h) (gk_ki (fun r12 m11 h => ?_))
        refine go_istore [(4, .int r12), (3, .int x5), (0, .ref this), (1, .int x1), (2, .int x2), (5, .int x5)] dX7_pace_83 (by decide) rfl ?_
        refine gb_iinc (w := 1) 5 (fun v13 => [(5, .int v13), (4, .int r12), (3, .int x5), (0, .ref this), (1, .int x1), (2, .int x2)]) dX7_pace_85 rfl (by decide) (by decide) (fun _ => rfl) (fun v13 e => ?_)
        replace h := h v13 e
        refine go_goto 31 dX7_pace_88 (by decide) ?_
        refine go_lv [3, 4, 5, 2, 1, 0] rfl ?_
        exact ih _ _ _ _ _ _ h
def w_X7_pace (this : Nat) (x1 : Int32) (x2 : Int32) (μ : gk_St) (Q : Int32 → gk_St → Prop) : Prop := w_X7_isMoment x1 μ (fun r2 m1 => (if r2 = 0 then Q (-2) m1 else w_X7_within x2 0 1 m1 (fun r4 m3 => (if r4 = 0 then Q (-2) m3 else w_X7_planAsTold this m3 (fun m5 => (∃ n31 : Nat, w_X7_pace_l31 Q (fun y14 y15 y16 m17 => (if y14 = 0 then Q y15 m17 else Q y16 m17)) this n31 x1 x2 (-1) (-1) 0 m5))))))
set_option maxRecDepth 100000 in
set_option maxHeartbeats 4000000 in
theorem k_X7_pace {this : Nat} {x1 : Int32} {x2 : Int32} {μ : gk_St} {Q : Int32 → gk_St → Prop} (h_this : gk_isO this 7) (h : w_X7_pace this x1 x2 μ Q) : gk_CT yX7_pace cX7_pace 6 (some .int) 4 [.ref this, .int x1, .int x2] μ (gk_Qi Q) := by
  unfold w_X7_pace at h
  refine gk_enter (by decide) (Nat.le_of_ble_eq_true rfl) ?_
  show Go RX7 cX7_pace 6 (some .int) 4 0 [(0, .ref this), (1, .int x1), (2, .int x2)] [] μ (gk_Qi Q)
  refine go_iload_n 1 dX7_pace_0 rfl rfl ?_
  refine go_callS (d' := 1) [.int x1] dX7_pace_1 cw_RX7_138 kt_X7_isMoment rfl (Nat.le_of_ble_eq_true rfl) (by decide) (k_X7_isMoment h) (gk_ki (fun r2 m1 h => ?_))
  refine go_if_eq 16 dX7_pace_4 (by decide) (fun c => ?_) (fun c => ?_)
  · replace h := gk_ip h c
    refine go_bipush (v := (-2)) dX7_pace_16 (by decide) ?_
    exact go_iret dX7_pace_18 ⟨_, rfl, h⟩
  · replace h := gk_in h c
    refine go_iload_n 2 dX7_pace_7 rfl rfl ?_
    refine go_iconst (v := 0) dX7_pace_8 (by decide) ?_
    refine go_iconst (v := 1) dX7_pace_9 (by decide) ?_
    refine go_callS (d' := 0) [.int x2, .int 0, .int 1] dX7_pace_10 cw_RX7_107 kt_X7_within rfl (Nat.le_of_ble_eq_true rfl) (by decide) (k_X7_within h) (gk_ki (fun r4 m3 h => ?_))
    refine go_if_ne 19 dX7_pace_13 (by decide) (fun c => ?_) (fun c => ?_)
    · replace h := gk_in h c
      refine go_aload_n 0 dX7_pace_19 rfl rfl ?_
      refine go_callV (ci := 7) (d' := 3) [] dX7_pace_20 cw_RX7_217 ki_X7_planAsTold ks_X7_planAsTold rfl (by decide) h_this rfl (Nat.le_of_ble_eq_true rfl) (by decide) (k_X7_planAsTold h_this h) (gk_kv (fun m5 h => ?_))
      refine go_iconst (v := (-1)) dX7_pace_23 (by decide) ?_
      refine go_istore_n [(3, .int (-1)), (0, .ref this), (1, .int x1), (2, .int x2)] dX7_pace_24 rfl (by decide) rfl ?_
      refine go_iconst (v := (-1)) dX7_pace_25 (by decide) ?_
      refine go_istore [(4, .int (-1)), (3, .int (-1)), (0, .ref this), (1, .int x1), (2, .int x2)] dX7_pace_26 (by decide) rfl ?_
      refine go_iconst (v := 0) dX7_pace_28 (by decide) ?_
      refine go_istore [(5, .int 0), (4, .int (-1)), (3, .int (-1)), (0, .ref this), (1, .int x1), (2, .int x2)] dX7_pace_29 (by decide) rfl ?_
      refine go_lv [3, 4, 5, 2, 1, 0] rfl ?_
      obtain ⟨n31, h⟩ := h
      refine k_X7_pace_l31 h_this (fun y14 y15 y16 m17 h => ?_) n31 _ _ _ _ _ _ h
      refine go_iload_n 0 dX7_pace_91 rfl rfl ?_
      refine go_if_ne 99 dX7_pace_92 (by decide) (fun c => ?_) (fun c => ?_)
      · replace h := gk_in h c
        refine go_iload 2 dX7_pace_99 rfl ?_
        exact go_iret dX7_pace_101 ⟨_, rfl, h⟩
      · replace h := gk_ip h c
        refine go_iload_n 1 dX7_pace_95 rfl rfl ?_
        refine go_goto 101 dX7_pace_96 (by decide) ?_
        exact go_iret dX7_pace_101 ⟨_, rfl, h⟩
    · replace h := gk_ip h c
      refine go_bipush (v := (-2)) dX7_pace_16 (by decide) ?_
      exact go_iret dX7_pace_18 ⟨_, rfl, h⟩
def w_X7_cheap_j82 (Q : Int32 → gk_St → Prop) (K : Int32 → Int32 → Int32 → gk_St → Prop) (C : Int32 → Int32 → Int32 → Int32 → Int32 → gk_St → Prop) (this : Nat) (x1 : Int32) (x2 : Int32) (x5 : Int32) (x6 : Int32) (μ : gk_St) : Prop := (∀ v10 : Int32, v10 = x5 + 1 → C x1 x2 x5 x6 v10 μ)
set_option maxRecDepth 100000 in
set_option maxHeartbeats 4000000 in
theorem k_X7_cheap_j82 {Q : Int32 → gk_St → Prop} {K : Int32 → Int32 → Int32 → gk_St → Prop} {C : Int32 → Int32 → Int32 → Int32 → Int32 → gk_St → Prop} {this : Nat} {x1 : Int32} {x2 : Int32} {x5 : Int32} {x6 : Int32} {μ : gk_St} (h_this : gk_isO this 7) (hK : ∀ (e2 : Int32) (e3 : Int32) (e4 : Int32) (em : gk_St), K e2 e3 e4 em → Go RX7 cX7_cheap 7 (some .int) 4 95 [(2, .int e2), (3, .int e3), (4, .int e4)] [] em (gk_Qi Q)) (hC : ∀ (c1 : Int32) (c2 : Int32) (c3 : Int32) (c4 : Int32) (c5 : Int32) (cm : gk_St), C c1 c2 c3 c4 c5 cm → Go RX7 cX7_cheap 7 (some .int) 4 31 [(0, .ref this), (1, .int c1), (2, .int c2), (3, .int c3), (4, .int c4), (5, .int c5)] [] cm (gk_Qi Q)) (h : w_X7_cheap_j82 Q K C this x1 x2 x5 x6 μ) : Go RX7 cX7_cheap 7 (some .int) 4 82 [(0, .ref this), (1, .int x1), (2, .int x2), (5, .int x5), (6, .int x6)] [] μ (gk_Qi Q) := by
  unfold w_X7_cheap_j82 at h
  refine go_iload 3 dX7_cheap_82 rfl ?_
  refine go_istore_n [(3, .int x5), (0, .ref this), (1, .int x1), (2, .int x2), (5, .int x5), (6, .int x6)] dX7_cheap_84 rfl (by decide) rfl ?_
  refine go_iload 5 dX7_cheap_85 rfl ?_
  refine go_istore [(4, .int x6), (3, .int x5), (0, .ref this), (1, .int x1), (2, .int x2), (5, .int x5), (6, .int x6)] dX7_cheap_87 (by decide) rfl ?_
  refine gb_iinc (w := 1) 5 (fun v10 => [(5, .int v10), (4, .int x6), (3, .int x5), (0, .ref this), (1, .int x1), (2, .int x2), (6, .int x6)]) dX7_cheap_89 rfl (by decide) (by decide) (fun _ => rfl) (fun v10 e => ?_)
  replace h := h v10 e
  refine go_goto 31 dX7_cheap_92 (by decide) ?_
  refine go_lv [3, 4, 5, 2, 1, 0] rfl ?_
  exact hC _ _ _ _ _ _ h
def w_X7_cheap_l31 (Q : Int32 → gk_St → Prop) (K : Int32 → Int32 → Int32 → gk_St → Prop) (this : Nat) : Nat → Int32 → Int32 → Int32 → Int32 → Int32 → gk_St → Prop
  | 0, _, _, _, _, _, _ => False
  | n + 1, x1, x2, x3, x4, x5, μ => (if 3 < x5 then K x2 x3 x4 μ else (vp_in x1 (gk_ln (gk_rf (gk_rf this 11) 6)) ∧ (∀ m6 : gk_St, m6 = gk_up μ (gk_rf (gk_rf this 11) 6) x1.toNatClampNeg x5 → w_X2_run (gk_rf this 13) (gk_rf this 11) 23 m6 (fun m7 => w_X2_allPower (gk_rf this 13) m7 (fun r9 m8 => (if x3 = (-1) then w_X7_cheap_j82 Q K (fun c_x1 c_x2 c_x3 c_x4 c_x5 cm => w_X7_cheap_l31 Q K this n c_x1 c_x2 c_x3 c_x4 c_x5 cm) this x1 x2 x5 r9 m8 else (if x4 ≤ r9 then (∀ v11 : Int32, v11 = x5 + 1 → w_X7_cheap_l31 Q K this n x1 x2 x3 x4 v11 m8) else w_X7_cheap_j82 Q K (fun c_x1 c_x2 c_x3 c_x4 c_x5 cm => w_X7_cheap_l31 Q K this n c_x1 c_x2 c_x3 c_x4 c_x5 cm) this x1 x2 x5 r9 m8)))))))
set_option maxRecDepth 100000 in
set_option maxHeartbeats 4000000 in
theorem k_X7_cheap_l31 {Q : Int32 → gk_St → Prop} {K : Int32 → Int32 → Int32 → gk_St → Prop} {this : Nat} (h_this : gk_isO this 7) (hK : ∀ (e2 : Int32) (e3 : Int32) (e4 : Int32) (em : gk_St), K e2 e3 e4 em → Go RX7 cX7_cheap 7 (some .int) 4 95 [(2, .int e2), (3, .int e3), (4, .int e4)] [] em (gk_Qi Q)) : ∀ (n : Nat) (x1 : Int32) (x2 : Int32) (x3 : Int32) (x4 : Int32) (x5 : Int32) (μ : gk_St), w_X7_cheap_l31 Q K this n x1 x2 x3 x4 x5 μ → Go RX7 cX7_cheap 7 (some .int) 4 31 [(0, .ref this), (1, .int x1), (2, .int x2), (3, .int x3), (4, .int x4), (5, .int x5)] [] μ (gk_Qi Q) := by
  intro n
  induction n with
  | zero =>
    intro x1 x2 x3 x4 x5 μ h
    exact False.elim h
  | succ n ih =>
    intro x1 x2 x3 x4 x5 μ h
    unfold w_X7_cheap_l31 at h
    refine go_iload 5 dX7_cheap_31 rfl ?_
    refine go_iconst (v := 3) dX7_cheap_33 (by decide) ?_
    refine go_icmp_gt 95 dX7_cheap_34 (by decide) (fun c => ?_) (fun c => ?_)
    · replace h := gk_ip h c
      refine go_lv [2, 3, 4] rfl ?_
      exact hK _ _ _ _ h
    · replace h := gk_in h c
      refine go_aload_n 0 dX7_cheap_37 rfl rfl ?_
      refine go_getR dX7_cheap_38 fl_RX7_73 h_this (rr_7_11 h_this) ?_
      refine go_getR dX7_cheap_41 fl_RX7_234 (rt_7_11 h_this) (rr_1_6 (rt_7_11 h_this)) ?_
      refine go_iload_n 1 dX7_cheap_44 rfl rfl ?_
      refine go_iload 5 dX7_cheap_45 rfl ?_
      refine gb_iastore dX7_cheap_47 (rt_1_6 (rt_7_11 h_this)) h.1 (fun m6 e => ?_)
      replace h := h.2 m6 e
      refine go_aload_n 0 dX7_cheap_48 rfl rfl ?_
      refine go_getR dX7_cheap_49 fl_RX7_84 h_this (rr_7_13 h_this) ?_
      refine go_aload_n 0 dX7_cheap_52 rfl rfl ?_
      refine go_getR dX7_cheap_53 fl_RX7_73 h_this (rr_7_11 h_this) ?_
      refine go_bipush (v := 23) dX7_cheap_56 (by decide) ?_
      refine go_callV (ci := 2) (d' := 3) [.ref (gk_rf this 11), .int 23] dX7_cheap_58 cw_RX7_227 ki_X2_run ks_X2_run rfl (by decide) (rt_7_13 h_this) rfl (Nat.le_of_ble_eq_true rfl) (by decide) (k_X2_run (rt_7_13 h_this) (rt_7_11 h_this) h) (gk_kv (fun m7 h => ?_))
      refine go_aload_n 0 dX7_cheap_61 rfl rfl ?_
      refine go_getR dX7_cheap_62 fl_RX7_84 h_this (rr_7_13 h_this) ?_
      refine go_callV (ci := 2) (d' := 0) [] dX7_cheap_65 cw_RX7_197 ki_X2_allPower ks_X2_allPower rfl (by decide) (rt_7_13 h_this) rfl (Nat.le_of_ble_eq_true rfl) (by decide) (k_X2_allPower (rt_7_13 h_this) h) (gk_ki (fun r9 m8 h => ?_))
      refine go_istore [(6, .int r9), (0, .ref this), (1, .int x1), (2, .int x2), (3, .int x3), (4, .int x4), (5, .int x5)] dX7_cheap_68 (by decide) rfl ?_
      refine go_iload_n 4 dX7_cheap_70 rfl rfl ?_
      refine go_iconst (v := (-1)) dX7_cheap_71 (by decide) ?_
      refine go_icmp_eq 82 dX7_cheap_72 (by decide) (fun c => ?_) (fun c => ?_)
      · replace h := gk_ip h c
        refine go_lv [1, 2, 3, 6, 0] rfl ?_
        exact k_X7_cheap_j82 h_this hK (fun _ _ _ _ _ _ h => ih _ _ _ _ _ _ h) h
      · replace h := gk_in h c
        refine go_iload 0 dX7_cheap_75 rfl ?_
        refine go_iload 5 dX7_cheap_77 rfl ?_
        refine go_icmp_ge 89 dX7_cheap_79 (by decide) (fun c => ?_) (fun c => ?_)
        · replace h := gk_ip h c
          refine gb_iinc (w := 1) 6 (fun v11 => [(5, .int v11), (6, .int r9), (0, .ref this), (1, .int x1), (2, .int x2), (3, .int x3), (4, .int x4)]) dX7_cheap_89 rfl (by decide) (by decide) (fun _ => rfl) (fun v11 e => ?_)
          replace h := h v11 e
          refine go_goto 31 dX7_cheap_92 (by decide) ?_
          refine go_lv [2, 3, 4, 5, 6, 0] rfl ?_
          exact ih _ _ _ _ _ _ h
        · replace h := gk_in h c
          refine go_lv [1, 2, 3, 6, 0] rfl ?_
          exact k_X7_cheap_j82 h_this hK (fun _ _ _ _ _ _ h => ih _ _ _ _ _ _ h) h
def w_X7_cheap (this : Nat) (x1 : Int32) (x2 : Int32) (μ : gk_St) (Q : Int32 → gk_St → Prop) : Prop := w_X7_isMoment x1 μ (fun r2 m1 => (if r2 = 0 then Q (-2) m1 else w_X7_within x2 0 1 m1 (fun r4 m3 => (if r4 = 0 then Q (-2) m3 else w_X7_planAsTold this m3 (fun m5 => (∃ n31 : Nat, w_X7_cheap_l31 Q (fun y12 y13 y14 m15 => (if y12 = 0 then Q y13 m15 else Q y14 m15)) this n31 x1 x2 (-1) (-1) 0 m5))))))
set_option maxRecDepth 100000 in
set_option maxHeartbeats 4000000 in
theorem k_X7_cheap {this : Nat} {x1 : Int32} {x2 : Int32} {μ : gk_St} {Q : Int32 → gk_St → Prop} (h_this : gk_isO this 7) (h : w_X7_cheap this x1 x2 μ Q) : gk_CT yX7_cheap cX7_cheap 7 (some .int) 4 [.ref this, .int x1, .int x2] μ (gk_Qi Q) := by
  unfold w_X7_cheap at h
  refine gk_enter (by decide) (Nat.le_of_ble_eq_true rfl) ?_
  show Go RX7 cX7_cheap 7 (some .int) 4 0 [(0, .ref this), (1, .int x1), (2, .int x2)] [] μ (gk_Qi Q)
  refine go_iload_n 1 dX7_cheap_0 rfl rfl ?_
  refine go_callS (d' := 1) [.int x1] dX7_cheap_1 cw_RX7_138 kt_X7_isMoment rfl (Nat.le_of_ble_eq_true rfl) (by decide) (k_X7_isMoment h) (gk_ki (fun r2 m1 h => ?_))
  refine go_if_eq 16 dX7_cheap_4 (by decide) (fun c => ?_) (fun c => ?_)
  · replace h := gk_ip h c
    refine go_bipush (v := (-2)) dX7_cheap_16 (by decide) ?_
    exact go_iret dX7_cheap_18 ⟨_, rfl, h⟩
  · replace h := gk_in h c
    refine go_iload_n 2 dX7_cheap_7 rfl rfl ?_
    refine go_iconst (v := 0) dX7_cheap_8 (by decide) ?_
    refine go_iconst (v := 1) dX7_cheap_9 (by decide) ?_
    refine go_callS (d' := 0) [.int x2, .int 0, .int 1] dX7_cheap_10 cw_RX7_107 kt_X7_within rfl (Nat.le_of_ble_eq_true rfl) (by decide) (k_X7_within h) (gk_ki (fun r4 m3 h => ?_))
    refine go_if_ne 19 dX7_cheap_13 (by decide) (fun c => ?_) (fun c => ?_)
    · replace h := gk_in h c
      refine go_aload_n 0 dX7_cheap_19 rfl rfl ?_
      refine go_callV (ci := 7) (d' := 3) [] dX7_cheap_20 cw_RX7_217 ki_X7_planAsTold ks_X7_planAsTold rfl (by decide) h_this rfl (Nat.le_of_ble_eq_true rfl) (by decide) (k_X7_planAsTold h_this h) (gk_kv (fun m5 h => ?_))
      refine go_iconst (v := (-1)) dX7_cheap_23 (by decide) ?_
      refine go_istore_n [(3, .int (-1)), (0, .ref this), (1, .int x1), (2, .int x2)] dX7_cheap_24 rfl (by decide) rfl ?_
      refine go_iconst (v := (-1)) dX7_cheap_25 (by decide) ?_
      refine go_istore [(4, .int (-1)), (3, .int (-1)), (0, .ref this), (1, .int x1), (2, .int x2)] dX7_cheap_26 (by decide) rfl ?_
      refine go_iconst (v := 0) dX7_cheap_28 (by decide) ?_
      refine go_istore [(5, .int 0), (4, .int (-1)), (3, .int (-1)), (0, .ref this), (1, .int x1), (2, .int x2)] dX7_cheap_29 (by decide) rfl ?_
      refine go_lv [3, 4, 5, 2, 1, 0] rfl ?_
      obtain ⟨n31, h⟩ := h
      refine k_X7_cheap_l31 h_this (fun y12 y13 y14 m15 h => ?_) n31 _ _ _ _ _ _ h
      refine go_iload_n 0 dX7_cheap_95 rfl rfl ?_
      refine go_if_ne 103 dX7_cheap_96 (by decide) (fun c => ?_) (fun c => ?_)
      · replace h := gk_in h c
        refine go_iload 2 dX7_cheap_103 rfl ?_
        exact go_iret dX7_cheap_105 ⟨_, rfl, h⟩
      · replace h := gk_ip h c
        refine go_iload_n 1 dX7_cheap_99 rfl rfl ?_
        refine go_goto 105 dX7_cheap_100 (by decide) ?_
        exact go_iret dX7_cheap_105 ⟨_, rfl, h⟩
    · replace h := gk_ip h c
      refine go_bipush (v := (-2)) dX7_cheap_16 (by decide) ?_
      exact go_iret dX7_cheap_18 ⟨_, rfl, h⟩
def w_X7_nobodyLeftWithout (this : Nat) (x1 : Int32) (μ : gk_St) (Q : Int32 → gk_St → Prop) : Prop := w_X1_takeEvents (gk_rf this 11) (gk_rf this 5) ((255 : Int32) &&& (x1 ^^^ (-1))) μ (fun m1 => w_X2_run (gk_rf this 13) (gk_rf this 11) 23 m1 (fun m2 => w_X7_leftBehind this (gk_rf this 13) m2 (fun r4 m3 => (if r4 = 0 then Q 1 m3 else Q 0 m3))))
set_option maxRecDepth 100000 in
set_option maxHeartbeats 4000000 in
theorem k_X7_nobodyLeftWithout {this : Nat} {x1 : Int32} {μ : gk_St} {Q : Int32 → gk_St → Prop} (h_this : gk_isO this 7) (h : w_X7_nobodyLeftWithout this x1 μ Q) : gk_CT yX7_nobodyLeftWithout cX7_nobodyLeftWithout 2 (some .boolean) 4 [.ref this, .int x1] μ (gk_Qi Q) := by
  unfold w_X7_nobodyLeftWithout at h
  refine gk_enter (by decide) (Nat.le_of_ble_eq_true rfl) ?_
  show Go RX7 cX7_nobodyLeftWithout 2 (some .boolean) 4 0 [(0, .ref this), (1, .int x1)] [] μ (gk_Qi Q)
  refine go_aload_n 0 dX7_nobodyLeftWithout_0 rfl rfl ?_
  refine go_getR dX7_nobodyLeftWithout_1 fl_RX7_73 h_this (rr_7_11 h_this) ?_
  refine go_aload_n 0 dX7_nobodyLeftWithout_4 rfl rfl ?_
  refine go_getR dX7_nobodyLeftWithout_5 fl_RX7_43 h_this (rr_7_5 h_this) ?_
  refine go_sipush (v := 255) dX7_nobodyLeftWithout_8 (by decide) ?_
  refine go_iload_n 1 dX7_nobodyLeftWithout_11 rfl rfl ?_
  refine go_iconst (v := (-1)) dX7_nobodyLeftWithout_12 (by decide) ?_
  refine go_ixor dX7_nobodyLeftWithout_13 ?_
  refine go_iand dX7_nobodyLeftWithout_14 ?_
  refine go_callV (ci := 1) (d' := 2) [.ref (gk_rf this 5), .int ((255 : Int32) &&& (x1 ^^^ (-1)))] dX7_nobodyLeftWithout_15 cw_RX7_251 ki_X1_takeEvents ks_X1_takeEvents rfl (by decide) (rt_7_11 h_this) rfl (Nat.le_of_ble_eq_true rfl) (by decide) (k_X1_takeEvents (rt_7_11 h_this) (rt_7_5 h_this) h) (gk_kv (fun m1 h => ?_))
  refine go_aload_n 0 dX7_nobodyLeftWithout_18 rfl rfl ?_
  refine go_getR dX7_nobodyLeftWithout_19 fl_RX7_84 h_this (rr_7_13 h_this) ?_
  refine go_aload_n 0 dX7_nobodyLeftWithout_22 rfl rfl ?_
  refine go_getR dX7_nobodyLeftWithout_23 fl_RX7_73 h_this (rr_7_11 h_this) ?_
  refine go_bipush (v := 23) dX7_nobodyLeftWithout_26 (by decide) ?_
  refine go_callV (ci := 2) (d' := 3) [.ref (gk_rf this 11), .int 23] dX7_nobodyLeftWithout_28 cw_RX7_227 ki_X2_run ks_X2_run rfl (by decide) (rt_7_13 h_this) rfl (Nat.le_of_ble_eq_true rfl) (by decide) (k_X2_run (rt_7_13 h_this) (rt_7_11 h_this) h) (gk_kv (fun m2 h => ?_))
  refine go_aload_n 0 dX7_nobodyLeftWithout_31 rfl rfl ?_
  refine go_aload_n 0 dX7_nobodyLeftWithout_32 rfl rfl ?_
  refine go_getR dX7_nobodyLeftWithout_33 fl_RX7_84 h_this (rr_7_13 h_this) ?_
  refine go_callV (ci := 7) (d' := 1) [.ref (gk_rf this 13)] dX7_nobodyLeftWithout_36 cw_RX7_213 ki_X7_leftBehind ks_X7_leftBehind rfl (by decide) h_this rfl (Nat.le_of_ble_eq_true rfl) (by decide) (k_X7_leftBehind h_this (rt_7_13 h_this) h) (gk_ki (fun r4 m3 h => ?_))
  refine go_if_ne 46 dX7_nobodyLeftWithout_39 (by decide) (fun c => ?_) (fun c => ?_)
  · replace h := gk_in h c
    refine go_iconst (v := 0) dX7_nobodyLeftWithout_46 (by decide) ?_
    exact go_zret dX7_nobodyLeftWithout_47 (Or.inl rfl) ⟨_, rfl, h⟩
  · replace h := gk_ip h c
    refine go_iconst (v := 1) dX7_nobodyLeftWithout_42 (by decide) ?_
    refine go_goto 47 dX7_nobodyLeftWithout_43 (by decide) ?_
    exact go_zret dX7_nobodyLeftWithout_47 (Or.inr rfl) ⟨_, rfl, h⟩
def w_X7_leastSpared_l16 (Q : Int32 → gk_St → Prop) (K : gk_St → Prop) (this : Nat) : Nat → Int32 → gk_St → Prop
  | 0, _, _ => False
  | n + 1, x1, μ => (if (μ (gk_rf this 5) 3) ≤ x1 then K  μ else w_X7_nobodyLeftWithout this ((1 : Int32) <<< (x1 &&& 31)) μ (fun r5 m4 => (if r5 = 0 then (∀ v6 : Int32, v6 = x1 + 1 → w_X7_leastSpared_l16 Q K this n v6 m4) else Q ((1 : Int32) <<< (x1 &&& 31)) m4)))
set_option maxRecDepth 100000 in
set_option maxHeartbeats 4000000 in
theorem k_X7_leastSpared_l16 {Q : Int32 → gk_St → Prop} {K : gk_St → Prop} {this : Nat} (h_this : gk_isO this 7) (hK : ∀ (em : gk_St), K  em → Go RX7 cX7_leastSpared 3 (some .int) 5 47 [(0, .ref this)] [] em (gk_Qi Q)) : ∀ (n : Nat) (x1 : Int32) (μ : gk_St), w_X7_leastSpared_l16 Q K this n x1 μ → Go RX7 cX7_leastSpared 3 (some .int) 5 16 [(0, .ref this), (1, .int x1)] [] μ (gk_Qi Q) := by
  intro n
  induction n with
  | zero =>
    intro x1 μ h
    exact False.elim h
  | succ n ih =>
    intro x1 μ h
    unfold w_X7_leastSpared_l16 at h
    refine go_iload_n 1 dX7_leastSpared_16 rfl rfl ?_
    refine go_aload_n 0 dX7_leastSpared_17 rfl rfl ?_
    refine go_getR dX7_leastSpared_18 fl_RX7_43 h_this (rr_7_5 h_this) ?_
    refine go_getI dX7_leastSpared_21 fl_RX7_152 (rt_7_5 h_this) (nf_0_3 (rt_7_5 h_this)) ?_
    refine go_icmp_ge 47 dX7_leastSpared_24 (by decide) (fun c => ?_) (fun c => ?_)
    · replace h := gk_ip h c
      refine go_lv [0] rfl ?_
      exact hK  _ h
    · replace h := gk_in h c
      refine go_aload_n 0 dX7_leastSpared_27 rfl rfl ?_
      refine go_iconst (v := 1) dX7_leastSpared_28 (by decide) ?_
      refine go_iload_n 1 dX7_leastSpared_29 rfl rfl ?_
      refine go_ishl dX7_leastSpared_30 ?_
      refine go_callV (ci := 7) (d' := 4) [.int ((1 : Int32) <<< (x1 &&& 31))] dX7_leastSpared_31 cw_RX7_416 ki_X7_nobodyLeftWithout ks_X7_nobodyLeftWithout rfl (by decide) h_this rfl (Nat.le_of_ble_eq_true rfl) (by decide) (k_X7_nobodyLeftWithout h_this h) (gk_ki (fun r5 m4 h => ?_))
      refine go_if_eq 41 dX7_leastSpared_34 (by decide) (fun c => ?_) (fun c => ?_)
      · replace h := gk_ip h c
        refine gb_iinc (w := 1) 1 (fun v6 => [(1, .int v6), (0, .ref this)]) dX7_leastSpared_41 rfl (by decide) (by decide) (fun _ => rfl) (fun v6 e => ?_)
        replace h := h v6 e
        refine go_goto 16 dX7_leastSpared_44 (by decide) ?_
        refine go_lv [1, 0] rfl ?_
        exact ih _ _ h
      · replace h := gk_in h c
        refine go_iconst (v := 1) dX7_leastSpared_37 (by decide) ?_
        refine go_iload_n 1 dX7_leastSpared_38 rfl rfl ?_
        refine go_ishl dX7_leastSpared_39 ?_
        exact go_iret dX7_leastSpared_40 ⟨_, rfl, h⟩
def w_X7_leastSpared_l64 (Q : Int32 → gk_St → Prop) (K : Int32 → gk_St → Prop) (this : Nat) : Nat → Int32 → Int32 → gk_St → Prop
  | 0, _, _, _ => False
  | n + 1, x1, x2, μ => (if (μ (gk_rf this 5) 3) ≤ x2 then K x1 μ else w_X7_nobodyLeftWithout this (((1 : Int32) <<< (x1 &&& 31)) ||| ((1 : Int32) <<< (x2 &&& 31))) μ (fun r10 m9 => (if r10 = 0 then (∀ v11 : Int32, v11 = x2 + 1 → w_X7_leastSpared_l64 Q K this n x1 v11 m9) else Q (((1 : Int32) <<< (x1 &&& 31)) ||| ((1 : Int32) <<< (x2 &&& 31))) m9)))
set_option maxRecDepth 100000 in
set_option maxHeartbeats 4000000 in
theorem k_X7_leastSpared_l64 {Q : Int32 → gk_St → Prop} {K : Int32 → gk_St → Prop} {this : Nat} (h_this : gk_isO this 7) (hK : ∀ (e1 : Int32) (em : gk_St), K e1 em → Go RX7 cX7_leastSpared 3 (some .int) 5 103 [(0, .ref this), (1, .int e1)] [] em (gk_Qi Q)) : ∀ (n : Nat) (x1 : Int32) (x2 : Int32) (μ : gk_St), w_X7_leastSpared_l64 Q K this n x1 x2 μ → Go RX7 cX7_leastSpared 3 (some .int) 5 64 [(0, .ref this), (1, .int x1), (2, .int x2)] [] μ (gk_Qi Q) := by
  intro n
  induction n with
  | zero =>
    intro x1 x2 μ h
    exact False.elim h
  | succ n ih =>
    intro x1 x2 μ h
    unfold w_X7_leastSpared_l64 at h
    refine go_iload_n 2 dX7_leastSpared_64 rfl rfl ?_
    refine go_aload_n 0 dX7_leastSpared_65 rfl rfl ?_
    refine go_getR dX7_leastSpared_66 fl_RX7_43 h_this (rr_7_5 h_this) ?_
    refine go_getI dX7_leastSpared_69 fl_RX7_152 (rt_7_5 h_this) (nf_0_3 (rt_7_5 h_this)) ?_
    refine go_icmp_ge 103 dX7_leastSpared_72 (by decide) (fun c => ?_) (fun c => ?_)
    · replace h := gk_ip h c
      refine go_lv [0, 1] rfl ?_
      exact hK _ _ h
    · replace h := gk_in h c
      refine go_aload_n 0 dX7_leastSpared_75 rfl rfl ?_
      refine go_iconst (v := 1) dX7_leastSpared_76 (by decide) ?_
      refine go_iload_n 1 dX7_leastSpared_77 rfl rfl ?_
      refine go_ishl dX7_leastSpared_78 ?_
      refine go_iconst (v := 1) dX7_leastSpared_79 (by decide) ?_
      refine go_iload_n 2 dX7_leastSpared_80 rfl rfl ?_
      refine go_ishl dX7_leastSpared_81 ?_
      refine go_ior dX7_leastSpared_82 ?_
      refine go_callV (ci := 7) (d' := 4) [.int (((1 : Int32) <<< (x1 &&& 31)) ||| ((1 : Int32) <<< (x2 &&& 31)))] dX7_leastSpared_83 cw_RX7_416 ki_X7_nobodyLeftWithout ks_X7_nobodyLeftWithout rfl (by decide) h_this rfl (Nat.le_of_ble_eq_true rfl) (by decide) (k_X7_nobodyLeftWithout h_this h) (gk_ki (fun r10 m9 h => ?_))
      refine go_if_eq 97 dX7_leastSpared_86 (by decide) (fun c => ?_) (fun c => ?_)
      · replace h := gk_ip h c
        refine gb_iinc (w := 1) 2 (fun v11 => [(2, .int v11), (0, .ref this), (1, .int x1)]) dX7_leastSpared_97 rfl (by decide) (by decide) (fun _ => rfl) (fun v11 e => ?_)
        replace h := h v11 e
        refine go_goto 64 dX7_leastSpared_100 (by decide) ?_
        refine go_lv [1, 2, 0] rfl ?_
        exact ih _ _ _ h
      · replace h := gk_in h c
        refine go_iconst (v := 1) dX7_leastSpared_89 (by decide) ?_
        refine go_iload_n 1 dX7_leastSpared_90 rfl rfl ?_
        refine go_ishl dX7_leastSpared_91 ?_
        refine go_iconst (v := 1) dX7_leastSpared_92 (by decide) ?_
        refine go_iload_n 2 dX7_leastSpared_93 rfl rfl ?_
        refine go_ishl dX7_leastSpared_94 ?_
        refine go_ior dX7_leastSpared_95 ?_
        exact go_iret dX7_leastSpared_96 ⟨_, rfl, h⟩
def w_X7_leastSpared_l49 (Q : Int32 → gk_St → Prop) (K : gk_St → Prop) (this : Nat) : Nat → Int32 → gk_St → Prop
  | 0, _, _ => False
  | n + 1, x1, μ => (if (μ (gk_rf this 5) 3) ≤ x1 then K  μ else (∀ v8 : Int32, v8 = (x1 + 1) → (∃ n64 : Nat, w_X7_leastSpared_l64 Q (fun y12 m13 => (∀ v14 : Int32, v14 = y12 + 1 → w_X7_leastSpared_l49 Q K this n v14 m13)) this n64 x1 v8 μ)))
set_option maxRecDepth 100000 in
set_option maxHeartbeats 4000000 in
theorem k_X7_leastSpared_l49 {Q : Int32 → gk_St → Prop} {K : gk_St → Prop} {this : Nat} (h_this : gk_isO this 7) (hK : ∀ (em : gk_St), K  em → Go RX7 cX7_leastSpared 3 (some .int) 5 109 [] [] em (gk_Qi Q)) : ∀ (n : Nat) (x1 : Int32) (μ : gk_St), w_X7_leastSpared_l49 Q K this n x1 μ → Go RX7 cX7_leastSpared 3 (some .int) 5 49 [(0, .ref this), (1, .int x1)] [] μ (gk_Qi Q) := by
  intro n
  induction n with
  | zero =>
    intro x1 μ h
    exact False.elim h
  | succ n ih =>
    intro x1 μ h
    unfold w_X7_leastSpared_l49 at h
    refine go_iload_n 1 dX7_leastSpared_49 rfl rfl ?_
    refine go_aload_n 0 dX7_leastSpared_50 rfl rfl ?_
    refine go_getR dX7_leastSpared_51 fl_RX7_43 h_this (rr_7_5 h_this) ?_
    refine go_getI dX7_leastSpared_54 fl_RX7_152 (rt_7_5 h_this) (nf_0_3 (rt_7_5 h_this)) ?_
    refine go_icmp_ge 109 dX7_leastSpared_57 (by decide) (fun c => ?_) (fun c => ?_)
    · replace h := gk_ip h c
      refine go_lv [] rfl ?_
      exact hK  _ h
    · replace h := gk_in h c
      refine go_iload_n 1 dX7_leastSpared_60 rfl rfl ?_
      refine go_iconst (v := 1) dX7_leastSpared_61 (by decide) ?_
      refine go_iadd dX7_leastSpared_62 ?_
      refine gb_istore_n (fun v8 => [(2, .int v8), (0, .ref this), (1, .int x1)]) dX7_leastSpared_63 rfl (by decide) (fun _ => rfl) (fun v8 e => ?_)
      replace h := h v8 e
      refine go_lv [1, 2, 0] rfl ?_
      obtain ⟨n64, h⟩ := h
      refine k_X7_leastSpared_l64 h_this (fun y12 m13 h => ?_) n64 _ _ _ h
      refine gb_iinc (w := 1) 1 (fun v14 => [(1, .int v14), (0, .ref this)]) dX7_leastSpared_103 rfl (by decide) (by decide) (fun _ => rfl) (fun v14 e => ?_)
      replace h := h v14 e
      refine go_goto 49 dX7_leastSpared_106 (by decide) ?_
      refine go_lv [1, 0] rfl ?_
      exact ih _ _ h
def w_X7_leastSpared (this : Nat) (μ : gk_St) (Q : Int32 → gk_St → Prop) : Prop := w_X7_planAsTold this μ (fun m1 => w_X7_nobodyLeftWithout this 0 m1 (fun r3 m2 => (if r3 = 0 then (∃ n16 : Nat, w_X7_leastSpared_l16 Q (fun m7 => (∃ n49 : Nat, w_X7_leastSpared_l49 Q (fun m15 => Q (-1) m15) this n49 0 m7)) this n16 0 m2) else Q 0 m2)))
set_option maxRecDepth 100000 in
set_option maxHeartbeats 4000000 in
theorem k_X7_leastSpared {this : Nat} {μ : gk_St} {Q : Int32 → gk_St → Prop} (h_this : gk_isO this 7) (h : w_X7_leastSpared this μ Q) : gk_CT yX7_leastSpared cX7_leastSpared 3 (some .int) 5 [.ref this] μ (gk_Qi Q) := by
  unfold w_X7_leastSpared at h
  refine gk_enter (by decide) (Nat.le_of_ble_eq_true rfl) ?_
  show Go RX7 cX7_leastSpared 3 (some .int) 5 0 [(0, .ref this)] [] μ (gk_Qi Q)
  refine go_aload_n 0 dX7_leastSpared_0 rfl rfl ?_
  refine go_callV (ci := 7) (d' := 3) [] dX7_leastSpared_1 cw_RX7_217 ki_X7_planAsTold ks_X7_planAsTold rfl (by decide) h_this rfl (Nat.le_of_ble_eq_true rfl) (by decide) (k_X7_planAsTold h_this h) (gk_kv (fun m1 h => ?_))
  refine go_aload_n 0 dX7_leastSpared_4 rfl rfl ?_
  refine go_iconst (v := 0) dX7_leastSpared_5 (by decide) ?_
  refine go_callV (ci := 7) (d' := 4) [.int 0] dX7_leastSpared_6 cw_RX7_416 ki_X7_nobodyLeftWithout ks_X7_nobodyLeftWithout rfl (by decide) h_this rfl (Nat.le_of_ble_eq_true rfl) (by decide) (k_X7_nobodyLeftWithout h_this h) (gk_ki (fun r3 m2 h => ?_))
  refine go_if_eq 14 dX7_leastSpared_9 (by decide) (fun c => ?_) (fun c => ?_)
  · replace h := gk_ip h c
    refine go_iconst (v := 0) dX7_leastSpared_14 (by decide) ?_
    refine go_istore_n [(1, .int 0), (0, .ref this)] dX7_leastSpared_15 rfl (by decide) rfl ?_
    refine go_lv [1, 0] rfl ?_
    obtain ⟨n16, h⟩ := h
    refine k_X7_leastSpared_l16 h_this (fun m7 h => ?_) n16 _ _ h
    refine go_iconst (v := 0) dX7_leastSpared_47 (by decide) ?_
    refine go_istore_n [(1, .int 0), (0, .ref this)] dX7_leastSpared_48 rfl (by decide) rfl ?_
    refine go_lv [1, 0] rfl ?_
    obtain ⟨n49, h⟩ := h
    refine k_X7_leastSpared_l49 h_this (fun m15 h => ?_) n49 _ _ h
    refine go_iconst (v := (-1)) dX7_leastSpared_109 (by decide) ?_
    exact go_iret dX7_leastSpared_110 ⟨_, rfl, h⟩
  · replace h := gk_in h c
    refine go_iconst (v := 0) dX7_leastSpared_12 (by decide) ?_
    exact go_iret dX7_leastSpared_13 ⟨_, rfl, h⟩
def w_J6_bitCount_0f7a4 (x0 : Int32) (μ : gk_St) (Q : Int32 → gk_St → Prop) : Prop := (∀ v1 : Int32, v1 = (x0 - ((gk_us x0 1) &&& 1431655765)) → (∀ v2 : Int32, v2 = ((v1 &&& 858993459) + ((gk_us v1 2) &&& 858993459)) → (∀ v3 : Int32, v3 = ((v2 + (gk_us v2 4)) &&& 252645135) → (∀ v4 : Int32, v4 = (v3 + (gk_us v3 8)) → (∀ v5 : Int32, v5 = (v4 + (gk_us v4 16)) → Q (v5 &&& 63) μ)))))
set_option maxRecDepth 100000 in
set_option maxHeartbeats 4000000 in
theorem k_J6_bitCount_0f7a4 {x0 : Int32} {μ : gk_St} {Q : Int32 → gk_St → Prop} (h : w_J6_bitCount_0f7a4 x0 μ Q) : gk_CT yJ6_bitCount_0f7a4 cJ6_bitCount_0f7a4 1 (some .int) 0 [.int x0] μ (gk_Qi Q) := by
  unfold w_J6_bitCount_0f7a4 at h
  refine gk_enter (by decide) (Nat.le_of_ble_eq_true rfl) ?_
  show Go RJ6 cJ6_bitCount_0f7a4 1 (some .int) 0 0 [(0, .int x0)] [] μ (gk_Qi Q)
  refine go_iload_n 0 dJ6_bitCount_0f7a4_0 rfl rfl ?_
  refine go_iload_n 0 dJ6_bitCount_0f7a4_1 rfl rfl ?_
  refine go_iconst (v := 1) dJ6_bitCount_0f7a4_2 (by decide) ?_
  refine gb_iushr dJ6_bitCount_0f7a4_3 ?_
  refine go_ldc_w dJ6_bitCount_0f7a4_4 ct_RJ6_265 ?_
  refine go_iand dJ6_bitCount_0f7a4_7 ?_
  refine go_isub dJ6_bitCount_0f7a4_8 ?_
  refine gb_istore_n (fun v1 => [(0, .int v1)]) dJ6_bitCount_0f7a4_9 rfl (by decide) (fun _ => rfl) (fun v1 e => ?_)
  replace h := h v1 e
  refine go_iload_n 0 dJ6_bitCount_0f7a4_10 rfl rfl ?_
  refine go_ldc_w dJ6_bitCount_0f7a4_11 ct_RJ6_266 ?_
  refine go_iand dJ6_bitCount_0f7a4_14 ?_
  refine go_iload_n 0 dJ6_bitCount_0f7a4_15 rfl rfl ?_
  refine go_iconst (v := 2) dJ6_bitCount_0f7a4_16 (by decide) ?_
  refine gb_iushr dJ6_bitCount_0f7a4_17 ?_
  refine go_ldc_w dJ6_bitCount_0f7a4_18 ct_RJ6_266 ?_
  refine go_iand dJ6_bitCount_0f7a4_21 ?_
  refine go_iadd dJ6_bitCount_0f7a4_22 ?_
  refine gb_istore_n (fun v2 => [(0, .int v2)]) dJ6_bitCount_0f7a4_23 rfl (by decide) (fun _ => rfl) (fun v2 e => ?_)
  replace h := h v2 e
  refine go_iload_n 0 dJ6_bitCount_0f7a4_24 rfl rfl ?_
  refine go_iload_n 0 dJ6_bitCount_0f7a4_25 rfl rfl ?_
  refine go_iconst (v := 4) dJ6_bitCount_0f7a4_26 (by decide) ?_
  refine gb_iushr dJ6_bitCount_0f7a4_27 ?_
  refine go_iadd dJ6_bitCount_0f7a4_28 ?_
  refine go_ldc_w dJ6_bitCount_0f7a4_29 ct_RJ6_267 ?_
  refine go_iand dJ6_bitCount_0f7a4_32 ?_
  refine gb_istore_n (fun v3 => [(0, .int v3)]) dJ6_bitCount_0f7a4_33 rfl (by decide) (fun _ => rfl) (fun v3 e => ?_)
  replace h := h v3 e
  refine go_iload_n 0 dJ6_bitCount_0f7a4_34 rfl rfl ?_
  refine go_iload_n 0 dJ6_bitCount_0f7a4_35 rfl rfl ?_
  refine go_bipush (v := 8) dJ6_bitCount_0f7a4_36 (by decide) ?_
  refine gb_iushr dJ6_bitCount_0f7a4_38 ?_
  refine go_iadd dJ6_bitCount_0f7a4_39 ?_
  refine gb_istore_n (fun v4 => [(0, .int v4)]) dJ6_bitCount_0f7a4_40 rfl (by decide) (fun _ => rfl) (fun v4 e => ?_)
  replace h := h v4 e
  refine go_iload_n 0 dJ6_bitCount_0f7a4_41 rfl rfl ?_
  refine go_iload_n 0 dJ6_bitCount_0f7a4_42 rfl rfl ?_
  refine go_bipush (v := 16) dJ6_bitCount_0f7a4_43 (by decide) ?_
  refine gb_iushr dJ6_bitCount_0f7a4_45 ?_
  refine go_iadd dJ6_bitCount_0f7a4_46 ?_
  refine gb_istore_n (fun v5 => [(0, .int v5)]) dJ6_bitCount_0f7a4_47 rfl (by decide) (fun _ => rfl) (fun v5 e => ?_)
  replace h := h v5 e
  refine go_iload_n 0 dJ6_bitCount_0f7a4_48 rfl rfl ?_
  refine go_bipush (v := 63) dJ6_bitCount_0f7a4_49 (by decide) ?_
  refine go_iand dJ6_bitCount_0f7a4_51 ?_
  exact go_iret dJ6_bitCount_0f7a4_52 ⟨_, rfl, h⟩
def w_X7_numberOfBit_l4 (Q : Int32 → gk_St → Prop) (K : gk_St → Prop) : Nat → Int32 → Int32 → Int32 → Int32 → gk_St → Prop
  | 0, _, _, _, _, _ => False
  | n + 1, x0, x1, x2, x3, μ => (if 8 ≤ x3 then K  μ else (if ((x0 >>> (x3 &&& 31)) &&& 1) = 1 then (if x2 = x1 then Q x3 μ else (∀ v2 : Int32, v2 = x2 + 1 → (∀ v3 : Int32, v3 = x3 + 1 → w_X7_numberOfBit_l4 Q K n x0 x1 v2 v3 μ))) else (∀ v1 : Int32, v1 = x3 + 1 → w_X7_numberOfBit_l4 Q K n x0 x1 x2 v1 μ)))
set_option maxRecDepth 100000 in
set_option maxHeartbeats 4000000 in
theorem k_X7_numberOfBit_l4 {Q : Int32 → gk_St → Prop} {K : gk_St → Prop} (hK : ∀ (em : gk_St), K  em → Go RX7 cX7_numberOfBit 4 (some .int) 0 35 [] [] em (gk_Qi Q)) : ∀ (n : Nat) (x0 : Int32) (x1 : Int32) (x2 : Int32) (x3 : Int32) (μ : gk_St), w_X7_numberOfBit_l4 Q K n x0 x1 x2 x3 μ → Go RX7 cX7_numberOfBit 4 (some .int) 0 4 [(0, .int x0), (1, .int x1), (2, .int x2), (3, .int x3)] [] μ (gk_Qi Q) := by
  intro n
  induction n with
  | zero =>
    intro x0 x1 x2 x3 μ h
    exact False.elim h
  | succ n ih =>
    intro x0 x1 x2 x3 μ h
    unfold w_X7_numberOfBit_l4 at h
    refine go_iload_n 3 dX7_numberOfBit_4 rfl rfl ?_
    refine go_bipush (v := 8) dX7_numberOfBit_5 (by decide) ?_
    refine go_icmp_ge 35 dX7_numberOfBit_7 (by decide) (fun c => ?_) (fun c => ?_)
    · replace h := gk_ip h c
      refine go_lv [] rfl ?_
      exact hK  _ h
    · replace h := gk_in h c
      refine go_iload_n 0 dX7_numberOfBit_10 rfl rfl ?_
      refine go_iload_n 3 dX7_numberOfBit_11 rfl rfl ?_
      refine go_ishr dX7_numberOfBit_12 ?_
      refine go_iconst (v := 1) dX7_numberOfBit_13 (by decide) ?_
      refine go_iand dX7_numberOfBit_14 ?_
      refine go_iconst (v := 1) dX7_numberOfBit_15 (by decide) ?_
      refine go_icmp_ne 29 dX7_numberOfBit_16 (by decide) (fun c => ?_) (fun c => ?_)
      · replace h := gk_in h c
        refine gb_iinc (w := 1) 3 (fun v1 => [(3, .int v1), (0, .int x0), (1, .int x1), (2, .int x2)]) dX7_numberOfBit_29 rfl (by decide) (by decide) (fun _ => rfl) (fun v1 e => ?_)
        replace h := h v1 e
        refine go_goto 4 dX7_numberOfBit_32 (by decide) ?_
        refine go_lv [1, 2, 3, 0] rfl ?_
        exact ih _ _ _ _ _ h
      · replace h := gk_ip h c
        refine go_iload_n 2 dX7_numberOfBit_19 rfl rfl ?_
        refine go_iload_n 1 dX7_numberOfBit_20 rfl rfl ?_
        refine go_icmp_ne 26 dX7_numberOfBit_21 (by decide) (fun c => ?_) (fun c => ?_)
        · replace h := gk_in h c
          refine gb_iinc (w := 1) 2 (fun v2 => [(2, .int v2), (0, .int x0), (1, .int x1), (3, .int x3)]) dX7_numberOfBit_26 rfl (by decide) (by decide) (fun _ => rfl) (fun v2 e => ?_)
          replace h := h v2 e
          refine gb_iinc (w := 1) 3 (fun v3 => [(3, .int v3), (2, .int v2), (0, .int x0), (1, .int x1)]) dX7_numberOfBit_29 rfl (by decide) (by decide) (fun _ => rfl) (fun v3 e => ?_)
          replace h := h v3 e
          refine go_goto 4 dX7_numberOfBit_32 (by decide) ?_
          refine go_lv [2, 3, 1, 0] rfl ?_
          exact ih _ _ _ _ _ h
        · replace h := gk_ip h c
          refine go_iload_n 3 dX7_numberOfBit_24 rfl rfl ?_
          exact go_iret dX7_numberOfBit_25 ⟨_, rfl, h⟩
def w_X7_numberOfBit (x0 : Int32) (x1 : Int32) (μ : gk_St) (Q : Int32 → gk_St → Prop) : Prop := (∃ n4 : Nat, w_X7_numberOfBit_l4 Q (fun m4 => Q (-1) m4) n4 x0 x1 0 0 μ)
set_option maxRecDepth 100000 in
set_option maxHeartbeats 4000000 in
theorem k_X7_numberOfBit {x0 : Int32} {x1 : Int32} {μ : gk_St} {Q : Int32 → gk_St → Prop} (h : w_X7_numberOfBit x0 x1 μ Q) : gk_CT yX7_numberOfBit cX7_numberOfBit 4 (some .int) 0 [.int x0, .int x1] μ (gk_Qi Q) := by
  unfold w_X7_numberOfBit at h
  refine gk_enter (by decide) (Nat.le_of_ble_eq_true rfl) ?_
  show Go RX7 cX7_numberOfBit 4 (some .int) 0 0 [(0, .int x0), (1, .int x1)] [] μ (gk_Qi Q)
  refine go_iconst (v := 0) dX7_numberOfBit_0 (by decide) ?_
  refine go_istore_n [(2, .int 0), (0, .int x0), (1, .int x1)] dX7_numberOfBit_1 rfl (by decide) rfl ?_
  refine go_iconst (v := 0) dX7_numberOfBit_2 (by decide) ?_
  refine go_istore_n [(3, .int 0), (2, .int 0), (0, .int x0), (1, .int x1)] dX7_numberOfBit_3 rfl (by decide) rfl ?_
  refine go_lv [2, 3, 1, 0] rfl ?_
  obtain ⟨n4, h⟩ := h
  refine k_X7_numberOfBit_l4 (fun m4 h => ?_) n4 _ _ _ _ _ h
  refine go_iconst (v := (-1)) dX7_numberOfBit_35 (by decide) ?_
  exact go_iret dX7_numberOfBit_36 ⟨_, rfl, h⟩
def w_X7_spare (this : Nat) (x1 : Int32) (μ : gk_St) (Q : Int32 → gk_St → Prop) : Prop := w_X7_within x1 (-1) 1 μ (fun r2 m1 => (if r2 = 0 then Q (-2) m1 else w_X7_leastSpared this m1 (fun r4 m3 => (if r4 = (-1) then Q (-1) m3 else (if x1 = (-1) then w_J6_bitCount_0f7a4 r4 m3 (fun r8 m7 => Q r8 m7) else w_X7_numberOfBit r4 x1 m3 (fun r6 m5 => Q r6 m5))))))
set_option maxRecDepth 100000 in
set_option maxHeartbeats 4000000 in
theorem k_X7_spare {this : Nat} {x1 : Int32} {μ : gk_St} {Q : Int32 → gk_St → Prop} (h_this : gk_isO this 7) (h : w_X7_spare this x1 μ Q) : gk_CT yX7_spare cX7_spare 3 (some .int) 6 [.ref this, .int x1] μ (gk_Qi Q) := by
  unfold w_X7_spare at h
  refine gk_enter (by decide) (Nat.le_of_ble_eq_true rfl) ?_
  show Go RX7 cX7_spare 3 (some .int) 6 0 [(0, .ref this), (1, .int x1)] [] μ (gk_Qi Q)
  refine go_iload_n 1 dX7_spare_0 rfl rfl ?_
  refine go_iconst (v := (-1)) dX7_spare_1 (by decide) ?_
  refine go_iconst (v := 1) dX7_spare_2 (by decide) ?_
  refine go_callS (d' := 0) [.int x1, .int (-1), .int 1] dX7_spare_3 cw_RX7_107 kt_X7_within rfl (Nat.le_of_ble_eq_true rfl) (by decide) (k_X7_within h) (gk_ki (fun r2 m1 h => ?_))
  refine go_if_ne 12 dX7_spare_6 (by decide) (fun c => ?_) (fun c => ?_)
  · replace h := gk_in h c
    refine go_aload_n 0 dX7_spare_12 rfl rfl ?_
    refine go_callV (ci := 7) (d' := 5) [] dX7_spare_13 cw_RX7_237 ki_X7_leastSpared ks_X7_leastSpared rfl (by decide) h_this rfl (Nat.le_of_ble_eq_true rfl) (by decide) (k_X7_leastSpared h_this h) (gk_ki (fun r4 m3 h => ?_))
    refine go_istore_n [(2, .int r4), (0, .ref this), (1, .int x1)] dX7_spare_16 rfl (by decide) rfl ?_
    refine go_iload_n 0 dX7_spare_17 rfl rfl ?_
    refine go_iconst (v := (-1)) dX7_spare_18 (by decide) ?_
    refine go_icmp_ne 24 dX7_spare_19 (by decide) (fun c => ?_) (fun c => ?_)
    · replace h := gk_in h c
      refine go_iload_n 2 dX7_spare_24 rfl rfl ?_
      refine go_iconst (v := (-1)) dX7_spare_25 (by decide) ?_
      refine go_icmp_ne 36 dX7_spare_26 (by decide) (fun c => ?_) (fun c => ?_)
      · replace h := gk_in h c
        refine go_iload_n 0 dX7_spare_36 rfl rfl ?_
        refine go_iload_n 2 dX7_spare_37 rfl rfl ?_
        refine go_callS (d' := 0) [.int r4, .int x1] dX7_spare_38 cw_RX7_245 kt_X7_numberOfBit rfl (Nat.le_of_ble_eq_true rfl) (by decide) (k_X7_numberOfBit h) (gk_ki (fun r6 m5 h => ?_))
        exact go_iret dX7_spare_41 ⟨_, rfl, h⟩
      · replace h := gk_ip h c
        refine go_iload_n 0 dX7_spare_29 rfl rfl ?_
        refine go_callS (d' := 0) [.int r4] dX7_spare_30 cw_RX7_240 kt_J6_bitCount_0f7a4 rfl (Nat.le_of_ble_eq_true rfl) (by decide) (k_J6_bitCount_0f7a4 h) (gk_ki (fun r8 m7 h => ?_))
        refine go_goto 41 dX7_spare_33 (by decide) ?_
        exact go_iret dX7_spare_41 ⟨_, rfl, h⟩
    · replace h := gk_ip h c
      refine go_iconst (v := (-1)) dX7_spare_22 (by decide) ?_
      exact go_iret dX7_spare_23 ⟨_, rfl, h⟩
  · replace h := gk_ip h c
    refine go_bipush (v := (-2)) dX7_spare_9 (by decide) ?_
    exact go_iret dX7_spare_11 ⟨_, rfl, h⟩
def w_X7_seen (this : Nat) (x1 : Int32) (x2 : Int32) (x3 : Int32) (μ : gk_St) (Q : Int32 → gk_St → Prop) : Prop := w_X7_isMoment x1 μ (fun r2 m1 => (if r2 = 0 then Q (-2) m1 else w_X7_isStation x2 m1 (fun r4 m3 => (if r4 = 0 then Q (-2) m3 else w_X7_within x3 0 108 m3 (fun r6 m5 => (if r6 = 0 then Q (-2) m5 else w_X4_hasSpace (gk_rf this 6) m5 (fun r8 m7 => (if r8 = 0 then Q (-4) m7 else w_X4_append (gk_rf this 6) x1 x2 x3 m7 (fun m9 => Q (m9 (gk_rf this 6) 3) m9)))))))))
set_option maxRecDepth 100000 in
set_option maxHeartbeats 4000000 in
theorem k_X7_seen {this : Nat} {x1 : Int32} {x2 : Int32} {x3 : Int32} {μ : gk_St} {Q : Int32 → gk_St → Prop} (h_this : gk_isO this 7) (h : w_X7_seen this x1 x2 x3 μ Q) : gk_CT yX7_seen cX7_seen 4 (some .int) 2 [.ref this, .int x1, .int x2, .int x3] μ (gk_Qi Q) := by
  unfold w_X7_seen at h
  refine gk_enter (by decide) (Nat.le_of_ble_eq_true rfl) ?_
  show Go RX7 cX7_seen 4 (some .int) 2 0 [(0, .ref this), (1, .int x1), (2, .int x2), (3, .int x3)] [] μ (gk_Qi Q)
  refine go_iload_n 1 dX7_seen_0 rfl rfl ?_
  refine go_callS (d' := 1) [.int x1] dX7_seen_1 cw_RX7_138 kt_X7_isMoment rfl (Nat.le_of_ble_eq_true rfl) (by decide) (k_X7_isMoment h) (gk_ki (fun r2 m1 h => ?_))
  refine go_if_eq 24 dX7_seen_4 (by decide) (fun c => ?_) (fun c => ?_)
  · replace h := gk_ip h c
    refine go_bipush (v := (-2)) dX7_seen_24 (by decide) ?_
    exact go_iret dX7_seen_26 ⟨_, rfl, h⟩
  · replace h := gk_in h c
    refine go_iload_n 2 dX7_seen_7 rfl rfl ?_
    refine go_callS (d' := 1) [.int x2] dX7_seen_8 cw_RX7_191 kt_X7_isStation rfl (Nat.le_of_ble_eq_true rfl) (by decide) (k_X7_isStation h) (gk_ki (fun r4 m3 h => ?_))
    refine go_if_eq 24 dX7_seen_11 (by decide) (fun c => ?_) (fun c => ?_)
    · replace h := gk_ip h c
      refine go_bipush (v := (-2)) dX7_seen_24 (by decide) ?_
      exact go_iret dX7_seen_26 ⟨_, rfl, h⟩
    · replace h := gk_in h c
      refine go_iload_n 3 dX7_seen_14 rfl rfl ?_
      refine go_iconst (v := 0) dX7_seen_15 (by decide) ?_
      refine go_bipush (v := 108) dX7_seen_16 (by decide) ?_
      refine go_callS (d' := 0) [.int x3, .int 0, .int 108] dX7_seen_18 cw_RX7_107 kt_X7_within rfl (Nat.le_of_ble_eq_true rfl) (by decide) (k_X7_within h) (gk_ki (fun r6 m5 h => ?_))
      refine go_if_ne 27 dX7_seen_21 (by decide) (fun c => ?_) (fun c => ?_)
      · replace h := gk_in h c
        refine go_aload_n 0 dX7_seen_27 rfl rfl ?_
        refine go_getR dX7_seen_28 fl_RX7_50 h_this (rr_7_6 h_this) ?_
        refine go_callV (ci := 4) (d' := 0) [] dX7_seen_31 cw_RX7_248 ki_X4_hasSpace ks_X4_hasSpace rfl (by decide) (rt_7_6 h_this) rfl (Nat.le_of_ble_eq_true rfl) (by decide) (k_X4_hasSpace (rt_7_6 h_this) h) (gk_ki (fun r8 m7 h => ?_))
        refine go_if_ne 40 dX7_seen_34 (by decide) (fun c => ?_) (fun c => ?_)
        · replace h := gk_in h c
          refine go_aload_n 0 dX7_seen_40 rfl rfl ?_
          refine go_getR dX7_seen_41 fl_RX7_50 h_this (rr_7_6 h_this) ?_
          refine go_iload_n 1 dX7_seen_44 rfl rfl ?_
          refine go_iload_n 2 dX7_seen_45 rfl rfl ?_
          refine go_iload_n 3 dX7_seen_46 rfl rfl ?_
          refine go_callV (ci := 4) (d' := 1) [.int x1, .int x2, .int x3] dX7_seen_47 cw_RX7_249 ki_X4_append ks_X4_append rfl (by decide) (rt_7_6 h_this) rfl (Nat.le_of_ble_eq_true rfl) (by decide) (k_X4_append (rt_7_6 h_this) h) (gk_kv (fun m9 h => ?_))
          refine go_aload_n 0 dX7_seen_50 rfl rfl ?_
          refine go_getR dX7_seen_51 fl_RX7_50 h_this (rr_7_6 h_this) ?_
          refine go_getI dX7_seen_54 fl_RX7_250 (rt_7_6 h_this) (nf_4_3 (rt_7_6 h_this)) ?_
          exact go_iret dX7_seen_57 ⟨_, rfl, h⟩
        · replace h := gk_ip h c
          refine go_bipush (v := (-4)) dX7_seen_37 (by decide) ?_
          exact go_iret dX7_seen_39 ⟨_, rfl, h⟩
      · replace h := gk_ip h c
        refine go_bipush (v := (-2)) dX7_seen_24 (by decide) ?_
        exact go_iret dX7_seen_26 ⟨_, rfl, h⟩
def w_X7_forget (this : Nat) (μ : gk_St) (Q : Int32 → gk_St → Prop) : Prop := (∀ v1 : Int32, v1 = (μ (gk_rf this 6) 3) → (∀ m2 : gk_St, m2 = gk_up μ (gk_rf this 6) 3 0 → Q v1 m2))
set_option maxRecDepth 100000 in
set_option maxHeartbeats 4000000 in
theorem k_X7_forget {this : Nat} {μ : gk_St} {Q : Int32 → gk_St → Prop} (h_this : gk_isO this 7) (h : w_X7_forget this μ Q) : gk_CT yX7_forget cX7_forget 2 (some .int) 0 [.ref this] μ (gk_Qi Q) := by
  unfold w_X7_forget at h
  refine gk_enter (by decide) (Nat.le_of_ble_eq_true rfl) ?_
  show Go RX7 cX7_forget 2 (some .int) 0 0 [(0, .ref this)] [] μ (gk_Qi Q)
  refine go_aload_n 0 dX7_forget_0 rfl rfl ?_
  refine go_getR dX7_forget_1 fl_RX7_50 h_this (rr_7_6 h_this) ?_
  refine go_getI dX7_forget_4 fl_RX7_250 (rt_7_6 h_this) (nf_4_3 (rt_7_6 h_this)) ?_
  refine gb_istore_n (fun v1 => [(1, .int v1), (0, .ref this)]) dX7_forget_7 rfl (by decide) (fun _ => rfl) (fun v1 e => ?_)
  replace h := h v1 e
  refine go_aload_n 1 dX7_forget_8 rfl rfl ?_
  refine go_getR dX7_forget_9 fl_RX7_50 h_this (rr_7_6 h_this) ?_
  refine go_iconst (v := 0) dX7_forget_12 (by decide) ?_
  refine gb_putI dX7_forget_13 fp_RX7_250 (rt_7_6 h_this) (nf_4_3 (rt_7_6 h_this)) (fun m2 e => ?_)
  replace h := h m2 e
  refine go_iload_n 0 dX7_forget_16 rfl rfl ?_
  exact go_iret dX7_forget_17 ⟨_, rfl, h⟩
def w_X7_comesOutAsSeen (this : Nat) (μ : gk_St) (Q : Int32 → gk_St → Prop) : Prop := w_X2_run (gk_rf this 13) (gk_rf this 11) 23 μ (fun m1 => w_X4_agreeWith (gk_rf this 6) (gk_rf this 13) m1 (fun r3 m2 => (gk_b r3 ∧ Q r3 m2)))
set_option maxRecDepth 100000 in
set_option maxHeartbeats 4000000 in
theorem k_X7_comesOutAsSeen {this : Nat} {μ : gk_St} {Q : Int32 → gk_St → Prop} (h_this : gk_isO this 7) (h : w_X7_comesOutAsSeen this μ Q) : gk_CT yX7_comesOutAsSeen cX7_comesOutAsSeen 1 (some .boolean) 4 [.ref this] μ (gk_Qi Q) := by
  unfold w_X7_comesOutAsSeen at h
  refine gk_enter (by decide) (Nat.le_of_ble_eq_true rfl) ?_
  show Go RX7 cX7_comesOutAsSeen 1 (some .boolean) 4 0 [(0, .ref this)] [] μ (gk_Qi Q)
  refine go_aload_n 0 dX7_comesOutAsSeen_0 rfl rfl ?_
  refine go_getR dX7_comesOutAsSeen_1 fl_RX7_84 h_this (rr_7_13 h_this) ?_
  refine go_aload_n 0 dX7_comesOutAsSeen_4 rfl rfl ?_
  refine go_getR dX7_comesOutAsSeen_5 fl_RX7_73 h_this (rr_7_11 h_this) ?_
  refine go_bipush (v := 23) dX7_comesOutAsSeen_8 (by decide) ?_
  refine go_callV (ci := 2) (d' := 3) [.ref (gk_rf this 11), .int 23] dX7_comesOutAsSeen_10 cw_RX7_227 ki_X2_run ks_X2_run rfl (by decide) (rt_7_13 h_this) rfl (Nat.le_of_ble_eq_true rfl) (by decide) (k_X2_run (rt_7_13 h_this) (rt_7_11 h_this) h) (gk_kv (fun m1 h => ?_))
  refine go_aload_n 0 dX7_comesOutAsSeen_13 rfl rfl ?_
  refine go_getR dX7_comesOutAsSeen_14 fl_RX7_50 h_this (rr_7_6 h_this) ?_
  refine go_aload_n 0 dX7_comesOutAsSeen_17 rfl rfl ?_
  refine go_getR dX7_comesOutAsSeen_18 fl_RX7_84 h_this (rr_7_13 h_this) ?_
  refine go_callV (ci := 4) (d' := 0) [.ref (gk_rf this 13)] dX7_comesOutAsSeen_21 cw_RX7_419 ki_X4_agreeWith ks_X4_agreeWith rfl (by decide) (rt_7_6 h_this) rfl (Nat.le_of_ble_eq_true rfl) (by decide) (k_X4_agreeWith (rt_7_6 h_this) (rt_7_13 h_this) h) (gk_ki (fun r3 m2 h => ?_))
  exact go_zret dX7_comesOutAsSeen_24 h.1 ⟨_, rfl, h.2⟩
def w_X7_never_l8 (Q : Int32 → gk_St → Prop) (K : Int32 → gk_St → Prop) (this : Nat) : Nat → Int32 → Int32 → gk_St → Prop
  | 0, _, _, _ => False
  | n + 1, x1, x2, μ => (if (μ (gk_rf this 5) 3) ≤ x2 then K x1 μ else w_X1_takeEvents (gk_rf this 11) (gk_rf this 5) ((255 : Int32) &&& (((1 : Int32) <<< (x2 &&& 31)) ^^^ (-1))) μ (fun m2 => w_X7_comesOutAsSeen this m2 (fun r4 m3 => (if r4 = 0 then (∀ v5 : Int32, v5 = x2 + 1 → w_X7_never_l8 Q K this n x1 v5 m3) else (∀ v6 : Int32, v6 = (x1 ||| ((1 : Int32) <<< (x2 &&& 31))) → (∀ v7 : Int32, v7 = x2 + 1 → w_X7_never_l8 Q K this n v6 v7 m3))))))
set_option maxRecDepth 100000 in
set_option maxHeartbeats 4000000 in
theorem k_X7_never_l8 {Q : Int32 → gk_St → Prop} {K : Int32 → gk_St → Prop} {this : Nat} (h_this : gk_isO this 7) (hK : ∀ (e1 : Int32) (em : gk_St), K e1 em → Go RX7 cX7_never 3 (some .int) 5 58 [(1, .int e1)] [] em (gk_Qi Q)) : ∀ (n : Nat) (x1 : Int32) (x2 : Int32) (μ : gk_St), w_X7_never_l8 Q K this n x1 x2 μ → Go RX7 cX7_never 3 (some .int) 5 8 [(0, .ref this), (1, .int x1), (2, .int x2)] [] μ (gk_Qi Q) := by
  intro n
  induction n with
  | zero =>
    intro x1 x2 μ h
    exact False.elim h
  | succ n ih =>
    intro x1 x2 μ h
    unfold w_X7_never_l8 at h
    refine go_iload_n 2 dX7_never_8 rfl rfl ?_
    refine go_aload_n 0 dX7_never_9 rfl rfl ?_
    refine go_getR dX7_never_10 fl_RX7_43 h_this (rr_7_5 h_this) ?_
    refine go_getI dX7_never_13 fl_RX7_152 (rt_7_5 h_this) (nf_0_3 (rt_7_5 h_this)) ?_
    refine go_icmp_ge 58 dX7_never_16 (by decide) (fun c => ?_) (fun c => ?_)
    · replace h := gk_ip h c
      refine go_lv [1] rfl ?_
      exact hK _ _ h
    · replace h := gk_in h c
      refine go_aload_n 0 dX7_never_19 rfl rfl ?_
      refine go_getR dX7_never_20 fl_RX7_73 h_this (rr_7_11 h_this) ?_
      refine go_aload_n 0 dX7_never_23 rfl rfl ?_
      refine go_getR dX7_never_24 fl_RX7_43 h_this (rr_7_5 h_this) ?_
      refine go_sipush (v := 255) dX7_never_27 (by decide) ?_
      refine go_iconst (v := 1) dX7_never_30 (by decide) ?_
      refine go_iload_n 2 dX7_never_31 rfl rfl ?_
      refine go_ishl dX7_never_32 ?_
      refine go_iconst (v := (-1)) dX7_never_33 (by decide) ?_
      refine go_ixor dX7_never_34 ?_
      refine go_iand dX7_never_35 ?_
      refine go_callV (ci := 1) (d' := 2) [.ref (gk_rf this 5), .int ((255 : Int32) &&& (((1 : Int32) <<< (x2 &&& 31)) ^^^ (-1)))] dX7_never_36 cw_RX7_251 ki_X1_takeEvents ks_X1_takeEvents rfl (by decide) (rt_7_11 h_this) rfl (Nat.le_of_ble_eq_true rfl) (by decide) (k_X1_takeEvents (rt_7_11 h_this) (rt_7_5 h_this) h) (gk_kv (fun m2 h => ?_))
      refine go_aload_n 0 dX7_never_39 rfl rfl ?_
      refine go_callV (ci := 7) (d' := 4) [] dX7_never_40 cw_RX7_255 ki_X7_comesOutAsSeen ks_X7_comesOutAsSeen rfl (by decide) h_this rfl (Nat.le_of_ble_eq_true rfl) (by decide) (k_X7_comesOutAsSeen h_this h) (gk_ki (fun r4 m3 h => ?_))
      refine go_if_eq 52 dX7_never_43 (by decide) (fun c => ?_) (fun c => ?_)
      · replace h := gk_ip h c
        refine gb_iinc (w := 1) 2 (fun v5 => [(2, .int v5), (0, .ref this), (1, .int x1)]) dX7_never_52 rfl (by decide) (by decide) (fun _ => rfl) (fun v5 e => ?_)
        replace h := h v5 e
        refine go_goto 8 dX7_never_55 (by decide) ?_
        refine go_lv [1, 2, 0] rfl ?_
        exact ih _ _ _ h
      · replace h := gk_in h c
        refine go_iload_n 1 dX7_never_46 rfl rfl ?_
        refine go_iconst (v := 1) dX7_never_47 (by decide) ?_
        refine go_iload_n 2 dX7_never_48 rfl rfl ?_
        refine go_ishl dX7_never_49 ?_
        refine go_ior dX7_never_50 ?_
        refine gb_istore_n (fun v6 => [(1, .int v6), (0, .ref this), (2, .int x2)]) dX7_never_51 rfl (by decide) (fun _ => rfl) (fun v6 e => ?_)
        replace h := h v6 e
        refine gb_iinc (w := 1) 2 (fun v7 => [(2, .int v7), (1, .int v6), (0, .ref this)]) dX7_never_52 rfl (by decide) (by decide) (fun _ => rfl) (fun v7 e => ?_)
        replace h := h v7 e
        refine go_goto 8 dX7_never_55 (by decide) ?_
        refine go_lv [2, 1, 0] rfl ?_
        exact ih _ _ _ h
def w_X7_never (this : Nat) (μ : gk_St) (Q : Int32 → gk_St → Prop) : Prop := w_X7_planAsTold this μ (fun m1 => (∃ n8 : Nat, w_X7_never_l8 Q (fun y8 m9 => Q y8 m9) this n8 0 0 m1))
set_option maxRecDepth 100000 in
set_option maxHeartbeats 4000000 in
theorem k_X7_never {this : Nat} {μ : gk_St} {Q : Int32 → gk_St → Prop} (h_this : gk_isO this 7) (h : w_X7_never this μ Q) : gk_CT yX7_never cX7_never 3 (some .int) 5 [.ref this] μ (gk_Qi Q) := by
  unfold w_X7_never at h
  refine gk_enter (by decide) (Nat.le_of_ble_eq_true rfl) ?_
  show Go RX7 cX7_never 3 (some .int) 5 0 [(0, .ref this)] [] μ (gk_Qi Q)
  refine go_aload_n 0 dX7_never_0 rfl rfl ?_
  refine go_callV (ci := 7) (d' := 3) [] dX7_never_1 cw_RX7_217 ki_X7_planAsTold ks_X7_planAsTold rfl (by decide) h_this rfl (Nat.le_of_ble_eq_true rfl) (by decide) (k_X7_planAsTold h_this h) (gk_kv (fun m1 h => ?_))
  refine go_iconst (v := 0) dX7_never_4 (by decide) ?_
  refine go_istore_n [(1, .int 0), (0, .ref this)] dX7_never_5 rfl (by decide) rfl ?_
  refine go_iconst (v := 0) dX7_never_6 (by decide) ?_
  refine go_istore_n [(2, .int 0), (1, .int 0), (0, .ref this)] dX7_never_7 rfl (by decide) rfl ?_
  refine go_lv [2, 1, 0] rfl ?_
  obtain ⟨n8, h⟩ := h
  refine k_X7_never_l8 h_this (fun y8 m9 h => ?_) n8 _ _ _ h
  refine go_iload_n 0 dX7_never_58 rfl rfl ?_
  exact go_iret dX7_never_59 ⟨_, rfl, h⟩
def w_X7_likelyRooms_l8 (Q : Int32 → gk_St → Prop) (K : Int32 → gk_St → Prop) (this : Nat) : Nat → Int32 → Int32 → Int32 → gk_St → Prop
  | 0, _, _, _, _ => False
  | n + 1, x1, x2, x3, μ => (if 9 < x3 then K x2 μ else (vp_in x1 (gk_ln (gk_rf (gk_rf this 11) 3)) ∧ (∀ m2 : gk_St, m2 = gk_up μ (gk_rf (gk_rf this 11) 3) x1.toNatClampNeg x3 → w_X7_comesOutAsSeen this m2 (fun r4 m3 => (if r4 = 0 then (∀ v5 : Int32, v5 = x3 + 1 → w_X7_likelyRooms_l8 Q K this n x1 x2 v5 m3) else (∀ v6 : Int32, v6 = (x2 ||| ((1 : Int32) <<< (x3 &&& 31))) → (∀ v7 : Int32, v7 = x3 + 1 → w_X7_likelyRooms_l8 Q K this n x1 v6 v7 m3)))))))
set_option maxRecDepth 100000 in
set_option maxHeartbeats 4000000 in
theorem k_X7_likelyRooms_l8 {Q : Int32 → gk_St → Prop} {K : Int32 → gk_St → Prop} {this : Nat} (h_this : gk_isO this 7) (hK : ∀ (e2 : Int32) (em : gk_St), K e2 em → Go RX7 cX7_likelyRooms 4 (some .int) 5 43 [(2, .int e2)] [] em (gk_Qi Q)) : ∀ (n : Nat) (x1 : Int32) (x2 : Int32) (x3 : Int32) (μ : gk_St), w_X7_likelyRooms_l8 Q K this n x1 x2 x3 μ → Go RX7 cX7_likelyRooms 4 (some .int) 5 8 [(0, .ref this), (1, .int x1), (2, .int x2), (3, .int x3)] [] μ (gk_Qi Q) := by
  intro n
  induction n with
  | zero =>
    intro x1 x2 x3 μ h
    exact False.elim h
  | succ n ih =>
    intro x1 x2 x3 μ h
    unfold w_X7_likelyRooms_l8 at h
    refine go_iload_n 3 dX7_likelyRooms_8 rfl rfl ?_
    refine go_bipush (v := 9) dX7_likelyRooms_9 (by decide) ?_
    refine go_icmp_gt 43 dX7_likelyRooms_11 (by decide) (fun c => ?_) (fun c => ?_)
    · replace h := gk_ip h c
      refine go_lv [2] rfl ?_
      exact hK _ _ h
    · replace h := gk_in h c
      refine go_aload_n 0 dX7_likelyRooms_14 rfl rfl ?_
      refine go_getR dX7_likelyRooms_15 fl_RX7_73 h_this (rr_7_11 h_this) ?_
      refine go_getR dX7_likelyRooms_18 fl_RX7_423 (rt_7_11 h_this) (rr_1_3 (rt_7_11 h_this)) ?_
      refine go_iload_n 1 dX7_likelyRooms_21 rfl rfl ?_
      refine go_iload_n 3 dX7_likelyRooms_22 rfl rfl ?_
      refine gb_iastore dX7_likelyRooms_23 (rt_1_3 (rt_7_11 h_this)) h.1 (fun m2 e => ?_)
      replace h := h.2 m2 e
      refine go_aload_n 0 dX7_likelyRooms_24 rfl rfl ?_
      refine go_callV (ci := 7) (d' := 4) [] dX7_likelyRooms_25 cw_RX7_255 ki_X7_comesOutAsSeen ks_X7_comesOutAsSeen rfl (by decide) h_this rfl (Nat.le_of_ble_eq_true rfl) (by decide) (k_X7_comesOutAsSeen h_this h) (gk_ki (fun r4 m3 h => ?_))
      refine go_if_eq 37 dX7_likelyRooms_28 (by decide) (fun c => ?_) (fun c => ?_)
      · replace h := gk_ip h c
        refine gb_iinc (w := 1) 3 (fun v5 => [(3, .int v5), (0, .ref this), (1, .int x1), (2, .int x2)]) dX7_likelyRooms_37 rfl (by decide) (by decide) (fun _ => rfl) (fun v5 e => ?_)
        replace h := h v5 e
        refine go_goto 8 dX7_likelyRooms_40 (by decide) ?_
        refine go_lv [1, 2, 3, 0] rfl ?_
        exact ih _ _ _ _ h
      · replace h := gk_in h c
        refine go_iload_n 2 dX7_likelyRooms_31 rfl rfl ?_
        refine go_iconst (v := 1) dX7_likelyRooms_32 (by decide) ?_
        refine go_iload_n 3 dX7_likelyRooms_33 rfl rfl ?_
        refine go_ishl dX7_likelyRooms_34 ?_
        refine go_ior dX7_likelyRooms_35 ?_
        refine gb_istore_n (fun v6 => [(2, .int v6), (0, .ref this), (1, .int x1), (3, .int x3)]) dX7_likelyRooms_36 rfl (by decide) (fun _ => rfl) (fun v6 e => ?_)
        replace h := h v6 e
        refine gb_iinc (w := 1) 3 (fun v7 => [(3, .int v7), (2, .int v6), (0, .ref this), (1, .int x1)]) dX7_likelyRooms_37 rfl (by decide) (by decide) (fun _ => rfl) (fun v7 e => ?_)
        replace h := h v7 e
        refine go_goto 8 dX7_likelyRooms_40 (by decide) ?_
        refine go_lv [2, 3, 1, 0] rfl ?_
        exact ih _ _ _ _ h
def w_X7_likelyRooms (this : Nat) (x1 : Int32) (μ : gk_St) (Q : Int32 → gk_St → Prop) : Prop := w_X7_planAsTold this μ (fun m1 => (∃ n8 : Nat, w_X7_likelyRooms_l8 Q (fun y8 m9 => Q y8 m9) this n8 x1 0 1 m1))
set_option maxRecDepth 100000 in
set_option maxHeartbeats 4000000 in
theorem k_X7_likelyRooms {this : Nat} {x1 : Int32} {μ : gk_St} {Q : Int32 → gk_St → Prop} (h_this : gk_isO this 7) (h : w_X7_likelyRooms this x1 μ Q) : gk_CT yX7_likelyRooms cX7_likelyRooms 4 (some .int) 5 [.ref this, .int x1] μ (gk_Qi Q) := by
  unfold w_X7_likelyRooms at h
  refine gk_enter (by decide) (Nat.le_of_ble_eq_true rfl) ?_
  show Go RX7 cX7_likelyRooms 4 (some .int) 5 0 [(0, .ref this), (1, .int x1)] [] μ (gk_Qi Q)
  refine go_aload_n 0 dX7_likelyRooms_0 rfl rfl ?_
  refine go_callV (ci := 7) (d' := 3) [] dX7_likelyRooms_1 cw_RX7_217 ki_X7_planAsTold ks_X7_planAsTold rfl (by decide) h_this rfl (Nat.le_of_ble_eq_true rfl) (by decide) (k_X7_planAsTold h_this h) (gk_kv (fun m1 h => ?_))
  refine go_iconst (v := 0) dX7_likelyRooms_4 (by decide) ?_
  refine go_istore_n [(2, .int 0), (0, .ref this), (1, .int x1)] dX7_likelyRooms_5 rfl (by decide) rfl ?_
  refine go_iconst (v := 1) dX7_likelyRooms_6 (by decide) ?_
  refine go_istore_n [(3, .int 1), (2, .int 0), (0, .ref this), (1, .int x1)] dX7_likelyRooms_7 rfl (by decide) rfl ?_
  refine go_lv [2, 3, 1, 0] rfl ?_
  obtain ⟨n8, h⟩ := h
  refine k_X7_likelyRooms_l8 h_this (fun y8 m9 h => ?_) n8 _ _ _ _ h
  refine go_iload_n 0 dX7_likelyRooms_43 rfl rfl ?_
  exact go_iret dX7_likelyRooms_44 ⟨_, rfl, h⟩
def w_X7_likelySorts_l8 (Q : Int32 → gk_St → Prop) (K : Int32 → gk_St → Prop) (this : Nat) : Nat → Int32 → Int32 → Int32 → gk_St → Prop
  | 0, _, _, _, _ => False
  | n + 1, x1, x2, x3, μ => (if 2 < x3 then K x2 μ else (vp_in x1 (gk_ln (gk_rf (gk_rf this 11) 2)) ∧ (∀ m2 : gk_St, m2 = gk_up μ (gk_rf (gk_rf this 11) 2) x1.toNatClampNeg x3 → w_X7_comesOutAsSeen this m2 (fun r4 m3 => (if r4 = 0 then (∀ v5 : Int32, v5 = x3 + 1 → w_X7_likelySorts_l8 Q K this n x1 x2 v5 m3) else (∀ v6 : Int32, v6 = (x2 ||| ((1 : Int32) <<< (x3 &&& 31))) → (∀ v7 : Int32, v7 = x3 + 1 → w_X7_likelySorts_l8 Q K this n x1 v6 v7 m3)))))))
set_option maxRecDepth 100000 in
set_option maxHeartbeats 4000000 in
theorem k_X7_likelySorts_l8 {Q : Int32 → gk_St → Prop} {K : Int32 → gk_St → Prop} {this : Nat} (h_this : gk_isO this 7) (hK : ∀ (e2 : Int32) (em : gk_St), K e2 em → Go RX7 cX7_likelySorts 4 (some .int) 5 42 [(2, .int e2)] [] em (gk_Qi Q)) : ∀ (n : Nat) (x1 : Int32) (x2 : Int32) (x3 : Int32) (μ : gk_St), w_X7_likelySorts_l8 Q K this n x1 x2 x3 μ → Go RX7 cX7_likelySorts 4 (some .int) 5 8 [(0, .ref this), (1, .int x1), (2, .int x2), (3, .int x3)] [] μ (gk_Qi Q) := by
  intro n
  induction n with
  | zero =>
    intro x1 x2 x3 μ h
    exact False.elim h
  | succ n ih =>
    intro x1 x2 x3 μ h
    unfold w_X7_likelySorts_l8 at h
    refine go_iload_n 3 dX7_likelySorts_8 rfl rfl ?_
    refine go_iconst (v := 2) dX7_likelySorts_9 (by decide) ?_
    refine go_icmp_gt 42 dX7_likelySorts_10 (by decide) (fun c => ?_) (fun c => ?_)
    · replace h := gk_ip h c
      refine go_lv [2] rfl ?_
      exact hK _ _ h
    · replace h := gk_in h c
      refine go_aload_n 0 dX7_likelySorts_13 rfl rfl ?_
      refine go_getR dX7_likelySorts_14 fl_RX7_73 h_this (rr_7_11 h_this) ?_
      refine go_getR dX7_likelySorts_17 fl_RX7_426 (rt_7_11 h_this) (rr_1_2 (rt_7_11 h_this)) ?_
      refine go_iload_n 1 dX7_likelySorts_20 rfl rfl ?_
      refine go_iload_n 3 dX7_likelySorts_21 rfl rfl ?_
      refine gb_iastore dX7_likelySorts_22 (rt_1_2 (rt_7_11 h_this)) h.1 (fun m2 e => ?_)
      replace h := h.2 m2 e
      refine go_aload_n 0 dX7_likelySorts_23 rfl rfl ?_
      refine go_callV (ci := 7) (d' := 4) [] dX7_likelySorts_24 cw_RX7_255 ki_X7_comesOutAsSeen ks_X7_comesOutAsSeen rfl (by decide) h_this rfl (Nat.le_of_ble_eq_true rfl) (by decide) (k_X7_comesOutAsSeen h_this h) (gk_ki (fun r4 m3 h => ?_))
      refine go_if_eq 36 dX7_likelySorts_27 (by decide) (fun c => ?_) (fun c => ?_)
      · replace h := gk_ip h c
        refine gb_iinc (w := 1) 3 (fun v5 => [(3, .int v5), (0, .ref this), (1, .int x1), (2, .int x2)]) dX7_likelySorts_36 rfl (by decide) (by decide) (fun _ => rfl) (fun v5 e => ?_)
        replace h := h v5 e
        refine go_goto 8 dX7_likelySorts_39 (by decide) ?_
        refine go_lv [1, 2, 3, 0] rfl ?_
        exact ih _ _ _ _ h
      · replace h := gk_in h c
        refine go_iload_n 2 dX7_likelySorts_30 rfl rfl ?_
        refine go_iconst (v := 1) dX7_likelySorts_31 (by decide) ?_
        refine go_iload_n 3 dX7_likelySorts_32 rfl rfl ?_
        refine go_ishl dX7_likelySorts_33 ?_
        refine go_ior dX7_likelySorts_34 ?_
        refine gb_istore_n (fun v6 => [(2, .int v6), (0, .ref this), (1, .int x1), (3, .int x3)]) dX7_likelySorts_35 rfl (by decide) (fun _ => rfl) (fun v6 e => ?_)
        replace h := h v6 e
        refine gb_iinc (w := 1) 3 (fun v7 => [(3, .int v7), (2, .int v6), (0, .ref this), (1, .int x1)]) dX7_likelySorts_36 rfl (by decide) (by decide) (fun _ => rfl) (fun v7 e => ?_)
        replace h := h v7 e
        refine go_goto 8 dX7_likelySorts_39 (by decide) ?_
        refine go_lv [2, 3, 1, 0] rfl ?_
        exact ih _ _ _ _ h
def w_X7_likelySorts (this : Nat) (x1 : Int32) (μ : gk_St) (Q : Int32 → gk_St → Prop) : Prop := w_X7_planAsTold this μ (fun m1 => (∃ n8 : Nat, w_X7_likelySorts_l8 Q (fun y8 m9 => Q y8 m9) this n8 x1 0 0 m1))
set_option maxRecDepth 100000 in
set_option maxHeartbeats 4000000 in
theorem k_X7_likelySorts {this : Nat} {x1 : Int32} {μ : gk_St} {Q : Int32 → gk_St → Prop} (h_this : gk_isO this 7) (h : w_X7_likelySorts this x1 μ Q) : gk_CT yX7_likelySorts cX7_likelySorts 4 (some .int) 5 [.ref this, .int x1] μ (gk_Qi Q) := by
  unfold w_X7_likelySorts at h
  refine gk_enter (by decide) (Nat.le_of_ble_eq_true rfl) ?_
  show Go RX7 cX7_likelySorts 4 (some .int) 5 0 [(0, .ref this), (1, .int x1)] [] μ (gk_Qi Q)
  refine go_aload_n 0 dX7_likelySorts_0 rfl rfl ?_
  refine go_callV (ci := 7) (d' := 3) [] dX7_likelySorts_1 cw_RX7_217 ki_X7_planAsTold ks_X7_planAsTold rfl (by decide) h_this rfl (Nat.le_of_ble_eq_true rfl) (by decide) (k_X7_planAsTold h_this h) (gk_kv (fun m1 h => ?_))
  refine go_iconst (v := 0) dX7_likelySorts_4 (by decide) ?_
  refine go_istore_n [(2, .int 0), (0, .ref this), (1, .int x1)] dX7_likelySorts_5 rfl (by decide) rfl ?_
  refine go_iconst (v := 0) dX7_likelySorts_6 (by decide) ?_
  refine go_istore_n [(3, .int 0), (2, .int 0), (0, .ref this), (1, .int x1)] dX7_likelySorts_7 rfl (by decide) rfl ?_
  refine go_lv [2, 3, 1, 0] rfl ?_
  obtain ⟨n8, h⟩ := h
  refine k_X7_likelySorts_l8 h_this (fun y8 m9 h => ?_) n8 _ _ _ _ h
  refine go_iload_n 0 dX7_likelySorts_42 rfl rfl ?_
  exact go_iret dX7_likelySorts_43 ⟨_, rfl, h⟩
def w_X7_was (this : Nat) (x1 : Int32) (x2 : Int32) (μ : gk_St) (Q : Int32 → gk_St → Prop) : Prop := w_X7_isCar this x1 μ (fun r2 m1 => (if r2 = 0 then Q (-2) m1 else w_X7_within x2 0 1 m1 (fun r4 m3 => (if r4 = 0 then Q (-2) m3 else (if x2 = 0 then w_X7_likelyRooms this x1 m3 (fun r8 m7 => Q r8 m7) else w_X7_likelySorts this x1 m3 (fun r6 m5 => Q r6 m5))))))
set_option maxRecDepth 100000 in
set_option maxHeartbeats 4000000 in
theorem k_X7_was {this : Nat} {x1 : Int32} {x2 : Int32} {μ : gk_St} {Q : Int32 → gk_St → Prop} (h_this : gk_isO this 7) (h : w_X7_was this x1 x2 μ Q) : gk_CT yX7_was cX7_was 3 (some .int) 6 [.ref this, .int x1, .int x2] μ (gk_Qi Q) := by
  unfold w_X7_was at h
  refine gk_enter (by decide) (Nat.le_of_ble_eq_true rfl) ?_
  show Go RX7 cX7_was 3 (some .int) 6 0 [(0, .ref this), (1, .int x1), (2, .int x2)] [] μ (gk_Qi Q)
  refine go_aload_n 0 dX7_was_0 rfl rfl ?_
  refine go_iload_n 1 dX7_was_1 rfl rfl ?_
  refine go_callV (ci := 7) (d' := 1) [.int x1] dX7_was_2 cw_RX7_127 ki_X7_isCar ks_X7_isCar rfl (by decide) h_this rfl (Nat.le_of_ble_eq_true rfl) (by decide) (k_X7_isCar h_this h) (gk_ki (fun r2 m1 h => ?_))
  refine go_if_eq 17 dX7_was_5 (by decide) (fun c => ?_) (fun c => ?_)
  · replace h := gk_ip h c
    refine go_bipush (v := (-2)) dX7_was_17 (by decide) ?_
    exact go_iret dX7_was_19 ⟨_, rfl, h⟩
  · replace h := gk_in h c
    refine go_iload_n 2 dX7_was_8 rfl rfl ?_
    refine go_iconst (v := 0) dX7_was_9 (by decide) ?_
    refine go_iconst (v := 1) dX7_was_10 (by decide) ?_
    refine go_callS (d' := 0) [.int x2, .int 0, .int 1] dX7_was_11 cw_RX7_107 kt_X7_within rfl (Nat.le_of_ble_eq_true rfl) (by decide) (k_X7_within h) (gk_ki (fun r4 m3 h => ?_))
    refine go_if_ne 20 dX7_was_14 (by decide) (fun c => ?_) (fun c => ?_)
    · replace h := gk_in h c
      refine go_iload_n 2 dX7_was_20 rfl rfl ?_
      refine go_if_ne 32 dX7_was_21 (by decide) (fun c => ?_) (fun c => ?_)
      · replace h := gk_in h c
        refine go_aload_n 0 dX7_was_32 rfl rfl ?_
        refine go_iload_n 1 dX7_was_33 rfl rfl ?_
        refine go_callV (ci := 7) (d' := 5) [.int x1] dX7_was_34 cw_RX7_261 ki_X7_likelySorts ks_X7_likelySorts rfl (by decide) h_this rfl (Nat.le_of_ble_eq_true rfl) (by decide) (k_X7_likelySorts h_this h) (gk_ki (fun r6 m5 h => ?_))
        exact go_iret dX7_was_37 ⟨_, rfl, h⟩
      · replace h := gk_ip h c
        refine go_aload_n 0 dX7_was_24 rfl rfl ?_
        refine go_iload_n 1 dX7_was_25 rfl rfl ?_
        refine go_callV (ci := 7) (d' := 5) [.int x1] dX7_was_26 cw_RX7_258 ki_X7_likelyRooms ks_X7_likelyRooms rfl (by decide) h_this rfl (Nat.le_of_ble_eq_true rfl) (by decide) (k_X7_likelyRooms h_this h) (gk_ki (fun r8 m7 h => ?_))
        refine go_goto 37 dX7_was_29 (by decide) ?_
        exact go_iret dX7_was_37 ⟨_, rfl, h⟩
    · replace h := gk_ip h c
      refine go_bipush (v := (-2)) dX7_was_17 (by decide) ?_
      exact go_iret dX7_was_19 ⟨_, rfl, h⟩
