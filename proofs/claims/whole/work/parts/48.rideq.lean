/-! what is asked of a ride -/
def gp_left (P : gp_P) : Nat := a_wt (gp_s P 24) 0 + a_wt (gp_s P 24) 1 + gp_sum (a_in (gp_s P 24)) (p_nc P)
def gp_over (P : gp_P) : Nat := a_ov (gp_s P 24) 0 + a_ov (gp_s P 24) 1
theorem gp_over_le {P : gp_P} (hw : gp_wf P) : gp_over P ≤ 108 := by
  have h1 := (gp_ok_s hw 24).1
  have h2 := hw.2.2.2
  unfold gp_over
  omega
theorem gp_left_le {P : gp_P} (hw : gp_wf P) : gp_left P ≤ 108 := by
  have h1 := (gp_ok_s hw 24).1
  have h2 := hw.2.2.2
  unfold gp_left
  omega
theorem gp_left_come {P : gp_P} (hw : gp_wf P) : gp_left P + gp_over P = gp_come P 24 := by
  have h1 := (gp_ok_s hw 24).1
  unfold gp_left gp_over
  omega

theorem s_allOver_42 {P : gp_P} {μ : gk_St} (hs : gp_rs P 42 (gp_s P 24) μ) {Q : Int32 → gk_St → Prop} (h : Q (nI (gp_over P)) μ) : w_X2_allOver 42 μ Q := by
  unfold w_X2_allOver
  have e0 : μ 65 0 = nI (a_ov (gp_s P 24) 0) := (hs.2.2.1 0 (by omega)).2
  have e1 : μ 65 1 = nI (a_ov (gp_s P 24) 1) := (hs.2.2.1 1 (by omega)).2
  rw [rf_42_8, z0c, z1c, e0, e1, nI_add]
  exact ⟨vi (k := 0) (n := 2) (by omega) ln_65 (by omega), vi (k := 1) (n := 2) (by omega) ln_65 (by omega), h⟩
theorem s_apL_42 {P : gp_P} {μ : gk_St} (hr : gp_rec P 42 24 μ) {Q : Int32 → gk_St → Prop} {K : Int32 → gk_St → Prop} (h : K (gp_ps P 24) μ) : ∀ (i j : Nat), j + i = 24 → w_X2_allPower_l4 Q K 42 (i + 1) (gp_ps P j) (nI j) μ := by
  intro i
  induction i with
  | zero =>
    intro j hj
    have e : j = 24 := by omega
    subst e
    unfold w_X2_allPower_l4
    rw [if_pos (show (24 : Int32) ≤ nI 24 by decide)]
    exact h
  | succ i ih =>
    intro j hj
    have e18 : μ 60 j = gp_pw P j := (hr j (by omega)).2.2.2
    unfold w_X2_allPower_l4
    rw [if_neg (show ¬ (24 : Int32) ≤ nI j from fun q => absurd ((nI_leI (a := 24) (by omega) (by omega)).mp q) (by omega)), rf_42_3, kc (k := j) (by omega), e18]
    refine ⟨vi (n := 24) (by omega) ln_60 (by omega), ?_⟩
    intro v1 e1 v2 e2
    rw [e1, e2, nI_1]
    exact ih (j + 1) (by omega)
theorem s_allPower_42 {P : gp_P} {μ : gk_St} (hr : gp_rec P 42 24 μ) {Q : Int32 → gk_St → Prop} (h : Q (gp_ps P 24) μ) : w_X2_allPower 42 μ Q := ⟨25, s_apL_42 hr h 24 0 (by omega)⟩
theorem s_lbL_42 {C : gp_C} {μ : gk_St} (hA : gp_kA C μ) {Q : Int32 → gk_St → Prop} {K : Int32 → gk_St → Prop} (h : K (nI (gp_sum (d_cm (c_D C)) (c_nm C))) μ) : ∀ (i j : Nat), j + i = c_nm C → w_X7_leftBehind_l4 Q K 0 42 (i + 1) (nI (gp_sum (d_cm (c_D C)) j)) (nI j) μ := by
  have hn := c_nm12 (C := C)
  intro i
  induction i with
  | zero =>
    intro j hj
    have e : j = c_nm C := by omega
    subst e
    unfold w_X7_leftBehind_l4
    rw [rf_0_4, show μ 11 6 = nI (c_nm C) from hA.2.2.1.2.2.1, if_pos (Int32.le_refl _)]
    exact h
  | succ i ih =>
    intro j hj
    have e14 : μ 14 j = nI (d_cm (c_D C) j) := (hA.2.2.1.2.2.2.2 j (by show j < c_nm C; omega)).2.2
    unfold w_X7_leftBehind_l4
    rw [rf_0_4, show μ 11 6 = nI (c_nm C) from hA.2.2.1.2.2.1, if_neg (fun q => absurd ((nI_leI (by omega) (by omega)).mp q) (by omega)), rf_11_5, kc (k := j) (by omega), e14]
    refine ⟨vi (n := 12) (by omega) ln_14 (by omega), ?_⟩
    intro v1 e1 v2 e2
    rw [e1, e2, nI_1, nI_add]
    exact ih (j + 1) (by omega)
theorem s_left_42 {C : gp_C} (hC : gp_cw C) {μ : gk_St} (hA : gp_kA C μ) {nc : Nat} {pl so ro pc : Nat → Nat} {kp : Nat → Bool} {P : gp_P} (hP : P = gp_mk nc pl so ro (c_D C) pc kp) (hw : gp_wf P) (hs : gp_rs P 42 (gp_s P 24) μ) {Q : Int32 → gk_St → Prop} (h : Q (nI (gp_left P)) μ) : w_X7_leftBehind 0 42 μ Q := by
  unfold w_X7_leftBehind
  refine ⟨c_nm C + 1, ?_⟩
  refine s_lbL_42 hA ?_ (c_nm C) 0 (by omega)
  refine s_allOver_42 hs ?_
  have h1 := gp_left_come hw
  have h2 : gp_come P 24 = gp_sum (d_cm (c_D C)) (c_nm C) := by
    rw [hP]
    exact gp_come_all (c_dw hC)
  rw [pk_sub (by omega), show gp_sum (d_cm (c_D C)) (c_nm C) - gp_over P = gp_left P by omega]
  exact h

theorem s_allOver_66 {P : gp_P} {μ : gk_St} (hs : gp_rs P 66 (gp_s P 24) μ) {Q : Int32 → gk_St → Prop} (h : Q (nI (gp_over P)) μ) : w_X2_allOver 66 μ Q := by
  unfold w_X2_allOver
  have e0 : μ 89 0 = nI (a_ov (gp_s P 24) 0) := (hs.2.2.1 0 (by omega)).2
  have e1 : μ 89 1 = nI (a_ov (gp_s P 24) 1) := (hs.2.2.1 1 (by omega)).2
  rw [rf_66_8, z0c, z1c, e0, e1, nI_add]
  exact ⟨vi (k := 0) (n := 2) (by omega) ln_89 (by omega), vi (k := 1) (n := 2) (by omega) ln_89 (by omega), h⟩
theorem s_apL_66 {P : gp_P} {μ : gk_St} (hr : gp_rec P 66 24 μ) {Q : Int32 → gk_St → Prop} {K : Int32 → gk_St → Prop} (h : K (gp_ps P 24) μ) : ∀ (i j : Nat), j + i = 24 → w_X2_allPower_l4 Q K 66 (i + 1) (gp_ps P j) (nI j) μ := by
  intro i
  induction i with
  | zero =>
    intro j hj
    have e : j = 24 := by omega
    subst e
    unfold w_X2_allPower_l4
    rw [if_pos (show (24 : Int32) ≤ nI 24 by decide)]
    exact h
  | succ i ih =>
    intro j hj
    have e18 : μ 84 j = gp_pw P j := (hr j (by omega)).2.2.2
    unfold w_X2_allPower_l4
    rw [if_neg (show ¬ (24 : Int32) ≤ nI j from fun q => absurd ((nI_leI (a := 24) (by omega) (by omega)).mp q) (by omega)), rf_66_3, kc (k := j) (by omega), e18]
    refine ⟨vi (n := 24) (by omega) ln_84 (by omega), ?_⟩
    intro v1 e1 v2 e2
    rw [e1, e2, nI_1]
    exact ih (j + 1) (by omega)
theorem s_allPower_66 {P : gp_P} {μ : gk_St} (hr : gp_rec P 66 24 μ) {Q : Int32 → gk_St → Prop} (h : Q (gp_ps P 24) μ) : w_X2_allPower 66 μ Q := ⟨25, s_apL_66 hr h 24 0 (by omega)⟩
theorem s_lbL_66 {C : gp_C} {μ : gk_St} (hA : gp_kA C μ) {Q : Int32 → gk_St → Prop} {K : Int32 → gk_St → Prop} (h : K (nI (gp_sum (d_cm (c_D C)) (c_nm C))) μ) : ∀ (i j : Nat), j + i = c_nm C → w_X7_leftBehind_l4 Q K 0 66 (i + 1) (nI (gp_sum (d_cm (c_D C)) j)) (nI j) μ := by
  have hn := c_nm12 (C := C)
  intro i
  induction i with
  | zero =>
    intro j hj
    have e : j = c_nm C := by omega
    subst e
    unfold w_X7_leftBehind_l4
    rw [rf_0_4, show μ 11 6 = nI (c_nm C) from hA.2.2.1.2.2.1, if_pos (Int32.le_refl _)]
    exact h
  | succ i ih =>
    intro j hj
    have e14 : μ 14 j = nI (d_cm (c_D C) j) := (hA.2.2.1.2.2.2.2 j (by show j < c_nm C; omega)).2.2
    unfold w_X7_leftBehind_l4
    rw [rf_0_4, show μ 11 6 = nI (c_nm C) from hA.2.2.1.2.2.1, if_neg (fun q => absurd ((nI_leI (by omega) (by omega)).mp q) (by omega)), rf_11_5, kc (k := j) (by omega), e14]
    refine ⟨vi (n := 12) (by omega) ln_14 (by omega), ?_⟩
    intro v1 e1 v2 e2
    rw [e1, e2, nI_1, nI_add]
    exact ih (j + 1) (by omega)
theorem s_left_66 {C : gp_C} (hC : gp_cw C) {μ : gk_St} (hA : gp_kA C μ) {nc : Nat} {pl so ro pc : Nat → Nat} {kp : Nat → Bool} {P : gp_P} (hP : P = gp_mk nc pl so ro (c_D C) pc kp) (hw : gp_wf P) (hs : gp_rs P 66 (gp_s P 24) μ) {Q : Int32 → gk_St → Prop} (h : Q (nI (gp_left P)) μ) : w_X7_leftBehind 0 66 μ Q := by
  unfold w_X7_leftBehind
  refine ⟨c_nm C + 1, ?_⟩
  refine s_lbL_66 hA ?_ (c_nm C) 0 (by omega)
  refine s_allOver_66 hs ?_
  have h1 := gp_left_come hw
  have h2 : gp_come P 24 = gp_sum (d_cm (c_D C)) (c_nm C) := by
    rw [hP]
    exact gp_come_all (c_dw hC)
  rw [pk_sub (by omega), show gp_sum (d_cm (c_D C)) (c_nm C) - gp_over P = gp_left P by omega]
  exact h

theorem s_aiL {P : gp_P} (hn : p_nc P ≤ 6) {μ : gk_St} (hs : gp_rs P 42 (gp_s P 24) μ) (hr : gp_rec P 42 24 μ) {t : Nat} (ht : t < 24) {Q : Int32 → gk_St → Prop} {K : Int32 → gk_St → Prop} (h : K (nI (gp_sum (a_in (gp_s P (t + 1))) (p_nc P))) μ) : ∀ (i j : Nat), j + i = p_nc P → w_X2_allInside_l4 Q K 42 (i + 1) (nI t) (nI (gp_sum (a_in (gp_s P (t + 1))) j)) (nI j) μ := by
  intro i
  induction i with
  | zero =>
    intro j hj
    have e : j = p_nc P := by omega
    subst e
    unfold w_X2_allInside_l4
    rw [hs.1, if_pos (Int32.le_refl _)]
    exact h
  | succ i ih =>
    intro j hj
    have ei : μ (51 + j) t = nI (a_in (gp_s P (t + 1)) j) := ((hr t ht).1 j (by omega)).2
    have erw : gk_rw 50 j = 51 + j ∧ gk_ln (51 + j) = 24 := by
      rcases (show j = 0 ∨ j = 1 ∨ j = 2 ∨ j = 3 ∨ j = 4 ∨ j = 5 by omega) with z | z | z | z | z | z <;> subst z
      · exact ⟨rw_50_0, ln_51⟩
      · exact ⟨rw_50_1, ln_52⟩
      · exact ⟨rw_50_2, ln_53⟩
      · exact ⟨rw_50_3, ln_54⟩
      · exact ⟨rw_50_4, ln_55⟩
      · exact ⟨rw_50_5, ln_56⟩
    unfold w_X2_allInside_l4
    rw [hs.1, if_neg (fun q => absurd ((nI_leI (by omega) (by omega)).mp q) (by omega)), rf_42_1, kc (k := j) (by omega), kc (k := t) (by omega), erw.1, ei]
    refine ⟨vr (n := 6) (by omega) rl_50 (by omega), vi (n := 24) (by omega) erw.2 (by omega), ?_⟩
    intro v1 e1 v2 e2
    rw [e1, e2, nI_1, nI_add]
    exact ih (j + 1) (by omega)
/-- at -/
def v_at (C : gp_C) (t k w : Nat) : Int32 := if w = 0 then nI (a_pl (gp_s (c_P C) (t + 1)) k) else nI (a_in (gp_s (c_P C) (t + 1)) k)
set_option maxHeartbeats 4000000 in
theorem c_at {C : gp_C} {μ : gk_St} (hK : gp_K C μ) {t k w : Nat} (ht : t < 24) (hk : k < c_nc C) (hw : w < 2) {Q : Int32 → gk_St → Prop} (h : ∀ ν, gp_K C ν → Q (v_at C t k w) ν) : w_X7_at 0 (nI t) (nI k) (nI w) μ Q := by
  have hn := c_nc6 (C := C)
  unfold w_X7_at
  refine s_mom_y ht ?_
  rw [if_neg i1n0]
  refine s_car_y hK.2.1.1 hk ?_
  rw [if_neg i1n0]
  refine s_wi (m := 1) (by omega) (by omega) ?_
  rw [if_neg i1n0]
  refine s_asTold hK (fun ν a b c => ?_)
  have erw : gk_rw 50 k = 51 + k ∧ gk_ln (51 + k) = 24 ∧ gk_rw 43 k = 44 + k ∧ gk_ln (44 + k) = 24 := by
    rcases (show k = 0 ∨ k = 1 ∨ k = 2 ∨ k = 3 ∨ k = 4 ∨ k = 5 by omega) with z | z | z | z | z | z <;> subst z
    · exact ⟨rw_50_0, ln_51, rw_43_0, ln_44⟩
    · exact ⟨rw_50_1, ln_52, rw_43_1, ln_45⟩
    · exact ⟨rw_50_2, ln_53, rw_43_2, ln_46⟩
    · exact ⟨rw_50_3, ln_54, rw_43_3, ln_47⟩
    · exact ⟨rw_50_4, ln_55, rw_43_4, ln_48⟩
    · exact ⟨rw_50_5, ln_56, rw_43_5, ln_49⟩
  obtain ⟨q1, q2⟩ := (c t ht).1 k hk
  have q1' : ν (44 + k) t = nI (a_pl (gp_s (c_P C) (t + 1)) k) := q1
  have q2' : ν (51 + k) t = nI (a_in (gp_s (c_P C) (t + 1)) k) := q2
  rw [rf_42_0, rf_42_1, kc (k := k) (by omega), kc (k := t) (by omega), erw.1, erw.2.2.1, q1', q2']
  refine gp_c2 hw (fun z => ?_) (fun z => ?_)
  · subst z
    exact ⟨vr (n := 6) (by omega) rl_43 (by omega), vi (n := 24) (by omega) erw.2.2.2 (by omega), h ν a⟩
  · subst z
    exact ⟨vr (n := 6) (by omega) rl_50 (by omega), vi (n := 24) (by omega) erw.2.1 (by omega), h ν a⟩
theorem m_at {C : gp_C} {μ : gk_St} (hK : gp_K C μ) {t k w : Nat} (ht : t < 24) (hk : k < c_nc C) (hw : w < 2) {Q : Int32 → gk_St → Prop} (h : ∀ ν, gp_K C ν → gp_rd (c_tn C) (c_tb C) ν → Q (v_at C t k w) ν) : w_X8_atOf 101 (nI t) (nI k) (nI w) μ Q := by
  have hn := c_nc6 (C := C)
  unfold w_X8_atOf
  refine s_mrunT hK (fun ν a b c d => ?_)
  obtain ⟨q1, q2⟩ := (c.2.2 t ht).2.2.2.2 k hk
  rw [rf_101_34, rf_101_35, e6c, nI_add, kc (by omega), q1, q2]
  refine gp_c2 hw (fun z => ?_) (fun z => ?_)
  · subst z
    exact ⟨vi (n := 144) (by omega) ln_123 (by omega), h ν a b⟩
  · subst z
    exact ⟨vi (n := 144) (by omega) ln_124 (by omega), h ν a b⟩
/-- waits -/
def v_wt (C : gp_C) (t w : Nat) : Int32 := if w = 0 then nI (a_wt (gp_s (c_P C) (t + 1)) 0) else if w = 1 then nI (a_wt (gp_s (c_P C) (t + 1)) 1) else if w = 2 then nI (gp_sum (a_in (gp_s (c_P C) (t + 1))) (p_nc (c_P C))) else gp_pw (c_P C) t
set_option maxHeartbeats 4000000 in
theorem c_wt {C : gp_C} {μ : gk_St} (hK : gp_K C μ) {t w : Nat} (ht : t < 24) (hw : w < 4) {Q : Int32 → gk_St → Prop} (h : ∀ ν, gp_K C ν → Q (v_wt C t w) ν) : w_X7_waits 0 (nI t) (nI w) μ Q := by
  unfold w_X7_waits
  refine s_mom_y ht ?_
  rw [if_neg i1n0]
  refine s_wi (m := 3) (by omega) (by omega) ?_
  rw [if_neg i1n0]
  refine s_asTold hK (fun ν a b c => ?_)
  obtain ⟨q1, q2, q3, q4⟩ := c t ht
  have q2' : ν 58 t = nI (a_wt (gp_s (c_P C) (t + 1)) 0) := q2
  have q3' : ν 59 t = nI (a_wt (gp_s (c_P C) (t + 1)) 1) := q3
  have q4' : ν 60 t = gp_pw (c_P C) t := q4
  rw [rf_42_2, rf_42_3, z0c, z1c, rw_57_0, rw_57_1, kc (k := t) (by omega), q2', q3', q4']
  rcases (show w = 0 ∨ w = 1 ∨ w = 2 ∨ w = 3 by omega) with z | z | z | z <;> subst z
  · rw [if_pos (by decide)]
    exact ⟨vr (k := 0) (n := 2) (by omega) rl_57 (by omega), vi (n := 24) (by omega) ln_58 (by omega), h ν a⟩
  · rw [if_neg (by decide), if_pos (by decide)]
    exact ⟨vr (k := 1) (n := 2) (by omega) rl_57 (by omega), vi (n := 24) (by omega) ln_59 (by omega), h ν a⟩
  · rw [if_neg (by decide), if_neg (by decide), if_pos (by decide)]
    exact ⟨p_nc (c_P C) + 1, s_aiL (P := c_P C) c_nc6 b c ht (h ν a) (p_nc (c_P C)) 0 (by omega)⟩
  · rw [if_neg (by decide), if_neg (by decide), if_neg (by decide)]
    exact ⟨vi (n := 24) (by omega) ln_60 (by omega), h ν a⟩
theorem m_wt {C : gp_C} {μ : gk_St} (hK : gp_K C μ) {t w : Nat} (ht : t < 24) (hw : w < 4) {Q : Int32 → gk_St → Prop} (h : ∀ ν, gp_K C ν → gp_rd (c_tn C) (c_tb C) ν → Q (v_wt C t w) ν) : w_X8_waitsOf 101 (nI t) (nI w) μ Q := by
  unfold w_X8_waitsOf
  refine s_mrunT hK (fun ν a b c d => ?_)
  obtain ⟨q1, q2, q3, q4, q5⟩ := c.2.2 t ht
  rw [rf_101_32, rf_101_33, rf_101_31, e2c, nI_add, kc (k := t) (by omega), kc (k := 2 * t + w) (by omega), q3, q4]
  rcases (show w = 0 ∨ w = 1 ∨ w = 2 ∨ w = 3 by omega) with z | z | z | z <;> subst z
  · rw [if_neg (by decide), Nat.add_zero, q1]
    exact ⟨vi (n := 48) (by omega) ln_120 (by omega), h ν a b⟩
  · rw [if_neg (by decide), q2]
    exact ⟨vi (n := 48) (by omega) ln_120 (by omega), h ν a b⟩
  · rw [if_pos (by decide), if_pos (by decide)]
    exact ⟨vi (n := 24) (by omega) ln_121 (by omega), h ν a b⟩
  · rw [if_pos (by decide), if_neg (by decide)]
    exact ⟨vi (n := 24) (by omega) ln_122 (by omega), h ν a b⟩
/-- over, sum, first, carried, idle, left -/
theorem c_ov {C : gp_C} {μ : gk_St} (hK : gp_K C μ) {s : Nat} (hs : s < 2) {Q : Int32 → gk_St → Prop} (h : ∀ ν, gp_K C ν → Q (nI (a_ov (gp_s (c_P C) 24) s)) ν) : w_X7_over 0 (nI s) μ Q := by
  unfold w_X7_over
  refine s_sta_y hs ?_
  rw [if_neg i1n0]
  refine s_asTold hK (fun ν a b c => ?_)
  have q : ν 65 s = nI (a_ov (gp_s (c_P C) 24) s) := (b.2.2.1 s hs).2
  rw [rf_42_8, kc (k := s) (by omega), q]
  exact ⟨vi (n := 2) (by omega) ln_65 (by omega), h ν a⟩
theorem m_ov {C : gp_C} {μ : gk_St} (hK : gp_K C μ) {s : Nat} (hs : s < 2) {Q : Int32 → gk_St → Prop} (h : ∀ ν, gp_K C ν → gp_rd (c_tn C) (c_tb C) ν → Q (nI (a_ov (gp_s (c_P C) 24) s)) ν) : w_X8_overOf 101 (nI s) μ Q := by
  unfold w_X8_overOf
  refine s_mrunT hK (fun ν a b c d => ?_)
  rw [rf_101_26, kc (k := s) (by omega), (c.1.2.1 s hs).2]
  exact ⟨vi (n := 2) (by omega) ln_119 (by omega), h ν a b⟩
theorem c_su {C : gp_C} {μ : gk_St} (hK : gp_K C μ) {Q : Int32 → gk_St → Prop} (h : ∀ ν, gp_K C ν → Q (gp_ps (c_P C) 24) ν) : w_X7_sum 0 μ Q := by
  unfold w_X7_sum
  refine s_asTold hK (fun ν a b c => ?_)
  exact s_allPower_42 c (h ν a)
theorem m_su {C : gp_C} {μ : gk_St} (hK : gp_K C μ) {Q : Int32 → gk_St → Prop} (h : ∀ ν, gp_K C ν → gp_rd (c_tn C) (c_tb C) ν → Q (gp_ps (c_P C) 24) ν) : w_X8_sumOf 101 μ Q := by
  unfold w_X8_sumOf
  refine s_mrunT hK (fun ν a b c d => ?_)
  rw [c.2.1]
  exact h ν a b
def v_fi (C : gp_C) (w : Nat) : Int32 := if w = 0 then a_fm (gp_s (c_P C) 24) else a_fc (gp_s (c_P C) 24)
theorem c_fi2 {C : gp_C} {μ : gk_St} (hK : gp_K C μ) {w : Nat} (hw : w < 2) {Q : Int32 → gk_St → Prop} (h : ∀ ν, gp_K C ν → Q (v_fi C w) ν) : w_X7_first 0 (nI w) μ Q := by
  unfold w_X7_first
  rcases (show w = 0 ∨ w = 1 by omega) with z | z <;> subst z
  · rw [if_pos (by decide)]
    refine s_asTold hK (fun ν a b c => ?_)
    rw [b.2.2.2.2.1]
    exact h ν a
  · rw [if_neg (by decide), if_pos (by decide)]
    refine s_asTold hK (fun ν a b c => ?_)
    rw [b.2.2.2.2.2]
    exact h ν a
theorem m_fi2 {C : gp_C} {μ : gk_St} (hK : gp_K C μ) {w : Nat} (hw : w < 2) {Q : Int32 → gk_St → Prop} (h : ∀ ν, gp_K C ν → gp_rd (c_tn C) (c_tb C) ν → Q (v_fi C w) ν) : w_X8_firstOf 101 (nI w) μ Q := by
  unfold w_X8_firstOf
  refine s_mrunT hK (fun ν a b c d => ?_)
  rw [c.1.2.2.2.1, c.1.2.2.2.2]
  refine gp_c2 hw (fun z => ?_) (fun z => ?_) <;> subst z <;> exact h ν a b
theorem c_ca {C : gp_C} {μ : gk_St} (hK : gp_K C μ) {k : Nat} (hk : k < c_nc C) {Q : Int32 → gk_St → Prop} (h : ∀ ν, gp_K C ν → Q (nI (a_ou (gp_s (c_P C) 24) k)) ν) : w_X7_carried 0 (nI k) μ Q := by
  have hn := c_nc6 (C := C)
  unfold w_X7_carried
  refine s_car_y hK.2.1.1 hk ?_
  rw [if_neg i1n0]
  refine s_asTold hK (fun ν a b c => ?_)
  have q : ν 63 k = nI (a_ou (gp_s (c_P C) 24) k) := (b.2.1 k hk).2.2
  rw [rf_42_6, kc (k := k) (by omega), q]
  exact ⟨vi (n := 6) (by omega) ln_63 (by omega), h ν a⟩
theorem m_ca {C : gp_C} {μ : gk_St} (hK : gp_K C μ) {k : Nat} (hk : k < c_nc C) {Q : Int32 → gk_St → Prop} (h : ∀ ν, gp_K C ν → gp_rd (c_tn C) (c_tb C) ν → Q (nI (a_ou (gp_s (c_P C) 24) k)) ν) : w_X8_carriedOf 101 (nI k) μ Q := by
  have hn := c_nc6 (C := C)
  unfold w_X8_carriedOf
  refine s_mrunT hK (fun ν a b c d => ?_)
  rw [rf_101_23, kc (k := k) (by omega), (c.1.1 k hk).2.2]
  exact ⟨vi (n := 6) (by omega) ln_117 (by omega), h ν a b⟩
def v_id (C : gp_C) : Int32 := (((1 : Int32) <<< (nI (c_nc C) &&& 31)) - 1) &&& (a_us (gp_s (c_P C) 24) ^^^ (-1))
theorem c_id {C : gp_C} {μ : gk_St} (hK : gp_K C μ) {Q : Int32 → gk_St → Prop} (h : ∀ ν, gp_K C ν → Q (v_id C) ν) : w_X7_idle 0 μ Q := by
  unfold w_X7_idle
  rw [rf_0_3, show μ 7 6 = nI (c_nc C) from hK.2.1.1.2.1.2.2.1]
  refine s_asTold hK (fun ν a b c => ?_)
  rw [b.2.2.2.1]
  exact h ν a
theorem m_id {C : gp_C} {μ : gk_St} (hK : gp_K C μ) {Q : Int32 → gk_St → Prop} (h : ∀ ν, gp_K C ν → gp_rd (c_tn C) (c_tb C) ν → Q (v_id C) ν) : w_X8_idleOf 101 μ Q := by
  unfold w_X8_idleOf
  refine s_mrunT hK (fun ν a b c d => ?_)
  rw [b.1, c.1.2.2.1]
  exact h ν a b
theorem c_le {C : gp_C} {μ : gk_St} (hK : gp_K C μ) {Q : Int32 → gk_St → Prop} (h : ∀ ν, gp_K C ν → Q (nI (gp_left (c_P C))) ν) : w_X7_left 0 μ Q := by
  unfold w_X7_left
  refine s_asTold hK (fun ν a b c => ?_)
  exact s_left_42 hK.1 a.2.1.1 rfl (c_wf hK.1) b (h ν a)
theorem m_leftNow {P : gp_P} {ν : gk_St} (c : gp_mrun P ν) {Q : Int32 → gk_St → Prop} (h : Q (nI (gp_left P)) ν) : w_X8_leftNow 101 ν Q := by
  unfold w_X8_leftNow
  rw [rf_101_25, rf_101_32, z0c, z1c, show ((23 : Int32)).toNatClampNeg = 23 from by decide, (c.1.2.1 0 (by omega)).1, (c.1.2.1 1 (by omega)).1, (c.2.2 23 (by omega)).2.2.1, nI_add, nI_add]
  exact ⟨vi (k := 0) (n := 2) (by omega) ln_118 (by omega), vi (k := 1) (n := 2) (by omega) ln_118 (by omega), vi (k := 23) (n := 24) (by omega) ln_121 (by omega), h⟩
theorem m_le {C : gp_C} {μ : gk_St} (hK : gp_K C μ) {Q : Int32 → gk_St → Prop} (h : ∀ ν, gp_K C ν → gp_rd (c_tn C) (c_tb C) ν → Q (nI (gp_left (c_P C))) ν) : w_X8_leftOf 101 μ Q := by
  unfold w_X8_leftOf
  refine s_mrunT hK (fun ν a b c d => ?_)
  exact m_leftNow c (h ν a b)
theorem m_bothOver {P : gp_P} {ν : gk_St} (c : gp_mrun P ν) {Q : Int32 → gk_St → Prop} (h : Q (nI (gp_over P)) ν) : w_X8_bothOver 101 ν Q := by
  unfold w_X8_bothOver
  rw [rf_101_26, z0c, z1c, (c.1.2.1 0 (by omega)).2, (c.1.2.1 1 (by omega)).2, nI_add]
  exact ⟨vi (k := 0) (n := 2) (by omega) ln_119 (by omega), vi (k := 1) (n := 2) (by omega) ln_119 (by omega), h⟩
theorem k_ok_sum : ok_sum gp_Inv := by
  intro μ ⟨C, hK⟩
  refine c_su hK (fun ν hK => ?_)
  unfold w_X8_sum
  exact m_su hK (fun ν hK hR => ⟨rfl, C, hK⟩)
theorem k_ok_idle : ok_idle gp_Inv := by
  intro μ ⟨C, hK⟩
  refine c_id hK (fun ν hK => ?_)
  unfold w_X8_idle
  exact m_id hK (fun ν hK hR => ⟨rfl, C, hK⟩)
theorem k_ok_left : ok_left gp_Inv := by
  intro μ ⟨C, hK⟩
  refine c_le hK (fun ν hK => ?_)
  unfold w_X8_left
  exact m_le hK (fun ν hK hR => ⟨rfl, C, hK⟩)
/-- crowd -/
def gp_best (f : Nat → Nat) : Nat → Nat
  | 0 => 0
  | n + 1 => if f (n + 1) ≤ f (gp_best f n) then gp_best f n else n + 1
theorem gp_best_le {f : Nat → Nat} : ∀ n, gp_best f n ≤ n
  | 0 => Nat.le_refl 0
  | n + 1 => by
    unfold gp_best
    split
    · exact Nat.le_succ_of_le (gp_best_le n)
    · exact Nat.le_refl _
def v_cf (C : gp_C) (s t : Nat) : Nat := a_wt (gp_s (c_P C) (t + 1)) s
def v_cr (C : gp_C) (s w : Nat) : Int32 := if w = 0 then nI (gp_best (v_cf C s) 23) else nI (v_cf C s (gp_best (v_cf C s) 23))
theorem v_cf_le {C : gp_C} (hC : gp_cw C) {s t : Nat} (hs : s < 2) (ht : t < 24) : v_cf C s t ≤ 108 := (gp_sm_of (Nat.le_trans (gp_come_mono (by omega)) (c_wf hC).2.2.2) (gp_ok_s (c_wf hC) (t + 1))).1 s hs
theorem c_crL {a : Nat} {f : Nat → Nat} (hf : ∀ t, t < 24 → f t ≤ 108) (hl : gk_ln a = 24) {μ : gk_St} (hc : ∀ t, t < 24 → μ a t = nI (f t)) {x2 : Int32} {Q : Int32 → gk_St → Prop} {K : Int32 → Int32 → gk_St → Prop} (h : K x2 (nI (gp_best f 23)) μ) : ∀ (i j : Nat), j + i = 23 → w_X7_crowd_l35 Q K a (i + 1) x2 (nI (gp_best f j)) (nI (j + 1)) μ := by
  intro i
  induction i with
  | zero =>
    intro j hj
    have e : j = 23 := by omega
    subst e
    unfold w_X7_crowd_l35
    rw [if_pos (show (24 : Int32) ≤ nI (23 + 1) by decide)]
    exact h
  | succ i ih =>
    intro j hj
    have hb := gp_best_le (f := f) j
    have h1 := hf (j + 1) (by omega)
    have h2 := hf (gp_best f j) (by omega)
    have ihj := ih (j + 1) (by omega)
    unfold w_X7_crowd_l35
    rw [if_neg (show ¬ (24 : Int32) ≤ nI (j + 1) from fun q => absurd ((nI_leI (a := 24) (by omega) (by omega)).mp q) (by omega)), kc (k := j + 1) (by omega), kc (k := gp_best f j) (by omega), hc (j + 1) (by omega), hc (gp_best f j) (by omega)]
    refine ⟨vi (n := 24) (by omega) hl (by omega), vi (n := 24) (by omega) hl (by omega), ?_⟩
    have hs : gp_best f (j + 1) = if f (j + 1) ≤ f (gp_best f j) then gp_best f j else j + 1 := rfl
    rw [hs] at ihj
    by_cases c : f (j + 1) ≤ f (gp_best f j)
    · rw [if_pos ((nI_leI (by omega) (by omega)).mpr c)]
      rw [if_pos c] at ihj
      intro v e
      rw [e, nI_1]
      exact ihj
    · rw [if_neg (fun q => c ((nI_leI (by omega) (by omega)).mp q))]
      rw [if_neg c] at ihj
      intro v e
      rw [e, nI_1]
      exact ihj
theorem c_cr {C : gp_C} {μ : gk_St} (hK : gp_K C μ) {s w : Nat} (hs : s < 2) (hw : w < 2) {Q : Int32 → gk_St → Prop} (h : ∀ ν, gp_K C ν → Q (v_cr C s w) ν) : w_X7_crowd 0 (nI s) (nI w) μ Q := by
  unfold w_X7_crowd
  refine s_sta_y hs ?_
  rw [if_neg i1n0]
  refine s_wi (m := 1) (by omega) (by omega) ?_
  rw [if_neg i1n0]
  refine s_asTold hK (fun ν a b c => ?_)
  have erw : gk_rw 57 s = 58 + s ∧ gk_ln (58 + s) = 24 := by
    rcases (show s = 0 ∨ s = 1 by omega) with z | z <;> subst z
    · exact ⟨rw_57_0, ln_58⟩
    · exact ⟨rw_57_1, ln_59⟩
  have hc : ∀ t, t < 24 → ν (58 + s) t = nI (v_cf C s t) := fun t ht => by
    rcases (show s = 0 ∨ s = 1 by omega) with z | z <;> subst z
    · exact (c t ht).2.1
    · exact (c t ht).2.2.1
  have hb := gp_best_le (f := v_cf C s) 23
  rw [rf_42_2, kc (k := s) (by omega), erw.1]
  refine ⟨vr (n := 2) (by omega) rl_57 (by omega), 24, ?_⟩
  refine c_crL (f := v_cf C s) (fun t ht => v_cf_le hK.1 hs ht) erw.2 hc ?_ 23 0 (by omega)
  refine gp_c2 hw (fun z => ?_) (fun z => ?_)
  · subst z
    exact h ν a
  · subst z
    rw [kc (by omega), hc _ (by omega)]
    exact ⟨vi (n := 24) (by omega) erw.2 (by omega), h ν a⟩
theorem m_crL {s : Nat} (hs : s < 2) {f : Nat → Nat} (hf : ∀ t, t < 24 → f t ≤ 108) {μ : gk_St} (hc : ∀ t, t < 24 → μ 120 (2 * t + s) = nI (f t)) {x2 : Int32} {Q : Int32 → gk_St → Prop} {K : Int32 → Int32 → Int32 → gk_St → Prop} (h : K (nI s) x2 (nI (gp_best f 23)) μ) : ∀ (i j : Nat), j + i = 23 → w_X8_crowdOf_l9 Q K 101 (i + 1) (nI s) x2 (nI (gp_best f j)) (nI (j + 1)) μ := by
  intro i
  induction i with
  | zero =>
    intro j hj
    have e : j = 23 := by omega
    subst e
    unfold w_X8_crowdOf_l9
    rw [if_pos (show (24 : Int32) ≤ nI (23 + 1) by decide)]
    exact h
  | succ i ih =>
    intro j hj
    have hb := gp_best_le (f := f) j
    have h1 := hf (j + 1) (by omega)
    have h2 := hf (gp_best f j) (by omega)
    have ihj := ih (j + 1) (by omega)
    unfold w_X8_crowdOf_l9
    rw [if_neg (show ¬ (24 : Int32) ≤ nI (j + 1) from fun q => absurd ((nI_leI (a := 24) (by omega) (by omega)).mp q) (by omega)), e2c, e2c, nI_add, nI_add, rf_101_31, kc (k := 2 * (j + 1) + s) (by omega), kc (k := 2 * gp_best f j + s) (by omega), hc (j + 1) (by omega), hc (gp_best f j) (by omega)]
    refine ⟨vi (n := 48) (by omega) ln_120 (by omega), vi (n := 48) (by omega) ln_120 (by omega), ?_⟩
    have hs : gp_best f (j + 1) = if f (j + 1) ≤ f (gp_best f j) then gp_best f j else j + 1 := rfl
    rw [hs] at ihj
    by_cases c : f (j + 1) ≤ f (gp_best f j)
    · rw [if_pos ((nI_leI (by omega) (by omega)).mpr c)]
      rw [if_pos c] at ihj
      intro v e
      rw [e, nI_1]
      exact ihj
    · rw [if_neg (fun q => c ((nI_leI (by omega) (by omega)).mp q))]
      rw [if_neg c] at ihj
      intro v e
      rw [e, nI_1]
      exact ihj
theorem m_cr {C : gp_C} {μ : gk_St} (hK : gp_K C μ) {s w : Nat} (hs : s < 2) (hw : w < 2) {Q : Int32 → gk_St → Prop} (h : ∀ ν, gp_K C ν → gp_rd (c_tn C) (c_tb C) ν → Q (v_cr C s w) ν) : w_X8_crowdOf 101 (nI s) (nI w) μ Q := by
  unfold w_X8_crowdOf
  refine s_mrunT hK (fun ν a b c d => ?_)
  have hc : ∀ t, t < 24 → ν 120 (2 * t + s) = nI (v_cf C s t) := fun t ht => by
    rcases (show s = 0 ∨ s = 1 by omega) with z | z <;> subst z
    · exact (c.2.2 t ht).1
    · exact (c.2.2 t ht).2.1
  have hb := gp_best_le (f := v_cf C s) 23
  refine ⟨24, ?_⟩
  refine m_crL hs (f := v_cf C s) (fun t ht => v_cf_le hK.1 hs ht) hc ?_ 23 0 (by omega)
  refine gp_c2 hw (fun z => ?_) (fun z => ?_)
  · subst z
    exact h ν a b
  · subst z
    rw [e2c, nI_add, rf_101_31, kc (by omega), hc _ (by omega)]
    exact ⟨vi (n := 48) (by omega) ln_120 (by omega), h ν a b⟩
theorem k_ok_first : ok_first gp_Inv := by
  intro μ x1 ⟨C, hk⟩
  rcases rg x1 1 (by omega) with ⟨x, hx, rfl⟩ | hx
  · refine c_fi2 hk (by omega) (fun ν hK => ?_)
    unfold w_X8_first
    refine m_two_y (by omega) ?_
    rw [if_neg i1n0]
    exact m_fi2 hK (by omega) (fun ν a b => ⟨rfl, C, a⟩)
  · unfold w_X7_first
    rw [if_neg (show ¬ x1 = 0 from nr_ne (by omega) hx (j := 0) (by omega)), if_neg (show ¬ x1 = 1 from nr_ne (by omega) hx (j := 1) (by omega))]
    unfold w_X8_first
    refine m_two_n hx ?_
    rw [if_pos rfl]
    exact ⟨rfl, C, hk⟩
set_option maxHeartbeats 4000000 in
theorem k_ok_at : ok_at gp_Inv := by
  intro μ x1 x2 x3 ⟨C, hK⟩
  rcases rg x1 23 (by omega) with ⟨a0, h0, rfl⟩ | b0
  · rcases rgc x2 (c_nc C) (Nat.lt_of_le_of_lt c_nc6 (by omega)) with ⟨a1, h1, rfl⟩ | b1
    · rcases rg x3 1 (by omega) with ⟨a2, h2, rfl⟩ | b2
      · refine c_at hK (by omega) h1 (by omega) (fun ν hK => ?_)
        unfold w_X8_at
        refine m_mom_y (by omega) ?_
        rw [if_neg i1n0]
        refine m_car_y hK h1 (fun ν hK hR => ?_)
        rw [if_neg i1n0]
        refine m_two_y (by omega) ?_
        rw [if_neg i1n0]
        exact m_at hK (by omega) h1 (by omega) (fun ν hK hR => ⟨rfl, C, hK⟩)
      · unfold w_X7_at
        refine s_mom_y (by omega) ?_
        rw [if_neg i1n0]
        refine s_car_y hK.2.1.1 h1 ?_
        rw [if_neg i1n0]
        refine s_w_n b2 ?_
        rw [if_pos rfl]
        unfold w_X8_at
        refine m_mom_y (by omega) ?_
        rw [if_neg i1n0]
        refine m_car_y hK h1 (fun ν hK hR => ?_)
        rw [if_neg i1n0]
        refine m_two_n b2 ?_
        rw [if_pos rfl]
        exact ⟨rfl, C, hK⟩
    · unfold w_X7_at
      refine s_mom_y (by omega) ?_
      rw [if_neg i1n0]
      refine s_car_n hK.2.1.1 b1 ?_
      rw [if_pos rfl]
      unfold w_X8_at
      refine m_mom_y (by omega) ?_
      rw [if_neg i1n0]
      refine m_car_n hK b1 (fun ν hK hR => ?_)
      rw [if_pos rfl]
      exact ⟨rfl, C, hK⟩
  · unfold w_X7_at
    refine s_mom_n b0 ?_
    rw [if_pos rfl]
    unfold w_X8_at
    refine m_mom_n b0 ?_
    rw [if_pos rfl]
    exact ⟨rfl, C, hK⟩
set_option maxHeartbeats 4000000 in
theorem k_ok_waits : ok_waits gp_Inv := by
  intro μ x1 x2 ⟨C, hK⟩
  rcases rg x1 23 (by omega) with ⟨a0, h0, rfl⟩ | b0
  · rcases rg x2 3 (by omega) with ⟨a1, h1, rfl⟩ | b1
    · refine c_wt hK (by omega) (by omega) (fun ν hK => ?_)
      unfold w_X8_waits
      refine m_mom_y (by omega) ?_
      rw [if_neg i1n0]
      refine s_ii (m := 3) (by omega) h1 ?_
      rw [if_neg i1n0]
      exact m_wt hK (by omega) (by omega) (fun ν hK hR => ⟨rfl, C, hK⟩)
    · unfold w_X7_waits
      refine s_mom_y (by omega) ?_
      rw [if_neg i1n0]
      refine s_w_n b1 ?_
      rw [if_pos rfl]
      unfold w_X8_waits
      refine m_mom_y (by omega) ?_
      rw [if_neg i1n0]
      refine s_in_n b1 ?_
      rw [if_pos rfl]
      exact ⟨rfl, C, hK⟩
  · unfold w_X7_waits
    refine s_mom_n b0 ?_
    rw [if_pos rfl]
    unfold w_X8_waits
    refine m_mom_n b0 ?_
    rw [if_pos rfl]
    exact ⟨rfl, C, hK⟩
set_option maxHeartbeats 4000000 in
theorem k_ok_over : ok_over gp_Inv := by
  intro μ x1 ⟨C, hK⟩
  rcases rg x1 1 (by omega) with ⟨a0, h0, rfl⟩ | b0
  · refine c_ov hK (by omega) (fun ν hK => ?_)
    unfold w_X8_over
    refine m_two_y (by omega) ?_
    rw [if_neg i1n0]
    exact m_ov hK (by omega) (fun ν hK hR => ⟨rfl, C, hK⟩)
  · unfold w_X7_over
    refine s_sta_n b0 ?_
    rw [if_pos rfl]
    unfold w_X8_over
    refine m_two_n b0 ?_
    rw [if_pos rfl]
    exact ⟨rfl, C, hK⟩
set_option maxHeartbeats 4000000 in
theorem k_ok_carried : ok_carried gp_Inv := by
  intro μ x1 ⟨C, hK⟩
  rcases rgc x1 (c_nc C) (Nat.lt_of_le_of_lt c_nc6 (by omega)) with ⟨a0, h0, rfl⟩ | b0
  · refine c_ca hK h0 (fun ν hK => ?_)
    unfold w_X8_carried
    refine m_car_y hK h0 (fun ν hK hR => ?_)
    rw [if_neg i1n0]
    exact m_ca hK h0 (fun ν hK hR => ⟨rfl, C, hK⟩)
  · unfold w_X7_carried
    refine s_car_n hK.2.1.1 b0 ?_
    rw [if_pos rfl]
    unfold w_X8_carried
    refine m_car_n hK b0 (fun ν hK hR => ?_)
    rw [if_pos rfl]
    exact ⟨rfl, C, hK⟩
set_option maxHeartbeats 4000000 in
theorem k_ok_crowd : ok_crowd gp_Inv := by
  intro μ x1 x2 ⟨C, hK⟩
  rcases rg x1 1 (by omega) with ⟨a0, h0, rfl⟩ | b0
  · rcases rg x2 1 (by omega) with ⟨a1, h1, rfl⟩ | b1
    · refine c_cr hK (by omega) (by omega) (fun ν hK => ?_)
      unfold w_X8_crowd
      refine m_two_y (by omega) ?_
      rw [if_neg i1n0]
      refine m_two_y (by omega) ?_
      rw [if_neg i1n0]
      exact m_cr hK (by omega) (by omega) (fun ν hK hR => ⟨rfl, C, hK⟩)
    · unfold w_X7_crowd
      refine s_sta_y (by omega) ?_
      rw [if_neg i1n0]
      refine s_w_n b1 ?_
      rw [if_pos rfl]
      unfold w_X8_crowd
      refine m_two_y (by omega) ?_
      rw [if_neg i1n0]
      refine m_two_n b1 ?_
      rw [if_pos rfl]
      exact ⟨rfl, C, hK⟩
  · unfold w_X7_crowd
    refine s_sta_n b0 ?_
    rw [if_pos rfl]
    unfold w_X8_crowd
    refine m_two_n b0 ?_
    rw [if_pos rfl]
    exact ⟨rfl, C, hK⟩
