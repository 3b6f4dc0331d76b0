/-! hang -/
def gp_ot (C : gp_C) (k p : Nat) : Bool := gp_any (fun i => !(i == k) && c_pl C i == p) (c_nc C)
def c_Ph (C : gp_C) (k p : Nat) : gp_P := gp_mk (c_nc C) (gp_u (c_pl C) k p) (c_so C) (c_ro C) (c_D C) (c_pc C) (fun _ => true)
theorem c_Ph_wf {C : gp_C} (hC : gp_cw C) {k p : Nat} (hp : p < 24) : gp_wf (c_Ph C k p) := gp_wf_mk (c_dw hC) c_nc6 (fun j hj => by
  refine ⟨?_, (c_car hj).2⟩
  by_cases e : j = k
  · rw [e, gp_us]
    exact hp
  · rw [gp_un e]
    exact (c_car hj).1) (fun x _ => c_pc3)
def gp_hb (C : gp_C) (k : Nat) : Nat → Int32 × Int32 := gp_bm (fun p => !gp_ot C k p) (fun p => nI (gp_over (c_Ph C k p)))
def v_ha (C : gp_C) (k w : Nat) : Int32 := gp_w2 (gp_hb C k 24) w
set_option maxHeartbeats 4000000 in
theorem s_anL {C : gp_C} {μ : gk_St} (hA : gp_kA C μ) {k p : Nat} (hk : k < c_nc C) (hp : p < 24) {Q : Int32 → gk_St → Prop} {K : gk_St → Prop} (hy : gp_ot C k p = true → Q 1 μ) (hn : gp_ot C k p = false → K μ) : ∀ (i j : Nat), j + i = c_nc C → gp_any (fun i => !(i == k) && c_pl C i == p) j = false → w_X7_anotherHangsAt_l2 Q K 0 (i + 1) (nI p) (nI k) (nI j) μ := by
  have hn6 := c_nc6 (C := C)
  have e6 : μ 7 6 = nI (c_nc C) := hA.2.1.2.2.1
  intro i
  induction i with
  | zero =>
    intro j hj h
    have e : j = c_nc C := by omega
    subst e
    unfold w_X7_anotherHangsAt_l2
    rw [rf_0_3, e6, if_pos (Int32.le_refl _)]
    exact hn h
  | succ i ih =>
    intro j hj h
    have hs : gp_any (fun i => !(i == k) && c_pl C i == p) (j + 1) = (gp_any (fun i => !(i == k) && c_pl C i == p) j || (!(j == k) && c_pl C j == p)) := rfl
    rw [h, Bool.false_or] at hs
    have hc := c_car (C := C) (k := j) (by omega)
    have e8 : μ 8 j = nI (c_pl C j) := (hA.2.1.2.2.2.2 j (by show j < c_nc C; omega)).1
    unfold w_X7_anotherHangsAt_l2
    rw [rf_0_3, e6, if_neg (fun q => absurd ((nI_leI (by omega) (by omega)).mp q) (by omega)), rf_7_3, kc (k := j) (by omega), e8]
    by_cases z : j = k
    · rw [if_pos (by rw [z])]
      intro v e
      rw [e, nI_1]
      refine ih (j + 1) (by omega) ?_
      rw [hs, z]
      simp
    · rw [if_neg (fun q => z ((nI_eq (by omega) (by omega)).mp q))]
      refine ⟨vi (n := 12) (by omega) ln_8 (by omega), ?_⟩
      by_cases y : c_pl C j = p
      · rw [if_pos (by rw [y])]
        exact hy (gp_any_iff.mpr ⟨j, by omega, by simp [z, y]⟩)
      · rw [if_neg (fun q => y ((nI_eq (by omega) (by omega)).mp q))]
        intro v e
        rw [e, nI_1]
        refine ih (j + 1) (by omega) ?_
        rw [hs, show (c_pl C j == p) = false by simpa using y, Bool.and_false]
theorem s_an {C : gp_C} {μ : gk_St} (hA : gp_kA C μ) {k p : Nat} (hk : k < c_nc C) (hp : p < 24) {Q : Int32 → gk_St → Prop} (h : Q (gp_bi (gp_ot C k p)) μ) : w_X7_anotherHangsAt 0 (nI p) (nI k) μ Q := by
  unfold w_X7_anotherHangsAt
  refine ⟨c_nc C + 1, s_anL hA hk hp (fun q => ?_) (fun q => ?_) (c_nc C) 0 (by omega) rfl⟩
  · rw [q] at h
    exact h
  · rw [q] at h
    exact h
theorem gp_hb_s {C : gp_C} {k j : Nat} : gp_hb C k (j + 1) = if gp_ot C k j = true then gp_hb C k j else (if nI (gp_over (c_Ph C k j)) ≤ (gp_hb C k j).2 then gp_hb C k j else (nI j, nI (gp_over (c_Ph C k j)))) := by
  show (if (!gp_ot C k j) = true then _ else _) = _
  cases gp_ot C k j <;> rfl
set_option maxHeartbeats 4000000 in
theorem c_haL {C : gp_C} {k : Nat} (hk : k < c_nc C) {x2 : Int32} {Q : Int32 → gk_St → Prop} {K : Int32 → Int32 → Int32 → gk_St → Prop} : ∀ (i j : Nat) (μ : gk_St), j + i = 24 → gp_K C μ → (∃ q, gp_pla (c_Ph C k q) μ) → (∀ ν, gp_K C ν → K x2 (gp_hb C k 24).1 (gp_hb C k 24).2 ν) → w_X7_hang_l32 Q K 0 (i + 1) (nI k) x2 (gp_hb C k j).1 (gp_hb C k j).2 (nI j) μ := by
  have hn6 := c_nc6 (C := C)
  intro i
  induction i with
  | zero =>
    intro j μ hj hK hp h
    have e : j = 24 := by omega
    subst e
    unfold w_X7_hang_l32
    rw [if_pos (show (24 : Int32) ≤ nI 24 by decide)]
    exact h μ hK
  | succ i ih =>
    intro j μ hj hK hpe h
    have ihj := ih (j + 1)
    rw [gp_hb_s (j := j)] at ihj
    unfold w_X7_hang_l32
    rw [if_neg (show ¬ (24 : Int32) ≤ nI j from fun q => absurd ((nI_leI (a := 24) (by omega) (by omega)).mp q) (by omega))]
    refine s_an hK.2.1.1 hk (by omega) ?_
    cases ho : gp_ot C k j with
    | true =>
      rw [if_neg (show ¬ gp_bi true = 0 by decide)]
      rw [ho, if_pos rfl] at ihj
      intro v e
      rw [e, nI_1]
      exact ihj μ (by omega) hK hpe h
    | false =>
      rw [if_pos (show gp_bi false = 0 from rfl), rf_0_11, rf_31_1, kc (k := k) (by omega)]
      rw [ho, if_neg (by decide)] at ihj
      obtain ⟨q, hp⟩ := hpe
      refine ⟨vi (n := 6) (by omega) ln_32 (by omega), ?_⟩
      intro m6 e6
      have hp6 : gp_pla (c_Ph C k j) m6 := by
        have := up_pl hp e6
        rw [gp_u_u] at this
        exact this
      have hK6 : gp_K C m6 := gp_K_fC (fun c a => by rw [e6, gk_up_n (by omega)]) hK
      rw [rf_0_13]
      refine s_trial hK6 (c_Ph_wf hK.1 (by omega)) hp6 (fun ν a b c d f => ?_)
      refine s_allOver_66 c ?_
      by_cases z : nI (gp_over (c_Ph C k j)) ≤ (gp_hb C k j).2
      · rw [if_pos z]
        rw [if_pos z] at ihj
        intro v e
        rw [e, nI_1]
        exact ihj ν (by omega) a ⟨j, b⟩ h
      · rw [if_neg z]
        rw [if_neg z] at ihj
        refine s_allOver_66 c ?_
        intro v e
        rw [e, nI_1]
        exact ihj ν (by omega) a ⟨j, b⟩ h
theorem c_ha {C : gp_C} {μ : gk_St} (hK : gp_K C μ) {k w : Nat} (hk : k < c_nc C) (hw : w < 2) {Q : Int32 → gk_St → Prop} (h : ∀ ν, gp_K C ν → Q (v_ha C k w) ν) : w_X7_hang 0 (nI k) (nI w) μ Q := by
  unfold w_X7_hang
  refine s_car_y hK.2.1.1 hk ?_
  rw [if_neg i1n0]
  refine s_wi (m := 1) (by omega) (by omega) ?_
  rw [if_neg i1n0]
  refine s_plan hK (fun ν a b c d => ?_)
  refine ⟨25, ?_⟩
  refine c_haL hk 24 0 ν (by omega) a ⟨c_pl C k, ?_⟩ (fun ξ hK => ?_)
  · unfold c_Ph
    rw [gp_u_id rfl]
    exact b
  · refine gp_c2 hw (fun z => ?_) (fun z => ?_) <;> subst z <;> exact h ξ hK
set_option maxHeartbeats 4000000 in
theorem m_otL {C : gp_C} {k p q : Nat} (hk : k < c_nc C) (hp : p < 24) {μ : gk_St} (hm : gp_mc (c_nc C) (gp_u (c_pl C) k q) (c_so C) (c_ro C) (c_D C) (c_pc C) (fun _ => true) μ) {Q : Int32 → gk_St → Prop} {K : Int32 → gk_St → Prop} (h : K (gp_bi (gp_ot C k p)) μ) : ∀ (i j : Nat), j + i = c_nc C → w_X8_isOther_l5 Q K 101 (i + 1) (nI k) (nI p) (gp_bi (gp_any (fun i => !(i == k) && c_pl C i == p) j)) (nI j) μ := by
  have hn6 := c_nc6 (C := C)
  intro i
  induction i with
  | zero =>
    intro j hj
    have e : j = c_nc C := by omega
    subst e
    unfold w_X8_isOther_l5
    rw [hm.1, if_pos (Int32.le_refl _)]
    exact h
  | succ i ih =>
    intro j hj
    have hc := c_car (C := C) (k := j) (by omega)
    have hs : gp_any (fun i => !(i == k) && c_pl C i == p) (j + 1) = (gp_any (fun i => !(i == k) && c_pl C i == p) j || (!(j == k) && c_pl C j == p)) := rfl
    have ihj := ih (j + 1) (by omega)
    rw [hs] at ihj
    unfold w_X8_isOther_l5
    rw [hm.1, if_neg (fun q => absurd ((nI_leI (by omega) (by omega)).mp q) (by omega)), rf_101_3, kc (k := j) (by omega)]
    unfold w_X8_isOther_j35 w_X8_isOther_j39
    by_cases g : gp_any (fun i => !(i == k) && c_pl C i == p) j = true
    · rw [g, if_neg (show ¬ gp_bi true = 0 by decide)]
      rw [g, Bool.true_or] at ihj
      intro v e
      rw [e, nI_1]
      exact ihj
    · have g' : gp_any (fun i => !(i == k) && c_pl C i == p) j = false := by simpa using g
      rw [g', Bool.false_or] at ihj
      rw [g', if_pos (show gp_bi false = 0 from rfl)]
      by_cases z : j = k
      · rw [if_pos (by rw [z])]
        rw [z, show ((k == k) : Bool) = true by simp] at ihj
        intro v e
        rw [e, nI_1, z]
        exact ihj
      · have e4 : μ 104 j = nI (c_pl C j) := by
          rw [(hm.2.1 j (by omega)).1, gp_un z]
        rw [if_neg (fun q => z ((nI_eq (by omega) (by omega)).mp q)), e4]
        refine ⟨vi (n := 7) (by omega) ln_104 (by omega), ?_⟩
        by_cases y : c_pl C j = p
        · rw [if_pos (by rw [y])]
          rw [show (!(j == k) && c_pl C j == p) = true by simp [z, y]] at ihj
          intro v e
          rw [e, nI_1]
          exact ihj
        · rw [if_neg (fun q => y ((nI_eq (by omega) (by omega)).mp q))]
          rw [show (c_pl C j == p) = false by simpa using y, Bool.and_false] at ihj
          intro v e
          rw [e, nI_1]
          exact ihj
set_option maxHeartbeats 4000000 in
theorem m_haL {C : gp_C} (hC : gp_cw C) {k : Nat} (hk : k < c_nc C) {x2 x3 : Int32} {Q : Int32 → gk_St → Prop} {K : Int32 → Int32 → Int32 → Int32 → Int32 → gk_St → Prop} : ∀ (i j : Nat) (μ : gk_St), j + i = 24 → (∃ q, gp_mc (c_nc C) (gp_u (c_pl C) k q) (c_so C) (c_ro C) (c_D C) (c_pc C) (fun _ => true) μ) → (∀ ν, gp_f6 104 k μ ν → K (nI k) x2 x3 (gp_hb C k 24).1 (gp_hb C k 24).2 ν) → w_X8_hangOf_l20 Q K 101 (i + 1) (nI k) x2 x3 (gp_hb C k j).1 (gp_hb C k j).2 (nI j) μ := by
  have hn6 := c_nc6 (C := C)
  intro i
  induction i with
  | zero =>
    intro j μ hj hp h
    have e : j = 24 := by omega
    subst e
    unfold w_X8_hangOf_l20
    rw [if_pos (show (24 : Int32) ≤ nI 24 by decide)]
    exact h μ gp_f6_rf
  | succ i ih =>
    intro j μ hj ⟨q, hp⟩ h
    have ihj := ih (j + 1)
    rw [gp_hb_s (j := j)] at ihj
    unfold w_X8_hangOf_l20
    rw [if_neg (show ¬ (24 : Int32) ≤ nI j from fun q => absurd ((nI_leI (a := 24) (by omega) (by omega)).mp q) (by omega))]
    unfold w_X8_isOther
    refine ⟨c_nc C + 1, m_otL hk (by omega) hp ⟨gp_bi_b, ?_⟩ (c_nc C) 0 (by omega)⟩
    dsimp only
    cases ho : gp_ot C k j with
    | true =>
      rw [if_neg (show ¬ gp_bi true = 0 by decide)]
      rw [ho, if_pos rfl] at ihj
      intro v e
      rw [e, nI_1]
      exact ihj μ (by omega) ⟨q, hp⟩ h
    | false =>
      rw [if_pos (show gp_bi false = 0 from rfl), rf_101_3, kc (k := k) (by omega)]
      rw [ho, if_neg (by decide)] at ihj
      refine ⟨vi (n := 7) (by omega) ln_104 (by omega), ?_⟩
      intro m2 e2
      have hp2 := mu_pl hp e2
      rw [gp_u_u] at hp2
      have F2 : gp_f6 104 k μ m2 := by rw [e2]; exact gp_f6_up (Or.inl rfl)
      refine m_run (c_dw hC) (c_Ph_wf hC (by omega)) hp2 (fun ν a b c => ?_)
      have F3 := gp_f6_tr F2 (gp_f5_f6 (Or.inl rfl) (gp_f3_f5 c))
      refine m_bothOver a ?_
      show (if nI (gp_over (c_Ph C k j)) ≤ _ then _ else _)
      by_cases z : nI (gp_over (c_Ph C k j)) ≤ (gp_hb C k j).2
      · rw [if_pos z]
        rw [if_pos z] at ihj
        unfold w_X8_hangOf_j69
        show (if nI (gp_over (c_Ph C k j)) ≤ _ then _ else _)
        rw [if_pos z]
        intro v e
        rw [e, nI_1]
        exact ihj ν (by omega) ⟨j, b⟩ (fun ξ f => h ξ (gp_f6_tr F3 f))
      · rw [if_neg z]
        rw [if_neg z] at ihj
        unfold w_X8_hangOf_j69
        show (if nI (gp_over (c_Ph C k j)) ≤ _ then _ else _)
        rw [if_neg z]
        intro v e
        rw [e, nI_1]
        exact ihj ν (by omega) ⟨j, b⟩ (fun ξ f => h ξ (gp_f6_tr F3 f))
theorem m_ha {C : gp_C} {μ : gk_St} (hK : gp_K C μ) {k w : Nat} (hk : k < c_nc C) (hw : w < 2) {Q : Int32 → gk_St → Prop} (h : ∀ ν, gp_K C ν → gp_rd (c_tn C) (c_tb C) ν → Q (v_ha C k w) ν) : w_X8_hangOf 101 (nI k) (nI w) μ Q := by
  have hn6 := c_nc6 (C := C)
  unfold w_X8_hangOf
  refine s_mastC hK (fun ν a b c d e => ?_)
  rw [rf_101_3, kc (k := k) (by omega)]
  refine ⟨vi (n := 7) (by omega) ln_104 (by omega), ?_⟩
  intro v2 e2
  refine ⟨25, ?_⟩
  refine m_haL hK.1 hk 24 0 ν (by omega) ⟨c_pl C k, by rw [gp_u_id rfl]; exact c⟩ (fun ξ f => ?_)
  rw [kc (k := k) (by omega)]
  refine ⟨vi (n := 7) (by omega) ln_104 (by omega), ?_⟩
  intro m18 e18
  have F : gp_f5 ν m18 := gp_f6_f5 (gp_f6_tr f (by rw [e18]; exact gp_f6_up (Or.inl rfl))) (by rw [e18, gk_up_s, upd_s, e2])
  refine gp_c2 hw (fun z => ?_) (fun z => ?_) <;> subst z <;> exact h m18 (gp_K_fM (gp_f5_fM F) a) (gp_rd_f5 F b)
/-! the power is small -/
theorem gp_ld2 {P : gp_P} {t : Nat} {A : gp_A} : ∀ j, ∃ u v : Nat, (gp_go P t A j).2 = nI u - nI v ∧ u + v = gp_sum (a_in A) j
  | 0 => ⟨0, 0, by show (0 : Int32) = nI 0 - nI 0; decide, rfl⟩
  | j + 1 => by
    obtain ⟨u, v, h1, h2⟩ := gp_ld2 (P := P) (t := t) (A := A) j
    have e : (gp_go P t A (j + 1)).2 = gp_ld (gp_go P t A j).1 j (gp_go P t A j).2 := rfl
    rw [e]
    unfold gp_ld
    rw [gp_go_in j (Nat.le_refl j), h1]
    by_cases c : a_pl (gp_go P t A j).1 j < 12
    · rw [if_pos c]
      refine ⟨u + a_in A j, v, ?_, ?_⟩
      · rw [← nI_add]
        rw [Int32.sub_eq_add_neg, Int32.sub_eq_add_neg, Int32.add_assoc, Int32.add_comm (-nI v), ← Int32.add_assoc]
      · show _ = gp_sum (a_in A) j + a_in A j
        omega
    · rw [if_neg c]
      refine ⟨u, v + a_in A j, ?_, ?_⟩
      · rw [← nI_add]
        rw [Int32.sub_eq_add_neg, Int32.sub_eq_add_neg, Int32.neg_add, Int32.add_assoc, Int32.sub_eq_add_neg]
      · show _ = gp_sum (a_in A) j + a_in A j
        omega
theorem gp_mx2 {u v : Nat} (hu : u < 10000) (hv : v < 10000) : ∃ m, m ≤ u ∧ gk_mx 0 (nI u - nI v) = nI m := by
  by_cases c : v ≤ u
  · refine ⟨u - v, by omega, ?_⟩
    rw [pk_sub c, gk_mx0]
    by_cases d : u - v = 0
    · rw [d]
      decide
    · rw [if_neg (nI_nle (by omega) (by omega))]
  · refine ⟨0, by omega, ?_⟩
    rw [gk_mx0, if_pos]
    · rfl
    · have := pk_sneg (a := u) (b := v) (by omega) (by omega)
      exact Int32.le_of_lt this
theorem gp_gos2 {P : gp_P} {arr t : Nat} {A : gp_A} (ha : arr ≤ 108) (hok : gp_ok P arr A) : ∀ n, ∃ m, m ≤ n * 108 ∧ (gp_gos P t A n).2 = nI m
  | 0 => ⟨0, by omega, rfl⟩
  | n + 1 => by
    obtain ⟨m, h1, h2⟩ := gp_gos2 (P := P) (t := t) ha hok n
    obtain ⟨u, v, h3, h4⟩ := gp_ld2 (P := P) (t := t) (A := (gp_gos P t A n).1) (p_nc P)
    have hk := (gp_ok_gos (t := t) hok n).1
    obtain ⟨x, h5, h6⟩ := gp_mx2 (u := u) (v := v) (by omega) (by omega)
    refine ⟨m + x, by rw [Nat.add_mul]; omega, ?_⟩
    show (gp_gos P t A n).2 + gk_mx 0 (gp_go P t (gp_gos P t A n).1 (p_nc P)).2 = _
    rw [h2, h3, h6, nI_add]
theorem gp_pw2 {P : gp_P} (hw : gp_wf P) {t : Nat} (ht : t < 24) : ∃ m, m ≤ 324 ∧ gp_pw P t = nI m := by
  have hc1 : gp_come P (t + 1) ≤ 108 := Nat.le_trans (gp_come_mono (by omega)) hw.2.2.2
  have hok1 := gp_ok_arr (t := t) (gp_ok_s hw t)
  have hpl : gp_pls P t ≤ 3 := by
    have := hw.2.2.1 t ht
    unfold gp_pls
    split <;> omega
  unfold gp_pw gp_mo
  by_cases z : gp_pls P t = 0
  · rw [if_pos z]
    exact ⟨0, by omega, rfl⟩
  · rw [if_neg z]
    obtain ⟨m, h1, h2⟩ := gp_gos2 (P := P) (t := t) hc1 hok1 (gp_pls P t)
    refine ⟨m, ?_, h2⟩
    have : gp_pls P t * 108 ≤ 3 * 108 := Nat.mul_le_mul_right 108 hpl
    omega
theorem gp_ps2 {P : gp_P} (hw : gp_wf P) : ∀ n, n ≤ 24 → ∃ m, m ≤ n * 324 ∧ gp_ps P n = nI m
  | 0, _ => ⟨0, by omega, rfl⟩
  | n + 1, hn => by
    obtain ⟨m, h1, h2⟩ := gp_ps2 hw n (by omega)
    obtain ⟨x, h3, h4⟩ := gp_pw2 hw (t := n) (by omega)
    refine ⟨m + x, by rw [Nat.add_mul]; omega, ?_⟩
    show gp_ps P n + gp_pw P n = _
    rw [h2, h4, nI_add]
theorem gp_psM {P : gp_P} (hw : gp_wf P) : ¬ (2147483647 : Int32) ≤ gp_ps P 24 := by
  obtain ⟨m, h1, h2⟩ := gp_ps2 hw 24 (by omega)
  rw [h2]
  intro q
  have := (nI_leI (a := 2147483647) (b := m) (by omega) (by omega)).mp q
  omega
/-! cheap -/
def gp_mi (ov : Nat → Int32) : Nat → Int32 × Int32
  | 0 => (-1, 2147483647)
  | p + 1 => if (gp_mi ov p).2 ≤ ov p then gp_mi ov p else (nI p, ov p)
def gp_ch (C : gp_C) (t : Nat) : Nat → Int32 × Int32 := gp_mi (fun v => gp_ps (c_Pp C t v) 24)
def v_ch (C : gp_C) (t w : Nat) : Int32 := gp_w2 (gp_ch C t 4) w
theorem gp_ch_s {C : gp_C} {t j : Nat} : gp_ch C t (j + 1) = if (gp_ch C t j).2 ≤ gp_ps (c_Pp C t j) 24 then gp_ch C t j else (nI j, gp_ps (c_Pp C t j) 24) := rfl
theorem gp_ch_1 {C : gp_C} (hC : gp_cw C) {t : Nat} : ∀ j, j < 4 → ∃ b, b ≤ j ∧ (gp_ch C t (j + 1)).1 = nI b
  | 0, _ => by
    refine ⟨0, Nat.le_refl 0, ?_⟩
    rw [gp_ch_s, if_neg]
    exact gp_psM (c_Pp_wf hC (by omega))
  | j + 1, hj => by
    obtain ⟨b, h1, h2⟩ := gp_ch_1 hC (t := t) j (by omega)
    rw [gp_ch_s]
    split
    · exact ⟨b, by omega, h2⟩
    · exact ⟨j + 1, Nat.le_refl _, rfl⟩
set_option maxHeartbeats 4000000 in
theorem c_chL {C : gp_C} (hC : gp_cw C) {t : Nat} (ht : t < 24) {x2 : Int32} {Q : Int32 → gk_St → Prop} {K : Int32 → Int32 → Int32 → gk_St → Prop} : ∀ (i j : Nat) (μ : gk_St) (x3 x4 : Int32), j + i = 4 → ((j = 0 ∧ x3 = -1) ∨ (0 < j ∧ x3 = (gp_ch C t j).1 ∧ x4 = (gp_ch C t j).2)) → gp_K C μ → (∃ q, gp_pla (c_Pp C t q) μ) → (∀ ν, gp_K C ν → K x2 (gp_ch C t 4).1 (gp_ch C t 4).2 ν) → w_X7_cheap_l31 Q K 0 (i + 1) (nI t) x2 x3 x4 (nI j) μ := by
  intro i
  induction i with
  | zero =>
    intro j μ x3 x4 hj hx hK hp h
    have e : j = 4 := by omega
    subst e
    rcases hx with hx | hx
    · omega
    · unfold w_X7_cheap_l31
      rw [if_pos (show (3 : Int32) < nI 4 by decide), hx.2.1, hx.2.2]
      exact h μ hK
  | succ i ih =>
    intro j μ x3 x4 hj hx hK ⟨q, hp⟩ h
    unfold w_X7_cheap_l31
    rw [if_neg (show ¬ (3 : Int32) < nI j from fun q => absurd ((nI_ltI (a := 3) (by omega) (by omega)).mp q) (by omega)), rf_0_11, rf_31_6, kc (k := t) (by omega)]
    refine ⟨vi (n := 24) (by omega) ln_39 (by omega), ?_⟩
    intro m6 e6
    have hp6 : gp_pla (c_Pp C t j) m6 := by
      have := up_pc hp e6
      rw [gp_u_u] at this
      exact this
    have hK6 : gp_K C m6 := gp_K_fC (fun c a => by rw [e6, gk_up_n (by omega)]) hK
    rw [rf_0_13]
    refine s_trial hK6 (c_Pp_wf hC (by omega)) hp6 (fun ν a b c d f => ?_)
    refine s_allPower_66 d ?_
    have better : (gp_ch C t (j + 1)) = (nI j, gp_ps (c_Pp C t j) 24) → w_X7_cheap_j82 Q K (fun c_x1 c_x2 c_x3 c_x4 c_x5 cm => w_X7_cheap_l31 Q K 0 (i + 1) c_x1 c_x2 c_x3 c_x4 c_x5 cm) 0 (nI t) x2 (nI j) (gp_ps (c_Pp C t j) 24) ν := by
      intro hb
      unfold w_X7_cheap_j82
      intro v e
      rw [e, nI_1]
      exact ih (j + 1) ν _ _ (by omega) (Or.inr ⟨by omega, by rw [hb], by rw [hb]⟩) a ⟨j, b⟩ h
    rcases hx with ⟨hx1, hx2⟩ | ⟨hx1, hx2, hx3⟩
    · rw [if_pos hx2]
      refine better ?_
      subst hx1
      rw [gp_ch_s, if_neg (show ¬ (gp_ch C t 0).2 ≤ gp_ps (c_Pp C t 0) 24 from gp_psM (c_Pp_wf hC (by omega)))]
    · obtain ⟨bb, hb1, hb2⟩ := gp_ch_1 hC (t := t) (j - 1) (by omega)
      rw [show j - 1 + 1 = j by omega] at hb2
      rw [if_neg (by rw [hx2, hb2]; exact nI_nm1 (by omega))]
      by_cases z : (gp_ch C t j).2 ≤ gp_ps (c_Pp C t j) 24
      · rw [if_pos (by rw [hx3]; exact z)]
        intro v e
        rw [e, nI_1]
        exact ih (j + 1) ν _ _ (by omega) (Or.inr ⟨by omega, by rw [gp_ch_s, if_pos z, hx2], by rw [gp_ch_s, if_pos z, hx3]⟩) a ⟨j, b⟩ h
      · rw [if_neg (by rw [hx3]; exact z)]
        exact better (by rw [gp_ch_s, if_neg z])
theorem c_ch {C : gp_C} {μ : gk_St} (hK : gp_K C μ) {t w : Nat} (ht : t < 24) (hw : w < 2) {Q : Int32 → gk_St → Prop} (h : ∀ ν, gp_K C ν → Q (v_ch C t w) ν) : w_X7_cheap 0 (nI t) (nI w) μ Q := by
  unfold w_X7_cheap
  refine s_mom_y ht ?_
  rw [if_neg i1n0]
  refine s_wi (m := 1) (by omega) (by omega) ?_
  rw [if_neg i1n0]
  refine s_plan hK (fun ν a b c d => ?_)
  refine ⟨5, ?_⟩
  refine c_chL hK.1 ht 4 0 ν _ _ (by omega) (Or.inl ⟨rfl, rfl⟩) a ⟨c_pc C t, ?_⟩ (fun ξ hK => ?_)
  · unfold c_Pp
    rw [gp_u_id rfl]
    exact b
  · refine gp_c2 hw (fun z => ?_) (fun z => ?_) <;> subst z <;> exact h ξ hK
set_option maxHeartbeats 4000000 in
theorem m_chL {C : gp_C} (hC : gp_cw C) {t : Nat} (ht : t < 24) {x2 : Int32} {Q : Int32 → gk_St → Prop} {K : Int32 → Int32 → Int32 → gk_St → Prop} : ∀ (i j : Nat) (μ : gk_St) (x3 x4 : Int32), j + i = 4 → ((j = 0 ∧ x3 = -1) ∨ (0 < j ∧ x3 = (gp_ch C t j).1 ∧ x4 = (gp_ch C t j).2)) → (∃ q, gp_mc (c_nc C) (c_pl C) (c_so C) (c_ro C) (c_D C) (gp_u (c_pc C) t q) (fun _ => true) μ) → (∀ ν, gp_f5 μ ν → K x2 (gp_ch C t 4).1 (gp_ch C t 4).2 ν) → w_X8_cheapOf_l12 Q K 101 (i + 1) (nI t) x2 x3 x4 (nI j) μ := by
  intro i
  induction i with
  | zero =>
    intro j μ x3 x4 hj hx hp h
    have e : j = 4 := by omega
    subst e
    rcases hx with hx | hx
    · omega
    · unfold w_X8_cheapOf_l12
      rw [if_pos (show (4 : Int32) ≤ nI 4 by decide), hx.2.1, hx.2.2]
      exact h μ gp_f5_rf
  | succ i ih =>
    intro j μ x3 x4 hj hx ⟨q, hp⟩ h
    unfold w_X8_cheapOf_l12
    rw [if_neg (show ¬ (4 : Int32) ≤ nI j from fun q => absurd ((nI_leI (a := 4) (by omega) (by omega)).mp q) (by omega)), rf_101_16, kc (k := t) (by omega)]
    refine ⟨vi (n := 24) (by omega) ln_114 (by omega), ?_⟩
    intro m2 e2
    have hp2 := mu_pc hp e2
    rw [gp_u_u] at hp2
    have F2 : gp_f5 μ m2 := by rw [e2]; exact gp_f5_up (Or.inl rfl)
    refine m_run (c_dw hC) (c_Pp_wf hC (by omega)) hp2 (fun ν a b c => ?_)
    have F3 := gp_f5_tr F2 (gp_f3_f5 c)
    have hsum : ν 101 28 = gp_ps (c_Pp C t j) 24 := a.2.1
    have better : (gp_ch C t (j + 1)) = (nI j, gp_ps (c_Pp C t j) 24) → w_X8_cheapOf_j44 Q K (fun c_x1 c_x2 c_x3 c_x4 c_x5 cm => w_X8_cheapOf_l12 Q K 101 (i + 1) c_x1 c_x2 c_x3 c_x4 c_x5 cm) 101 (nI t) x2 x3 x4 (nI j) ν := by
      intro hb
      unfold w_X8_cheapOf_j44 w_X8_cheapOf_j49
      rw [if_neg i1n0]
      unfold w_X8_cheapOf_j62
      rw [if_neg i1n0]
      intro v5 e5 v6 e6
      rw [e6, nI_1, e5, hsum]
      exact ih (j + 1) ν _ _ (by omega) (Or.inr ⟨by omega, by rw [hb], by rw [hb]⟩) ⟨j, b⟩ (fun ξ f => h ξ (gp_f5_tr F3 f))
    rcases hx with ⟨hx1, hx2⟩ | ⟨hx1, hx2, hx3⟩
    · rw [if_pos hx2]
      refine better ?_
      subst hx1
      rw [gp_ch_s, if_neg (show ¬ (gp_ch C t 0).2 ≤ gp_ps (c_Pp C t 0) 24 from gp_psM (c_Pp_wf hC (by omega)))]
    · obtain ⟨bb, hb1, hb2⟩ := gp_ch_1 hC (t := t) (j - 1) (by omega)
      rw [show j - 1 + 1 = j by omega] at hb2
      rw [if_neg (by rw [hx2, hb2]; exact nI_nm1 (by omega)), hsum, hx3]
      by_cases z : (gp_ch C t j).2 ≤ gp_ps (c_Pp C t j) 24
      · rw [if_pos z]
        unfold w_X8_cheapOf_j49
        rw [if_pos rfl]
        unfold w_X8_cheapOf_j62
        rw [if_pos rfl]
        intro v e
        rw [e, nI_1]
        exact ih (j + 1) ν _ _ (by omega) (Or.inr ⟨by omega, by rw [gp_ch_s, if_pos z, hx2], by rw [gp_ch_s, if_pos z]⟩) ⟨j, b⟩ (fun ξ f => h ξ (gp_f5_tr F3 f))
      · rw [if_neg z, ← hx3]
        exact better (by rw [gp_ch_s, if_neg z])
theorem m_ch {C : gp_C} {μ : gk_St} (hK : gp_K C μ) {t w : Nat} (ht : t < 24) (hw : w < 2) {Q : Int32 → gk_St → Prop} (h : ∀ ν, gp_K C ν → gp_rd (c_tn C) (c_tb C) ν → Q (v_ch C t w) ν) : w_X8_cheapOf 101 (nI t) (nI w) μ Q := by
  unfold w_X8_cheapOf
  refine s_mastC hK (fun ν a b c d e => ?_)
  refine ⟨5, ?_⟩
  refine m_chL hK.1 ht 4 0 ν _ _ (by omega) (Or.inl ⟨rfl, rfl⟩) ⟨c_pc C t, by rw [gp_u_id rfl]; exact c⟩ (fun ξ f => ?_)
  refine gp_c2 hw (fun z => ?_) (fun z => ?_) <;> subst z <;> exact h ξ (gp_K_fM (gp_f5_fM f) a) (gp_rd_f5 f b)
