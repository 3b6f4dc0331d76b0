/-! years -/
theorem pla_pc {nc : Nat} {pl so ro : Nat → Nat} {D : gp_D} {pc pc' : Nat → Nat} {kp : Nat → Bool} {μ : gk_St} (h : gp_pla (gp_mk nc pl so ro D pc kp) μ) (e : ∀ t, t < 24 → pc t = pc' t) : gp_pla (gp_mk nc pl so ro D pc' kp) μ := ⟨h.1, h.2.1, h.2.2.1, fun t ht => ⟨(h.2.2.2 t ht).1, (h.2.2.2 t ht).2.1, by
  show _ = nI (pc' t)
  rw [← e t ht]
  exact (h.2.2.2 t ht).2.2.1, (h.2.2.2 t ht).2.2.2⟩⟩
theorem mc_pc {nc : Nat} {pl so ro : Nat → Nat} {D : gp_D} {pc pc' : Nat → Nat} {kp : Nat → Bool} {μ : gk_St} (h : gp_mc nc pl so ro D pc kp μ) (e : ∀ t, t < 24 → pc t = pc' t) : gp_mc nc pl so ro D pc' kp μ := ⟨h.1, h.2.1, h.2.2.1, h.2.2.2.1, fun t ht => by rw [← e t ht]; exact h.2.2.2.2.1 t ht, h.2.2.2.2.2⟩
def gp_lot (seed : Int32) : Nat → Int32
  | 0 => seed
  | t + 1 => (1103515245 : Int32) * gp_lot seed t + 12345
def gp_yw (v : Int32) : Nat := (gk_us v 16).toNatClampNeg % 4
theorem gp_yw4 {v : Int32} : gk_md (gk_us v 16) 4 = nI (gp_yw v) := by
  have h1 : (gk_us v 16).toBitVec.toNat = v.toBitVec.toNat / 2 ^ 16 := pk_ushr v 16 16 (by decide)
  have h2 : v.toBitVec.toNat < 2 ^ 32 := v.toBitVec.isLt
  have h3 : gk_us v 16 = nI (v.toBitVec.toNat / 2 ^ 16) := by
    apply Int32.toBitVec_inj.mp
    apply BitVec.eq_of_toNat_eq
    rw [h1, pk_tn (by omega)]
  unfold gp_yw
  rw [h3, nI_clamp (by omega)]
  exact pk_rem (d := 4) (by omega) (by omega) (by omega)
def gp_yp (seed : Int32) (n t : Nat) : Nat := if t < n then gp_yw (gp_lot seed (t + 1)) else 1
theorem gp_yp3 {seed : Int32} {n t : Nat} : gp_yp seed n t ≤ 3 := by
  unfold gp_yp gp_yw
  split <;> omega
def c_Py (C : gp_C) (seed : Int32) (n : Nat) : gp_P := gp_mk (c_nc C) (c_pl C) (c_so C) (c_ro C) (c_D C) (gp_yp seed n) (fun _ => true)
theorem c_Py_wf {C : gp_C} (hC : gp_cw C) {seed : Int32} {n : Nat} : gp_wf (c_Py C seed n) := gp_wf_mk (c_dw hC) c_nc6 (fun _ hk => c_car hk) (fun x _ => gp_yp3)
def v_ye (C : gp_C) (seed : Int32) (n w : Nat) : Int32 := if w = 0 then nI (gp_over (c_Py C seed n)) else gp_ps (c_Py C seed n) 24
/-- the rows of pace tried so far -/
def gp_yA (C : gp_C) (seed : Int32) (n j : Nat) (μ : gk_St) : Prop := ∃ pc, gp_pla (gp_mk (c_nc C) (c_pl C) (c_so C) (c_ro C) (c_D C) pc (fun _ => true)) μ ∧ ∀ s, s < j → pc s = gp_yp seed n s
theorem gp_yA_s {C : gp_C} {seed : Int32} {n j : Nat} {μ m : gk_St} (h : gp_yA C seed n j μ) (e : m = gk_up μ 39 j (nI (gp_yp seed n j))) : gp_yA C seed n (j + 1) m := by
  obtain ⟨pc, h1, h2⟩ := h
  refine ⟨gp_u pc j (gp_yp seed n j), up_pc h1 e, fun s hs => ?_⟩
  by_cases z : s = j
  · rw [z, gp_us]
  · rw [gp_un z]
    exact h2 s (by omega)
set_option maxHeartbeats 4000000 in
theorem c_y32 {C : gp_C} {seed : Int32} {n : Nat} (hn : n ≤ 24) {x3 : Int32} {Q : Int32 → gk_St → Prop} {K : Int32 → Int32 → gk_St → Prop} : ∀ (i j : Nat) (μ : gk_St), j + i = n → gp_K C μ → gp_yA C seed n j μ → (∀ ν, gp_K C ν → gp_yA C seed n n ν → K (nI n) x3 ν) → w_X7_years_l32 Q K 0 (i + 1) (nI n) x3 (gp_lot seed j) (nI j) μ := by
  intro i
  induction i with
  | zero =>
    intro j μ hj hK hA h
    have e : j = n := by omega
    subst e
    unfold w_X7_years_l32
    rw [if_pos (Int32.le_refl _)]
    exact h μ hK hA
  | succ i ih =>
    intro j μ hj hK hA h
    unfold w_X7_years_l32
    rw [if_neg (fun q => absurd ((nI_leI (by omega) (by omega)).mp q) (by omega)), rf_0_11, rf_31_6, kc (k := j) (by omega)]
    intro v6 e6
    refine ⟨vi (n := 24) (by omega) ln_39 (by omega), ?_⟩
    intro m7 e7 v8 e8
    have ey : gk_md (gk_us v6 16) 4 = nI (gp_yp seed n j) := by
      rw [gp_yw4, e6]
      unfold gp_yp
      rw [if_pos (by omega)]
      rfl
    rw [ey] at e7
    rw [e8, nI_1, e6]
    exact ih (j + 1) m7 (by omega) (gp_K_fC (fun c a => by rw [e7, gk_up_n (by omega)]) hK) (gp_yA_s hA e7) h
set_option maxHeartbeats 4000000 in
theorem c_y76 {C : gp_C} {seed : Int32} {n : Nat} (hn : n ≤ 24) {x3 : Int32} {Q : Int32 → gk_St → Prop} {K : Int32 → gk_St → Prop} : ∀ (i j : Nat) (μ : gk_St), j + i = 24 → n ≤ j → gp_K C μ → gp_yA C seed n j μ → (∀ ν, gp_K C ν → gp_yA C seed n 24 ν → K x3 ν) → w_X7_years_l76 Q K 0 (i + 1) x3 (nI j) μ := by
  intro i
  induction i with
  | zero =>
    intro j μ hj hnj hK hA h
    have e : j = 24 := by omega
    subst e
    unfold w_X7_years_l76
    rw [if_pos (show (24 : Int32) ≤ nI 24 by decide)]
    exact h μ hK hA
  | succ i ih =>
    intro j μ hj hnj hK hA h
    unfold w_X7_years_l76
    rw [if_neg (show ¬ (24 : Int32) ≤ nI j from fun q => absurd ((nI_leI (a := 24) (by omega) (by omega)).mp q) (by omega)), rf_0_11, rf_31_6, kc (k := j) (by omega)]
    refine ⟨vi (n := 24) (by omega) ln_39 (by omega), ?_⟩
    intro m7 e7 v8 e8
    have ey : (1 : Int32) = nI (gp_yp seed n j) := by
      unfold gp_yp
      rw [if_neg (by omega)]
      rfl
    rw [ey] at e7
    rw [e8, nI_1]
    exact ih (j + 1) m7 (by omega) (by omega) (gp_K_fC (fun c a => by rw [e7, gk_up_n (by omega)]) hK) (gp_yA_s hA e7) h
theorem c_ye {C : gp_C} {μ : gk_St} (hK : gp_K C μ) {seed : Int32} {n w : Nat} (hn : n ≤ 24) (hw : w < 2) {Q : Int32 → gk_St → Prop} (h : ∀ ν, gp_K C ν → Q (v_ye C seed n w) ν) : w_X7_years 0 seed (nI n) (nI w) μ Q := by
  unfold w_X7_years
  refine s_wi (m := 24) (by omega) hn ?_
  rw [if_neg i1n0]
  refine s_wi (m := 1) (by omega) (by omega) ?_
  rw [if_neg i1n0]
  refine s_plan hK (fun ν a b c d => ?_)
  refine ⟨n + 1, ?_⟩
  refine c_y32 hn n 0 ν (by omega) a ⟨c_pc C, b, fun s hs => absurd hs (Nat.not_lt_zero s)⟩ (fun ξ a2 b2 => ?_)
  refine ⟨24 - n + 1, ?_⟩
  refine c_y76 hn (24 - n) n ξ (by omega) (Nat.le_refl n) a2 b2 (fun ζ a3 b3 => ?_)
  obtain ⟨pc, h1, h2⟩ := b3
  rw [rf_0_13, rf_0_11]
  refine s_trial a3 (c_Py_wf hK.1 (seed := seed) (n := n)) (pla_pc h1 h2) (fun θ a4 b4 c4 d4 f4 => ?_)
  refine gp_c2 hw (fun z => ?_) (fun z => ?_)
  · subst z
    exact s_allOver_66 c4 (h θ a4)
  · subst z
    exact s_allPower_66 d4 (h θ a4)
def gp_yM (C : gp_C) (seed : Int32) (n j : Nat) (μ : gk_St) : Prop := ∃ pc, gp_mc (c_nc C) (c_pl C) (c_so C) (c_ro C) (c_D C) pc (fun _ => true) μ ∧ ∀ s, s < j → pc s = gp_yp seed n s
theorem gp_yM_s {C : gp_C} {seed : Int32} {n j : Nat} {μ m : gk_St} (h : gp_yM C seed n j μ) (e : m = gk_up μ 114 j (nI (gp_yp seed n j))) : gp_yM C seed n (j + 1) m := by
  obtain ⟨pc, h1, h2⟩ := h
  refine ⟨gp_u pc j (gp_yp seed n j), mu_pc h1 e, fun s hs => ?_⟩
  by_cases z : s = j
  · rw [z, gp_us]
  · rw [gp_un z]
    exact h2 s (by omega)
set_option maxHeartbeats 4000000 in
theorem m_y10 {C : gp_C} {seed : Int32} {n : Nat} (hn : n ≤ 24) {x3 : Int32} {Q : Int32 → gk_St → Prop} {K : Int32 → gk_St → Prop} : ∀ (i j : Nat) (μ : gk_St), j + i = 24 → gp_yM C seed n j μ → (∀ ν, gp_yM C seed n 24 ν → gp_f5 μ ν → K x3 ν) → w_X8_yearsOf_l10 Q K 101 (i + 1) (nI n) x3 (gp_lot seed (min j n)) (nI j) μ := by
  intro i
  induction i with
  | zero =>
    intro j μ hj hA h
    have e : j = 24 := by omega
    subst e
    unfold w_X8_yearsOf_l10
    rw [if_pos (show (24 : Int32) ≤ nI 24 by decide)]
    exact h μ hA gp_f5_rf
  | succ i ih =>
    intro j μ hj hA h
    have ihj := ih (j + 1)
    unfold w_X8_yearsOf_l10
    rw [if_neg (show ¬ (24 : Int32) ≤ nI j from fun q => absurd ((nI_leI (a := 24) (by omega) (by omega)).mp q) (by omega))]
    unfold w_X8_yearsOf_j38
    rw [rf_101_16, kc (k := j) (by omega)]
    by_cases c : n ≤ j
    · rw [if_pos ((nI_leI (by omega) (by omega)).mpr c), if_pos ((nI_leI (by omega) (by omega)).mpr c)]
      rw [show min (j + 1) n = n by omega] at ihj
      rw [show min j n = n by omega]
      refine ⟨vi (n := 24) (by omega) ln_114 (by omega), ?_⟩
      intro m7 e7 v8 e8
      have ey : (1 : Int32) = nI (gp_yp seed n j) := by
        unfold gp_yp
        rw [if_neg (by omega)]
        rfl
      rw [ey] at e7
      rw [e8, nI_1]
      exact ihj m7 (by omega) (gp_yM_s hA e7) (fun ν a f => h ν a (gp_f5_tr (by rw [e7]; exact gp_f5_up (Or.inl rfl)) f))
    · rw [if_neg (fun q => c ((nI_leI (by omega) (by omega)).mp q)), if_neg (fun q => c ((nI_leI (by omega) (by omega)).mp q))]
      rw [show min (j + 1) n = j + 1 by omega] at ihj
      rw [show min j n = j by omega]
      refine ⟨vi (n := 24) (by omega) ln_114 (by omega), ?_⟩
      intro m7 e7 v8 e8
      have ey : gk_md (gk_us ((1103515245 : Int32) * gp_lot seed j + 12345) 16) 4 = nI (gp_yp seed n j) := by
        rw [gp_yw4]
        unfold gp_yp
        rw [if_pos (by omega)]
        rfl
      rw [ey] at e7
      rw [e8, nI_1]
      exact ihj m7 (by omega) (gp_yM_s hA e7) (fun ν a f => h ν a (gp_f5_tr (by rw [e7]; exact gp_f5_up (Or.inl rfl)) f))
theorem m_ye {C : gp_C} {μ : gk_St} (hK : gp_K C μ) {seed : Int32} {n w : Nat} (hn : n ≤ 24) (hw : w < 2) {Q : Int32 → gk_St → Prop} (h : ∀ ν, gp_K C ν → gp_rd (c_tn C) (c_tb C) ν → Q (v_ye C seed n w) ν) : w_X8_yearsOf 101 seed (nI n) (nI w) μ Q := by
  unfold w_X8_yearsOf
  refine s_mastC hK (fun ν a b c d e => ?_)
  refine ⟨25, ?_⟩
  have h0 : gp_lot seed (min 0 n) = seed := by rw [Nat.zero_min]; rfl
  have := m_y10 (C := C) (seed := seed) (Q := Q) (K := fun y6 m7 => w_X8_runs 101 m7 (fun m8 => (if y6 = 0 then w_X8_bothOver 101 m8 (fun r10 m9 => Q r10 m9) else Q (m8 101 28) m8))) hn (x3 := nI w) 24 0 ν (by omega) ⟨c_pc C, c, fun s hs => absurd hs (Nat.not_lt_zero s)⟩ (fun ξ a2 f2 => by
    obtain ⟨pc, h1, h2⟩ := a2
    refine m_run (c_dw hK.1) (c_Py_wf hK.1 (seed := seed) (n := n)) (mc_pc h1 h2) (fun ζ a3 b3 c3 => ?_)
    have F := gp_f5_tr f2 (gp_f3_f5 c3)
    have hh := h ζ (gp_K_fM (gp_f5_fM F) a) (gp_rd_f5 F b)
    refine gp_c2 hw (fun z => ?_) (fun z => ?_)
    · subst z
      exact m_bothOver a3 hh
    · subst z
      rw [a3.2.1]
      exact hh)
  rw [h0] at this
  exact this
/-! what was seen -/
def gp_sn (C : gp_C) (P : gp_P) : Bool := !(gp_any (fun i => !(a_wt (gp_s P (c_sm C i + 1)) (c_ss C i) == c_sw C i)) (c_ns C))
theorem gp_wt108 {P : gp_P} (hw : gp_wf P) {t s : Nat} (ht : t < 24) (hs : s < 2) : a_wt (gp_s P (t + 1)) s ≤ 108 := (gp_sm_of (Nat.le_trans (gp_come_mono (by omega)) hw.2.2.2) (gp_ok_s hw (t + 1))).1 s hs
set_option maxHeartbeats 4000000 in
theorem s_agL {C : gp_C} (hC : gp_cw C) {P : gp_P} (hw : gp_wf P) {μ : gk_St} (hS : gp_kS C μ) (hr : gp_rec P 66 24 μ) {Q : Int32 → gk_St → Prop} {K : gk_St → Prop} (hq : gp_sn C P = false → Q 0 μ) (hk : gp_sn C P = true → K μ) : ∀ (i j : Nat), j + i = c_ns C → gp_any (fun i => !(a_wt (gp_s P (c_sm C i + 1)) (c_ss C i) == c_sw C i)) j = false → w_X4_agreeWith_l2 Q K 19 66 (i + 1) (nI j) μ := by
  have hn8 := hC.2.2.1.1
  intro i
  induction i with
  | zero =>
    intro j hj h
    have e : j = c_ns C := by omega
    subst e
    unfold w_X4_agreeWith_l2
    rw [hS.1, if_pos (Int32.le_refl _)]
    refine hk ?_
    unfold gp_sn
    rw [h]
    rfl
  | succ i ih =>
    intro j hj h
    obtain ⟨q1, q2, q3⟩ := hS.2 j (by omega)
    obtain ⟨b1, b2, b3⟩ := hC.2.2.1.2 j (by omega)
    have erw : gk_rw 81 (c_ss C j) = 82 + c_ss C j ∧ gk_ln (82 + c_ss C j) = 24 := by
      rcases (show c_ss C j = 0 ∨ c_ss C j = 1 by omega) with z | z <;> rw [z]
      · exact ⟨rw_81_0, ln_82⟩
      · exact ⟨rw_81_1, ln_83⟩
    have ew : μ (82 + c_ss C j) (c_sm C j) = nI (a_wt (gp_s P (c_sm C j + 1)) (c_ss C j)) := by
      rcases (show c_ss C j = 0 ∨ c_ss C j = 1 by omega) with z | z <;> rw [z]
      · exact (hr _ b1).2.1
      · exact (hr _ b1).2.2.1
    have h108 := gp_wt108 hw b1 b2
    have hs : gp_any (fun i => !(a_wt (gp_s P (c_sm C i + 1)) (c_ss C i) == c_sw C i)) (j + 1) = (gp_any (fun i => !(a_wt (gp_s P (c_sm C i + 1)) (c_ss C i) == c_sw C i)) j || !(a_wt (gp_s P (c_sm C j + 1)) (c_ss C j) == c_sw C j)) := rfl
    rw [h, Bool.false_or] at hs
    unfold w_X4_agreeWith_l2
    rw [hS.1, if_neg (fun q => absurd ((nI_leI (by omega) (by omega)).mp q) (by omega)), rf_19_0, rf_19_1, rf_19_2, rf_66_2, kc (k := j) (by omega), q1, q2, q3, kc (k := c_ss C j) (by omega), kc (k := c_sm C j) (by omega), erw.1, ew]
    refine ⟨vi (n := 8) (by omega) ln_21 (by omega), vr (n := 2) (by omega) rl_81 (by omega), vi (n := 8) (by omega) ln_20 (by omega), vi (n := 24) (by omega) erw.2 (by omega), vi (n := 8) (by omega) ln_22 (by omega), ?_⟩
    by_cases c : a_wt (gp_s P (c_sm C j + 1)) (c_ss C j) = c_sw C j
    · rw [if_pos (by rw [c])]
      intro v e
      rw [e, nI_1]
      refine ih (j + 1) (by omega) ?_
      rw [hs, c]
      simp
    · rw [if_neg (fun q => c ((nI_eq (by omega) (by omega)).mp q))]
      refine hq ?_
      unfold gp_sn
      have : gp_any (fun i => !(a_wt (gp_s P (c_sm C i + 1)) (c_ss C i) == c_sw C i)) (c_ns C) = true := gp_any_iff.mpr ⟨j, by omega, by simpa using c⟩
      rw [this]
      rfl
theorem s_seen {C : gp_C} {μ : gk_St} (hK : gp_K C μ) {P : gp_P} (hw : gp_wf P) (hp : gp_pla P μ) {Q : Int32 → gk_St → Prop} (h : ∀ ν, gp_K C ν → gp_pla P ν → gp_rec P 66 24 ν → gp_fr 66 μ ν → Q (gp_bi (gp_sn C P)) ν) : w_X7_comesOutAsSeen 0 μ Q := by
  unfold w_X7_comesOutAsSeen
  rw [rf_0_13, rf_0_11, rf_0_6]
  refine s_trial hK hw hp (fun ν a b c d f => ?_)
  unfold w_X4_agreeWith
  have hh := h ν a b d f
  refine ⟨c_ns C + 1, s_agL hK.1 hw a.2.1.2.2.1 d (fun q => ?_) (fun q => ?_) (c_ns C) 0 (by omega) rfl⟩
  · rw [q] at hh
    exact ⟨Or.inl rfl, hh⟩
  · rw [q] at hh
    exact ⟨Or.inr rfl, hh⟩
set_option maxHeartbeats 4000000 in
theorem m_isL {C : gp_C} (hC : gp_cw C) {P : gp_P} (hw : gp_wf P) {μ : gk_St} (hS : gp_mS C μ) (hr : gp_mrec P 24 μ) {Q : Int32 → gk_St → Prop} {K : Int32 → gk_St → Prop} (hk : K (gp_bi (gp_sn C P)) μ) : ∀ (i j : Nat), j + i = c_ns C → w_X8_isSeen_l8 Q K 101 (i + 1) (gp_bi (!(gp_any (fun i => !(a_wt (gp_s P (c_sm C i + 1)) (c_ss C i) == c_sw C i)) j))) (nI j) μ := by
  have hn8 := hC.2.2.1.1
  intro i
  induction i with
  | zero =>
    intro j hj
    have e : j = c_ns C := by omega
    subst e
    unfold w_X8_isSeen_l8
    rw [hS.1, if_pos (Int32.le_refl _)]
    exact hk
  | succ i ih =>
    intro j hj
    obtain ⟨q1, q2, q3⟩ := hS.2 j (by omega)
    obtain ⟨b1, b2, b3⟩ := hC.2.2.1.2 j (by omega)
    have ew : μ 120 (2 * c_sm C j + c_ss C j) = nI (a_wt (gp_s P (c_sm C j + 1)) (c_ss C j)) := by
      rcases (show c_ss C j = 0 ∨ c_ss C j = 1 by omega) with z | z <;> rw [z]
      · exact (hr _ b1).1
      · exact (hr _ b1).2.1
    have h108 := gp_wt108 hw b1 b2
    have hs : gp_any (fun i => !(a_wt (gp_s P (c_sm C i + 1)) (c_ss C i) == c_sw C i)) (j + 1) = (gp_any (fun i => !(a_wt (gp_s P (c_sm C i + 1)) (c_ss C i) == c_sw C i)) j || !(a_wt (gp_s P (c_sm C j + 1)) (c_ss C j) == c_sw C j)) := rfl
    have ihj := ih (j + 1) (by omega)
    rw [hs] at ihj
    unfold w_X8_isSeen_l8
    rw [hS.1, if_neg (fun q => absurd ((nI_leI (by omega) (by omega)).mp q) (by omega)), rf_101_38, rf_101_39, rf_101_40, rf_101_31, kc (k := j) (by omega), q1, q2, q3, e2c, nI_add, kc (by omega), ew]
    cases g : gp_any (fun i => !(a_wt (gp_s P (c_sm C i + 1)) (c_ss C i) == c_sw C i)) j with
    | true =>
      rw [if_pos (show gp_bi (!true) = 0 from rfl)]
      have : gp_sn C P = false := by
        obtain ⟨x, hx1, hx2⟩ := gp_any_iff.mp g
        unfold gp_sn
        have : gp_any (fun i => !(a_wt (gp_s P (c_sm C i + 1)) (c_ss C i) == c_sw C i)) (c_ns C) = true := gp_any_iff.mpr ⟨x, by omega, hx2⟩
        rw [this]
        rfl
      rw [this] at hk
      exact hk
    | false =>
      rw [g, Bool.false_or] at ihj
      rw [if_neg (show ¬ gp_bi (!false) = 0 by decide)]
      refine ⟨vi (n := 8) (by omega) ln_126 (by omega), vi (n := 8) (by omega) ln_127 (by omega), vi (n := 48) (by omega) ln_120 (by omega), vi (n := 8) (by omega) ln_128 (by omega), ?_⟩
      by_cases c : a_wt (gp_s P (c_sm C j + 1)) (c_ss C j) = c_sw C j
      · rw [if_pos (by rw [c])]
        rw [show (a_wt (gp_s P (c_sm C j + 1)) (c_ss C j) == c_sw C j) = true by simpa using c] at ihj
        intro v e
        rw [e, nI_1]
        exact ihj
      · rw [if_neg (fun q => c ((nI_eq (by omega) (by omega)).mp q))]
        rw [show (a_wt (gp_s P (c_sm C j + 1)) (c_ss C j) == c_sw C j) = false by simpa using c] at ihj
        intro v e
        rw [e, nI_1]
        exact ihj
theorem m_seen {C : gp_C} {μ : gk_St} (hK : gp_K C μ) {nc : Nat} {pl so ro pc : Nat → Nat} {kp : Nat → Bool} (hw : gp_wf (gp_mk nc pl so ro (c_D C) pc kp)) (hm : gp_mc nc pl so ro (c_D C) pc kp μ) {Q : Int32 → gk_St → Prop} (h : ∀ ν, gp_mrun (gp_mk nc pl so ro (c_D C) pc kp) ν → gp_mc nc pl so ro (c_D C) pc kp ν → gp_f3 μ ν → Q (gp_bi (gp_sn C (gp_mk nc pl so ro (c_D C) pc kp))) ν) : w_X8_isSeen 101 μ Q := by
  unfold w_X8_isSeen
  refine m_run (c_dw hK.1) hw hm (fun ν a b c => ?_)
  have hK2 := gp_K_fM (gp_f3_fM c) hK
  exact ⟨c_ns C + 1, m_isL hK.1 hw hK2.2.2.2.2.1 a.2.2 ⟨gp_bi_b, h ν a b c⟩ (c_ns C) 0 (by omega)⟩
/-- bits gathered -/
def gp_bt (f : Nat → Bool) : Nat → Int32
  | 0 => 0
  | v + 1 => if f v = true then gp_bt f v ||| ((1 : Int32) <<< (nI v &&& 31)) else gp_bt f v
theorem gp_bt_b {f : Nat → Bool} {k : Nat} (hk : k < 32) : ∀ n, n ≤ 32 → bt (gp_bt f n) k = (decide (k < n) && f k)
  | 0, _ => by
    show bt 0 k = _
    rw [b_0, decide_eq_false (Nat.not_lt_zero k), Bool.false_and]
  | n + 1, hn => by
    have ih := gp_bt_b (f := f) hk n (by omega)
    show bt (if f n = true then _ else _) k = _
    by_cases c : f n = true
    · rw [if_pos c, b_or, ih, bt_one (by omega) hk]
      by_cases e : k = n
      · subst e
        rw [c]
        simp
      · by_cases d : k < n
        · simp [d, e, show k < n + 1 by omega]
        · simp [d, e, show ¬ k < n + 1 by omega]
    · rw [if_neg c, ih]
      have c' : f n = false := by simpa using c
      by_cases e : k = n
      · subst e
        rw [c']
        simp
      · by_cases d : k < n
        · simp [d, show k < n + 1 by omega]
        · simp [d, show ¬ k < n + 1 by omega]
/-! never -/
def gp_ke (e i : Nat) : Bool := !(i == e)
theorem gp_ke_c {C : gp_C} (hC : gp_cw C) {e : Nat} (he : e < 8) : ∀ i, i < c_ne C → bt ((255 : Int32) &&& (((1 : Int32) <<< (nI e &&& 31)) ^^^ (-1))) i = gp_ke e i := by
  intro i hi
  have := hC.2.1.1
  rw [b_and, b_255, b_xor, bt_one (by omega) (by omega), b_m1 i (by omega), decide_eq_true (by omega)]
  unfold gp_ke
  by_cases z : i = e
  · simp [z]
  · simp [z]
theorem gp_ke_m {C : gp_C} (hC : gp_cw C) {e : Nat} (he : e < 8) : ∀ i, i < d_ne (c_D C) → bt ((1 : Int32) <<< (nI e &&& 31)) i = !gp_ke e i := by
  intro i hi
  have : c_ne C ≤ 8 := hC.2.1.1
  have hi' : i < c_ne C := hi
  rw [bt_one (by omega) (by omega)]
  unfold gp_ke
  rw [Bool.not_not]
  by_cases z : i = e
  · simp [z]
  · simp [z]
def c_Pk (C : gp_C) (kp : Nat → Bool) : gp_P := gp_mk (c_nc C) (c_pl C) (c_so C) (c_ro C) (c_D C) (c_pc C) kp
theorem c_Pk_wf {C : gp_C} (hC : gp_cw C) {kp : Nat → Bool} : gp_wf (c_Pk C kp) := gp_wf_mk (c_dw hC) c_nc6 (fun _ hk => c_car hk) (fun _ _ => c_pc3)
def v_ne (C : gp_C) : Int32 := gp_bt (fun e => gp_sn C (c_Pk C (gp_ke e))) (c_ne C)
set_option maxHeartbeats 4000000 in
theorem c_neL {C : gp_C} {Q : Int32 → gk_St → Prop} {K : Int32 → gk_St → Prop} : ∀ (i j : Nat) (μ : gk_St), j + i = c_ne C → gp_K C μ → gp_pl0 (c_nc C) (c_pl C) (c_so C) (c_ro C) (c_D C) (c_pc C) μ → (∀ ν, gp_K C ν → K (v_ne C) ν) → w_X7_never_l8 Q K 0 (i + 1) (gp_bt (fun e => gp_sn C (c_Pk C (gp_ke e))) j) (nI j) μ := by
  intro i
  induction i with
  | zero =>
    intro j μ hj hK h0 h
    have e : j = c_ne C := by omega
    subst e
    unfold w_X7_never_l8
    rw [rf_0_5, hK.2.1.2.1.1, if_pos (Int32.le_refl _)]
    exact h μ hK
  | succ i ih =>
    intro j μ hj hK h0 h
    have hn8 := hK.1.2.1.1
    have ihj := ih (j + 1)
    have hs : gp_bt (fun e => gp_sn C (c_Pk C (gp_ke e))) (j + 1) = if gp_sn C (c_Pk C (gp_ke j)) = true then gp_bt (fun e => gp_sn C (c_Pk C (gp_ke e))) j ||| ((1 : Int32) <<< (nI j &&& 31)) else gp_bt (fun e => gp_sn C (c_Pk C (gp_ke e))) j := rfl
    rw [hs] at ihj
    unfold w_X7_never_l8
    rw [rf_0_5, hK.2.1.2.1.1, if_neg (fun q => absurd ((nI_leI (by omega) (by omega)).mp q) (by omega)), rf_0_11]
    refine s_te hK.1 c_nc6 (gp_ke_c hK.1 (e := j) (by omega)) hK.2.1.2.1 h0 (fun ν a b c => ?_)
    have hK2 : gp_K C ν := gp_K_fC (fun d p => c d (by omega) (by omega) (by omega)) hK
    refine s_seen hK2 (c_Pk_wf hK.1) a (fun ξ a2 b2 c2 d2 => ?_)
    have h02 := gp_pl0_f (fun c p q r => d2 c (by omega)) b
    cases g : gp_sn C (c_Pk C (gp_ke j)) with
    | false =>
      rw [g, if_neg (by decide)] at ihj
      rw [if_pos (show gp_bi false = 0 from rfl)]
      intro v e
      rw [e, nI_1]
      exact ihj ξ (by omega) a2 h02 h
    | true =>
      rw [g, if_pos rfl] at ihj
      rw [if_neg (show ¬ gp_bi true = 0 by decide)]
      intro v6 e6 v7 e7
      rw [e7, nI_1, e6]
      exact ihj ξ (by omega) a2 h02 h
theorem c_nv {C : gp_C} {μ : gk_St} (hK : gp_K C μ) {Q : Int32 → gk_St → Prop} (h : ∀ ν, gp_K C ν → Q (v_ne C) ν) : w_X7_never 0 μ Q := by
  unfold w_X7_never
  refine s_plan hK (fun ν a b c d => ?_)
  exact ⟨c_ne C + 1, c_neL (c_ne C) 0 ν (by omega) a c h⟩
set_option maxHeartbeats 4000000 in
theorem m_neL {C : gp_C} {Q : Int32 → gk_St → Prop} {K : Int32 → gk_St → Prop} : ∀ (i j : Nat) (μ : gk_St), j + i = c_ne C → gp_K C μ → (∃ kp, gp_mc (c_nc C) (c_pl C) (c_so C) (c_ro C) (c_D C) (c_pc C) kp μ) → (∀ ν, gp_f5 μ ν → K (v_ne C) ν) → w_X8_neverNow_l8 Q K 101 (i + 1) (gp_bt (fun e => gp_sn C (c_Pk C (gp_ke e))) j) (nI j) μ := by
  intro i
  induction i with
  | zero =>
    intro j μ hj hK h0 h
    have e : j = c_ne C := by omega
    subst e
    unfold w_X8_neverNow_l8
    rw [hK.2.2.2.1.1, if_pos (Int32.le_refl _)]
    exact h μ gp_f5_rf
  | succ i ih =>
    intro j μ hj hK ⟨kp, h0⟩ h
    have hn8 := hK.1.2.1.1
    have ihj := ih (j + 1)
    have hs : gp_bt (fun e => gp_sn C (c_Pk C (gp_ke e))) (j + 1) = if gp_sn C (c_Pk C (gp_ke j)) = true then gp_bt (fun e => gp_sn C (c_Pk C (gp_ke e))) j ||| ((1 : Int32) <<< (nI j &&& 31)) else gp_bt (fun e => gp_sn C (c_Pk C (gp_ke e))) j := rfl
    rw [hs] at ihj
    unfold w_X8_neverNow_l8
    rw [hK.2.2.2.1.1, if_neg (fun q => absurd ((nI_leI (by omega) (by omega)).mp q) (by omega))]
    intro m2 e2
    have h2 := mu_kp h0 e2 (gp_ke_m hK.1 (e := j) (by omega))
    have F2 : gp_f5 μ m2 := by rw [e2]; exact gp_f5_17
    have hK2 := gp_K_fM (gp_f5_fM F2) hK
    refine m_seen hK2 (c_Pk_wf hK.1) h2 (fun ν a b c => ?_)
    have F3 := gp_f5_tr F2 (gp_f3_f5 c)
    have hK3 := gp_K_fM (gp_f5_fM F3) hK
    unfold w_X8_neverNow_j38
    cases g : gp_sn C (c_Pk C (gp_ke j)) with
    | false =>
      rw [g, if_neg (by decide)] at ihj
      have e1 : gp_bi (gp_sn C (gp_mk (c_nc C) (c_pl C) (c_so C) (c_ro C) (c_D C) (c_pc C) (gp_ke j))) = 0 := nI_b.mpr g
      rw [if_pos e1]
      intro v5 e5 v6 e6
      rw [e6, nI_1, e5, Int32.or_zero]
      exact ihj ν (by omega) hK3 ⟨_, b⟩ (fun ξ f => h ξ (gp_f5_tr F3 f))
    | true =>
      rw [g, if_pos rfl] at ihj
      have e1 : gp_bi (gp_sn C (gp_mk (c_nc C) (c_pl C) (c_so C) (c_ro C) (c_D C) (c_pc C) (gp_ke j))) = 1 := gp_bi1 g
      rw [e1, if_neg i1n0]
      intro v5 e5 v6 e6
      rw [e6, nI_1, e5]
      exact ihj ν (by omega) hK3 ⟨_, b⟩ (fun ξ f => h ξ (gp_f5_tr F3 f))
theorem m_nv {C : gp_C} {μ : gk_St} (hK : gp_K C μ) {Q : Int32 → gk_St → Prop} (h : ∀ ν, gp_K C ν → gp_rd (c_tn C) (c_tb C) ν → Q (v_ne C) ν) : w_X8_neverNow 101 μ Q := by
  unfold w_X8_neverNow
  refine s_mastC hK (fun ν a b c d e => ?_)
  exact ⟨c_ne C + 1, m_neL (c_ne C) 0 ν (by omega) a ⟨_, c⟩ (fun ξ f => h ξ (gp_K_fM (gp_f5_fM f) a) (gp_rd_f5 f b))⟩
theorem k_ok_never : ok_never gp_Inv := by
  intro μ ⟨C, hK⟩
  refine c_nv hK (fun ν hK => ?_)
  unfold w_X8_never
  exact m_nv hK (fun ν hK hR => ⟨rfl, C, hK⟩)
