/-! the reference's ride: serving, going on -/
def gp_mj (P : gp_P) (t : Nat) (μ : gk_St) : Prop := (∀ k, k < p_nc P → bt (μ 101 20) k = p_jm P t k) ∧ μ 101 18 = gp_bi (p_gu P t)
theorem gp_f1_mj {P : gp_P} {t : Nat} {μ ν : gk_St} (h : gp_f1 μ ν) (hm : gp_mj P t μ) : gp_mj P t ν := by
  unfold gp_mj
  rw [h.2 20 (by omega) (by omega) (by omega), h.2 18 (by omega) (by omega) (by omega)]
  exact hm
theorem gp_sv_pl {P : gp_P} {t k j : Nat} {A : gp_A} : a_pl (gp_sv P t k A) j = a_pl A j := by
  unfold gp_sv
  split <;> rfl
theorem gp_sv_in {P : gp_P} {t k j : Nat} {A : gp_A} (h : j ≠ k) : a_in (gp_sv P t k A) j = a_in A j := by
  unfold gp_sv
  split
  · show gp_u (gp_u (a_in A) k 0) k _ j = a_in A j
    rw [gp_un h, gp_un h]
  · rfl
theorem gp_go_pl {P : gp_P} {t : Nat} {A : gp_A} {k : Nat} : ∀ j, a_pl (gp_go P t A j).1 k = if k < j then (a_pl A k + 1) % 24 else a_pl A k
  | 0 => by rw [if_neg (Nat.not_lt_zero k)]; rfl
  | j + 1 => by
    show a_pl (gp_sv P t j (gp_mv (gp_go P t A j).1 j)) k = _
    rw [gp_sv_pl]
    show gp_u (a_pl (gp_go P t A j).1) j ((a_pl (gp_go P t A j).1 j + 1) % 24) k = _
    by_cases e : k = j
    · subst e
      rw [gp_us, gp_go_pl k, if_neg (Nat.lt_irrefl k), if_pos (Nat.lt_succ_self k)]
    · rw [gp_un e, gp_go_pl j]
      by_cases c : k < j
      · rw [if_pos c, if_pos (by omega)]
      · rw [if_neg c, if_neg (by omega)]
theorem gp_go_in {P : gp_P} {t : Nat} {A : gp_A} {k : Nat} : ∀ j, j ≤ k → a_in (gp_go P t A j).1 k = a_in A k
  | 0, _ => rfl
  | j + 1, h => by
    show a_in (gp_sv P t j (gp_mv (gp_go P t A j).1 j)) k = _
    rw [gp_sv_in (by omega)]
    exact gp_go_in j (by omega)
theorem s_mno {Q K : gk_St → Prop} {C : Int32 → Int32 → Int32 → gk_St → Prop} {x1 x2 : Int32} {j : Nat} {μ : gk_St} (h : C x1 x2 (nI (j + 1)) μ) : w_X8_servesAll_j53 Q K C 101 x1 x2 (nI j) μ := by
  unfold w_X8_servesAll_j53 w_X8_servesAll_j54 w_X8_servesAll_j71
  rw [if_pos rfl, if_pos rfl]
  intro v e
  rw [e, nI_1]
  exact h
set_option maxHeartbeats 4000000 in
theorem s_mbody {P : gp_P} (hw : gp_wf P) {t j p : Nat} {μ : gk_St} (hj : j < p_nc P) (h1 : μ 115 j = nI p) (hp : p < 24) (h0 : gp_m0 P μ) (hm : gp_mj P t μ) {Q K : gk_St → Prop} {C : Int32 → Int32 → Int32 → gk_St → Prop} {x1 x2 : Int32} (hy : p % 12 = 0 ∧ gp_cl P t j = false → w_X8_servesAll_j49 Q K C 101 x1 x2 (nI j) μ) (hn : ¬ (p % 12 = 0 ∧ gp_cl P t j = false) → w_X8_servesAll_j53 Q K C 101 x1 x2 (nI j) μ) :
    (if (gk_md (μ 115 j) 12) = 0 then w_X8_isIn (μ 101 20) (nI j) μ (fun r6 m5 => (if r6 = 0 then (if (m5 101 18) = 0 then w_X8_servesAll_j49 Q K C 101 x1 x2 (nI j) m5 else (vp_in (nI j) (gk_ln 105) ∧ (if (m5 105 j) = 0 then w_X8_servesAll_j53 Q K C 101 x1 x2 (nI j) m5 else w_X8_servesAll_j49 Q K C 101 x1 x2 (nI j) m5))) else w_X8_servesAll_j53 Q K C 101 x1 x2 (nI j) m5)) else w_X8_servesAll_j53 Q K C 101 x1 x2 (nI j) μ) := by
  have hn6 := hw.1
  have hso := (hw.2.1 j hj).2.1
  have e9 : gk_md (nI p) 12 = nI (p % 12) := nI_md (b := 12) (by omega) (by omega) (by omega)
  rw [h1, e9]
  by_cases z : p % 12 = 0
  · rw [if_pos (by rw [z]; exact nI_0)]
    unfold w_X8_isIn
    by_cases b : ((μ 101 20 >>> (nI j &&& 31)) &&& 1) = 1
    · rw [if_pos b]
      dsimp only
      rw [if_neg (by decide)]
      refine hn (fun q => ?_)
      have hb := (bt_iff (by omega)).mp b
      rw [hm.1 j hj] at hb
      have := q.2
      unfold gp_cl at this
      rw [hb] at this
      exact absurd this (by simp)
    · rw [if_neg b]
      dsimp only
      rw [if_pos rfl, hm.2, (h0.2 j hj).1]
      have hb : p_jm P t j = false := by
        rw [← hm.1 j hj]
        cases hq : bt (μ 101 20) j with
        | false => rfl
        | true => exact absurd ((bt_iff (by omega)).mpr hq) b
      have hcl : gp_cl P t j = (p_gu P t && p_so P j == 0) := by
        unfold gp_cl
        rw [hb, Bool.false_or]
      by_cases g : gp_bi (p_gu P t) = 0
      · rw [if_pos g]
        refine hy ⟨z, ?_⟩
        rw [hcl, nI_b.mp g, Bool.false_and]
      · rw [if_neg g]
        have hg : p_gu P t = true := by
          cases hq : p_gu P t with
          | false => exact absurd (nI_b.mpr hq) g
          | true => rfl
        refine ⟨vi (n := 7) (by omega) ln_105 (by omega), ?_⟩
        by_cases s0 : p_so P j = 0
        · rw [if_pos (by rw [s0]; exact nI_0)]
          refine hn (fun q => ?_)
          have := q.2
          rw [hcl, hg, s0] at this
          exact absurd this (by decide)
        · rw [if_neg (nI_ne0 (by omega) (by omega))]
          refine hy ⟨z, ?_⟩
          rw [hcl, hg, Bool.true_and]
          simpa using s0
  · rw [if_neg (nI_ne0 (by omega) (by omega))]
    exact hn (fun q => z q.1)
set_option maxHeartbeats 4000000 in
theorem s_msvL {P : gp_P} (hw : gp_wf P) {arr t : Nat} {A : gp_A} (ha : arr ≤ 108) (hok : gp_ok P arr A) {Q K : gk_St → Prop} : ∀ (i j : Nat) (μ : gk_St), j + i = p_nc P → gp_ms (p_nc P) (fun k => (a_pl A k + 1) % 24) (gp_go P t A j).1 μ → gp_m0 P μ → gp_mj P t μ → (∀ ν, gp_ms (p_nc P) (fun k => (a_pl A k + 1) % 24) (gp_go P t A (p_nc P)).1 ν → gp_f1 μ ν → K ν) → w_X8_servesAll_l2 Q K 101 (i + 1) (nI t) 1 (nI j) μ := by
  intro i
  induction i with
  | zero =>
    intro j μ hj hs h0 hm h
    have e : j = p_nc P := by omega
    subst e
    unfold w_X8_servesAll_l2
    rw [h0.1, if_pos (Int32.le_refl _)]
    exact h μ hs gp_f1_rf
  | succ i ih =>
    intro j μ hj hs h0 hm h
    have hjn : j < p_nc P := by omega
    have hn6 := hw.1
    have hok2 := gp_ok_go (t := t) hok j (by omega)
    have epl : (a_pl (gp_go P t A j).1 j + 1) % 24 = (a_pl A j + 1) % 24 := by rw [gp_go_pl, if_neg (Nat.lt_irrefl j)]
    have emv : a_pl (gp_mv (gp_go P t A j).1 j) j = (a_pl A j + 1) % 24 := by
      rw [← epl]
      exact gp_us
    unfold w_X8_servesAll_l2
    rw [h0.1, if_neg (fun q => absurd ((nI_leI (by omega) (by omega)).mp q) (by omega)), rf_101_21, rf_101_4, kc (k := j) (by omega)]
    refine ⟨vi (n := 6) (by omega) ln_115 (by omega), ?_⟩
    refine s_mbody (p := (a_pl A j + 1) % 24) hw hjn (hs.1 j hjn).1 (Nat.mod_lt _ (by omega)) h0 hm (fun q => ?_) (fun q => ?_)
    · have e7 : (gp_go P t A (j + 1)).1 = gp_letIn (gp_letOut t (gp_mv (gp_go P t A j).1 j) j ((a_pl A j + 1) % 24 / 12)) j ((a_pl A j + 1) % 24 / 12) (gp_cap P j) := by
        show gp_sv P t j (gp_mv (gp_go P t A j).1 j) = _
        unfold gp_sv
        rw [emv, if_pos q]
      unfold w_X8_servesAll_j49 w_X8_servesAll_j54
      rw [if_neg (by decide), if_neg (by decide)]
      have hsm := gp_sm_of ha hok2
      have hst : (a_pl A j + 1) % 24 / 12 < 2 := by omega
      refine s_mout hn6 (A := gp_mv (gp_go P t A j).1 j) hs hjn (hsm.2 j hjn).1 (Nat.mod_lt _ (by omega)) (fun m4 h4 f4 => ?_)
      unfold w_X8_servesAll_j71
      rw [if_neg (by decide)]
      have hok3 : gp_ok P arr (gp_letOut t (gp_mv (gp_go P t A j).1 j) j ((a_pl A j + 1) % 24 / 12)) := gp_ok_out hjn hst (gp_ok_mv hok2)
      have hsm3 := gp_sm_of ha hok3
      have ein : a_in (gp_letOut t (gp_mv (gp_go P t A j).1 j) j ((a_pl A j + 1) % 24 / 12)) j = 0 := gp_us
      refine s_min hw h4 (gp_f1_m0 f4 h0) hjn hsm3.1 (hsm3.2 j hjn).2.1 (Nat.mod_lt _ (by omega)) (fun m2 h2 f2 => ?_)
      intro v3 e3
      rw [e3, nI_1]
      rw [ein, Nat.sub_zero] at h2
      refine ih (j + 1) m2 (by omega) (by rw [e7]; exact h2) (gp_f1_m0 f2 (gp_f1_m0 f4 h0)) (gp_f1_mj f2 (gp_f1_mj f4 hm)) (fun ν h5 f5 => h ν h5 (gp_f1_tr (gp_f1_tr f4 f2) f5))
    · have e7 : (gp_go P t A (j + 1)).1 = gp_mv (gp_go P t A j).1 j := by
        show gp_sv P t j (gp_mv (gp_go P t A j).1 j) = _
        unfold gp_sv
        rw [emv, if_neg q]
      refine s_mno ?_
      exact ih (j + 1) μ (by omega) (by rw [e7]; exact hs) h0 hm h
set_option maxHeartbeats 4000000 in
theorem s_mstL {P : gp_P} (hw : gp_wf P) {arr t : Nat} {A : gp_A} (ha : arr ≤ 108) (hok : gp_ok P arr A) {Q K : gk_St → Prop} : ∀ (i j : Nat) (μ : gk_St), j + i = p_nc P → gp_ms (p_nc P) (a_pl A) (gp_stn P t A j) μ → gp_m0 P μ → gp_mj P t μ → (∀ ν, gp_ms (p_nc P) (a_pl A) (gp_stn P t A (p_nc P)) ν → gp_f1 μ ν → K ν) → w_X8_servesAll_l2 Q K 101 (i + 1) (nI t) 0 (nI j) μ := by
  have hpl : ∀ j k, a_pl (gp_stn P t A j) k = a_pl A k := by
    intro j k
    induction j with
    | zero => rfl
    | succ j ihj =>
      show a_pl (gp_sd P t j (gp_stn P t A j)) k = _
      unfold gp_sd
      split
      · exact ihj
      · exact ihj
  intro i
  induction i with
  | zero =>
    intro j μ hj hs h0 hm h
    have e : j = p_nc P := by omega
    subst e
    unfold w_X8_servesAll_l2
    rw [h0.1, if_pos (Int32.le_refl _)]
    exact h μ hs gp_f1_rf
  | succ i ih =>
    intro j μ hj hs h0 hm h
    have hjn : j < p_nc P := by omega
    have hn6 := hw.1
    have hok2 := gp_ok_stn (t := t) hok j (by omega)
    have hsm := gp_sm_of ha hok2
    have hp24 : a_pl A j < 24 := hok.2.2 j hjn
    unfold w_X8_servesAll_l2
    rw [h0.1, if_neg (fun q => absurd ((nI_leI (by omega) (by omega)).mp q) (by omega)), rf_101_21, rf_101_4, kc (k := j) (by omega)]
    refine ⟨vi (n := 6) (by omega) ln_115 (by omega), ?_⟩
    refine s_mbody hw hjn (hs.1 j hjn).1 hp24 h0 hm (fun q => ?_) (fun q => ?_)
    · have e7 : gp_stn P t A (j + 1) = gp_letIn (gp_stn P t A j) j (a_pl A j / 12) (gp_cap P j - a_in (gp_stn P t A j) j) := by
        show gp_sd P t j (gp_stn P t A j) = _
        unfold gp_sd
        rw [hpl, if_pos q]
      unfold w_X8_servesAll_j49 w_X8_servesAll_j54
      rw [if_neg (by decide), if_pos rfl]
      unfold w_X8_servesAll_j71
      rw [if_neg (by decide)]
      refine s_min hw hs h0 hjn hsm.1 (hsm.2 j hjn).2.1 hp24 (fun m2 h2 f2 => ?_)
      intro v3 e3
      rw [e3, nI_1]
      exact ih (j + 1) m2 (by omega) (by rw [e7]; exact h2) (gp_f1_m0 f2 h0) (gp_f1_mj f2 hm) (fun ν h5 f5 => h ν h5 (gp_f1_tr f2 f5))
    · have e7 : gp_stn P t A (j + 1) = gp_stn P t A j := by
        show gp_sd P t j (gp_stn P t A j) = _
        unfold gp_sd
        rw [hpl, if_neg q]
      refine s_mno ?_
      exact ih (j + 1) μ (by omega) (by rw [e7]; exact hs) h0 hm h
/-- going on changes only this -/
def gp_f2 (μ ν : gk_St) : Prop := (∀ c, c ≠ 101 → (c < 115 ∨ 119 < c) → ν c = μ c) ∧ ∀ j, j ≠ 24 → j ≠ 27 → j ≠ 29 → j ≠ 30 → ν 101 j = μ 101 j
theorem gp_f2_rf {μ : gk_St} : gp_f2 μ μ := ⟨fun _ _ _ => rfl, fun _ _ _ _ _ => rfl⟩
theorem gp_f2_tr {μ ν ξ : gk_St} (h1 : gp_f2 μ ν) (h2 : gp_f2 ν ξ) : gp_f2 μ ξ := ⟨fun c a b => (h2.1 c a b).trans (h1.1 c a b), fun j a b c d => (h2.2 j a b c d).trans (h1.2 j a b c d)⟩
theorem gp_f1_f2 {μ ν : gk_St} (h : gp_f1 μ ν) : gp_f2 μ ν := ⟨fun c a b => h.1 c a (by omega), fun j a b c d => h.2 j a c d⟩
theorem gp_f2_m0 {P : gp_P} {μ ν : gk_St} (h : gp_f2 μ ν) (hm : gp_m0 P μ) : gp_m0 P ν := by
  unfold gp_m0
  rw [h.2 2 (by omega) (by omega) (by omega) (by omega), h.1 105 (by omega) (by omega), h.1 106 (by omega) (by omega)]
  exact hm
theorem gp_f2_mj {P : gp_P} {t : Nat} {μ ν : gk_St} (h : gp_f2 μ ν) (hm : gp_mj P t μ) : gp_mj P t ν := by
  unfold gp_mj
  rw [h.2 20 (by omega) (by omega) (by omega) (by omega), h.2 18 (by omega) (by omega) (by omega) (by omega)]
  exact hm
set_option maxHeartbeats 4000000 in
theorem s_mgoL {P : gp_P} (hw : gp_wf P) {arr t : Nat} {A : gp_A} (hok : gp_ok P arr A) {Q : gk_St → Prop} {K : Int32 → gk_St → Prop} : ∀ (i j : Nat) (μ : gk_St), j + i = p_nc P → gp_ms (p_nc P) (fun k => if k < j then (a_pl A k + 1) % 24 else a_pl A k) A μ → gp_m0 P μ → (∀ ν, gp_ms (p_nc P) (fun k => if k < p_nc P then (a_pl A k + 1) % 24 else a_pl A k) A ν → (∀ c, c ≠ 115 → ν c = μ c) → K (gp_go P t A (p_nc P)).2 ν) → w_X8_goesOn_l4 Q K 101 (i + 1) (gp_go P t A j).2 (nI j) μ := by
  intro i
  induction i with
  | zero =>
    intro j μ hj hs h0 h
    have e : j = p_nc P := by omega
    subst e
    unfold w_X8_goesOn_l4
    rw [h0.1, if_pos (Int32.le_refl _)]
    exact h μ hs (fun _ _ => rfl)
  | succ i ih =>
    intro j μ hj hs h0 h
    have hjn : j < p_nc P := by omega
    have hn6 := hw.1
    have hp24 := hok.2.2 j hjn
    have a0 : μ 115 j = nI (a_pl A j) := by
      have := (hs.1 j hjn).1
      dsimp only at this
      rw [if_neg (Nat.lt_irrefl j)] at this
      exact this
    have a1 := (hs.1 j hjn).2.1
    have g1 : a_pl (gp_go P t A j).1 j = a_pl A j := by rw [gp_go_pl, if_neg (Nat.lt_irrefl j)]
    have g2 : a_in (gp_go P t A j).1 j = a_in A j := gp_go_in j (Nat.le_refl j)
    have e9 : gk_md (nI (a_pl A j) + 1) 24 = nI ((a_pl A j + 1) % 24) := by
      rw [nI_1]
      exact nI_md (b := 24) (by omega) (by omega) (by omega)
    have j40 : ∀ s0 : Int32, (gp_go P t A (j + 1)).2 = (gp_go P t A j).2 + s0 → w_X8_goesOn_j40 Q K (fun c_x1 c_x2 cm => w_X8_goesOn_l4 Q K 101 (i + 1) c_x1 c_x2 cm) 101 (nI j) s0 (gp_go P t A j).2 μ := by
      intro s0 hs0
      unfold w_X8_goesOn_j40
      intro v1 e1
      rw [rf_101_21, kc (k := j) (by omega), a0, e9]
      refine ⟨vi (n := 6) (by omega) ln_115 (by omega), vi (n := 6) (by omega) ln_115 (by omega), ?_⟩
      intro m2 e2 v3 e3
      have b1 : m2 115 = upd (μ 115) j (nI ((a_pl A j + 1) % 24)) := by rw [e2]; simp [gk_up]
      have bo : ∀ c, c ≠ 115 → m2 c = μ c := fun c c1 => by rw [e2]; simp [gk_up, c1]
      rw [e3, nI_1, e1, ← hs0]
      refine ih (j + 1) m2 (by omega) ⟨fun k hk => ⟨?_, ?_, ?_⟩, fun s hs9 => ?_, ?_, ?_, ?_⟩ (by
        unfold gp_m0
        rw [bo 101 (by omega), bo 105 (by omega), bo 106 (by omega)]
        exact h0) (fun ν h5 f5 => h ν h5 (fun c c1 => (f5 c c1).trans (bo c c1)))
      · rw [b1]
        by_cases e : k = j
        · subst e
          rw [upd_s]
          dsimp only
          rw [if_pos (Nat.lt_succ_self k)]
        · rw [upd_n e, (hs.1 k hk).1]
          dsimp only
          by_cases c : k < j
          · rw [if_pos c, if_pos (by omega)]
          · rw [if_neg c, if_neg (by omega)]
      · rw [bo 116 (by omega)]
        exact (hs.1 k hk).2.1
      · rw [bo 117 (by omega)]
        exact (hs.1 k hk).2.2
      · rw [bo 118 (by omega), bo 119 (by omega)]
        exact hs.2.1 s hs9
      · rw [bo 101 (by omega)]
        exact hs.2.2.1
      · rw [bo 101 (by omega)]
        exact hs.2.2.2.1
      · rw [bo 101 (by omega)]
        exact hs.2.2.2.2
    unfold w_X8_goesOn_l4
    rw [h0.1, if_neg (fun q => absurd ((nI_leI (by omega) (by omega)).mp q) (by omega)), rf_101_21, rf_101_22, kc (k := j) (by omega), a0, a1]
    refine ⟨vi (n := 6) (by omega) ln_115 (by omega), ?_⟩
    by_cases c : a_pl A j < 12
    · rw [if_neg (show ¬ (12 : Int32) ≤ nI (a_pl A j) from fun q => absurd ((nI_leI (a := 12) (by omega) (by omega)).mp q) (by omega))]
      refine ⟨vi (n := 6) (by omega) ln_116 (by omega), j40 _ ?_⟩
      show gp_ld _ _ _ = _
      unfold gp_ld
      rw [g1, g2, if_pos c]
    · rw [if_pos (show (12 : Int32) ≤ nI (a_pl A j) from (nI_leI (a := 12) (by omega) (by omega)).mpr (by omega))]
      refine ⟨vi (n := 6) (by omega) ln_116 (by omega), j40 _ ?_⟩
      show gp_ld _ _ _ = _
      unfold gp_ld
      rw [g1, g2, if_neg c]
theorem gk_mx0 {x : Int32} : gk_mx 0 x = if x ≤ 0 then 0 else x := by
  unfold gk_mx
  by_cases h : x ≤ 0
  · rw [if_pos h, if_neg (Int32.not_lt.mpr h)]
  · rw [if_neg h, if_pos (Int32.not_le.mp h)]
theorem gp_ms_congr {n : Nat} {pm pm' : Nat → Nat} {A : gp_A} {μ : gk_St} (h : ∀ k, k < n → pm k = pm' k) (hs : gp_ms n pm A μ) : gp_ms n pm' A μ := ⟨fun k hk => by rw [← h k hk]; exact hs.1 k hk, hs.2⟩
set_option maxHeartbeats 4000000 in
theorem s_mgosL {P : gp_P} (hw : gp_wf P) {arr t : Nat} {A : gp_A} (ha : arr ≤ 108) (hok : gp_ok P arr A) {n : Nat} (hn : n ≤ 3) {Q : gk_St → Prop} {K : Int32 → Int32 → gk_St → Prop} : ∀ (i j : Nat) (μ : gk_St), j + i = n → gp_ms (p_nc P) (a_pl (gp_gos P t A j).1) (gp_gos P t A j).1 μ → gp_m0 P μ → gp_mj P t μ → μ 101 27 = (gp_gos P t A j).2 → (∀ ν, gp_ms (p_nc P) (a_pl (gp_gos P t A n).1) (gp_gos P t A n).1 ν → ν 101 27 = (gp_gos P t A n).2 → gp_f2 μ ν → K (nI t) (nI n) ν) → w_X8_goesBy_l30 Q K 101 (i + 1) (nI t) (nI n) (nI j) μ := by
  intro i
  induction i with
  | zero =>
    intro j μ hj hs h0 hm hp h
    have e : j = n := by omega
    subst e
    unfold w_X8_goesBy_l30
    rw [if_pos (Int32.le_refl _)]
    exact h μ hs hp gp_f2_rf
  | succ i ih =>
    intro j μ hj hs h0 hm hp h
    have hokj := gp_ok_gos (t := t) hok j
    unfold w_X8_goesBy_l30
    rw [if_neg (fun q => absurd ((nI_leI (by omega) (by omega)).mp q) (by omega))]
    unfold w_X8_goesOn
    refine ⟨p_nc P + 1, ?_⟩
    refine s_mgoL hw (t := t) hokj (p_nc P) 0 μ (by omega) (gp_ms_congr (fun k hk => by rw [if_neg (Nat.not_lt_zero k)]) hs) h0 (fun ν h1 f1 => ?_)
    have hfin : ∀ m6 : gk_St, m6 = gk_up ν 101 27 (ν 101 27 + gk_mx 0 (gp_go P t (gp_gos P t A j).1 (p_nc P)).2) → w_X8_servesAll 101 (nI t) 1 m6 (fun m5 => ∀ v6 : Int32, v6 = nI j + 1 → w_X8_goesBy_l30 Q K 101 (i + 1) (nI t) (nI n) v6 m5) := by
      intro m6 e6
      have c1 : ∀ c, c ≠ 101 → m6 c = ν c := fun c c1 => by rw [e6]; simp [gk_up, c1]
      have c2 : ∀ j, j ≠ 27 → m6 101 j = ν 101 j := fun j c1 => by rw [e6]; simp [gk_up, upd, c1]
      have c3 : m6 101 27 = (gp_gos P t A (j + 1)).2 := by
        rw [e6, f1 101 (by omega), hp]
        simp [gk_up, upd]
        rfl
      have h16 : gp_ms (p_nc P) (fun k => (a_pl (gp_gos P t A j).1 k + 1) % 24) (gp_gos P t A j).1 m6 := by
        refine gp_ms_congr (pm := fun k => if k < p_nc P then (a_pl (gp_gos P t A j).1 k + 1) % 24 else a_pl (gp_gos P t A j).1 k) (fun k hk => by rw [if_pos hk]) ?_
        unfold gp_ms
        rw [c1 115 (by omega), c1 116 (by omega), c1 117 (by omega), c1 118 (by omega), c1 119 (by omega), c2 24 (by omega), c2 29 (by omega), c2 30 (by omega)]
        exact h1
      have f6 : gp_f2 μ m6 := ⟨fun c d1 d2 => (c1 c d1).trans (f1 c (by omega)), fun j d1 d2 d3 d4 => (c2 j d2).trans (by rw [f1 101 (by omega)])⟩
      unfold w_X8_servesAll
      refine ⟨p_nc P + 1, ?_⟩
      refine s_msvL hw ha hokj (p_nc P) 0 m6 (by omega) h16 (gp_f2_m0 f6 h0) (gp_f2_mj f6 hm) (fun m5 h5 f5 => ?_)
      intro v6 e7
      rw [e7, nI_1]
      have epl : ∀ k, k < p_nc P → (a_pl (gp_gos P t A j).1 k + 1) % 24 = a_pl (gp_gos P t A (j + 1)).1 k := fun k hk => by
        show _ = a_pl (gp_go P t (gp_gos P t A j).1 (p_nc P)).1 k
        rw [gp_go_pl, if_pos hk]
      have f7 := gp_f2_tr f6 (gp_f1_f2 f5)
      exact ih (j + 1) m5 (by omega) (gp_ms_congr epl h5) (gp_f2_m0 f7 h0) (gp_f2_mj f7 hm) (by rw [f5.2 27 (by omega) (by omega) (by omega)]; exact c3) (fun ξ h8 p8 f8 => h ξ h8 p8 (gp_f2_tr f7 f8))
    rw [gk_mx0] at hfin
    by_cases c : (gp_go P t (gp_gos P t A j).1 (p_nc P)).2 ≤ 0
    · rw [if_pos c] at hfin ⊢
      intro m6 e6
      exact hfin m6 e6
    · rw [if_neg c] at hfin ⊢
      intro m7 e7
      exact hfin m7 e7
