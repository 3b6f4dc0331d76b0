set_option maxHeartbeats 4000000 in
theorem s_j45_42 {P : gp_P} (hw : gp_wf P) {arr t j : Nat} {B : gp_A} {μ : gk_St} (ha : arr ≤ 108) (hok : gp_ok P arr B) (ht : t < 24) (hj : j < p_nc P) (hs : gp_rs P 42 B μ) (hp : gp_pla P μ) {Q : Int32 → gk_St → Prop} {K : Int32 → gk_St → Prop} {C : Int32 → Int32 → Int32 → gk_St → Prop} {s0 s1 : Int32} (h : ∀ ν, gp_rs P 42 (gp_sv P t j (gp_mv B j)) ν → gp_fs 42 μ ν → C (nI t) (s1 + s0) (nI (j + 1)) ν) : w_X2_goOn_j45 Q K C 42 31 (nI t) (nI j) s0 s1 μ := by
  have hk6 : j < 6 := Nat.lt_of_lt_of_le hj hw.1
  have hp24 := hok.2.2 j hj
  unfold w_X2_goOn_j45
  intro v1 e1
  subst e1
  rw [rf_42_4, kc (k := j) (by omega)]
  refine ⟨vi hk6 ln_61 (by omega), vi hk6 ln_61 (by omega), ?_⟩
  intro m2 e2
  have a1 : μ 61 j = nI (a_pl B j) := (hs.2.1 j hj).1
  have e9 : gk_md (μ 61 j + 1) 24 = nI ((a_pl B j + 1) % 24) := by
    rw [a1, nI_1]
    exact nI_md (b := 24) (by omega) (by omega) (by omega)
  rw [e9] at e2
  have e19 : m2 61 = upd (μ 61) j (nI ((a_pl B j + 1) % 24)) := by rw [e2]; simp [gk_up]
  have eo : ∀ c, c ≠ 61 → m2 c = μ c := fun c c1 => by rw [e2]; simp [gk_up, c1]
  have hs2 : gp_rs P 42 (gp_mv B j) m2 := by
    refine ⟨?_, fun i hi => ⟨?_, ?_, ?_⟩, fun s hs9 => ⟨?_, ?_⟩, ?_, ?_, ?_⟩
    · rw [eo 42 (by omega)]
      exact hs.1
    · show m2 61 i = _
      rw [e19]
      exact upd_nI (fun i hi => (hs.2.1 i hi).1) i hi
    · rw [eo (42 + 20) (by omega)]
      exact (hs.2.1 i hi).2.1
    · rw [eo (42 + 21) (by omega)]
      exact (hs.2.1 i hi).2.2
    · rw [eo (42 + 22) (by omega)]
      exact (hs.2.2.1 s hs9).1
    · rw [eo (42 + 23) (by omega)]
      exact (hs.2.2.1 s hs9).2
    · rw [eo 42 (by omega)]
      exact hs.2.2.2.1
    · rw [eo 42 (by omega)]
      exact hs.2.2.2.2.1
    · rw [eo 42 (by omega)]
      exact hs.2.2.2.2.2
  have hf2 : gp_fs 42 μ m2 := fun c c1 c2 => eo c (by omega)
  have hp2 := gp_fs_pla (P := P) (Or.inl rfl) hf2 hp
  have hok2 : gp_ok P arr (gp_mv B j) := gp_ok_mv hok
  have epl : a_pl (gp_mv B j) j = (a_pl B j + 1) % 24 := gp_us
  refine ⟨vi hk6 ln_61 (by omega), ?_⟩
  have a2 : m2 61 j = nI ((a_pl B j + 1) % 24) := by rw [e19]; exact upd_s
  rw [a2]
  refine s_station (by omega) (fun c => ?_) (fun c => ?_)
  · have hst : (a_pl B j + 1) % 24 / 12 < 2 := by omega
    rw [if_neg (show ¬ nI ((a_pl B j + 1) % 24 / 12) = -1 from fun q => by
      rcases (show (a_pl B j + 1) % 24 / 12 = 0 ∨ (a_pl B j + 1) % 24 / 12 = 1 by omega) with z | z <;> rw [z] at q <;> exact absurd q (by decide))]
    refine s_isClosed hw hp2 hj ht ?_
    cases hc : gp_cl P t j with
    | true =>
      rw [if_neg (show ¬ gp_bi true = 0 by decide)]
      intro v8 e8
      have e7 : gp_sv P t j (gp_mv B j) = gp_mv B j := by
        unfold gp_sv
        rw [if_neg (fun q => by rw [hc] at q; exact absurd q.2 (by decide))]
      rw [e8, nI_1]
      rw [e7] at h
      exact h m2 hs2 hf2
    | false =>
      rw [if_pos (show gp_bi false = 0 from rfl)]
      have e7 : gp_sv P t j (gp_mv B j) = gp_letIn (gp_letOut t (gp_mv B j) j ((a_pl B j + 1) % 24 / 12)) j ((a_pl B j + 1) % 24 / 12) (gp_cap P j) := by
        unfold gp_sv
        rw [epl, if_pos ⟨c, hc⟩]
      rw [e7] at h
      refine s_letOut_42 hw hs2 (gp_sm_of ha hok2) hj hst (fun m9 h9 f9 => ?_)
      have hp9 := gp_fs_pla (P := P) (Or.inl rfl) f9 hp2
      refine s_roomIn hw hp9 hj ?_
      have hcap : gp_cap P j < 1000 := by
        have := (hw.2.1 j hj).2.2
        unfold gp_cap
        split <;> omega
      refine s_letIn_42 hw h9 (gp_sm_of ha (gp_ok_out hj hst hok2)) hj hst hcap (fun m12 h12 f12 => ?_)
      intro v13 e13
      rw [e13, nI_1]
      exact h m12 h12 (gp_fs_tr (gp_fs_tr hf2 f9) f12)
  · rw [if_pos rfl]
    intro v5 e5
    have e7 : gp_sv P t j (gp_mv B j) = gp_mv B j := by
      unfold gp_sv
      rw [if_neg (fun q => c (by rw [← epl]; exact q.1))]
    rw [e5, nI_1]
    rw [e7] at h
    exact h m2 hs2 hf2
set_option maxHeartbeats 4000000 in
theorem s_goL_42 {P : gp_P} (hw : gp_wf P) {arr t : Nat} {A : gp_A} (ha : arr ≤ 108) (hok : gp_ok P arr A) (ht : t < 24) {Q : Int32 → gk_St → Prop} {K : Int32 → gk_St → Prop} : ∀ (i j : Nat) (μ : gk_St), j + i = p_nc P → gp_rs P 42 (gp_go P t A j).1 μ → gp_pla P μ → (∀ ν, gp_rs P 42 (gp_go P t A (p_nc P)).1 ν → gp_fs 42 μ ν → K (gp_go P t A (p_nc P)).2 ν) → w_X2_goOn_l5 Q K 42 31 (i + 1) (nI t) (gp_go P t A j).2 (nI j) μ := by
  intro i
  induction i with
  | zero =>
    intro j μ hj hs hp h
    have e : j = p_nc P := by omega
    subst e
    unfold w_X2_goOn_l5
    rw [hs.1, if_pos (Int32.le_refl _)]
    exact h μ hs gp_fs_rf
  | succ i ih =>
    intro j μ hj hs hp h
    have hjn : j < p_nc P := by omega
    have hn6 := hw.1
    have hk6 : j < 6 := by omega
    have hok2 := gp_ok_go (t := t) hok j (by omega)
    have hp24 := hok2.2.2 j hjn
    unfold w_X2_goOn_l5
    rw [hs.1, if_neg (fun q => absurd ((nI_leI (by omega) (by omega)).mp q) (by omega)), rf_42_4, rf_42_5, kc (k := j) (by omega)]
    have a1 : μ 61 j = nI (a_pl (gp_go P t A j).1 j) := (hs.2.1 j hjn).1
    have a2 : μ 62 j = nI (a_in (gp_go P t A j).1 j) := (hs.2.1 j hjn).2.1
    rw [a1, a2]
    refine ⟨vi hk6 ln_61 (by omega), ?_⟩
    by_cases c : a_pl (gp_go P t A j).1 j < 12
    · rw [if_neg (show ¬ (12 : Int32) ≤ nI (a_pl (gp_go P t A j).1 j) from fun q => absurd ((nI_leI (a := 12) (by omega) (by omega)).mp q) (by omega))]
      refine ⟨vi hk6 ln_62 (by omega), ?_⟩
      refine s_j45_42 hw ha hok2 ht hjn hs hp (fun ν h1 f1 => ?_)
      have e9 : (gp_go P t A (j + 1)).2 = (gp_go P t A j).2 + nI (a_in (gp_go P t A j).1 j) := by
        show gp_ld _ _ _ = _
        unfold gp_ld
        rw [if_pos c]
      rw [← e9]
      exact ih (j + 1) ν (by omega) h1 (gp_fs_pla (Or.inl rfl) f1 hp) (fun ξ h2 f2 => h ξ h2 (gp_fs_tr f1 f2))
    · rw [if_pos (show (12 : Int32) ≤ nI (a_pl (gp_go P t A j).1 j) from (nI_leI (a := 12) (by omega) (by omega)).mpr (by omega))]
      refine ⟨vi hk6 ln_62 (by omega), ?_⟩
      refine s_j45_42 hw ha hok2 ht hjn hs hp (fun ν h1 f1 => ?_)
      have e9 : (gp_go P t A (j + 1)).2 = (gp_go P t A j).2 + -(nI (a_in (gp_go P t A j).1 j)) := by
        show gp_ld _ _ _ = _
        unfold gp_ld
        rw [if_neg c]
      rw [← e9]
      exact ih (j + 1) ν (by omega) h1 (gp_fs_pla (Or.inl rfl) f1 hp) (fun ξ h2 f2 => h ξ h2 (gp_fs_tr f1 f2))
theorem s_goOn_42 {P : gp_P} (hw : gp_wf P) {arr t : Nat} {A : gp_A} (ha : arr ≤ 108) (hok : gp_ok P arr A) (ht : t < 24) {μ : gk_St} (hs : gp_rs P 42 A μ) (hp : gp_pla P μ) {Q : Int32 → gk_St → Prop} (h : ∀ ν, gp_rs P 42 (gp_go P t A (p_nc P)).1 ν → gp_fs 42 μ ν → Q (gk_mx 0 (gp_go P t A (p_nc P)).2) ν) : w_X2_goOn 42 31 (nI t) μ Q :=
  ⟨p_nc P + 1, s_goL_42 hw ha hok ht (p_nc P) 0 μ (by omega) hs hp h⟩
set_option maxHeartbeats 4000000 in
theorem s_stL_42 {P : gp_P} (hw : gp_wf P) {arr t : Nat} {A : gp_A} (ha : arr ≤ 108) (hok : gp_ok P arr A) (ht : t < 24) {Q : gk_St → Prop} {K : gk_St → Prop} : ∀ (i j : Nat) (μ : gk_St), j + i = p_nc P → gp_rs P 42 (gp_stn P t A j) μ → gp_pla P μ → (∀ ν, gp_rs P 42 (gp_stn P t A (p_nc P)) ν → gp_fs 42 μ ν → K ν) → w_X2_stand_l2 Q K 42 31 (i + 1) (nI t) (nI j) μ := by
  intro i
  induction i with
  | zero =>
    intro j μ hj hs hp h
    have e : j = p_nc P := by omega
    subst e
    unfold w_X2_stand_l2
    rw [hs.1, if_pos (Int32.le_refl _)]
    exact h μ hs gp_fs_rf
  | succ i ih =>
    intro j μ hj hs hp h
    have hjn : j < p_nc P := by omega
    have hn6 := hw.1
    have hk6 : j < 6 := by omega
    have hok2 := gp_ok_stn (t := t) hok j (by omega)
    have hp24 := hok2.2.2 j hjn
    have hin := hok2.2.1 j hjn
    unfold w_X2_stand_l2
    rw [hs.1, if_neg (fun q => absurd ((nI_leI (by omega) (by omega)).mp q) (by omega)), rf_42_4, rf_42_5, kc (k := j) (by omega)]
    have a1 : μ 61 j = nI (a_pl (gp_stn P t A j) j) := (hs.2.1 j hjn).1
    rw [a1]
    refine ⟨vi hk6 ln_61 (by omega), ?_⟩
    refine s_station hp24 (fun c => ?_) (fun c => ?_)
    · have hst := gp_st2 hp24
      rw [if_neg (show ¬ nI (a_pl (gp_stn P t A j) j / 12) = -1 from fun q => by
        rcases (show a_pl (gp_stn P t A j) j / 12 = 0 ∨ a_pl (gp_stn P t A j) j / 12 = 1 by omega) with z | z <;> rw [z] at q <;> exact absurd q (by decide))]
      refine s_isClosed hw hp hjn ht ?_
      cases hc : gp_cl P t j with
      | true =>
        rw [if_neg (show ¬ gp_bi true = 0 by decide)]
        intro v8 e8
        have e7 : gp_stn P t A (j + 1) = gp_stn P t A j := by
          show gp_sd P t j (gp_stn P t A j) = _
          unfold gp_sd
          rw [if_neg (fun q => by rw [hc] at q; exact absurd q.2 (by decide))]
        rw [e8, nI_1]
        exact ih (j + 1) μ (by omega) (by rw [e7]; exact hs) hp h
      | false =>
        rw [if_pos (show gp_bi false = 0 from rfl)]
        refine s_roomIn hw hp hjn ?_
        have a2 : μ 62 j = nI (a_in (gp_stn P t A j) j) := (hs.2.1 j hjn).2.1
        rw [a2, pk_sub hin]
        refine ⟨vi hk6 ln_62 (by omega), ?_⟩
        have hcap : gp_cap P j - a_in (gp_stn P t A j) j < 1000 := by
          have := (hw.2.1 j hjn).2.2
          unfold gp_cap
          split <;> omega
        refine s_letIn_42 hw hs (gp_sm_of ha hok2) hjn hst hcap (fun m9 h9 f9 => ?_)
        intro v10 e10
        have e7 : gp_stn P t A (j + 1) = gp_letIn (gp_stn P t A j) j (a_pl (gp_stn P t A j) j / 12) (gp_cap P j - a_in (gp_stn P t A j) j) := by
          show gp_sd P t j (gp_stn P t A j) = _
          unfold gp_sd
          rw [if_pos ⟨c, hc⟩]
        rw [e10, nI_1]
        exact ih (j + 1) m9 (by omega) (by rw [e7]; exact h9) (gp_fs_pla (Or.inl rfl) f9 hp) (fun ξ h2 f2 => h ξ h2 (gp_fs_tr f9 f2))
    · rw [if_pos rfl]
      intro v5 e5
      have e7 : gp_stn P t A (j + 1) = gp_stn P t A j := by
        show gp_sd P t j (gp_stn P t A j) = _
        unfold gp_sd
        rw [if_neg (fun q => c q.1)]
      rw [e5, nI_1]
      exact ih (j + 1) μ (by omega) (by rw [e7]; exact hs) hp h
theorem s_stand_42 {P : gp_P} (hw : gp_wf P) {arr t : Nat} {A : gp_A} (ha : arr ≤ 108) (hok : gp_ok P arr A) (ht : t < 24) {μ : gk_St} (hs : gp_rs P 42 A μ) (hp : gp_pla P μ) {Q : gk_St → Prop} (h : ∀ ν, gp_rs P 42 (gp_stn P t A (p_nc P)) ν → gp_fs 42 μ ν → Q ν) : w_X2_stand 42 31 (nI t) μ Q :=
  ⟨p_nc P + 1, s_stL_42 hw ha hok ht (p_nc P) 0 μ (by omega) hs hp h⟩
set_option maxHeartbeats 4000000 in
theorem s_gosL_42 {P : gp_P} (hw : gp_wf P) {arr t : Nat} {A : gp_A} (ha : arr ≤ 108) (hok : gp_ok P arr A) (ht : t < 24) {n : Nat} (hn : n ≤ 3) {x2 : Int32} {Q : gk_St → Prop} {K : Int32 → Int32 → Int32 → Int32 → gk_St → Prop} : ∀ (i j : Nat) (μ : gk_St), j + i = n → gp_rs P 42 (gp_gos P t A j).1 μ → gp_pla P μ → (∀ ν, gp_rs P 42 (gp_gos P t A n).1 ν → gp_fs 42 μ ν → K x2 (nI t) (nI n) (gp_gos P t A n).2 ν) → w_X2_run_l65 Q K 42 31 (i + 1) x2 (nI t) (nI n) (gp_gos P t A j).2 (nI j) μ := by
  intro i
  induction i with
  | zero =>
    intro j μ hj hs hp h
    have e : j = n := by omega
    subst e
    unfold w_X2_run_l65
    rw [if_pos (Int32.le_refl _)]
    exact h μ hs gp_fs_rf
  | succ i ih =>
    intro j μ hj hs hp h
    unfold w_X2_run_l65
    rw [if_neg (fun q => absurd ((nI_leI (by omega) (by omega)).mp q) (by omega))]
    refine s_goOn_42 hw ha (gp_ok_gos hok j) ht hs hp (fun ν h1 f1 => ?_)
    intro v10 e10 v11 e11
    rw [e11, nI_1, e10]
    exact ih (j + 1) ν (by omega) h1 (gp_fs_pla (Or.inl rfl) f1 hp) (fun ξ h2 f2 => h ξ h2 (gp_fs_tr f1 f2))
set_option maxHeartbeats 4000000 in
theorem s_j45_66 {P : gp_P} (hw : gp_wf P) {arr t j : Nat} {B : gp_A} {μ : gk_St} (ha : arr ≤ 108) (hok : gp_ok P arr B) (ht : t < 24) (hj : j < p_nc P) (hs : gp_rs P 66 B μ) (hp : gp_pla P μ) {Q : Int32 → gk_St → Prop} {K : Int32 → gk_St → Prop} {C : Int32 → Int32 → Int32 → gk_St → Prop} {s0 s1 : Int32} (h : ∀ ν, gp_rs P 66 (gp_sv P t j (gp_mv B j)) ν → gp_fs 66 μ ν → C (nI t) (s1 + s0) (nI (j + 1)) ν) : w_X2_goOn_j45 Q K C 66 31 (nI t) (nI j) s0 s1 μ := by
  have hk6 : j < 6 := Nat.lt_of_lt_of_le hj hw.1
  have hp24 := hok.2.2 j hj
  unfold w_X2_goOn_j45
  intro v1 e1
  subst e1
  rw [rf_66_4, kc (k := j) (by omega)]
  refine ⟨vi hk6 ln_85 (by omega), vi hk6 ln_85 (by omega), ?_⟩
  intro m2 e2
  have a1 : μ 85 j = nI (a_pl B j) := (hs.2.1 j hj).1
  have e9 : gk_md (μ 85 j + 1) 24 = nI ((a_pl B j + 1) % 24) := by
    rw [a1, nI_1]
    exact nI_md (b := 24) (by omega) (by omega) (by omega)
  rw [e9] at e2
  have e19 : m2 85 = upd (μ 85) j (nI ((a_pl B j + 1) % 24)) := by rw [e2]; simp [gk_up]
  have eo : ∀ c, c ≠ 85 → m2 c = μ c := fun c c1 => by rw [e2]; simp [gk_up, c1]
  have hs2 : gp_rs P 66 (gp_mv B j) m2 := by
    refine ⟨?_, fun i hi => ⟨?_, ?_, ?_⟩, fun s hs9 => ⟨?_, ?_⟩, ?_, ?_, ?_⟩
    · rw [eo 66 (by omega)]
      exact hs.1
    · show m2 85 i = _
      rw [e19]
      exact upd_nI (fun i hi => (hs.2.1 i hi).1) i hi
    · rw [eo (66 + 20) (by omega)]
      exact (hs.2.1 i hi).2.1
    · rw [eo (66 + 21) (by omega)]
      exact (hs.2.1 i hi).2.2
    · rw [eo (66 + 22) (by omega)]
      exact (hs.2.2.1 s hs9).1
    · rw [eo (66 + 23) (by omega)]
      exact (hs.2.2.1 s hs9).2
    · rw [eo 66 (by omega)]
      exact hs.2.2.2.1
    · rw [eo 66 (by omega)]
      exact hs.2.2.2.2.1
    · rw [eo 66 (by omega)]
      exact hs.2.2.2.2.2
  have hf2 : gp_fs 66 μ m2 := fun c c1 c2 => eo c (by omega)
  have hp2 := gp_fs_pla (P := P) (Or.inr rfl) hf2 hp
  have hok2 : gp_ok P arr (gp_mv B j) := gp_ok_mv hok
  have epl : a_pl (gp_mv B j) j = (a_pl B j + 1) % 24 := gp_us
  refine ⟨vi hk6 ln_85 (by omega), ?_⟩
  have a2 : m2 85 j = nI ((a_pl B j + 1) % 24) := by rw [e19]; exact upd_s
  rw [a2]
  refine s_station (by omega) (fun c => ?_) (fun c => ?_)
  · have hst : (a_pl B j + 1) % 24 / 12 < 2 := by omega
    rw [if_neg (show ¬ nI ((a_pl B j + 1) % 24 / 12) = -1 from fun q => by
      rcases (show (a_pl B j + 1) % 24 / 12 = 0 ∨ (a_pl B j + 1) % 24 / 12 = 1 by omega) with z | z <;> rw [z] at q <;> exact absurd q (by decide))]
    refine s_isClosed hw hp2 hj ht ?_
    cases hc : gp_cl P t j with
    | true =>
      rw [if_neg (show ¬ gp_bi true = 0 by decide)]
      intro v8 e8
      have e7 : gp_sv P t j (gp_mv B j) = gp_mv B j := by
        unfold gp_sv
        rw [if_neg (fun q => by rw [hc] at q; exact absurd q.2 (by decide))]
      rw [e8, nI_1]
      rw [e7] at h
      exact h m2 hs2 hf2
    | false =>
      rw [if_pos (show gp_bi false = 0 from rfl)]
      have e7 : gp_sv P t j (gp_mv B j) = gp_letIn (gp_letOut t (gp_mv B j) j ((a_pl B j + 1) % 24 / 12)) j ((a_pl B j + 1) % 24 / 12) (gp_cap P j) := by
        unfold gp_sv
        rw [epl, if_pos ⟨c, hc⟩]
      rw [e7] at h
      refine s_letOut_66 hw hs2 (gp_sm_of ha hok2) hj hst (fun m9 h9 f9 => ?_)
      have hp9 := gp_fs_pla (P := P) (Or.inr rfl) f9 hp2
      refine s_roomIn hw hp9 hj ?_
      have hcap : gp_cap P j < 1000 := by
        have := (hw.2.1 j hj).2.2
        unfold gp_cap
        split <;> omega
      refine s_letIn_66 hw h9 (gp_sm_of ha (gp_ok_out hj hst hok2)) hj hst hcap (fun m12 h12 f12 => ?_)
      intro v13 e13
      rw [e13, nI_1]
      exact h m12 h12 (gp_fs_tr (gp_fs_tr hf2 f9) f12)
  · rw [if_pos rfl]
    intro v5 e5
    have e7 : gp_sv P t j (gp_mv B j) = gp_mv B j := by
      unfold gp_sv
      rw [if_neg (fun q => c (by rw [← epl]; exact q.1))]
    rw [e5, nI_1]
    rw [e7] at h
    exact h m2 hs2 hf2
set_option maxHeartbeats 4000000 in
theorem s_goL_66 {P : gp_P} (hw : gp_wf P) {arr t : Nat} {A : gp_A} (ha : arr ≤ 108) (hok : gp_ok P arr A) (ht : t < 24) {Q : Int32 → gk_St → Prop} {K : Int32 → gk_St → Prop} : ∀ (i j : Nat) (μ : gk_St), j + i = p_nc P → gp_rs P 66 (gp_go P t A j).1 μ → gp_pla P μ → (∀ ν, gp_rs P 66 (gp_go P t A (p_nc P)).1 ν → gp_fs 66 μ ν → K (gp_go P t A (p_nc P)).2 ν) → w_X2_goOn_l5 Q K 66 31 (i + 1) (nI t) (gp_go P t A j).2 (nI j) μ := by
  intro i
  induction i with
  | zero =>
    intro j μ hj hs hp h
    have e : j = p_nc P := by omega
    subst e
    unfold w_X2_goOn_l5
    rw [hs.1, if_pos (Int32.le_refl _)]
    exact h μ hs gp_fs_rf
  | succ i ih =>
    intro j μ hj hs hp h
    have hjn : j < p_nc P := by omega
    have hn6 := hw.1
    have hk6 : j < 6 := by omega
    have hok2 := gp_ok_go (t := t) hok j (by omega)
    have hp24 := hok2.2.2 j hjn
    unfold w_X2_goOn_l5
    rw [hs.1, if_neg (fun q => absurd ((nI_leI (by omega) (by omega)).mp q) (by omega)), rf_66_4, rf_66_5, kc (k := j) (by omega)]
    have a1 : μ 85 j = nI (a_pl (gp_go P t A j).1 j) := (hs.2.1 j hjn).1
    have a2 : μ 86 j = nI (a_in (gp_go P t A j).1 j) := (hs.2.1 j hjn).2.1
    rw [a1, a2]
    refine ⟨vi hk6 ln_85 (by omega), ?_⟩
    by_cases c : a_pl (gp_go P t A j).1 j < 12
    · rw [if_neg (show ¬ (12 : Int32) ≤ nI (a_pl (gp_go P t A j).1 j) from fun q => absurd ((nI_leI (a := 12) (by omega) (by omega)).mp q) (by omega))]
      refine ⟨vi hk6 ln_86 (by omega), ?_⟩
      refine s_j45_66 hw ha hok2 ht hjn hs hp (fun ν h1 f1 => ?_)
      have e9 : (gp_go P t A (j + 1)).2 = (gp_go P t A j).2 + nI (a_in (gp_go P t A j).1 j) := by
        show gp_ld _ _ _ = _
        unfold gp_ld
        rw [if_pos c]
      rw [← e9]
      exact ih (j + 1) ν (by omega) h1 (gp_fs_pla (Or.inr rfl) f1 hp) (fun ξ h2 f2 => h ξ h2 (gp_fs_tr f1 f2))
    · rw [if_pos (show (12 : Int32) ≤ nI (a_pl (gp_go P t A j).1 j) from (nI_leI (a := 12) (by omega) (by omega)).mpr (by omega))]
      refine ⟨vi hk6 ln_86 (by omega), ?_⟩
      refine s_j45_66 hw ha hok2 ht hjn hs hp (fun ν h1 f1 => ?_)
      have e9 : (gp_go P t A (j + 1)).2 = (gp_go P t A j).2 + -(nI (a_in (gp_go P t A j).1 j)) := by
        show gp_ld _ _ _ = _
        unfold gp_ld
        rw [if_neg c]
      rw [← e9]
      exact ih (j + 1) ν (by omega) h1 (gp_fs_pla (Or.inr rfl) f1 hp) (fun ξ h2 f2 => h ξ h2 (gp_fs_tr f1 f2))
theorem s_goOn_66 {P : gp_P} (hw : gp_wf P) {arr t : Nat} {A : gp_A} (ha : arr ≤ 108) (hok : gp_ok P arr A) (ht : t < 24) {μ : gk_St} (hs : gp_rs P 66 A μ) (hp : gp_pla P μ) {Q : Int32 → gk_St → Prop} (h : ∀ ν, gp_rs P 66 (gp_go P t A (p_nc P)).1 ν → gp_fs 66 μ ν → Q (gk_mx 0 (gp_go P t A (p_nc P)).2) ν) : w_X2_goOn 66 31 (nI t) μ Q :=
  ⟨p_nc P + 1, s_goL_66 hw ha hok ht (p_nc P) 0 μ (by omega) hs hp h⟩
set_option maxHeartbeats 4000000 in
theorem s_stL_66 {P : gp_P} (hw : gp_wf P) {arr t : Nat} {A : gp_A} (ha : arr ≤ 108) (hok : gp_ok P arr A) (ht : t < 24) {Q : gk_St → Prop} {K : gk_St → Prop} : ∀ (i j : Nat) (μ : gk_St), j + i = p_nc P → gp_rs P 66 (gp_stn P t A j) μ → gp_pla P μ → (∀ ν, gp_rs P 66 (gp_stn P t A (p_nc P)) ν → gp_fs 66 μ ν → K ν) → w_X2_stand_l2 Q K 66 31 (i + 1) (nI t) (nI j) μ := by
  intro i
  induction i with
  | zero =>
    intro j μ hj hs hp h
    have e : j = p_nc P := by omega
    subst e
    unfold w_X2_stand_l2
    rw [hs.1, if_pos (Int32.le_refl _)]
    exact h μ hs gp_fs_rf
  | succ i ih =>
    intro j μ hj hs hp h
    have hjn : j < p_nc P := by omega
    have hn6 := hw.1
    have hk6 : j < 6 := by omega
    have hok2 := gp_ok_stn (t := t) hok j (by omega)
    have hp24 := hok2.2.2 j hjn
    have hin := hok2.2.1 j hjn
    unfold w_X2_stand_l2
    rw [hs.1, if_neg (fun q => absurd ((nI_leI (by omega) (by omega)).mp q) (by omega)), rf_66_4, rf_66_5, kc (k := j) (by omega)]
    have a1 : μ 85 j = nI (a_pl (gp_stn P t A j) j) := (hs.2.1 j hjn).1
    rw [a1]
    refine ⟨vi hk6 ln_85 (by omega), ?_⟩
    refine s_station hp24 (fun c => ?_) (fun c => ?_)
    · have hst := gp_st2 hp24
      rw [if_neg (show ¬ nI (a_pl (gp_stn P t A j) j / 12) = -1 from fun q => by
        rcases (show a_pl (gp_stn P t A j) j / 12 = 0 ∨ a_pl (gp_stn P t A j) j / 12 = 1 by omega) with z | z <;> rw [z] at q <;> exact absurd q (by decide))]
      refine s_isClosed hw hp hjn ht ?_
      cases hc : gp_cl P t j with
      | true =>
        rw [if_neg (show ¬ gp_bi true = 0 by decide)]
        intro v8 e8
        have e7 : gp_stn P t A (j + 1) = gp_stn P t A j := by
          show gp_sd P t j (gp_stn P t A j) = _
          unfold gp_sd
          rw [if_neg (fun q => by rw [hc] at q; exact absurd q.2 (by decide))]
        rw [e8, nI_1]
        exact ih (j + 1) μ (by omega) (by rw [e7]; exact hs) hp h
      | false =>
        rw [if_pos (show gp_bi false = 0 from rfl)]
        refine s_roomIn hw hp hjn ?_
        have a2 : μ 86 j = nI (a_in (gp_stn P t A j) j) := (hs.2.1 j hjn).2.1
        rw [a2, pk_sub hin]
        refine ⟨vi hk6 ln_86 (by omega), ?_⟩
        have hcap : gp_cap P j - a_in (gp_stn P t A j) j < 1000 := by
          have := (hw.2.1 j hjn).2.2
          unfold gp_cap
          split <;> omega
        refine s_letIn_66 hw hs (gp_sm_of ha hok2) hjn hst hcap (fun m9 h9 f9 => ?_)
        intro v10 e10
        have e7 : gp_stn P t A (j + 1) = gp_letIn (gp_stn P t A j) j (a_pl (gp_stn P t A j) j / 12) (gp_cap P j - a_in (gp_stn P t A j) j) := by
          show gp_sd P t j (gp_stn P t A j) = _
          unfold gp_sd
          rw [if_pos ⟨c, hc⟩]
        rw [e10, nI_1]
        exact ih (j + 1) m9 (by omega) (by rw [e7]; exact h9) (gp_fs_pla (Or.inr rfl) f9 hp) (fun ξ h2 f2 => h ξ h2 (gp_fs_tr f9 f2))
    · rw [if_pos rfl]
      intro v5 e5
      have e7 : gp_stn P t A (j + 1) = gp_stn P t A j := by
        show gp_sd P t j (gp_stn P t A j) = _
        unfold gp_sd
        rw [if_neg (fun q => c q.1)]
      rw [e5, nI_1]
      exact ih (j + 1) μ (by omega) (by rw [e7]; exact hs) hp h
theorem s_stand_66 {P : gp_P} (hw : gp_wf P) {arr t : Nat} {A : gp_A} (ha : arr ≤ 108) (hok : gp_ok P arr A) (ht : t < 24) {μ : gk_St} (hs : gp_rs P 66 A μ) (hp : gp_pla P μ) {Q : gk_St → Prop} (h : ∀ ν, gp_rs P 66 (gp_stn P t A (p_nc P)) ν → gp_fs 66 μ ν → Q ν) : w_X2_stand 66 31 (nI t) μ Q :=
  ⟨p_nc P + 1, s_stL_66 hw ha hok ht (p_nc P) 0 μ (by omega) hs hp h⟩
set_option maxHeartbeats 4000000 in
theorem s_gosL_66 {P : gp_P} (hw : gp_wf P) {arr t : Nat} {A : gp_A} (ha : arr ≤ 108) (hok : gp_ok P arr A) (ht : t < 24) {n : Nat} (hn : n ≤ 3) {x2 : Int32} {Q : gk_St → Prop} {K : Int32 → Int32 → Int32 → Int32 → gk_St → Prop} : ∀ (i j : Nat) (μ : gk_St), j + i = n → gp_rs P 66 (gp_gos P t A j).1 μ → gp_pla P μ → (∀ ν, gp_rs P 66 (gp_gos P t A n).1 ν → gp_fs 66 μ ν → K x2 (nI t) (nI n) (gp_gos P t A n).2 ν) → w_X2_run_l65 Q K 66 31 (i + 1) x2 (nI t) (nI n) (gp_gos P t A j).2 (nI j) μ := by
  intro i
  induction i with
  | zero =>
    intro j μ hj hs hp h
    have e : j = n := by omega
    subst e
    unfold w_X2_run_l65
    rw [if_pos (Int32.le_refl _)]
    exact h μ hs gp_fs_rf
  | succ i ih =>
    intro j μ hj hs hp h
    unfold w_X2_run_l65
    rw [if_neg (fun q => absurd ((nI_leI (by omega) (by omega)).mp q) (by omega))]
    refine s_goOn_66 hw ha (gp_ok_gos hok j) ht hs hp (fun ν h1 f1 => ?_)
    intro v10 e10 v11 e11
    rw [e11, nI_1, e10]
    exact ih (j + 1) ν (by omega) h1 (gp_fs_pla (Or.inr rfl) f1 hp) (fun ξ h2 f2 => h ξ h2 (gp_fs_tr f1 f2))
