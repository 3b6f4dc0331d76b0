/-! the reference's ride: its numbers stand for gp_A, its places for pm -/
def gp_ms (n : Nat) (pm : Nat → Nat) (A : gp_A) (μ : gk_St) : Prop := (∀ k, k < n → μ 115 k = nI (pm k) ∧ μ 116 k = nI (a_in A k) ∧ μ 117 k = nI (a_ou A k)) ∧ (∀ s, s < 2 → μ 118 s = nI (a_wt A s) ∧ μ 119 s = nI (a_ov A s)) ∧ μ 101 24 = a_us A ∧ μ 101 29 = a_fm A ∧ μ 101 30 = a_fc A
/-- cars, sorts, rooms as they are now -/
def gp_m0 (P : gp_P) (μ : gk_St) : Prop := μ 101 2 = nI (p_nc P) ∧ ∀ k, k < p_nc P → μ 105 k = nI (p_so P k) ∧ μ 106 k = nI (p_ro P k)
/-- serving changes only this -/
def gp_f1 (μ ν : gk_St) : Prop := (∀ c, c ≠ 101 → (c < 116 ∨ 119 < c) → ν c = μ c) ∧ ∀ j, j ≠ 24 → j ≠ 29 → j ≠ 30 → ν 101 j = μ 101 j
theorem gp_f1_rf {μ : gk_St} : gp_f1 μ μ := ⟨fun _ _ _ => rfl, fun _ _ _ _ => rfl⟩
theorem gp_f1_tr {μ ν ξ : gk_St} (h1 : gp_f1 μ ν) (h2 : gp_f1 ν ξ) : gp_f1 μ ξ := ⟨fun c a b => (h2.1 c a b).trans (h1.1 c a b), fun j a b c => (h2.2 j a b c).trans (h1.2 j a b c)⟩
theorem gp_f1_m0 {P : gp_P} {μ ν : gk_St} (h : gp_f1 μ ν) (hm : gp_m0 P μ) : gp_m0 P ν := by
  unfold gp_m0
  rw [h.2 2 (by omega) (by omega) (by omega), h.1 105 (by omega) (by omega), h.1 106 (by omega) (by omega)]
  exact hm
set_option maxHeartbeats 4000000 in
theorem s_mo59 {n : Nat} (hn : n ≤ 6) {pm : Nat → Nat} {A : gp_A} {μ : gk_St} (hs : gp_ms n pm A μ) {k st : Nat} (hk : k < n) (hst : st < 2) {Q : gk_St → Prop} (h : ∀ ν, gp_ms n pm (gp_lo A k st) ν → gp_f1 μ ν → Q ν) : w_X8_getsOut_j59 Q 101 (nI k) (nI st) μ := by
  have hk6 : k < 6 := Nat.lt_of_lt_of_le hk hn
  unfold w_X8_getsOut_j59
  rw [rf_101_26, rf_101_22, rf_101_23, kc (k := k) (by omega), kc (k := st) (by omega)]
  refine ⟨vi hst ln_119 (by omega), vi hk6 ln_116 (by omega), vi hst ln_119 (by omega), ?_⟩
  intro m1 e1
  refine ⟨vi hk6 ln_117 (by omega), vi hk6 ln_116 (by omega), vi hk6 ln_117 (by omega), ?_⟩
  intro m2 e2
  refine ⟨vi hk6 ln_116 (by omega), ?_⟩
  intro m3 e3
  have a1 := (hs.1 k hk).2.1
  have a2 := (hs.1 k hk).2.2
  have a3 := (hs.2.1 st hst).2
  have e20 : m3 116 = upd (μ 116) k (nI 0) := by rw [e3, e2, e1]; simp [gk_up, nI_0]
  have e21 : m3 117 = upd (μ 117) k (nI (a_ou A k + a_in A k)) := by rw [e3, e2, e1]; simp [gk_up, ← nI_add, ← a1, ← a2]
  have e23 : m3 119 = upd (μ 119) st (nI (a_ov A st + a_in A k)) := by rw [e3, e2, e1]; simp [gk_up, ← nI_add, ← a1, ← a3]
  have eo : ∀ c, c ≠ 116 → c ≠ 117 → c ≠ 119 → m3 c = μ c := fun c c1 c2 c3 => by rw [e3, e2, e1]; simp [gk_up, c1, c2, c3]
  refine h m3 ⟨fun j hj => ⟨?_, ?_, ?_⟩, fun s hs2 => ⟨?_, ?_⟩, ?_, ?_, ?_⟩ ⟨fun c c1 c2 => eo c (by omega) (by omega) (by omega), fun j _ _ _ => by rw [eo 101 (by omega) (by omega) (by omega)]⟩
  · rw [eo 115 (by omega) (by omega) (by omega)]
    exact (hs.1 j hj).1
  · rw [e20]
    exact upd_nI (fun i hi => (hs.1 i hi).2.1) j hj
  · rw [e21]
    exact upd_nI (fun i hi => (hs.1 i hi).2.2) j hj
  · rw [eo 118 (by omega) (by omega) (by omega)]
    exact (hs.2.1 s hs2).1
  · rw [e23]
    exact upd_nI (fun i hi => (hs.2.1 i hi).2) s hs2
  · rw [eo 101 (by omega) (by omega) (by omega)]
    exact hs.2.2.1
  · rw [eo 101 (by omega) (by omega) (by omega)]
    exact hs.2.2.2.1
  · rw [eo 101 (by omega) (by omega) (by omega)]
    exact hs.2.2.2.2
set_option maxHeartbeats 4000000 in
theorem s_mout {n : Nat} (hn : n ≤ 6) {pm : Nat → Nat} {A : gp_A} {μ : gk_St} (hs : gp_ms n pm A μ) {k t : Nat} (hk : k < n) (hin : a_in A k ≤ 108) (hpm : pm k < 24) {Q : gk_St → Prop} (h : ∀ ν, gp_ms n pm (gp_letOut t A k (pm k / 12)) ν → gp_f1 μ ν → Q ν) : w_X8_getsOut 101 (nI k) (nI t) μ Q := by
  have hk6 : k < 6 := Nat.lt_of_lt_of_le hk hn
  have hst : pm k / 12 < 2 := gp_st2 hpm
  have a0 := (hs.1 k hk).1
  have a1 := (hs.1 k hk).2.1
  unfold w_X8_getsOut
  rw [rf_101_21, rf_101_22, kc (k := k) (by omega), a0, a1]
  refine ⟨vi hk6 ln_115 (by omega), ?_⟩
  intro v1 e1
  have e9 : nI (pm k) / 12 = nI (pm k / 12) := nI_div (b := 12) (by omega) (by omega) (by omega)
  rw [e9] at e1
  subst e1
  refine ⟨vi hk6 ln_116 (by omega), ?_⟩
  by_cases c : a_in A k = 0
  · rw [if_pos ((nI_le0 (by omega)).mpr c)]
    rw [gp_letOut_0 (by omega)] at h
    exact s_mo59 hn hs hk hst h
  · rw [if_neg (fun q => c ((nI_le0 (by omega)).mp q)), hs.2.2.2.1]
    have key : ∀ (fm fc : Int32), (∀ ν, gp_ms n pm (gp_lo (gp_fst A fm fc) k (pm k / 12)) ν → gp_f1 μ ν → Q ν) → ∀ m6 : gk_St, m6 = gk_up (gk_up μ 101 30 fc) 101 29 fm → w_X8_getsOut_j59 Q 101 (nI k) (nI (pm k / 12)) m6 := by
      intro fm fc hq m6 e6
      have e11 : m6 101 29 = fm := by rw [e6]; simp [gk_up, upd]
      have e12 : m6 101 30 = fc := by rw [e6]; simp [gk_up, upd]
      have eq : ∀ j, j ≠ 29 → j ≠ 30 → m6 101 j = μ 101 j := fun j c1 c2 => by rw [e6]; simp [gk_up, upd, c1, c2]
      have eo : ∀ c, c ≠ 101 → m6 c = μ c := fun c c1 => by rw [e6]; simp [gk_up, c1]
      refine s_mo59 hn (A := gp_fst A fm fc) ⟨fun j hj => ?_, fun s hs2 => ?_, ?_, e11, e12⟩ hk hst (fun ν h1 h2 => hq ν h1 ⟨fun c c1 c2 => (h2.1 c c1 c2).trans (eo c c1), fun j c1 c2 c3 => (h2.2 j c1 c2 c3).trans (eq j c2 c3)⟩)
      · rw [eo 115 (by omega), eo 116 (by omega), eo 117 (by omega)]
        exact hs.1 j hj
      · rw [eo 118 (by omega), eo 119 (by omega)]
        exact hs.2.1 s hs2
      · rw [eq 24 (by omega) (by omega)]
        exact hs.2.2.1
    by_cases f : a_fm A = -1
    · rw [if_pos f]
      rw [gp_letOut_1 ⟨by omega, f⟩] at h
      unfold w_X8_getsOut_j36
      intro m5 e5
      have e29 : m5 101 29 = -1 := by rw [e5, ← f, ← hs.2.2.2.1]; simp [gk_up, upd]
      rw [e29, if_pos rfl]
      unfold w_X8_getsOut_j56
      intro m6 e6
      exact key (nI t) (nI k) h m6 (by rw [e6, e5])
    · rw [if_neg f]
      rw [gp_letOut_0 (fun q => f q.2)] at h
      unfold w_X8_getsOut_j36
      intro m5 e5
      have e29 : m5 101 29 = a_fm A := by rw [e5, ← hs.2.2.2.1]; simp [gk_up, upd]
      rw [e29, if_neg f]
      unfold w_X8_getsOut_j56
      intro m6 e6
      refine key (a_fm A) (a_fc A) h m6 (by rw [e6, e5, hs.2.2.2.2])
set_option maxHeartbeats 4000000 in
theorem s_min {P : gp_P} (hw : gp_wf P) {pm : Nat → Nat} {A : gp_A} {μ : gk_St} (hs : gp_ms (p_nc P) pm A μ) (h0 : gp_m0 P μ) {k : Nat} (hk : k < p_nc P) (hwt : ∀ s, s < 2 → a_wt A s ≤ 108) (hin : a_in A k ≤ gp_cap P k) (hpm : pm k < 24) {Q : gk_St → Prop} (h : ∀ ν, gp_ms (p_nc P) pm (gp_letIn A k (pm k / 12) (gp_cap P k - a_in A k)) ν → gp_f1 μ ν → Q ν) : w_X8_getsIn 101 (nI k) μ Q := by
  have hk6 : k < 6 := Nat.lt_of_lt_of_le hk hw.1
  have hst : pm k / 12 < 2 := gp_st2 hpm
  have hro := (hw.2.1 k hk).2.2
  have hso := (hw.2.1 k hk).2.1
  have hw1 := hwt _ hst
  have a0 := (hs.1 k hk).1
  have a1 := (hs.1 k hk).2.1
  have a2 := (hs.2.1 _ hst).1
  have hcap9 : gp_cap P k ≤ 9 := by
    unfold gp_cap
    split <;> omega
  have j65 : ∀ p, p = min (a_wt A (pm k / 12)) (gp_cap P k - a_in A k) → w_X8_getsIn_j65 Q 101 (nI k) (nI (pm k / 12)) (nI p) μ := by
    intro p hp
    unfold w_X8_getsIn_j65
    rw [rf_101_22, rf_101_25, kc (k := k) (by omega), kc (k := pm k / 12) (by omega)]
    refine ⟨vi hk6 ln_116 (by omega), vi hk6 ln_116 (by omega), ?_⟩
    intro m3 e3
    refine ⟨vi hst ln_118 (by omega), vi hst ln_118 (by omega), ?_⟩
    intro m4 e4
    have b1 : m4 116 = upd (μ 116) k (nI (a_in A k + p)) := by rw [e4, e3, ← nI_add, ← a1]; simp [gk_up]
    have b2 : m4 118 = upd (μ 118) (pm k / 12) (nI (a_wt A (pm k / 12) - p)) := by rw [e4, e3, ← pk_sub (by omega), ← a2]; simp [gk_up]
    have bo : ∀ c, c ≠ 116 → c ≠ 118 → m4 c = μ c := fun c c1 c2 => by rw [e4, e3]; simp [gk_up, c1, c2]
    have fin : ∀ (u : Int32) (m5 : gk_St), m5 = gk_up m4 101 24 u → u = (if 0 < min (a_wt A (pm k / 12)) (gp_cap P k - a_in A k) then a_us A ||| ((1 : Int32) <<< (nI k &&& 31)) else a_us A) → Q m5 := by
      intro u m5 e5 hu
      have c1 : ∀ c, c ≠ 101 → m5 c = m4 c := fun c c1 => by rw [e5]; simp [gk_up, c1]
      have c2 : ∀ j, j ≠ 24 → m5 101 j = μ 101 j := fun j c1 => by rw [e5, ← bo 101 (by omega) (by omega)]; simp [gk_up, upd, c1]
      have c3 : m5 101 24 = u := by rw [e5]; simp [gk_up, upd]
      refine h m5 ⟨fun j hj => ⟨?_, ?_, ?_⟩, fun s hs2 => ⟨?_, ?_⟩, ?_, ?_, ?_⟩ ⟨fun c d1 d2 => (c1 c d1).trans (bo c (by omega) (by omega)), fun j d1 d2 d3 => c2 j d1⟩
      · rw [c1 115 (by omega), bo 115 (by omega) (by omega)]
        exact (hs.1 j hj).1
      · rw [c1 116 (by omega), b1, hp]
        exact upd_nI (fun i hi => (hs.1 i hi).2.1) j hj
      · rw [c1 117 (by omega), bo 117 (by omega) (by omega)]
        exact (hs.1 j hj).2.2
      · rw [c1 118 (by omega), b2, hp]
        exact upd_nI (fun i hi => (hs.2.1 i hi).1) s hs2
      · rw [c1 119 (by omega), bo 119 (by omega) (by omega)]
        exact (hs.2.1 s hs2).2
      · rw [c3, hu]
        rfl
      · rw [c2 29 (by omega)]
        exact hs.2.2.2.1
      · rw [c2 30 (by omega)]
        exact hs.2.2.2.2
    have b24 : m4 101 24 = a_us A := by rw [bo 101 (by omega) (by omega)]; exact hs.2.2.1
    by_cases z : p = 0
    · rw [if_pos ((nI_le0 (by omega)).mpr z), b24]
      intro m5 e5
      refine fin _ m5 e5 ?_
      rw [if_neg (by omega)]
      exact Int32.or_zero
    · rw [if_neg (fun q => z ((nI_le0 (by omega)).mp q)), b24]
      intro m6 e6
      refine fin _ m6 e6 ?_
      rw [if_pos (by omega)]
  have j37 : w_X8_getsIn_j37 Q 101 (nI k) (nI (pm k / 12)) (nI (gp_cap P k)) μ := by
    unfold w_X8_getsIn_j37
    rw [rf_101_22, rf_101_25, kc (k := k) (by omega), kc (k := pm k / 12) (by omega), a1, a2, pk_sub hin]
    refine ⟨vi hk6 ln_116 (by omega), ?_⟩
    intro v2 e2
    subst e2
    refine ⟨vi hst ln_118 (by omega), ?_⟩
    by_cases q : gp_cap P k - a_in A k ≤ a_wt A (pm k / 12)
    · rw [if_pos ((nI_leI (by omega) (by omega)).mpr q)]
      exact j65 _ (by omega)
    · rw [if_neg (fun z => q ((nI_leI (by omega) (by omega)).mp z))]
      exact ⟨vi hst ln_118 (by omega), j65 _ (by omega)⟩
  unfold w_X8_getsIn
  rw [rf_101_21, rf_101_4, rf_101_5, kc (k := k) (by omega), a0, (h0.2 k hk).1, (h0.2 k hk).2]
  refine ⟨vi hk6 ln_115 (by omega), ?_⟩
  intro v1 e1
  have e9 : nI (pm k) / 12 = nI (pm k / 12) := nI_div (b := 12) (by omega) (by omega) (by omega)
  rw [e9] at e1
  subst e1
  refine ⟨vi (n := 7) (by omega) ln_105 (by omega), ?_⟩
  have hcd : gp_cap P k = if p_so P k = 2 then p_ro P k / 2 else p_ro P k := rfl
  by_cases z : p_so P k = 2
  · rw [if_pos (show nI (p_so P k) = 2 by rw [z]; decide)]
    refine ⟨vi (n := 7) (by omega) ln_106 (by omega), ?_⟩
    have e8 : nI (p_ro P k) / 2 = nI (p_ro P k / 2) := nI_div (b := 2) (by omega) (by omega) (by omega)
    rw [if_pos z] at hcd
    rw [e8, ← hcd]
    exact j37
  · rw [if_neg (show ¬ nI (p_so P k) = 2 from fun q => z ((nI_eq (b := 2) (by omega) (by omega)).mp q))]
    refine ⟨vi (n := 7) (by omega) ln_106 (by omega), ?_⟩
    rw [if_neg z] at hcd
    rw [← hcd]
    exact j37
