/-! the reference reads all that was told -/
set_option maxHeartbeats 4000000 in
theorem s_rs7 {Q : Int32 → gk_St → Prop} {K : gk_St → Prop} : ∀ (i j : Nat) (μ : gk_St), j + i = 24 → (∀ t, t < j → μ 110 t = 1) → (∀ ν, (∀ t, t < 24 → ν 110 t = 1) → (∀ c, c ≠ 110 → ν c = μ c) → K ν) → w_X8_readsSpeed_l7 Q K 101 (i + 1) (nI j) μ := by
  intro i
  induction i with
  | zero =>
    intro j μ hj hs h
    have e : j = 24 := by omega
    subst e
    unfold w_X8_readsSpeed_l7
    rw [if_pos (show (24 : Int32) ≤ nI 24 by decide)]
    exact h μ hs (fun _ _ => rfl)
  | succ i ih =>
    intro j μ hj hs h
    unfold w_X8_readsSpeed_l7
    rw [if_neg (show ¬ (24 : Int32) ≤ nI j from fun q => absurd ((nI_leI (a := 24) (by omega) (by omega)).mp q) (by omega)), rf_101_11, kc (k := j) (by omega)]
    refine ⟨vi (n := 24) (by omega) ln_110 (by omega), ?_⟩
    intro m2 e2 v3 e3
    rw [e3, nI_1]
    have f1 : ∀ c, c ≠ 110 → m2 c = μ c := fun c a => by rw [e2]; simp [gk_up, a]
    have g1 : m2 110 = upd (μ 110) j 1 := by rw [e2]; simp [gk_up]
    refine ih (j + 1) m2 (by omega) (fun t ht => ?_) (fun ν r1 r2 => h ν r1 (fun c a => (r2 c a).trans (f1 c a)))
    rw [g1]
    by_cases e : t = j
    · subst e
      rw [upd_s]
    · rw [upd_n e]
      exact hs t (by omega)
theorem b51 : ∀ v, v < 256 → (48 ≤ v ∧ v ≤ 51 → ¬ nI v < 48 ∧ ¬ 51 < nI v ∧ nI v - 48 = nI (v - 48)) ∧ (¬ (48 ≤ v ∧ v ≤ 51) → nI v < 48 ∨ 51 < nI v) := by decide +kernel
theorem gp_sg_iff {b : Nat → Nat} {i : Nat} : gp_sg b i = true ↔ 48 ≤ b i ∧ b i ≤ 51 := by
  unfold gp_sg
  rw [Bool.and_eq_true]
  exact ⟨fun h => ⟨of_decide_eq_true h.1, of_decide_eq_true h.2⟩, fun h => ⟨decide_eq_true h.1, decide_eq_true h.2⟩⟩
set_option maxHeartbeats 4000000 in
theorem s_rs28 {tn : Nat → Nat} {tb : Nat → Nat → Nat} {μ : gk_St} (ht : gp_mt tn tb μ) {Q : Int32 → gk_St → Prop} {K : gk_St → Prop} (hq : ∀ j, j < tn 2 → (∀ i, i < j → gp_sg (tb 2) i = true) → gp_sg (tb 2) j = false → Q (nI j) μ) (hk : (∀ i, i < tn 2 → gp_sg (tb 2) i = true) → K μ) : ∀ (i j : Nat), j + i = tn 2 → (∀ i, i < j → gp_sg (tb 2) i = true) → w_X8_readsSpeed_l28 Q K 101 (i + 1) (nI j) μ := by
  obtain ⟨h1, h2, h3⟩ := ht 2 (by omega)
  have h24 : tn 2 ≤ 24 := h2
  intro i
  induction i with
  | zero =>
    intro j hj h
    have e : j = tn 2 := by omega
    subst e
    unfold w_X8_readsSpeed_l28
    rw [rf_101_0, show ((2 : Int32)).toNatClampNeg = 2 from by decide, h1, if_pos (Int32.le_refl _)]
    exact ⟨vi (k := 2) (n := 3) (by omega) ln_102 (by omega), hk h⟩
  | succ i ih =>
    intro j hj h
    unfold w_X8_readsSpeed_l28
    rw [rf_101_0, show ((2 : Int32)).toNatClampNeg = 2 from by decide, h1, if_neg (fun q => absurd ((nI_leI (by omega) (by omega)).mp q) (by omega))]
    refine ⟨vi (k := 2) (n := 3) (by omega) ln_102 (by omega), ?_⟩
    refine s_by (x := 2) ht (by omega) (by omega) ?_
    have hby : gp_by (tn 2) (tb 2) j = nI (tb 2 j) := by
      unfold gp_by
      rw [if_pos (by omega)]
    have h255 := (h3 j (by omega)).2
    rw [hby]
    by_cases c : 48 ≤ tb 2 j ∧ tb 2 j ≤ 51
    · obtain ⟨y1, y2, y3⟩ := (b51 (tb 2 j) (by omega)).1 c
      refine s_in_y y1 y2 ?_
      rw [if_neg (show ¬ (1 : Int32) = 0 by decide)]
      intro v e
      rw [e, nI_1]
      refine ih (j + 1) (by omega) (fun i hi => ?_)
      by_cases z : i = j
      · rw [z]
        exact gp_sg_iff.mpr c
      · exact h i (by omega)
    · refine s_in_n ((b51 (tb 2 j) (by omega)).2 c) ?_
      rw [if_pos rfl]
      refine hq j (by omega) h ?_
      cases hz : gp_sg (tb 2) j with
      | false => rfl
      | true => exact absurd (gp_sg_iff.mp hz) c
set_option maxHeartbeats 4000000 in
theorem s_rs64 {tn : Nat → Nat} {tb : Nat → Nat → Nat} (hg : ∀ i, i < tn 2 → gp_sg (tb 2) i = true) {Q : Int32 → gk_St → Prop} {K : gk_St → Prop} : ∀ (i j : Nat) (μ : gk_St), j + i = tn 2 → gp_mt tn tb μ → (∀ t, t < 24 → μ 110 t = if t < j then nI (tb 2 t - 48) else 1) → (∀ ν, (∀ t, t < 24 → ν 110 t = if t < tn 2 then nI (tb 2 t - 48) else 1) → (∀ c, c ≠ 110 → ν c = μ c) → K ν) → w_X8_readsSpeed_l64 Q K 101 (i + 1) (nI j) μ := by
  intro i
  induction i with
  | zero =>
    intro j μ hj ht hs h
    obtain ⟨h1, h2, h3⟩ := ht 2 (by omega)
    have e : j = tn 2 := by omega
    subst e
    unfold w_X8_readsSpeed_l64
    rw [rf_101_0, show ((2 : Int32)).toNatClampNeg = 2 from by decide, h1, if_pos (Int32.le_refl _)]
    exact ⟨vi (k := 2) (n := 3) (by omega) ln_102 (by omega), h μ hs (fun _ _ => rfl)⟩
  | succ i ih =>
    intro j μ hj ht hs h
    obtain ⟨h1, h2, h3⟩ := ht 2 (by omega)
    have h24 : tn 2 ≤ 24 := h2
    unfold w_X8_readsSpeed_l64
    rw [rf_101_0, show ((2 : Int32)).toNatClampNeg = 2 from by decide, h1, if_neg (fun q => absurd ((nI_leI (by omega) (by omega)).mp q) (by omega))]
    refine ⟨vi (k := 2) (n := 3) (by omega) ln_102 (by omega), ?_⟩
    refine s_by (x := 2) ht (by omega) (by omega) ?_
    have hby : gp_by (tn 2) (tb 2) j = nI (tb 2 j) := by
      unfold gp_by
      rw [if_pos (by omega)]
    have h255 := (h3 j (by omega)).2
    obtain ⟨y1, y2, y3⟩ := (b51 (tb 2 j) (by omega)).1 (gp_sg_iff.mp (hg j (by omega)))
    rw [hby, y3, rf_101_11, kc (k := j) (by omega)]
    refine ⟨vi (n := 24) (by omega) ln_110 (by omega), ?_⟩
    intro m2 e2 v3 e3
    rw [e3, nI_1]
    have f1 : ∀ c, c ≠ 110 → m2 c = μ c := fun c a => by rw [e2]; simp [gk_up, a]
    have g1 : m2 110 = upd (μ 110) j (nI (tb 2 j - 48)) := by rw [e2]; simp [gk_up]
    refine ih (j + 1) m2 (by omega) (gp_mt_f (f1 102 (by omega)) (f1 103 (by omega)) ht) (fun t ht => ?_) (fun ν r1 r2 => h ν r1 (fun c a => (r2 c a).trans (f1 c a)))
    rw [g1]
    by_cases e : t = j
    · subst e
      rw [upd_s, if_pos (by omega)]
    · rw [upd_n e, hs t ht]
      by_cases c : t < j
      · rw [if_pos c, if_pos (by omega)]
      · rw [if_neg c, if_neg (by omega)]
set_option maxHeartbeats 4000000 in
theorem s_rspeed {tn : Nat → Nat} {tb : Nat → Nat → Nat} {μ : gk_St} (ht : gp_mt tn tb μ) {Q : Int32 → gk_St → Prop} (h : ∀ f ν, gp_isS (tn 2) (tb 2) f → ν 101 10 = (if gp_sk (tn 2) (tb 2) = true then nI (tn 2) else 0) → (∀ t, t < 24 → ν 110 t = nI (gp_ts (tn 2) (tb 2) t)) → (∀ c, c ≠ 101 → c ≠ 110 → ν c = μ c) → (∀ j, j ≠ 10 → ν 101 j = μ 101 j) → Q f ν) : w_X8_readsSpeed 101 μ Q := by
  have h24 : tn 2 ≤ 24 := (ht 2 (by omega)).2.1
  unfold w_X8_readsSpeed
  intro m1 e1
  have f1 : ∀ c, c ≠ 101 → m1 c = μ c := fun c a => by rw [e1]; simp [gk_up, a]
  have f2 : ∀ j, j ≠ 10 → m1 101 j = μ 101 j := fun j a => by rw [e1]; simp [gk_up, upd, a]
  have g2 : m1 101 10 = 0 := by rw [e1]; simp [gk_up, upd]
  refine ⟨25, ?_⟩
  refine s_rs7 24 0 m1 (by omega) (fun t ht => absurd ht (Nat.not_lt_zero t)) (fun ν r1 r2 => ?_)
  have htn := gp_mt_f (ν := ν) (by rw [r2 102 (by omega), f1 102 (by omega)]) (by rw [r2 103 (by omega), f1 103 (by omega)]) ht
  refine ⟨tn 2 + 1, ?_⟩
  refine s_rs28 htn (fun j a1 a2 a3 => ?_) (fun a => ?_) (tn 2) 0 (by omega) (fun i hi => absurd hi (Nat.not_lt_zero i))
  · have hS : gp_isS (tn 2) (tb 2) (nI j) := Or.inr ⟨j, rfl, a1, a2, a3⟩
    have hsk : ¬ gp_sk (tn 2) (tb 2) = true := fun q => nI_nm1 (by omega) ((gp_isS_sk (by omega) hS).mpr q)
    refine h _ ν hS ?_ (fun t ht => ?_) (fun c b1 b2 => (r2 c b2).trans (f1 c b1)) (fun j b => by rw [r2 101 (by omega)]; exact f2 j b)
    · rw [if_neg hsk, r2 101 (by omega)]
      exact g2
    · rw [r1 t ht]
      unfold gp_ts
      rw [if_neg (fun q => hsk q.1)]
      rfl
  · have hsk : gp_sk (tn 2) (tb 2) = true := gp_sk_iff.mpr a
    refine ⟨tn 2 + 1, ?_⟩
    refine s_rs64 a (tn 2) 0 ν (by omega) htn (fun t ht => by rw [if_neg (Nat.not_lt_zero t)]; exact r1 t ht) (fun ξ q1 q2 => ?_)
    have hl : ξ 102 2 = nI (tn 2) := by rw [q2 102 (by omega)]; exact (htn 2 (by omega)).1
    rw [rf_101_0, show ((2 : Int32)).toNatClampNeg = 2 from by decide, hl]
    refine ⟨vi (k := 2) (n := 3) (by omega) ln_102 (by omega), ?_⟩
    intro m16 e16
    have k1 : ∀ c, c ≠ 101 → m16 c = ξ c := fun c a => by rw [e16]; simp [gk_up, a]
    refine h (-1) m16 (Or.inl ⟨rfl, a⟩) (by rw [e16, if_pos hsk]; simp [gk_up, upd]) (fun t ht => ?_) (fun c b1 b2 => (k1 c b1).trans ((q2 c b2).trans ((r2 c b2).trans (f1 c b1)))) (fun j b => ?_)
    · rw [k1 110 (by omega), q1 t ht]
      unfold gp_ts
      by_cases c : t < tn 2
      · rw [if_pos c, if_pos ⟨hsk, c⟩]
      · rw [if_neg c, if_neg (fun q => c q.2)]
        rfl
    · rw [← f2 j b, ← r2 101 (by omega), ← q2 101 (by omega), e16]
      simp [gk_up, upd, b]
/-- the reference has read -/
def gp_rd (tn : Nat → Nat) (tb : Nat → Nat → Nat) (ν : gk_St) : Prop := ν 101 2 = nI (gp_pz 0 (tn 0) (tb 0)) ∧ gp_rp 0 104 105 106 (gp_pz 0 (tn 0) (tb 0)) (tb 0) ν ∧ ν 101 6 = nI (gp_pz 1 (tn 1) (tb 1)) ∧ gp_rp 1 107 108 109 (gp_pz 1 (tn 1) (tb 1)) (tb 1) ν ∧ ν 101 10 = (if gp_sk (tn 2) (tb 2) = true then nI (tn 2) else 0) ∧ ∀ t, t < 24 → ν 110 t = nI (gp_ts (tn 2) (tb 2) t)
def gp_fR (μ ν : gk_St) : Prop := (∀ c, c ≠ 101 → (c < 104 ∨ 110 < c) → ν c = μ c) ∧ ∀ j, j ≠ 2 → j ≠ 6 → j ≠ 10 → ν 101 j = μ 101 j
set_option maxHeartbeats 4000000 in
theorem s_faultOf {tn : Nat → Nat} {tb : Nat → Nat → Nat} {μ : gk_St} (ht : gp_mt tn tb μ) {x : Nat} (hx : x < 3) {Q : Int32 → gk_St → Prop} (h : ∀ f ν, (x = 0 → gp_isF 0 (tn 0) (tb 0) f) → (x = 1 → gp_isF 1 (tn 1) (tb 1) f) → (x = 2 → gp_isS (tn 2) (tb 2) f) → gp_rd tn tb ν → gp_fR μ ν → Q f ν) : w_X8_faultOf 101 (nI x) μ Q := by
  unfold w_X8_faultOf
  refine s_rparts_0 ht (fun f0 ν a1 a2 a3 a4 a5 => ?_)
  have ht1 := gp_mt_f (a4 102 (by omega) (by omega) (by omega) (by omega)) (a4 103 (by omega) (by omega) (by omega) (by omega)) ht
  refine s_rparts_1 ht1 (fun f1 ξ b1 b2 b3 b4 b5 => ?_)
  have ht2 := gp_mt_f (b4 102 (by omega) (by omega) (by omega) (by omega)) (b4 103 (by omega) (by omega) (by omega) (by omega)) ht1
  refine s_rspeed ht2 (fun f2 ζ c1 c2 c3 c4 c5 => ?_)
  have hrd : gp_rd tn tb ζ := by
    refine ⟨?_, ?_, ?_, ?_, c2, c3⟩
    · rw [c5 2 (by omega), b5 2 (by omega)]
      exact a2
    · unfold gp_rp
      rw [c4 104 (by omega) (by omega), c4 105 (by omega) (by omega), c4 106 (by omega) (by omega), b4 104 (by omega) (by omega) (by omega) (by omega), b4 105 (by omega) (by omega) (by omega) (by omega), b4 106 (by omega) (by omega) (by omega) (by omega)]
      exact a3
    · rw [c5 6 (by omega)]
      exact b2
    · unfold gp_rp
      rw [c4 107 (by omega) (by omega), c4 108 (by omega) (by omega), c4 109 (by omega) (by omega)]
      exact b3
  have hfr : gp_fR μ ζ := ⟨fun c p q => (c4 c p (by omega)).trans ((b4 c p (by omega) (by omega) (by omega)).trans (a4 c p (by omega) (by omega) (by omega))), fun j p q r => (c5 j r).trans ((b5 j q).trans (a5 j p))⟩
  by_cases z0 : x = 0
  · rw [if_pos (by rw [z0]; exact nI_0)]
    exact h f0 ζ (fun _ => a1) (fun q => by omega) (fun q => by omega) hrd hfr
  · rw [if_neg (nI_ne0 (by omega) (by omega))]
    by_cases z1 : x = 1
    · rw [if_pos (by rw [z1]; decide)]
      exact h f1 ζ (fun q => by omega) (fun _ => b1) (fun q => by omega) hrd hfr
    · rw [if_neg (show ¬ nI x = 1 from fun q => z1 ((nI_eq (b := 1) (by omega) (by omega)).mp q))]
      exact h f2 ζ (fun q => by omega) (fun q => by omega) (fun _ => c1) hrd hfr
theorem s_reads {tn : Nat → Nat} {tb : Nat → Nat → Nat} {μ : gk_St} (ht : gp_mt tn tb μ) {Q : gk_St → Prop} (h : ∀ ν, gp_rd tn tb ν → gp_fR μ ν → Q ν) : w_X8_reads 101 μ Q := by
  unfold w_X8_reads
  exact s_faultOf (x := 0) ht (by omega) (fun f ν _ _ _ h1 h2 => h ν h1 h2)
set_option maxHeartbeats 4000000 in
theorem s_at6 {F : Nat → Nat} {Q K : gk_St → Prop} : ∀ (i j : Nat) (μ : gk_St), j + i = 24 → (∀ t, t < 24 → μ 110 t = nI (F t)) → (∀ t, t < j → μ 114 t = nI (F t)) → (∀ ν, (∀ t, t < 24 → ν 114 t = nI (F t)) → (∀ c, c ≠ 114 → ν c = μ c) → K ν) → w_X8_asTold_l6 Q K 101 (i + 1) (nI j) μ := by
  intro i
  induction i with
  | zero =>
    intro j μ hj h0 hs h
    have e : j = 24 := by omega
    subst e
    unfold w_X8_asTold_l6
    rw [if_pos (show (24 : Int32) ≤ nI 24 by decide)]
    exact h μ hs (fun _ _ => rfl)
  | succ i ih =>
    intro j μ hj h0 hs h
    unfold w_X8_asTold_l6
    rw [if_neg (show ¬ (24 : Int32) ≤ nI j from fun q => absurd ((nI_leI (a := 24) (by omega) (by omega)).mp q) (by omega)), rf_101_11, rf_101_16, kc (k := j) (by omega), h0 j (by omega)]
    refine ⟨vi (n := 24) (by omega) ln_110 (by omega), vi (n := 24) (by omega) ln_114 (by omega), ?_⟩
    intro m2 e2 v3 e3
    rw [e3, nI_1]
    have f1 : ∀ c, c ≠ 114 → m2 c = μ c := fun c a => by rw [e2]; simp [gk_up, a]
    have g1 : m2 114 = upd (μ 114) j (nI (F j)) := by rw [e2]; simp [gk_up]
    refine ih (j + 1) m2 (by omega) (by rw [f1 110 (by omega)]; exact h0) (fun t ht => ?_) (fun ν r1 r2 => h ν r1 (fun c a => (r2 c a).trans (f1 c a)))
    rw [g1]
    by_cases e : t = j
    · subst e
      rw [upd_s]
    · rw [upd_n e]
      exact hs t (by omega)
def gp_fA (μ ν : gk_St) : Prop := (∀ c, c ≠ 101 → c ≠ 114 → (c < 104 ∨ 110 < c) → ν c = μ c) ∧ ∀ j, j ≠ 2 → j ≠ 6 → j ≠ 10 → j ≠ 17 → ν 101 j = μ 101 j
theorem s_mast {tn : Nat → Nat} {tb : Nat → Nat → Nat} {μ : gk_St} (ht : gp_mt tn tb μ) {Q : gk_St → Prop} (h : ∀ ν, gp_rd tn tb ν → (∀ t, t < 24 → ν 114 t = nI (gp_ts (tn 2) (tb 2) t)) → ν 101 17 = 0 → gp_fA μ ν → Q ν) : w_X8_asTold 101 μ Q := by
  unfold w_X8_asTold
  refine s_reads ht (fun ν r1 r2 => ?_)
  refine ⟨25, ?_⟩
  refine s_at6 (F := gp_ts (tn 2) (tb 2)) 24 0 ν (by omega) r1.2.2.2.2.2 (fun t ht => absurd ht (Nat.not_lt_zero t)) (fun ξ q1 q2 => ?_)
  intro m5 e5
  have k1 : ∀ c, c ≠ 101 → m5 c = ξ c := fun c a => by rw [e5]; simp [gk_up, a]
  have k2 : ∀ j, j ≠ 17 → m5 101 j = ξ 101 j := fun j a => by rw [e5]; simp [gk_up, upd, a]
  refine h m5 ?_ (by rw [k1 114 (by omega)]; exact q1) (by rw [e5]; simp [gk_up, upd]) ⟨fun c a b d => (k1 c a).trans ((q2 c b).trans (r2.1 c a d)), fun j a b c d => (k2 j d).trans (by rw [q2 101 (by omega)]; exact r2.2 j a b c)⟩
  unfold gp_rd gp_rp
  rw [k2 2 (by omega), k2 6 (by omega), k2 10 (by omega), k1 104 (by omega), k1 105 (by omega), k1 106 (by omega), k1 107 (by omega), k1 108 (by omega), k1 109 (by omega), k1 110 (by omega), q2 101 (by omega), q2 104 (by omega), q2 105 (by omega), q2 106 (by omega), q2 107 (by omega), q2 108 (by omega), q2 109 (by omega), q2 110 (by omega)]
  exact r1
