/-! texts: what is good where, the first fault, what is told -/
def gp_sgn (x c : Nat) : Nat := if x = 0 then (if c = 111 then 0 else if c = 115 then 1 else if c = 103 then 2 else 3) else (if c = 98 then 0 else if c = 116 then 1 else 3)
def gp_mst (x : Nat) : Nat := if x = 0 then 6 else 12
def gp_tk (b : Nat → Nat) (i : Nat) : Bool := gp_any (fun k => b (4 * k) == b i) (i / 4)
def gp_gd (x : Nat) (b : Nat → Nat) (i : Nat) : Bool := if i % 4 = 0 then decide (i / 4 < gp_mst x) && (decide (97 ≤ b i) && decide (b i ≤ 120)) && !(x == 0 && gp_tk b i) else if i % 4 = 1 then decide (gp_sgn x (b i) < 3) else if i % 4 = 2 then decide (49 ≤ b i) && decide (b i ≤ 57) else b i == 59
/-- f is the fault of the text of n bytes b -/
def gp_isF (x n : Nat) (b : Nat → Nat) (f : Int32) : Prop := (f = -1 ∧ (∀ i, i < n → gp_gd x b i = true) ∧ (n = 0 ∨ n % 4 = 3)) ∨ ∃ j, f = nI j ∧ j ≤ n ∧ (∀ i, i < j → gp_gd x b i = true) ∧ ((j < n ∧ gp_gd x b j = false) ∨ (j = n ∧ n ≠ 0 ∧ n % 4 ≠ 3))
theorem gp_isF_u {x n : Nat} {b : Nat → Nat} {f g : Int32} (h1 : gp_isF x n b f) (h2 : gp_isF x n b g) : f = g := by
  rcases h1 with ⟨a1, a2, a3⟩ | ⟨j, a1, a2, a3, a4⟩
  · rcases h2 with ⟨b1, b2, b3⟩ | ⟨k, b1, b2, b3, b4⟩
    · rw [a1, b1]
    · rcases b4 with ⟨c1, c2⟩ | ⟨c1, c2, c3⟩
      · rw [a2 k c1] at c2
        cases c2
      · omega
  · rcases h2 with ⟨b1, b2, b3⟩ | ⟨k, b1, b2, b3, b4⟩
    · rcases a4 with ⟨c1, c2⟩ | ⟨c1, c2, c3⟩
      · rw [b2 j c1] at c2
        cases c2
      · omega
    · have : j = k := by
        rcases Nat.lt_trichotomy j k with q | q | q
        · rcases a4 with ⟨c1, c2⟩ | ⟨c1, c2, c3⟩
          · rw [b3 j q] at c2
            cases c2
          · omega
        · exact q
        · rcases b4 with ⟨c1, c2⟩ | ⟨c1, c2, c3⟩
          · rw [a3 k q] at c2
            cases c2
          · omega
      rw [a1, b1, this]
def gp_pk (x n : Nat) (b : Nat → Nat) : Bool := !(gp_any (fun i => !gp_gd x b i) n) && (n == 0 || n % 4 == 3)
def gp_pz (x n : Nat) (b : Nat → Nat) : Nat := if gp_pk x n b = true then (n + 1) / 4 else 0
theorem gp_any_no {g : Nat → Bool} {n : Nat} : gp_any (fun i => !g i) n = false ↔ ∀ i, i < n → g i = true := by
  constructor
  · intro h i hi
    cases hq : g i with
    | true => rfl
    | false =>
      have : gp_any (fun i => !g i) n = true := gp_any_iff.mpr ⟨i, hi, by rw [hq]; rfl⟩
      rw [h] at this
      cases this
  · intro h
    cases hq : gp_any (fun i => !g i) n with
    | false => rfl
    | true =>
      obtain ⟨i, hi, h2⟩ := gp_any_iff.mp hq
      rw [h i hi] at h2
      cases h2
theorem gp_pk_iff {x n : Nat} {b : Nat → Nat} : gp_pk x n b = true ↔ (∀ i, i < n → gp_gd x b i = true) ∧ (n = 0 ∨ n % 4 = 3) := by
  unfold gp_pk
  rw [Bool.and_eq_true]
  constructor
  · rintro ⟨h1, h2⟩
    refine ⟨gp_any_no.mp (by simpa using h1), by simpa using h2⟩
  · rintro ⟨h1, h2⟩
    refine ⟨by rw [gp_any_no.mpr h1]; rfl, by simpa using h2⟩
theorem nI_nm1 {j : Nat} (h : j < 10000) : ¬ nI j = -1 := fun q => by
  have h1 := nI_pos (n := j) (by omega)
  rw [q] at h1
  exact h1 (by decide)
theorem gp_isF_pk {x n : Nat} (hn : n < 1000) {b : Nat → Nat} {f : Int32} (h : gp_isF x n b f) : f = -1 ↔ gp_pk x n b = true := by
  rw [gp_pk_iff]
  constructor
  · intro q
    rcases h with ⟨a1, a2, a3⟩ | ⟨j, a1, a2, a3, a4⟩
    · exact ⟨a2, a3⟩
    · rw [q] at a1
      exact absurd a1.symm (nI_nm1 (by omega))
  · rintro ⟨q1, q2⟩
    exact gp_isF_u h (Or.inl ⟨rfl, q1, q2⟩)
theorem gp_gd0 {x : Nat} {b : Nat → Nat} {i k : Nat} (hi : i = 4 * k) (h : gp_gd x b i = true) : k < gp_mst x ∧ 97 ≤ b i ∧ b i ≤ 120 ∧ (x = 0 → ∀ j, j < k → b (4 * j) ≠ b i) := by
  unfold gp_gd at h
  rw [if_pos (by omega), Bool.and_eq_true, Bool.and_eq_true, Bool.and_eq_true] at h
  obtain ⟨⟨h1, h2, h3⟩, h4⟩ := h
  refine ⟨by have := of_decide_eq_true h1; omega, of_decide_eq_true h2, of_decide_eq_true h3, fun hx j hj hb => ?_⟩
  have : gp_tk b i = true := gp_any_iff.mpr ⟨j, by omega, by simpa using hb⟩
  rw [this, hx] at h4
  cases h4
theorem gp_gd1 {x : Nat} {b : Nat → Nat} {i k : Nat} (hi : i = 4 * k + 1) (h : gp_gd x b i = true) : gp_sgn x (b i) < 3 := by
  unfold gp_gd at h
  rw [if_neg (by omega), if_pos (by omega)] at h
  exact of_decide_eq_true h
theorem gp_gd2 {x : Nat} {b : Nat → Nat} {i k : Nat} (hi : i = 4 * k + 2) (h : gp_gd x b i = true) : 49 ≤ b i ∧ b i ≤ 57 := by
  unfold gp_gd at h
  rw [if_neg (by omega), if_neg (by omega), if_pos (by omega), Bool.and_eq_true] at h
  exact ⟨of_decide_eq_true h.1, of_decide_eq_true h.2⟩
theorem gp_sgn1 {c : Nat} (h : gp_sgn 1 c < 3) : gp_sgn 1 c < 2 := by
  unfold gp_sgn at h ⊢
  rw [if_neg (by omega)] at h ⊢
  split
  · omega
  · split
    · omega
    · rename_i a b
      rw [if_neg a, if_neg b] at h
      omega
/-- what holds of the parts of a text without fault -/
theorem gp_pz_ok {x n : Nat} {b : Nat → Nat} {k : Nat} (hk : k < gp_pz x n b) : 4 * k + 2 < n ∧ k < gp_mst x ∧ b (4 * k) - 97 < 24 ∧ 97 ≤ b (4 * k) ∧ gp_sgn x (b (4 * k + 1)) < 3 ∧ 49 ≤ b (4 * k + 2) ∧ b (4 * k + 2) ≤ 57 := by
  unfold gp_pz at hk
  by_cases h : gp_pk x n b = true
  · rw [if_pos h] at hk
    obtain ⟨h1, h2⟩ := gp_pk_iff.mp h
    have hn : 4 * k + 2 < n := by omega
    have g0 := gp_gd0 (k := k) rfl (h1 (4 * k) (by omega))
    have g1 := gp_gd1 (k := k) rfl (h1 (4 * k + 1) (by omega))
    have g2 := gp_gd2 (k := k) rfl (h1 (4 * k + 2) (by omega))
    exact ⟨hn, g0.1, by omega, g0.2.1, g1, g2.1, g2.2⟩
  · rw [if_neg h] at hk
    omega
theorem gp_pz_le {x n : Nat} {b : Nat → Nat} : gp_pz x n b ≤ gp_mst x := by
  rcases Nat.eq_zero_or_pos (gp_pz x n b) with h | h
  · omega
  · have := (gp_pz_ok (x := x) (n := n) (b := b) (k := gp_pz x n b - 1) (by omega)).2.1
    omega
/-- the speed -/
def gp_sg (b : Nat → Nat) (i : Nat) : Bool := decide (48 ≤ b i) && decide (b i ≤ 51)
def gp_isS (n : Nat) (b : Nat → Nat) (f : Int32) : Prop := (f = -1 ∧ ∀ i, i < n → gp_sg b i = true) ∨ ∃ j, f = nI j ∧ j < n ∧ (∀ i, i < j → gp_sg b i = true) ∧ gp_sg b j = false
theorem gp_isS_u {n : Nat} {b : Nat → Nat} {f g : Int32} (h1 : gp_isS n b f) (h2 : gp_isS n b g) : f = g := by
  rcases h1 with ⟨a1, a2⟩ | ⟨j, a1, a2, a3, a4⟩
  · rcases h2 with ⟨b1, b2⟩ | ⟨k, b1, b2, b3, b4⟩
    · rw [a1, b1]
    · rw [a2 k b2] at b4
      cases b4
  · rcases h2 with ⟨b1, b2⟩ | ⟨k, b1, b2, b3, b4⟩
    · rw [b2 j a2] at a4
      cases a4
    · have : j = k := by
        rcases Nat.lt_trichotomy j k with q | q | q
        · rw [b3 j q] at a4
          cases a4
        · exact q
        · rw [a3 k q] at b4
          cases b4
      rw [a1, b1, this]
def gp_sk (n : Nat) (b : Nat → Nat) : Bool := !(gp_any (fun i => !gp_sg b i) n)
theorem gp_sk_iff {n : Nat} {b : Nat → Nat} : gp_sk n b = true ↔ ∀ i, i < n → gp_sg b i = true := by
  unfold gp_sk
  rw [← gp_any_no]
  simp
theorem gp_isS_sk {n : Nat} (hn : n < 1000) {b : Nat → Nat} {f : Int32} (h : gp_isS n b f) : f = -1 ↔ gp_sk n b = true := by
  rw [gp_sk_iff]
  constructor
  · intro q
    rcases h with ⟨a1, a2⟩ | ⟨j, a1, a2, a3, a4⟩
    · exact a2
    · rw [q] at a1
      exact absurd a1.symm (nI_nm1 (by omega))
  · intro q
    exact gp_isS_u h (Or.inl ⟨rfl, q⟩)
def gp_ts (n : Nat) (b : Nat → Nat) (t : Nat) : Nat := if gp_sk n b = true ∧ t < n then b t - 48 else 1
theorem gp_ts_le {n : Nat} {b : Nat → Nat} {t : Nat} : gp_ts n b t ≤ 3 := by
  unfold gp_ts
  split
  · rename_i h
    have := gp_sk_iff.mp h.1 t h.2
    unfold gp_sg at this
    rw [Bool.and_eq_true] at this
    have h1 := of_decide_eq_true this.2
    omega
  · omega
/-! within -/
theorem s_wv {v a c : Nat} (hv : v < 10000) (ha : a < 10000) (hc : c < 10000) {μ : gk_St} {Q : Int32 → gk_St → Prop} (h : Q (gp_bi (decide (a ≤ v) && decide (v ≤ c))) μ) : w_X7_within (nI v) (nI a) (nI c) μ Q := by
  unfold w_X7_within
  by_cases p : v < a
  · rw [if_pos ((nI_ltI (by omega) (by omega)).mpr p)]
    rw [decide_eq_false (by omega), Bool.false_and] at h
    exact h
  · rw [if_neg (fun q => p ((nI_ltI (by omega) (by omega)).mp q))]
    rw [decide_eq_true (by omega), Bool.true_and] at h
    by_cases r : c < v
    · rw [if_pos ((nI_ltI (by omega) (by omega)).mpr r)]
      rw [decide_eq_false (by omega)] at h
      exact h
    · rw [if_neg (fun q => r ((nI_ltI (by omega) (by omega)).mp q))]
      rw [decide_eq_true (by omega)] at h
      exact h
theorem ch0 : ∀ v, v < 256 → gk_ix 1000 (((nI v).toUInt32 % 65536).toInt32) = (if gp_sgn 0 v < 3 then nI (gp_sgn 0 v) else -1) := by decide +kernel
theorem ch1 : ∀ v, v < 256 → gk_ix 1001 (((nI v).toUInt32 % 65536).toInt32) = (if gp_sgn 1 v < 3 then nI (gp_sgn 1 v) else -1) := by decide +kernel
def gp_lm (x : Nat) : Nat := if x = 0 then 23 else if x = 1 then 47 else 24

set_option maxHeartbeats 4000000 in
theorem s_tkL_0 {n : Nat} (hn : n ≤ 47) {b : Nat → Nat} {μ : gk_St} (hb : ∀ k, k < n → μ 2 k = nI (b k) ∧ b k ≤ 255) {q : Nat} (hq : 4 * q < n) {Q : Int32 → gk_St → Prop} {K : gk_St → Prop} (hy : gp_tk b (4 * q) = true → Q 1 μ) (hk : gp_tk b (4 * q) = false → K μ) : ∀ (i j : Nat), j + i = q → (∀ k, k < j → b (4 * k) ≠ b (4 * q)) → w_X6_isTaken_l2 Q K 1 (i + 1) (nI (4 * q)) (nI (4 * j)) μ := by
  intro i
  induction i with
  | zero =>
    intro j hj h
    have e : j = q := by omega
    subst e
    unfold w_X6_isTaken_l2
    rw [if_pos (Int32.le_refl _)]
    refine hk ?_
    cases hz : gp_tk b (4 * j) with
    | false => rfl
    | true =>
      obtain ⟨k, hk1, hk2⟩ := gp_any_iff.mp hz
      exact absurd (by simpa using hk2) (h k (by omega))
  | succ i ih =>
    intro j hj h
    unfold w_X6_isTaken_l2
    rw [if_neg (fun z => absurd ((nI_leI (by omega) (by omega)).mp z) (by omega)), rf_1_0, kc (k := 4 * j) (by omega), kc (k := 4 * q) (by omega), (hb (4 * j) (by omega)).1, (hb (4 * q) (by omega)).1]
    have g1 := (hb (4 * j) (by omega)).2
    have g2 := (hb (4 * q) (by omega)).2
    refine ⟨vi (n := 47) (by omega) ln_2 (by omega), vi (n := 47) (by omega) ln_2 (by omega), ?_⟩
    by_cases c : b (4 * j) = b (4 * q)
    · rw [if_pos (by rw [c])]
      exact hy (gp_any_iff.mpr ⟨j, by omega, by simpa using c⟩)
    · rw [if_neg (fun z => c ((nI_eq (by omega) (by omega)).mp z))]
      intro v e
      have e4 : nI (4 * j) + 4 = nI (4 * (j + 1)) := nI_add (4 * j) 4
      rw [e, e4]
      refine ih (j + 1) (by omega) (fun k hk => ?_)
      by_cases z : k = j
      · rw [z]
        exact c
      · exact h k (by omega)
set_option maxHeartbeats 4000000 in
theorem s_gd_0 {n : Nat} (hn : n ≤ 47) {b : Nat → Nat} {μ : gk_St} (hb : ∀ k, k < n → μ 2 k = nI (b k) ∧ b k ≤ 255) (h1 : μ 7 1 = nI 6) (h2 : μ 7 2 = 1) {i : Nat} (hi : i < n) {Q : Int32 → gk_St → Prop} (h : Q (gp_bi (gp_gd 0 b i)) μ) : w_X6_goesOn 7 1 (nI i) μ Q := by
  have g2 := (hb i hi).2
  have e4 : gk_md (nI i) 4 = nI (i % 4) := nI_md (b := 4) (by omega) (by omega) (by omega)
  have d4 : nI i / 4 = nI (i / 4) := nI_div (b := 4) (by omega) (by omega) (by omega)
  unfold w_X6_goesOn
  rw [rf_1_0, rf_7_0, kc (k := i) (by omega), (hb i hi).1, e4, d4, h1]
  refine ⟨vi (n := 47) (by omega) ln_2 (by omega), ?_⟩
  intro v1 ev
  subst ev
  have hx : gp_gd 0 b i = if i % 4 = 0 then decide (i / 4 < 6) && (decide (97 ≤ b i) && decide (b i ≤ 120)) && !(true && gp_tk b i) else if i % 4 = 1 then decide (gp_sgn 0 (b i) < 3) else if i % 4 = 2 then decide (49 ≤ b i) && decide (b i ≤ 57) else b i == 59 := rfl
  rw [hx] at h
  by_cases z0 : i % 4 = 0
  · rw [if_pos (by rw [z0]; exact nI_0)]
    rw [if_pos z0] at h
    by_cases c : 6 ≤ i / 4
    · rw [if_pos ((nI_leI (by omega) (by omega)).mpr c)]
      rw [decide_eq_false (by omega), Bool.false_and, Bool.false_and] at h
      exact h
    · rw [if_neg (fun z => c ((nI_leI (by omega) (by omega)).mp z))]
      rw [decide_eq_true (by omega), Bool.true_and] at h
      refine s_wv (a := 97) (c := 120) (by omega) (by omega) (by omega) ?_
      cases w : (decide (97 ≤ b i) && decide (b i ≤ 120)) with
      | false =>
        rw [if_pos (show gp_bi false = 0 from rfl)]
        rw [w, Bool.false_and] at h
        exact h
      | true =>
        rw [if_neg (show ¬ gp_bi true = 0 by decide)]
        rw [w, Bool.true_and] at h
        rw [h2, if_neg (show ¬ (1 : Int32) = 0 by decide)]
        unfold w_X6_isTaken
        have eq4 : i = 4 * (i / 4) := by omega
        refine ⟨i / 4 + 1, ?_⟩
        rw [eq4] at h ⊢
        rw [Nat.mul_div_cancel_left _ (by omega : 0 < 4)]
        refine s_tkL_0 hn hb (by omega) (fun z => ?_) (fun z => ?_) (i / 4) 0 (by omega) (fun k hk => absurd hk (Nat.not_lt_zero k))
        · rw [if_neg (show ¬ (1 : Int32) = 0 by decide)]
          rw [z] at h
          exact h
        · dsimp only
          rw [if_pos rfl]
          rw [z] at h
          exact h
  · rw [if_neg (nI_ne0 (by omega) (by omega))]
    rw [if_neg z0] at h
    by_cases z1 : i % 4 = 1
    · rw [if_pos (by rw [z1]; decide)]
      rw [if_pos z1] at h
      rw [ch0 (b i) (by omega)]
      by_cases c : gp_sgn 0 (b i) < 3
      · rw [if_pos c, if_neg (nI_pos (by omega))]
        rw [decide_eq_true c] at h
        exact h
      · rw [if_neg c, if_pos (by decide)]
        rw [decide_eq_false c] at h
        exact h
    · rw [if_neg (show ¬ nI (i % 4) = 1 from fun z => z1 ((nI_eq (b := 1) (by omega) (by omega)).mp z))]
      rw [if_neg z1] at h
      by_cases z2 : i % 4 = 2
      · rw [if_pos (by rw [z2]; decide)]
        rw [if_pos z2] at h
        exact s_wv (a := 49) (c := 57) (by omega) (by omega) (by omega) ⟨gp_bi_b, h⟩
      · rw [if_neg (show ¬ nI (i % 4) = 2 from fun z => z2 ((nI_eq (b := 2) (by omega) (by omega)).mp z))]
        rw [if_neg z2] at h
        by_cases c : b i = 59
        · rw [if_pos (by rw [c]; decide)]
          rw [c] at h
          exact h
        · rw [if_neg (show ¬ nI (b i) = 59 from fun z => c ((nI_eq (b := 59) (by omega) (by omega)).mp z))]
          rw [show (b i == 59) = false by simpa using c] at h
          exact h
set_option maxHeartbeats 4000000 in
theorem s_fiL_0 {n : Nat} (hn : n ≤ 47) {b : Nat → Nat} {μ : gk_St} (hl : μ 1 2 = nI n) (hb : ∀ k, k < n → μ 2 k = nI (b k) ∧ b k ≤ 255) (h1 : μ 7 1 = nI 6) (h2 : μ 7 2 = 1) {Q : Int32 → gk_St → Prop} {K : gk_St → Prop} (hq : ∀ j, j < n → (∀ i, i < j → gp_gd 0 b i = true) → gp_gd 0 b j = false → Q (nI j) μ) (hk : (∀ i, i < n → gp_gd 0 b i = true) → K μ) : ∀ (i j : Nat), j + i = n → (∀ i, i < j → gp_gd 0 b i = true) → w_X6_faultIn_l2 Q K 7 1 (i + 1) (nI j) μ := by
  intro i
  induction i with
  | zero =>
    intro j hj h
    have e : j = n := by omega
    subst e
    unfold w_X6_faultIn_l2
    rw [hl, if_pos (Int32.le_refl _)]
    exact hk h
  | succ i ih =>
    intro j hj h
    unfold w_X6_faultIn_l2
    rw [hl, if_neg (fun z => absurd ((nI_leI (by omega) (by omega)).mp z) (by omega))]
    refine s_gd_0 hn hb h1 h2 (i := j) (by omega) ?_
    cases c : gp_gd 0 b j with
    | false =>
      rw [if_pos (show gp_bi false = 0 from rfl)]
      exact hq j (by omega) h c
    | true =>
      rw [if_neg (show ¬ gp_bi true = 0 by decide)]
      intro v e
      rw [e, nI_1]
      refine ih (j + 1) (by omega) (fun i hi => ?_)
      by_cases z : i = j
      · rw [z]
        exact c
      · exact h i (by omega)
theorem s_faultIn_0 {n : Nat} (hn : n ≤ 47) {b : Nat → Nat} {μ : gk_St} (hl : μ 1 2 = nI n) (hb : ∀ k, k < n → μ 2 k = nI (b k) ∧ b k ≤ 255) (h1 : μ 7 1 = nI 6) (h2 : μ 7 2 = 1) {Q : Int32 → gk_St → Prop} (h : ∀ f, gp_isF 0 n b f → Q f μ) : w_X6_faultIn 7 1 μ Q := by
  unfold w_X6_faultIn
  refine ⟨n + 1, ?_⟩
  refine s_fiL_0 hn hl hb h1 h2 (fun j hj a1 a2 => h _ (Or.inr ⟨j, rfl, by omega, a1, Or.inl ⟨hj, a2⟩⟩)) (fun a => ?_) n 0 (by omega) (fun i hi => absurd hi (Nat.not_lt_zero i))
  rw [hl]
  have e4 : gk_md (nI n) 4 = nI (n % 4) := nI_md (b := 4) (by omega) (by omega) (by omega)
  rw [e4]
  by_cases z : n = 0
  · rw [if_pos (by rw [z]; exact nI_0)]
    exact h _ (Or.inl ⟨rfl, a, Or.inl z⟩)
  · rw [if_neg (nI_ne0 (by omega) (by omega))]
    by_cases y : n % 4 = 3
    · rw [if_pos (by rw [y]; decide)]
      exact h _ (Or.inl ⟨rfl, a, Or.inr y⟩)
    · rw [if_neg (show ¬ nI (n % 4) = 3 from fun q => y ((nI_eq (b := 3) (by omega) (by omega)).mp q))]
      exact h _ (Or.inr ⟨n, rfl, by omega, a, Or.inr ⟨rfl, z, y⟩⟩)
def gp_tr_0 (n : Nat) (b : Nat → Nat) (μ : gk_St) : Prop := μ 7 1 = nI 6 ∧ μ 7 2 = 1 ∧ μ 7 6 = nI (gp_pz 0 n b) ∧ gp_isF 0 n b (μ 7 7) ∧ ∀ k, k < gp_pz 0 n b → μ 8 k = nI (b (4 * k) - 97) ∧ μ 9 k = nI (gp_sgn 0 (b (4 * k + 1))) ∧ μ 10 k = nI (b (4 * k + 2) - 48)
set_option maxHeartbeats 4000000 in
theorem s_paL_0 {n : Nat} (hn : n ≤ 47) {b : Nat → Nat} (hz : gp_pk 0 n b = true) {Q K : gk_St → Prop} : ∀ (i j : Nat) (μ : gk_St), j + i = (n + 1) / 4 → μ 1 2 = nI n → (∀ k, k < n → μ 2 k = nI (b k) ∧ b k ≤ 255) → μ 7 1 = nI 6 → μ 7 6 = nI j → (∀ k, k < j → μ 8 k = nI (b (4 * k) - 97) ∧ μ 9 k = nI (gp_sgn 0 (b (4 * k + 1))) ∧ μ 10 k = nI (b (4 * k + 2) - 48)) → (∀ ν, ν 7 6 = nI ((n + 1) / 4) → (∀ k, k < (n + 1) / 4 → ν 8 k = nI (b (4 * k) - 97) ∧ ν 9 k = nI (gp_sgn 0 (b (4 * k + 1))) ∧ ν 10 k = nI (b (4 * k + 2) - 48)) → (∀ c, c ≠ 7 → c ≠ 8 → c ≠ 9 → c ≠ 10 → ν c = μ c) → (∀ j, j ≠ 6 → ν 7 j = μ 7 j) → K ν) → w_X6_parse_l25 Q K 7 1 (i + 1) (nI (4 * j)) μ := by
  have epz : gp_pz 0 n b = (n + 1) / 4 := by unfold gp_pz; rw [if_pos hz]
  have hz3 := (gp_pk_iff.mp hz).2
  intro i
  induction i with
  | zero =>
    intro j μ hj hl hb h1 h6 hs h
    have e : j = (n + 1) / 4 := by omega
    unfold w_X6_parse_l25
    have e2 : nI (4 * j) + 2 = nI (4 * j + 2) := nI_add (4 * j) 2
    rw [hl, e2, if_pos ((nI_leI (by omega) (by omega)).mpr (by omega))]
    rw [e] at h6 hs
    exact h μ h6 hs (fun _ _ _ _ _ => rfl) (fun _ _ => rfl)
  | succ i ih =>
    intro j μ hj hl hb h1 h6 hs h
    have hp := gp_pz_ok (x := 0) (n := n) (b := b) (k := j) (by omega)
    have hjm : j < 6 := hp.2.1
    have b0 := hb (4 * j) (by omega)
    have b1 := hb (4 * j + 1) (by omega)
    have b2 := hb (4 * j + 2) (by omega)
    have e1 : nI (4 * j) + 1 = nI (4 * j + 1) := nI_add (4 * j) 1
    have e2 : nI (4 * j) + 2 = nI (4 * j + 2) := nI_add (4 * j) 2
    have e97 : nI (b (4 * j)) - 97 = nI (b (4 * j) - 97) := pk_sub (b := 97) (by omega)
    have e48 : nI (b (4 * j + 2)) - 48 = nI (b (4 * j + 2) - 48) := pk_sub (b := 48) (by omega)
    unfold w_X6_parse_l25
    rw [hl, e1, e2, if_neg (fun z => absurd ((nI_leI (by omega) (by omega)).mp z) (by omega)), h1, h6, if_neg (fun z => absurd ((nI_leI (by omega) (by omega)).mp z) (by omega)), rf_1_0, rf_7_0, rf_7_3, rf_7_4, rf_7_5, kc (k := 4 * j) (by omega), kc (k := 4 * j + 1) (by omega), kc (k := 4 * j + 2) (by omega), kc (k := j) (by omega), b0.1, e97]
    refine ⟨vi (n := 47) (by omega) ln_2 (by omega), vi (n := 12) (by omega) ln_8 (by omega), ?_⟩
    intro m5 e5
    have q1 : m5 7 6 = nI j := by rw [e5, ← h6]; simp [gk_up]
    have q2 : m5 2 (4 * j + 1) = nI (b (4 * j + 1)) := by rw [e5, ← b1.1]; simp [gk_up]
    rw [q1, q2, kc (k := j) (by omega), ch0 _ (by omega), if_pos hp.2.2.2.2.1]
    refine ⟨vi (n := 47) (by omega) ln_2 (by omega), vi (n := 12) (by omega) ln_9 (by omega), ?_⟩
    intro m6 e6
    have q3 : m6 7 6 = nI j := by rw [e6, ← q1]; simp [gk_up]
    have q4 : m6 2 (4 * j + 2) = nI (b (4 * j + 2)) := by rw [e6, e5, ← b2.1]; simp [gk_up]
    rw [q3, q4, kc (k := j) (by omega), e48]
    refine ⟨vi (n := 47) (by omega) ln_2 (by omega), vi (n := 12) (by omega) ln_10 (by omega), ?_⟩
    intro m7 e7 m8 e8 v9 e9
    have e4 : nI (4 * j) + 4 = nI (4 * (j + 1)) := nI_add (4 * j) 4
    have q5 : m7 7 6 = nI j := by rw [e7, ← q3]; simp [gk_up]
    rw [q5, nI_1] at e8
    rw [e9, e4]
    have f1 : ∀ c, c ≠ 7 → c ≠ 8 → c ≠ 9 → c ≠ 10 → m8 c = μ c := fun c a1 a2 a3 a4 => by rw [e8, e7, e6, e5]; simp [gk_up, a1, a2, a3, a4]
    have f2 : ∀ j, j ≠ 6 → m8 7 j = μ 7 j := fun j a => by rw [e8, e7, e6, e5]; simp [gk_up, upd, a]
    have g6 : m8 7 6 = nI (j + 1) := by rw [e8]; simp [gk_up, upd]
    have g8 : m8 8 = upd (μ 8) j (nI (b (4 * j) - 97)) := by rw [e8, e7, e6, e5]; simp [gk_up]
    have g9 : m8 9 = upd (μ 9) j (nI (gp_sgn 0 (b (4 * j + 1)))) := by rw [e8, e7, e6, e5]; simp [gk_up]
    have g10 : m8 10 = upd (μ 10) j (nI (b (4 * j + 2) - 48)) := by rw [e8, e7, e6, e5]; simp [gk_up]
    refine ih (j + 1) m8 (by omega) (by rw [f1 1 (by omega) (by omega) (by omega) (by omega)]; exact hl) (by rw [f1 2 (by omega) (by omega) (by omega) (by omega)]; exact hb) (by rw [f2 1 (by omega)]; exact h1) g6 (fun k hk => ?_) (fun ν r1 r2 r3 r4 => h ν r1 r2 (fun c a1 a2 a3 a4 => (r3 c a1 a2 a3 a4).trans (f1 c a1 a2 a3 a4)) (fun j a => (r4 j a).trans (f2 j a)))
    rw [g8, g9, g10]
    by_cases e : k = j
    · subst e
      rw [upd_s, upd_s, upd_s]
      exact ⟨rfl, rfl, rfl⟩
    · rw [upd_n e, upd_n e, upd_n e]
      exact hs k (by omega)
set_option maxHeartbeats 4000000 in
theorem s_parse_0 {n : Nat} (hn : n ≤ 47) {b : Nat → Nat} {μ : gk_St} (hl : μ 1 2 = nI n) (hb : ∀ k, k < n → μ 2 k = nI (b k) ∧ b k ≤ 255) (h1 : μ 7 1 = nI 6) (h2 : μ 7 2 = 1) {Q : gk_St → Prop} (h : ∀ ν, gp_tr_0 n b ν → (∀ c, c ≠ 7 → c ≠ 8 → c ≠ 9 → c ≠ 10 → ν c = μ c) → Q ν) : w_X6_parse 7 1 μ Q := by
  unfold w_X6_parse
  refine s_faultIn_0 hn hl hb h1 h2 (fun f hf => ?_)
  intro m3 e3 m4 e4
  have f1 : ∀ c, c ≠ 7 → m4 c = μ c := fun c a => by rw [e4, e3]; simp [gk_up, a]
  have f2 : ∀ j, j ≠ 6 → j ≠ 7 → m4 7 j = μ 7 j := fun j a b => by rw [e4, e3]; simp [gk_up, upd, a, b]
  have g7 : m4 7 7 = f := by rw [e4, e3]; simp [gk_up, upd]
  have g6 : m4 7 6 = 0 := by rw [e4, e3]; simp [gk_up, upd]
  rw [g7]
  by_cases c : f = -1
  · rw [if_pos c]
    have hz := (gp_isF_pk (by omega) hf).mp c
    have epz : gp_pz 0 n b = (n + 1) / 4 := by unfold gp_pz; rw [if_pos hz]
    refine ⟨(n + 1) / 4 + 1, ?_⟩
    refine s_paL_0 hn hz ((n + 1) / 4) 0 m4 (by omega) (by rw [f1 1 (by omega)]; exact hl) (by rw [f1 2 (by omega)]; exact hb) (by rw [f2 1 (by omega) (by omega)]; exact h1) (g6.trans nI_0.symm) (fun k hk => absurd hk (Nat.not_lt_zero k)) (fun ν r1 r2 r3 r4 => ?_)
    refine h ν ⟨?_, ?_, ?_, ?_, ?_⟩ (fun c a1 a2 a3 a4 => (r3 c a1 a2 a3 a4).trans (f1 c a1))
    · rw [r4 1 (by omega), f2 1 (by omega) (by omega)]
      exact h1
    · rw [r4 2 (by omega), f2 2 (by omega) (by omega)]
      exact h2
    · rw [epz]
      exact r1
    · rw [r4 7 (by omega), g7]
      exact hf
    · rw [epz]
      exact r2
  · rw [if_neg c]
    have epz : gp_pz 0 n b = 0 := by
      unfold gp_pz
      rw [if_neg (fun q => c ((gp_isF_pk (by omega) hf).mpr q))]
    refine h m4 ⟨?_, ?_, ?_, ?_, fun k hk => absurd hk (by omega)⟩ (fun c a1 a2 a3 a4 => f1 c a1)
    · rw [f2 1 (by omega) (by omega)]
      exact h1
    · rw [f2 2 (by omega) (by omega)]
      exact h2
    · rw [epz, g6]
      exact nI_0.symm
    · rw [g7]
      exact hf

set_option maxHeartbeats 4000000 in
theorem s_tkL_1 {n : Nat} (hn : n ≤ 47) {b : Nat → Nat} {μ : gk_St} (hb : ∀ k, k < n → μ 4 k = nI (b k) ∧ b k ≤ 255) {q : Nat} (hq : 4 * q < n) {Q : Int32 → gk_St → Prop} {K : gk_St → Prop} (hy : gp_tk b (4 * q) = true → Q 1 μ) (hk : gp_tk b (4 * q) = false → K μ) : ∀ (i j : Nat), j + i = q → (∀ k, k < j → b (4 * k) ≠ b (4 * q)) → w_X6_isTaken_l2 Q K 3 (i + 1) (nI (4 * q)) (nI (4 * j)) μ := by
  intro i
  induction i with
  | zero =>
    intro j hj h
    have e : j = q := by omega
    subst e
    unfold w_X6_isTaken_l2
    rw [if_pos (Int32.le_refl _)]
    refine hk ?_
    cases hz : gp_tk b (4 * j) with
    | false => rfl
    | true =>
      obtain ⟨k, hk1, hk2⟩ := gp_any_iff.mp hz
      exact absurd (by simpa using hk2) (h k (by omega))
  | succ i ih =>
    intro j hj h
    unfold w_X6_isTaken_l2
    rw [if_neg (fun z => absurd ((nI_leI (by omega) (by omega)).mp z) (by omega)), rf_3_0, kc (k := 4 * j) (by omega), kc (k := 4 * q) (by omega), (hb (4 * j) (by omega)).1, (hb (4 * q) (by omega)).1]
    have g1 := (hb (4 * j) (by omega)).2
    have g2 := (hb (4 * q) (by omega)).2
    refine ⟨vi (n := 47) (by omega) ln_4 (by omega), vi (n := 47) (by omega) ln_4 (by omega), ?_⟩
    by_cases c : b (4 * j) = b (4 * q)
    · rw [if_pos (by rw [c])]
      exact hy (gp_any_iff.mpr ⟨j, by omega, by simpa using c⟩)
    · rw [if_neg (fun z => c ((nI_eq (by omega) (by omega)).mp z))]
      intro v e
      have e4 : nI (4 * j) + 4 = nI (4 * (j + 1)) := nI_add (4 * j) 4
      rw [e, e4]
      refine ih (j + 1) (by omega) (fun k hk => ?_)
      by_cases z : k = j
      · rw [z]
        exact c
      · exact h k (by omega)
set_option maxHeartbeats 4000000 in
theorem s_gd_1 {n : Nat} (hn : n ≤ 47) {b : Nat → Nat} {μ : gk_St} (hb : ∀ k, k < n → μ 4 k = nI (b k) ∧ b k ≤ 255) (h1 : μ 11 1 = nI 12) (h2 : μ 11 2 = 0) {i : Nat} (hi : i < n) {Q : Int32 → gk_St → Prop} (h : Q (gp_bi (gp_gd 1 b i)) μ) : w_X6_goesOn 11 3 (nI i) μ Q := by
  have g2 := (hb i hi).2
  have e4 : gk_md (nI i) 4 = nI (i % 4) := nI_md (b := 4) (by omega) (by omega) (by omega)
  have d4 : nI i / 4 = nI (i / 4) := nI_div (b := 4) (by omega) (by omega) (by omega)
  unfold w_X6_goesOn
  rw [rf_3_0, rf_11_0, kc (k := i) (by omega), (hb i hi).1, e4, d4, h1]
  refine ⟨vi (n := 47) (by omega) ln_4 (by omega), ?_⟩
  intro v1 ev
  subst ev
  have hx : gp_gd 1 b i = if i % 4 = 0 then decide (i / 4 < 12) && (decide (97 ≤ b i) && decide (b i ≤ 120)) && !(false && gp_tk b i) else if i % 4 = 1 then decide (gp_sgn 1 (b i) < 3) else if i % 4 = 2 then decide (49 ≤ b i) && decide (b i ≤ 57) else b i == 59 := rfl
  rw [hx] at h
  by_cases z0 : i % 4 = 0
  · rw [if_pos (by rw [z0]; exact nI_0)]
    rw [if_pos z0] at h
    by_cases c : 12 ≤ i / 4
    · rw [if_pos ((nI_leI (by omega) (by omega)).mpr c)]
      rw [decide_eq_false (by omega), Bool.false_and, Bool.false_and] at h
      exact h
    · rw [if_neg (fun z => c ((nI_leI (by omega) (by omega)).mp z))]
      rw [decide_eq_true (by omega), Bool.true_and] at h
      refine s_wv (a := 97) (c := 120) (by omega) (by omega) (by omega) ?_
      cases w : (decide (97 ≤ b i) && decide (b i ≤ 120)) with
      | false =>
        rw [if_pos (show gp_bi false = 0 from rfl)]
        rw [w, Bool.false_and] at h
        exact h
      | true =>
        rw [if_neg (show ¬ gp_bi true = 0 by decide)]
        rw [w, Bool.true_and] at h
        rw [h2, if_pos rfl]
        exact h
  · rw [if_neg (nI_ne0 (by omega) (by omega))]
    rw [if_neg z0] at h
    by_cases z1 : i % 4 = 1
    · rw [if_pos (by rw [z1]; decide)]
      rw [if_pos z1] at h
      rw [ch1 (b i) (by omega)]
      by_cases c : gp_sgn 1 (b i) < 3
      · rw [if_pos c, if_neg (nI_pos (by omega))]
        rw [decide_eq_true c] at h
        exact h
      · rw [if_neg c, if_pos (by decide)]
        rw [decide_eq_false c] at h
        exact h
    · rw [if_neg (show ¬ nI (i % 4) = 1 from fun z => z1 ((nI_eq (b := 1) (by omega) (by omega)).mp z))]
      rw [if_neg z1] at h
      by_cases z2 : i % 4 = 2
      · rw [if_pos (by rw [z2]; decide)]
        rw [if_pos z2] at h
        exact s_wv (a := 49) (c := 57) (by omega) (by omega) (by omega) ⟨gp_bi_b, h⟩
      · rw [if_neg (show ¬ nI (i % 4) = 2 from fun z => z2 ((nI_eq (b := 2) (by omega) (by omega)).mp z))]
        rw [if_neg z2] at h
        by_cases c : b i = 59
        · rw [if_pos (by rw [c]; decide)]
          rw [c] at h
          exact h
        · rw [if_neg (show ¬ nI (b i) = 59 from fun z => c ((nI_eq (b := 59) (by omega) (by omega)).mp z))]
          rw [show (b i == 59) = false by simpa using c] at h
          exact h
set_option maxHeartbeats 4000000 in
theorem s_fiL_1 {n : Nat} (hn : n ≤ 47) {b : Nat → Nat} {μ : gk_St} (hl : μ 3 2 = nI n) (hb : ∀ k, k < n → μ 4 k = nI (b k) ∧ b k ≤ 255) (h1 : μ 11 1 = nI 12) (h2 : μ 11 2 = 0) {Q : Int32 → gk_St → Prop} {K : gk_St → Prop} (hq : ∀ j, j < n → (∀ i, i < j → gp_gd 1 b i = true) → gp_gd 1 b j = false → Q (nI j) μ) (hk : (∀ i, i < n → gp_gd 1 b i = true) → K μ) : ∀ (i j : Nat), j + i = n → (∀ i, i < j → gp_gd 1 b i = true) → w_X6_faultIn_l2 Q K 11 3 (i + 1) (nI j) μ := by
  intro i
  induction i with
  | zero =>
    intro j hj h
    have e : j = n := by omega
    subst e
    unfold w_X6_faultIn_l2
    rw [hl, if_pos (Int32.le_refl _)]
    exact hk h
  | succ i ih =>
    intro j hj h
    unfold w_X6_faultIn_l2
    rw [hl, if_neg (fun z => absurd ((nI_leI (by omega) (by omega)).mp z) (by omega))]
    refine s_gd_1 hn hb h1 h2 (i := j) (by omega) ?_
    cases c : gp_gd 1 b j with
    | false =>
      rw [if_pos (show gp_bi false = 0 from rfl)]
      exact hq j (by omega) h c
    | true =>
      rw [if_neg (show ¬ gp_bi true = 0 by decide)]
      intro v e
      rw [e, nI_1]
      refine ih (j + 1) (by omega) (fun i hi => ?_)
      by_cases z : i = j
      · rw [z]
        exact c
      · exact h i (by omega)
theorem s_faultIn_1 {n : Nat} (hn : n ≤ 47) {b : Nat → Nat} {μ : gk_St} (hl : μ 3 2 = nI n) (hb : ∀ k, k < n → μ 4 k = nI (b k) ∧ b k ≤ 255) (h1 : μ 11 1 = nI 12) (h2 : μ 11 2 = 0) {Q : Int32 → gk_St → Prop} (h : ∀ f, gp_isF 1 n b f → Q f μ) : w_X6_faultIn 11 3 μ Q := by
  unfold w_X6_faultIn
  refine ⟨n + 1, ?_⟩
  refine s_fiL_1 hn hl hb h1 h2 (fun j hj a1 a2 => h _ (Or.inr ⟨j, rfl, by omega, a1, Or.inl ⟨hj, a2⟩⟩)) (fun a => ?_) n 0 (by omega) (fun i hi => absurd hi (Nat.not_lt_zero i))
  rw [hl]
  have e4 : gk_md (nI n) 4 = nI (n % 4) := nI_md (b := 4) (by omega) (by omega) (by omega)
  rw [e4]
  by_cases z : n = 0
  · rw [if_pos (by rw [z]; exact nI_0)]
    exact h _ (Or.inl ⟨rfl, a, Or.inl z⟩)
  · rw [if_neg (nI_ne0 (by omega) (by omega))]
    by_cases y : n % 4 = 3
    · rw [if_pos (by rw [y]; decide)]
      exact h _ (Or.inl ⟨rfl, a, Or.inr y⟩)
    · rw [if_neg (show ¬ nI (n % 4) = 3 from fun q => y ((nI_eq (b := 3) (by omega) (by omega)).mp q))]
      exact h _ (Or.inr ⟨n, rfl, by omega, a, Or.inr ⟨rfl, z, y⟩⟩)
def gp_tr_1 (n : Nat) (b : Nat → Nat) (μ : gk_St) : Prop := μ 11 1 = nI 12 ∧ μ 11 2 = 0 ∧ μ 11 6 = nI (gp_pz 1 n b) ∧ gp_isF 1 n b (μ 11 7) ∧ ∀ k, k < gp_pz 1 n b → μ 12 k = nI (b (4 * k) - 97) ∧ μ 13 k = nI (gp_sgn 1 (b (4 * k + 1))) ∧ μ 14 k = nI (b (4 * k + 2) - 48)
set_option maxHeartbeats 4000000 in
theorem s_paL_1 {n : Nat} (hn : n ≤ 47) {b : Nat → Nat} (hz : gp_pk 1 n b = true) {Q K : gk_St → Prop} : ∀ (i j : Nat) (μ : gk_St), j + i = (n + 1) / 4 → μ 3 2 = nI n → (∀ k, k < n → μ 4 k = nI (b k) ∧ b k ≤ 255) → μ 11 1 = nI 12 → μ 11 6 = nI j → (∀ k, k < j → μ 12 k = nI (b (4 * k) - 97) ∧ μ 13 k = nI (gp_sgn 1 (b (4 * k + 1))) ∧ μ 14 k = nI (b (4 * k + 2) - 48)) → (∀ ν, ν 11 6 = nI ((n + 1) / 4) → (∀ k, k < (n + 1) / 4 → ν 12 k = nI (b (4 * k) - 97) ∧ ν 13 k = nI (gp_sgn 1 (b (4 * k + 1))) ∧ ν 14 k = nI (b (4 * k + 2) - 48)) → (∀ c, c ≠ 11 → c ≠ 12 → c ≠ 13 → c ≠ 14 → ν c = μ c) → (∀ j, j ≠ 6 → ν 11 j = μ 11 j) → K ν) → w_X6_parse_l25 Q K 11 3 (i + 1) (nI (4 * j)) μ := by
  have epz : gp_pz 1 n b = (n + 1) / 4 := by unfold gp_pz; rw [if_pos hz]
  have hz3 := (gp_pk_iff.mp hz).2
  intro i
  induction i with
  | zero =>
    intro j μ hj hl hb h1 h6 hs h
    have e : j = (n + 1) / 4 := by omega
    unfold w_X6_parse_l25
    have e2 : nI (4 * j) + 2 = nI (4 * j + 2) := nI_add (4 * j) 2
    rw [hl, e2, if_pos ((nI_leI (by omega) (by omega)).mpr (by omega))]
    rw [e] at h6 hs
    exact h μ h6 hs (fun _ _ _ _ _ => rfl) (fun _ _ => rfl)
  | succ i ih =>
    intro j μ hj hl hb h1 h6 hs h
    have hp := gp_pz_ok (x := 1) (n := n) (b := b) (k := j) (by omega)
    have hjm : j < 12 := hp.2.1
    have b0 := hb (4 * j) (by omega)
    have b1 := hb (4 * j + 1) (by omega)
    have b2 := hb (4 * j + 2) (by omega)
    have e1 : nI (4 * j) + 1 = nI (4 * j + 1) := nI_add (4 * j) 1
    have e2 : nI (4 * j) + 2 = nI (4 * j + 2) := nI_add (4 * j) 2
    have e97 : nI (b (4 * j)) - 97 = nI (b (4 * j) - 97) := pk_sub (b := 97) (by omega)
    have e48 : nI (b (4 * j + 2)) - 48 = nI (b (4 * j + 2) - 48) := pk_sub (b := 48) (by omega)
    unfold w_X6_parse_l25
    rw [hl, e1, e2, if_neg (fun z => absurd ((nI_leI (by omega) (by omega)).mp z) (by omega)), h1, h6, if_neg (fun z => absurd ((nI_leI (by omega) (by omega)).mp z) (by omega)), rf_3_0, rf_11_0, rf_11_3, rf_11_4, rf_11_5, kc (k := 4 * j) (by omega), kc (k := 4 * j + 1) (by omega), kc (k := 4 * j + 2) (by omega), kc (k := j) (by omega), b0.1, e97]
    refine ⟨vi (n := 47) (by omega) ln_4 (by omega), vi (n := 12) (by omega) ln_12 (by omega), ?_⟩
    intro m5 e5
    have q1 : m5 11 6 = nI j := by rw [e5, ← h6]; simp [gk_up]
    have q2 : m5 4 (4 * j + 1) = nI (b (4 * j + 1)) := by rw [e5, ← b1.1]; simp [gk_up]
    rw [q1, q2, kc (k := j) (by omega), ch1 _ (by omega), if_pos hp.2.2.2.2.1]
    refine ⟨vi (n := 47) (by omega) ln_4 (by omega), vi (n := 12) (by omega) ln_13 (by omega), ?_⟩
    intro m6 e6
    have q3 : m6 11 6 = nI j := by rw [e6, ← q1]; simp [gk_up]
    have q4 : m6 4 (4 * j + 2) = nI (b (4 * j + 2)) := by rw [e6, e5, ← b2.1]; simp [gk_up]
    rw [q3, q4, kc (k := j) (by omega), e48]
    refine ⟨vi (n := 47) (by omega) ln_4 (by omega), vi (n := 12) (by omega) ln_14 (by omega), ?_⟩
    intro m7 e7 m8 e8 v9 e9
    have e4 : nI (4 * j) + 4 = nI (4 * (j + 1)) := nI_add (4 * j) 4
    have q5 : m7 11 6 = nI j := by rw [e7, ← q3]; simp [gk_up]
    rw [q5, nI_1] at e8
    rw [e9, e4]
    have f1 : ∀ c, c ≠ 11 → c ≠ 12 → c ≠ 13 → c ≠ 14 → m8 c = μ c := fun c a1 a2 a3 a4 => by rw [e8, e7, e6, e5]; simp [gk_up, a1, a2, a3, a4]
    have f2 : ∀ j, j ≠ 6 → m8 11 j = μ 11 j := fun j a => by rw [e8, e7, e6, e5]; simp [gk_up, upd, a]
    have g6 : m8 11 6 = nI (j + 1) := by rw [e8]; simp [gk_up, upd]
    have g8 : m8 12 = upd (μ 12) j (nI (b (4 * j) - 97)) := by rw [e8, e7, e6, e5]; simp [gk_up]
    have g9 : m8 13 = upd (μ 13) j (nI (gp_sgn 1 (b (4 * j + 1)))) := by rw [e8, e7, e6, e5]; simp [gk_up]
    have g10 : m8 14 = upd (μ 14) j (nI (b (4 * j + 2) - 48)) := by rw [e8, e7, e6, e5]; simp [gk_up]
    refine ih (j + 1) m8 (by omega) (by rw [f1 3 (by omega) (by omega) (by omega) (by omega)]; exact hl) (by rw [f1 4 (by omega) (by omega) (by omega) (by omega)]; exact hb) (by rw [f2 1 (by omega)]; exact h1) g6 (fun k hk => ?_) (fun ν r1 r2 r3 r4 => h ν r1 r2 (fun c a1 a2 a3 a4 => (r3 c a1 a2 a3 a4).trans (f1 c a1 a2 a3 a4)) (fun j a => (r4 j a).trans (f2 j a)))
    rw [g8, g9, g10]
    by_cases e : k = j
    · subst e
      rw [upd_s, upd_s, upd_s]
      exact ⟨rfl, rfl, rfl⟩
    · rw [upd_n e, upd_n e, upd_n e]
      exact hs k (by omega)
set_option maxHeartbeats 4000000 in
theorem s_parse_1 {n : Nat} (hn : n ≤ 47) {b : Nat → Nat} {μ : gk_St} (hl : μ 3 2 = nI n) (hb : ∀ k, k < n → μ 4 k = nI (b k) ∧ b k ≤ 255) (h1 : μ 11 1 = nI 12) (h2 : μ 11 2 = 0) {Q : gk_St → Prop} (h : ∀ ν, gp_tr_1 n b ν → (∀ c, c ≠ 11 → c ≠ 12 → c ≠ 13 → c ≠ 14 → ν c = μ c) → Q ν) : w_X6_parse 11 3 μ Q := by
  unfold w_X6_parse
  refine s_faultIn_1 hn hl hb h1 h2 (fun f hf => ?_)
  intro m3 e3 m4 e4
  have f1 : ∀ c, c ≠ 11 → m4 c = μ c := fun c a => by rw [e4, e3]; simp [gk_up, a]
  have f2 : ∀ j, j ≠ 6 → j ≠ 7 → m4 11 j = μ 11 j := fun j a b => by rw [e4, e3]; simp [gk_up, upd, a, b]
  have g7 : m4 11 7 = f := by rw [e4, e3]; simp [gk_up, upd]
  have g6 : m4 11 6 = 0 := by rw [e4, e3]; simp [gk_up, upd]
  rw [g7]
  by_cases c : f = -1
  · rw [if_pos c]
    have hz := (gp_isF_pk (by omega) hf).mp c
    have epz : gp_pz 1 n b = (n + 1) / 4 := by unfold gp_pz; rw [if_pos hz]
    refine ⟨(n + 1) / 4 + 1, ?_⟩
    refine s_paL_1 hn hz ((n + 1) / 4) 0 m4 (by omega) (by rw [f1 3 (by omega)]; exact hl) (by rw [f1 4 (by omega)]; exact hb) (by rw [f2 1 (by omega) (by omega)]; exact h1) (g6.trans nI_0.symm) (fun k hk => absurd hk (Nat.not_lt_zero k)) (fun ν r1 r2 r3 r4 => ?_)
    refine h ν ⟨?_, ?_, ?_, ?_, ?_⟩ (fun c a1 a2 a3 a4 => (r3 c a1 a2 a3 a4).trans (f1 c a1))
    · rw [r4 1 (by omega), f2 1 (by omega) (by omega)]
      exact h1
    · rw [r4 2 (by omega), f2 2 (by omega) (by omega)]
      exact h2
    · rw [epz]
      exact r1
    · rw [r4 7 (by omega), g7]
      exact hf
    · rw [epz]
      exact r2
  · rw [if_neg c]
    have epz : gp_pz 1 n b = 0 := by
      unfold gp_pz
      rw [if_neg (fun q => c ((gp_isF_pk (by omega) hf).mpr q))]
    refine h m4 ⟨?_, ?_, ?_, ?_, fun k hk => absurd hk (by omega)⟩ (fun c a1 a2 a3 a4 => f1 c a1)
    · rw [f2 1 (by omega) (by omega)]
      exact h1
    · rw [f2 2 (by omega) (by omega)]
      exact h2
    · rw [epz, g6]
      exact nI_0.symm
    · rw [g7]
      exact hf
