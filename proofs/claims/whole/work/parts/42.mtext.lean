/-! texts as the reference reads them -/
/-- the reference's texts -/
def gp_mt (tn : Nat → Nat) (tb : Nat → Nat → Nat) (μ : gk_St) : Prop := ∀ x, x < 3 → μ 102 x = nI (tn x) ∧ tn x ≤ gp_lm x ∧ ∀ k, k < tn x → μ 103 (47 * x + k) = nI (tb x k) ∧ tb x k ≤ 255
theorem gp_lm47 {x : Nat} : gp_lm x ≤ 47 := by
  unfold gp_lm
  split
  · omega
  · split <;> omega
def gp_by (n : Nat) (b : Nat → Nat) (k : Nat) : Int32 := if k < n then nI (b k) else -1
theorem s_by {tn : Nat → Nat} {tb : Nat → Nat → Nat} {μ : gk_St} (hm : gp_mt tn tb μ) {x k : Nat} (hx : x < 3) (hk : k < 1000) {Q : Int32 → gk_St → Prop} (h : Q (gp_by (tn x) (tb x) k) μ) : w_X8_byteAt 101 (nI x) (nI k) μ Q := by
  obtain ⟨h1, h2, h3⟩ := hm x hx
  have h47 := gp_lm47 (x := x)
  have e : (47 : Int32) * nI x + nI k = nI (47 * x + k) := by
    have : (47 : Int32) * nI x = nI (47 * x) := pk_mul 47 x
    rw [this, nI_add]
  unfold w_X8_byteAt
  rw [rf_101_0, rf_101_1, kc (k := x) (by omega), h1, e]
  refine ⟨vi hx ln_102 (by omega), ?_⟩
  unfold gp_by at h
  by_cases c : k < tn x
  · rw [if_neg (fun q => absurd ((nI_leI (by omega) (by omega)).mp q) (by omega)), kc (by omega), (h3 k c).1]
    rw [if_pos c] at h
    exact ⟨vi (n := 141) (by omega) ln_103 (by omega), h⟩
  · rw [if_pos ((nI_leI (by omega) (by omega)).mpr (by omega))]
    rw [if_neg c] at h
    exact h
theorem s_in_y {x lo hi : Int32} {μ : gk_St} {Q : Int32 → gk_St → Prop} (h1 : ¬ x < lo) (h2 : ¬ hi < x) (h : Q 1 μ) : w_X8_in x lo hi μ Q := by
  unfold w_X8_in
  rw [if_neg h1, if_neg h2]
  exact h
theorem s_in_n {x lo hi : Int32} {μ : gk_St} {Q : Int32 → gk_St → Prop} (h1 : x < lo ∨ hi < x) (h : Q 0 μ) : w_X8_in x lo hi μ Q := by
  unfold w_X8_in
  by_cases c : x < lo
  · rw [if_pos c]
    exact h
  · rw [if_neg c, if_pos (h1.resolve_left c)]
    exact h
theorem b97 : ∀ v, v < 256 → (97 ≤ v ∧ v ≤ 120 → ¬ nI v - 97 < 0 ∧ ¬ 23 < nI v - 97 ∧ nI v - 97 = nI (v - 97)) ∧ (¬ (97 ≤ v ∧ v ≤ 120) → nI v - 97 < 0 ∨ 23 < nI v - 97) := by decide +kernel
theorem b48 : ∀ v, v < 256 → (49 ≤ v ∧ v ≤ 57 → ¬ nI v - 48 < 1 ∧ ¬ 9 < nI v - 48 ∧ nI v - 48 = nI (v - 48)) ∧ (¬ (49 ≤ v ∧ v ≤ 57) → nI v - 48 < 1 ∨ 9 < nI v - 48) := by decide +kernel
theorem by97y {n : Nat} {b : Nat → Nat} {k : Nat} (hk : k < n) (h1 : 97 ≤ b k) (h2 : b k ≤ 120) : ¬ gp_by n b k - 97 < 0 ∧ ¬ 23 < gp_by n b k - 97 ∧ gp_by n b k - 97 = nI (b k - 97) := by
  unfold gp_by
  rw [if_pos hk]
  exact (b97 (b k) (by omega)).1 ⟨h1, h2⟩
theorem by97n {n : Nat} {b : Nat → Nat} {k : Nat} (hb : k < n → b k ≤ 255) (h : ¬ (k < n ∧ 97 ≤ b k ∧ b k ≤ 120)) : gp_by n b k - 97 < 0 ∨ 23 < gp_by n b k - 97 := by
  unfold gp_by
  by_cases c : k < n
  · rw [if_pos c]
    have := hb c
    exact (b97 (b k) (by omega)).2 (fun q => h ⟨c, q⟩)
  · rw [if_neg c]
    exact Or.inl (by decide)
theorem by48y {n : Nat} {b : Nat → Nat} {k : Nat} (hk : k < n) (h1 : 49 ≤ b k) (h2 : b k ≤ 57) : ¬ gp_by n b k - 48 < 1 ∧ ¬ 9 < gp_by n b k - 48 ∧ gp_by n b k - 48 = nI (b k - 48) := by
  unfold gp_by
  rw [if_pos hk]
  exact (b48 (b k) (by omega)).1 ⟨h1, h2⟩
theorem by48n {n : Nat} {b : Nat → Nat} {k : Nat} (hb : k < n → b k ≤ 255) (h : ¬ (k < n ∧ 49 ≤ b k ∧ b k ≤ 57)) : gp_by n b k - 48 < 1 ∨ 9 < gp_by n b k - 48 := by
  unfold gp_by
  by_cases c : k < n
  · rw [if_pos c]
    have := hb c
    exact (b48 (b k) (by omega)).2 (fun q => h ⟨c, q⟩)
  · rw [if_neg c]
    exact Or.inl (by decide)
theorem by_eq {n : Nat} {b : Nat → Nat} {k v : Nat} (hb : k < n → b k ≤ 255) (hv : v < 256) : gp_by n b k = nI v ↔ k < n ∧ b k = v := by
  unfold gp_by
  by_cases c : k < n
  · rw [if_pos c]
    have := hb c
    rw [nI_eq (by omega) (by omega)]
    exact ⟨fun q => ⟨c, q⟩, fun q => q.2⟩
  · rw [if_neg c]
    exact ⟨fun q => absurd q.symm (nI_nm1 (by omega)), fun q => absurd q.1 c⟩
theorem gp_gd0i {x : Nat} {b : Nat → Nat} {k : Nat} (h1 : k < gp_mst x) (h2 : 97 ≤ b (4 * k)) (h3 : b (4 * k) ≤ 120) (h4 : x = 0 → gp_tk b (4 * k) = false) : gp_gd x b (4 * k) = true := by
  unfold gp_gd
  rw [if_pos (by omega), decide_eq_true (by omega), decide_eq_true h2, decide_eq_true h3]
  by_cases hx : x = 0
  · rw [h4 hx, hx]
    rfl
  · rw [show (x == 0) = false by simpa using hx]
    rfl
theorem gp_gd1i {x : Nat} {b : Nat → Nat} {k : Nat} : gp_gd x b (4 * k + 1) = decide (gp_sgn x (b (4 * k + 1)) < 3) := by
  unfold gp_gd
  rw [if_neg (by omega), if_pos (by omega)]
theorem gp_gd2i {x : Nat} {b : Nat → Nat} {k : Nat} : gp_gd x b (4 * k + 2) = (decide (49 ≤ b (4 * k + 2)) && decide (b (4 * k + 2) ≤ 57)) := by
  unfold gp_gd
  rw [if_neg (by omega), if_neg (by omega), if_pos (by omega)]
theorem gp_gd3i {x : Nat} {b : Nat → Nat} {k : Nat} : gp_gd x b (4 * k + 3) = (b (4 * k + 3) == 59) := by
  unfold gp_gd
  rw [if_neg (by omega), if_neg (by omega), if_neg (by omega)]
set_option maxHeartbeats 4000000 in
theorem s_mtkL {b : Nat → Nat} {m : Nat} (hm : m ≤ 6) {μ : gk_St} {v : Nat} (hv : v < 1000) {Q : Int32 → gk_St → Prop} {K : Int32 → gk_St → Prop} (hc : ∀ k, k < m → μ 104 k = nI (b (4 * k) - 97) ∧ b (4 * k) - 97 < 1000) (h : K (gp_bi (gp_any (fun k => b (4 * k) - 97 == v) m)) μ) : ∀ (i j : Nat), j + i = m → w_X8_isTaken_l5 Q K 101 (i + 1) (nI m) (nI v) (gp_bi (gp_any (fun k => b (4 * k) - 97 == v) j)) (nI j) μ := by
  intro i
  induction i with
  | zero =>
    intro j hj
    have e : j = m := by omega
    subst e
    unfold w_X8_isTaken_l5
    rw [if_pos (Int32.le_refl _)]
    exact h
  | succ i ih =>
    intro j hj
    have hs : gp_any (fun k => b (4 * k) - 97 == v) (j + 1) = (gp_any (fun k => b (4 * k) - 97 == v) j || (b (4 * j) - 97 == v)) := rfl
    have ihj := ih (j + 1) (by omega)
    unfold w_X8_isTaken_l5
    rw [if_neg (fun q => absurd ((nI_leI (by omega) (by omega)).mp q) (by omega)), rf_101_3, kc (k := j) (by omega), (hc j (by omega)).1]
    unfold w_X8_isTaken_j26
    by_cases g : gp_any (fun k => b (4 * k) - 97 == v) j = true
    · rw [g, if_neg (show ¬ gp_bi true = 0 by decide)]
      intro w e
      rw [hs, g, Bool.true_or] at ihj
      rw [e, nI_1]
      exact ihj
    · have g' : gp_any (fun k => b (4 * k) - 97 == v) j = false := by simpa using g
      rw [hs, g', Bool.false_or] at ihj
      rw [g', if_pos (show gp_bi false = 0 from rfl)]
      refine ⟨vi (n := 7) (by omega) ln_104 (by omega), ?_⟩
      have hb := (hc j (by omega)).2
      by_cases c : b (4 * j) - 97 = v
      · rw [if_pos (by rw [c])]
        intro w e
        rw [show (b (4 * j) - 97 == v) = true by simpa using c] at ihj
        rw [e, nI_1]
        exact ihj
      · rw [if_neg (fun q => c ((nI_eq (by omega) (by omega)).mp q))]
        intro w e
        rw [show (b (4 * j) - 97 == v) = false by simpa using c] at ihj
        rw [e, nI_1]
        exact ihj
theorem gp_any_congr {f g : Nat → Bool} : ∀ {n : Nat}, (∀ i, i < n → f i = g i) → gp_any f n = gp_any g n
  | 0, _ => rfl
  | n + 1, h => by
    show (gp_any f n || f n) = (gp_any g n || g n)
    rw [gp_any_congr (fun i hi => h i (by omega)), h n (by omega)]
/-- the parts read so far -/
def gp_rp (x c1 c2 c3 m : Nat) (b : Nat → Nat) (μ : gk_St) : Prop := ∀ k, k < m → μ c1 k = nI (b (4 * k) - 97) ∧ μ c2 k = nI (gp_sgn x (b (4 * k + 1))) ∧ μ c3 k = nI (b (4 * k + 2) - 48)
theorem gp_rp_up {x c1 c2 c3 m : Nat} {b : Nat → Nat} {μ ν : gk_St} (h : gp_rp x c1 c2 c3 m b μ) (h1 : ν c1 = upd (μ c1) m (nI (b (4 * m) - 97))) (h2 : ν c2 = upd (μ c2) m (nI (gp_sgn x (b (4 * m + 1))))) (h3 : ν c3 = upd (μ c3) m (nI (b (4 * m + 2) - 48))) : gp_rp x c1 c2 c3 (m + 1) b ν := by
  intro k hk
  rw [h1, h2, h3]
  by_cases e : k = m
  · subst e
    rw [upd_s, upd_s, upd_s]
    exact ⟨rfl, rfl, rfl⟩
  · rw [upd_n e, upd_n e, upd_n e]
    exact h k (by omega)
set_option maxHeartbeats 4000000 in
theorem s_rc54 {tn : Nat → Nat} {tb : Nat → Nat → Nat} {μ : gk_St} (ht : gp_mt tn tb μ) {m : Nat} (hm : m ≤ 6) (hall : ∀ i, i < 4 * m → gp_gd 0 (tb 0) i = true) (hrp : gp_rp 0 104 105 106 m (tb 0) μ) (hbb : ∀ k, k < 4 * m → k < tn 0) {s0 : Int32} (hs0 : s0 = -1 ↔ ¬ (4 * m + 1 < tn 0 ∧ gp_sgn 0 (tb 0 (4 * m + 1)) < 3)) (hs1 : 4 * m + 1 < tn 0 → gp_sgn 0 (tb 0 (4 * m + 1)) < 3 → s0 = nI (gp_sgn 0 (tb 0 (4 * m + 1)))) {Q : Int32 → gk_St → Prop} (h0 : (¬ 4 * m < tn 0 ∨ gp_gd 0 (tb 0) (4 * m) = false) → Q 0 μ) (h1 : 4 * m < tn 0 → gp_gd 0 (tb 0) (4 * m) = true → (¬ 4 * m + 1 < tn 0 ∨ gp_gd 0 (tb 0) (4 * m + 1) = false) → Q 1 μ) (h2 : 4 * m + 1 < tn 0 → gp_gd 0 (tb 0) (4 * m) = true → gp_gd 0 (tb 0) (4 * m + 1) = true → (¬ 4 * m + 2 < tn 0 ∨ gp_gd 0 (tb 0) (4 * m + 2) = false) → Q 2 μ) (h3 : 4 * m + 2 < tn 0 → gp_gd 0 (tb 0) (4 * m) = true → gp_gd 0 (tb 0) (4 * m + 1) = true → gp_gd 0 (tb 0) (4 * m + 2) = true → ∀ ν, gp_rp 0 104 105 106 (m + 1) (tb 0) ν → (∀ c, c ≠ 104 → c ≠ 105 → c ≠ 106 → ν c = μ c) → Q 3 ν) : w_X8_readsCar_j54 Q 101 (nI m) (nI (4 * m)) (gp_by (tn 0) (tb 0) (4 * m) - 97) s0 μ := by
  have hbd : ∀ k, k < tn 0 → tb 0 k ≤ 255 := fun k hk => ((ht 0 (by omega)).2.2 k hk).2
  have h47 := (ht 0 (by omega)).2.1
  have h23 : gp_lm 0 = 23 := rfl
  have e2 : nI (4 * m) + 2 = nI (4 * m + 2) := nI_add (4 * m) 2
  unfold w_X8_readsCar_j54
  rw [e2]
  refine s_by (x := 0) ht (by omega) (by omega) ?_
  intro v8 e8
  by_cases c6 : m = 6
  · rw [if_pos (by rw [c6]; decide)]
    refine h0 (Or.inr ?_)
    cases hq : gp_gd 0 (tb 0) (4 * m) with
    | false => rfl
    | true =>
      have := (gp_gd0 (k := m) rfl hq).1
      exact absurd this (by rw [c6]; decide)
  rw [if_neg (show ¬ nI m = 6 from fun q => c6 ((nI_eq (b := 6) (by omega) (by omega)).mp q))]
  by_cases p0 : 4 * m < tn 0 ∧ 97 ≤ tb 0 (4 * m) ∧ tb 0 (4 * m) ≤ 120
  · obtain ⟨p1, p2, p3⟩ := p0
    obtain ⟨y1, y2, y3⟩ := by97y p1 p2 p3
    refine s_in_y y1 y2 ?_
    rw [if_neg (show ¬ (1 : Int32) = 0 by decide), y3]
    unfold w_X8_isTaken
    refine ⟨m + 1, ?_⟩
    have hcells : ∀ k, k < m → μ 104 k = nI (tb 0 (4 * k) - 97) ∧ tb 0 (4 * k) - 97 < 1000 := fun k hk => ⟨(hrp k hk).1, by have := hbd (4 * k) (hbb _ (by omega)); omega⟩
    refine s_mtkL (b := tb 0) hm (v := tb 0 (4 * m) - 97) (by omega) hcells ⟨gp_bi_b, ?_⟩ m 0 (by omega)
    have etk : gp_any (fun k => tb 0 (4 * k) - 97 == tb 0 (4 * m) - 97) m = gp_tk (tb 0) (4 * m) := by
      unfold gp_tk
      rw [Nat.mul_div_cancel_left _ (by omega : 0 < 4)]
      refine gp_any_congr (fun k hk => ?_)
      have := (gp_gd0 (k := k) rfl (hall (4 * k) (by omega))).2.1
      rw [Bool.eq_iff_iff, beq_iff_eq, beq_iff_eq]
      omega
    rw [etk]
    dsimp only
    cases tk : gp_tk (tb 0) (4 * m) with
    | true =>
      rw [if_neg (show ¬ gp_bi true = 0 by decide)]
      refine h0 (Or.inr ?_)
      cases hq : gp_gd 0 (tb 0) (4 * m) with
      | false => rfl
      | true =>
        obtain ⟨k, hk1, hk2⟩ := gp_any_iff.mp tk
        exact absurd (by simpa using hk2) ((gp_gd0 (k := m) rfl hq).2.2.2 rfl k (by omega))
    | false =>
      rw [if_pos (show gp_bi false = 0 from rfl)]
      have g0 : gp_gd 0 (tb 0) (4 * m) = true := gp_gd0i (by show m < 6; omega) p2 p3 (fun _ => tk)
      by_cases c1 : s0 = -1
      · rw [if_pos c1]
        refine h1 p1 g0 ?_
        have := hs0.mp c1
        by_cases z : 4 * m + 1 < tn 0
        · refine Or.inr ?_
          rw [gp_gd1i, decide_eq_false (fun q => this ⟨z, q⟩)]
        · exact Or.inl z
      · rw [if_neg c1]
        have z : 4 * m + 1 < tn 0 ∧ gp_sgn 0 (tb 0 (4 * m + 1)) < 3 := by
          by_cases z : 4 * m + 1 < tn 0 ∧ gp_sgn 0 (tb 0 (4 * m + 1)) < 3
          · exact z
          · exact absurd (hs0.mpr z) c1
        have g1 : gp_gd 0 (tb 0) (4 * m + 1) = true := by rw [gp_gd1i, decide_eq_true z.2]
        rw [e8]
        by_cases p4 : 4 * m + 2 < tn 0 ∧ 49 ≤ tb 0 (4 * m + 2) ∧ tb 0 (4 * m + 2) ≤ 57
        · obtain ⟨q1, q2, q3⟩ := p4
          obtain ⟨y4, y5, y6⟩ := by48y q1 q2 q3
          refine s_in_y y4 y5 ?_
          rw [if_neg (show ¬ (1 : Int32) = 0 by decide), y6, rf_101_3, rf_101_4, rf_101_5, kc (k := m) (by omega), hs1 z.1 z.2]
          refine ⟨vi (n := 7) (by omega) ln_104 (by omega), ?_⟩
          intro m15 e15
          refine ⟨vi (n := 7) (by omega) ln_105 (by omega), ?_⟩
          intro m16 e16
          refine ⟨vi (n := 7) (by omega) ln_106 (by omega), ?_⟩
          intro m17 e17
          have g2 : gp_gd 0 (tb 0) (4 * m + 2) = true := by rw [gp_gd2i, decide_eq_true q2, decide_eq_true q3]; rfl
          refine h3 q1 g0 g1 g2 m17 (gp_rp_up hrp ?_ ?_ ?_) (fun c a1 a2 a3 => ?_)
          · rw [e17, e16, e15]; simp [gk_up]
          · rw [e17, e16, e15]; simp [gk_up]
          · rw [e17, e16, e15]; simp [gk_up]
          · rw [e17, e16, e15]; simp [gk_up, a1, a2, a3]
        · refine s_in_n (by48n (hbd _) p4) ?_
          rw [if_pos rfl]
          refine h2 z.1 g0 g1 ?_
          by_cases y : 4 * m + 2 < tn 0
          · refine Or.inr ?_
            rw [gp_gd2i]
            by_cases w : 49 ≤ tb 0 (4 * m + 2)
            · rw [decide_eq_false (fun q => p4 ⟨y, w, q⟩), Bool.and_false]
            · rw [decide_eq_false w, Bool.false_and]
          · exact Or.inl y
  · refine s_in_n (by97n (hbd _) p0) ?_
    rw [if_pos rfl]
    refine h0 ?_
    by_cases y : 4 * m < tn 0
    · refine Or.inr ?_
      cases hq : gp_gd 0 (tb 0) (4 * m) with
      | false => rfl
      | true =>
        have := gp_gd0 (k := m) rfl hq
        exact absurd ⟨y, this.2.1, this.2.2.1⟩ p0
    · exact Or.inl y
set_option maxHeartbeats 4000000 in
theorem s_rd_0 {tn : Nat → Nat} {tb : Nat → Nat → Nat} {μ : gk_St} (ht : gp_mt tn tb μ) {m : Nat} (hm : m ≤ 6) (hall : ∀ i, i < 4 * m → gp_gd 0 (tb 0) i = true) (hrp : gp_rp 0 104 105 106 m (tb 0) μ) (hbb : ∀ k, k < 4 * m → k < tn 0) {Q : Int32 → gk_St → Prop} (h0 : (¬ 4 * m < tn 0 ∨ gp_gd 0 (tb 0) (4 * m) = false) → Q 0 μ) (h1 : 4 * m < tn 0 → gp_gd 0 (tb 0) (4 * m) = true → (¬ 4 * m + 1 < tn 0 ∨ gp_gd 0 (tb 0) (4 * m + 1) = false) → Q 1 μ) (h2 : 4 * m + 1 < tn 0 → gp_gd 0 (tb 0) (4 * m) = true → gp_gd 0 (tb 0) (4 * m + 1) = true → (¬ 4 * m + 2 < tn 0 ∨ gp_gd 0 (tb 0) (4 * m + 2) = false) → Q 2 μ) (h3 : 4 * m + 2 < tn 0 → gp_gd 0 (tb 0) (4 * m) = true → gp_gd 0 (tb 0) (4 * m + 1) = true → gp_gd 0 (tb 0) (4 * m + 2) = true → ∀ ν, gp_rp 0 104 105 106 (m + 1) (tb 0) ν → (∀ c, c ≠ 104 → c ≠ 105 → c ≠ 106 → ν c = μ c) → Q 3 ν) : w_X8_readsCar 101 (nI m) (nI (4 * m)) μ Q := by
  have hbd : ∀ k, k < tn 0 → tb 0 k ≤ 255 := fun k hk => ((ht 0 (by omega)).2.2 k hk).2
  have e1 : nI (4 * m) + 1 = nI (4 * m + 1) := nI_add (4 * m) 1
  unfold w_X8_readsCar
  refine s_by (x := 0) ht (by omega) (by omega) ?_
  intro v3 e3
  rw [e1, e3]
  refine s_by (x := 0) ht (by omega) (by omega) ?_
  have by1 : ∀ v, v < 256 → (gp_by (tn 0) (tb 0) (4 * m + 1) = nI v ↔ 4 * m + 1 < tn 0 ∧ tb 0 (4 * m + 1) = v) := fun v hv => by_eq (hbd _) hv
  have key : ∀ s0 : Int32, (s0 = -1 ↔ ¬ (4 * m + 1 < tn 0 ∧ gp_sgn 0 (tb 0 (4 * m + 1)) < 3)) → (4 * m + 1 < tn 0 → gp_sgn 0 (tb 0 (4 * m + 1)) < 3 → s0 = nI (gp_sgn 0 (tb 0 (4 * m + 1)))) → w_X8_readsCar_j54 Q 101 (nI m) (nI (4 * m)) (gp_by (tn 0) (tb 0) (4 * m) - 97) s0 μ := fun s0 a b => s_rc54 ht hm hall hrp hbb a b h0 h1 h2 h3
  have b1 := by1 111 (by omega)
  have b2 := by1 115 (by omega)
  have b3 := by1 103 (by omega)
  by_cases c1 : gp_by (tn 0) (tb 0) (4 * m + 1) = 111
  · rw [if_pos c1]
    obtain ⟨y1, y2⟩ := b1.mp c1
    have ys : gp_sgn 0 (tb 0 (4 * m + 1)) = 0 := by rw [y2]; decide
    exact key 0 ⟨fun q => absurd q (by decide), fun q => absurd ⟨y1, by omega⟩ q⟩ (fun _ _ => by rw [ys]; rfl)
  rw [if_neg c1]
  by_cases c2 : gp_by (tn 0) (tb 0) (4 * m + 1) = 115
  · rw [if_pos c2]
    obtain ⟨y1, y2⟩ := b2.mp c2
    have ys : gp_sgn 0 (tb 0 (4 * m + 1)) = 1 := by rw [y2]; decide
    exact key 1 ⟨fun q => absurd q (by decide), fun q => absurd ⟨y1, by omega⟩ q⟩ (fun _ _ => by rw [ys]; rfl)
  rw [if_neg c2]
  by_cases c3 : gp_by (tn 0) (tb 0) (4 * m + 1) = 103
  · rw [if_pos c3]
    obtain ⟨y1, y2⟩ := b3.mp c3
    have ys : gp_sgn 0 (tb 0 (4 * m + 1)) = 2 := by rw [y2]; decide
    exact key 2 ⟨fun q => absurd q (by decide), fun q => absurd ⟨y1, by omega⟩ q⟩ (fun _ _ => by rw [ys]; rfl)
  rw [if_neg c3]
  have ys : 4 * m + 1 < tn 0 → gp_sgn 0 (tb 0 (4 * m + 1)) = 3 := fun y => by
    unfold gp_sgn
    rw [if_pos rfl, if_neg (fun q => c1 (b1.mpr ⟨y, q⟩)), if_neg (fun q => c2 (b2.mpr ⟨y, q⟩)), if_neg (fun q => c3 (b3.mpr ⟨y, q⟩))]
  exact key (-1) ⟨fun _ q => absurd (ys q.1) (by omega), fun _ => rfl⟩ (fun y q => absurd (ys y) (by omega))
set_option maxHeartbeats 4000000 in
theorem s_rd_1 {tn : Nat → Nat} {tb : Nat → Nat → Nat} {μ : gk_St} (ht : gp_mt tn tb μ) {m : Nat} (hm : m ≤ 12) (hall : ∀ i, i < 4 * m → gp_gd 1 (tb 1) i = true) (hrp : gp_rp 1 107 108 109 m (tb 1) μ) (hbb : ∀ k, k < 4 * m → k < tn 1) {Q : Int32 → gk_St → Prop} (h0 : (¬ 4 * m < tn 1 ∨ gp_gd 1 (tb 1) (4 * m) = false) → Q 0 μ) (h1 : 4 * m < tn 1 → gp_gd 1 (tb 1) (4 * m) = true → (¬ 4 * m + 1 < tn 1 ∨ gp_gd 1 (tb 1) (4 * m + 1) = false) → Q 1 μ) (h2 : 4 * m + 1 < tn 1 → gp_gd 1 (tb 1) (4 * m) = true → gp_gd 1 (tb 1) (4 * m + 1) = true → (¬ 4 * m + 2 < tn 1 ∨ gp_gd 1 (tb 1) (4 * m + 2) = false) → Q 2 μ) (h3 : 4 * m + 2 < tn 1 → gp_gd 1 (tb 1) (4 * m) = true → gp_gd 1 (tb 1) (4 * m + 1) = true → gp_gd 1 (tb 1) (4 * m + 2) = true → ∀ ν, gp_rp 1 107 108 109 (m + 1) (tb 1) ν → (∀ c, c ≠ 107 → c ≠ 108 → c ≠ 109 → ν c = μ c) → Q 3 ν) : w_X8_readsComing 101 (nI m) (nI (4 * m)) μ Q := by
  have hbd : ∀ k, k < tn 1 → tb 1 k ≤ 255 := fun k hk => ((ht 1 (by omega)).2.2 k hk).2
  have e1 : nI (4 * m) + 1 = nI (4 * m + 1) := nI_add (4 * m) 1
  have e2 : nI (4 * m) + 2 = nI (4 * m + 2) := nI_add (4 * m) 2
  unfold w_X8_readsComing
  refine s_by (x := 1) ht (by omega) (by omega) ?_
  intro v3 e3
  rw [e1, e2, e3]
  refine s_by (x := 1) ht (by omega) (by omega) ?_
  refine s_by (x := 1) ht (by omega) (by omega) ?_
  intro v8 e8
  rw [e8]
  by_cases c6 : m = 12
  · rw [if_pos (by rw [c6]; decide)]
    refine h0 (Or.inr ?_)
    cases hq : gp_gd 1 (tb 1) (4 * m) with
    | false => rfl
    | true =>
      have := (gp_gd0 (k := m) rfl hq).1
      exact absurd this (by rw [c6]; decide)
  rw [if_neg (show ¬ nI m = 12 from fun q => c6 ((nI_eq (b := 12) (by omega) (by omega)).mp q))]
  unfold w_X8_isMoment
  by_cases p0 : 4 * m < tn 1 ∧ 97 ≤ tb 1 (4 * m) ∧ tb 1 (4 * m) ≤ 120
  · obtain ⟨p1, p2, p3⟩ := p0
    obtain ⟨y1, y2, y3⟩ := by97y p1 p2 p3
    refine s_in_y y1 y2 ⟨Or.inr rfl, ?_⟩
    dsimp only
    rw [if_neg (show ¬ (1 : Int32) = 0 by decide), y3]
    have g0 : gp_gd 1 (tb 1) (4 * m) = true := gp_gd0i (by show m < 12; omega) p2 p3 (fun q => absurd q (by omega))
    have by1 : ∀ v, v < 256 → (gp_by (tn 1) (tb 1) (4 * m + 1) = nI v ↔ 4 * m + 1 < tn 1 ∧ tb 1 (4 * m + 1) = v) := fun v hv => by_eq (hbd _) hv
    have b1 := by1 98 (by omega)
    have b2 := by1 116 (by omega)
    have key : ∀ v : Nat, v = 98 ∨ v = 116 → gp_by (tn 1) (tb 1) (4 * m + 1) = nI v → 4 * m + 1 < tn 1 → tb 1 (4 * m + 1) = v → w_X8_readsComing_j64 Q 101 (nI m) (nI (tb 1 (4 * m) - 97)) (gp_by (tn 1) (tb 1) (4 * m + 1)) (gp_by (tn 1) (tb 1) (4 * m + 2) - 48) μ := by
      intro v hv ev z1 z2
      have hsg : gp_sgn 1 (tb 1 (4 * m + 1)) = if v = 98 then 0 else 1 := by
        rw [z2]
        rcases hv with w | w <;> rw [w] <;> decide
      have g1 : gp_gd 1 (tb 1) (4 * m + 1) = true := by
        rw [gp_gd1i, hsg]
        split <;> decide
      unfold w_X8_readsComing_j64
      by_cases p4 : 4 * m + 2 < tn 1 ∧ 49 ≤ tb 1 (4 * m + 2) ∧ tb 1 (4 * m + 2) ≤ 57
      · obtain ⟨q1, q2, q3⟩ := p4
        obtain ⟨y4, y5, y6⟩ := by48y q1 q2 q3
        refine s_in_y y4 y5 ?_
        have g2 : gp_gd 1 (tb 1) (4 * m + 2) = true := by rw [gp_gd2i, decide_eq_true q2, decide_eq_true q3]; rfl
        rw [if_neg (show ¬ (1 : Int32) = 0 by decide), y6, rf_101_7, rf_101_8, kc (k := m) (by omega), ev]
        refine ⟨vi (n := 13) (by omega) ln_107 (by omega), ?_⟩
        intro m13 e13
        have j101 : ∀ s : Nat, s = gp_sgn 1 (tb 1 (4 * m + 1)) → w_X8_readsComing_j101 Q 101 108 (nI m) (nI (tb 1 (4 * m + 2) - 48)) (nI s) (nI m) m13 := by
          intro s hs
          unfold w_X8_readsComing_j101
          rw [rf_101_9, kc (k := m) (by omega)]
          refine ⟨vi (n := 13) (by omega) ln_108 (by omega), ?_⟩
          intro m14 e14
          refine ⟨vi (n := 13) (by omega) ln_109 (by omega), ?_⟩
          intro m15 e15
          refine h3 q1 g0 g1 g2 m15 (gp_rp_up hrp ?_ ?_ ?_) (fun c a1 a2 a3 => ?_)
          · rw [e15, e14, e13]; simp [gk_up]
          · rw [e15, e14, e13, ← hs]; simp [gk_up]
          · rw [e15, e14, e13]; simp [gk_up]
          · rw [e15, e14, e13]; simp [gk_up, a1, a2, a3]
        rcases hv with w | w
        · rw [if_pos (by rw [w]; decide)]
          exact j101 0 (by rw [hsg, if_pos w])
        · rw [if_neg (by rw [w]; decide)]
          exact j101 1 (by rw [hsg, if_neg (by omega)])
      · refine s_in_n (by48n (hbd _) p4) ?_
        rw [if_pos rfl]
        refine h2 z1 g0 g1 ?_
        by_cases y : 4 * m + 2 < tn 1
        · refine Or.inr ?_
          rw [gp_gd2i]
          by_cases w : 49 ≤ tb 1 (4 * m + 2)
          · rw [decide_eq_false (fun q => p4 ⟨y, w, q⟩), Bool.and_false]
          · rw [decide_eq_false w, Bool.false_and]
        · exact Or.inl y
    by_cases c1 : gp_by (tn 1) (tb 1) (4 * m + 1) = 98
    · rw [if_pos c1]
      exact key 98 (Or.inl rfl) c1 (b1.mp c1).1 (b1.mp c1).2
    rw [if_neg c1]
    by_cases c2 : gp_by (tn 1) (tb 1) (4 * m + 1) = 116
    · rw [if_pos c2]
      exact key 116 (Or.inr rfl) c2 (b2.mp c2).1 (b2.mp c2).2
    rw [if_neg c2]
    refine h1 p1 g0 ?_
    by_cases y : 4 * m + 1 < tn 1
    · refine Or.inr ?_
      have : gp_sgn 1 (tb 1 (4 * m + 1)) = 3 := by
        unfold gp_sgn
        rw [if_neg (by omega), if_neg (fun q => c1 (b1.mpr ⟨y, q⟩)), if_neg (fun q => c2 (b2.mpr ⟨y, q⟩))]
      rw [gp_gd1i, this]
      decide
    · exact Or.inl y
  · refine s_in_n (by97n (hbd _) p0) ⟨Or.inl rfl, ?_⟩
    dsimp only
    rw [if_pos rfl]
    refine h0 ?_
    by_cases y : 4 * m < tn 1
    · refine Or.inr ?_
      cases hq : gp_gd 1 (tb 1) (4 * m) with
      | false => rfl
      | true =>
        have := gp_gd0 (k := m) rfl hq
        exact absurd ⟨y, this.2.1, this.2.2.1⟩ p0
    · exact Or.inl y
theorem gp_mt_f {tn : Nat → Nat} {tb : Nat → Nat → Nat} {μ ν : gk_St} (h1 : ν 102 = μ 102) (h2 : ν 103 = μ 103) (h : gp_mt tn tb μ) : gp_mt tn tb ν := by
  unfold gp_mt
  rw [h1, h2]
  exact h

set_option maxHeartbeats 4000000 in
theorem s_rpL_0 {tn : Nat → Nat} {tb : Nat → Nat → Nat} {Q : Int32 → gk_St → Prop} {K : Int32 → Int32 → gk_St → Prop} : ∀ (i m : Nat) (μ : gk_St), m + i = 6 → gp_mt tn tb μ → gp_rp 0 104 105 106 m (tb 0) μ → (∀ j, j < 4 * m → gp_gd 0 (tb 0) j = true) → (m ≠ 0 → 4 * m ≤ tn 0) → (∀ f ν, gp_isF 0 (tn 0) (tb 0) f → gp_pz 0 (tn 0) (tb 0) = 0 → (∀ c, c ≠ 104 → c ≠ 105 → c ≠ 106 → ν c = μ c) → Q f ν) → (∀ ν, gp_pk 0 (tn 0) (tb 0) = true → gp_rp 0 104 105 106 (gp_pz 0 (tn 0) (tb 0)) (tb 0) ν → (∀ c, c ≠ 104 → c ≠ 105 → c ≠ 106 → ν c = μ c) → K 0 (nI (gp_pz 0 (tn 0) (tb 0))) ν) → w_X8_readsParts_l37 Q K 101 (i + 1) 0 (nI m) (nI (4 * m)) μ := by
  intro i
  induction i with
  | zero =>
    intro m μ hm ht hrp hall hle hq hk
    have hm6 : m = 6 := by omega
    have h47 : tn 0 ≤ 23 := (ht 0 (by omega)).2.1
    have hbb : ∀ k, k < 4 * m → k < tn 0 := fun k hk => by
      have := hle (by omega)
      omega
    have fl : ∀ j, j < tn 0 ∨ (j = tn 0 ∧ tn 0 ≠ 0 ∧ tn 0 % 4 ≠ 3) → (∀ i, i < j → gp_gd 0 (tb 0) i = true) → (j < tn 0 → gp_gd 0 (tb 0) j = false) → ∀ ν, (∀ c, c ≠ 104 → c ≠ 105 → c ≠ 106 → ν c = μ c) → Q (nI j) ν := by
      intro j h1 h2 h3 ν h4
      have hF : gp_isF 0 (tn 0) (tb 0) (nI j) := Or.inr ⟨j, rfl, by omega, h2, by
        rcases h1 with h1 | h1
        · exact Or.inl ⟨h1, h3 h1⟩
        · exact Or.inr h1⟩
      refine hq _ ν hF ?_ h4
      unfold gp_pz
      rw [if_neg (fun q => nI_nm1 (by omega) ((gp_isF_pk (by omega) hF).mpr q))]
    have body : (0 < m ∨ 0 < tn 0) → w_X8_readsParts_j51 Q K (fun c_x1 c_x2 c_x3 cm => w_X8_readsParts_l37 Q K 101 0 c_x1 c_x2 c_x3 cm) 101 0 (nI m) (nI (4 * m)) μ := by
      intro hpos
      unfold w_X8_readsParts_j51
      rw [if_pos rfl]
      refine s_rd_0 ht (by omega) hall hrp hbb (fun a => ?_) (fun a1 a2 a3 => ?_) (fun a1 a2 a3 a4 => ?_) (fun a1 a2 a3 a4 ν b1 b2 => ?_)
      · unfold w_X8_readsParts_j70
        rw [if_neg (by decide)]
        rw [show nI (4 * m) + 0 = nI (4 * m) from nI_add (4 * m) 0]
        refine fl (4 * m) ?_ hall (fun q => a.resolve_left (fun w => w q)) μ (fun _ _ _ _ => rfl)
        by_cases z : 4 * m < tn 0
        · exact Or.inl z
        · refine Or.inr ?_
          by_cases y : m = 0
          · omega
          · have := hle y
            omega
      · unfold w_X8_readsParts_j70
        rw [if_neg (by decide)]
        have e : nI (4 * m) + 1 = nI (4 * m + 1) := nI_add (4 * m) 1
        rw [e]
        refine fl (4 * m + 1) (by omega) (fun i hi => ?_) (fun q => a3.resolve_left (fun w => w q)) μ (fun _ _ _ _ => rfl)
        by_cases z : i < 4 * m
        · exact hall i z
        · rw [show i = 4 * m by omega]
          exact a2
      · unfold w_X8_readsParts_j70
        rw [if_neg (by decide)]
        have e : nI (4 * m) + 2 = nI (4 * m + 2) := nI_add (4 * m) 2
        rw [e]
        refine fl (4 * m + 2) (by omega) (fun i hi => ?_) (fun q => a4.resolve_left (fun w => w q)) μ (fun _ _ _ _ => rfl)
        by_cases z : i < 4 * m
        · exact hall i z
        · rcases (show i = 4 * m ∨ i = 4 * m + 1 by omega) with w | w
          · rw [w]
            exact a2
          · rw [w]
            exact a3
      · have hmM : m < 6 := (gp_gd0 (k := m) rfl a2).1
        have hall3 : ∀ i, i < 4 * m + 3 → gp_gd 0 (tb 0) i = true := fun i hi => by
          by_cases z : i < 4 * m
          · exact hall i z
          · rcases (show i = 4 * m ∨ i = 4 * m + 1 ∨ i = 4 * m + 2 by omega) with w | w | w
            · rw [w]
              exact a2
            · rw [w]
              exact a3
            · rw [w]
              exact a4
        unfold w_X8_readsParts_j70
        rw [if_pos (by decide)]
        intro v5 e5 v6 e6
        have e3 : nI (4 * m) + 3 = nI (4 * m + 3) := nI_add (4 * m) 3
        have htn := gp_mt_f (b2 102 (by omega) (by omega) (by omega)) (b2 103 (by omega) (by omega) (by omega)) ht
        have hl : ν 102 0 = nI (tn 0) := (htn 0 (by omega)).1
        rw [nI_1] at e5
        rw [e3] at e6
        rw [e5, e6, rf_101_0, show ((0 : Int32)).toNatClampNeg = 0 from by decide, hl]
        refine ⟨vi (k := 0) (n := 3) (by omega) ln_102 (by omega), ?_⟩
        by_cases z : 4 * m + 3 = tn 0
        · rw [if_pos (by rw [z])]
          have hpk : gp_pk 0 (tn 0) (tb 0) = true := gp_pk_iff.mpr ⟨fun i hi => hall3 i (by omega), Or.inr (by omega)⟩
          have hpz : gp_pz 0 (tn 0) (tb 0) = m + 1 := by
            unfold gp_pz
            rw [if_pos hpk]
            omega
          rw [← hpz]
          rw [← hpz] at b1
          exact hk ν hpk b1 b2
        · rw [if_neg (fun q => z ((nI_eq (by omega) (by omega)).mp q))]
          refine s_by (x := 0) htn (by omega) (by omega) ?_
          have hby : gp_by (tn 0) (tb 0) (4 * m + 3) = nI (tb 0 (4 * m + 3)) := by
            unfold gp_by
            rw [if_pos (by omega)]
          have h255 := ((ht 0 (by omega)).2.2 (4 * m + 3) (by omega)).2
          rw [hby]
          by_cases y : tb 0 (4 * m + 3) = 59
          · rw [if_pos (by rw [y]; decide)]
            intro v9 e9
            have e4 : nI (4 * m + 3) + 1 = nI (4 * (m + 1)) := nI_add (4 * m + 3) 1
            rw [e9, e4]
            omega
          · rw [if_neg (show ¬ nI (tb 0 (4 * m + 3)) = 59 from fun q => y ((nI_eq (b := 59) (by omega) (by omega)).mp q))]
            refine fl (4 * m + 3) (Or.inl (by omega)) hall3 (fun _ => ?_) ν b2
            rw [gp_gd3i]
            simpa using y
    unfold w_X8_readsParts_l37
    rw [rf_101_0, show ((0 : Int32)).toNatClampNeg = 0 from by decide, (ht 0 (by omega)).1]
    refine ⟨vi (k := 0) (n := 3) (by omega) ln_102 (by omega), ?_⟩
    by_cases z : 4 * m < tn 0
    · rw [if_pos ((nI_ltI (by omega) (by omega)).mpr z)]
      exact body (Or.inr (by omega))
    · rw [if_neg (fun q => z ((nI_ltI (by omega) (by omega)).mp q))]
      by_cases y : m = 0
      · rw [if_pos (by rw [y]; decide)]
        have ht0 : tn 0 = 0 := by omega
        have hF : gp_isF 0 (tn 0) (tb 0) (-1) := Or.inl ⟨rfl, fun i hi => absurd hi (by omega), Or.inl ht0⟩
        refine hq (-1) μ hF ?_ (fun _ _ _ _ => rfl)
        unfold gp_pz
        rw [ht0]
        split <;> rfl
      · rw [if_neg (fun q => y (by have := (nI_le0 (n := 4 * m) (by omega)).mp q; omega))]
        exact body (Or.inl (by omega))
  | succ i ih =>
    intro m μ hm ht hrp hall hle hq hk
    have hm6 : m < 6 := by omega
    have h47 : tn 0 ≤ 23 := (ht 0 (by omega)).2.1
    have hbb : ∀ k, k < 4 * m → k < tn 0 := fun k hk => by
      have := hle (by omega)
      omega
    have fl : ∀ j, j < tn 0 ∨ (j = tn 0 ∧ tn 0 ≠ 0 ∧ tn 0 % 4 ≠ 3) → (∀ i, i < j → gp_gd 0 (tb 0) i = true) → (j < tn 0 → gp_gd 0 (tb 0) j = false) → ∀ ν, (∀ c, c ≠ 104 → c ≠ 105 → c ≠ 106 → ν c = μ c) → Q (nI j) ν := by
      intro j h1 h2 h3 ν h4
      have hF : gp_isF 0 (tn 0) (tb 0) (nI j) := Or.inr ⟨j, rfl, by omega, h2, by
        rcases h1 with h1 | h1
        · exact Or.inl ⟨h1, h3 h1⟩
        · exact Or.inr h1⟩
      refine hq _ ν hF ?_ h4
      unfold gp_pz
      rw [if_neg (fun q => nI_nm1 (by omega) ((gp_isF_pk (by omega) hF).mpr q))]
    have body : (0 < m ∨ 0 < tn 0) → w_X8_readsParts_j51 Q K (fun c_x1 c_x2 c_x3 cm => w_X8_readsParts_l37 Q K 101 (i + 1) c_x1 c_x2 c_x3 cm) 101 0 (nI m) (nI (4 * m)) μ := by
      intro hpos
      unfold w_X8_readsParts_j51
      rw [if_pos rfl]
      refine s_rd_0 ht (by omega) hall hrp hbb (fun a => ?_) (fun a1 a2 a3 => ?_) (fun a1 a2 a3 a4 => ?_) (fun a1 a2 a3 a4 ν b1 b2 => ?_)
      · unfold w_X8_readsParts_j70
        rw [if_neg (by decide)]
        rw [show nI (4 * m) + 0 = nI (4 * m) from nI_add (4 * m) 0]
        refine fl (4 * m) ?_ hall (fun q => a.resolve_left (fun w => w q)) μ (fun _ _ _ _ => rfl)
        by_cases z : 4 * m < tn 0
        · exact Or.inl z
        · refine Or.inr ?_
          by_cases y : m = 0
          · omega
          · have := hle y
            omega
      · unfold w_X8_readsParts_j70
        rw [if_neg (by decide)]
        have e : nI (4 * m) + 1 = nI (4 * m + 1) := nI_add (4 * m) 1
        rw [e]
        refine fl (4 * m + 1) (by omega) (fun i hi => ?_) (fun q => a3.resolve_left (fun w => w q)) μ (fun _ _ _ _ => rfl)
        by_cases z : i < 4 * m
        · exact hall i z
        · rw [show i = 4 * m by omega]
          exact a2
      · unfold w_X8_readsParts_j70
        rw [if_neg (by decide)]
        have e : nI (4 * m) + 2 = nI (4 * m + 2) := nI_add (4 * m) 2
        rw [e]
        refine fl (4 * m + 2) (by omega) (fun i hi => ?_) (fun q => a4.resolve_left (fun w => w q)) μ (fun _ _ _ _ => rfl)
        by_cases z : i < 4 * m
        · exact hall i z
        · rcases (show i = 4 * m ∨ i = 4 * m + 1 by omega) with w | w
          · rw [w]
            exact a2
          · rw [w]
            exact a3
      · have hmM : m < 6 := (gp_gd0 (k := m) rfl a2).1
        have hall3 : ∀ i, i < 4 * m + 3 → gp_gd 0 (tb 0) i = true := fun i hi => by
          by_cases z : i < 4 * m
          · exact hall i z
          · rcases (show i = 4 * m ∨ i = 4 * m + 1 ∨ i = 4 * m + 2 by omega) with w | w | w
            · rw [w]
              exact a2
            · rw [w]
              exact a3
            · rw [w]
              exact a4
        unfold w_X8_readsParts_j70
        rw [if_pos (by decide)]
        intro v5 e5 v6 e6
        have e3 : nI (4 * m) + 3 = nI (4 * m + 3) := nI_add (4 * m) 3
        have htn := gp_mt_f (b2 102 (by omega) (by omega) (by omega)) (b2 103 (by omega) (by omega) (by omega)) ht
        have hl : ν 102 0 = nI (tn 0) := (htn 0 (by omega)).1
        rw [nI_1] at e5
        rw [e3] at e6
        rw [e5, e6, rf_101_0, show ((0 : Int32)).toNatClampNeg = 0 from by decide, hl]
        refine ⟨vi (k := 0) (n := 3) (by omega) ln_102 (by omega), ?_⟩
        by_cases z : 4 * m + 3 = tn 0
        · rw [if_pos (by rw [z])]
          have hpk : gp_pk 0 (tn 0) (tb 0) = true := gp_pk_iff.mpr ⟨fun i hi => hall3 i (by omega), Or.inr (by omega)⟩
          have hpz : gp_pz 0 (tn 0) (tb 0) = m + 1 := by
            unfold gp_pz
            rw [if_pos hpk]
            omega
          rw [← hpz]
          rw [← hpz] at b1
          exact hk ν hpk b1 b2
        · rw [if_neg (fun q => z ((nI_eq (by omega) (by omega)).mp q))]
          refine s_by (x := 0) htn (by omega) (by omega) ?_
          have hby : gp_by (tn 0) (tb 0) (4 * m + 3) = nI (tb 0 (4 * m + 3)) := by
            unfold gp_by
            rw [if_pos (by omega)]
          have h255 := ((ht 0 (by omega)).2.2 (4 * m + 3) (by omega)).2
          rw [hby]
          by_cases y : tb 0 (4 * m + 3) = 59
          · rw [if_pos (by rw [y]; decide)]
            intro v9 e9
            have e4 : nI (4 * m + 3) + 1 = nI (4 * (m + 1)) := nI_add (4 * m + 3) 1
            rw [e9, e4]
            refine ih (m + 1) ν (by omega) htn b1 (fun i hi => ?_) (fun _ => by omega) (fun f ξ r1 r2 r3 => hq f ξ r1 r2 (fun c q1 q2 q3 => (r3 c q1 q2 q3).trans (b2 c q1 q2 q3))) (fun ξ r1 r2 r3 => hk ξ r1 r2 (fun c q1 q2 q3 => (r3 c q1 q2 q3).trans (b2 c q1 q2 q3)))
            by_cases w : i < 4 * m + 3
            · exact hall3 i w
            · rw [show i = 4 * m + 3 by omega, gp_gd3i]
              simpa using y
          · rw [if_neg (show ¬ nI (tb 0 (4 * m + 3)) = 59 from fun q => y ((nI_eq (b := 59) (by omega) (by omega)).mp q))]
            refine fl (4 * m + 3) (Or.inl (by omega)) hall3 (fun _ => ?_) ν b2
            rw [gp_gd3i]
            simpa using y
    unfold w_X8_readsParts_l37
    rw [rf_101_0, show ((0 : Int32)).toNatClampNeg = 0 from by decide, (ht 0 (by omega)).1]
    refine ⟨vi (k := 0) (n := 3) (by omega) ln_102 (by omega), ?_⟩
    by_cases z : 4 * m < tn 0
    · rw [if_pos ((nI_ltI (by omega) (by omega)).mpr z)]
      exact body (Or.inr (by omega))
    · rw [if_neg (fun q => z ((nI_ltI (by omega) (by omega)).mp q))]
      by_cases y : m = 0
      · rw [if_pos (by rw [y]; decide)]
        have ht0 : tn 0 = 0 := by omega
        have hF : gp_isF 0 (tn 0) (tb 0) (-1) := Or.inl ⟨rfl, fun i hi => absurd hi (by omega), Or.inl ht0⟩
        refine hq (-1) μ hF ?_ (fun _ _ _ _ => rfl)
        unfold gp_pz
        rw [ht0]
        split <;> rfl
      · rw [if_neg (fun q => y (by have := (nI_le0 (n := 4 * m) (by omega)).mp q; omega))]
        exact body (Or.inl (by omega))

set_option maxHeartbeats 4000000 in
theorem s_rpL_1 {tn : Nat → Nat} {tb : Nat → Nat → Nat} {Q : Int32 → gk_St → Prop} {K : Int32 → Int32 → gk_St → Prop} : ∀ (i m : Nat) (μ : gk_St), m + i = 12 → gp_mt tn tb μ → gp_rp 1 107 108 109 m (tb 1) μ → (∀ j, j < 4 * m → gp_gd 1 (tb 1) j = true) → (m ≠ 0 → 4 * m ≤ tn 1) → (∀ f ν, gp_isF 1 (tn 1) (tb 1) f → gp_pz 1 (tn 1) (tb 1) = 0 → (∀ c, c ≠ 107 → c ≠ 108 → c ≠ 109 → ν c = μ c) → Q f ν) → (∀ ν, gp_pk 1 (tn 1) (tb 1) = true → gp_rp 1 107 108 109 (gp_pz 1 (tn 1) (tb 1)) (tb 1) ν → (∀ c, c ≠ 107 → c ≠ 108 → c ≠ 109 → ν c = μ c) → K 1 (nI (gp_pz 1 (tn 1) (tb 1))) ν) → w_X8_readsParts_l37 Q K 101 (i + 1) 1 (nI m) (nI (4 * m)) μ := by
  intro i
  induction i with
  | zero =>
    intro m μ hm ht hrp hall hle hq hk
    have hm6 : m = 12 := by omega
    have h47 : tn 1 ≤ 47 := (ht 1 (by omega)).2.1
    have hbb : ∀ k, k < 4 * m → k < tn 1 := fun k hk => by
      have := hle (by omega)
      omega
    have fl : ∀ j, j < tn 1 ∨ (j = tn 1 ∧ tn 1 ≠ 0 ∧ tn 1 % 4 ≠ 3) → (∀ i, i < j → gp_gd 1 (tb 1) i = true) → (j < tn 1 → gp_gd 1 (tb 1) j = false) → ∀ ν, (∀ c, c ≠ 107 → c ≠ 108 → c ≠ 109 → ν c = μ c) → Q (nI j) ν := by
      intro j h1 h2 h3 ν h4
      have hF : gp_isF 1 (tn 1) (tb 1) (nI j) := Or.inr ⟨j, rfl, by omega, h2, by
        rcases h1 with h1 | h1
        · exact Or.inl ⟨h1, h3 h1⟩
        · exact Or.inr h1⟩
      refine hq _ ν hF ?_ h4
      unfold gp_pz
      rw [if_neg (fun q => nI_nm1 (by omega) ((gp_isF_pk (by omega) hF).mpr q))]
    have body : (0 < m ∨ 0 < tn 1) → w_X8_readsParts_j51 Q K (fun c_x1 c_x2 c_x3 cm => w_X8_readsParts_l37 Q K 101 0 c_x1 c_x2 c_x3 cm) 101 1 (nI m) (nI (4 * m)) μ := by
      intro hpos
      unfold w_X8_readsParts_j51
      rw [if_neg (show ¬ (1 : Int32) = 0 by decide)]
      refine s_rd_1 ht (by omega) hall hrp hbb (fun a => ?_) (fun a1 a2 a3 => ?_) (fun a1 a2 a3 a4 => ?_) (fun a1 a2 a3 a4 ν b1 b2 => ?_)
      · unfold w_X8_readsParts_j70
        rw [if_neg (by decide)]
        rw [show nI (4 * m) + 0 = nI (4 * m) from nI_add (4 * m) 0]
        refine fl (4 * m) ?_ hall (fun q => a.resolve_left (fun w => w q)) μ (fun _ _ _ _ => rfl)
        by_cases z : 4 * m < tn 1
        · exact Or.inl z
        · refine Or.inr ?_
          by_cases y : m = 0
          · omega
          · have := hle y
            omega
      · unfold w_X8_readsParts_j70
        rw [if_neg (by decide)]
        have e : nI (4 * m) + 1 = nI (4 * m + 1) := nI_add (4 * m) 1
        rw [e]
        refine fl (4 * m + 1) (by omega) (fun i hi => ?_) (fun q => a3.resolve_left (fun w => w q)) μ (fun _ _ _ _ => rfl)
        by_cases z : i < 4 * m
        · exact hall i z
        · rw [show i = 4 * m by omega]
          exact a2
      · unfold w_X8_readsParts_j70
        rw [if_neg (by decide)]
        have e : nI (4 * m) + 2 = nI (4 * m + 2) := nI_add (4 * m) 2
        rw [e]
        refine fl (4 * m + 2) (by omega) (fun i hi => ?_) (fun q => a4.resolve_left (fun w => w q)) μ (fun _ _ _ _ => rfl)
        by_cases z : i < 4 * m
        · exact hall i z
        · rcases (show i = 4 * m ∨ i = 4 * m + 1 by omega) with w | w
          · rw [w]
            exact a2
          · rw [w]
            exact a3
      · have hmM : m < 12 := (gp_gd0 (k := m) rfl a2).1
        have hall3 : ∀ i, i < 4 * m + 3 → gp_gd 1 (tb 1) i = true := fun i hi => by
          by_cases z : i < 4 * m
          · exact hall i z
          · rcases (show i = 4 * m ∨ i = 4 * m + 1 ∨ i = 4 * m + 2 by omega) with w | w | w
            · rw [w]
              exact a2
            · rw [w]
              exact a3
            · rw [w]
              exact a4
        unfold w_X8_readsParts_j70
        rw [if_pos (by decide)]
        intro v5 e5 v6 e6
        have e3 : nI (4 * m) + 3 = nI (4 * m + 3) := nI_add (4 * m) 3
        have htn := gp_mt_f (b2 102 (by omega) (by omega) (by omega)) (b2 103 (by omega) (by omega) (by omega)) ht
        have hl : ν 102 1 = nI (tn 1) := (htn 1 (by omega)).1
        rw [nI_1] at e5
        rw [e3] at e6
        rw [e5, e6, rf_101_0, show ((1 : Int32)).toNatClampNeg = 1 from by decide, hl]
        refine ⟨vi (k := 1) (n := 3) (by omega) ln_102 (by omega), ?_⟩
        by_cases z : 4 * m + 3 = tn 1
        · rw [if_pos (by rw [z])]
          have hpk : gp_pk 1 (tn 1) (tb 1) = true := gp_pk_iff.mpr ⟨fun i hi => hall3 i (by omega), Or.inr (by omega)⟩
          have hpz : gp_pz 1 (tn 1) (tb 1) = m + 1 := by
            unfold gp_pz
            rw [if_pos hpk]
            omega
          rw [← hpz]
          rw [← hpz] at b1
          exact hk ν hpk b1 b2
        · rw [if_neg (fun q => z ((nI_eq (by omega) (by omega)).mp q))]
          refine s_by (x := 1) htn (by omega) (by omega) ?_
          have hby : gp_by (tn 1) (tb 1) (4 * m + 3) = nI (tb 1 (4 * m + 3)) := by
            unfold gp_by
            rw [if_pos (by omega)]
          have h255 := ((ht 1 (by omega)).2.2 (4 * m + 3) (by omega)).2
          rw [hby]
          by_cases y : tb 1 (4 * m + 3) = 59
          · rw [if_pos (by rw [y]; decide)]
            intro v9 e9
            have e4 : nI (4 * m + 3) + 1 = nI (4 * (m + 1)) := nI_add (4 * m + 3) 1
            rw [e9, e4]
            omega
          · rw [if_neg (show ¬ nI (tb 1 (4 * m + 3)) = 59 from fun q => y ((nI_eq (b := 59) (by omega) (by omega)).mp q))]
            refine fl (4 * m + 3) (Or.inl (by omega)) hall3 (fun _ => ?_) ν b2
            rw [gp_gd3i]
            simpa using y
    unfold w_X8_readsParts_l37
    rw [rf_101_0, show ((1 : Int32)).toNatClampNeg = 1 from by decide, (ht 1 (by omega)).1]
    refine ⟨vi (k := 1) (n := 3) (by omega) ln_102 (by omega), ?_⟩
    by_cases z : 4 * m < tn 1
    · rw [if_pos ((nI_ltI (by omega) (by omega)).mpr z)]
      exact body (Or.inr (by omega))
    · rw [if_neg (fun q => z ((nI_ltI (by omega) (by omega)).mp q))]
      by_cases y : m = 0
      · rw [if_pos (by rw [y]; decide)]
        have ht0 : tn 1 = 0 := by omega
        have hF : gp_isF 1 (tn 1) (tb 1) (-1) := Or.inl ⟨rfl, fun i hi => absurd hi (by omega), Or.inl ht0⟩
        refine hq (-1) μ hF ?_ (fun _ _ _ _ => rfl)
        unfold gp_pz
        rw [ht0]
        split <;> rfl
      · rw [if_neg (fun q => y (by have := (nI_le0 (n := 4 * m) (by omega)).mp q; omega))]
        exact body (Or.inl (by omega))
  | succ i ih =>
    intro m μ hm ht hrp hall hle hq hk
    have hm6 : m < 12 := by omega
    have h47 : tn 1 ≤ 47 := (ht 1 (by omega)).2.1
    have hbb : ∀ k, k < 4 * m → k < tn 1 := fun k hk => by
      have := hle (by omega)
      omega
    have fl : ∀ j, j < tn 1 ∨ (j = tn 1 ∧ tn 1 ≠ 0 ∧ tn 1 % 4 ≠ 3) → (∀ i, i < j → gp_gd 1 (tb 1) i = true) → (j < tn 1 → gp_gd 1 (tb 1) j = false) → ∀ ν, (∀ c, c ≠ 107 → c ≠ 108 → c ≠ 109 → ν c = μ c) → Q (nI j) ν := by
      intro j h1 h2 h3 ν h4
      have hF : gp_isF 1 (tn 1) (tb 1) (nI j) := Or.inr ⟨j, rfl, by omega, h2, by
        rcases h1 with h1 | h1
        · exact Or.inl ⟨h1, h3 h1⟩
        · exact Or.inr h1⟩
      refine hq _ ν hF ?_ h4
      unfold gp_pz
      rw [if_neg (fun q => nI_nm1 (by omega) ((gp_isF_pk (by omega) hF).mpr q))]
    have body : (0 < m ∨ 0 < tn 1) → w_X8_readsParts_j51 Q K (fun c_x1 c_x2 c_x3 cm => w_X8_readsParts_l37 Q K 101 (i + 1) c_x1 c_x2 c_x3 cm) 101 1 (nI m) (nI (4 * m)) μ := by
      intro hpos
      unfold w_X8_readsParts_j51
      rw [if_neg (show ¬ (1 : Int32) = 0 by decide)]
      refine s_rd_1 ht (by omega) hall hrp hbb (fun a => ?_) (fun a1 a2 a3 => ?_) (fun a1 a2 a3 a4 => ?_) (fun a1 a2 a3 a4 ν b1 b2 => ?_)
      · unfold w_X8_readsParts_j70
        rw [if_neg (by decide)]
        rw [show nI (4 * m) + 0 = nI (4 * m) from nI_add (4 * m) 0]
        refine fl (4 * m) ?_ hall (fun q => a.resolve_left (fun w => w q)) μ (fun _ _ _ _ => rfl)
        by_cases z : 4 * m < tn 1
        · exact Or.inl z
        · refine Or.inr ?_
          by_cases y : m = 0
          · omega
          · have := hle y
            omega
      · unfold w_X8_readsParts_j70
        rw [if_neg (by decide)]
        have e : nI (4 * m) + 1 = nI (4 * m + 1) := nI_add (4 * m) 1
        rw [e]
        refine fl (4 * m + 1) (by omega) (fun i hi => ?_) (fun q => a3.resolve_left (fun w => w q)) μ (fun _ _ _ _ => rfl)
        by_cases z : i < 4 * m
        · exact hall i z
        · rw [show i = 4 * m by omega]
          exact a2
      · unfold w_X8_readsParts_j70
        rw [if_neg (by decide)]
        have e : nI (4 * m) + 2 = nI (4 * m + 2) := nI_add (4 * m) 2
        rw [e]
        refine fl (4 * m + 2) (by omega) (fun i hi => ?_) (fun q => a4.resolve_left (fun w => w q)) μ (fun _ _ _ _ => rfl)
        by_cases z : i < 4 * m
        · exact hall i z
        · rcases (show i = 4 * m ∨ i = 4 * m + 1 by omega) with w | w
          · rw [w]
            exact a2
          · rw [w]
            exact a3
      · have hmM : m < 12 := (gp_gd0 (k := m) rfl a2).1
        have hall3 : ∀ i, i < 4 * m + 3 → gp_gd 1 (tb 1) i = true := fun i hi => by
          by_cases z : i < 4 * m
          · exact hall i z
          · rcases (show i = 4 * m ∨ i = 4 * m + 1 ∨ i = 4 * m + 2 by omega) with w | w | w
            · rw [w]
              exact a2
            · rw [w]
              exact a3
            · rw [w]
              exact a4
        unfold w_X8_readsParts_j70
        rw [if_pos (by decide)]
        intro v5 e5 v6 e6
        have e3 : nI (4 * m) + 3 = nI (4 * m + 3) := nI_add (4 * m) 3
        have htn := gp_mt_f (b2 102 (by omega) (by omega) (by omega)) (b2 103 (by omega) (by omega) (by omega)) ht
        have hl : ν 102 1 = nI (tn 1) := (htn 1 (by omega)).1
        rw [nI_1] at e5
        rw [e3] at e6
        rw [e5, e6, rf_101_0, show ((1 : Int32)).toNatClampNeg = 1 from by decide, hl]
        refine ⟨vi (k := 1) (n := 3) (by omega) ln_102 (by omega), ?_⟩
        by_cases z : 4 * m + 3 = tn 1
        · rw [if_pos (by rw [z])]
          have hpk : gp_pk 1 (tn 1) (tb 1) = true := gp_pk_iff.mpr ⟨fun i hi => hall3 i (by omega), Or.inr (by omega)⟩
          have hpz : gp_pz 1 (tn 1) (tb 1) = m + 1 := by
            unfold gp_pz
            rw [if_pos hpk]
            omega
          rw [← hpz]
          rw [← hpz] at b1
          exact hk ν hpk b1 b2
        · rw [if_neg (fun q => z ((nI_eq (by omega) (by omega)).mp q))]
          refine s_by (x := 1) htn (by omega) (by omega) ?_
          have hby : gp_by (tn 1) (tb 1) (4 * m + 3) = nI (tb 1 (4 * m + 3)) := by
            unfold gp_by
            rw [if_pos (by omega)]
          have h255 := ((ht 1 (by omega)).2.2 (4 * m + 3) (by omega)).2
          rw [hby]
          by_cases y : tb 1 (4 * m + 3) = 59
          · rw [if_pos (by rw [y]; decide)]
            intro v9 e9
            have e4 : nI (4 * m + 3) + 1 = nI (4 * (m + 1)) := nI_add (4 * m + 3) 1
            rw [e9, e4]
            refine ih (m + 1) ν (by omega) htn b1 (fun i hi => ?_) (fun _ => by omega) (fun f ξ r1 r2 r3 => hq f ξ r1 r2 (fun c q1 q2 q3 => (r3 c q1 q2 q3).trans (b2 c q1 q2 q3))) (fun ξ r1 r2 r3 => hk ξ r1 r2 (fun c q1 q2 q3 => (r3 c q1 q2 q3).trans (b2 c q1 q2 q3)))
            by_cases w : i < 4 * m + 3
            · exact hall3 i w
            · rw [show i = 4 * m + 3 by omega, gp_gd3i]
              simpa using y
          · rw [if_neg (show ¬ nI (tb 1 (4 * m + 3)) = 59 from fun q => y ((nI_eq (b := 59) (by omega) (by omega)).mp q))]
            refine fl (4 * m + 3) (Or.inl (by omega)) hall3 (fun _ => ?_) ν b2
            rw [gp_gd3i]
            simpa using y
    unfold w_X8_readsParts_l37
    rw [rf_101_0, show ((1 : Int32)).toNatClampNeg = 1 from by decide, (ht 1 (by omega)).1]
    refine ⟨vi (k := 1) (n := 3) (by omega) ln_102 (by omega), ?_⟩
    by_cases z : 4 * m < tn 1
    · rw [if_pos ((nI_ltI (by omega) (by omega)).mpr z)]
      exact body (Or.inr (by omega))
    · rw [if_neg (fun q => z ((nI_ltI (by omega) (by omega)).mp q))]
      by_cases y : m = 0
      · rw [if_pos (by rw [y]; decide)]
        have ht0 : tn 1 = 0 := by omega
        have hF : gp_isF 1 (tn 1) (tb 1) (-1) := Or.inl ⟨rfl, fun i hi => absurd hi (by omega), Or.inl ht0⟩
        refine hq (-1) μ hF ?_ (fun _ _ _ _ => rfl)
        unfold gp_pz
        rw [ht0]
        split <;> rfl
      · rw [if_neg (fun q => y (by have := (nI_le0 (n := 4 * m) (by omega)).mp q; omega))]
        exact body (Or.inl (by omega))

set_option maxHeartbeats 4000000 in
theorem s_rparts_0 {tn : Nat → Nat} {tb : Nat → Nat → Nat} {μ : gk_St} (ht : gp_mt tn tb μ) {Q : Int32 → gk_St → Prop} (h : ∀ f ν, gp_isF 0 (tn 0) (tb 0) f → ν 101 2 = nI (gp_pz 0 (tn 0) (tb 0)) → gp_rp 0 104 105 106 (gp_pz 0 (tn 0) (tb 0)) (tb 0) ν → (∀ c, c ≠ 101 → c ≠ 104 → c ≠ 105 → c ≠ 106 → ν c = μ c) → (∀ j, j ≠ 2 → ν 101 j = μ 101 j) → Q f ν) : w_X8_readsParts 101 0 μ Q := by
  unfold w_X8_readsParts
  rw [if_pos rfl]
  unfold w_X8_readsParts_j17
  intro m1 e1
  rw [if_neg (by decide)]
  intro m2 e2
  have f1 : ∀ c, c ≠ 101 → m2 c = μ c := fun c a => by rw [e2, e1]; simp [gk_up, a]
  have f2 : ∀ j, j ≠ 2 → m2 101 j = μ 101 j := fun j a => by
    rw [e2, e1]
    by_cases q : j = 6
    · subst q
      simp [gk_up, upd]
    · simp [gk_up, upd, a, q]
  have g2 : m2 101 2 = 0 := by rw [e2, e1]; simp [gk_up, upd]
  refine ⟨7, ?_⟩
  refine s_rpL_0 6 0 m2 (by omega) (gp_mt_f (f1 102 (by omega)) (f1 103 (by omega)) ht) (fun k hk => absurd hk (Nat.not_lt_zero k)) (fun j hj => absurd hj (Nat.not_lt_zero j)) (fun q => absurd rfl q) (fun f ν r1 r2 r3 => ?_) (fun ν r1 r2 r3 => ?_)
  · refine h f ν r1 ?_ (by rw [r2]; exact fun k hk => absurd hk (Nat.not_lt_zero k)) (fun c a1 a2 a3 a4 => (r3 c a2 a3 a4).trans (f1 c a1)) (fun j a => by rw [r3 101 (by omega) (by omega) (by omega)]; exact f2 j a)
    rw [r3 101 (by omega) (by omega) (by omega), g2, r2]
    rfl
  · rw [if_pos rfl]
    unfold w_X8_readsParts_j112
    intro m15 e15
    rw [if_neg (by decide)]
    intro m16 e16
    have k1 : ∀ c, c ≠ 101 → m16 c = ν c := fun c a => by rw [e16, e15]; simp [gk_up, a]
    refine h (-1) m16 (Or.inl ⟨rfl, (gp_pk_iff.mp r1).1, (gp_pk_iff.mp r1).2⟩) (by rw [e16, e15]; simp [gk_up, upd]) ?_ (fun c a1 a2 a3 a4 => (k1 c a1).trans ((r3 c a2 a3 a4).trans (f1 c a1))) (fun j a => ?_)
    · unfold gp_rp
      rw [k1 104 (by omega), k1 105 (by omega), k1 106 (by omega)]
      exact r2
    · rw [← f2 j a, ← r3 101 (by omega) (by omega) (by omega), e16, e15]
      by_cases q : j = 6
      · subst q
        simp [gk_up, upd]
      · simp [gk_up, upd, a, q]
set_option maxHeartbeats 4000000 in
theorem s_rparts_1 {tn : Nat → Nat} {tb : Nat → Nat → Nat} {μ : gk_St} (ht : gp_mt tn tb μ) {Q : Int32 → gk_St → Prop} (h : ∀ f ν, gp_isF 1 (tn 1) (tb 1) f → ν 101 6 = nI (gp_pz 1 (tn 1) (tb 1)) → gp_rp 1 107 108 109 (gp_pz 1 (tn 1) (tb 1)) (tb 1) ν → (∀ c, c ≠ 101 → c ≠ 107 → c ≠ 108 → c ≠ 109 → ν c = μ c) → (∀ j, j ≠ 6 → ν 101 j = μ 101 j) → Q f ν) : w_X8_readsParts 101 1 μ Q := by
  unfold w_X8_readsParts
  rw [if_neg (by decide)]
  unfold w_X8_readsParts_j17
  intro m1 e1
  rw [if_pos rfl]
  intro m2 e2
  have f1 : ∀ c, c ≠ 101 → m2 c = μ c := fun c a => by rw [e2, e1]; simp [gk_up, a]
  have f2 : ∀ j, j ≠ 6 → m2 101 j = μ 101 j := fun j a => by
    rw [e2, e1]
    by_cases q : j = 2
    · subst q
      simp [gk_up, upd]
    · simp [gk_up, upd, a, q]
  have g2 : m2 101 6 = 0 := by rw [e2, e1]; simp [gk_up, upd]
  refine ⟨13, ?_⟩
  refine s_rpL_1 12 0 m2 (by omega) (gp_mt_f (f1 102 (by omega)) (f1 103 (by omega)) ht) (fun k hk => absurd hk (Nat.not_lt_zero k)) (fun j hj => absurd hj (Nat.not_lt_zero j)) (fun q => absurd rfl q) (fun f ν r1 r2 r3 => ?_) (fun ν r1 r2 r3 => ?_)
  · refine h f ν r1 ?_ (by rw [r2]; exact fun k hk => absurd hk (Nat.not_lt_zero k)) (fun c a1 a2 a3 a4 => (r3 c a2 a3 a4).trans (f1 c a1)) (fun j a => by rw [r3 101 (by omega) (by omega) (by omega)]; exact f2 j a)
    rw [r3 101 (by omega) (by omega) (by omega), g2, r2]
    rfl
  · rw [if_neg (by decide)]
    unfold w_X8_readsParts_j112
    intro m15 e15
    rw [if_pos rfl]
    intro m16 e16
    have k1 : ∀ c, c ≠ 101 → m16 c = ν c := fun c a => by rw [e16, e15]; simp [gk_up, a]
    refine h (-1) m16 (Or.inl ⟨rfl, (gp_pk_iff.mp r1).1, (gp_pk_iff.mp r1).2⟩) (by rw [e16, e15]; simp [gk_up, upd]) ?_ (fun c a1 a2 a3 a4 => (k1 c a1).trans ((r3 c a2 a3 a4).trans (f1 c a1))) (fun j a => ?_)
    · unfold gp_rp
      rw [k1 107 (by omega), k1 108 (by omega), k1 109 (by omega)]
      exact r2
    · rw [← f2 j a, ← r3 101 (by omega) (by omega) (by omega), e16, e15]
      by_cases q : j = 2
      · subst q
        simp [gk_up, upd]
      · simp [gk_up, upd, a, q]
