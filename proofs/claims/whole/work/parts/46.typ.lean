/-! type, wipe, undo -/
theorem rg (x : Int32) (m : Nat) (hm : m < 1000000) : (∃ j, j ≤ m ∧ x = nI j) ∨ (x < 0 ∨ nI m < x) := by
  rcases pk_ix x (n := m + 1) (by omega) with h | h | ⟨j, h1, h2⟩
  · exact Or.inr (Or.inl h)
  · exact Or.inr (Or.inr (Int32.lt_of_lt_of_le (nI_lt (by omega) (by omega)) h))
  · exact Or.inl ⟨j, by omega, h2⟩
theorem s_w_y {x lo hi : Int32} {μ : gk_St} {Q : Int32 → gk_St → Prop} (h1 : ¬ x < lo) (h2 : ¬ hi < x) (h : Q 1 μ) : w_X7_within x lo hi μ Q := by
  unfold w_X7_within
  rw [if_neg h1, if_neg h2]
  exact h
theorem s_w_n {x lo hi : Int32} {μ : gk_St} {Q : Int32 → gk_St → Prop} (h1 : x < lo ∨ hi < x) (h : Q 0 μ) : w_X7_within x lo hi μ Q := by
  unfold w_X7_within
  by_cases c : x < lo
  · rw [if_pos c]
    exact h
  · rw [if_neg c, if_pos (h1.resolve_left c)]
    exact h
theorem s_wi {j m : Nat} (hm : m < 1000000) (hj : j ≤ m) {μ : gk_St} {Q : Int32 → gk_St → Prop} (h : Q 1 μ) : w_X7_within (nI j) 0 (nI m) μ Q := s_w_y (nI_pos (by omega)) (nI_nlt hj (by omega)) h
theorem s_ii {j m : Nat} (hm : m < 1000000) (hj : j ≤ m) {μ : gk_St} {Q : Int32 → gk_St → Prop} (h : Q 1 μ) : w_X8_in (nI j) 0 (nI m) μ Q := s_in_y (nI_pos (by omega)) (nI_nlt hj (by omega)) h
theorem i1n0 : ¬ (1 : Int32) = 0 := by decide
theorem nr_ne {x : Int32} {m : Nat} (hm : m < 1000000) (h : x < 0 ∨ nI m < x) {j : Nat} (hj : j ≤ m) : ¬ x = nI j := by
  intro e
  rw [e] at h
  rcases h with h | h
  · exact nI_pos (by omega) h
  · exact nI_nlt hj (by omega) h
def c_tx (C : gp_C) (x n : Nat) (b : Nat → Nat) : gp_C := ((gp_u (c_tn C) x n, gp_u (c_tb C) x b), C.2)
theorem s_textOf {x : Nat} (hx : x < 3) {μ : gk_St} {Q : Option Nat → gk_St → Prop} (h : Q (some (1 + 2 * x)) μ) : w_X7_textOf 0 (nI x) μ Q := by
  unfold w_X7_textOf
  rw [rf_0_0, rf_0_1, rf_0_2]
  rcases (show x = 0 ∨ x = 1 ∨ x = 2 by omega) with z | z | z
  · subst z
    rw [if_pos (by decide)]
    exact h
  · subst z
    rw [if_neg (by decide), if_pos (by decide)]
    exact h
  · subst z
    rw [if_neg (by decide), if_neg (by decide), if_pos (by decide)]
    exact h
theorem s_textOf_n {x : Int32} (hx : x < 0 ∨ nI 2 < x) {μ : gk_St} {Q : Option Nat → gk_St → Prop} (h : Q none μ) : w_X7_textOf 0 x μ Q := by
  unfold w_X7_textOf
  rw [if_neg (show ¬ x = 0 from nr_ne (by omega) hx (j := 0) (by omega)), if_neg (show ¬ x = 1 from nr_ne (by omega) hx (j := 1) (by omega)), if_neg (show ¬ x = 2 from nr_ne (by omega) hx (j := 2) (by omega))]
  exact h
set_option maxHeartbeats 4000000 in
theorem s_fsL {n : Nat} (hn : n ≤ 24) {b : Nat → Nat} {μ : gk_St} (hl : μ 5 2 = nI n) (hb : ∀ k, k < n → μ 6 k = nI (b k) ∧ b k ≤ 255) {Q : Int32 → gk_St → Prop} {K : gk_St → Prop} (hq : ∀ j, j < n → (∀ i, i < j → gp_sg b i = true) → gp_sg b j = false → Q (nI j) μ) (hk : (∀ i, i < n → gp_sg b i = true) → K μ) : ∀ (i j : Nat), j + i = n → (∀ i, i < j → gp_sg b i = true) → w_X7_faultOfSpeed_l2 Q K 0 (i + 1) (nI j) μ := by
  intro i
  induction i with
  | zero =>
    intro j hj h
    have e : j = n := by omega
    subst e
    unfold w_X7_faultOfSpeed_l2
    rw [rf_0_2, hl, if_pos (Int32.le_refl _)]
    exact hk h
  | succ i ih =>
    intro j hj h
    have g2 := (hb j (by omega)).2
    unfold w_X7_faultOfSpeed_l2
    rw [rf_0_2, rf_5_0, hl, if_neg (fun z => absurd ((nI_leI (by omega) (by omega)).mp z) (by omega)), kc (k := j) (by omega), (hb j (by omega)).1]
    refine ⟨vi (n := 47) (by omega) ln_6 (by omega), ?_⟩
    refine s_wv (a := 48) (c := 51) (by omega) (by omega) (by omega) ?_
    have e : (decide (48 ≤ b j) && decide (b j ≤ 51)) = gp_sg b j := rfl
    rw [e]
    cases c : gp_sg b j with
    | false =>
      rw [if_pos (show gp_bi false = 0 from rfl)]
      exact hq j (by omega) h c
    | true =>
      rw [if_neg (show ¬ gp_bi true = 0 by decide)]
      intro v e
      rw [e, nI_1]
      refine ih (j + 1) (by omega) (fun i hi => ?_)
      by_cases z : i = j
      · rw [z]
        exact c
      · exact h i (by omega)
theorem s_fs {n : Nat} (hn : n ≤ 24) {b : Nat → Nat} {μ : gk_St} (hl : μ 5 2 = nI n) (hb : ∀ k, k < n → μ 6 k = nI (b k) ∧ b k ≤ 255) {Q : Int32 → gk_St → Prop} (h : ∀ f, gp_isS n b f → Q f μ) : w_X7_faultOfSpeed 0 μ Q := by
  unfold w_X7_faultOfSpeed
  exact ⟨n + 1, s_fsL hn hl hb (fun j a1 a2 a3 => h _ (Or.inr ⟨j, rfl, a1, a2, a3⟩)) (fun a => h _ (Or.inl ⟨rfl, a⟩)) n 0 (by omega) (fun i hi => absurd hi (Nat.not_lt_zero i))⟩
set_option maxHeartbeats 4000000 in
theorem s_chg {C : gp_C} {x n' : Nat} {b' : Nat → Nat} {μ0 μ : gk_St} (hx : x < 3) (hk : gp_K C μ0) (hn : n' ≤ gp_lm x) (hb : ∀ k, k < n' → b' k ≤ 255) (h1 : μ (1 + 2 * x) 1 = μ0 (1 + 2 * x) 1) (h2 : μ (1 + 2 * x) 2 = nI n') (h3 : ∀ k, k < n' → μ (2 + 2 * x) k = nI (b' k)) (h4 : ∀ c, c ≠ 1 + 2 * x → c ≠ 2 + 2 * x → μ c = μ0 c) {Q : gk_St → Prop} (h : ∀ ν, gp_kc (c_tx C x n' b') ν → (∀ c, 101 ≤ c → ν c = μ0 c) → ν (1 + 2 * x) 2 = nI n' → Q ν) : w_X7_readAgain 0 (nI x) μ Q := by
  obtain ⟨kT, t0, t1, tS⟩ := hk.2.1.1
  have kT' : gp_kT (c_tx C x n' b') μ := by
    intro y hy
    by_cases e : y = x
    · subst e
      refine ⟨by rw [h1]; exact (kT y hy).1, ?_, ?_⟩
      · show _ = nI (gp_u (c_tn C) y n' y)
        rw [gp_us]
        exact h2
      · show ∀ k, k < gp_u (c_tn C) y n' y → _ = nI (gp_u (c_tb C) y b' y k)
        rw [gp_us, gp_us]
        exact h3
    · rw [h4 (1 + 2 * y) (by omega) (by omega), h4 (2 + 2 * y) (by omega) (by omega)]
      have : c_tn (c_tx C x n' b') y = c_tn C y := gp_un e
      have h9 : c_tb (c_tx C x n' b') y = c_tb C y := gp_un e
      rw [this, h9]
      exact kT y hy
  have fin : ∀ ν, gp_kA (c_tx C x n' b') ν → ν 0 16 = 1 → (∀ c, c ≠ 0 → (c < 7 ∨ 14 < c) → ν c = μ c) → (∀ j, j ≠ 15 → j ≠ 16 → ν 0 j = μ 0 j) → Q ν := by
    intro ν a1 a2 a3 a4
    refine h ν ⟨a1, ?_, ?_, ?_, ?_, fun q => ?_⟩ (fun c hc => (a3 c (by omega) (by omega)).trans (h4 c (by omega) (by omega))) ?_
    · exact gp_kE_f (C := C) (fun c p q => (a3 c (by omega) (by omega)).trans (h4 c (by omega) (by omega))) hk.2.1.2.1
    · exact gp_kS_f (C := C) (fun c p q => (a3 c (by omega) (by omega)).trans (h4 c (by omega) (by omega))) hk.2.1.2.2.1
    · exact gp_kH_f (C := C) (fun c p q => (a3 c (by omega) (by omega)).trans (h4 c (by omega) (by omega))) hk.2.1.2.2.2.1
    · rw [a4 17 (by omega) (by omega), h4 0 (by omega) (by omega)]
      exact hk.2.1.2.2.2.2.1
    · rw [a2] at q
      exact absurd q (by decide)
    · rw [a3 (1 + 2 * x) (by omega) (by omega)]
      exact h2
  unfold w_X7_readAgain
  rw [rf_0_3, rf_0_0]
  rcases (show x = 0 ∨ x = 1 ∨ x = 2 by omega) with z | z | z
  · subst z
    rw [if_pos (by decide)]
    have hn23 : n' ≤ 23 := hn
    refine s_parse_0 (n := n') (b := b') (by omega) h2 (fun k hk2 => ⟨h3 k hk2, hb k hk2⟩) (by rw [h4 7 (by omega) (by omega)]; exact t0.1) (by rw [h4 7 (by omega) (by omega)]; exact t0.2.1) (fun ν p1 p2 => ?_)
    unfold w_X7_readAgain_j15
    rw [if_neg (by decide)]
    unfold w_X7_readAgain_j31
    rw [if_neg (by decide)]
    intro m1 e1
    have f1 : ∀ c, c ≠ 0 → m1 c = ν c := fun c q => by rw [e1]; simp [gk_up, q]
    have f2 : ∀ j, j ≠ 16 → m1 0 j = ν 0 j := fun j q => by rw [e1]; simp [gk_up, upd, q]
    refine fin m1 ⟨gp_kT_f (fun c p q => by rw [f1 c (by omega), p2 c (by omega) (by omega) (by omega) (by omega)]) kT', ?_, ?_, ?_⟩ (by rw [e1]; simp [gk_up, upd]) (fun c p q => by rw [f1 c p, p2 c (by omega) (by omega) (by omega) (by omega)]) (fun j p q => by rw [f2 j q, p2 0 (by omega) (by omega) (by omega) (by omega)])
    · unfold gp_tr_0
      rw [f1 7 (by omega), f1 8 (by omega), f1 9 (by omega), f1 10 (by omega)]
      exact p1
    · unfold gp_tr_1
      rw [f1 11 (by omega), f1 12 (by omega), f1 13 (by omega), f1 14 (by omega), p2 11 (by omega) (by omega) (by omega) (by omega), p2 12 (by omega) (by omega) (by omega) (by omega), p2 13 (by omega) (by omega) (by omega) (by omega), p2 14 (by omega) (by omega) (by omega) (by omega), h4 11 (by omega) (by omega), h4 12 (by omega) (by omega), h4 13 (by omega) (by omega), h4 14 (by omega) (by omega)]
      exact t1
    · rw [f2 15 (by omega), p2 0 (by omega) (by omega) (by omega) (by omega), h4 0 (by omega) (by omega)]
      exact tS
  · subst z
    rw [if_neg (by decide)]
    unfold w_X7_readAgain_j15
    rw [if_pos (by decide), rf_0_4, rf_0_1]
    have hn23 : n' ≤ 47 := hn
    refine s_parse_1 (n := n') (b := b') (by omega) h2 (fun k hk2 => ⟨h3 k hk2, hb k hk2⟩) (by rw [h4 11 (by omega) (by omega)]; exact t1.1) (by rw [h4 11 (by omega) (by omega)]; exact t1.2.1) (fun ν p1 p2 => ?_)
    unfold w_X7_readAgain_j31
    rw [if_neg (by decide)]
    intro m1 e1
    have f1 : ∀ c, c ≠ 0 → m1 c = ν c := fun c q => by rw [e1]; simp [gk_up, q]
    have f2 : ∀ j, j ≠ 16 → m1 0 j = ν 0 j := fun j q => by rw [e1]; simp [gk_up, upd, q]
    refine fin m1 ⟨gp_kT_f (fun c p q => by rw [f1 c (by omega), p2 c (by omega) (by omega) (by omega) (by omega)]) kT', ?_, ?_, ?_⟩ (by rw [e1]; simp [gk_up, upd]) (fun c p q => by rw [f1 c p, p2 c (by omega) (by omega) (by omega) (by omega)]) (fun j p q => by rw [f2 j q, p2 0 (by omega) (by omega) (by omega) (by omega)])
    · unfold gp_tr_0
      rw [f1 7 (by omega), f1 8 (by omega), f1 9 (by omega), f1 10 (by omega), p2 7 (by omega) (by omega) (by omega) (by omega), p2 8 (by omega) (by omega) (by omega) (by omega), p2 9 (by omega) (by omega) (by omega) (by omega), p2 10 (by omega) (by omega) (by omega) (by omega), h4 7 (by omega) (by omega), h4 8 (by omega) (by omega), h4 9 (by omega) (by omega), h4 10 (by omega) (by omega)]
      exact t0
    · unfold gp_tr_1
      rw [f1 11 (by omega), f1 12 (by omega), f1 13 (by omega), f1 14 (by omega)]
      exact p1
    · rw [f2 15 (by omega), p2 0 (by omega) (by omega) (by omega) (by omega), h4 0 (by omega) (by omega)]
      exact tS
  · subst z
    rw [if_neg (by decide)]
    unfold w_X7_readAgain_j15
    rw [if_neg (by decide)]
    unfold w_X7_readAgain_j31
    rw [if_pos (by decide)]
    refine s_fs (n := n') (b := b') hn h2 (fun k hk2 => ⟨h3 k hk2, hb k hk2⟩) (fun f hf => ?_)
    intro m4 e4 m5 e5
    have f1 : ∀ c, c ≠ 0 → m5 c = μ c := fun c q => by rw [e5, e4]; simp [gk_up, q]
    have f2 : ∀ j, j ≠ 15 → j ≠ 16 → m5 0 j = μ 0 j := fun j p q => by rw [e5, e4]; simp [gk_up, upd, p, q]
    refine fin m5 ⟨gp_kT_f (fun c p q => f1 c (by omega)) kT', ?_, ?_, ?_⟩ (by rw [e5]; simp [gk_up, upd]) (fun c p q => f1 c p) f2
    · unfold gp_tr_0
      rw [f1 7 (by omega), f1 8 (by omega), f1 9 (by omega), f1 10 (by omega), h4 7 (by omega) (by omega), h4 8 (by omega) (by omega), h4 9 (by omega) (by omega), h4 10 (by omega) (by omega)]
      exact t0
    · unfold gp_tr_1
      rw [f1 11 (by omega), f1 12 (by omega), f1 13 (by omega), f1 14 (by omega), h4 11 (by omega) (by omega), h4 12 (by omega) (by omega), h4 13 (by omega) (by omega), h4 14 (by omega) (by omega)]
      exact t1
    · have : m5 0 15 = f := by rw [e5, e4]; simp [gk_up, upd]
      rw [this]
      exact hf
/-- the reference's side of a text that changed -/
theorem m_chg {C : gp_C} {x n' : Nat} {b' : Nat → Nat} {ν ξ : gk_St} (hx : x < 3) (hC : gp_cw C) (hn : n' ≤ gp_lm x) (hb : ∀ k, k < n' → b' k ≤ 255) (hc : gp_kc (c_tx C x n' b') ν) (hm : gp_km C ν) (h1 : ξ 102 = upd (ν 102) x (nI n')) (h2 : ∀ k, k < n' → ξ 103 (47 * x + k) = nI (b' k)) (h3 : ∀ y, y < 3 → y ≠ x → ∀ k, k < 47 → ξ 103 (47 * y + k) = ν 103 (47 * y + k)) (h4 : ∀ c, c ≠ 102 → c ≠ 103 → ξ c = ν c) : gp_Inv ξ := by
  refine ⟨c_tx C x n' b', ⟨fun y hy => ?_, hC.2.1, hC.2.2.1, hC.2.2.2⟩, gp_kc_f (fun c p => h4 c (by omega) (by omega)) hc, fun y hy => ?_, ?_, ?_, ?_, ?_⟩
  · by_cases e : y = x
    · subst e
      refine ⟨?_, ?_⟩
      · show gp_u (c_tn C) y n' y ≤ _
        rw [gp_us]
        exact hn
      · show ∀ k, k < gp_u (c_tn C) y n' y → gp_u (c_tb C) y b' y k ≤ 255
        rw [gp_us, gp_us]
        exact hb
    · have h8 : c_tn (c_tx C x n' b') y = c_tn C y := gp_un e
      have h9 : c_tb (c_tx C x n' b') y = c_tb C y := gp_un e
      rw [h8, h9]
      exact hC.1 y hy
  · by_cases e : y = x
    · subst e
      have h8 : c_tn (c_tx C y n' b') y = n' := gp_us
      have h9 : c_tb (c_tx C y n' b') y = b' := gp_us
      rw [h8, h9, h1, upd_s]
      exact ⟨rfl, hn, fun k hk => ⟨h2 k hk, hb k hk⟩⟩
    · have h8 : c_tn (c_tx C x n' b') y = c_tn C y := gp_un e
      have h9 : c_tb (c_tx C x n' b') y = c_tb C y := gp_un e
      obtain ⟨q1, q2, q3⟩ := hm.1 y hy
      rw [h8, h9, h1, upd_n e]
      have h47 := gp_lm47 (x := y)
      exact ⟨q1, q2, fun k hk => by rw [h3 y hy e k (by omega)]; exact q3 k hk⟩
  · unfold gp_mE
    rw [h4 101 (by omega) (by omega), h4 111 (by omega) (by omega), h4 112 (by omega) (by omega), h4 113 (by omega) (by omega)]
    exact hm.2.1
  · unfold gp_mS
    rw [h4 101 (by omega) (by omega), h4 126 (by omega) (by omega), h4 127 (by omega) (by omega), h4 128 (by omega) (by omega)]
    exact hm.2.2.1
  · unfold gp_mH
    rw [h4 130 (by omega) (by omega), h4 131 (by omega) (by omega), h4 132 (by omega) (by omega), h4 133 (by omega) (by omega)]
    exact hm.2.2.2.1
  · rw [h4 101 (by omega) (by omega)]
    exact hm.2.2.2.2
theorem m_isText {x : Nat} (hx : x < 3) {μ : gk_St} {Q : Int32 → gk_St → Prop} (h : Q 1 μ) : w_X8_isText (nI x) μ Q := s_ii (m := 2) (by omega) (by omega) ⟨Or.inr rfl, h⟩
theorem m_isText_n {x : Int32} (hx : x < 0 ∨ nI 2 < x) {μ : gk_St} {Q : Int32 → gk_St → Prop} (h : Q 0 μ) : w_X8_isText x μ Q := s_in_n hx ⟨Or.inl rfl, h⟩
theorem e47 (x k : Nat) : (47 : Int32) * nI x + nI k = nI (47 * x + k) := by
  have : (47 : Int32) * nI x = nI (47 * x) := pk_mul 47 x
  rw [this, nI_add]
theorem m_roomOf {x : Nat} (hx : x < 3) {μ : gk_St} {Q : Int32 → gk_St → Prop} (h : Q (nI (gp_lm x)) μ) : w_X8_roomOf (nI x) μ Q := by
  unfold w_X8_roomOf
  rcases (show x = 0 ∨ x = 1 ∨ x = 2 by omega) with z | z | z
  · subst z
    rw [if_pos (by decide)]
    exact h
  · subst z
    rw [if_neg (by decide), if_pos (by decide)]
    exact h
  · subst z
    rw [if_neg (by decide), if_neg (by decide)]
    exact h
theorem s5_n {o : Nat} {μ : gk_St} {Q : Int32 → gk_St → Prop} (h : μ o 1 ≤ μ o 2) (hq : Q 0 μ) : w_X5_hasSpace o μ Q := by
  unfold w_X5_hasSpace
  rw [if_pos h]
  exact hq
theorem s5_y {o : Nat} {μ : gk_St} {Q : Int32 → gk_St → Prop} (h : ¬ μ o 1 ≤ μ o 2) (hq : Q 1 μ) : w_X5_hasSpace o μ Q := by
  unfold w_X5_hasSpace
  rw [if_neg h]
  exact hq
set_option maxHeartbeats 4000000 in
theorem k_ok_type : ok_type gp_Inv := by
  intro μ x1 x2 ⟨C, hk⟩
  have hInv : gp_Inv μ := ⟨C, hk⟩
  unfold w_X7_type
  rcases rg x1 2 (by omega) with ⟨x, hx, rfl⟩ | hx
  · refine s_textOf (x := x) (by omega) ?_
    dsimp only
    rcases rg x2 255 (by omega) with ⟨v, hv, rfl⟩ | hv
    · refine s_wi (m := 255) (by omega) hv ?_
      rw [if_neg i1n0]
      have hl := hk.2.1.1.1 x (by omega)
      have hcx := hk.1.1 x (by omega)
      have h47 := gp_lm47 (x := x)
      have hmt := hk.2.2.1 x (by omega)
      by_cases c : c_tn C x = gp_lm x
      · refine s5_n (by rw [hl.1, hl.2.1]; exact (nI_leI (by omega) (by omega)).mpr (by omega)) ?_
        rw [if_pos rfl]
        unfold w_X8_type
        refine m_isText (x := x) (by omega) ?_
        rw [if_neg i1n0]
        refine s_ii (m := 255) (by omega) hv ?_
        rw [if_neg i1n0, rf_101_0, kc (k := x) (by omega), hmt.1]
        refine ⟨vi (n := 3) (by omega) ln_102 (by omega), ?_⟩
        refine m_roomOf (x := x) (by omega) ?_
        rw [if_pos (by rw [c])]
        exact ⟨rfl, hInv⟩
      · have hsp : ¬ μ (1 + 2 * x) 1 ≤ μ (1 + 2 * x) 2 := by
          rw [hl.1, hl.2.1]
          exact fun q => c (by have := (nI_leI (by omega) (by omega)).mp q; omega)
        refine s5_y hsp ?_
        rw [if_neg i1n0]
        have erf : gk_rf (1 + 2 * x) 0 = 2 + 2 * x := by
          rcases (show x = 0 ∨ x = 1 ∨ x = 2 by omega) with z | z | z <;> subst z
          · exact rf_1_0
          · exact rf_3_0
          · exact rf_5_0
        have eln : gk_ln (2 + 2 * x) = 47 := by
          rcases (show x = 0 ∨ x = 1 ∨ x = 2 by omega) with z | z | z <;> subst z
          · exact ln_2
          · exact ln_4
          · exact ln_6
        unfold w_X5_append
        refine s5_y hsp ?_
        rw [if_neg i1n0, erf, hl.2.1, kc (k := c_tn C x) (by omega)]
        refine ⟨vi (n := 47) (by omega) eln (by omega), ?_⟩
        intro m3 e3 m4 e4
        have q1 : m3 (1 + 2 * x) 2 = nI (c_tn C x) := by rw [e3, gk_up_n (by omega)]; exact hl.2.1
        rw [q1, nI_1] at e4
        have g1 : m4 (1 + 2 * x) = upd (μ (1 + 2 * x)) 2 (nI (c_tn C x + 1)) := by rw [e4, gk_up_s, e3, gk_up_n (by omega)]
        have g2 : m4 (2 + 2 * x) = upd (μ (2 + 2 * x)) (c_tn C x) (nI v) := by rw [e4, gk_up_n (by omega), e3, gk_up_s]
        refine s_chg (C := C) (n' := c_tn C x + 1) (b' := gp_u (c_tb C x) (c_tn C x) v) (by omega) hk (by omega) (fun k hk2 => ?_) (by rw [g1, upd_n (by omega)]) (by rw [g1, upd_s]) (fun k hk2 => ?_) (fun c p q => by rw [e4, gk_up_n (by omega), e3, gk_up_n (by omega)]) (fun ν r1 r2 r3 => ?_)
        · by_cases e : k = c_tn C x
          · rw [e, gp_us]
            exact hv
          · rw [gp_un e]
            exact hcx.2 k (by omega)
        · rw [g2]
          by_cases e : k = c_tn C x
          · rw [e, gp_us, upd_s]
          · rw [gp_un e, upd_n e]
            exact hl.2.2 k (by omega)
        · rw [r3]
          have hmν : gp_km C ν := gp_km_f (fun c p => r2 c (by omega)) (fun j p => by rw [r2 101 (by omega)]) hk.2.2
          have hmtν := hmν.1 x (by omega)
          unfold w_X8_type
          refine m_isText (x := x) (by omega) ?_
          rw [if_neg i1n0]
          refine s_ii (m := 255) (by omega) hv ?_
          rw [if_neg i1n0, rf_101_0, rf_101_1, kc (k := x) (by omega), hmtν.1]
          refine ⟨vi (n := 3) (by omega) ln_102 (by omega), ?_⟩
          refine m_roomOf (x := x) (by omega) ?_
          rw [if_neg (fun q => c ((nI_eq (by omega) (by omega)).mp q)), hmtν.1, e47, kc (by omega)]
          refine ⟨vi (n := 3) (by omega) ln_102 (by omega), vi (n := 141) (by omega) ln_103 (by omega), ?_⟩
          intro m7 e7
          have q7 : m7 102 x = nI (c_tn C x) := by rw [e7, gk_up_n (by omega)]; exact hmtν.1
          rw [q7, nI_1]
          refine ⟨vi (n := 3) (by omega) ln_102 (by omega), vi (n := 3) (by omega) ln_102 (by omega), ?_⟩
          intro m8 e8
          have q8 : m8 102 = upd (ν 102) x (nI (c_tn C x + 1)) := by rw [e8, gk_up_s, e7, gk_up_n (by omega)]
          have q9 : m8 103 = upd (ν 103) (47 * x + c_tn C x) (nI v) := by rw [e8, gk_up_n (by omega), e7, gk_up_s]
          refine ⟨vi (n := 3) (by omega) ln_102 (by omega), ?_, ?_⟩
          · rw [q8, upd_s]
          · refine m_chg (C := C) (x := x) (n' := c_tn C x + 1) (b' := gp_u (c_tb C x) (c_tn C x) v) (by omega) hk.1 (by omega) (fun k hk2 => ?_) r1 hmν q8 (fun k hk2 => ?_) (fun y hy hyx k hk2 => ?_) (fun c p q => by rw [e8, gk_up_n (by omega), e7, gk_up_n (by omega)])
            · by_cases e : k = c_tn C x
              · rw [e, gp_us]
                exact hv
              · rw [gp_un e]
                exact hcx.2 k (by omega)
            · rw [q9]
              by_cases e : k = c_tn C x
              · rw [e, gp_us, upd_s]
              · rw [gp_un e, upd_n (by omega)]
                exact (hmtν.2.2 k (by omega)).1
            · rw [q9, upd_n (by omega)]
    · refine s_w_n hv ?_
      rw [if_pos rfl]
      unfold w_X8_type
      refine m_isText (x := x) (by omega) ?_
      rw [if_neg i1n0]
      refine s_in_n hv ?_
      rw [if_pos rfl]
      exact ⟨rfl, hInv⟩
  · refine s_textOf_n hx ?_
    dsimp only
    unfold w_X8_type
    refine m_isText_n hx ?_
    rw [if_pos rfl]
    exact ⟨rfl, hInv⟩
set_option maxHeartbeats 4000000 in
theorem k_ok_wipe : ok_wipe gp_Inv := by
  intro μ x1 ⟨C, hk⟩
  have hInv : gp_Inv μ := ⟨C, hk⟩
  unfold w_X7_wipe
  rcases rg x1 2 (by omega) with ⟨x, hx, rfl⟩ | hx
  · refine s_textOf (x := x) (by omega) ?_
    dsimp only
    have hl := hk.2.1.1.1 x (by omega)
    have h47 := gp_lm47 (x := x)
    intro v3 e3 m4 e4
    refine s_chg (C := C) (n' := 0) (b' := c_tb C x) (by omega) hk (by omega) (fun k hk2 => absurd hk2 (Nat.not_lt_zero k)) (by rw [e4, gk_up_s, upd_n (by omega)]) (by rw [e4, gk_up_s, upd_s]; rfl) (fun k hk2 => absurd hk2 (Nat.not_lt_zero k)) (fun c p q => by rw [e4, gk_up_n (by omega)]) (fun ν r1 r2 r3 => ?_)
    have hmν : gp_km C ν := gp_km_f (fun c p => r2 c (by omega)) (fun j p => by rw [r2 101 (by omega)]) hk.2.2
    have hmtν := hmν.1 x (by omega)
    unfold w_X8_wipe
    refine m_isText (x := x) (by omega) ?_
    rw [if_neg i1n0, rf_101_0, kc (k := x) (by omega), hmtν.1]
    refine ⟨vi (n := 3) (by omega) ln_102 (by omega), ?_⟩
    intro v5 e5
    refine ⟨vi (n := 3) (by omega) ln_102 (by omega), ?_⟩
    intro m6 e6
    refine ⟨by rw [e3, e5, hl.2.1], ?_⟩
    exact m_chg (C := C) (x := x) (n' := 0) (b' := c_tb C x) (by omega) hk.1 (by omega) (fun k hk2 => absurd hk2 (Nat.not_lt_zero k)) r1 hmν (by rw [e6, gk_up_s]; rfl) (fun k hk2 => absurd hk2 (Nat.not_lt_zero k)) (fun y hy hyx k hk2 => by rw [e6, gk_up_n (by omega)]) (fun c p q => by rw [e6, gk_up_n (by omega)])
  · refine s_textOf_n hx ?_
    dsimp only
    unfold w_X8_wipe
    refine m_isText_n hx ?_
    rw [if_pos rfl]
    exact ⟨rfl, hInv⟩
set_option maxHeartbeats 4000000 in
theorem k_ok_undo : ok_undo gp_Inv := by
  intro μ x1 ⟨C, hk⟩
  have hInv : gp_Inv μ := ⟨C, hk⟩
  unfold w_X7_undo
  rcases rg x1 2 (by omega) with ⟨x, hx, rfl⟩ | hx
  · refine s_textOf (x := x) (by omega) ?_
    dsimp only
    have hl := hk.2.1.1.1 x (by omega)
    have hcx := hk.1.1 x (by omega)
    have h47 := gp_lm47 (x := x)
    rw [hl.2.1]
    by_cases c : c_tn C x = 0
    · rw [if_pos (by rw [c]; rfl)]
      have hmt := hk.2.2.1 x (by omega)
      unfold w_X8_undo
      refine m_isText (x := x) (by omega) ?_
      rw [if_neg i1n0, rf_101_0, kc (k := x) (by omega), hmt.1, if_pos (by rw [c]; rfl)]
      exact ⟨vi (n := 3) (by omega) ln_102 (by omega), rfl, hInv⟩
    · rw [if_neg (nI_ne0 (by omega) (by omega))]
      have em : nI (c_tn C x) - 1 = nI (c_tn C x - 1) := pk_sub (b := 1) (by omega)
      rw [em]
      intro m3 e3
      refine s_chg (C := C) (n' := c_tn C x - 1) (b' := c_tb C x) (by omega) hk (by omega) (fun k hk2 => hcx.2 k (by omega)) (by rw [e3, gk_up_s, upd_n (by omega)]) (by rw [e3, gk_up_s, upd_s]) (fun k hk2 => by rw [e3, gk_up_n (by omega)]; exact hl.2.2 k (by omega)) (fun c p q => by rw [e3, gk_up_n (by omega)]) (fun ν r1 r2 r3 => ?_)
      rw [r3]
      have hmν : gp_km C ν := gp_km_f (fun c p => r2 c (by omega)) (fun j p => by rw [r2 101 (by omega)]) hk.2.2
      have hmtν := hmν.1 x (by omega)
      unfold w_X8_undo
      refine m_isText (x := x) (by omega) ?_
      rw [if_neg i1n0, rf_101_0, kc (k := x) (by omega), hmtν.1, if_neg (nI_ne0 (by omega) (by omega)), em]
      refine ⟨vi (n := 3) (by omega) ln_102 (by omega), vi (n := 3) (by omega) ln_102 (by omega), vi (n := 3) (by omega) ln_102 (by omega), ?_⟩
      intro m6 e6
      refine ⟨vi (n := 3) (by omega) ln_102 (by omega), ?_, ?_⟩
      · rw [e6, gk_up_s, upd_s]
      · exact m_chg (C := C) (x := x) (n' := c_tn C x - 1) (b' := c_tb C x) (by omega) hk.1 (by omega) (fun k hk2 => hcx.2 k (by omega)) r1 hmν (by rw [e6, gk_up_s]) (fun k hk2 => by rw [e6, gk_up_n (by omega)]; exact (hmtν.2.2 k (by omega)).1) (fun y hy hyx k hk2 => by rw [e6, gk_up_n (by omega)]) (fun c p q => by rw [e6, gk_up_n (by omega)])
  · refine s_textOf_n hx ?_
    dsimp only
    unfold w_X8_undo
    refine m_isText_n hx ?_
    rw [if_pos rfl]
    exact ⟨rfl, hInv⟩
