/-! digest -/
def dg (h : Int64) (r : Int32) : Int64 := 31 * h + r.toInt64
def dh (h r : Int64) : Int64 := 31 * h + r
def dgL (g : Nat → Int64 → Int64) : Nat → Int64 → Int64
  | 0, h => h
  | n + 1, h => g n (dgL g n h)
theorem c_mix {x0 x2 : Int64} {μ : gk_St} {Q : Int64 → gk_St → Prop} (h : Q (31 * x0 + x2) μ) : w_X7_mix x0 x2 μ Q := h
theorem dgL_s {g : Nat → Int64 → Int64} {n : Nat} {h : Int64} : dgL g (n + 1) h = g n (dgL g n h) := rfl
def dm (q : Nat) : Nat := if q = 0 then 0 else if q = 1 then 5 else if q = 2 then 12 else 23
theorem dm_lt {q : Nat} : dm q < 24 := by
  unfold dm
  split
  · omega
  · split
    · omega
    · split <;> omega
theorem dm_g {q : Nat} (h : q < 4) : gk_dm q = nI (dm q) := by
  rcases (show q = 0 ∨ q = 1 ∨ q = 2 ∨ q = 3 by omega) with z | z | z | z <;> subst z <;> rfl
def g1 (C : gp_C) (w : Nat) (h : Int64) : Int64 := dg h (v_cnt C w)
def g2 (F : Nat → Int32) (x : Nat) (h : Int64) : Int64 := dg h (F x)
def g3w (C : gp_C) (i w : Nat) (h : Int64) : Int64 := dg h (v_com C i w)
def g3 (C : gp_C) (i : Nat) (h : Int64) : Int64 := dgL (g3w C i) 3 h
def g4w (C : gp_C) (t w : Nat) (h : Int64) : Int64 := dg h (v_wt C t w)
def g4 (C : gp_C) (t : Nat) (h : Int64) : Int64 := dgL (g4w C t) 4 (dg h (nI (c_pc C t)))
def g5c (C : gp_C) (k w : Nat) (h : Int64) : Int64 := dg h (v_car C k w)
def g5a (C : gp_C) (k q : Nat) (h : Int64) : Int64 := dg (dg h (v_at C (dm q) k 0)) (v_at C (dm q) k 1)
def g5z (C : gp_C) (k : Nat) (h : Int64) : Int64 := dg (dg (dg (dg (dg (dg h (nI (a_ou (gp_s (c_P C) 24) k))) (v_ha C k 0)) (v_ha C k 1)) (v_was C k 0)) (v_was C k 1)) (v_as C k)
def g5 (C : gp_C) (k : Nat) (h : Int64) : Int64 := g5z C k (dgL (g5a C k) 4 (dgL (g5c C k) 3 h))
def g6 (C : gp_C) (s : Nat) (h : Int64) : Int64 := dg (dg (dg h (nI (a_ov (gp_s (c_P C) 24) s))) (v_cr C s 0)) (v_cr C s 1)
def g7a (C : gp_C) (h : Int64) : Int64 := dg (dg (dg (dg (dg h (gp_ps (c_P C) 24)) (v_fi C 0)) (v_fi C 1)) (v_id C)) (nI (gp_left (c_P C)))
def g7b (C : gp_C) (h : Int64) : Int64 := dh (dh (dg (dg (dg (dg h (v_pc C 8 0)) (v_pc C 8 1)) (v_ch C 8 0)) (v_ch C 8 1)) (v_chn C 5 17 0)) (v_chn C 5 17 1)
def g7c (C : gp_C) (n a b : Nat) (h : Int64) : Int64 := dg (dg (dg (dg (dg h (v_sn n)) (v_sw n a b 0)) (v_ne C)) (v_ye C 7 18 0)) (v_ye C 7 18 1)
theorem g1_s {C : gp_C} {h0 : Int64} {j : Nat} : dgL (g1 C) (j + 1) h0 = 31 * dgL (g1 C) j h0 + (v_cnt C j).toInt64 := rfl
set_option maxHeartbeats 4000000 in
theorem dc1 {C : gp_C} {h0 : Int64} {Q : Int64 → gk_St → Prop} {K : Int64 → gk_St → Prop} (h : ∀ ν, gp_K C ν → K (dgL (g1 C) 8 h0) ν) : ∀ (i j : Nat) (μ : gk_St), j + i = 8 → gp_K C μ → w_X7_digestTold_l5 Q K 0 (i + 1) (dgL (g1 C) j h0) (nI j) μ := by
  intro i
  induction i with
  | zero =>
    intro j μ hj hK
    have e : j = 8 := by omega
    subst e
    unfold w_X7_digestTold_l5
    rw [if_pos (by decide)]
    exact h μ hK
  | succ i ih =>
    intro j μ hj hK
    have ihj := fun ν => ih (j + 1) ν (by omega)
    rw [g1_s] at ihj
    unfold w_X7_digestTold_l5
    rw [if_neg (show ¬ (7 : Int32) < nI j from fun q => absurd ((nI_ltI (a := 7) (by omega) (by omega)).mp q) (by omega))]
    refine c_cnt hK (by omega) ?_
    unfold w_X7_mix
    intro v e
    rw [e, nI_1]
    exact ihj μ hK
theorem dc1_0 {C : gp_C} {h0 : Int64} {Q : Int64 → gk_St → Prop} {K : Int64 → gk_St → Prop} {μ : gk_St} (q0 : gp_K C μ) (h : ∀ ν, gp_K C ν → K (dgL (g1 C) 8 h0) ν) : ∃ n, w_X7_digestTold_l5 Q K 0 n h0 0 μ := ⟨9, dc1 h 8 0 μ (by omega) q0⟩
set_option maxHeartbeats 4000000 in
theorem dm1 {C : gp_C} {h0 : Int64} {Q : Int64 → gk_St → Prop} {K : Int64 → gk_St → Prop} (h : ∀ ν, gp_K C ν → K (dgL (g1 C) 8 h0) ν) : ∀ (i j : Nat) (μ : gk_St), j + i = 8 → gp_K C μ → w_X8_digest_l6 Q K 101 (i + 1) (dgL (g1 C) j h0) (nI j) μ := by
  intro i
  induction i with
  | zero =>
    intro j μ hj hK
    have e : j = 8 := by omega
    subst e
    unfold w_X8_digest_l6
    rw [if_pos (by decide)]
    exact h μ hK
  | succ i ih =>
    intro j μ hj hK
    have ihj := fun ν => ih (j + 1) ν (by omega)
    rw [g1_s] at ihj
    unfold w_X8_digest_l6
    rw [if_neg (show ¬ (8 : Int32) ≤ nI j from fun q => absurd ((nI_leI (a := 8) (by omega) (by omega)).mp q) (by omega))]
    refine m_cnt hK (by omega) (fun ν hK => ?_)
    intro v3 e3 v4 e4
    rw [e3, e4, nI_1]
    exact ihj ν hK
theorem dm1_0 {C : gp_C} {h0 : Int64} {Q : Int64 → gk_St → Prop} {K : Int64 → gk_St → Prop} {μ : gk_St} (q0 : gp_K C μ) (h : ∀ ν, gp_K C ν → K (dgL (g1 C) 8 h0) ν) : ∃ n, w_X8_digest_l6 Q K 101 n h0 0 μ := ⟨9, dm1 h 8 0 μ (by omega) q0⟩
theorem g2_s {F : Nat → Int32} {h0 : Int64} {j : Nat} : dgL (g2 F) (j + 1) h0 = 31 * dgL (g2 F) j h0 + (F j).toInt64 := rfl
set_option maxHeartbeats 4000000 in
theorem dc2 {C : gp_C} {F : Nat → Int32} {h0 : Int64} {Q : Int64 → gk_St → Prop} {K : Int64 → gk_St → Prop} (hF : gp_isV C F) (h : ∀ ν, gp_K C ν → K (dgL (g2 F) 3 h0) ν) : ∀ (i j : Nat) (μ : gk_St), j + i = 3 → gp_K C μ → w_X7_digestTold_l33 Q K 0 (i + 1) (dgL (g2 F) j h0) (nI j) μ := by
  intro i
  induction i with
  | zero =>
    intro j μ hj hK
    have e : j = 3 := by omega
    subst e
    unfold w_X7_digestTold_l33
    rw [if_pos (by decide)]
    exact h μ hK
  | succ i ih =>
    intro j μ hj hK
    have ihj := fun ν => ih (j + 1) ν (by omega)
    rw [g2_s] at ihj
    unfold w_X7_digestTold_l33
    rw [if_neg (show ¬ (2 : Int32) < nI j from fun q => absurd ((nI_ltI (a := 2) (by omega) (by omega)).mp q) (by omega))]
    refine c_fault hF hK (by omega) ?_
    unfold w_X7_mix
    intro v e
    rw [e, nI_1]
    exact ihj μ hK
theorem dc2_0 {C : gp_C} {F : Nat → Int32} {h0 : Int64} {Q : Int64 → gk_St → Prop} {K : Int64 → gk_St → Prop} (hF : gp_isV C F) {μ : gk_St} (q0 : gp_K C μ) (h : ∀ ν, gp_K C ν → K (dgL (g2 F) 3 h0) ν) : ∃ n, w_X7_digestTold_l33 Q K 0 n h0 0 μ := ⟨4, dc2 hF h 3 0 μ (by omega) q0⟩
set_option maxHeartbeats 4000000 in
theorem dm2 {C : gp_C} {F : Nat → Int32} {h0 : Int64} {Q : Int64 → gk_St → Prop} {K : Int64 → gk_St → Prop} (hF : gp_isV C F) (h : ∀ ν, gp_K C ν → K (dgL (g2 F) 3 h0) ν) : ∀ (i j : Nat) (μ : gk_St), j + i = 3 → gp_K C μ → w_X8_digest_l33 Q K 101 (i + 1) (dgL (g2 F) j h0) (nI j) μ := by
  intro i
  induction i with
  | zero =>
    intro j μ hj hK
    have e : j = 3 := by omega
    subst e
    unfold w_X8_digest_l33
    rw [if_pos (by decide)]
    exact h μ hK
  | succ i ih =>
    intro j μ hj hK
    have ihj := fun ν => ih (j + 1) ν (by omega)
    rw [g2_s] at ihj
    unfold w_X8_digest_l33
    rw [if_neg (show ¬ (3 : Int32) ≤ nI j from fun q => absurd ((nI_leI (a := 3) (by omega) (by omega)).mp q) (by omega))]
    refine m_fault hF hK (by omega) (fun ν hK hR => ?_)
    intro v3 e3 v4 e4
    rw [e3, e4, nI_1]
    exact ihj ν hK
theorem dm2_0 {C : gp_C} {F : Nat → Int32} {h0 : Int64} {Q : Int64 → gk_St → Prop} {K : Int64 → gk_St → Prop} (hF : gp_isV C F) {μ : gk_St} (q0 : gp_K C μ) (h : ∀ ν, gp_K C ν → K (dgL (g2 F) 3 h0) ν) : ∃ n, w_X8_digest_l33 Q K 101 n h0 0 μ := ⟨4, dm2 hF h 3 0 μ (by omega) q0⟩
theorem g3w_s {C : gp_C} {k : Nat} {h0 : Int64} {j : Nat} : dgL (g3w C k) (j + 1) h0 = 31 * dgL (g3w C k) j h0 + (v_com C k j).toInt64 := rfl
set_option maxHeartbeats 4000000 in
theorem dc3w {C : gp_C} {k : Nat} {h0 : Int64} {Q : Int64 → gk_St → Prop} {K : Int64 → Int32 → gk_St → Prop} (hk : k < 12) (h : ∀ ν, gp_K C ν → K (dgL (g3w C k) 3 h0) (nI k) ν) : ∀ (i j : Nat) (μ : gk_St), j + i = 3 → gp_K C μ → w_X7_digestTold_l70 Q K 0 (i + 1) (dgL (g3w C k) j h0) (nI k) (nI j) μ := by
  intro i
  induction i with
  | zero =>
    intro j μ hj hK
    have e : j = 3 := by omega
    subst e
    unfold w_X7_digestTold_l70
    rw [if_pos (by decide)]
    exact h μ hK
  | succ i ih =>
    intro j μ hj hK
    have ihj := fun ν => ih (j + 1) ν (by omega)
    rw [g3w_s] at ihj
    unfold w_X7_digestTold_l70
    rw [if_neg (show ¬ (2 : Int32) < nI j from fun q => absurd ((nI_ltI (a := 2) (by omega) (by omega)).mp q) (by omega))]
    refine c_comq hK hk (by omega) ?_
    unfold w_X7_mix
    intro v e
    rw [e, nI_1]
    exact ihj μ hK
theorem dc3w_0 {C : gp_C} {k : Nat} {h0 : Int64} {Q : Int64 → gk_St → Prop} {K : Int64 → Int32 → gk_St → Prop} (hk : k < 12) {μ : gk_St} (q0 : gp_K C μ) (h : ∀ ν, gp_K C ν → K (dgL (g3w C k) 3 h0) (nI k) ν) : ∃ n, w_X7_digestTold_l70 Q K 0 n h0 (nI k) 0 μ := ⟨4, dc3w hk h 3 0 μ (by omega) q0⟩
set_option maxHeartbeats 4000000 in
theorem dm3w {C : gp_C} {k : Nat} {h0 : Int64} {Q : Int64 → gk_St → Prop} {K : Int64 → Int32 → gk_St → Prop} (hk : k < 12) (h : ∀ ν, gp_K C ν → K (dgL (g3w C k) 3 h0) (nI k) ν) : ∀ (i j : Nat) (μ : gk_St), j + i = 3 → gp_K C μ → w_X8_digest_l68 Q K 101 (i + 1) (dgL (g3w C k) j h0) (nI k) (nI j) μ := by
  intro i
  induction i with
  | zero =>
    intro j μ hj hK
    have e : j = 3 := by omega
    subst e
    unfold w_X8_digest_l68
    rw [if_pos (by decide)]
    exact h μ hK
  | succ i ih =>
    intro j μ hj hK
    have ihj := fun ν => ih (j + 1) ν (by omega)
    rw [g3w_s] at ihj
    unfold w_X8_digest_l68
    rw [if_neg (show ¬ (3 : Int32) ≤ nI j from fun q => absurd ((nI_leI (a := 3) (by omega) (by omega)).mp q) (by omega))]
    refine m_comq hK hk (by omega) (fun ν hK hR => ?_)
    intro v3 e3 v4 e4
    rw [e3, e4, nI_1]
    exact ihj ν hK
theorem dm3w_0 {C : gp_C} {k : Nat} {h0 : Int64} {Q : Int64 → gk_St → Prop} {K : Int64 → Int32 → gk_St → Prop} (hk : k < 12) {μ : gk_St} (q0 : gp_K C μ) (h : ∀ ν, gp_K C ν → K (dgL (g3w C k) 3 h0) (nI k) ν) : ∃ n, w_X8_digest_l68 Q K 101 n h0 (nI k) 0 μ := ⟨4, dm3w hk h 3 0 μ (by omega) q0⟩
theorem g3_s {C : gp_C} {h0 : Int64} {j : Nat} : dgL (g3 C) (j + 1) h0 = dgL (g3w C j) 3 (dgL (g3 C) j h0) := rfl
set_option maxHeartbeats 4000000 in
theorem dc3 {C : gp_C} {h0 : Int64} {Q : Int64 → gk_St → Prop} {K : Int64 → gk_St → Prop} (h : ∀ ν, gp_K C ν → K (dgL (g3 C) 12 h0) ν) : ∀ (i j : Nat) (μ : gk_St), j + i = 12 → gp_K C μ → w_X7_digestTold_l60 Q K 0 (i + 1) (dgL (g3 C) j h0) (nI j) μ := by
  intro i
  induction i with
  | zero =>
    intro j μ hj hK
    have e : j = 12 := by omega
    subst e
    unfold w_X7_digestTold_l60
    rw [if_pos (by decide)]
    exact h μ hK
  | succ i ih =>
    intro j μ hj hK
    have ihj := fun ν => ih (j + 1) ν (by omega)
    rw [g3_s] at ihj
    unfold w_X7_digestTold_l60
    rw [if_neg (show ¬ (12 : Int32) ≤ nI j from fun q => absurd ((nI_leI (a := 12) (by omega) (by omega)).mp q) (by omega))]
    refine dc3w_0 (by omega) hK (fun ν hK => ?_)
    intro v e
    rw [e, nI_1]
    exact ihj ν hK
theorem dc3_0 {C : gp_C} {h0 : Int64} {Q : Int64 → gk_St → Prop} {K : Int64 → gk_St → Prop} {μ : gk_St} (q0 : gp_K C μ) (h : ∀ ν, gp_K C ν → K (dgL (g3 C) 12 h0) ν) : ∃ n, w_X7_digestTold_l60 Q K 0 n h0 0 μ := ⟨13, dc3 h 12 0 μ (by omega) q0⟩
set_option maxHeartbeats 4000000 in
theorem dm3 {C : gp_C} {h0 : Int64} {Q : Int64 → gk_St → Prop} {K : Int64 → gk_St → Prop} (h : ∀ ν, gp_K C ν → K (dgL (g3 C) 12 h0) ν) : ∀ (i j : Nat) (μ : gk_St), j + i = 12 → gp_K C μ → w_X8_digest_l59 Q K 101 (i + 1) (dgL (g3 C) j h0) (nI j) μ := by
  intro i
  induction i with
  | zero =>
    intro j μ hj hK
    have e : j = 12 := by omega
    subst e
    unfold w_X8_digest_l59
    rw [if_pos (by decide)]
    exact h μ hK
  | succ i ih =>
    intro j μ hj hK
    have ihj := fun ν => ih (j + 1) ν (by omega)
    rw [g3_s] at ihj
    unfold w_X8_digest_l59
    rw [if_neg (show ¬ (12 : Int32) ≤ nI j from fun q => absurd ((nI_leI (a := 12) (by omega) (by omega)).mp q) (by omega))]
    refine dm3w_0 (by omega) hK (fun ν hK => ?_)
    intro v e
    rw [e, nI_1]
    exact ihj ν hK
theorem dm3_0 {C : gp_C} {h0 : Int64} {Q : Int64 → gk_St → Prop} {K : Int64 → gk_St → Prop} {μ : gk_St} (q0 : gp_K C μ) (h : ∀ ν, gp_K C ν → K (dgL (g3 C) 12 h0) ν) : ∃ n, w_X8_digest_l59 Q K 101 n h0 0 μ := ⟨13, dm3 h 12 0 μ (by omega) q0⟩
theorem g4w_s {C : gp_C} {k : Nat} {h0 : Int64} {j : Nat} : dgL (g4w C k) (j + 1) h0 = 31 * dgL (g4w C k) j h0 + (v_wt C k j).toInt64 := rfl
set_option maxHeartbeats 4000000 in
theorem dc4w {C : gp_C} {k : Nat} {h0 : Int64} {Q : Int64 → gk_St → Prop} {K : Int64 → Int32 → gk_St → Prop} (hk : k < 24) (h : ∀ ν, gp_K C ν → K (dgL (g4w C k) 4 h0) (nI k) ν) : ∀ (i j : Nat) (μ : gk_St), j + i = 4 → gp_K C μ → w_X7_digestTold_l127 Q K 0 (i + 1) (dgL (g4w C k) j h0) (nI k) (nI j) μ := by
  intro i
  induction i with
  | zero =>
    intro j μ hj hK
    have e : j = 4 := by omega
    subst e
    unfold w_X7_digestTold_l127
    rw [if_pos (by decide)]
    exact h μ hK
  | succ i ih =>
    intro j μ hj hK
    have ihj := fun ν => ih (j + 1) ν (by omega)
    rw [g4w_s] at ihj
    unfold w_X7_digestTold_l127
    rw [if_neg (show ¬ (3 : Int32) < nI j from fun q => absurd ((nI_ltI (a := 3) (by omega) (by omega)).mp q) (by omega))]
    refine c_wt hK hk (by omega) (fun ν hK => ?_)
    unfold w_X7_mix
    intro v e
    rw [e, nI_1]
    exact ihj ν hK
theorem dc4w_0 {C : gp_C} {k : Nat} {h0 : Int64} {Q : Int64 → gk_St → Prop} {K : Int64 → Int32 → gk_St → Prop} (hk : k < 24) {μ : gk_St} (q0 : gp_K C μ) (h : ∀ ν, gp_K C ν → K (dgL (g4w C k) 4 h0) (nI k) ν) : ∃ n, w_X7_digestTold_l127 Q K 0 n h0 (nI k) 0 μ := ⟨5, dc4w hk h 4 0 μ (by omega) q0⟩
theorem g4_s {C : gp_C} {h0 : Int64} {j : Nat} : dgL (g4 C) (j + 1) h0 = dgL (g4w C j) 4 (31 * dgL (g4 C) j h0 + (nI (c_pc C j)).toInt64) := rfl
set_option maxHeartbeats 4000000 in
theorem dc4 {C : gp_C} {h0 : Int64} {Q : Int64 → gk_St → Prop} {K : Int64 → gk_St → Prop} (h : ∀ ν, gp_K C ν → K (dgL (g4 C) 24 h0) ν) : ∀ (i j : Nat) (μ : gk_St), j + i = 24 → gp_K C μ → w_X7_digestTold_l105 Q K 0 (i + 1) (dgL (g4 C) j h0) (nI j) μ := by
  intro i
  induction i with
  | zero =>
    intro j μ hj hK
    have e : j = 24 := by omega
    subst e
    unfold w_X7_digestTold_l105
    rw [if_pos (by decide)]
    exact h μ hK
  | succ i ih =>
    intro j μ hj hK
    have ihj := fun ν => ih (j + 1) ν (by omega)
    rw [g4_s] at ihj
    unfold w_X7_digestTold_l105
    rw [if_neg (show ¬ (24 : Int32) ≤ nI j from fun q => absurd ((nI_leI (a := 24) (by omega) (by omega)).mp q) (by omega))]
    refine c_spq hK (by omega) ?_
    unfold w_X7_mix
    refine dc4w_0 (by omega) hK (fun ν hK => ?_)
    intro v e
    rw [e, nI_1]
    exact ihj ν hK
theorem dc4_0 {C : gp_C} {h0 : Int64} {Q : Int64 → gk_St → Prop} {K : Int64 → gk_St → Prop} {μ : gk_St} (q0 : gp_K C μ) (h : ∀ ν, gp_K C ν → K (dgL (g4 C) 24 h0) ν) : ∃ n, w_X7_digestTold_l105 Q K 0 n h0 0 μ := ⟨25, dc4 h 24 0 μ (by omega) q0⟩
set_option maxHeartbeats 4000000 in
theorem dm4w {C : gp_C} {k : Nat} {h0 : Int64} {Q : Int64 → gk_St → Prop} {K : Int64 → gk_St → Prop} (hk : k < 24) (h : ∀ ν, gp_K C ν → gp_rd (c_tn C) (c_tb C) ν → K (dgL (g4w C k) 4 h0) ν) : ∀ (i j : Nat) (μ : gk_St), j + i = 4 → gp_K C μ → gp_rd (c_tn C) (c_tb C) μ → w_X8_momentDigest_l17 Q K 101 (i + 1) (nI k) (dgL (g4w C k) j h0) (nI j) μ := by
  intro i
  induction i with
  | zero =>
    intro j μ hj hK hR
    have e : j = 4 := by omega
    subst e
    unfold w_X8_momentDigest_l17
    rw [if_pos (by decide)]
    exact h μ hK hR
  | succ i ih =>
    intro j μ hj hK hR
    have ihj := fun ν => ih (j + 1) ν (by omega)
    rw [g4w_s] at ihj
    unfold w_X8_momentDigest_l17
    rw [if_neg (show ¬ (4 : Int32) ≤ nI j from fun q => absurd ((nI_leI (a := 4) (by omega) (by omega)).mp q) (by omega))]
    refine m_wt hK hk (by omega) (fun ν hK hR => ?_)
    intro v3 e3 v4 e4
    rw [e3, e4, nI_1]
    exact ihj ν hK hR
theorem dm4w_0 {C : gp_C} {k : Nat} {h0 : Int64} {Q : Int64 → gk_St → Prop} {K : Int64 → gk_St → Prop} (hk : k < 24) {μ : gk_St} (q0 : gp_K C μ) (q1 : gp_rd (c_tn C) (c_tb C) μ) (h : ∀ ν, gp_K C ν → gp_rd (c_tn C) (c_tb C) ν → K (dgL (g4w C k) 4 h0) ν) : ∃ n, w_X8_momentDigest_l17 Q K 101 n (nI k) h0 0 μ := ⟨5, dm4w hk h 4 0 μ (by omega) q0 q1⟩
set_option maxHeartbeats 4000000 in
theorem dm4 {C : gp_C} {h0 : Int64} {Q : Int64 → gk_St → Prop} {K : Int64 → gk_St → Prop} (h : ∀ ν, gp_K C ν → gp_rd (c_tn C) (c_tb C) ν → K (dgL (g4 C) 24 h0) ν) : ∀ (i j : Nat) (μ : gk_St), j + i = 24 → gp_K C μ → (0 < j → gp_rd (c_tn C) (c_tb C) μ) → w_X8_digest_l103 Q K 101 (i + 1) (dgL (g4 C) j h0) (nI j) μ := by
  intro i
  induction i with
  | zero =>
    intro j μ hj hK hR
    have e : j = 24 := by omega
    subst e
    unfold w_X8_digest_l103
    rw [if_pos (by decide)]
    exact h μ hK (hR (by omega))
  | succ i ih =>
    intro j μ hj hK hR
    have ihj := fun ν => ih (j + 1) ν (by omega)
    rw [g4_s] at ihj
    unfold w_X8_digest_l103 w_X8_momentDigest
    rw [if_neg (show ¬ (24 : Int32) ≤ nI j from fun q => absurd ((nI_leI (a := 24) (by omega) (by omega)).mp q) (by omega))]
    refine m_spq hK (by omega) (fun ν hK hR => ?_)
    intro v3 e3
    rw [e3]
    refine dm4w_0 (by omega) hK hR (fun ξ hK hR => ?_)
    intro v e
    rw [e, nI_1]
    exact ihj ξ hK (fun _ => hR)
theorem dm4_0 {C : gp_C} {h0 : Int64} {Q : Int64 → gk_St → Prop} {K : Int64 → gk_St → Prop} {μ : gk_St} (q0 : gp_K C μ) (h : ∀ ν, gp_K C ν → gp_rd (c_tn C) (c_tb C) ν → K (dgL (g4 C) 24 h0) ν) : ∃ n, w_X8_digest_l103 Q K 101 n h0 0 μ := ⟨25, dm4 h 24 0 μ (by omega) q0 (fun q => absurd q (Nat.lt_irrefl 0))⟩
theorem g5c_s {C : gp_C} {k : Nat} {h0 : Int64} {j : Nat} : dgL (g5c C k) (j + 1) h0 = 31 * dgL (g5c C k) j h0 + (v_car C k j).toInt64 := rfl
set_option maxHeartbeats 4000000 in
theorem dc5c {C : gp_C} {k : Nat} {h0 : Int64} {Q : Int64 → gk_St → Prop} {K : Int64 → Int32 → gk_St → Prop} (hk : k < c_nc C) (h : ∀ ν, gp_K C ν → K (dgL (g5c C k) 3 h0) (nI k) ν) : ∀ (i j : Nat) (μ : gk_St), j + i = 3 → gp_K C μ → w_X7_digest_l24 Q K 0 (i + 1) (dgL (g5c C k) j h0) (nI k) (nI j) μ := by
  intro i
  induction i with
  | zero =>
    intro j μ hj hK
    have e : j = 3 := by omega
    subst e
    unfold w_X7_digest_l24
    rw [if_pos (by decide)]
    exact h μ hK
  | succ i ih =>
    intro j μ hj hK
    have ihj := fun ν => ih (j + 1) ν (by omega)
    rw [g5c_s] at ihj
    unfold w_X7_digest_l24
    rw [if_neg (show ¬ (2 : Int32) < nI j from fun q => absurd ((nI_ltI (a := 2) (by omega) (by omega)).mp q) (by omega))]
    refine c_carq hK hk (by omega) ?_
    unfold w_X7_mix
    intro v e
    rw [e, nI_1]
    exact ihj μ hK
theorem dc5c_0 {C : gp_C} {k : Nat} {h0 : Int64} {Q : Int64 → gk_St → Prop} {K : Int64 → Int32 → gk_St → Prop} (hk : k < c_nc C) {μ : gk_St} (q0 : gp_K C μ) (h : ∀ ν, gp_K C ν → K (dgL (g5c C k) 3 h0) (nI k) ν) : ∃ n, w_X7_digest_l24 Q K 0 n h0 (nI k) 0 μ := ⟨4, dc5c hk h 3 0 μ (by omega) q0⟩
theorem g5a_s {C : gp_C} {k : Nat} {h0 : Int64} {j : Nat} : dgL (g5a C k) (j + 1) h0 = 31 * (31 * dgL (g5a C k) j h0 + (v_at C (dm j) k 0).toInt64) + (v_at C (dm j) k 1).toInt64 := rfl
set_option maxHeartbeats 4000000 in
theorem dc5a {C : gp_C} {k r : Nat} {h0 : Int64} {Q : Int64 → gk_St → Prop} {K : Int64 → Int32 → gk_St → Prop} (hk : k < c_nc C) (h : ∀ ν, gp_K C ν → K (dgL (g5a C k) 4 h0) (nI k) ν) : ∀ (i j : Nat) (μ : gk_St), j + i = 4 → gp_K C μ → w_X7_digest_l62 Q K 0 r (i + 1) (dgL (g5a C k) j h0) (nI k) 4 (nI j) μ := by
  intro i
  induction i with
  | zero =>
    intro j μ hj hK
    have e : j = 4 := by omega
    subst e
    unfold w_X7_digest_l62
    rw [if_pos (by decide)]
    exact h μ hK
  | succ i ih =>
    intro j μ hj hK
    have ihj := fun ν => ih (j + 1) ν (by omega)
    rw [g5a_s] at ihj
    unfold w_X7_digest_l62
    rw [if_neg (show ¬ (4 : Int32) ≤ nI j from fun q => absurd ((nI_leI (a := 4) (by omega) (by omega)).mp q) (by omega)), kc (k := j) (by omega), dm_g (q := j) (by omega)]
    refine ⟨vp_in_nI (by omega) (by omega), ?_⟩
    intro v11 e11
    rw [e11]
    refine c_at (w := 0) hK dm_lt hk (by omega) (fun ν hK => ?_)
    unfold w_X7_mix
    refine c_at (w := 1) hK dm_lt hk (by omega) (fun ξ hK => ?_)
    intro v e
    rw [e, nI_1]
    exact ihj ξ hK
theorem dc5a_0 {C : gp_C} {k r : Nat} {h0 : Int64} {Q : Int64 → gk_St → Prop} {K : Int64 → Int32 → gk_St → Prop} (hk : k < c_nc C) {μ : gk_St} (q0 : gp_K C μ) (h : ∀ ν, gp_K C ν → K (dgL (g5a C k) 4 h0) (nI k) ν) : ∃ n, w_X7_digest_l62 Q K 0 r n h0 (nI k) 4 0 μ := ⟨5, dc5a hk h 4 0 μ (by omega) q0⟩
theorem g5_s {C : gp_C} {h0 : Int64} {j : Nat} : dgL (g5 C) (j + 1) h0 = g5 C j (dgL (g5 C) j h0) := rfl
theorem g5z_e {C : gp_C} {k : Nat} {h : Int64} : g5z C k h = 31 * (31 * (31 * (31 * (31 * (31 * h + (nI (a_ou (gp_s (c_P C) 24) k)).toInt64) + (v_ha C k 0).toInt64) + (v_ha C k 1).toInt64) + (v_was C k 0).toInt64) + (v_was C k 1).toInt64) + (v_as C k).toInt64 := rfl
set_option maxHeartbeats 4000000 in
theorem dc5 {C : gp_C} {h0 : Int64} {Q : Int64 → gk_St → Prop} {K : Int64 → gk_St → Prop} (h : ∀ ν, gp_K C ν → K (dgL (g5 C) (c_nc C) h0) ν) : ∀ (i j : Nat) (μ : gk_St), j + i = c_nc C → gp_K C μ → w_X7_digest_l10 Q K 0 (i + 1) (dgL (g5 C) j h0) (nI j) μ := by
  intro i
  have hn := c_nc6 (C := C)
  induction i with
  | zero =>
    intro j μ hj hK
    have e : j = c_nc C := by omega
    unfold w_X7_digest_l10
    rw [rf_0_3, show μ 7 6 = nI (c_nc C) from hK.2.1.1.2.1.2.2.1, e, if_pos (Int32.le_refl _)]
    exact h μ hK
  | succ i ih =>
    intro j μ hj hK
    have hk : j < c_nc C := by omega
    have ihj := fun ν => ih (j + 1) ν (by omega)
    rw [g5_s] at ihj
    unfold g5 at ihj
    rw [g5z_e] at ihj
    unfold w_X7_digest_l10
    rw [rf_0_3, show μ 7 6 = nI (c_nc C) from hK.2.1.1.2.1.2.2.1, if_neg (fun q => absurd ((nI_leI (by omega) (by omega)).mp q) (by omega))]
    refine dc5c_0 hk hK (fun ν hK => ?_)
    refine dc5a_0 hk hK (fun ν hK => ?_)
    refine c_ca hK hk (fun ν hK => ?_)
    refine c_mix ?_
    refine c_ha (w := 0) hK hk (by omega) (fun ν hK => ?_)
    refine c_mix ?_
    refine c_ha (w := 1) hK hk (by omega) (fun ν hK => ?_)
    refine c_mix ?_
    refine c_was (w := 0) hK hk (by omega) (fun ν hK => ?_)
    refine c_mix ?_
    refine c_was (w := 1) hK hk (by omega) (fun ν hK => ?_)
    refine c_mix ?_
    refine c_ask hK hk (fun ν hK => ?_)
    refine c_mix ?_
    intro v e
    rw [e, nI_1]
    exact ihj ν hK
theorem dc5_0 {C : gp_C} {h0 : Int64} {Q : Int64 → gk_St → Prop} {K : Int64 → gk_St → Prop} {μ : gk_St} (q0 : gp_K C μ) (h : ∀ ν, gp_K C ν → K (dgL (g5 C) (c_nc C) h0) ν) : ∃ n, w_X7_digest_l10 Q K 0 n h0 0 μ := ⟨(c_nc C + 1), dc5 h (c_nc C) 0 μ (by omega) q0⟩
set_option maxHeartbeats 4000000 in
theorem dm5c {C : gp_C} {k : Nat} {h0 : Int64} {Q : Int64 → gk_St → Prop} {K : Int32 → Int64 → gk_St → Prop} (hk : k < c_nc C) {μ : gk_St} (hR : gp_rd (c_tn C) (c_tb C) μ) (h : K (nI k) (dgL (g5c C k) 3 h0) μ) : ∀ (i j : Nat), j + i = 3 → w_X8_carDigest_l6 Q K 101 (i + 1) (nI k) (dgL (g5c C k) j h0) (nI j) μ := by
  intro i
  induction i with
  | zero =>
    intro j hj
    have e : j = 3 := by omega
    subst e
    unfold w_X8_carDigest_l6
    rw [if_pos (by decide)]
    exact h
  | succ i ih =>
    intro j hj
    have ihj := ih (j + 1) (by omega)
    rw [g5c_s] at ihj
    unfold w_X8_carDigest_l6
    rw [if_neg (show ¬ (3 : Int32) ≤ nI j from fun q => absurd ((nI_leI (a := 3) (by omega) (by omega)).mp q) (by omega))]
    refine m_carq hR hk (by omega) ?_
    intro v3 e3 v4 e4
    rw [e3, e4, nI_1]
    exact ihj
theorem dm5c_0 {C : gp_C} {k : Nat} {h0 : Int64} {Q : Int64 → gk_St → Prop} {K : Int32 → Int64 → gk_St → Prop} (hk : k < c_nc C) {μ : gk_St} (hR : gp_rd (c_tn C) (c_tb C) μ)  (h : K (nI k) (dgL (g5c C k) 3 h0) μ) : ∃ n, w_X8_carDigest_l6 Q K 101 n (nI k) h0 0 μ := ⟨4, dm5c hk hR h 3 0 (by omega)⟩
theorem m_atD {C : gp_C} {μ : gk_St} (hK : gp_K C μ) {q k : Nat} (hk : k < c_nc C) {x0 : Int64} {x : Int32} (hx : x = nI (dm q)) {Q : Int64 → gk_St → Prop} (h : ∀ ν, gp_K C ν → gp_rd (c_tn C) (c_tb C) ν → Q (g5a C k q x0) ν) : w_X8_atDigest 101 x0 x (nI k) μ Q := by
  unfold w_X8_atDigest
  rw [hx]
  refine m_at (w := 0) hK dm_lt hk (by omega) (fun ν hK hR => ?_)
  intro v3 e3
  rw [e3]
  refine m_at (w := 1) hK dm_lt hk (by omega) (fun ξ hK hR => ?_)
  exact h ξ hK hR
theorem g5a_4 {C : gp_C} {k : Nat} {h : Int64} : dgL (g5a C k) 4 h = g5a C k 3 (g5a C k 2 (g5a C k 1 (g5a C k 0 h))) := rfl
theorem v_was0 {C : gp_C} {k : Nat} : gp_bt (gp_rb C k) 10 = v_was C k 0 := (if_pos rfl).symm
theorem v_was1 {C : gp_C} {k : Nat} : gp_bt (gp_sb C k) 3 = v_was C k 1 := (if_neg (by omega)).symm
set_option maxHeartbeats 4000000 in
theorem dm5k {C : gp_C} {μ : gk_St} (hK : gp_K C μ) (hR : gp_rd (c_tn C) (c_tb C) μ) {k : Nat} (hk : k < c_nc C) {x0 : Int64} {Q : Int64 → gk_St → Prop} (h : ∀ ν, gp_K C ν → gp_rd (c_tn C) (c_tb C) ν → Q (g5 C k x0) ν) : w_X8_carDigest 101 x0 (nI k) μ Q := by
  unfold w_X8_carDigest
  unfold g5 at h
  rw [g5a_4, g5z_e] at h
  refine dm5c_0 hk hR ?_
  refine m_atD (q := 0) hK hk rfl (fun ν hK hR => ?_)
  refine m_atD (q := 1) hK hk rfl (fun ν hK hR => ?_)
  refine m_atD (q := 2) hK hk rfl (fun ν hK hR => ?_)
  refine m_atD (q := 3) hK hk rfl (fun ν hK hR => ?_)
  refine m_ca hK hk (fun ν hK hR => ?_)
  intro v18 e18
  refine m_ha (w := 0) hK hk (by omega) (fun ν hK hR => ?_)
  intro v21 e21
  refine m_ha (w := 1) hK hk (by omega) (fun ν hK hR => ?_)
  intro v24 e24
  refine m_ro hK hk (fun ν hK hR _ => ?_)
  intro v27 e27
  refine m_so hK hk (fun ν hK hR => ?_)
  intro v30 e30
  refine m_ask hK hk (fun ν hK hR => ?_)
  rw [v_was0] at e27
  rw [v_was1] at e30
  rw [e30, e27, e24, e21, e18]
  exact h ν hK hR
set_option maxHeartbeats 4000000 in
theorem dm5 {C : gp_C} {h0 : Int64} {Q : Int64 → gk_St → Prop} {K : Int64 → gk_St → Prop} (h : ∀ ν, gp_K C ν → K (dgL (g5 C) (c_nc C) h0) ν) : ∀ (i j : Nat) (μ : gk_St), j + i = c_nc C → gp_K C μ → gp_rd (c_tn C) (c_tb C) μ → w_X8_digest_l124 Q K 101 (i + 1) (dgL (g5 C) j h0) (nI j) μ := by
  intro i
  have hn := c_nc6 (C := C)
  induction i with
  | zero =>
    intro j μ hj hK hR
    have e : j = c_nc C := by omega
    unfold w_X8_digest_l124
    rw [show μ 101 2 = nI (c_nc C) from hR.1, e, if_pos (Int32.le_refl _)]
    exact h μ hK
  | succ i ih =>
    intro j μ hj hK hR
    have hk : j < c_nc C := by omega
    have ihj := fun ν => ih (j + 1) ν (by omega)
    rw [g5_s] at ihj
    unfold w_X8_digest_l124
    rw [show μ 101 2 = nI (c_nc C) from hR.1, if_neg (fun q => absurd ((nI_leI (by omega) (by omega)).mp q) (by omega))]
    refine dm5k hK hR hk (fun ν hK hR => ?_)
    intro v e
    rw [e, nI_1]
    exact ihj ν hK hR
theorem dm5_0 {C : gp_C} {h0 : Int64} {Q : Int64 → gk_St → Prop} {K : Int64 → gk_St → Prop} {μ : gk_St} (q0 : gp_K C μ) (q1 : gp_rd (c_tn C) (c_tb C) μ) (h : ∀ ν, gp_K C ν → K (dgL (g5 C) (c_nc C) h0) ν) : ∃ n, w_X8_digest_l124 Q K 101 n h0 0 μ := ⟨(c_nc C + 1), dm5 h (c_nc C) 0 μ (by omega) q0 q1⟩
theorem g6_s {C : gp_C} {h0 : Int64} {j : Nat} : dgL (g6 C) (j + 1) h0 = 31 * (31 * (31 * dgL (g6 C) j h0 + (nI (a_ov (gp_s (c_P C) 24) j)).toInt64) + (v_cr C j 0).toInt64) + (v_cr C j 1).toInt64 := rfl
set_option maxHeartbeats 4000000 in
theorem dc6 {C : gp_C} {h0 : Int64} {Q : Int64 → gk_St → Prop} {K : Int64 → gk_St → Prop} (h : ∀ ν, gp_K C ν → K (dgL (g6 C) 2 h0) ν) : ∀ (i j : Nat) (μ : gk_St), j + i = 2 → gp_K C μ → w_X7_digest_l188 Q K 0 (i + 1) (dgL (g6 C) j h0) (nI j) μ := by
  intro i
  induction i with
  | zero =>
    intro j μ hj hK
    have e : j = 2 := by omega
    subst e
    unfold w_X7_digest_l188
    rw [if_pos (by decide)]
    exact h μ hK
  | succ i ih =>
    intro j μ hj hK
    have ihj := fun ν => ih (j + 1) ν (by omega)
    rw [g6_s] at ihj
    unfold w_X7_digest_l188
    rw [if_neg (show ¬ (2 : Int32) ≤ nI j from fun q => absurd ((nI_leI (a := 2) (by omega) (by omega)).mp q) (by omega))]
    refine c_ov hK (by omega) (fun ν hK => ?_)
    unfold w_X7_mix
    refine c_cr (w := 0) hK (by omega) (by omega) (fun ν hK => ?_)
    refine c_cr (w := 1) hK (by omega) (by omega) (fun ν hK => ?_)
    intro v e
    rw [e, nI_1]
    exact ihj ν hK
theorem dc6_0 {C : gp_C} {h0 : Int64} {Q : Int64 → gk_St → Prop} {K : Int64 → gk_St → Prop} {μ : gk_St} (q0 : gp_K C μ) (h : ∀ ν, gp_K C ν → K (dgL (g6 C) 2 h0) ν) : ∃ n, w_X7_digest_l188 Q K 0 n h0 0 μ := ⟨3, dc6 h 2 0 μ (by omega) q0⟩
set_option maxHeartbeats 4000000 in
theorem dm6 {C : gp_C} {h0 : Int64} {Q : Int64 → gk_St → Prop} {K : Int64 → gk_St → Prop} (h : ∀ ν, gp_K C ν → K (dgL (g6 C) 2 h0) ν) : ∀ (i j : Nat) (μ : gk_St), j + i = 2 → gp_K C μ → w_X8_digest_l147 Q K 101 (i + 1) (dgL (g6 C) j h0) (nI j) μ := by
  intro i
  induction i with
  | zero =>
    intro j μ hj hK
    have e : j = 2 := by omega
    subst e
    unfold w_X8_digest_l147
    rw [if_pos (by decide)]
    exact h μ hK
  | succ i ih =>
    intro j μ hj hK
    have ihj := fun ν => ih (j + 1) ν (by omega)
    rw [g6_s] at ihj
    unfold w_X8_digest_l147
    rw [if_neg (show ¬ (2 : Int32) ≤ nI j from fun q => absurd ((nI_leI (a := 2) (by omega) (by omega)).mp q) (by omega))]
    refine m_ov hK (by omega) (fun ν hK hR => ?_)
    intro v35 e35
    refine m_cr (w := 0) hK (by omega) (by omega) (fun ν hK hR => ?_)
    intro v38 e38
    refine m_cr (w := 1) hK (by omega) (by omega) (fun ν hK hR => ?_)
    intro v41 e41 v42 e42
    rw [e42, nI_1, e41, e38, e35]
    exact ihj ν hK
theorem dm6_0 {C : gp_C} {h0 : Int64} {Q : Int64 → gk_St → Prop} {K : Int64 → gk_St → Prop} {μ : gk_St} (q0 : gp_K C μ) (h : ∀ ν, gp_K C ν → K (dgL (g6 C) 2 h0) ν) : ∃ n, w_X8_digest_l147 Q K 101 n h0 0 μ := ⟨3, dm6 h 2 0 μ (by omega) q0⟩
def v_dg (C : gp_C) (F : Nat → Int32) (n a b : Nat) : Int64 := g7c C n a b (g7b C (g7a C (dgL (g6 C) 2 (dgL (g5 C) (c_nc C) (dgL (g4 C) 24 (dgL (g3 C) 12 (dgL (g2 F) 3 (dgL (g1 C) 8 17))))))))
theorem g7a_e {C : gp_C} {h : Int64} : g7a C h = 31 * (31 * (31 * (31 * (31 * h + (gp_ps (c_P C) 24).toInt64) + (v_fi C 0).toInt64) + (v_fi C 1).toInt64) + (v_id C).toInt64) + (nI (gp_left (c_P C))).toInt64 := rfl
theorem g7b_e {C : gp_C} {h : Int64} : g7b C h = 31 * (31 * (31 * (31 * (31 * (31 * h + (v_pc C 8 0).toInt64) + (v_pc C 8 1).toInt64) + (v_ch C 8 0).toInt64) + (v_ch C 8 1).toInt64) + (v_chn C 5 17 0)) + (v_chn C 5 17 1) := rfl
theorem g7c_e {C : gp_C} {n a b : Nat} {h : Int64} : g7c C n a b h = 31 * (31 * (31 * (31 * (31 * h + (v_sn n).toInt64) + (v_sw n a b 0).toInt64) + (v_ne C).toInt64) + (v_ye C 7 18 0).toInt64) + (v_ye C 7 18 1).toInt64 := rfl
set_option maxHeartbeats 4000000 in
theorem c_dig {C : gp_C} {F : Nat → Int32} (hF : gp_isV C F) {n a b : Nat} (hP : gp_isP C n a b) {μ : gk_St} (hK : gp_K C μ) {Q : Int64 → gk_St → Prop} (h : ∀ ν, gp_K C ν → Q (v_dg C F n a b) ν) : w_X7_digest 0 μ Q := by
  unfold v_dg at h
  rw [g7a_e, g7b_e, g7c_e] at h
  unfold w_X7_digest w_X7_digestTold
  refine dc1_0 hK (fun ν hK => ?_)
  refine dc2_0 hF hK (fun ν hK => ?_)
  refine dc3_0 hK (fun ν hK => ?_)
  refine dc4_0 hK (fun ν hK => ?_)
  refine dc5_0 hK (fun ν hK => ?_)
  refine dc6_0 hK (fun ν hK => ?_)
  refine c_su hK (fun ν hK => ?_)
  refine c_mix ?_
  refine c_fi2 (w := 0) hK (by omega) (fun ν hK => ?_)
  refine c_mix ?_
  refine c_fi2 (w := 1) hK (by omega) (fun ν hK => ?_)
  refine c_mix ?_
  refine c_id hK (fun ν hK => ?_)
  refine c_mix ?_
  refine c_le hK (fun ν hK => ?_)
  refine c_mix ?_
  refine c_pa (t := 8) (w := 0) hK (by omega) (by omega) (fun ν hK => ?_)
  refine c_mix ?_
  refine c_pa (t := 8) (w := 1) hK (by omega) (by omega) (fun ν hK => ?_)
  refine c_mix ?_
  refine c_ch (t := 8) (w := 0) hK (by omega) (by omega) (fun ν hK => ?_)
  refine c_mix ?_
  refine c_ch (t := 8) (w := 1) hK (by omega) (by omega) (fun ν hK => ?_)
  refine c_mix ?_
  refine c_chn (c := 5) (t := 17) (w := 0) hK (by omega) (by omega) (by omega) (fun ν hK => ?_)
  refine c_mix ?_
  refine c_chn (c := 5) (t := 17) (w := 1) hK (by omega) (by omega) (by omega) (fun ν hK => ?_)
  refine c_mix ?_
  refine c_spn hP hK (fun ν hK => ?_)
  refine c_mix ?_
  refine c_spw (w := 0) hP hK (by omega) (fun ν hK => ?_)
  refine c_mix ?_
  refine c_nv hK (fun ν hK => ?_)
  refine c_mix ?_
  refine c_ye (seed := 7) (n := 18) (w := 0) hK (by omega) (by omega) (fun ν hK => ?_)
  refine c_mix ?_
  refine c_ye (seed := 7) (n := 18) (w := 1) hK (by omega) (by omega) (fun ν hK => ?_)
  refine c_mix ?_
  exact h ν hK
set_option maxHeartbeats 4000000 in
theorem m_dig {C : gp_C} {F : Nat → Int32} (hF : gp_isV C F) {n a b : Nat} (hn : n ≤ 3) (hP : gp_isP C n a b) {μ : gk_St} (hK : gp_K C μ) {Q : Int64 → gk_St → Prop} (h : ∀ ν, gp_K C ν → Q (v_dg C F n a b) ν) : w_X8_digest 101 μ Q := by
  unfold v_dg at h
  rw [g7a_e, g7b_e, g7c_e] at h
  unfold w_X8_digest
  refine dm1_0 hK (fun ν hK => ?_)
  refine dm2_0 hF hK (fun ν hK => ?_)
  refine dm3_0 hK (fun ν hK => ?_)
  refine dm4_0 hK (fun ν hK hR => ?_)
  refine dm5_0 hK hR (fun ν hK => ?_)
  refine dm6_0 hK (fun ν hK => ?_)
  refine m_su hK (fun ν hK hR => ?_)
  intro v1 e1
  refine m_fi2 (w := 0) hK (by omega) (fun ν hK hR => ?_)
  intro v2 e2
  refine m_fi2 (w := 1) hK (by omega) (fun ν hK hR => ?_)
  intro v3 e3
  refine m_id hK (fun ν hK hR => ?_)
  intro v4 e4
  refine m_le hK (fun ν hK hR => ?_)
  intro v5 e5
  rw [← e1, ← e2, ← e3, ← e4, ← e5] at h
  refine m_pa (t := 8) (w := 0) hK (by omega) (by omega) (fun ν hK hR => ?_)
  intro v6 e6
  refine m_pa (t := 8) (w := 1) hK (by omega) (by omega) (fun ν hK hR => ?_)
  intro v7 e7
  refine m_ch (t := 8) (w := 0) hK (by omega) (by omega) (fun ν hK hR => ?_)
  intro v8 e8
  refine m_ch (t := 8) (w := 1) hK (by omega) (by omega) (fun ν hK hR => ?_)
  intro v9 e9
  refine m_chn (c := 5) (t := 17) (w := 0) hK (by omega) (by omega) (by omega) (fun ν hK hR => ?_)
  intro v10 e10
  refine m_chn (c := 5) (t := 17) (w := 1) hK (by omega) (by omega) (by omega) (fun ν hK hR => ?_)
  intro v11 e11
  rw [← e6, ← e7, ← e8, ← e9, ← e10, ← e11] at h
  refine m_sp hP hK (fun ν hK hR h1 h2 => ?_)
  intro v12 e12
  refine m_row (w := 0) hn h1 h2 (by omega) ?_
  intro v13 e13
  refine m_nv hK (fun ν hK hR => ?_)
  intro v14 e14
  refine m_ye (seed := 7) (n := 18) (w := 0) hK (by omega) (by omega) (fun ν hK hR => ?_)
  intro v15 e15
  refine m_ye (seed := 7) (n := 18) (w := 1) hK (by omega) (by omega) (fun ν hK hR => ?_)
  rw [← e12, ← e13, ← e14, ← e15] at h
  exact h ν hK
theorem k_ok_digest : ok_digest gp_Inv := by
  intro μ ⟨C, hK⟩
  obtain ⟨n, a, b, hP⟩ := gp_isP_ex C
  have hn : n ≤ 3 := by
    rcases gp_isP_c hK.1 hP with h | ⟨h, _⟩ | ⟨h, _⟩ | h <;> omega
  refine c_dig (gp_isV_K hK) hP hK (fun ν hK2 => ?_)
  exact m_dig (gp_isV_K hK) hn hP hK2 (fun ξ hK3 => ⟨rfl, C, hK3⟩)
