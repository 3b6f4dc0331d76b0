/-! the class's Plan, as told -/
set_option maxHeartbeats 4000000 in
theorem s_fillL {a L : Nat} (hL : gk_ln a = L) (hL9 : L < 1000) {x : Int32} {Q K : gk_St → Prop} : ∀ (i j : Nat) (μ : gk_St), j + i = L → (∀ t, t < j → μ a t = x) → (∀ ν, (∀ t, t < L → ν a t = x) → (∀ c, c ≠ a → ν c = μ c) → K ν) → w_J7_fill_53178_l5 Q K a (i + 1) x (nI j) (nI L) μ := by
  intro i
  induction i with
  | zero =>
    intro j μ hj hs h
    have e : j = L := by omega
    subst e
    unfold w_J7_fill_53178_l5
    rw [if_pos (Int32.le_refl _)]
    exact h μ hs (fun _ _ => rfl)
  | succ i ih =>
    intro j μ hj hs h
    unfold w_J7_fill_53178_l5
    rw [if_neg (fun q => absurd ((nI_leI (by omega) (by omega)).mp q) (by omega)), kc (k := j) (by omega)]
    refine ⟨vi (by omega) hL hL9, ?_⟩
    intro m2 e2 v3 e3
    rw [e3, nI_1]
    have f1 : ∀ c, c ≠ a → m2 c = μ c := fun c q => by rw [e2]; simp [gk_up, q]
    have g1 : m2 a = upd (μ a) j x := by rw [e2]; simp [gk_up]
    refine ih (j + 1) m2 (by omega) (fun t ht => ?_) (fun ν r1 r2 => h ν r1 (fun c q => (r2 c q).trans (f1 c q)))
    rw [g1]
    by_cases e : t = j
    · subst e
      rw [upd_s]
    · rw [upd_n e]
      exact hs t (by omega)
theorem s_fill {a L : Nat} (hL : gk_ln a = L) (hL9 : L < 1000) {x : Int32} {μ : gk_St} {Q : gk_St → Prop} (h : ∀ ν, (∀ t, t < L → ν a t = x) → (∀ c, c ≠ a → ν c = μ c) → Q ν) : w_J7_fill_53178 a x μ Q := by
  unfold w_J7_fill_53178
  intro v1 e1
  refine ⟨L + 1, ?_⟩
  have e : v1 = nI L := by rw [e1, hL]; rfl
  rw [e]
  exact s_fillL hL hL9 L 0 μ (by omega) (fun t ht => absurd ht (Nat.not_lt_zero t)) h
set_option maxHeartbeats 4000000 in
theorem s_tcL {n : Nat} (hn : n ≤ 6) {F G H : Nat → Nat} {Q K : gk_St → Prop} : ∀ (i j : Nat) (μ : gk_St), j + i = n → μ 31 0 = nI n → (∀ k, k < n → μ 8 k = nI (F k) ∧ μ 9 k = nI (G k) ∧ μ 10 k = nI (H k)) → (∀ k, k < j → μ 32 k = nI (F k) ∧ μ 33 k = nI (G k) ∧ μ 34 k = nI (H k)) → (∀ ν, (∀ k, k < n → ν 32 k = nI (F k) ∧ ν 33 k = nI (G k) ∧ ν 34 k = nI (H k)) → (∀ c, c ≠ 32 → c ≠ 33 → c ≠ 34 → ν c = μ c) → K ν) → w_X1_takeCars_l15 Q K 31 7 (i + 1) (nI j) μ := by
  intro i
  induction i with
  | zero =>
    intro j μ hj h0 h1 hs h
    have e : j = n := by omega
    subst e
    unfold w_X1_takeCars_l15
    rw [h0, if_pos (Int32.le_refl _)]
    exact h μ hs (fun _ _ _ _ => rfl)
  | succ i ih =>
    intro j μ hj h0 h1 hs h
    obtain ⟨q1, q2, q3⟩ := h1 j (by omega)
    unfold w_X1_takeCars_l15
    rw [h0, if_neg (fun q => absurd ((nI_leI (by omega) (by omega)).mp q) (by omega)), rf_7_3, rf_7_4, rf_7_5, rf_31_1, rf_31_2, rf_31_3, kc (k := j) (by omega), q1]
    refine ⟨vi (n := 12) (by omega) ln_8 (by omega), vi (n := 6) (by omega) ln_32 (by omega), ?_⟩
    intro m2 e2
    have w2 : m2 9 j = nI (G j) := by rw [e2, ← q2]; simp [gk_up]
    rw [w2]
    refine ⟨vi (n := 12) (by omega) ln_9 (by omega), vi (n := 6) (by omega) ln_33 (by omega), ?_⟩
    intro m3 e3
    have w3 : m3 10 j = nI (H j) := by rw [e3, e2, ← q3]; simp [gk_up]
    rw [w3]
    refine ⟨vi (n := 12) (by omega) ln_10 (by omega), vi (n := 6) (by omega) ln_34 (by omega), ?_⟩
    intro m4 e4 v5 e5
    rw [e5, nI_1]
    have f1 : ∀ c, c ≠ 32 → c ≠ 33 → c ≠ 34 → m4 c = μ c := fun c a b d => by rw [e4, e3, e2]; simp [gk_up, a, b, d]
    have g1 : m4 32 = upd (μ 32) j (nI (F j)) := by rw [e4, e3, e2]; simp [gk_up]
    have g2 : m4 33 = upd (μ 33) j (nI (G j)) := by rw [e4, e3, e2]; simp [gk_up]
    have g3 : m4 34 = upd (μ 34) j (nI (H j)) := by rw [e4, e3, e2]; simp [gk_up]
    refine ih (j + 1) m4 (by omega) (by rw [f1 31 (by omega) (by omega) (by omega)]; exact h0) (by rw [f1 8 (by omega) (by omega) (by omega), f1 9 (by omega) (by omega) (by omega), f1 10 (by omega) (by omega) (by omega)]; exact h1) (fun t ht => ?_) (fun ν r1 r2 => h ν r1 (fun c a b d => (r2 c a b d).trans (f1 c a b d)))
    rw [g1, g2, g3]
    by_cases e : t = j
    · subst e
      rw [upd_s, upd_s, upd_s]
      exact ⟨rfl, rfl, rfl⟩
    · rw [upd_n e, upd_n e, upd_n e]
      exact hs t (by omega)
theorem s_tc {C : gp_C} {μ : gk_St} (hA : gp_kA C μ) {Q : gk_St → Prop} (h : ∀ ν, ν 31 0 = nI (c_nc C) → (∀ k, k < c_nc C → ν 32 k = nI (c_pl C k) ∧ ν 33 k = nI (c_so C k) ∧ ν 34 k = nI (c_ro C k)) → (∀ c, c ≠ 31 → c ≠ 32 → c ≠ 33 → c ≠ 34 → ν c = μ c) → Q ν) : w_X1_takeCars 31 7 μ Q := by
  have hn := c_nc6 (C := C)
  obtain ⟨t1, t2, t3, t4, t5⟩ := hA.2.1
  unfold w_X1_takeCars
  intro m1 e1
  have e6 : gk_mn (nI (c_nc C)) 6 = nI (c_nc C) := by
    have : gk_mn (nI (c_nc C)) (nI 6) = nI (min (c_nc C) 6) := nI_mn (by omega) (by omega)
    rw [show min (c_nc C) 6 = c_nc C by omega] at this
    exact this
  have e3 : μ 7 6 = nI (c_nc C) := t3
  rw [e3, e6] at e1
  have f1 : ∀ c, c ≠ 31 → m1 c = μ c := fun c q => by rw [e1]; simp [gk_up, q]
  refine ⟨c_nc C + 1, ?_⟩
  refine s_tcL hn (F := c_pl C) (G := c_so C) (H := c_ro C) (c_nc C) 0 m1 (by omega) (by rw [e1]; simp [gk_up, upd]) (by rw [f1 8 (by omega), f1 9 (by omega), f1 10 (by omega)]; exact t5) (fun k hk => absurd hk (Nat.not_lt_zero k)) (fun ν r1 r2 => ?_)
  exact h ν (by rw [r2 31 (by omega) (by omega) (by omega), e1]; simp [gk_up, upd]) r1 (fun c a b d e => (r2 c b d e).trans (f1 c a))
set_option maxHeartbeats 4000000 in
theorem s_tmL {n : Nat} (hn : n ≤ 12) {F G H : Nat → Nat} (hb : ∀ k, k < n → F k < 24 ∧ G k < 2 ∧ H k ≤ 9) {Q K : gk_St → Prop} : ∀ (i j : Nat) (μ : gk_St), j + i = n → μ 11 6 = nI n → (∀ k, k < n → μ 12 k = nI (F k) ∧ μ 13 k = nI (G k) ∧ μ 14 k = nI (H k)) → (∀ s, s < 2 → ∀ t, t < 24 → μ (37 + s) t = nI (gp_sum (fun i => if G i = s ∧ F i = t then H i else 0) j)) → (∀ ν, (∀ s, s < 2 → ∀ t, t < 24 → ν (37 + s) t = nI (gp_sum (fun i => if G i = s ∧ F i = t then H i else 0) n)) → (∀ c, c ≠ 37 → c ≠ 38 → ν c = μ c) → K ν) → w_X1_takeComings_l22 Q K 31 11 (i + 1) (nI j) μ := by
  intro i
  induction i with
  | zero =>
    intro j μ hj h0 h1 hs h
    have e : j = n := by omega
    subst e
    unfold w_X1_takeComings_l22
    rw [h0, if_pos (Int32.le_refl _)]
    exact h μ hs (fun _ _ _ => rfl)
  | succ i ih =>
    intro j μ hj h0 h1 hs h
    obtain ⟨q1, q2, q3⟩ := h1 j (by omega)
    obtain ⟨b1, b2, b3⟩ := hb j (by omega)
    have erw : gk_rw 36 (G j) = 37 + G j := by
      rcases (show G j = 0 ∨ G j = 1 by omega) with z | z
      · rw [z]
        exact rw_36_0
      · rw [z]
        exact rw_36_1
    have eln : gk_ln (37 + G j) = 24 := by
      rcases (show G j = 0 ∨ G j = 1 by omega) with z | z
      · rw [z]
        exact ln_37
      · rw [z]
        exact ln_38
    unfold w_X1_takeComings_l22
    rw [h0, if_neg (fun q => absurd ((nI_leI (by omega) (by omega)).mp q) (by omega)), rf_11_3, rf_11_4, rf_11_5, rf_31_5, kc (k := j) (by omega), q1, q2, q3, kc (k := F j) (by omega), kc (k := G j) (by omega), erw, hs (G j) b2 (F j) b1, nI_add]
    refine ⟨vi (n := 12) (by omega) ln_13 (by omega), vr (n := 2) (by omega) rl_36 (by omega), vi (n := 12) (by omega) ln_12 (by omega), vi b1 eln (by omega), vi (n := 12) (by omega) ln_14 (by omega), vi b1 eln (by omega), ?_⟩
    intro m6 e6 v7 e7
    rw [e7, nI_1]
    have f1 : ∀ c, c ≠ 37 → c ≠ 38 → m6 c = μ c := fun c a b => by rw [e6, gk_up_n (by omega)]
    refine ih (j + 1) m6 (by omega) (by rw [f1 11 (by omega) (by omega)]; exact h0) (by rw [f1 12 (by omega) (by omega), f1 13 (by omega) (by omega), f1 14 (by omega) (by omega)]; exact h1) (fun s hs2 t ht => ?_) (fun ν r1 r2 => h ν r1 (fun c a b => (r2 c a b).trans (f1 c a b)))
    show m6 (37 + s) t = nI (gp_sum _ j + (if G j = s ∧ F j = t then H j else 0))
    by_cases e : s = G j
    · subst e
      rw [e6, gk_up_s]
      by_cases d : t = F j
      · subst d
        rw [upd_s, if_pos ⟨rfl, rfl⟩]
      · rw [upd_n d, if_neg (fun q => d q.2.symm), hs (G j) hs2 t ht]
        rfl
    · rw [e6, gk_up_n (by omega), if_neg (fun q => e q.1.symm), hs s hs2 t ht]
      rfl
theorem s_tm {C : gp_C} (hC : gp_cw C) {μ : gk_St} (hA : gp_kA C μ) {Q : gk_St → Prop} (h : ∀ ν, (∀ t, t < 24 → ν 37 t = nI (p_ar (c_P C) 0 t) ∧ ν 38 t = nI (p_ar (c_P C) 1 t)) → (∀ c, c ≠ 37 → c ≠ 38 → ν c = μ c) → Q ν) : w_X1_takeComings 31 11 μ Q := by
  have hn := c_nm12 (C := C)
  have hd := c_dw hC
  obtain ⟨t1, t2, t3, t4, t5⟩ := hA.2.2.1
  unfold w_X1_takeComings
  rw [rf_31_5, z0c, z1c, rw_36_0, rw_36_1]
  refine ⟨vr (k := 0) (n := 2) (by omega) rl_36 (by omega), ?_⟩
  refine s_fill ln_37 (by omega) (fun ν a1 a2 => ?_)
  refine ⟨vr (k := 1) (n := 2) (by omega) rl_36 (by omega), ?_⟩
  refine s_fill ln_38 (by omega) (fun ξ b1 b2 => ?_)
  refine ⟨c_nm C + 1, ?_⟩
  refine s_tmL (F := d_ca (c_D C)) (G := d_ct (c_D C)) (H := d_cm (c_D C)) hn hd.2.1 (c_nm C) 0 ξ (by omega) ?_ ?_ (fun s hs t ht => ?_) (fun ζ r1 r2 => ?_)
  · rw [b2 11 (by omega), a2 11 (by omega)]
    exact t3
  · rw [b2 12 (by omega), a2 12 (by omega), b2 13 (by omega), a2 13 (by omega), b2 14 (by omega), a2 14 (by omega)]
    exact t5
  · rcases (show s = 0 ∨ s = 1 by omega) with z | z
    · subst z
      show ξ 37 t = _
      rw [b2 37 (by omega)]
      exact (a1 t ht).trans nI_0.symm
    · subst z
      exact (b1 t ht).trans nI_0.symm
  · refine h ζ (fun t ht => ⟨r1 0 (by omega) t ht, r1 1 (by omega) t ht⟩) (fun c p q => (r2 c p q).trans ((b2 c q).trans (a2 c p)))
/-- the plan but its events -/
def gp_pl0 (nc : Nat) (pl so ro : Nat → Nat) (D : gp_D) (pc : Nat → Nat) (μ : gk_St) : Prop := μ 31 0 = nI nc ∧ (∀ k, k < nc → μ 32 k = nI (pl k) ∧ μ 33 k = nI (so k) ∧ μ 34 k = nI (ro k)) ∧ ∀ t, t < 24 → μ 37 t = nI (p_ar (gp_mk nc pl so ro D pc (fun _ => true)) 0 t) ∧ μ 38 t = nI (p_ar (gp_mk nc pl so ro D pc (fun _ => true)) 1 t) ∧ μ 39 t = nI (pc t)
theorem gp_pl0_f {nc : Nat} {pl so ro : Nat → Nat} {D : gp_D} {pc : Nat → Nat} {μ ν : gk_St} (h : ∀ c, 31 ≤ c → c ≤ 39 → c ≠ 35 → ν c = μ c) (hp : gp_pl0 nc pl so ro D pc μ) : gp_pl0 nc pl so ro D pc ν := by
  unfold gp_pl0
  rw [h 31 (by omega) (by omega) (by omega), h 32 (by omega) (by omega) (by omega), h 33 (by omega) (by omega) (by omega), h 34 (by omega) (by omega) (by omega), h 37 (by omega) (by omega) (by omega), h 38 (by omega) (by omega) (by omega), h 39 (by omega) (by omega) (by omega)]
  exact hp
set_option maxHeartbeats 4000000 in
theorem s_te2 {x2 : Int32} {Q : gk_St → Prop} {K : Int32 → gk_St → Prop} : ∀ (i j : Nat) (μ : gk_St), j + i = 24 → (∀ t, t < j → μ 40 t = 0 ∧ μ 41 t = 0) → (∀ ν, (∀ t, t < 24 → ν 40 t = 0 ∧ ν 41 t = 0) → (∀ c, c ≠ 40 → c ≠ 41 → ν c = μ c) → K x2 ν) → w_X1_takeEvents_l2 Q K 31 15 (i + 1) x2 (nI j) μ := by
  intro i
  induction i with
  | zero =>
    intro j μ hj hs h
    have e : j = 24 := by omega
    subst e
    unfold w_X1_takeEvents_l2
    rw [if_pos (show (24 : Int32) ≤ nI 24 by decide)]
    exact h μ hs (fun _ _ _ => rfl)
  | succ i ih =>
    intro j μ hj hs h
    unfold w_X1_takeEvents_l2
    rw [if_neg (show ¬ (24 : Int32) ≤ nI j from fun q => absurd ((nI_leI (a := 24) (by omega) (by omega)).mp q) (by omega)), rf_31_7, rf_31_8, kc (k := j) (by omega)]
    refine ⟨vi (n := 24) (by omega) ln_40 (by omega), ?_⟩
    intro m1 e1
    refine ⟨vi (n := 24) (by omega) ln_41 (by omega), ?_⟩
    intro m2 e2 v3 e3
    rw [e3, nI_1]
    have f1 : ∀ c, c ≠ 40 → c ≠ 41 → m2 c = μ c := fun c a b => by rw [e2, e1]; simp [gk_up, a, b]
    have g1 : m2 40 = upd (μ 40) j 0 := by rw [e2, e1]; simp [gk_up]
    have g2 : m2 41 = upd (μ 41) j 0 := by rw [e2, e1]; simp [gk_up]
    refine ih (j + 1) m2 (by omega) (fun t ht => ?_) (fun ν r1 r2 => h ν r1 (fun c a b => (r2 c a b).trans (f1 c a b)))
    rw [g1, g2]
    by_cases e : t = j
    · subst e
      rw [upd_s, upd_s]
      exact ⟨rfl, rfl⟩
    · rw [upd_n e, upd_n e]
      exact hs t (by omega)
set_option maxHeartbeats 4000000 in
theorem s_tke {ek ea en : Nat} (h1 : ek < 3) (h2 : ea < 24) (h3 : en < 6) {μ : gk_St} {Q : gk_St → Prop} (h : ∀ ν, (∀ c, c ≠ 35 → c ≠ 40 → c ≠ 41 → ν c = μ c) → ν 40 = (if ek = 0 then upd (μ 40) ea 1 else μ 40) → ν 41 = (if ek = 1 then upd (μ 41) ea 1 else μ 41) → ν 35 = (if ek = 2 then upd (μ 35) en (gk_mn (μ 35 en) (nI ea)) else μ 35) → Q ν) : w_X1_takeEvent 31 (nI ek) (nI ea) (nI en) μ Q := by
  unfold w_X1_takeEvent w_X1_takeEvent_j11 w_X1_takeEvent_j23
  rw [rf_31_7, rf_31_8, rf_31_4, kc (k := ea) (by omega), kc (k := en) (by omega)]
  rcases (show ek = 0 ∨ ek = 1 ∨ ek = 2 by omega) with z | z | z
  · subst z
    rw [if_pos (by decide)]
    refine ⟨vi h2 ln_40 (by omega), ?_⟩
    intro m3 e3
    rw [if_neg (by decide), if_neg (by decide)]
    exact h m3 (fun c a b d => by rw [e3]; simp [gk_up, b]) (by rw [e3]; simp [gk_up]) (by rw [e3]; simp [gk_up]) (by rw [e3]; simp [gk_up])
  · subst z
    rw [if_neg (by decide), if_pos (by decide)]
    refine ⟨vi h2 ln_41 (by omega), ?_⟩
    intro m3 e3
    rw [if_neg (by decide)]
    exact h m3 (fun c a b d => by rw [e3]; simp [gk_up, d]) (by rw [e3]; simp [gk_up]) (by rw [e3]; simp [gk_up]) (by rw [e3]; simp [gk_up])
  · subst z
    rw [if_neg (by decide), if_neg (by decide), if_pos (by decide)]
    refine ⟨vi h3 ln_35 (by omega), vi h3 ln_35 (by omega), ?_⟩
    intro m3 e3
    exact h m3 (fun c a b d => by rw [e3]; simp [gk_up, a]) (by rw [e3]; simp [gk_up]) (by rw [e3]; simp [gk_up]) (by rw [e3]; simp [gk_up])
theorem gp_bi1 {b : Bool} (h : b = true) : gp_bi b = 1 := by rw [h]; rfl
set_option maxHeartbeats 4000000 in
theorem s_te39 {C : gp_C} (hC : gp_cw C) {x2 : Int32} {kp : Nat → Bool} (hkp : ∀ i, i < c_ne C → bt x2 i = kp i) {Q K : gk_St → Prop} : ∀ (i j : Nat) (μ : gk_St), j + i = c_ne C → gp_kE C μ → (∀ t, t < 24 → μ 40 t = gp_bi (gp_gb (c_D C) kp 0 t j) ∧ μ 41 t = gp_bi (gp_gb (c_D C) kp 1 t j)) → (∀ k, k < 6 → ∃ J, J ≤ 24 ∧ μ 35 k = nI J ∧ ∀ t, t < 24 → (J ≤ t ↔ gp_any (fun i => kp i && c_ek C i == 2 && c_en C i == k && decide (c_ea C i < t + 1)) j = true)) → (∀ ν, (∀ t, t < 24 → ν 40 t = gp_bi (gp_gb (c_D C) kp 0 t (c_ne C)) ∧ ν 41 t = gp_bi (gp_gb (c_D C) kp 1 t (c_ne C))) → (∀ k, k < 6 → ∃ J, J ≤ 24 ∧ ν 35 k = nI J ∧ ∀ t, t < 24 → (J ≤ t ↔ gp_any (fun i => kp i && c_ek C i == 2 && c_en C i == k && decide (c_ea C i < t + 1)) (c_ne C) = true)) → (∀ c, c ≠ 35 → c ≠ 40 → c ≠ 41 → ν c = μ c) → K ν) → w_X1_takeEvents_l39 Q K 31 15 (i + 1) x2 (nI j) μ := by
  have hn8 := hC.2.1.1
  intro i
  induction i with
  | zero =>
    intro j μ hj hE h1 h2 h
    have e : j = c_ne C := by omega
    subst e
    unfold w_X1_takeEvents_l39
    rw [hE.1, if_pos (Int32.le_refl _)]
    exact h μ h1 h2 (fun _ _ _ _ => rfl)
  | succ i ih =>
    intro j μ hj hE h1 h2 h
    obtain ⟨q1, q2, q3⟩ := hE.2 j (by omega)
    obtain ⟨b1, b2, b3⟩ := hC.2.1.2 j (by omega)
    have sg : ∀ kd t, gp_gb (c_D C) kp kd t (j + 1) = (gp_gb (c_D C) kp kd t j || (kp j && c_ek C j == kd && c_ea C j == t)) := fun _ _ => rfl
    have sj : ∀ k t, gp_any (fun i => kp i && c_ek C i == 2 && c_en C i == k && decide (c_ea C i < t + 1)) (j + 1) = (gp_any (fun i => kp i && c_ek C i == 2 && c_en C i == k && decide (c_ea C i < t + 1)) j || (kp j && c_ek C j == 2 && c_en C j == k && decide (c_ea C j < t + 1))) := fun _ _ => rfl
    unfold w_X1_takeEvents_l39
    rw [hE.1, if_neg (fun q => absurd ((nI_leI (by omega) (by omega)).mp q) (by omega))]
    have ek0 := hkp j (by omega)
    by_cases c : ((x2 >>> (nI j &&& 31)) &&& 1) = 1
    · have hk1 : kp j = true := by rw [← ek0]; exact (bt_iff (by omega)).mp c
      rw [if_pos c, rf_15_0, rf_15_1, rf_15_2, kc (k := j) (by omega), q1, q2, q3]
      refine ⟨vi (n := 8) (by omega) ln_16 (by omega), vi (n := 8) (by omega) ln_17 (by omega), vi (n := 8) (by omega) ln_18 (by omega), ?_⟩
      refine s_tke b1 b2 b3 (fun ν f1 g1 g2 g3 => ?_)
      intro v9 e9
      rw [e9, nI_1]
      refine ih (j + 1) ν (by omega) (gp_kE_f (fun c a b => f1 c (by omega) (by omega) (by omega)) hE) (fun t ht => ?_) (fun k hk => ?_) (fun ξ r1 r2 r3 => h ξ r1 r2 (fun c a b d => (r3 c a b d).trans (f1 c a b d)))
      · obtain ⟨w1, w2⟩ := h1 t ht
        rw [g1, g2, sg, sg, hk1, Bool.true_and, Bool.true_and]
        constructor
        · by_cases z : c_ek C j = 0
          · rw [if_pos z, show (c_ek C j == 0) = true by simpa using z, Bool.true_and]
            by_cases y : t = c_ea C j
            · subst y
              rw [upd_s]
              exact (gp_bi1 (by simp)).symm
            · rw [upd_n y, w1, show (c_ea C j == t) = false by simpa using fun q => y q.symm, Bool.or_false]
          · rw [if_neg z, w1, show (c_ek C j == 0) = false by simpa using z, Bool.false_and, Bool.or_false]
        · by_cases z : c_ek C j = 1
          · rw [if_pos z, show (c_ek C j == 1) = true by simpa using z, Bool.true_and]
            by_cases y : t = c_ea C j
            · subst y
              rw [upd_s]
              exact (gp_bi1 (by simp)).symm
            · rw [upd_n y, w2, show (c_ea C j == t) = false by simpa using fun q => y q.symm, Bool.or_false]
          · rw [if_neg z, w2, show (c_ek C j == 1) = false by simpa using z, Bool.false_and, Bool.or_false]
      · obtain ⟨J, j1, j2, j3⟩ := h2 k hk
        by_cases z : c_ek C j = 2 ∧ c_en C j = k
        · obtain ⟨z1, z2⟩ := z
          refine ⟨min J (c_ea C j), by omega, ?_, fun t ht => ?_⟩
          · rw [g3, if_pos z1, ← z2, upd_s]
            rw [← z2] at j2
            rw [j2, nI_mn (by omega) (by omega)]
          · rw [sj, hk1, show (c_ek C j == 2) = true by simpa using z1, show (c_en C j == k) = true by simpa using z2, Bool.or_eq_true, ← j3 t ht]
            simp
            omega
        · refine ⟨J, j1, ?_, fun t ht => ?_⟩
          · rw [g3]
            by_cases y : c_ek C j = 2
            · rw [if_pos y, upd_n (fun q => z ⟨y, q.symm⟩)]
              exact j2
            · rw [if_neg y]
              exact j2
          · rw [sj]
            have : (kp j && c_ek C j == 2 && c_en C j == k && decide (c_ea C j < t + 1)) = false := by
              by_cases y : c_ek C j = 2
              · have : (c_en C j == k) = false := by simpa using fun q => z ⟨y, q⟩
                rw [this, Bool.and_false, Bool.false_and]
              · have : (c_ek C j == 2) = false := by simpa using y
                rw [this, Bool.and_false, Bool.false_and, Bool.false_and]
            rw [this, Bool.or_false]
            exact j3 t ht
    · have hk0 : kp j = false := by
        rw [← ek0]
        cases hq : bt x2 j with
        | false => rfl
        | true => exact absurd ((bt_iff (by omega)).mpr hq) c
      rw [if_neg c]
      intro v e
      rw [e, nI_1]
      refine ih (j + 1) μ (by omega) hE (fun t ht => ?_) (fun k hk => ?_) h
      · rw [sg, sg, hk0]
        simp only [Bool.false_and, Bool.or_false]
        exact h1 t ht
      · obtain ⟨J, j1, j2, j3⟩ := h2 k hk
        refine ⟨J, j1, j2, fun t ht => ?_⟩
        rw [sj, hk0]
        simp only [Bool.false_and, Bool.or_false]
        exact j3 t ht
set_option maxHeartbeats 4000000 in
theorem s_te {C : gp_C} (hC : gp_cw C) {nc : Nat} (hn : nc ≤ 6) {pl so ro pc : Nat → Nat} {x2 : Int32} {kp : Nat → Bool} (hkp : ∀ i, i < c_ne C → bt x2 i = kp i) {μ : gk_St} (hE : gp_kE C μ) (h0 : gp_pl0 nc pl so ro (c_D C) pc μ) {Q : gk_St → Prop} (h : ∀ ν, gp_pla (gp_mk nc pl so ro (c_D C) pc kp) ν → gp_pl0 nc pl so ro (c_D C) pc ν → (∀ c, c ≠ 35 → c ≠ 40 → c ≠ 41 → ν c = μ c) → Q ν) : w_X1_takeEvents 31 15 x2 μ Q := by
  unfold w_X1_takeEvents
  refine ⟨25, ?_⟩
  refine s_te2 24 0 μ (by omega) (fun t ht => absurd ht (Nat.not_lt_zero t)) (fun ν a1 a2 => ?_)
  rw [rf_31_4]
  refine s_fill ln_35 (by omega) (fun ξ b1 b2 => ?_)
  refine ⟨c_ne C + 1, ?_⟩
  refine s_te39 hC hkp (c_ne C) 0 ξ (by omega) (gp_kE_f (fun c p q => by rw [b2 c (by omega), a2 c (by omega) (by omega)]) hE) (fun t ht => ?_) (fun k hk => ⟨24, by omega, b1 k hk, fun t ht => ⟨fun q => by omega, fun q => by cases q⟩⟩) (fun ζ r1 r2 r3 => ?_)
  · rw [b2 40 (by omega), b2 41 (by omega)]
    exact a1 t ht
  · have fr : ∀ c, c ≠ 35 → c ≠ 40 → c ≠ 41 → ζ c = μ c := fun c p q r => (r3 c p q r).trans ((b2 c p).trans (a2 c q r))
    have h0' := gp_pl0_f (fun c p q r => fr c r (by omega) (by omega)) h0
    refine h ζ ⟨h0'.1, h0'.2.1, fun t ht k hk => ?_, fun t ht => ?_⟩ h0' fr
    · obtain ⟨J, j1, j2, j3⟩ := r2 k (Nat.lt_of_lt_of_le hk hn)
      rw [j2, nI_leI (by omega) (by omega)]
      exact j3 t ht
    · obtain ⟨y1, y2, y3⟩ := h0'.2.2 t ht
      exact ⟨y1, y2, y3, (r1 t ht).1, (r1 t ht).2⟩
theorem s_toldSpeed {C : gp_C} (hC : gp_cw C) {μ : gk_St} (hA : gp_kA C μ) {t : Nat} (ht : t < 1000) {Q : Int32 → gk_St → Prop} (h : Q (nI (c_pc C t)) μ) : w_X7_toldSpeed 0 (nI t) μ Q := by
  obtain ⟨x1, x2, x3⟩ := hA.1 2 (by omega)
  have h24 : c_tn C 2 ≤ 24 := (hC.1 2 (by omega)).1
  have hl : μ 5 2 = nI (c_tn C 2) := x2
  have hsk := gp_isS_sk (by omega) hA.2.2.2
  have hpc : c_pc C t = if gp_sk (c_tn C 2) (c_tb C 2) = true ∧ t < c_tn C 2 then c_tb C 2 t - 48 else 1 := rfl
  rw [hpc] at h
  unfold w_X7_toldSpeed
  rw [rf_0_2, rf_5_0, hl, kc (k := t) (by omega)]
  by_cases c : μ 0 15 = -1
  · rw [if_pos c]
    have hs := hsk.mp c
    by_cases d : t < c_tn C 2
    · rw [if_pos ((nI_ltI (by omega) (by omega)).mpr d)]
      rw [if_pos ⟨hs, d⟩] at h
      have hb : μ 6 t = nI (c_tb C 2 t) := x3 t d
      have h255 := (hC.1 2 (by omega)).2 t d
      obtain ⟨y1, y2, y3⟩ := (b51 (c_tb C 2 t) (by omega)).1 (gp_sg_iff.mp (gp_sk_iff.mp hs t d))
      rw [hb, y3]
      exact ⟨vi (n := 47) (by omega) ln_6 (by omega), h⟩
    · rw [if_neg (fun q => d ((nI_ltI (by omega) (by omega)).mp q))]
      rw [if_neg (fun q => d q.2)] at h
      exact h
  · rw [if_neg c]
    rw [if_neg (fun q => c (hsk.mpr q.1))] at h
    exact h
set_option maxHeartbeats 4000000 in
theorem s_pa24 {C : gp_C} (hC : gp_cw C) {Q K : gk_St → Prop} : ∀ (i j : Nat) (μ : gk_St), j + i = 24 → gp_kA C μ → (∀ t, t < j → μ 39 t = nI (c_pc C t)) → (∀ ν, (∀ t, t < 24 → ν 39 t = nI (c_pc C t)) → (∀ c, c ≠ 39 → ν c = μ c) → K ν) → w_X7_planAsTold_l24 Q K 0 (i + 1) (nI j) μ := by
  intro i
  induction i with
  | zero =>
    intro j μ hj hA hs h
    have e : j = 24 := by omega
    subst e
    unfold w_X7_planAsTold_l24
    rw [if_pos (show (24 : Int32) ≤ nI 24 by decide)]
    exact h μ hs (fun _ _ => rfl)
  | succ i ih =>
    intro j μ hj hA hs h
    unfold w_X7_planAsTold_l24
    rw [if_neg (show ¬ (24 : Int32) ≤ nI j from fun q => absurd ((nI_leI (a := 24) (by omega) (by omega)).mp q) (by omega))]
    refine s_toldSpeed hC hA (by omega) ?_
    rw [rf_0_11, rf_31_6, kc (k := j) (by omega)]
    refine ⟨vi (n := 24) (by omega) ln_39 (by omega), ?_⟩
    intro m5 e5 v6 e6
    rw [e6, nI_1]
    have f1 : ∀ c, c ≠ 39 → m5 c = μ c := fun c a => by rw [e5]; simp [gk_up, a]
    have g1 : m5 39 = upd (μ 39) j (nI (c_pc C j)) := by rw [e5]; simp [gk_up]
    refine ih (j + 1) m5 (by omega) (gp_kA_f (fun c a b => f1 c (by omega)) (by rw [f1 0 (by omega)]) hA) (fun t ht => ?_) (fun ν r1 r2 => h ν r1 (fun c a => (r2 c a).trans (f1 c a)))
    rw [g1]
    by_cases e : t = j
    · subst e
      rw [upd_s]
    · rw [upd_n e]
      exact hs t (by omega)
set_option maxHeartbeats 4000000 in
/-- planAsTold -/
theorem s_plan {C : gp_C} {μ : gk_St} (hk : gp_K C μ) {Q : gk_St → Prop} (h : ∀ ν, gp_K C ν → gp_pla (c_P C) ν → gp_pl0 (c_nc C) (c_pl C) (c_so C) (c_ro C) (c_D C) (c_pc C) ν → gp_fC μ ν → Q ν) : w_X7_planAsTold 0 μ Q := by
  unfold w_X7_planAsTold
  rw [rf_0_11, rf_0_3, rf_0_4, rf_0_5]
  refine s_tc hk.2.1.1 (fun m1 a1 a2 a3 => ?_)
  have hA1 := gp_kA_f (fun c p q => a3 c (by omega) (by omega) (by omega) (by omega)) (by rw [a3 0 (by omega) (by omega) (by omega) (by omega)]) hk.2.1.1
  refine s_tm hk.1 hA1 (fun m2 b1 b2 => ?_)
  have hA2 := gp_kA_f (fun c p q => b2 c (by omega) (by omega)) (by rw [b2 0 (by omega) (by omega)]) hA1
  refine ⟨25, ?_⟩
  refine s_pa24 hk.1 24 0 m2 (by omega) hA2 (fun t ht => absurd ht (Nat.not_lt_zero t)) (fun m3 d1 d2 => ?_)
  have hE : gp_kE C m3 := gp_kE_f (fun c p q => by rw [d2 c (by omega), b2 c (by omega) (by omega), a3 c (by omega) (by omega) (by omega) (by omega)]) hk.2.1.2.1
  have h0 : gp_pl0 (c_nc C) (c_pl C) (c_so C) (c_ro C) (c_D C) (c_pc C) m3 := by
    refine ⟨?_, ?_, fun t ht => ⟨?_, ?_, d1 t ht⟩⟩
    · rw [d2 31 (by omega), b2 31 (by omega) (by omega)]
      exact a1
    · rw [d2 32 (by omega), b2 32 (by omega) (by omega), d2 33 (by omega), b2 33 (by omega) (by omega), d2 34 (by omega), b2 34 (by omega) (by omega)]
      exact a2
    · rw [d2 37 (by omega)]
      exact (b1 t ht).1
    · rw [d2 38 (by omega)]
      exact (b1 t ht).2
  refine s_te hk.1 c_nc6 (kp := fun _ => true) (fun i hi => ?_) hE h0 (fun m4 e1 e2 e3 => ?_)
  · have := hk.1.2.1.1
    rw [b_255, decide_eq_true (by omega)]
  · have F : gp_fC μ m4 := fun c p => (e3 c (by omega) (by omega) (by omega)).trans ((d2 c (by omega)).trans ((b2 c (by omega) (by omega)).trans (a3 c (by omega) (by omega) (by omega) (by omega))))
    exact h m4 (gp_K_fC F hk) e1 e2 F
set_option maxHeartbeats 4000000 in
/-- asTold -/
theorem s_asTold {C : gp_C} {μ : gk_St} (hk : gp_K C μ) {Q : Nat → gk_St → Prop} (h : ∀ ν, gp_K C ν → gp_rs (c_P C) 42 (gp_s (c_P C) 24) ν → gp_rec (c_P C) 42 24 ν → Q 42 ν) : w_X7_asTold 0 μ Q := by
  unfold w_X7_asTold
  rw [rf_0_12, rf_0_11]
  by_cases c : μ 0 16 = 0
  · rw [if_pos c]
    have := hk.2.1.2.2.2.2.2 c
    exact h μ hk this.1 this.2
  · rw [if_neg c]
    refine s_plan hk (fun ν a1 a2 a3 a4 => ?_)
    refine s_run_42 (c_wf hk.1) (last := 23) (by omega) a2 (fun ξ b1 b2 b3 => ?_)
    intro m3 e3
    have f1 : ∀ c, c ≠ 0 → m3 c = ξ c := fun c q => by rw [e3]; simp [gk_up, q]
    have f2 : ∀ j, j ≠ 16 → m3 0 j = ξ 0 j := fun j q => by rw [e3]; simp [gk_up, upd, q]
    have r1 := gp_rs_f (fun c p q => f1 c (by omega)) b1
    have r2 := gp_rec_f (P := c_P C) c_nc6 (fun c p q => f1 c (by omega)) b2
    refine h m3 ⟨a1.1, ⟨?_, ?_, ?_, ?_, ?_, fun _ => ⟨r1, r2⟩⟩, ?_⟩ r1 r2
    · exact gp_kA_f (fun c p q => by rw [f1 c (by omega), b3 c (by omega)]) (by rw [f2 15 (by omega), b3 0 (by omega)]) a1.2.1.1
    · exact gp_kE_f (fun c p q => by rw [f1 c (by omega), b3 c (by omega)]) a1.2.1.2.1
    · exact gp_kS_f (fun c p q => by rw [f1 c (by omega), b3 c (by omega)]) a1.2.1.2.2.1
    · exact gp_kH_f (fun c p q => by rw [f1 c (by omega), b3 c (by omega)]) a1.2.1.2.2.2.1
    · rw [f2 17 (by omega), b3 0 (by omega)]
      exact a1.2.1.2.2.2.2.1
    · exact gp_km_f (fun c p => by rw [f1 c (by omega), b3 c (by omega)]) (fun j p => by rw [f1 101 (by omega), b3 101 (by omega)]) a1.2.2
