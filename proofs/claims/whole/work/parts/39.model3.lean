/-! the reference's moments: what befalls, what is noted, the whole ride -/
def gp_mc (nc : Nat) (pl so ro : Nat → Nat) (D : gp_D) (pc : Nat → Nat) (kp : Nat → Bool) (μ : gk_St) : Prop := μ 101 2 = nI nc ∧ (∀ k, k < nc → μ 104 k = nI (pl k) ∧ μ 105 k = nI (so k) ∧ μ 106 k = nI (ro k)) ∧ μ 101 6 = nI (d_nm D) ∧ (∀ i, i < d_nm D → μ 107 i = nI (d_ca D i) ∧ μ 108 i = nI (d_ct D i) ∧ μ 109 i = nI (d_cm D i)) ∧ (∀ t, t < 24 → μ 114 t = nI (pc t)) ∧ μ 101 12 = nI (d_ne D) ∧ (∀ i, i < d_ne D → μ 111 i = nI (d_ek D i) ∧ μ 112 i = nI (d_ea D i) ∧ μ 113 i = nI (d_en D i)) ∧ ∀ i, i < d_ne D → bt (μ 101 17) i = !kp i
/-- a ride of the reference changes only this -/
def gp_f3 (μ ν : gk_St) : Prop := (∀ c, c ≠ 101 → (c < 115 ∨ 124 < c) → ν c = μ c) ∧ ∀ j, (j < 18 ∨ 30 < j) → ν 101 j = μ 101 j
theorem gp_f3_rf {μ : gk_St} : gp_f3 μ μ := ⟨fun _ _ _ => rfl, fun _ _ => rfl⟩
theorem gp_f3_tr {μ ν ξ : gk_St} (h1 : gp_f3 μ ν) (h2 : gp_f3 ν ξ) : gp_f3 μ ξ := ⟨fun c a b => (h2.1 c a b).trans (h1.1 c a b), fun j a => (h2.2 j a).trans (h1.2 j a)⟩
theorem gp_f2_f3 {μ ν : gk_St} (h : gp_f2 μ ν) : gp_f3 μ ν := ⟨fun c a b => h.1 c a (by omega), fun j a => h.2 j (by omega) (by omega) (by omega) (by omega)⟩
theorem gp_f1_f3 {μ ν : gk_St} (h : gp_f1 μ ν) : gp_f3 μ ν := gp_f2_f3 (gp_f1_f2 h)
theorem gp_mc_f3 {nc : Nat} {pl so ro : Nat → Nat} {D : gp_D} {pc : Nat → Nat} {kp : Nat → Bool} {μ ν : gk_St} (h : gp_f3 μ ν) (hm : gp_mc nc pl so ro D pc kp μ) : gp_mc nc pl so ro D pc kp ν := by
  unfold gp_mc
  rw [h.2 2 (by omega), h.2 6 (by omega), h.2 12 (by omega), h.2 17 (by omega), h.1 104 (by omega) (by omega), h.1 105 (by omega) (by omega), h.1 106 (by omega) (by omega), h.1 107 (by omega) (by omega), h.1 108 (by omega) (by omega), h.1 109 (by omega) (by omega), h.1 111 (by omega) (by omega), h.1 112 (by omega) (by omega), h.1 113 (by omega) (by omega), h.1 114 (by omega) (by omega)]
  exact hm
theorem gp_bi_b {b : Bool} : gk_b (gp_bi b) := by
  cases b
  · exact Or.inl rfl
  · exact Or.inr rfl
theorem gp_bi_or1 {b c : Bool} (h : b = true) : gp_bi (b || c) = 1 := by rw [h]; rfl
set_option maxHeartbeats 4000000 in
theorem s_mev {ek en t j : Nat} (hj : j < 8) (hek : ek < 3) (hen : en < 6) {μ : gk_St} (h11 : μ 111 j = nI ek) (h13 : μ 113 j = nI en) {g s : Bool} (h18 : μ 101 18 = gp_bi g) (h19 : μ 101 19 = gp_bi s) {Q : gk_St → Prop} {K : Int32 → gk_St → Prop} {C : Int32 → Int32 → gk_St → Prop} (h : ∀ ν, (∀ c, c ≠ 101 → ν c = μ c) → (∀ i, i ≠ 18 → i ≠ 19 → i ≠ 20 → ν 101 i = μ 101 i) → ν 101 18 = gp_bi (g || ek == 0) → ν 101 19 = gp_bi (s || ek == 1) → ν 101 20 = (μ 101 20 ||| (if ek = 2 then (1 : Int32) <<< (nI en &&& 31) else 0)) → C (nI t) (nI (j + 1)) ν) :
    (if (μ 101 18) = 0 then (vp_in (nI j) (gk_ln 111) ∧ (if (μ 111 j) = 0 then w_X8_befalls_j58 Q K C 101 101 (nI t) (nI j) μ else w_X8_befalls_j63 Q K C 101 101 (nI t) (nI j) 0 μ)) else w_X8_befalls_j58 Q K C 101 101 (nI t) (nI j) μ) := by
  have j119 : ∀ (a b x : Int32) (m : gk_St), m = gk_up (gk_up μ 101 18 a) 101 19 b → a = gp_bi (g || ek == 0) → b = gp_bi (s || ek == 1) → x = (if ek = 2 then (1 : Int32) <<< (nI en &&& 31) else 0) → w_X8_befalls_j119 Q K C 101 101 (nI t) (nI j) x (m 101 20) m := by
    intro a b x m em ha hb hx
    unfold w_X8_befalls_j119
    intro m9 e9 v10 e10
    rw [e10, nI_1]
    refine h m9 (fun c hc => by rw [e9, em]; simp [gk_up, hc]) (fun i a1 a2 a3 => by rw [e9, em]; simp [gk_up, upd, a1, a2, a3]) (by rw [e9, em, ← ha]; simp [gk_up, upd]) (by rw [e9, em, ← hb]; simp [gk_up, upd]) (by rw [e9, em, ← hx]; simp [gk_up, upd])
  have j89 : ∀ (a b : Int32), a = gp_bi (g || ek == 0) → b = gp_bi (s || ek == 1) → ∀ m : gk_St, m = gk_up μ 101 18 a → w_X8_befalls_j89 Q K C 101 101 (nI t) (nI j) b m := by
    intro a b ha hb m em
    unfold w_X8_befalls_j89
    refine ⟨by rw [hb]; exact gp_bi_b, ?_⟩
    intro m8 e8
    have q1 : m8 111 j = nI ek := by rw [e8, em, ← h11]; simp [gk_up]
    have q2 : m8 113 j = nI en := by rw [e8, em, ← h13]; simp [gk_up]
    rw [rf_101_13, rf_101_15, kc (k := j) (by omega), q1, q2]
    refine ⟨vi hj ln_111 (by omega), ?_⟩
    by_cases c : ek = 2
    · rw [if_pos (show nI ek = 2 by rw [c]; decide)]
      exact ⟨vi hj ln_113 (by omega), j119 a b _ m8 (by rw [e8, em]) ha hb (by rw [if_pos c])⟩
    · rw [if_neg (show ¬ nI ek = 2 from fun q => c ((nI_eq (b := 2) (by omega) (by omega)).mp q))]
      exact j119 a b _ m8 (by rw [e8, em]) ha hb (by rw [if_neg c])
  have j63 : ∀ (a : Int32), a = gp_bi (g || ek == 0) → w_X8_befalls_j63 Q K C 101 101 (nI t) (nI j) a μ := by
    intro a ha
    unfold w_X8_befalls_j63
    refine ⟨by rw [ha]; exact gp_bi_b, ?_⟩
    intro m7 e7
    have q1 : m7 111 j = nI ek := by rw [e7, ← h11]; simp [gk_up]
    have q2 : m7 101 19 = gp_bi s := by rw [e7, ← h19]; simp [gk_up, upd]
    rw [rf_101_13, kc (k := j) (by omega), q1, q2]
    unfold w_X8_befalls_j84
    by_cases c : s = true
    · rw [if_neg (show ¬ gp_bi s = 0 by rw [c]; decide)]
      exact j89 a 1 ha (gp_bi_or1 c).symm m7 e7
    · have c' : s = false := by simpa using c
      rw [if_pos (show gp_bi s = 0 by rw [c']; rfl)]
      refine ⟨vi hj ln_111 (by omega), ?_⟩
      by_cases d : ek = 1
      · rw [if_pos (show nI ek = 1 by rw [d]; decide)]
        exact j89 a 1 ha (by rw [c', d]; rfl) m7 e7
      · rw [if_neg (show ¬ nI ek = 1 from fun q => d ((nI_eq (b := 1) (by omega) (by omega)).mp q))]
        exact j89 a 0 ha (by rw [c', show (ek == 1) = false by simpa using d]; rfl) m7 e7
  rw [h18, h11]
  unfold w_X8_befalls_j58
  by_cases c : g = true
  · rw [if_neg (show ¬ gp_bi g = 0 by rw [c]; decide)]
    exact j63 1 (gp_bi_or1 c).symm
  · have c' : g = false := by simpa using c
    rw [if_pos (show gp_bi g = 0 by rw [c']; rfl)]
    refine ⟨vi hj ln_111 (by omega), ?_⟩
    by_cases d : ek = 0
    · rw [if_pos (show nI ek = 0 by rw [d]; decide)]
      exact j63 1 (by rw [c', d]; rfl)
    · rw [if_neg (show ¬ nI ek = 0 from fun q => d ((nI_eq (b := 0) (by omega) (by omega)).mp q))]
      exact j63 0 (by rw [c', show (ek == 0) = false by simpa using d]; rfl)
def gp_jt (D : gp_D) (kp : Nat → Bool) (t k n : Nat) : Bool := gp_any (fun i => kp i && d_ek D i == 2 && d_en D i == k && d_ea D i == t) n
theorem gp_any_or {f g h : Nat → Bool} : ∀ {n : Nat}, (∀ i, i < n → h i = (f i || g i)) → gp_any h n = (gp_any f n || gp_any g n)
  | 0, _ => rfl
  | n + 1, q => by
    show (gp_any h n || h n) = ((gp_any f n || f n) || (gp_any g n || g n))
    rw [gp_any_or (fun i hi => q i (by omega)), q n (by omega)]
    cases gp_any f n <;> cases gp_any g n <;> cases f n <;> cases g n <;> rfl
theorem gp_jb_succ {D : gp_D} {kp : Nat → Bool} {t k : Nat} : gp_jb D kp (t + 1) k = (gp_jb D kp t k || gp_jt D kp t k (d_ne D)) := by
  refine gp_any_or (fun i _ => ?_)
  have : decide (d_ea D i < t + 1) = (decide (d_ea D i < t) || d_ea D i == t) := by
    by_cases a : d_ea D i < t
    · simp [a, show d_ea D i < t + 1 by omega]
    · by_cases b : d_ea D i = t
      · simp [b]
      · simp [a, b, show ¬ d_ea D i < t + 1 by omega]
  rw [this]
  cases kp i && d_ek D i == 2 && d_en D i == k <;> simp
set_option maxHeartbeats 4000000 in
theorem s_mevL {nc : Nat} {pl so ro : Nat → Nat} {D : gp_D} {pc : Nat → Nat} {kp : Nat → Bool} (hD : gp_dw D) {t : Nat} (ht : t < 24) {J : Nat → Bool} {Q : gk_St → Prop} {K : Int32 → gk_St → Prop} : ∀ (i j : Nat) (μ : gk_St), j + i = d_ne D → gp_mc nc pl so ro D pc kp μ → μ 101 18 = gp_bi (gp_gb D kp 0 t j) → μ 101 19 = gp_bi (gp_gb D kp 1 t j) → (∀ k, k < 6 → bt (μ 101 20) k = (J k || gp_jt D kp t k j)) → (∀ ν, (∀ c, c ≠ 101 → ν c = μ c) → (∀ i, i ≠ 18 → i ≠ 19 → i ≠ 20 → ν 101 i = μ 101 i) → ν 101 18 = gp_bi (gp_gb D kp 0 t (d_ne D)) → ν 101 19 = gp_bi (gp_gb D kp 1 t (d_ne D)) → (∀ k, k < 6 → bt (ν 101 20) k = (J k || gp_jt D kp t k (d_ne D))) → K (nI t) ν) → w_X8_befalls_l12 Q K 101 (i + 1) (nI t) (nI j) μ := by
  have hn8 := hD.2.2.1
  intro i
  induction i with
  | zero =>
    intro j μ hj hm h1 h2 h3 h
    have e : j = d_ne D := by omega
    subst e
    unfold w_X8_befalls_l12
    rw [hm.2.2.2.2.2.1, if_pos (Int32.le_refl _)]
    exact h μ (fun _ _ => rfl) (fun _ _ _ _ => rfl) h1 h2 h3
  | succ i ih =>
    intro j μ hj hm h1 h2 h3 h
    have hjn : j < d_ne D := by omega
    have hw := hD.2.2.2 j hjn
    have hc := hm.2.2.2.2.2.2.1 j hjn
    have hkp := hm.2.2.2.2.2.2.2 j hjn
    have key : ∀ ν, (∀ c, c ≠ 101 → ν c = μ c) → (∀ i, i ≠ 18 → i ≠ 19 → i ≠ 20 → ν 101 i = μ 101 i) → ν 101 18 = gp_bi (gp_gb D kp 0 t (j + 1)) → ν 101 19 = gp_bi (gp_gb D kp 1 t (j + 1)) → (∀ k, k < 6 → bt (ν 101 20) k = (J k || gp_jt D kp t k (j + 1))) → w_X8_befalls_l12 Q K 101 (i + 1) (nI t) (nI (j + 1)) ν := by
      intro ν f1 f2 g1 g2 g3
      refine ih (j + 1) ν (by omega) ?_ g1 g2 g3 (fun ξ q1 q2 q3 q4 q5 => h ξ (fun c hc => (q1 c hc).trans (f1 c hc)) (fun i a b c => (q2 i a b c).trans (f2 i a b c)) q3 q4 q5)
      unfold gp_mc
      rw [f2 2 (by omega) (by omega) (by omega), f2 6 (by omega) (by omega) (by omega), f2 12 (by omega) (by omega) (by omega), f2 17 (by omega) (by omega) (by omega), f1 104 (by omega), f1 105 (by omega), f1 106 (by omega), f1 107 (by omega), f1 108 (by omega), f1 109 (by omega), f1 111 (by omega), f1 112 (by omega), f1 113 (by omega), f1 114 (by omega)]
      exact hm
    have sg : ∀ kd, gp_gb D kp kd t (j + 1) = (gp_gb D kp kd t j || (kp j && d_ek D j == kd && d_ea D j == t)) := fun _ => rfl
    have sj : ∀ k, gp_jt D kp t k (j + 1) = (gp_jt D kp t k j || (kp j && d_ek D j == 2 && d_en D j == k && d_ea D j == t)) := fun _ => rfl
    have skip : (kp j = false ∨ d_ea D j ≠ t) → w_X8_befalls_l12 Q K 101 (i + 1) (nI t) (nI (j + 1)) μ := by
      intro q
      have z : ∀ b : Bool, (kp j && b && d_ea D j == t) = false := fun b => by
        rcases q with q | q
        · rw [q]; rfl
        · rw [show (d_ea D j == t) = false by simpa using q, Bool.and_false]
      refine key μ (fun _ _ => rfl) (fun _ _ _ _ => rfl) ?_ ?_ (fun k hk => ?_)
      · rw [sg, z, Bool.or_false]
        exact h1
      · rw [sg, z, Bool.or_false]
        exact h2
      · rw [sj, Bool.and_assoc (kp j), z, Bool.or_false]
        exact h3 k hk
    unfold w_X8_befalls_l12
    rw [hm.2.2.2.2.2.1, if_neg (fun q => absurd ((nI_leI (by omega) (by omega)).mp q) (by omega)), rf_101_14, rf_101_13, kc (k := j) (by omega), hc.2.1]
    refine ⟨vi (n := 8) (by omega) ln_112 (by omega), ?_⟩
    by_cases a : d_ea D j = t
    · rw [if_pos (by rw [a])]
      unfold w_X8_isIn
      by_cases b : ((μ 101 17 >>> (nI j &&& 31)) &&& 1) = 1
      · rw [if_pos b]
        dsimp only
        rw [if_neg (by decide)]
        intro v e
        rw [e, nI_1]
        refine skip (Or.inl ?_)
        have hb := (bt_iff (by omega)).mp b
        rw [hkp] at hb
        simpa using hb
      · rw [if_neg b]
        dsimp only
        rw [if_pos rfl]
        have hk1 : kp j = true := by
          cases hq : kp j with
          | true => rfl
          | false =>
            rw [hq] at hkp
            exact absurd ((bt_iff (by omega)).mpr hkp) b
        refine s_mev (ek := d_ek D j) (en := d_en D j) (by omega) hw.1 hw.2.2 hc.1 hc.2.2 h1 h2 (fun ν f1 f2 g1 g2 g3 => ?_)
        refine key ν f1 f2 ?_ ?_ (fun k hk => ?_)
        · rw [g1, sg, hk1, a]
          simp
        · rw [g2, sg, hk1, a]
          simp
        · rw [g3, b_or, h3 k hk, sj, hk1, a]
          by_cases d : d_ek D j = 2
          · rw [if_pos d, bt_one (by omega) (by omega), d]
            by_cases e : k = d_en D j
            · rw [e]
              simp
            · have e' : ¬ d_en D j = k := fun q => e q.symm
              rw [show (d_en D j == k) = false by simpa using e']
              simp [e]
          · rw [if_neg d, b_0, show (d_ek D j == 2) = false by simpa using d]
            simp
    · rw [if_neg (fun q => a ((nI_eq (by omega) (by omega)).mp q))]
      intro v e
      rw [e, nI_1]
      exact skip (Or.inr a)
set_option maxHeartbeats 4000000 in
theorem s_mcoL {nc : Nat} {pl so ro : Nat → Nat} {D : gp_D} {pc : Nat → Nat} {kp : Nat → Bool} (hD : gp_dw D) {t : Nat} (ht : t < 24) {W : Nat → Nat} {Q K : gk_St → Prop} : ∀ (i j : Nat) (μ : gk_St), j + i = d_nm D → gp_mc nc pl so ro D pc kp μ → (∀ s, s < 2 → μ 118 s = nI (W s + gp_sum (fun i => if d_ct D i = s ∧ d_ca D i = t then d_cm D i else 0) j)) → (∀ ν, (∀ c, c ≠ 118 → ν c = μ c) → (∀ s, s < 2 → ν 118 s = nI (W s + gp_sum (fun i => if d_ct D i = s ∧ d_ca D i = t then d_cm D i else 0) (d_nm D))) → K ν) → w_X8_befalls_l131 Q K 101 (i + 1) (nI t) (nI j) μ := by
  have hn12 := hD.1
  intro i
  induction i with
  | zero =>
    intro j μ hj hm h1 h
    have e : j = d_nm D := by omega
    subst e
    unfold w_X8_befalls_l131
    rw [hm.2.2.1, if_pos (Int32.le_refl _)]
    exact h μ (fun _ _ => rfl) h1
  | succ i ih =>
    intro j μ hj hm h1 h
    have hjn : j < d_nm D := by omega
    have hw := hD.2.1 j hjn
    have hc := hm.2.2.2.1 j hjn
    have j171 : ∀ x : Nat, x = (if d_ca D j = t then d_cm D j else 0) → w_X8_befalls_j171 Q K (fun c_x1 c_x2 cm => w_X8_befalls_l131 Q K 101 (i + 1) c_x1 c_x2 cm) 101 118 (nI t) (nI j) (nI x) (μ 118 (d_ct D j)) (nI (d_ct D j)) μ := by
      intro x hx
      unfold w_X8_befalls_j171
      refine ⟨vi hw.2.1 ln_118 (by omega), ?_⟩
      intro m13 e13 v14 e14
      rw [e14, nI_1]
      rw [kc (by omega), h1 _ hw.2.1, nI_add] at e13
      have f1 : ∀ c, c ≠ 118 → m13 c = μ c := fun c hc => by rw [e13]; simp [gk_up, hc]
      refine ih (j + 1) m13 (by omega) ?_ (fun s hs => ?_) (fun ν q1 q2 => h ν (fun c hc => (q1 c hc).trans (f1 c hc)) q2)
      · unfold gp_mc
        rw [f1 101 (by omega), f1 104 (by omega), f1 105 (by omega), f1 106 (by omega), f1 107 (by omega), f1 108 (by omega), f1 109 (by omega), f1 111 (by omega), f1 112 (by omega), f1 113 (by omega), f1 114 (by omega)]
        exact hm
      · show m13 118 s = nI (W s + (gp_sum _ j + (if d_ct D j = s ∧ d_ca D j = t then d_cm D j else 0)))
        rw [e13, gk_up_s]
        by_cases e : s = d_ct D j
        · subst e
          rw [upd_s, hx]
          congr 1
          by_cases c : d_ca D j = t
          · rw [if_pos c, if_pos ⟨rfl, c⟩]
            omega
          · rw [if_neg c, if_neg (fun q => c q.2)]
            omega
        · rw [upd_n e, h1 s hs, if_neg (fun q => e q.1.symm)]
          congr 1
    unfold w_X8_befalls_l131
    rw [hm.2.2.1, if_neg (fun q => absurd ((nI_leI (by omega) (by omega)).mp q) (by omega)), rf_101_8, rf_101_25, rf_101_7, rf_101_9, kc (k := j) (by omega), hc.1, hc.2.1, hc.2.2, kc (k := d_ct D j) (by omega)]
    refine ⟨vi (n := 13) (by omega) ln_108 (by omega), vi hw.2.1 ln_118 (by omega), vi (n := 13) (by omega) ln_107 (by omega), ?_⟩
    by_cases c : d_ca D j = t
    · rw [if_pos (by rw [c])]
      exact ⟨vi (n := 13) (by omega) ln_109 (by omega), j171 _ (by rw [if_pos c])⟩
    · rw [if_neg (fun q => c ((nI_eq (by omega) (by omega)).mp q))]
      exact j171 0 (by rw [if_neg c])
set_option maxHeartbeats 4000000 in
theorem s_mbef {nc : Nat} {pl so ro : Nat → Nat} {D : gp_D} {pc : Nat → Nat} {kp : Nat → Bool} (hD : gp_dw D) {t : Nat} (ht : t < 24) {pm : Nat → Nat} {A : gp_A} {μ : gk_St} (hm : gp_mc nc pl so ro D pc kp μ) (hs : gp_ms nc pm A μ) (hb : ∀ k, k < 6 → bt (μ 101 20) k = gp_jb D kp t k) {Q : gk_St → Prop} (h : ∀ ν, gp_ms nc pm (gp_arr (gp_mk nc pl so ro D pc kp) t A) ν → (∀ k, k < 6 → bt (ν 101 20) k = gp_jb D kp (t + 1) k) → ν 101 18 = gp_bi (p_gu (gp_mk nc pl so ro D pc kp) t) → ν 101 19 = gp_bi (p_sp (gp_mk nc pl so ro D pc kp) t) → (∀ c, c ≠ 101 → c ≠ 118 → ν c = μ c) → (∀ i, i ≠ 18 → i ≠ 19 → i ≠ 20 → ν 101 i = μ 101 i) → Q ν) : w_X8_befalls 101 (nI t) μ Q := by
  unfold w_X8_befalls
  intro m1 e1 m2 e2
  have f1 : ∀ c, c ≠ 101 → m2 c = μ c := fun c hc => by rw [e2, e1]; simp [gk_up, hc]
  have f2 : ∀ i, i ≠ 18 → i ≠ 19 → m2 101 i = μ 101 i := fun i a b => by rw [e2, e1]; simp [gk_up, upd, a, b]
  have g1 : m2 101 18 = 0 := by rw [e2, e1]; simp [gk_up, upd]
  have g2 : m2 101 19 = 0 := by rw [e2, e1]; simp [gk_up, upd]
  refine ⟨d_ne D + 1, ?_⟩
  refine s_mevL (J := gp_jb D kp t) (kp := kp) (nc := nc) (pl := pl) (so := so) (ro := ro) (pc := pc) hD ht (d_ne D) 0 m2 (by omega) ?_ g1 g2 (fun k hk => ?_) (fun ν q1 q2 q3 q4 q5 => ?_)
  · unfold gp_mc
    rw [f2 2 (by omega) (by omega), f2 6 (by omega) (by omega), f2 12 (by omega) (by omega), f2 17 (by omega) (by omega), f1 104 (by omega), f1 105 (by omega), f1 106 (by omega), f1 107 (by omega), f1 108 (by omega), f1 109 (by omega), f1 111 (by omega), f1 112 (by omega), f1 113 (by omega), f1 114 (by omega)]
    exact hm
  · rw [f2 20 (by omega) (by omega), hb k hk]
    simp [gp_jt, gp_any]
  · refine ⟨d_nm D + 1, ?_⟩
    refine s_mcoL (W := a_wt A) (nc := nc) (pl := pl) (so := so) (ro := ro) (pc := pc) (kp := kp) hD ht (d_nm D) 0 ν (by omega) ?_ (fun s hs2 => ?_) (fun ξ r1 r2 => ?_)
    · unfold gp_mc
      rw [q2 2 (by omega) (by omega) (by omega), q2 6 (by omega) (by omega) (by omega), q2 12 (by omega) (by omega) (by omega), q2 17 (by omega) (by omega) (by omega), q1 104 (by omega), q1 105 (by omega), q1 106 (by omega), q1 107 (by omega), q1 108 (by omega), q1 109 (by omega), q1 111 (by omega), q1 112 (by omega), q1 113 (by omega), q1 114 (by omega), f2 2 (by omega) (by omega), f2 6 (by omega) (by omega), f2 12 (by omega) (by omega), f2 17 (by omega) (by omega), f1 104 (by omega), f1 105 (by omega), f1 106 (by omega), f1 107 (by omega), f1 108 (by omega), f1 109 (by omega), f1 111 (by omega), f1 112 (by omega), f1 113 (by omega), f1 114 (by omega)]
      exact hm
    · rw [q1 118 (by omega), f1 118 (by omega)]
      exact (hs.2.1 s hs2).1
    · have o1 : ∀ c, c ≠ 101 → c ≠ 118 → ξ c = μ c := fun c a b => (r1 c b).trans ((q1 c a).trans (f1 c a))
      have o2 : ∀ i, i ≠ 18 → i ≠ 19 → i ≠ 20 → ξ 101 i = μ 101 i := fun i a b c => by rw [r1 101 (by omega)]; exact (q2 i a b c).trans (f2 i a b)
      refine h ξ ⟨fun k hk => ?_, fun s hs2 => ⟨?_, ?_⟩, ?_, ?_, ?_⟩ (fun k hk => ?_) ?_ ?_ o1 o2
      · rw [o1 115 (by omega) (by omega), o1 116 (by omega) (by omega), o1 117 (by omega) (by omega)]
        exact hs.1 k hk
      · rw [r2 s hs2]
        congr 1
        show _ = gp_u (gp_u (a_wt A) 0 (a_wt A 0 + _)) 1 (a_wt A 1 + _) s
        rcases (show s = 0 ∨ s = 1 by omega) with z | z
        · rw [z, gp_un (by omega), gp_us]
          rfl
        · rw [z, gp_us]
          rfl
      · rw [o1 119 (by omega) (by omega)]
        exact (hs.2.1 s hs2).2
      · rw [o2 24 (by omega) (by omega) (by omega)]
        exact hs.2.2.1
      · rw [o2 29 (by omega) (by omega) (by omega)]
        exact hs.2.2.2.1
      · rw [o2 30 (by omega) (by omega) (by omega)]
        exact hs.2.2.2.2
      · rw [r1 101 (by omega), q5 k hk, gp_jb_succ]
      · rw [r1 101 (by omega)]
        exact q3
      · rw [r1 101 (by omega)]
        exact q4
