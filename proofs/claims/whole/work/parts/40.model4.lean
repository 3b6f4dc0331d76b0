/-! the reference's ride, its end: what is noted, moment by moment -/
def gp_mrec (P : gp_P) (n : Nat) (ν : gk_St) : Prop := ∀ t, t < n → ν 120 (2 * t) = nI (a_wt (gp_s P (t + 1)) 0) ∧ ν 120 (2 * t + 1) = nI (a_wt (gp_s P (t + 1)) 1) ∧ ν 121 t = nI (gp_sum (a_in (gp_s P (t + 1))) (p_nc P)) ∧ ν 122 t = gp_pw P t ∧ ∀ k, k < p_nc P → ν 123 (6 * t + k) = nI (a_pl (gp_s P (t + 1)) k) ∧ ν 124 (6 * t + k) = nI (a_in (gp_s P (t + 1)) k)
theorem e6c (a : Nat) : (6 : Int32) * nI a = nI (6 * a) := pk_mul 6 a
theorem e2c (a : Nat) : (2 : Int32) * nI a = nI (2 * a) := pk_mul 2 a
set_option maxHeartbeats 4000000 in
theorem s_mntL {n : Nat} (hn : n ≤ 6) {t : Nat} (ht : t < 24) {pm : Nat → Nat} {A : gp_A} {Q K : gk_St → Prop} : ∀ (i j : Nat) (μ : gk_St), j + i = n → gp_ms n pm A μ → μ 101 2 = nI n → (∀ k, k < j → μ 123 (6 * t + k) = nI (pm k) ∧ μ 124 (6 * t + k) = nI (a_in A k)) → μ 121 t = nI (gp_sum (a_in A) j) → (∀ ν, (∀ c, c ≠ 121 → c ≠ 123 → c ≠ 124 → ν c = μ c) → (∀ x, x ≠ t → ν 121 x = μ 121 x) → (∀ x, x < 6 * t ∨ 6 * t + 6 ≤ x → ν 123 x = μ 123 x ∧ ν 124 x = μ 124 x) → (∀ k, k < n → ν 123 (6 * t + k) = nI (pm k) ∧ ν 124 (6 * t + k) = nI (a_in A k)) → ν 121 t = nI (gp_sum (a_in A) n) → K ν) → w_X8_goesBy_l123 Q K 101 (i + 1) (nI t) (nI j) μ := by
  intro i
  induction i with
  | zero =>
    intro j μ hj hs h2 h3 h4 h
    have e : j = n := by omega
    subst e
    unfold w_X8_goesBy_l123
    rw [h2, if_pos (Int32.le_refl _)]
    exact h μ (fun _ _ _ _ => rfl) (fun _ _ => rfl) (fun _ _ => ⟨rfl, rfl⟩) h3 h4
  | succ i ih =>
    intro j μ hj hs h2 h3 h4 h
    have hjn : j < n := by omega
    unfold w_X8_goesBy_l123
    rw [h2, if_neg (fun q => absurd ((nI_leI (by omega) (by omega)).mp q) (by omega)), rf_101_21, rf_101_22, rf_101_34, rf_101_35, rf_101_32, e6c, nI_add, kc (k := j) (by omega), kc (k := t) (by omega), kc (k := 6 * t + j) (by omega), (hs.1 j hjn).1]
    refine ⟨vi (n := 6) (by omega) ln_115 (by omega), vi (n := 144) (by omega) ln_123 (by omega), ?_⟩
    intro m15 e15
    have q1 : m15 116 j = nI (a_in A j) := by rw [e15, ← (hs.1 j hjn).2.1]; simp [gk_up]
    rw [q1]
    refine ⟨vi (n := 6) (by omega) ln_116 (by omega), vi (n := 144) (by omega) ln_124 (by omega), ?_⟩
    intro m16 e16
    have q2 : m16 116 j = nI (a_in A j) := by rw [e16, ← q1]; simp [gk_up]
    have q3 : m16 121 t = nI (gp_sum (a_in A) j) := by rw [e16, e15, ← h4]; simp [gk_up]
    rw [q2, q3, nI_add]
    refine ⟨vi (n := 24) (by omega) ln_121 (by omega), vi (n := 6) (by omega) ln_116 (by omega), vi (n := 24) (by omega) ln_121 (by omega), ?_⟩
    intro m17 e17 v18 e18
    rw [e18, nI_1]
    have f1 : ∀ c, c ≠ 121 → c ≠ 123 → c ≠ 124 → m17 c = μ c := fun c a b d => by rw [e17, e16, e15]; simp [gk_up, a, b, d]
    have g1 : m17 121 = upd (μ 121) t (nI (gp_sum (a_in A) j + a_in A j)) := by rw [e17, e16, e15]; simp [gk_up]
    have g3 : m17 123 = upd (μ 123) (6 * t + j) (nI (pm j)) := by rw [e17, e16, e15]; simp [gk_up]
    have g4 : m17 124 = upd (μ 124) (6 * t + j) (nI (a_in A j)) := by rw [e17, e16, e15]; simp [gk_up]
    refine ih (j + 1) m17 (by omega) ?_ (by rw [f1 101 (by omega) (by omega) (by omega)]; exact h2) (fun k hk => ?_) (by rw [g1, upd_s]; rfl) (fun ν r1 r2 r3 r4 r5 => h ν (fun c a b d => (r1 c a b d).trans (f1 c a b d)) (fun x hx => (r2 x hx).trans (by rw [g1, upd_n hx])) (fun x hx => ⟨(r3 x hx).1.trans (by rw [g3, upd_n (by omega)]), (r3 x hx).2.trans (by rw [g4, upd_n (by omega)])⟩) r4 r5)
    · unfold gp_ms
      rw [f1 101 (by omega) (by omega) (by omega), f1 115 (by omega) (by omega) (by omega), f1 116 (by omega) (by omega) (by omega), f1 117 (by omega) (by omega) (by omega), f1 118 (by omega) (by omega) (by omega), f1 119 (by omega) (by omega) (by omega)]
      exact hs
    · rw [g3, g4]
      by_cases e : k = j
      · subst e
        rw [upd_s, upd_s]
        exact ⟨rfl, rfl⟩
      · rw [upd_n (by omega), upd_n (by omega)]
        exact h3 k (by omega)
set_option maxHeartbeats 4000000 in
theorem s_mj61 {P : gp_P} (hn : p_nc P ≤ 6) {t : Nat} (ht : t < 24) {μ : gk_St} (hs : gp_ms (p_nc P) (a_pl (gp_s P (t + 1))) (gp_s P (t + 1)) μ) (h2 : μ 101 2 = nI (p_nc P)) (hp : μ 101 27 = gp_pw P t) (hq : μ 101 28 = gp_ps P t) (hr : gp_mrec P t μ) {Q : gk_St → Prop} (h : ∀ ν, gp_ms (p_nc P) (a_pl (gp_s P (t + 1))) (gp_s P (t + 1)) ν → ν 101 28 = gp_ps P (t + 1) → gp_mrec P (t + 1) ν → (∀ c, c ≠ 101 → (c < 120 ∨ 124 < c) → ν c = μ c) → (∀ j, j ≠ 28 → ν 101 j = μ 101 j) → Q ν) : w_X8_goesBy_j61 Q 101 (nI t) μ := by
  unfold w_X8_goesBy_j61
  intro m10 e10
  rw [rf_101_25, rf_101_31, rf_101_33, rf_101_32, e2c, nI_1, z0c, z1c, kc (k := 2 * t) (by omega), kc (k := 2 * t + 1) (by omega), kc (k := t) (by omega)]
  refine ⟨vi (k := 0) (n := 2) (by omega) ln_118 (by omega), vi (n := 48) (by omega) ln_120 (by omega), ?_⟩
  intro m11 e11
  refine ⟨vi (k := 1) (n := 2) (by omega) ln_118 (by omega), vi (n := 48) (by omega) ln_120 (by omega), ?_⟩
  intro m12 e12
  refine ⟨vi (n := 24) (by omega) ln_122 (by omega), ?_⟩
  intro m13 e13
  refine ⟨vi (n := 24) (by omega) ln_121 (by omega), ?_⟩
  intro m14 e14
  have f1 : ∀ c, c ≠ 101 → c ≠ 120 → c ≠ 121 → c ≠ 122 → m14 c = μ c := fun c a b d e => by rw [e14, e13, e12, e11, e10]; simp [gk_up, a, b, d, e]
  have f2 : ∀ j, j ≠ 28 → m14 101 j = μ 101 j := fun j a => by rw [e14, e13, e12, e11, e10]; simp [gk_up, upd, a]
  have g28 : m14 101 28 = gp_ps P (t + 1) := by
    show _ = gp_ps P t + gp_pw P t
    rw [e14, e13, e12, e11, e10, ← hp, ← hq]
    simp [gk_up, upd]
  have g120 : m14 120 = upd (upd (μ 120) (2 * t) (μ 118 0)) (2 * t + 1) (μ 118 1) := by rw [e14, e13, e12, e11, e10]; simp [gk_up]
  have g122 : m14 122 = upd (μ 122) t (gp_pw P t) := by rw [e14, e13, e12, e11, e10, ← hp]; simp [gk_up, upd]
  have g121 : m14 121 = upd (μ 121) t 0 := by rw [e14, e13, e12, e11, e10]; simp [gk_up]
  have hs14 : gp_ms (p_nc P) (a_pl (gp_s P (t + 1))) (gp_s P (t + 1)) m14 := by
    unfold gp_ms
    rw [f2 24 (by omega), f2 29 (by omega), f2 30 (by omega), f1 115 (by omega) (by omega) (by omega) (by omega), f1 116 (by omega) (by omega) (by omega) (by omega), f1 117 (by omega) (by omega) (by omega) (by omega), f1 118 (by omega) (by omega) (by omega) (by omega), f1 119 (by omega) (by omega) (by omega) (by omega)]
    exact hs
  refine ⟨p_nc P + 1, ?_⟩
  refine s_mntL hn ht (p_nc P) 0 m14 (by omega) hs14 (by rw [f2 2 (by omega)]; exact h2) (fun k hk => absurd hk (Nat.not_lt_zero k)) (by rw [g121, upd_s]; rfl) (fun ν r1 r2 r3 r4 r5 => ?_)
  refine h ν ?_ (by rw [r1 101 (by omega) (by omega) (by omega)]; exact g28) (fun x hx => ?_) (fun c a b => ?_) (fun j a => ?_)
  · unfold gp_ms
    rw [r1 101 (by omega) (by omega) (by omega), r1 115 (by omega) (by omega) (by omega), r1 116 (by omega) (by omega) (by omega), r1 117 (by omega) (by omega) (by omega), r1 118 (by omega) (by omega) (by omega), r1 119 (by omega) (by omega) (by omega)]
    exact hs14
  · rw [r1 120 (by omega) (by omega) (by omega), r1 122 (by omega) (by omega) (by omega), g120, g122]
    by_cases e : x = t
    · subst e
      refine ⟨?_, ?_, r5, upd_s, fun k hk => r4 k hk⟩
      · rw [upd_n (by omega), upd_s]
        exact (hs.2.1 0 (by omega)).1
      · rw [upd_s]
        exact (hs.2.1 1 (by omega)).1
    · obtain ⟨w1, w2, w3, w4, w5⟩ := hr x (by omega)
      refine ⟨?_, ?_, ?_, ?_, fun k hk => ⟨?_, ?_⟩⟩
      · rw [upd_n (by omega), upd_n (by omega)]
        exact w1
      · rw [upd_n (by omega), upd_n (by omega)]
        exact w2
      · rw [r2 x e, g121, upd_n e]
        exact w3
      · rw [upd_n e]
        exact w4
      · rw [(r3 (6 * x + k) (by omega)).1, f1 123 (by omega) (by omega) (by omega) (by omega)]
        exact (w5 k hk).1
      · rw [(r3 (6 * x + k) (by omega)).2, f1 124 (by omega) (by omega) (by omega) (by omega)]
        exact (w5 k hk).2
  · rw [r1 c (by omega) (by omega) (by omega)]
    exact f1 c a (by omega) (by omega) (by omega)
  · rw [r1 101 (by omega) (by omega) (by omega)]
    exact f2 j a
theorem gp_mrec_f {P : gp_P} {n : Nat} {μ ν : gk_St} (h : ∀ c, 120 ≤ c → c ≤ 124 → ν c = μ c) (hr : gp_mrec P n μ) : gp_mrec P n ν := by
  unfold gp_mrec
  rw [h 120 (by omega) (by omega), h 121 (by omega) (by omega), h 122 (by omega) (by omega), h 123 (by omega) (by omega), h 124 (by omega) (by omega)]
  exact hr
theorem gp_stn_pl {P : gp_P} {t : Nat} {A : gp_A} {k : Nat} : ∀ j, a_pl (gp_stn P t A j) k = a_pl A k
  | 0 => rfl
  | j + 1 => by
    show a_pl (gp_sd P t j (gp_stn P t A j)) k = _
    unfold gp_sd
    split
    · exact gp_stn_pl j
    · exact gp_stn_pl j
set_option maxHeartbeats 4000000 in
theorem s_mby {nc : Nat} {pl so ro : Nat → Nat} {D : gp_D} {pc : Nat → Nat} {kp : Nat → Bool} (hD : gp_dw D) {P : gp_P} (hP : P = gp_mk nc pl so ro D pc kp) (hw : gp_wf P) {t : Nat} (ht : t < 24) {μ : gk_St} (hm : gp_mc nc pl so ro D pc kp μ) (hs : gp_ms nc (a_pl (gp_s P t)) (gp_s P t) μ) (hb : ∀ k, k < 6 → bt (μ 101 20) k = gp_jb D kp t k) (hq : μ 101 28 = gp_ps P t) (hr : gp_mrec P t μ) {Q : gk_St → Prop} (h : ∀ ν, gp_ms nc (a_pl (gp_s P (t + 1))) (gp_s P (t + 1)) ν → (∀ k, k < 6 → bt (ν 101 20) k = gp_jb D kp (t + 1) k) → ν 101 28 = gp_ps P (t + 1) → gp_mrec P (t + 1) ν → gp_f3 μ ν → Q ν) : w_X8_goesBy 101 (nI t) μ Q := by
  have hnc : p_nc P = nc := by rw [hP]; rfl
  have hpc : p_pc P = pc := by rw [hP]; rfl
  have hpj : ∀ k, p_jm P t k = gp_jb D kp (t + 1) k := fun k => by rw [hP]; rfl
  have hn6 := hw.1
  have hok := gp_ok_s hw t
  have hc1 : gp_come P (t + 1) ≤ 108 := Nat.le_trans (gp_come_mono (by omega)) hw.2.2.2
  have hok1 := gp_ok_arr (t := t) hok
  have hpl3 := hw.2.2.1 t ht
  unfold w_X8_goesBy
  refine s_mbef hD ht hm hs hb (fun m1 h1 h2 h3 h4 f1 f2 => ?_)
  rw [← hP] at h1 h3 h4
  intro m2 e2
  have c1 : ∀ c, c ≠ 101 → m2 c = m1 c := fun c hc => by rw [e2]; simp [gk_up, hc]
  have c2 : ∀ j, j ≠ 27 → m2 101 j = m1 101 j := fun j hj => by rw [e2]; simp [gk_up, upd, hj]
  have c3 : m2 101 27 = 0 := by rw [e2]; simp [gk_up, upd]
  have F2 : gp_f3 μ m2 := ⟨fun c a b => (c1 c a).trans (f1 c a (by omega)), fun j a => (c2 j (by omega)).trans (f2 j (by omega) (by omega) (by omega))⟩
  have hm2 := gp_mc_f3 F2 hm
  have h02 : gp_m0 P m2 := by
    refine ⟨by rw [hnc]; exact hm2.1, fun k hk => ?_⟩
    have := hm2.2.1 k (by omega)
    rw [hP]
    exact this.2
  have hj2 : gp_mj P t m2 := by
    refine ⟨fun k hk => ?_, ?_⟩
    · rw [c2 20 (by omega), h2 k (by omega), hpj]
    · rw [c2 18 (by omega)]
      exact h3
  have hs2 : gp_ms (p_nc P) (a_pl (gp_arr P t (gp_s P t))) (gp_arr P t (gp_s P t)) m2 := by
    rw [hnc]
    unfold gp_ms
    rw [c2 24 (by omega), c2 29 (by omega), c2 30 (by omega), c1 115 (by omega), c1 116 (by omega), c1 117 (by omega), c1 118 (by omega), c1 119 (by omega)]
    exact h1
  have hr2 : gp_mrec P t m2 := gp_mrec_f (fun c a b => by rw [c1 c (by omega), f1 c (by omega) (by omega)]) hr
  have hq2 : m2 101 28 = gp_ps P t := by rw [c2 28 (by omega), f2 28 (by omega) (by omega) (by omega)]; exact hq
  have hb2 : ∀ k, k < 6 → bt (m2 101 20) k = gp_jb D kp (t + 1) k := fun k hk => by rw [c2 20 (by omega)]; exact h2 k hk
  have fin : ∀ ξ, gp_ms (p_nc P) (a_pl (gp_s P (t + 1))) (gp_s P (t + 1)) ξ → ξ 101 27 = gp_pw P t → gp_f2 m2 ξ → w_X8_goesBy_j61 Q 101 (nI t) ξ := by
    intro ξ x1 x2 x3
    refine s_mj61 hn6 ht x1 (by rw [x3.2 2 (by omega) (by omega) (by omega) (by omega)]; exact h02.1) x2 (by rw [x3.2 28 (by omega) (by omega) (by omega) (by omega)]; exact hq2) (gp_mrec_f (fun c a b => x3.1 c (by omega) (by omega)) hr2) (fun ν y1 y2 y3 y4 y5 => ?_)
    refine h ν (by rw [← hnc]; exact y1) (fun k hk => ?_) y2 y3 (gp_f3_tr F2 (gp_f3_tr (gp_f2_f3 x3) ⟨fun c a b => y4 c a (by omega), fun j a => y5 j (by omega)⟩))
    rw [y5 20 (by omega), x3.2 20 (by omega) (by omega) (by omega) (by omega)]
    exact hb2 k hk
  have loop : ∀ n : Nat, gp_pls P t = n → n ≤ 3 → (∃ n30 : Nat, w_X8_goesBy_l30 Q (fun y7 y8 m9 => (if y8 = 0 then w_X8_servesAll 101 y7 0 m9 (fun m20 => w_X8_goesBy_j61 Q 101 y7 m20) else w_X8_goesBy_j61 Q 101 y7 m9)) 101 n30 (nI t) (nI n) 0 m2) := by
    intro n hn hn3
    refine ⟨n + 1, ?_⟩
    refine s_mgosL hw hc1 hok1 hn3 n 0 m2 (by omega) hs2 h02 hj2 c3 (fun ν z1 z2 z3 => ?_)
    by_cases z : n = 0
    · rw [if_pos (by rw [z]; exact nI_0)]
      rw [z] at z1 z2
      unfold w_X8_servesAll
      refine ⟨p_nc P + 1, ?_⟩
      refine s_mstL hw hc1 hok1 (p_nc P) 0 ν (by omega) z1 (gp_f2_m0 z3 h02) (gp_f2_mj z3 hj2) (fun ξ x1 x2 => ?_)
      have em : gp_s P (t + 1) = gp_stn P t (gp_arr P t (gp_s P t)) (p_nc P) := by
        show (gp_mo P t (gp_s P t)).1 = _
        unfold gp_mo
        rw [if_pos (hn.trans z)]
      have ep : gp_pw P t = 0 := by
        unfold gp_pw gp_mo
        rw [if_pos (hn.trans z)]
      refine fin ξ ?_ ?_ (gp_f2_tr z3 (gp_f1_f2 x2))
      · rw [em]
        exact gp_ms_congr (fun k hk => (gp_stn_pl (p_nc P)).symm) x1
      · rw [x2.2 27 (by omega) (by omega) (by omega), ep]
        exact z2
    · rw [if_neg (nI_ne0 (by omega) (by omega))]
      have em : gp_s P (t + 1) = (gp_gos P t (gp_arr P t (gp_s P t)) n).1 := by
        show (gp_mo P t (gp_s P t)).1 = _
        unfold gp_mo
        rw [hn, if_neg z]
      have ep : gp_pw P t = (gp_gos P t (gp_arr P t (gp_s P t)) n).2 := by
        unfold gp_pw gp_mo
        rw [hn, if_neg z]
      refine fin ν ?_ ?_ z3
      · rw [em]
        exact z1
      · rw [ep]
        exact z2
  have e19 : m2 101 19 = gp_bi (p_sp P t) := by rw [c2 19 (by omega)]; exact h4
  rw [e19, rf_101_16, kc (k := t) (by omega), hm2.2.2.2.2.1 t ht]
  by_cases s : p_sp P t = true
  · rw [if_neg (show ¬ gp_bi (p_sp P t) = 0 by rw [s]; decide)]
    exact loop 0 (by unfold gp_pls; rw [if_pos s]) (by omega)
  · rw [if_pos (show gp_bi (p_sp P t) = 0 from nI_b.mpr (by simpa using s))]
    refine ⟨vi ht ln_114 (by omega), ?_⟩
    intro v3 e3
    subst e3
    refine loop (pc t) ?_ (by rw [← hpc]; exact hpl3)
    unfold gp_pls
    rw [if_neg s, hpc]
set_option maxHeartbeats 4000000 in
theorem s_mruL {nc : Nat} {pl so ro : Nat → Nat} {D : gp_D} {pc : Nat → Nat} {kp : Nat → Bool} (hD : gp_dw D) {P : gp_P} (hP : P = gp_mk nc pl so ro D pc kp) (hw : gp_wf P) {Q K : gk_St → Prop} : ∀ (i t : Nat) (μ : gk_St), t + i = 24 → gp_mc nc pl so ro D pc kp μ → gp_ms nc (a_pl (gp_s P t)) (gp_s P t) μ → (∀ k, k < 6 → bt (μ 101 20) k = gp_jb D kp t k) → μ 101 28 = gp_ps P t → gp_mrec P t μ → (∀ ν, gp_ms nc (a_pl (gp_s P 24)) (gp_s P 24) ν → ν 101 28 = gp_ps P 24 → gp_mrec P 24 ν → gp_f3 μ ν → K ν) → w_X8_runs_l94 Q K 101 (i + 1) (nI t) μ := by
  intro i
  induction i with
  | zero =>
    intro t μ ht hm hs hb hq hr h
    have e : t = 24 := by omega
    subst e
    unfold w_X8_runs_l94
    rw [if_pos (show (24 : Int32) ≤ nI 24 by decide)]
    exact h μ hs hq hr gp_f3_rf
  | succ i ih =>
    intro t μ ht hm hs hb hq hr h
    unfold w_X8_runs_l94
    rw [if_neg (show ¬ (24 : Int32) ≤ nI t from fun q => absurd ((nI_leI (a := 24) (by omega) (by omega)).mp q) (by omega))]
    refine s_mby hD hP hw (by omega) hm hs hb hq hr (fun ν h1 h2 h3 h4 f => ?_)
    intro v e
    rw [e, nI_1]
    exact ih (t + 1) ν (by omega) (gp_mc_f3 f hm) h1 h2 h3 h4 (fun ξ r1 r2 r3 r4 => h ξ r1 r2 r3 (gp_f3_tr f r4))
set_option maxHeartbeats 4000000 in
theorem s_mr27 {Q K : gk_St → Prop} : ∀ (i j : Nat) (μ : gk_St), j + i = 2 → (∀ s, s < j → μ 118 s = 0 ∧ μ 119 s = 0) → (∀ ν, (∀ s, s < 2 → ν 118 s = 0 ∧ ν 119 s = 0) → (∀ c, c ≠ 118 → c ≠ 119 → ν c = μ c) → K ν) → w_X8_runs_l27 Q K 101 (i + 1) (nI j) μ := by
  intro i
  induction i with
  | zero =>
    intro j μ hj hs h
    have e : j = 2 := by omega
    subst e
    unfold w_X8_runs_l27
    rw [if_pos (show (2 : Int32) ≤ nI 2 by decide)]
    exact h μ hs (fun _ _ _ => rfl)
  | succ i ih =>
    intro j μ hj hs h
    unfold w_X8_runs_l27
    rw [if_neg (show ¬ (2 : Int32) ≤ nI j from fun q => absurd ((nI_leI (a := 2) (by omega) (by omega)).mp q) (by omega)), rf_101_25, rf_101_26, kc (k := j) (by omega)]
    refine ⟨vi (n := 2) (by omega) ln_118 (by omega), ?_⟩
    intro m6 e6
    refine ⟨vi (n := 2) (by omega) ln_119 (by omega), ?_⟩
    intro m7 e7 v8 e8
    rw [e8, nI_1]
    have f1 : ∀ c, c ≠ 118 → c ≠ 119 → m7 c = μ c := fun c a b => by rw [e7, e6]; simp [gk_up, a, b]
    have g1 : m7 118 = upd (μ 118) j 0 := by rw [e7, e6]; simp [gk_up]
    have g2 : m7 119 = upd (μ 119) j 0 := by rw [e7, e6]; simp [gk_up]
    refine ih (j + 1) m7 (by omega) (fun s hs2 => ?_) (fun ν r1 r2 => h ν r1 (fun c a b => (r2 c a b).trans (f1 c a b)))
    rw [g1, g2]
    by_cases e : s = j
    · subst e
      rw [upd_s, upd_s]
      exact ⟨rfl, rfl⟩
    · rw [upd_n e, upd_n e]
      exact hs s (by omega)
set_option maxHeartbeats 4000000 in
theorem s_mr54 {Q K : gk_St → Prop} : ∀ (i j : Nat) (μ : gk_St), j + i = 6 → (∀ s, s < j → μ 115 s = μ 104 s ∧ μ 116 s = 0 ∧ μ 117 s = 0) → (∀ ν, (∀ s, s < 6 → ν 115 s = μ 104 s ∧ ν 116 s = 0 ∧ ν 117 s = 0) → (∀ c, c ≠ 115 → c ≠ 116 → c ≠ 117 → ν c = μ c) → K ν) → w_X8_runs_l54 Q K 101 (i + 1) (nI j) μ := by
  intro i
  induction i with
  | zero =>
    intro j μ hj hs h
    have e : j = 6 := by omega
    subst e
    unfold w_X8_runs_l54
    rw [if_pos (show (6 : Int32) ≤ nI 6 by decide)]
    exact h μ hs (fun _ _ _ _ => rfl)
  | succ i ih =>
    intro j μ hj hs h
    unfold w_X8_runs_l54
    rw [if_neg (show ¬ (6 : Int32) ≤ nI j from fun q => absurd ((nI_leI (a := 6) (by omega) (by omega)).mp q) (by omega)), rf_101_3, rf_101_21, rf_101_22, rf_101_23, kc (k := j) (by omega)]
    refine ⟨vi (n := 7) (by omega) ln_104 (by omega), vi (n := 6) (by omega) ln_115 (by omega), ?_⟩
    intro m6 e6
    refine ⟨vi (n := 6) (by omega) ln_116 (by omega), ?_⟩
    intro m7 e7
    refine ⟨vi (n := 6) (by omega) ln_117 (by omega), ?_⟩
    intro m8 e8 v9 e9
    rw [e9, nI_1]
    have f1 : ∀ c, c ≠ 115 → c ≠ 116 → c ≠ 117 → m8 c = μ c := fun c a b d => by rw [e8, e7, e6]; simp [gk_up, a, b, d]
    have g1 : m8 115 = upd (μ 115) j (μ 104 j) := by rw [e8, e7, e6]; simp [gk_up]
    have g2 : m8 116 = upd (μ 116) j 0 := by rw [e8, e7, e6]; simp [gk_up]
    have g3 : m8 117 = upd (μ 117) j 0 := by rw [e8, e7, e6]; simp [gk_up]
    have g4 : m8 104 = μ 104 := f1 104 (by omega) (by omega) (by omega)
    refine ih (j + 1) m8 (by omega) (fun s hs2 => ?_) (fun ν r1 r2 => h ν (fun s hs3 => by rw [← g4]; exact r1 s hs3) (fun c a b d => (r2 c a b d).trans (f1 c a b d)))
    rw [g1, g2, g3, g4]
    by_cases e : s = j
    · subst e
      rw [upd_s, upd_s, upd_s]
      exact ⟨rfl, rfl, rfl⟩
    · rw [upd_n e, upd_n e, upd_n e]
      exact hs s (by omega)
set_option maxHeartbeats 4000000 in
/-- the reference's ride -/
theorem s_mruns {nc : Nat} {pl so ro : Nat → Nat} {D : gp_D} {pc : Nat → Nat} {kp : Nat → Bool} (hD : gp_dw D) {P : gp_P} (hP : P = gp_mk nc pl so ro D pc kp) (hw : gp_wf P) {μ : gk_St} (hm : gp_mc nc pl so ro D pc kp μ) {Q : gk_St → Prop} (h : ∀ ν, gp_ms nc (a_pl (gp_s P 24)) (gp_s P 24) ν → ν 101 28 = gp_ps P 24 → gp_mrec P 24 ν → gp_f3 μ ν → Q ν) : w_X8_runs 101 μ Q := by
  have hnc : p_nc P = nc := by rw [hP]; rfl
  have hppl : p_pl P = pl := by rw [hP]; rfl
  have hn6 := hw.1
  unfold w_X8_runs
  intro m1 e1 m2 e2 m3 e3 m4 e4 m5 e5
  have f1 : ∀ c, c ≠ 101 → m5 c = μ c := fun c a => by rw [e5, e4, e3, e2, e1]; simp [gk_up, a]
  have f2 : ∀ j, j ≠ 20 → j ≠ 24 → j ≠ 28 → j ≠ 29 → j ≠ 30 → m5 101 j = μ 101 j := fun j a b c d e => by rw [e5, e4, e3, e2, e1]; simp [gk_up, upd, a, b, c, d, e]
  have g20 : m5 101 20 = 0 := by rw [e5, e4, e3, e2, e1]; simp [gk_up, upd]
  have g24 : m5 101 24 = 0 := by rw [e5, e4, e3, e2, e1]; simp [gk_up, upd]
  have g28 : m5 101 28 = 0 := by rw [e5, e4, e3, e2, e1]; simp [gk_up, upd]
  have g29 : m5 101 29 = -1 := by rw [e5, e4, e3, e2, e1]; simp [gk_up, upd]
  have g30 : m5 101 30 = -1 := by rw [e5, e4, e3, e2, e1]; simp [gk_up, upd]
  refine ⟨3, ?_⟩
  refine s_mr27 2 0 m5 (by omega) (fun s hs => absurd hs (Nat.not_lt_zero s)) (fun ν a1 a2 => ?_)
  refine ⟨7, ?_⟩
  refine s_mr54 6 0 ν (by omega) (fun s hs => absurd hs (Nat.not_lt_zero s)) (fun ξ b1 b2 => ?_)
  have F : gp_f3 μ ξ := ⟨fun c a b => (b2 c (by omega) (by omega) (by omega)).trans ((a2 c (by omega) (by omega)).trans (f1 c a)), fun j a => by
    rw [b2 101 (by omega) (by omega) (by omega), a2 101 (by omega) (by omega)]
    exact f2 j (by omega) (by omega) (by omega) (by omega) (by omega)⟩
  have o : ∀ j, ξ 101 j = m5 101 j := fun j => by rw [b2 101 (by omega) (by omega) (by omega), a2 101 (by omega) (by omega)]
  refine ⟨25, ?_⟩
  refine s_mruL hD hP hw 24 0 ξ (by omega) (gp_mc_f3 F hm) ⟨fun k hk => ?_, fun s hs => ?_, ?_, ?_, ?_⟩ (fun k hk => ?_) (by rw [o]; exact g28) (fun t ht => absurd ht (Nat.not_lt_zero t)) (fun ζ r1 r2 r3 r4 => h ζ r1 r2 r3 (gp_f3_tr F r4))
  · obtain ⟨x1, x2, x3⟩ := b1 k (by omega)
    refine ⟨?_, x2.trans nI_0.symm, x3.trans nI_0.symm⟩
    rw [x1, a2 104 (by omega) (by omega), f1 104 (by omega), (hm.2.1 k hk).1]
    show _ = nI (p_pl P k)
    rw [hppl]
  · rw [b2 118 (by omega) (by omega) (by omega), b2 119 (by omega) (by omega) (by omega)]
    exact ⟨(a1 s hs).1.trans nI_0.symm, (a1 s hs).2.trans nI_0.symm⟩
  · rw [o]
    exact g24
  · rw [o]
    exact g29
  · rw [o]
    exact g30
  · rw [o, g20, b_0]
    have : gp_jb D kp 0 k = false := by
      cases hq : gp_jb D kp 0 k with
      | false => rfl
      | true =>
        obtain ⟨i, _, hi⟩ := gp_any_iff.mp hq
        simp at hi
    exact this.symm
