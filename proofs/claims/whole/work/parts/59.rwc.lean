/-! read, write, copy -/
def e_rd : Nat → gp_C → Nat → Nat → gp_C × Nat
  | 0, C, _, j => (C, j)
  | n + 1, C, s, j => if c_sz C s ≤ 3 * j + 2 then (C, j) else if 0 < e_v C (c_it C s (3 * j)) (c_it C s (3 * j + 1)) (c_it C s (3 * j + 2)) then e_rd n (e_C C (c_it C s (3 * j)) (c_it C s (3 * j + 1)) (c_it C s (3 * j + 2))) s (j + 1) else (C, j)
theorem e_v_c (C : gp_C) (hC : gp_cw C) (x1 x2 x3 : Int32) : (0 < e_v C x1 x2 x3 ∧ 0 ≤ e_v C x1 x2 x3 ∧ ¬ e_v C x1 x2 x3 ≤ 0) ∨ (¬ 0 < e_v C x1 x2 x3 ∧ ¬ 0 ≤ e_v C x1 x2 x3 ∧ e_v C x1 x2 x3 ≤ 0 ∧ e_C C x1 x2 x3 = C) := by
  have h8 := hC.2.1.1
  cases hr : e_r x1 x2 x3 with
  | false =>
    rw [e_vn hr, e_Cn hr]
    exact Or.inr ⟨by decide, by decide, by decide, rfl⟩
  | true =>
    by_cases c : c_ne C < 8
    · rw [e_vy hr c]
      exact Or.inl ⟨(nI_ltI (a := 0) (by omega) (by omega)).mpr (by omega), (nI_leI (a := 0) (by omega) (by omega)).mpr (by omega), fun q => absurd ((nI_leI (b := 0) (by omega) (by omega)).mp q) (by omega)⟩
    · rw [e_vf hr c, e_Cf c]
      exact Or.inr ⟨by decide, by decide, by decide, rfl⟩
theorem e_rd_cw : ∀ (n : Nat) (C : gp_C) (s j : Nat), gp_cw C → gp_cw (e_rd n C s j).1 := by
  intro n
  induction n with
  | zero => intro C s j h; exact h
  | succ n ih =>
    intro C s j h
    unfold e_rd
    split
    · exact h
    · split
      · exact ih _ _ _ (e_cw h)
      · exact h
theorem e3c (j : Nat) : (3 : Int32) * nI j = nI (3 * j) := pk_mul 3 j
set_option maxHeartbeats 4000000 in
theorem c_rdL {s : Nat} (hs : s < 4) {Q : Int32 → gk_St → Prop} {K : Int32 → gk_St → Prop} : ∀ (i j : Nat) (C : gp_C) (μ : gk_St), j + i = 20 → gp_cw C → gp_kc C μ → (∀ ν, gp_kc (e_rd i C s j).1 ν → (∀ c, 101 ≤ c → ν c = μ c) → K (nI (e_rd i C s j).2) ν) → w_X7_read_l31 Q K 0 (23 + 2 * s) (i + 1) (nI j) (nI (3 * j)) μ := by
  intro i
  obtain ⟨r1, r2⟩ := rf_h hs
  induction i with
  | zero =>
    intro j C μ hj hC hk h
    have hz := hC.2.2.2 s hs
    unfold w_X7_read_l31
    have e2 : nI (3 * j) + 2 = nI (3 * j + 2) := nI_add _ 2
    rw [(hk.2.2.2.1 s hs).2.2.1, e2, if_pos ((nI_leI (by omega) (by omega)).mpr (by omega))]
    exact h μ hk (fun _ _ => rfl)
  | succ i ih =>
    intro j C μ hj hC hk h
    have hz := hC.2.2.2 s hs
    obtain ⟨k1, k2, k3, k4⟩ := hk.2.2.2.1 s hs
    have e2 : nI (3 * j) + 2 = nI (3 * j + 2) := nI_add _ 2
    have e1 : nI (3 * j) + 1 = nI (3 * j + 1) := nI_add _ 1
    have e3 : nI (3 * j) + 3 = nI (3 * (j + 1)) := nI_add _ 3
    unfold e_rd at h
    unfold w_X7_read_l31
    rw [k3, e2, e1, e3, r1]
    by_cases c : c_sz C s ≤ 3 * j + 2
    · rw [if_pos ((nI_leI (by omega) (by omega)).mpr c)]
      rw [if_pos c] at h
      exact h μ hk (fun _ _ => rfl)
    · rw [if_neg (fun q => c ((nI_leI (by omega) (by omega)).mp q))]
      rw [if_neg c] at h
      rw [kc (k := 3 * j) (by omega), kc (k := 3 * j + 1) (by omega), kc (k := 3 * j + 2) (by omega), k4 (3 * j) (by omega), k4 (3 * j + 1) (by omega), k4 (3 * j + 2) (by omega)]
      refine ⟨vi (n := 60) (by omega) r2 (by omega), vi (n := 60) (by omega) r2 (by omega), vi (n := 60) (by omega) r2 (by omega), ?_⟩
      refine c_ev hC hk (fun ν a b => ?_)
      rcases e_v_c C hC (c_it C s (3 * j)) (c_it C s (3 * j + 1)) (c_it C s (3 * j + 2)) with ⟨p1, p2, p3⟩ | ⟨p1, p2, p3, p4⟩
      · rw [if_pos p2]
        rw [if_pos p1] at h
        intro v5 q5 v6 q6
        rw [q5, q6, nI_1]
        exact ih (j + 1) _ ν (by omega) (e_cw hC) a (fun ξ a2 b2 => h ξ a2 (fun d q => (b2 d q).trans (b d (by omega))))
      · rw [if_neg p2]
        rw [if_neg p1] at h
        rw [p4] at a
        exact h ν a (fun d q => b d (by omega))
set_option maxHeartbeats 4000000 in
theorem m_rdL {s : Nat} (hs : s < 4) {Q : Int32 → gk_St → Prop} {K : Int32 → gk_St → Prop} : ∀ (i j : Nat) (C : gp_C) (μ : gk_St), j + i = 20 → gp_cw C → gp_km C μ → (∀ ν, gp_km (e_rd i C s j).1 ν → (∀ c, c < 101 → ν c = μ c) → K (nI (e_rd i C s j).2) ν) → w_X8_read_l32 Q K 101 (i + 1) (nI s) (nI j) (nI (60 * s)) μ := by
  intro i
  induction i with
  | zero =>
    intro j C μ hj hC hk h
    have hz := hC.2.2.2 s hs
    unfold w_X8_read_l32
    have e2 : nI (3 * j) + 2 = nI (3 * j + 2) := nI_add _ 2
    rw [rf_101_44, kc (k := s) (by omega), (hk.2.2.2.1 s hs).2.2.1, e3c, e2, if_pos ((nI_leI (by omega) (by omega)).mpr (by omega))]
    exact ⟨vi hs ln_132 (by omega), h μ hk (fun _ _ => rfl)⟩
  | succ i ih =>
    intro j C μ hj hC hk h
    have hz := hC.2.2.2 s hs
    obtain ⟨k1, k2, k3, k4⟩ := hk.2.2.2.1 s hs
    have e2 : nI (3 * j) + 2 = nI (3 * j + 2) := nI_add _ 2
    have e4 : nI (60 * s) + nI (3 * j) = nI (60 * s + 3 * j) := nI_add _ _
    have e5 : nI (60 * s + 3 * j) + 1 = nI (60 * s + (3 * j + 1)) := nI_add _ 1
    have e6 : nI (60 * s + 3 * j) + 2 = nI (60 * s + (3 * j + 2)) := nI_add _ 2
    unfold e_rd at h
    unfold w_X8_read_l32
    rw [rf_101_44, rf_101_45, kc (k := s) (by omega), k3, e3c, e2, e4, e5, e6]
    refine ⟨vi hs ln_132 (by omega), ?_⟩
    by_cases c : c_sz C s ≤ 3 * j + 2
    · rw [if_pos ((nI_leI (by omega) (by omega)).mpr c)]
      rw [if_pos c] at h
      exact h μ hk (fun _ _ => rfl)
    · rw [if_neg (fun q => c ((nI_leI (by omega) (by omega)).mp q))]
      rw [if_neg c] at h
      rw [kc (k := 60 * s + 3 * j) (by omega), kc (k := 60 * s + (3 * j + 1)) (by omega), kc (k := 60 * s + (3 * j + 2)) (by omega), k4 (3 * j) (by omega), k4 (3 * j + 1) (by omega), k4 (3 * j + 2) (by omega)]
      refine ⟨vi (n := 240) (by omega) ln_133 (by omega), vi (n := 240) (by omega) ln_133 (by omega), vi (n := 240) (by omega) ln_133 (by omega), ?_⟩
      refine m_ev hC hk (fun ν a b => ?_)
      rcases e_v_c C hC (c_it C s (3 * j)) (c_it C s (3 * j + 1)) (c_it C s (3 * j + 2)) with ⟨p1, p2, p3⟩ | ⟨p1, p2, p3, p4⟩
      · rw [if_neg p3]
        rw [if_pos p1] at h
        intro v5 q5
        rw [q5, nI_1]
        exact ih (j + 1) _ ν (by omega) (e_cw hC) a (fun ξ a2 b2 => h ξ a2 (fun d q => (b2 d q).trans (b d (by omega))))
      · rw [if_pos p3]
        rw [if_neg p1] at h
        rw [p4] at a
        exact h ν a (fun d q => b d (by omega))
set_option maxHeartbeats 4000000 in
theorem k_ok_read : ok_read gp_Inv := by
  intro μ x1 ⟨C, hK⟩
  unfold w_X7_read
  rcases rg x1 3 (by omega) with ⟨s, hs, rfl⟩ | b1
  · refine s_sh_y (by omega) ?_
    dsimp only
    have hs4 : s < 4 := by omega
    rw [(hK.2.1.2.2.2.1 s hs4).1]
    by_cases l : c_lo C s = true
    · rw [if_neg (bi_t l)]
      refine c_fnd ?_
      have hm := km_F0 (f := 1) hK
      unfold w_X8_read
      refine m_sh_y hs4 ?_
      rw [if_neg i1n0, rf_101_42, kc (k := s) (by omega), (hm.2.2.2.1 s hs4).1, if_pos (show gp_bi (!c_lo C s) = 0 by rw [l]; rfl)]
      exact ⟨vi hs4 ln_130 (by omega), m_mee ⟨rfl, _, K_F hK⟩⟩
    · rw [if_pos (bi_f l)]
      refine ⟨21, ?_⟩
      refine c_rdL hs4 20 0 C μ (by omega) hK.1 hK.2.1 (fun ν a b => ?_)
      have hm : gp_km C ν := km_hi (fun c q => b c (by omega)) hK.2.2
      unfold w_X8_read
      refine m_sh_y hs4 ?_
      rw [if_neg i1n0, rf_101_42, kc (k := s) (by omega), (hm.2.2.2.1 s hs4).1, if_neg (bi_t (show (!c_lo C s) = true by simpa using l))]
      refine ⟨vi hs4 ln_130 (by omega), ?_⟩
      intro v3 e3
      have e60s : (60 : Int32) * nI s = nI (60 * s) := pk_mul 60 s
      rw [e3, e60s]
      refine ⟨21, ?_⟩
      refine m_rdL hs4 20 0 C ν (by omega) hK.1 hm (fun ξ a2 b2 => ?_)
      exact ⟨rfl, (e_rd 20 C s 0).1, e_rd_cw 20 C s 0 hK.1, kc_lo (fun c q => b2 c q) a, a2⟩
  · refine s_sh_n b1 ?_
    dsimp only
    unfold w_X8_read
    refine m_sh_n b1 ?_
    rw [if_pos rfl]
    exact ⟨rfl, C, hK⟩
/-- write -/
theorem s_mrunH {C : gp_C} {μ : gk_St} (hC : gp_cw C) (hm : gp_km C μ) {Q : gk_St → Prop} (h : ∀ ν, gp_km C ν → gp_mrec (c_P C) 24 ν → gp_fM μ ν → Q ν) : w_X8_runsTold 101 μ Q := by
  unfold w_X8_runsTold
  refine s_mast hm.1 (fun ν r1 r2 r3 r4 => ?_)
  have F := gp_fA_fM r4
  have hM : gp_km C ν := gp_km_f (fun c a => F.1 c (by omega)) F.2 hm
  refine s_mruns (P := c_P C) (c_dw hC) rfl (c_wf hC) (c_mc r1 r2 r3 hM.2.1) (fun ξ b1 b2 b3 b4 => ?_)
  have F2 := gp_fM_tr F (gp_f3_fM b4)
  exact h ξ (gp_km_f (fun c a => F2.1 c (by omega)) F2.2 hm) b3 F2
def gp_wf2 (fo : Int32) (w : Nat → Nat) (f : Nat → Int32) (m i : Nat) : Int32 := if i < m then gp_sf fo (nI (w i)) else f i
theorem gp_wf2_s {fo : Int32} {w : Nat → Nat} {f : Nat → Int32} {j i : Nat} : gp_wf2 fo w f (j + 1) i = if i = j then gp_sf fo (nI (w j)) else gp_wf2 fo w f j i := by
  unfold gp_wf2
  by_cases e : i = j
  · rw [if_pos (by omega), if_pos e, e]
  · rw [if_neg e]
    by_cases d : i < j
    · rw [if_pos (by omega), if_pos d]
    · rw [if_neg (by omega), if_neg d]
set_option maxHeartbeats 4000000 in
theorem c_wrL {o a b : Nat} (hr : gk_rf o 0 = a) (hl : gk_ln a = 60) (hb : gk_ln b = 24) (hoa : o ≠ a) (hab : b ≠ a) {n m : Nat} (hn : n ≤ 60) (hm : m ≤ n) (hm24 : m ≤ 24) {fo : Int32} {w : Nat → Nat} {f : Nat → Int32} {Q : Int32 → gk_St → Prop} {K : Int32 → gk_St → Prop} : ∀ (i j : Nat) (μ : gk_St), j + i = m → μ o 3 = nI n → μ o 2 = fo → (∀ t, t < 24 → μ b t = nI (w t)) → (∀ t, t < 60 → μ a t = gp_wf2 fo w f j t) → (∀ ν, (∀ t, t < 60 → ν a t = gp_wf2 fo w f m t) → (∀ c, c ≠ a → ν c = μ c) → K (nI m) ν) → w_X7_write_l58 Q K o b (i + 1) (nI m) (nI j) μ := by
  intro i
  induction i with
  | zero =>
    intro j μ hj h3 h2 hw hf h
    have e : j = m := by omega
    subst e
    unfold w_X7_write_l58
    rw [if_pos (Int32.le_refl _)]
    exact h μ hf (fun _ _ => rfl)
  | succ i ih =>
    intro j μ hj h3 h2 hw hf h
    unfold w_X7_write_l58
    rw [if_neg (fun q => absurd ((nI_leI (by omega) (by omega)).mp q) (by omega)), kc (k := j) (by omega), hw j (by omega)]
    refine ⟨vi (n := 24) (by omega) hb (by omega), ?_⟩
    refine c_st hr hl hn h3 (by omega) ?_
    rw [h2]
    intro v e
    rw [e, nI_1]
    refine ih (j + 1) _ (by omega) ?_ ?_ (fun t ht => ?_) (fun t ht => ?_) (fun ν q1 q2 => h ν q1 (fun c q => ?_))
    · rw [gk_up_n hoa]
      exact h3
    · rw [gk_up_n hoa]
      exact h2
    · rw [gk_up_n hab]
      exact hw t ht
    · rw [gk_up_s, gp_wf2_s]
      by_cases d : t = j
      · rw [if_pos d, d, upd_s]
      · rw [if_neg d, upd_n d]
        exact hf t ht
    · rw [q2 c q, gk_up_n q]
set_option maxHeartbeats 4000000 in
theorem m_wrL {s st : Nat} (hs : s < 4) (hst : st < 2) {n m : Nat} (hn : n ≤ 60) (hm : m = min n 24) {fo : Int32} {w : Nat → Nat} {f : Nat → Int32} {Q : Int32 → gk_St → Prop} {K : Int32 → gk_St → Prop} : ∀ (i j : Nat) (μ : gk_St), j + i = m → μ 132 s = nI n → μ 131 s = fo → (∀ t, t < 24 → μ 120 (2 * t + st) = nI (w t)) → (∀ t, t < 60 → μ 133 (60 * s + t) = gp_wf2 fo w f j t) → (∀ ν, (∀ t, t < 60 → ν 133 (60 * s + t) = gp_wf2 fo w f m t) → (∀ p, (p < 60 * s ∨ 60 * s + 60 ≤ p) → ν 133 p = μ 133 p) → (∀ c, c ≠ 133 → ν c = μ c) → K (nI m) ν) → w_X8_write_l38 Q K 101 (i + 1) (nI st) (nI s) (nI j) μ := by
  intro i
  induction i with
  | zero =>
    intro j μ hj h3 h2 hw hf h
    have e : j = m := by omega
    rw [← e] at h
    unfold w_X8_write_l38
    rw [rf_101_44, kc (k := s) (by omega), h3]
    refine ⟨vi hs ln_132 (by omega), ?_⟩
    have hK := h μ (by rw [e] at hf ⊢; exact hf) (fun _ _ => rfl) (fun _ _ => rfl)
    by_cases c : n ≤ j
    · rw [if_pos ((nI_leI (by omega) (by omega)).mpr c)]
      exact hK
    · rw [if_neg (fun q => c ((nI_leI (by omega) (by omega)).mp q)), if_pos (show (24 : Int32) ≤ nI j from (nI_leI (a := 24) (by omega) (by omega)).mpr (by omega))]
      exact hK
  | succ i ih =>
    intro j μ hj h3 h2 hw hf h
    unfold w_X8_write_l38
    have hjn : j < n ∧ j < 24 := by omega
    rw [rf_101_44, rf_101_31, kc (k := s) (by omega), h3, if_neg (fun q => absurd ((nI_leI (by omega) (by omega)).mp q) (by omega)), if_neg (show ¬ (24 : Int32) ≤ nI j from fun q => absurd ((nI_leI (a := 24) (by omega) (by omega)).mp q) (by omega)), e2c, nI_add, kc (k := 2 * j + st) (by omega), hw j (by omega)]
    refine ⟨vi hs ln_132 (by omega), vi (n := 48) (by omega) ln_120 (by omega), ?_⟩
    refine m_kp hs (by omega) ?_
    rw [h2]
    intro v e
    rw [e, nI_1]
    refine ih (j + 1) _ (by omega) ?_ ?_ (fun t ht => ?_) (fun t ht => ?_) (fun ν q1 q2 q3 => h ν q1 (fun p q => ?_) (fun c q => ?_))
    · rw [gk_up_n (by omega)]
      exact h3
    · rw [gk_up_n (by omega)]
      exact h2
    · rw [gk_up_n (by omega)]
      exact hw t ht
    · rw [gk_up_s, gp_wf2_s]
      by_cases d : t = j
      · rw [if_pos d, d, upd_s]
      · rw [if_neg d, upd_n (by omega)]
        exact hf t ht
    · rw [q2 p q, gk_up_s, upd_n (by omega)]
    · rw [q3 c q, gk_up_n q]
theorem gp_wf2_0 {fo : Int32} {w : Nat → Nat} {f : Nat → Int32} {i : Nat} : gp_wf2 fo w f 0 i = f i := if_neg (Nat.not_lt_zero i)
set_option maxHeartbeats 4000000 in
theorem k_ok_write : ok_write gp_Inv := by
  intro μ x1 x2 ⟨C, hK⟩
  unfold w_X7_write
  rcases rg x2 3 (by omega) with ⟨s, hs, rfl⟩ | b2
  · refine s_sh_y (by omega) ?_
    dsimp only
    have hs4 : s < 4 := by omega
    obtain ⟨r1, r2⟩ := rf_h hs4
    rcases rg x1 1 (by omega) with ⟨st, hst, rfl⟩ | b1
    · refine s_sta_y (by omega) ?_
      rw [if_neg i1n0, (hK.2.1.2.2.2.1 s hs4).1]
      by_cases l : c_lo C s = true
      · rw [if_neg (bi_t l)]
        refine c_fnd ?_
        have hm := km_F0 (f := 1) hK
        unfold w_X8_write
        refine m_two_y (by omega) ?_
        rw [if_neg i1n0]
        refine m_sh_y hs4 ?_
        rw [if_neg i1n0, rf_101_42, kc (k := s) (by omega), (hm.2.2.2.1 s hs4).1, if_pos (show gp_bi (!c_lo C s) = 0 by rw [l]; rfl)]
        exact ⟨vi hs4 ln_130 (by omega), m_mee ⟨rfl, _, K_F hK⟩⟩
      · rw [if_pos (bi_f l)]
        refine s_asTold hK (fun ν hK2 a b => ?_)
        obtain ⟨k1, k2, k3, k4⟩ := hK2.2.1.2.2.2.1 s hs4
        have hz := hK2.1.2.2.2 s hs4
        have hrow : gk_rw 57 st = 58 + st ∧ gk_ln (58 + st) = 24 := by
          rcases (show st = 0 ∨ st = 1 by omega) with z | z <;> subst z
          · exact ⟨rw_57_0, ln_58⟩
          · exact ⟨rw_57_1, ln_59⟩
        have hwt : ∀ t, t < 24 → ν (58 + st) t = nI (v_cf C st t) := fun t ht => by
          rcases (show st = 0 ∨ st = 1 by omega) with z | z <;> subst z
          · exact (b t ht).2.1
          · exact (b t ht).2.2.1
        rw [rf_42_2, kc (k := st) (by omega), hrow.1, k3]
        refine ⟨vr (n := 2) (by omega) rl_57 (by omega), ?_⟩
        intro v10 e10
        have e24 : gk_mn (nI (c_sz C s)) 24 = nI (min (c_sz C s) 24) := nI_mn (b := 24) (by omega) (by omega)
        rw [e10, e24]
        obtain ⟨m, hm⟩ : ∃ m, m = min (c_sz C s) 24 := ⟨_, rfl⟩
        rw [← hm]
        refine ⟨m + 1, ?_⟩
        refine c_wrL r1 r2 hrow.2 (by omega) (by omega) hz (m := m) (by omega) (by omega) (fo := c_fo C s) (w := v_cf C st) (f := c_it C s) m 0 ν (by omega) k3 k2 hwt (fun t ht => by rw [gp_wf2_0]; exact k4 t ht) (fun ξ q1 q2 => ?_)
        have hM : gp_km C ξ := km_hi (fun c q => q2 c (by omega)) hK2.2.2
        have hc : gp_kc (c_hS C s (c_lo C s) (c_fo C s) (c_sz C s) (gp_wf2 (c_fo C s) (v_cf C st) (c_it C s) m)) ξ := kc_H hs4 hK2.2.1 (by rw [q2 _ (by omega)]; exact k1) (by rw [q2 _ (by omega)]; exact k2) (by rw [q2 _ (by omega)]; exact k3) q1 (fun c p q r => q2 c r)
        unfold w_X8_write
        refine m_two_y (by omega) ?_
        rw [if_neg i1n0]
        refine m_sh_y hs4 ?_
        rw [if_neg i1n0, rf_101_42, kc (k := s) (by omega), (hM.2.2.2.1 s hs4).1, if_neg (bi_t (show (!c_lo C s) = true by simpa using l))]
        refine ⟨vi hs4 ln_130 (by omega), ?_⟩
        refine s_mrunH hK.1 hM (fun ζ g1 g2 g3 => ?_)
        obtain ⟨p1, p2, p3, p4⟩ := g1.2.2.2.1 s hs4
        have hwm : ∀ t, t < 24 → ζ 120 (2 * t + st) = nI (v_cf C st t) := fun t ht => by
          rcases (show st = 0 ∨ st = 1 by omega) with z | z <;> subst z
          · exact (g2 t ht).1
          · exact (g2 t ht).2.1
        refine ⟨m + 1, ?_⟩
        refine m_wrL hs4 (by omega) hz hm (f := c_it C s) m 0 ζ (by omega) p3 p2 hwm (fun t ht => by rw [gp_wf2_0]; exact p4 t ht) (fun θ z1 z2 z3 => ?_)
        refine ⟨rfl, c_hS C s (c_lo C s) (c_fo C s) (c_sz C s) (gp_wf2 (c_fo C s) (v_cf C st) (c_it C s) m), hS_cw hK.1 hz, kc_lo (fun c q => (z3 c (by omega)).trans (g3.1 c (by omega))) hc, km_H hs4 g1 ?_ ?_ ?_ z1 (fun t ht e => ⟨?_, ?_, ?_, fun i hi => z2 _ (by omega)⟩) (fun c p q => z3 c (by omega))⟩
        · rw [z3 130 (by omega)]
          exact p1
        · rw [z3 131 (by omega)]
          exact p2
        · rw [z3 132 (by omega)]
          exact p3
        · rw [z3 130 (by omega)]
        · rw [z3 131 (by omega)]
        · rw [z3 132 (by omega)]
    · refine s_sta_n b1 ?_
      rw [if_pos rfl]
      unfold w_X8_write
      refine m_two_n b1 ?_
      rw [if_pos rfl]
      exact ⟨rfl, C, hK⟩
  · refine s_sh_n b2 ?_
    dsimp only
    rcases rg x1 1 (by omega) with ⟨st, hst, rfl⟩ | b1
    · refine s_sta_y (by omega) ?_
      rw [if_neg i1n0]
      unfold w_X8_write
      refine m_two_y (by omega) ?_
      rw [if_neg i1n0]
      refine m_sh_n b2 ?_
      rw [if_pos rfl]
      exact ⟨rfl, C, hK⟩
    · refine s_sta_n b1 ?_
      rw [if_pos rfl]
      unfold w_X8_write
      refine m_two_n b1 ?_
      rw [if_pos rfl]
      exact ⟨rfl, C, hK⟩
/-- copy -/
theorem nI_nL {a : Nat} (ha : a < 2 ^ 31) : (nI a).toInt64 = nL a := nL_ext (by omega) (by rw [Int32.toInt_toInt64, nI_toInt ha])
theorem nI_ex {x : Int32} (h : ¬ x < 0) : ∃ a, a < 2 ^ 31 ∧ x = nI a := by
  have h0 : 0 ≤ x.toInt := by
    have := Int32.not_lt.mp h
    rw [Int32.le_iff_toInt_le] at this
    exact this
  have h1 := Int32.toInt_lt x
  refine ⟨x.toInt.toNat, by omega, ?_⟩
  apply Int32.toInt_inj.mp
  rw [nI_toInt (by omega)]
  omega
theorem hr_nI {n a b : Nat} (hn : n ≤ 60) (ha : a < 2 ^ 31) (hb : b < 2 ^ 31) : gp_hr n (nI a) (nI b) ↔ a + b ≤ n := by
  constructor
  · intro ⟨j, m, e1, e2, e3⟩
    have h1 := (nI_eq ha (by omega)).mp e1
    have h2 := (nI_eq hb (by omega)).mp e2
    omega
  · intro h
    exact ⟨a, b, rfl, rfl, h⟩
theorem hr_64 {n : Nat} (hn : n ≤ 60) {x c : Int32} (hx : ¬ x < 0) (hc : ¬ c < 0) : x.toInt64 + c.toInt64 ≤ (nI n).toInt64 ↔ gp_hr n x c := by
  obtain ⟨a, ha, rfl⟩ := nI_ex hx
  obtain ⟨b, hb, rfl⟩ := nI_ex hc
  rw [hr_nI hn ha hb, nI_nL ha, nI_nL hb, nI_nL (by omega), nL_add (by omega), nL_le (by omega) (by omega)]
theorem hr_pos {n : Nat} (hn : n ≤ 60) {x c : Int32} (h : gp_hr n x c) : ¬ x < 0 ∧ ¬ c < 0 := by
  obtain ⟨j, m, rfl, rfl, e3⟩ := h
  exact ⟨nI_pos (by omega), nI_pos (by omega)⟩
set_option maxHeartbeats 4000000 in
theorem m_cp_h {C : gp_C} {μ : gk_St} (hm : gp_km C μ) {s1 s3 : Nat} (h1 : s1 < 4) (h3 : s3 < 4) {x2 x4 x5 : Int32} {Q : Int32 → gk_St → Prop} (hl : c_lo C s1 = true ∨ c_lo C s3 = true → Q (-10 - 1) (gk_up μ 101 47 1)) (hf : ¬ c_lo C s1 = true → ¬ c_lo C s3 = true → ¬ c_fo C s1 = c_fo C s3 → Q (-10 - 4) (gk_up μ 101 47 4)) (hz1 : c_sz C s1 ≤ 60) (hz3 : c_sz C s3 ≤ 60) (hb : ¬ c_lo C s1 = true → ¬ c_lo C s3 = true → c_fo C s1 = c_fo C s3 → ¬ (gp_hr (c_sz C s1) x2 x5 ∧ gp_hr (c_sz C s3) x4 x5) → Q (-10 - 2) (gk_up μ 101 47 2)) (hg : ¬ c_lo C s1 = true → ¬ c_lo C s3 = true → c_fo C s1 = c_fo C s3 → gp_hr (c_sz C s1) x2 x5 → gp_hr (c_sz C s3) x4 x5 → ∃ n120 : Nat, w_X8_copy_l120 Q (fun y11 y12 y13 m14 => (∃ n157 : Nat, w_X8_copy_l157 Q (fun m17 => Q 1 m17) 101 n157 y11 y12 y13 0 m14)) 101 n120 (nI s1) x2 (nI s3) x4 x5 0 μ) : w_X8_copy 101 (nI s1) x2 (nI s3) x4 x5 μ Q := by
  obtain ⟨p1, p2, p3, p4⟩ := hm.2.2.2.1 s1 h1
  obtain ⟨q1, q2, q3, q4⟩ := hm.2.2.2.1 s3 h3
  unfold w_X8_copy
  refine m_sh_y h1 ?_
  rw [if_neg i1n0]
  refine m_sh_y h3 ?_
  rw [if_neg i1n0, rf_101_42, rf_101_43, rf_101_44, kc (k := s1) (by omega), kc (k := s3) (by omega), p1, p2, p3, q1, q2, q3]
  refine ⟨vi h1 ln_130 (by omega), ?_⟩
  by_cases l1 : c_lo C s1 = true
  · rw [if_pos (show gp_bi (!c_lo C s1) = 0 by rw [l1]; rfl)]
    unfold w_X8_copy_j35
    exact m_mee (hl (Or.inl l1))
  · rw [if_neg (bi_t (show (!c_lo C s1) = true by simpa using l1))]
    refine ⟨vi h3 ln_130 (by omega), ?_⟩
    by_cases l3 : c_lo C s3 = true
    · rw [if_pos (show gp_bi (!c_lo C s3) = 0 by rw [l3]; rfl)]
      unfold w_X8_copy_j35
      exact m_mee (hl (Or.inr l3))
    · rw [if_neg (bi_t (show (!c_lo C s3) = true by simpa using l3))]
      refine ⟨vi h1 ln_131 (by omega), vi h3 ln_131 (by omega), ?_⟩
      by_cases f : c_fo C s1 = c_fo C s3
      · rw [if_pos f]
        have hb' : ¬ (gp_hr (c_sz C s1) x2 x5 ∧ gp_hr (c_sz C s3) x4 x5) → w_X8_copy_j111 Q 101 μ := fun q => by
          unfold w_X8_copy_j111
          exact m_mee (hb l1 l3 f q)
        by_cases a2 : x2 < 0
        · rw [if_pos a2]
          exact hb' (fun q => (hr_pos hz1 q.1).1 a2)
        · rw [if_neg a2]
          by_cases a4 : x4 < 0
          · rw [if_pos a4]
            exact hb' (fun q => (hr_pos hz3 q.2).1 a4)
          · rw [if_neg a4]
            by_cases a5 : x5 < 0
            · rw [if_pos a5]
              exact hb' (fun q => (hr_pos hz1 q.1).2 a5)
            · rw [if_neg a5]
              refine ⟨vi h1 ln_132 (by omega), ?_⟩
              by_cases g1 : gp_hr (c_sz C s1) x2 x5
              · rw [if_neg (fun q => absurd ((hr_64 hz1 a2 a5).mpr g1) (Int64.not_le.mpr ((lg_cmp_gt _ _).mp q)))]
                refine ⟨vi h3 ln_132 (by omega), ?_⟩
                by_cases g3 : gp_hr (c_sz C s3) x4 x5
                · rw [if_pos ((lg_cmp_le _ _).mpr ((hr_64 hz3 a4 a5).mpr g3))]
                  exact hg l1 l3 f g1 g3
                · rw [if_neg (fun q => g3 ((hr_64 hz3 a4 a5).mp ((lg_cmp_le _ _).mp q)))]
                  exact hb' (fun q => g3 q.2)
              · rw [if_pos ((lg_cmp_gt _ _).mpr (Int64.not_le.mp (fun q => g1 ((hr_64 hz1 a2 a5).mp q))))]
                exact hb' (fun q => g1 q.1)
      · rw [if_neg f]
        exact m_mee (hf l1 l3 f)
theorem e60b (s a i : Nat) : (60 : Int32) * nI s + nI a + nI i = nI (60 * s + a + i) := by rw [e60, nI_add]
set_option maxHeartbeats 4000000 in
theorem m_cpA {s j m : Nat} (hs : s < 4) (hj : j + m ≤ 60) {x3 x4 : Int32} {Q : Int32 → gk_St → Prop} {K : Int32 → Int32 → Int32 → gk_St → Prop} : ∀ (i k : Nat) (μ : gk_St), k + i = m → (∀ t, t < k → μ 134 t = μ 133 (60 * s + j + t)) → (∀ ν, (∀ t, t < m → ν 134 t = μ 133 (60 * s + j + t)) → (∀ c, c ≠ 134 → ν c = μ c) → K x3 x4 (nI m) ν) → w_X8_copy_l120 Q K 101 (i + 1) (nI s) (nI j) x3 x4 (nI m) (nI k) μ := by
  intro i
  induction i with
  | zero =>
    intro k μ hk hf h
    have e : k = m := by omega
    subst e
    unfold w_X8_copy_l120
    rw [if_pos (Int32.le_refl _)]
    exact h μ hf (fun _ _ => rfl)
  | succ i ih =>
    intro k μ hk hf h
    unfold w_X8_copy_l120
    rw [if_neg (fun q => absurd ((nI_leI (by omega) (by omega)).mp q) (by omega)), rf_101_45, rf_101_46, e60b, kc (k := k) (by omega), kc (k := 60 * s + j + k) (by omega)]
    refine ⟨vi (n := 240) (by omega) ln_133 (by omega), vi (n := 60) (by omega) ln_134 (by omega), ?_⟩
    intro m9 e9 v10 e10
    rw [e10, nI_1]
    have g : m9 133 = μ 133 := by rw [e9, gk_up_n (by omega)]
    refine ih (k + 1) m9 (by omega) (fun t ht => ?_) (fun ν q1 q2 => h ν (fun t ht => ?_) (fun c q => ?_))
    · rw [g, e9, gk_up_s]
      by_cases d : t = k
      · rw [d, upd_s]
      · rw [upd_n d]
        exact hf t (by omega)
    · rw [q1 t ht, g]
    · rw [q2 c q, e9, gk_up_n q]
set_option maxHeartbeats 4000000 in
theorem m_cpB {s j m : Nat} (hs : s < 4) (hj : j + m ≤ 60) {Q : Int32 → gk_St → Prop} {K : gk_St → Prop} : ∀ (i k : Nat) (μ : gk_St), k + i = m → (∀ t, t < k → μ 133 (60 * s + j + t) = μ 134 t) → (∀ ν, (∀ t, t < m → ν 133 (60 * s + j + t) = μ 134 t) → (∀ p, (p < 60 * s + j ∨ 60 * s + j + m ≤ p) → ν 133 p = μ 133 p) → (∀ c, c ≠ 133 → ν c = μ c) → K ν) → w_X8_copy_l157 Q K 101 (i + 1) (nI s) (nI j) (nI m) (nI k) μ := by
  intro i
  induction i with
  | zero =>
    intro k μ hk hf h
    have e : k = m := by omega
    subst e
    unfold w_X8_copy_l157
    rw [if_pos (Int32.le_refl _)]
    exact h μ hf (fun _ _ => rfl) (fun _ _ => rfl)
  | succ i ih =>
    intro k μ hk hf h
    unfold w_X8_copy_l157
    rw [if_neg (fun q => absurd ((nI_leI (by omega) (by omega)).mp q) (by omega)), rf_101_45, rf_101_46, e60b, kc (k := k) (by omega), kc (k := 60 * s + j + k) (by omega)]
    refine ⟨vi (n := 60) (by omega) ln_134 (by omega), vi (n := 240) (by omega) ln_133 (by omega), ?_⟩
    intro m9 e9 v10 e10
    rw [e10, nI_1]
    have g : m9 134 = μ 134 := by rw [e9, gk_up_n (by omega)]
    refine ih (k + 1) m9 (by omega) (fun t ht => ?_) (fun ν q1 q2 q3 => h ν (fun t ht => ?_) (fun p q => ?_) (fun c q => ?_))
    · rw [g, e9, gk_up_s]
      by_cases d : t = k
      · rw [d, upd_s]
      · rw [upd_n (by omega)]
        exact hf t (by omega)
    · rw [q1 t ht, g]
    · rw [q2 p q, e9, gk_up_s, upd_n (by omega)]
    · rw [q3 c q, e9, gk_up_n q]
set_option maxHeartbeats 4000000 in
theorem k_ok_copy : ok_copy gp_Inv := by
  intro μ x1 x2 x3 x4 x5 ⟨C, hK⟩
  unfold w_X7_copy
  rcases rg x1 3 (by omega) with ⟨s1, hs1, rfl⟩ | b1
  · refine s_sh_y (by omega) ?_
    dsimp only
    have h1 : s1 < 4 := by omega
    rcases rg x3 3 (by omega) with ⟨s3, hs3, rfl⟩ | b3
    · refine s_sh_y (by omega) ?_
      dsimp only
      have h3 : s3 < 4 := by omega
      obtain ⟨k1, k2, k3, k4⟩ := hK.2.1.2.2.2.1 s1 h1
      obtain ⟨t1, t2, t3, t4⟩ := hK.2.1.2.2.2.1 s3 h3
      have z1 := hK.1.2.2.2 s1 h1
      have z3 := hK.1.2.2.2 s3 h3
      obtain ⟨r1, r1'⟩ := rf_h h1
      obtain ⟨r3, r3'⟩ := rf_h h3
      rw [k1, k2, t1, t2, r1, r3]
      by_cases l1 : c_lo C s1 = true
      · rw [if_neg (bi_t l1)]
        unfold w_X7_copy_j43
        refine c_fnd ?_
        exact m_cp_h (km_F0 hK) h1 h3 (fun _ => ⟨rfl, _, K_F hK⟩) (fun q => absurd l1 q) z1 z3 (fun q => absurd l1 q) (fun q => absurd l1 q)
      · rw [if_pos (bi_f l1)]
        by_cases l3 : c_lo C s3 = true
        · rw [if_neg (bi_t l3)]
          unfold w_X7_copy_j43
          refine c_fnd ?_
          exact m_cp_h (km_F0 hK) h1 h3 (fun _ => ⟨rfl, _, K_F hK⟩) (fun _ q => absurd l3 q) z1 z3 (fun _ q => absurd l3 q) (fun _ q => absurd l3 q)
        · rw [if_pos (bi_f l3)]
          by_cases f : c_fo C s1 = c_fo C s3
          · rw [if_pos f]
            have bad : ¬ (gp_hr (c_sz C s1) x2 x5 ∧ gp_hr (c_sz C s3) x4 x5) → w_X7_copy_j91 (fun r1 m1 => w_X8_copy 101 (nI s1) x2 (nI s3) x4 x5 m1 (fun r2 m2 => r1 = r2 ∧ gp_Inv m2)) 0 μ := fun q => by
              unfold w_X7_copy_j91
              refine c_fnd ?_
              exact m_cp_h (km_F0 hK) h1 h3 (fun p => absurd p (fun w => w.elim l1 l3)) (fun _ _ p => absurd f p) z1 z3 (fun _ _ _ _ => ⟨rfl, _, K_F hK⟩) (fun _ _ _ p1 p2 => absurd ⟨p1, p2⟩ q)
            by_cases g1 : gp_hr (c_sz C s1) x2 x5
            · by_cases g3 : gp_hr (c_sz C s3) x4 x5
              · obtain ⟨j2, m, rfl, rfl, e1⟩ := g1
                obtain ⟨j4, m', rfl, e5, e3⟩ := g3
                have em : m = m' := (nI_eq (by omega) (by omega)).mp e5
                subst em
                refine c_hr_y z1 k3 e1 ?_
                rw [if_neg i1n0]
                refine c_hr_y z3 t3 e3 ?_
                rw [if_neg i1n0, kc (k := j2) (by omega), kc (k := j4) (by omega), kc (k := m) (by omega), r1', r3']
                refine ⟨⟨nI_pos (by omega), nI_pos (by omega), nI_pos (by omega), by omega, by omega⟩, ?_⟩
                intro m16 e16
                have gs : m16 (24 + 2 * s3) = va_cpy (μ (24 + 2 * s1)) (μ (24 + 2 * s3)) j2 j4 m := by rw [e16]; exact if_pos rfl
                have gn : ∀ c, c ≠ 24 + 2 * s3 → m16 c = μ c := fun c q => by rw [e16]; exact if_neg q
                have hM : gp_km C m16 := km_hi (fun c q => gn c (by omega)) hK.2.2
                have hc : gp_kc (c_hS C s3 (c_lo C s3) (c_fo C s3) (c_sz C s3) (va_cpy (c_it C s1) (c_it C s3) j2 j4 m)) m16 := by
                  refine kc_H h3 hK.2.1 (by rw [gn _ (by omega)]; exact t1) (by rw [gn _ (by omega)]; exact t2) (by rw [gn _ (by omega)]; exact t3) (fun i hi => ?_) (fun c p q r => gn c r)
                  rw [gs]
                  by_cases w : j4 ≤ i ∧ i < j4 + m
                  · rw [pk_cpy_in w.1 w.2, pk_cpy_in w.1 w.2]
                    exact k4 _ (by omega)
                  · rw [pk_cpy_out (by omega), pk_cpy_out (by omega)]
                    exact t4 i hi
                refine m_cp_h hM h1 h3 (fun p => absurd p (fun w => w.elim l1 l3)) (fun _ _ p => absurd f p) z1 z3 (fun _ _ _ p => absurd ⟨⟨j2, m, rfl, rfl, e1⟩, ⟨j4, m, rfl, rfl, e3⟩⟩ p) (fun _ _ _ _ _ => ?_)
                obtain ⟨p1, p2, p3, p4⟩ := hM.2.2.2.1 s1 h1
                obtain ⟨q1, q2, q3, q4⟩ := hM.2.2.2.1 s3 h3
                refine ⟨m + 1, ?_⟩
                refine m_cpA h1 (by omega) m 0 m16 (by omega) (fun t ht => absurd ht (Nat.not_lt_zero t)) (fun ν a1 a2 => ?_)
                refine ⟨m + 1, ?_⟩
                refine m_cpB h3 (by omega) m 0 ν (by omega) (fun t ht => absurd ht (Nat.not_lt_zero t)) (fun ξ b1 b2 b3 => ?_)
                have n133 : ν 133 = m16 133 := a2 133 (by omega)
                have fr : ∀ c, c ≠ 133 → c ≠ 134 → ξ c = m16 c := fun c w1 w2 => (b3 c w1).trans (a2 c w2)
                refine ⟨rfl, c_hS C s3 (c_lo C s3) (c_fo C s3) (c_sz C s3) (va_cpy (c_it C s1) (c_it C s3) j2 j4 m), hS_cw hK.1 z3, kc_lo (fun c q => fr c (by omega) (by omega)) hc, km_H h3 hM ?_ ?_ ?_ (fun i hi => ?_) (fun t ht e => ⟨?_, ?_, ?_, fun i hi => ?_⟩) (fun c p q => fr c (by omega) (by omega))⟩
                · rw [fr 130 (by omega) (by omega)]
                  exact q1
                · rw [fr 131 (by omega) (by omega)]
                  exact q2
                · rw [fr 132 (by omega) (by omega)]
                  exact q3
                · by_cases w : j4 ≤ i ∧ i < j4 + m
                  · have h5 := b1 (i - j4) (by omega)
                    rw [show 60 * s3 + j4 + (i - j4) = 60 * s3 + i by omega] at h5
                    rw [pk_cpy_in w.1 w.2, h5, a1 (i - j4) (by omega), show 60 * s1 + j2 + (i - j4) = 60 * s1 + (j2 + (i - j4)) by omega]
                    exact p4 _ (by omega)
                  · rw [pk_cpy_out (by omega), b2 (60 * s3 + i) (by omega), n133]
                    exact q4 i hi
                · rw [fr 130 (by omega) (by omega)]
                · rw [fr 131 (by omega) (by omega)]
                · rw [fr 132 (by omega) (by omega)]
                · rw [b2 (60 * t + i) (by omega), n133]
              · obtain ⟨j2, m, rfl, rfl, e1⟩ := g1
                refine c_hr_y z1 k3 e1 ?_
                rw [if_neg i1n0]
                refine c_hr_n z3 t3 g3 ?_
                rw [if_pos rfl]
                exact bad (fun q => g3 q.2)
            · refine c_hr_n z1 k3 g1 ?_
              rw [if_pos rfl]
              exact bad (fun q => g1 q.1)
          · rw [if_neg f]
            refine c_fnd ?_
            exact m_cp_h (km_F0 hK) h1 h3 (fun p => absurd p (fun w => w.elim l1 l3)) (fun _ _ _ => ⟨rfl, _, K_F hK⟩) z1 z3 (fun _ _ p => absurd p f) (fun _ _ p => absurd p f)
    · refine s_sh_n b3 ?_
      dsimp only
      unfold w_X8_copy
      refine m_sh_y h1 ?_
      rw [if_neg i1n0]
      refine m_sh_n b3 ?_
      rw [if_pos rfl]
      exact ⟨rfl, C, hK⟩
  · refine s_sh_n b1 ?_
    dsimp only
    have fin : w_X8_copy 101 x1 x2 x3 x4 x5 μ (fun r2 m2 => (-2 : Int32) = r2 ∧ gp_Inv m2) := by
      unfold w_X8_copy
      refine m_sh_n b1 ?_
      rw [if_pos rfl]
      exact ⟨rfl, C, hK⟩
    rcases rg x3 3 (by omega) with ⟨s3, hs3, rfl⟩ | b3
    · exact s_sh_y (by omega) fin
    · exact s_sh_n b3 fin
