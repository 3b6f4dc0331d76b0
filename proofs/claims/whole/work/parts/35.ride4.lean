def gp_rec (P : gp_P) (r n : Nat) (μ : gk_St) : Prop := ∀ t, t < n → (∀ k, k < p_nc P → μ (r + 2 + k) t = nI (a_pl (gp_s P (t + 1)) k) ∧ μ (r + 9 + k) t = nI (a_in (gp_s P (t + 1)) k)) ∧ μ (r + 16) t = nI (a_wt (gp_s P (t + 1)) 0) ∧ μ (r + 17) t = nI (a_wt (gp_s P (t + 1)) 1) ∧ μ (r + 18) t = gp_pw P t
/-- only the ride has changed -/
def gp_fr (r : Nat) (μ ν : gk_St) : Prop := ∀ c, (c < r ∨ r + 23 < c) → ν c = μ c
theorem gp_fr_rf {r : Nat} {μ : gk_St} : gp_fr r μ μ := fun _ _ => rfl
theorem gp_fr_tr {r : Nat} {μ ν ξ : gk_St} (h1 : gp_fr r μ ν) (h2 : gp_fr r ν ξ) : gp_fr r μ ξ := fun c a => (h2 c a).trans (h1 c a)
theorem gp_fs_fr {r : Nat} {μ ν : gk_St} (h : gp_fs r μ ν) : gp_fr r μ ν := fun c a => h c (by omega) (by omega)
theorem gp_fr_pla {r : Nat} {P : gp_P} {μ ν : gk_St} (hr : gp_isR r) (h : gp_fr r μ ν) (hp : gp_pla P μ) : gp_pla P ν := gp_pla_kept hp (fun c h1 h2 => h c (by rcases hr with rfl | rfl <;> omega))
def gp_fn (r t : Nat) (μ ν : gk_St) : Prop := (∀ c, (c < r + 2 ∨ r + 17 < c) → ν c = μ c) ∧ ∀ c i, i ≠ t → ν c i = μ c i
theorem rwp_42 {k : Nat} (hk : k < 6) : gk_rw 43 k = 44 + k ∧ gk_ln (44 + k) = 24 := by
  rcases (show k = 0 ∨ k = 1 ∨ k = 2 ∨ k = 3 ∨ k = 4 ∨ k = 5 by omega) with rfl | rfl | rfl | rfl | rfl | rfl <;> decide +kernel
theorem rwi_42 {k : Nat} (hk : k < 6) : gk_rw 50 k = 51 + k ∧ gk_ln (51 + k) = 24 := by
  rcases (show k = 0 ∨ k = 1 ∨ k = 2 ∨ k = 3 ∨ k = 4 ∨ k = 5 by omega) with rfl | rfl | rfl | rfl | rfl | rfl <;> decide +kernel
set_option maxHeartbeats 4000000 in
theorem s_sta1_42 {P : gp_P} (hw : gp_wf P) {μ0 : gk_St} {Q K : gk_St → Prop} (hp0 : gp_pla P μ0) (h : ∀ ν, ν 42 9 = nI (p_nc P) → (∀ k, k < p_nc P → ν 61 k = nI (p_pl P k) ∧ ν 62 k = 0 ∧ ν 63 k = 0) → gp_fs 42 μ0 ν → K ν) : ∀ (i j : Nat) (μ : gk_St), j + i = p_nc P → μ 42 9 = nI (p_nc P) → (∀ k, k < j → μ 61 k = nI (p_pl P k) ∧ μ 62 k = 0 ∧ μ 63 k = 0) → gp_fs 42 μ0 μ → w_X2_start_l10 Q K 42 31 (i + 1) (nI j) μ := by
  intro i
  induction i with
  | zero =>
    intro j μ hj h9 hk hf
    have e : j = p_nc P := by omega
    subst e
    unfold w_X2_start_l10
    rw [h9, if_pos (Int32.le_refl _)]
    exact h μ h9 hk hf
  | succ i ih =>
    intro j μ hj h9 hk hf
    have hn6 := hw.1
    have hk6 : j < 6 := by omega
    unfold w_X2_start_l10
    rw [h9, if_neg (fun q => absurd ((nI_leI (by omega) (by omega)).mp q) (by omega)), rf_31_1, rf_42_4, rf_42_5, rf_42_6, kc (k := j) (by omega)]
    refine ⟨vi hk6 ln_32 (by omega), vi hk6 ln_61 (by omega), ?_⟩
    intro m2 e2
    refine ⟨vi hk6 ln_62 (by omega), ?_⟩
    intro m3 e3
    refine ⟨vi hk6 ln_63 (by omega), ?_⟩
    intro m4 e4 v5 e5
    have hp := gp_fs_pla (P := P) (Or.inl rfl) hf hp0
    have a1 := (hp.2.1 j (by omega)).1
    have e19 : m4 61 = upd (μ 61) j (nI (p_pl P j)) := by rw [e4, e3, e2, ← a1]; simp [gk_up]
    have e20 : m4 62 = upd (μ 62) j 0 := by rw [e4, e3, e2]; simp [gk_up]
    have e21 : m4 63 = upd (μ 63) j 0 := by rw [e4, e3, e2]; simp [gk_up]
    have eo : ∀ c, c ≠ 61 → c ≠ 62 → c ≠ 63 → m4 c = μ c := fun c c1 c2 c3 => by rw [e4, e3, e2]; simp [gk_up, c1, c2, c3]
    rw [e5, nI_1]
    refine ih (j + 1) m4 (by omega) (by rw [eo 42 (by omega) (by omega) (by omega)]; exact h9) (fun k hk9 => ?_) (fun c c1 c2 => (eo c (by omega) (by omega) (by omega)).trans (hf c c1 c2))
    rw [e19, e20, e21]
    by_cases e : k = j
    · subst e
      rw [upd_s, upd_s, upd_s]
      exact ⟨rfl, rfl, rfl⟩
    · rw [upd_n e, upd_n e, upd_n e]
      exact hk k (by omega)
set_option maxHeartbeats 4000000 in
theorem s_start_42 {P : gp_P} (hw : gp_wf P) {μ : gk_St} (hp : gp_pla P μ) {Q : gk_St → Prop} (h : ∀ ν, gp_rs P 42 (gp_ini P) ν → gp_fs 42 μ ν → Q ν) : w_X2_start 42 31 μ Q := by
  unfold w_X2_start
  intro m1 e1
  have b9 : m1 42 9 = nI (p_nc P) := by rw [e1, hp.1]; simp [gk_up, upd]
  have bo : ∀ c, c ≠ 42 → m1 c = μ c := fun c c1 => by rw [e1]; simp [gk_up, c1]
  have hf1 : gp_fs 42 μ m1 := fun c c1 _ => bo c c1
  refine ⟨p_nc P + 1, s_sta1_42 hw (gp_fs_pla (Or.inl rfl) hf1 hp) (fun ν h9 hk hf => ?_) (p_nc P) 0 m1 (by omega) b9 (fun k hk => absurd hk (Nat.not_lt_zero k)) gp_fs_rf⟩
  refine ⟨3, ?_⟩
  unfold w_X2_start_l52
  rw [if_neg (by decide), rf_42_7, rf_42_8, z0c]
  refine ⟨vi (k := 0) (by omega) ln_64 (by omega), ?_⟩
  intro m7 e7
  refine ⟨vi (k := 0) (by omega) ln_65 (by omega), ?_⟩
  intro m8 e8 v9 e9
  subst e9
  unfold w_X2_start_l52
  rw [if_neg (by decide), rf_42_7, rf_42_8, show (0 + 1 : Int32).toNatClampNeg = 1 by decide]
  refine ⟨vi (k := 1) (by omega) ln_64 (by omega), ?_⟩
  intro m9 e9
  refine ⟨vi (k := 1) (by omega) ln_65 (by omega), ?_⟩
  intro m10 e10 v11 e11
  subst e11
  unfold w_X2_start_l52
  rw [if_pos (by decide)]
  intro m11 e11 m12 e12 m13 e13
  have q : ∀ c, c ≠ 42 → c ≠ 64 → c ≠ 65 → m13 c = ν c := fun c c1 c2 c3 => by rw [e13, e12, e11, e10, e9, e8, e7]; simp [gk_up, c1, c2, c3]
  have q9 : m13 42 9 = ν 42 9 := by rw [e13, e12, e11, e10, e9, e8, e7]; simp [gk_up, upd]
  refine h m13 ⟨q9.trans h9, fun k hk9 => ?_, fun s hs => ?_, ?_, ?_, ?_⟩ (gp_fs_tr hf1 (gp_fs_tr hf (fun c c1 c2 => q c c1 (by omega) (by omega))))
  · rw [q (42 + 19) (by omega) (by omega) (by omega), q (42 + 20) (by omega) (by omega) (by omega), q (42 + 21) (by omega) (by omega) (by omega)]
    obtain ⟨k1, k2, k3⟩ := hk k hk9
    exact ⟨k1, k2.trans nI_0.symm, k3.trans nI_0.symm⟩
  · have w22 : ∀ s, s < 2 → m13 64 s = 0 := fun s hs => by
      rw [e13, e12, e11, e10, e9, e8, e7]
      rcases (show s = 0 ∨ s = 1 by omega) with rfl | rfl <;> simp [gk_up, upd]
    have w23 : ∀ s, s < 2 → m13 65 s = 0 := fun s hs => by
      rw [e13, e12, e11, e10, e9, e8, e7]
      rcases (show s = 0 ∨ s = 1 by omega) with rfl | rfl <;> simp [gk_up, upd]
    exact ⟨(w22 s hs).trans nI_0.symm, (w23 s hs).trans nI_0.symm⟩
  · rw [e13, e12, e11]
    simp [gk_up, upd]
    rfl
  · rw [e13, e12, e11]
    simp [gk_up, upd]
    rfl
  · rw [e13, e12, e11]
    simp [gk_up, upd]
    rfl
set_option maxHeartbeats 4000000 in
theorem s_not1_42 {P : gp_P} (hw : gp_wf P) {A : gp_A} {t : Nat} (ht : t < 24) {μ0 : gk_St} (hs0 : gp_rs P 42 A μ0) {Q : gk_St → Prop} {K : Int32 → gk_St → Prop} (h : ∀ ν, (∀ k, k < p_nc P → ν (44 + k) t = nI (a_pl A k) ∧ ν (51 + k) t = nI (a_in A k)) → gp_fn 42 t μ0 ν → K (nI t) ν) : ∀ (i j : Nat) (μ : gk_St), j + i = p_nc P → (∀ k, k < j → μ (44 + k) t = nI (a_pl A k) ∧ μ (51 + k) t = nI (a_in A k)) → gp_fn 42 t μ0 μ → w_X2_note_l2 Q K 42 (i + 1) (nI t) (nI j) μ := by
  intro i
  induction i with
  | zero =>
    intro j μ hj hk hf
    have e : j = p_nc P := by omega
    subst e
    unfold w_X2_note_l2
    rw [hf.1 42 (by omega), hs0.1, if_pos (Int32.le_refl _)]
    exact h μ hk hf
  | succ i ih =>
    intro j μ hj hk hf
    have hn6 := hw.1
    have hk6 : j < 6 := by omega
    have h01 := rwp_42 hk6
    have h08 := rwi_42 hk6
    unfold w_X2_note_l2
    rw [hf.1 42 (by omega), hs0.1, if_neg (fun q => absurd ((nI_leI (by omega) (by omega)).mp q) (by omega)), rf_42_0, rf_42_1, rf_42_4, rf_42_5, kc (k := j) (by omega), kc (k := t) (by omega), h01.1, h08.1]
    refine ⟨vr hk6 rl_43 (by omega), vi hk6 ln_61 (by omega), vi ht h01.2 (by omega), ?_⟩
    intro m2 e2
    refine ⟨vr hk6 rl_50 (by omega), vi hk6 ln_62 (by omega), vi ht h08.2 (by omega), ?_⟩
    intro m4 e4 v5 e5
    have a1 : μ 61 j = nI (a_pl A j) := by rw [hf.1 61 (by omega)]; exact (hs0.2.1 j (by omega)).1
    have a2 : m2 62 j = nI (a_in A j) := by rw [e2, gk_up_n (by omega), hf.1 62 (by omega)]; exact (hs0.2.1 j (by omega)).2.1
    have d1 : ∀ c, c ≠ 44 + j → c ≠ 51 + j → m4 c = μ c := fun c c1 c2 => by rw [e4, gk_up_n c2, e2, gk_up_n c1]
    have d2 : m4 (44 + j) = upd (μ (44 + j)) t (nI (a_pl A j)) := by rw [e4, gk_up_n (by omega), e2, gk_up_s, a1]
    have d3 : m4 (51 + j) = upd (μ (51 + j)) t (nI (a_in A j)) := by rw [e4, gk_up_s, a2, e2, gk_up_n (by omega)]
    rw [e5, nI_1]
    refine ih (j + 1) m4 (by omega) (fun k hk9 => ?_) ⟨fun c c1 => (d1 c (by omega) (by omega)).trans (hf.1 c c1), fun c x hx => ?_⟩
    · by_cases e : k = j
      · subst e
        rw [d2, d3, upd_s, upd_s]
        exact ⟨rfl, rfl⟩
      · rw [d1 (44 + k) (by omega) (by omega), d1 (51 + k) (by omega) (by omega)]
        exact hk k (by omega)
    · by_cases e1 : c = 44 + j
      · subst e1
        rw [d2, upd_n hx]
        exact hf.2 _ x hx
      · by_cases e2 : c = 51 + j
        · subst e2
          rw [d3, upd_n hx]
          exact hf.2 _ x hx
        · rw [d1 c e1 e2]
          exact hf.2 c x hx
set_option maxHeartbeats 4000000 in
theorem s_note_42 {P : gp_P} (hw : gp_wf P) {A : gp_A} {t : Nat} (ht : t < 24) {μ : gk_St} (hs : gp_rs P 42 A μ) {Q : gk_St → Prop} (h : ∀ ν, (∀ k, k < p_nc P → ν (44 + k) t = nI (a_pl A k) ∧ ν (51 + k) t = nI (a_in A k)) → ν 58 t = nI (a_wt A 0) → ν 59 t = nI (a_wt A 1) → gp_fn 42 t μ ν → Q ν) : w_X2_note 42 (nI t) μ Q := by
  unfold w_X2_note
  refine ⟨p_nc P + 1, s_not1_42 hw ht hs (fun ν hk hf => ?_) (p_nc P) 0 μ (by omega) (fun k hk => absurd hk (Nat.not_lt_zero k)) ⟨fun _ _ => rfl, fun _ _ _ => rfl⟩⟩
  rw [rf_42_2, rf_42_7, kc (k := t) (by omega), z0c, z1c, rw_57_0, rw_57_1]
  refine ⟨vr (k := 0) (by omega) rl_57 (by omega), vi (k := 0) (by omega) ln_64 (by omega), vi ht ln_58 (by omega), ?_⟩
  intro m9 e9
  refine ⟨vr (k := 1) (by omega) rl_57 (by omega), vi (k := 1) (by omega) ln_64 (by omega), vi ht ln_59 (by omega), ?_⟩
  intro m11 e11
  have a0 : ν 64 0 = nI (a_wt A 0) := by rw [hf.1 64 (by omega)]; exact (hs.2.2.1 0 (by omega)).1
  have a1 : ν 64 1 = nI (a_wt A 1) := by rw [hf.1 64 (by omega)]; exact (hs.2.2.1 1 (by omega)).1
  have d0 : m11 58 = upd (ν 58) t (nI (a_wt A 0)) := by rw [e11, e9, a0]; simp [gk_up]
  have d1 : m11 59 = upd (ν 59) t (nI (a_wt A 1)) := by rw [e11, e9, ← a1]; simp [gk_up]
  have eo : ∀ c, c ≠ 58 → c ≠ 59 → m11 c = ν c := fun c c1 c2 => by rw [e11, e9]; simp [gk_up, c1, c2]
  refine h m11 (fun k hk9 => ?_) (by rw [d0, upd_s]) (by rw [d1, upd_s]) ⟨fun c c1 => (eo c (by omega) (by omega)).trans (hf.1 c c1), fun c x hx => ?_⟩
  · have := hw.1
    rw [eo (44 + k) (by omega) (by omega), eo (51 + k) (by omega) (by omega)]
    exact hk k hk9
  · by_cases e1 : c = 58
    · subst e1
      rw [d0, upd_n hx]
      exact hf.2 _ x hx
    · by_cases e2 : c = 59
      · subst e2
        rw [d1, upd_n hx]
        exact hf.2 _ x hx
      · rw [eo c e1 e2]
        exact hf.2 c x hx
set_option maxHeartbeats 4000000 in
theorem s_j100_42 {P : gp_P} (hw : gp_wf P) {t : Nat} (ht : t < 24) {μ : gk_St} (hs : gp_rs P 42 (gp_s P (t + 1)) μ) (hr : gp_rec P 42 t μ) {Q K : gk_St → Prop} {C : Int32 → Int32 → gk_St → Prop} {x2 : Int32} (h : ∀ ν, gp_rs P 42 (gp_s P (t + 1)) ν → gp_rec P 42 (t + 1) ν → gp_fr 42 μ ν → C x2 (nI (t + 1)) ν) : w_X2_run_j100 Q K C 42 31 x2 (nI t) (gp_pw P t) μ := by
  unfold w_X2_run_j100
  rw [rf_42_3, kc (k := t) (by omega)]
  refine ⟨vi ht ln_60 (by omega), ?_⟩
  intro m17 e17
  have d18 : m17 60 = upd (μ 60) t (gp_pw P t) := by rw [e17]; simp [gk_up]
  have eo : ∀ c, c ≠ 60 → m17 c = μ c := fun c c1 => by rw [e17]; simp [gk_up, c1]
  have hs2 : gp_rs P 42 (gp_s P (t + 1)) m17 := by
    unfold gp_rs
    rw [eo 42 (by omega), eo (42 + 19) (by omega), eo (42 + 20) (by omega), eo (42 + 21) (by omega), eo (42 + 22) (by omega), eo (42 + 23) (by omega)]
    exact hs
  refine s_note_42 hw ht hs2 (fun ν h1 h2 h3 hf => ?_)
  intro v19 e19
  have hn6 := hw.1
  rw [e19, nI_1]
  refine h ν ?_ (fun x hx => ?_) (fun c c1 => (hf.1 c (by omega)).trans (eo c (by omega)))
  · unfold gp_rs
    rw [hf.1 42 (by omega), hf.1 (42 + 19) (by omega), hf.1 (42 + 20) (by omega), hf.1 (42 + 21) (by omega), hf.1 (42 + 22) (by omega), hf.1 (42 + 23) (by omega)]
    exact hs2
  · by_cases e : x = t
    · subst e
      refine ⟨h1, h2, h3, ?_⟩
      rw [hf.1 (42 + 18) (by omega)]
      show m17 60 x = _
      rw [d18, upd_s]
    · obtain ⟨r1, r2, r3, r4⟩ := hr x (by omega)
      refine ⟨fun k hk => ?_, ?_, ?_, ?_⟩
      · rw [hf.2 _ x e, hf.2 _ x e, eo (42 + 2 + k) (by omega), eo (42 + 9 + k) (by omega)]
        exact r1 k hk
      · rw [hf.2 _ x e, eo (42 + 16) (by omega)]
        exact r2
      · rw [hf.2 _ x e, eo (42 + 17) (by omega)]
        exact r3
      · rw [hf.1 (42 + 18) (by omega)]
        show m17 60 x = _
        rw [d18, upd_n e]
        exact r4
set_option maxHeartbeats 4000000 in
theorem s_runL_42 {P : gp_P} (hw : gp_wf P) {last : Nat} (hl : last < 24) {Q K : gk_St → Prop} : ∀ (i t : Nat) (μ : gk_St), t + i = last + 1 → gp_rs P 42 (gp_s P t) μ → gp_rec P 42 t μ → gp_pla P μ → (∀ ν, gp_rs P 42 (gp_s P (last + 1)) ν → gp_rec P 42 (last + 1) ν → gp_fr 42 μ ν → K ν) → w_X2_run_l7 Q K 42 31 (i + 1) (nI last) (nI t) μ := by
  intro i
  induction i with
  | zero =>
    intro t μ ht hs hr hp h
    have e : t = last + 1 := by omega
    subst e
    unfold w_X2_run_l7
    by_cases c : (24 : Int32) ≤ nI (last + 1)
    · rw [if_pos c]
      exact h μ hs hr gp_fr_rf
    · rw [if_neg c, if_pos ((nI_ltI (by omega) (by omega)).mpr (by omega))]
      exact h μ hs hr gp_fr_rf
  | succ i ih =>
    intro t μ ht hs hr hp h
    have ht24 : t < 24 := by omega
    have hok := gp_ok_s hw t
    have hc1 : gp_come P (t + 1) ≤ 108 := Nat.le_trans (gp_come_mono (by omega)) hw.2.2.2
    have hok1 := gp_ok_arr (t := t) hok
    have hpl := hw.2.2.1 t ht24
    unfold w_X2_run_l7
    rw [if_neg (show ¬ (24 : Int32) ≤ nI t from fun q => absurd ((nI_leI (a := 24) (by omega) (by omega)).mp q) (by omega)), if_neg (fun q => absurd ((nI_ltI (by omega) (by omega)).mp q) (by omega)), rf_42_7, rf_31_5, z0c, z1c, rw_36_0, rw_36_1, kc (k := t) (by omega)]
    refine ⟨vi (k := 0) (by omega) ln_64 (by omega), vr (k := 0) (by omega) rl_36 (by omega), vi ht24 ln_37 (by omega), vi (k := 0) (by omega) ln_64 (by omega), ?_⟩
    intro m3 e3
    refine ⟨vi (k := 1) (by omega) ln_64 (by omega), vr (k := 1) (by omega) rl_36 (by omega), vi ht24 ln_38 (by omega), vi (k := 1) (by omega) ln_64 (by omega), ?_⟩
    intro m5 e5
    have w0 : μ 64 0 = nI (a_wt (gp_s P t) 0) := (hs.2.2.1 0 (by omega)).1
    have w1 : μ 64 1 = nI (a_wt (gp_s P t) 1) := (hs.2.2.1 1 (by omega)).1
    have r0 := (hp.2.2.2 t ht24).1
    have r1 := (hp.2.2.2 t ht24).2.1
    have e22 : m5 64 = upd (upd (μ 64) 0 (nI (a_wt (gp_s P t) 0 + p_ar P 0 t))) 1 (nI (a_wt (gp_s P t) 1 + p_ar P 1 t)) := by
      rw [e5, e3, ← nI_add, ← nI_add, ← w0, ← w1, ← r0, ← r1]
      simp [gk_up, upd]
    have eo : ∀ c, c ≠ 64 → m5 c = μ c := fun c c1 => by rw [e5, e3]; simp [gk_up, c1]
    have hf5 : gp_fs 42 μ m5 := fun c c1 c2 => eo c (by omega)
    have hs5 : gp_rs P 42 (gp_arr P t (gp_s P t)) m5 := by
      refine ⟨?_, fun k hk => ?_, fun s hs9 => ⟨?_, ?_⟩, ?_, ?_, ?_⟩
      · rw [eo 42 (by omega)]
        exact hs.1
      · rw [eo (42 + 19) (by omega), eo (42 + 20) (by omega), eo (42 + 21) (by omega)]
        exact hs.2.1 k hk
      · show m5 64 s = _
        rw [e22]
        exact upd_nI (upd_nI (fun i hi => (hs.2.2.1 i hi).1)) s hs9
      · rw [eo (42 + 23) (by omega)]
        exact (hs.2.2.1 s hs9).2
      · rw [eo 42 (by omega)]
        exact hs.2.2.2.1
      · rw [eo 42 (by omega)]
        exact hs.2.2.2.2.1
      · rw [eo 42 (by omega)]
        exact hs.2.2.2.2.2
    have hp5 := gp_fs_pla (P := P) (Or.inl rfl) hf5 hp
    have hr5 : ∀ ν, gp_fs 42 m5 ν → gp_rec P 42 t ν := fun ν f x hx => by
      have hn6 := hw.1
      obtain ⟨q1, q2, q3, q4⟩ := hr x hx
      refine ⟨fun k hk => ?_, ?_, ?_, ?_⟩
      · rw [f (42 + 2 + k) (by omega) (by omega), f (42 + 9 + k) (by omega) (by omega), eo (42 + 2 + k) (by omega), eo (42 + 9 + k) (by omega)]
        exact q1 k hk
      · rw [f (42 + 16) (by omega) (by omega), eo (42 + 16) (by omega)]
        exact q2
      · rw [f (42 + 17) (by omega) (by omega), eo (42 + 17) (by omega)]
        exact q3
      · rw [f (42 + 18) (by omega) (by omega), eo (42 + 18) (by omega)]
        exact q4
    refine s_places hp5 ht24 ?_
    have hpls : gp_pls P t ≤ 3 := by
      unfold gp_pls
      split <;> omega
    refine ⟨gp_pls P t + 1, ?_⟩
    refine s_gosL_42 hw hc1 hok1 ht24 hpls (gp_pls P t) 0 m5 (by omega) hs5 hp5 (fun ν h1 f1 => ?_)
    by_cases z : gp_pls P t = 0
    · rw [z, if_pos nI_0]
      rw [z] at h1
      refine s_stand_42 hw hc1 hok1 ht24 h1 (gp_fs_pla (Or.inl rfl) f1 hp5) (fun ξ h2 f2 => ?_)
      have em : gp_s P (t + 1) = gp_stn P t (gp_arr P t (gp_s P t)) (p_nc P) := by
        show (gp_mo P t (gp_s P t)).1 = _
        unfold gp_mo
        rw [if_pos z]
      have ep : gp_pw P t = 0 := by
        unfold gp_pw gp_mo
        rw [if_pos z]
      rw [← em] at h2
      show w_X2_run_j100 Q K _ 42 31 (nI last) (nI t) 0 ξ
      rw [← ep]
      refine s_j100_42 hw ht24 h2 (hr5 ξ (gp_fs_tr f1 f2)) (fun ζ h3 h4 f4 => ?_)
      exact ih (t + 1) ζ (by omega) h3 h4 (gp_fr_pla (Or.inl rfl) (gp_fr_tr (gp_fs_fr (gp_fs_tr f1 f2)) f4) hp5) (fun θ h5 h6 f6 => h θ h5 h6 (gp_fr_tr (gp_fr_tr (gp_fs_fr (gp_fs_tr hf5 (gp_fs_tr f1 f2))) f4) f6))
    · rw [if_neg (nI_ne0 (by omega) (by omega))]
      have em : gp_s P (t + 1) = (gp_gos P t (gp_arr P t (gp_s P t)) (gp_pls P t)).1 := by
        show (gp_mo P t (gp_s P t)).1 = _
        unfold gp_mo
        rw [if_neg z]
      have ep : gp_pw P t = (gp_gos P t (gp_arr P t (gp_s P t)) (gp_pls P t)).2 := by
        unfold gp_pw gp_mo
        rw [if_neg z]
      rw [← em] at h1
      rw [← ep]
      refine s_j100_42 hw ht24 h1 (hr5 ν f1) (fun ζ h3 h4 f4 => ?_)
      exact ih (t + 1) ζ (by omega) h3 h4 (gp_fr_pla (Or.inl rfl) (gp_fr_tr (gp_fs_fr f1) f4) hp5) (fun θ h5 h6 f6 => h θ h5 h6 (gp_fr_tr (gp_fr_tr (gp_fs_fr (gp_fs_tr hf5 f1)) f4) f6))
/-- Ride.run -/
theorem s_run_42 {P : gp_P} (hw : gp_wf P) {last : Nat} (hl : last < 24) {μ : gk_St} (hp : gp_pla P μ) {Q : gk_St → Prop} (h : ∀ ν, gp_rs P 42 (gp_s P (last + 1)) ν → gp_rec P 42 (last + 1) ν → gp_fr 42 μ ν → Q ν) : w_X2_run 42 31 (nI last) μ Q := by
  unfold w_X2_run
  refine s_start_42 hw hp (fun ν h1 f1 => ?_)
  refine ⟨last + 2, ?_⟩
  exact s_runL_42 hw hl (last + 1) 0 ν (by omega) h1 (fun t ht => absurd ht (Nat.not_lt_zero t)) (gp_fs_pla (Or.inl rfl) f1 hp) (fun ξ h2 h3 f3 => h ξ h2 h3 (gp_fr_tr (gp_fs_fr f1) f3))
theorem rwp_66 {k : Nat} (hk : k < 6) : gk_rw 67 k = 68 + k ∧ gk_ln (68 + k) = 24 := by
  rcases (show k = 0 ∨ k = 1 ∨ k = 2 ∨ k = 3 ∨ k = 4 ∨ k = 5 by omega) with rfl | rfl | rfl | rfl | rfl | rfl <;> decide +kernel
theorem rwi_66 {k : Nat} (hk : k < 6) : gk_rw 74 k = 75 + k ∧ gk_ln (75 + k) = 24 := by
  rcases (show k = 0 ∨ k = 1 ∨ k = 2 ∨ k = 3 ∨ k = 4 ∨ k = 5 by omega) with rfl | rfl | rfl | rfl | rfl | rfl <;> decide +kernel
set_option maxHeartbeats 4000000 in
theorem s_sta1_66 {P : gp_P} (hw : gp_wf P) {μ0 : gk_St} {Q K : gk_St → Prop} (hp0 : gp_pla P μ0) (h : ∀ ν, ν 66 9 = nI (p_nc P) → (∀ k, k < p_nc P → ν 85 k = nI (p_pl P k) ∧ ν 86 k = 0 ∧ ν 87 k = 0) → gp_fs 66 μ0 ν → K ν) : ∀ (i j : Nat) (μ : gk_St), j + i = p_nc P → μ 66 9 = nI (p_nc P) → (∀ k, k < j → μ 85 k = nI (p_pl P k) ∧ μ 86 k = 0 ∧ μ 87 k = 0) → gp_fs 66 μ0 μ → w_X2_start_l10 Q K 66 31 (i + 1) (nI j) μ := by
  intro i
  induction i with
  | zero =>
    intro j μ hj h9 hk hf
    have e : j = p_nc P := by omega
    subst e
    unfold w_X2_start_l10
    rw [h9, if_pos (Int32.le_refl _)]
    exact h μ h9 hk hf
  | succ i ih =>
    intro j μ hj h9 hk hf
    have hn6 := hw.1
    have hk6 : j < 6 := by omega
    unfold w_X2_start_l10
    rw [h9, if_neg (fun q => absurd ((nI_leI (by omega) (by omega)).mp q) (by omega)), rf_31_1, rf_66_4, rf_66_5, rf_66_6, kc (k := j) (by omega)]
    refine ⟨vi hk6 ln_32 (by omega), vi hk6 ln_85 (by omega), ?_⟩
    intro m2 e2
    refine ⟨vi hk6 ln_86 (by omega), ?_⟩
    intro m3 e3
    refine ⟨vi hk6 ln_87 (by omega), ?_⟩
    intro m4 e4 v5 e5
    have hp := gp_fs_pla (P := P) (Or.inr rfl) hf hp0
    have a1 := (hp.2.1 j (by omega)).1
    have e19 : m4 85 = upd (μ 85) j (nI (p_pl P j)) := by rw [e4, e3, e2, ← a1]; simp [gk_up]
    have e20 : m4 86 = upd (μ 86) j 0 := by rw [e4, e3, e2]; simp [gk_up]
    have e21 : m4 87 = upd (μ 87) j 0 := by rw [e4, e3, e2]; simp [gk_up]
    have eo : ∀ c, c ≠ 85 → c ≠ 86 → c ≠ 87 → m4 c = μ c := fun c c1 c2 c3 => by rw [e4, e3, e2]; simp [gk_up, c1, c2, c3]
    rw [e5, nI_1]
    refine ih (j + 1) m4 (by omega) (by rw [eo 66 (by omega) (by omega) (by omega)]; exact h9) (fun k hk9 => ?_) (fun c c1 c2 => (eo c (by omega) (by omega) (by omega)).trans (hf c c1 c2))
    rw [e19, e20, e21]
    by_cases e : k = j
    · subst e
      rw [upd_s, upd_s, upd_s]
      exact ⟨rfl, rfl, rfl⟩
    · rw [upd_n e, upd_n e, upd_n e]
      exact hk k (by omega)
set_option maxHeartbeats 4000000 in
theorem s_start_66 {P : gp_P} (hw : gp_wf P) {μ : gk_St} (hp : gp_pla P μ) {Q : gk_St → Prop} (h : ∀ ν, gp_rs P 66 (gp_ini P) ν → gp_fs 66 μ ν → Q ν) : w_X2_start 66 31 μ Q := by
  unfold w_X2_start
  intro m1 e1
  have b9 : m1 66 9 = nI (p_nc P) := by rw [e1, hp.1]; simp [gk_up, upd]
  have bo : ∀ c, c ≠ 66 → m1 c = μ c := fun c c1 => by rw [e1]; simp [gk_up, c1]
  have hf1 : gp_fs 66 μ m1 := fun c c1 _ => bo c c1
  refine ⟨p_nc P + 1, s_sta1_66 hw (gp_fs_pla (Or.inr rfl) hf1 hp) (fun ν h9 hk hf => ?_) (p_nc P) 0 m1 (by omega) b9 (fun k hk => absurd hk (Nat.not_lt_zero k)) gp_fs_rf⟩
  refine ⟨3, ?_⟩
  unfold w_X2_start_l52
  rw [if_neg (by decide), rf_66_7, rf_66_8, z0c]
  refine ⟨vi (k := 0) (by omega) ln_88 (by omega), ?_⟩
  intro m7 e7
  refine ⟨vi (k := 0) (by omega) ln_89 (by omega), ?_⟩
  intro m8 e8 v9 e9
  subst e9
  unfold w_X2_start_l52
  rw [if_neg (by decide), rf_66_7, rf_66_8, show (0 + 1 : Int32).toNatClampNeg = 1 by decide]
  refine ⟨vi (k := 1) (by omega) ln_88 (by omega), ?_⟩
  intro m9 e9
  refine ⟨vi (k := 1) (by omega) ln_89 (by omega), ?_⟩
  intro m10 e10 v11 e11
  subst e11
  unfold w_X2_start_l52
  rw [if_pos (by decide)]
  intro m11 e11 m12 e12 m13 e13
  have q : ∀ c, c ≠ 66 → c ≠ 88 → c ≠ 89 → m13 c = ν c := fun c c1 c2 c3 => by rw [e13, e12, e11, e10, e9, e8, e7]; simp [gk_up, c1, c2, c3]
  have q9 : m13 66 9 = ν 66 9 := by rw [e13, e12, e11, e10, e9, e8, e7]; simp [gk_up, upd]
  refine h m13 ⟨q9.trans h9, fun k hk9 => ?_, fun s hs => ?_, ?_, ?_, ?_⟩ (gp_fs_tr hf1 (gp_fs_tr hf (fun c c1 c2 => q c c1 (by omega) (by omega))))
  · rw [q (66 + 19) (by omega) (by omega) (by omega), q (66 + 20) (by omega) (by omega) (by omega), q (66 + 21) (by omega) (by omega) (by omega)]
    obtain ⟨k1, k2, k3⟩ := hk k hk9
    exact ⟨k1, k2.trans nI_0.symm, k3.trans nI_0.symm⟩
  · have w22 : ∀ s, s < 2 → m13 88 s = 0 := fun s hs => by
      rw [e13, e12, e11, e10, e9, e8, e7]
      rcases (show s = 0 ∨ s = 1 by omega) with rfl | rfl <;> simp [gk_up, upd]
    have w23 : ∀ s, s < 2 → m13 89 s = 0 := fun s hs => by
      rw [e13, e12, e11, e10, e9, e8, e7]
      rcases (show s = 0 ∨ s = 1 by omega) with rfl | rfl <;> simp [gk_up, upd]
    exact ⟨(w22 s hs).trans nI_0.symm, (w23 s hs).trans nI_0.symm⟩
  · rw [e13, e12, e11]
    simp [gk_up, upd]
    rfl
  · rw [e13, e12, e11]
    simp [gk_up, upd]
    rfl
  · rw [e13, e12, e11]
    simp [gk_up, upd]
    rfl
set_option maxHeartbeats 4000000 in
theorem s_not1_66 {P : gp_P} (hw : gp_wf P) {A : gp_A} {t : Nat} (ht : t < 24) {μ0 : gk_St} (hs0 : gp_rs P 66 A μ0) {Q : gk_St → Prop} {K : Int32 → gk_St → Prop} (h : ∀ ν, (∀ k, k < p_nc P → ν (68 + k) t = nI (a_pl A k) ∧ ν (75 + k) t = nI (a_in A k)) → gp_fn 66 t μ0 ν → K (nI t) ν) : ∀ (i j : Nat) (μ : gk_St), j + i = p_nc P → (∀ k, k < j → μ (68 + k) t = nI (a_pl A k) ∧ μ (75 + k) t = nI (a_in A k)) → gp_fn 66 t μ0 μ → w_X2_note_l2 Q K 66 (i + 1) (nI t) (nI j) μ := by
  intro i
  induction i with
  | zero =>
    intro j μ hj hk hf
    have e : j = p_nc P := by omega
    subst e
    unfold w_X2_note_l2
    rw [hf.1 66 (by omega), hs0.1, if_pos (Int32.le_refl _)]
    exact h μ hk hf
  | succ i ih =>
    intro j μ hj hk hf
    have hn6 := hw.1
    have hk6 : j < 6 := by omega
    have h01 := rwp_66 hk6
    have h08 := rwi_66 hk6
    unfold w_X2_note_l2
    rw [hf.1 66 (by omega), hs0.1, if_neg (fun q => absurd ((nI_leI (by omega) (by omega)).mp q) (by omega)), rf_66_0, rf_66_1, rf_66_4, rf_66_5, kc (k := j) (by omega), kc (k := t) (by omega), h01.1, h08.1]
    refine ⟨vr hk6 rl_67 (by omega), vi hk6 ln_85 (by omega), vi ht h01.2 (by omega), ?_⟩
    intro m2 e2
    refine ⟨vr hk6 rl_74 (by omega), vi hk6 ln_86 (by omega), vi ht h08.2 (by omega), ?_⟩
    intro m4 e4 v5 e5
    have a1 : μ 85 j = nI (a_pl A j) := by rw [hf.1 85 (by omega)]; exact (hs0.2.1 j (by omega)).1
    have a2 : m2 86 j = nI (a_in A j) := by rw [e2, gk_up_n (by omega), hf.1 86 (by omega)]; exact (hs0.2.1 j (by omega)).2.1
    have d1 : ∀ c, c ≠ 68 + j → c ≠ 75 + j → m4 c = μ c := fun c c1 c2 => by rw [e4, gk_up_n c2, e2, gk_up_n c1]
    have d2 : m4 (68 + j) = upd (μ (68 + j)) t (nI (a_pl A j)) := by rw [e4, gk_up_n (by omega), e2, gk_up_s, a1]
    have d3 : m4 (75 + j) = upd (μ (75 + j)) t (nI (a_in A j)) := by rw [e4, gk_up_s, a2, e2, gk_up_n (by omega)]
    rw [e5, nI_1]
    refine ih (j + 1) m4 (by omega) (fun k hk9 => ?_) ⟨fun c c1 => (d1 c (by omega) (by omega)).trans (hf.1 c c1), fun c x hx => ?_⟩
    · by_cases e : k = j
      · subst e
        rw [d2, d3, upd_s, upd_s]
        exact ⟨rfl, rfl⟩
      · rw [d1 (68 + k) (by omega) (by omega), d1 (75 + k) (by omega) (by omega)]
        exact hk k (by omega)
    · by_cases e1 : c = 68 + j
      · subst e1
        rw [d2, upd_n hx]
        exact hf.2 _ x hx
      · by_cases e2 : c = 75 + j
        · subst e2
          rw [d3, upd_n hx]
          exact hf.2 _ x hx
        · rw [d1 c e1 e2]
          exact hf.2 c x hx
set_option maxHeartbeats 4000000 in
theorem s_note_66 {P : gp_P} (hw : gp_wf P) {A : gp_A} {t : Nat} (ht : t < 24) {μ : gk_St} (hs : gp_rs P 66 A μ) {Q : gk_St → Prop} (h : ∀ ν, (∀ k, k < p_nc P → ν (68 + k) t = nI (a_pl A k) ∧ ν (75 + k) t = nI (a_in A k)) → ν 82 t = nI (a_wt A 0) → ν 83 t = nI (a_wt A 1) → gp_fn 66 t μ ν → Q ν) : w_X2_note 66 (nI t) μ Q := by
  unfold w_X2_note
  refine ⟨p_nc P + 1, s_not1_66 hw ht hs (fun ν hk hf => ?_) (p_nc P) 0 μ (by omega) (fun k hk => absurd hk (Nat.not_lt_zero k)) ⟨fun _ _ => rfl, fun _ _ _ => rfl⟩⟩
  rw [rf_66_2, rf_66_7, kc (k := t) (by omega), z0c, z1c, rw_81_0, rw_81_1]
  refine ⟨vr (k := 0) (by omega) rl_81 (by omega), vi (k := 0) (by omega) ln_88 (by omega), vi ht ln_82 (by omega), ?_⟩
  intro m9 e9
  refine ⟨vr (k := 1) (by omega) rl_81 (by omega), vi (k := 1) (by omega) ln_88 (by omega), vi ht ln_83 (by omega), ?_⟩
  intro m11 e11
  have a0 : ν 88 0 = nI (a_wt A 0) := by rw [hf.1 88 (by omega)]; exact (hs.2.2.1 0 (by omega)).1
  have a1 : ν 88 1 = nI (a_wt A 1) := by rw [hf.1 88 (by omega)]; exact (hs.2.2.1 1 (by omega)).1
  have d0 : m11 82 = upd (ν 82) t (nI (a_wt A 0)) := by rw [e11, e9, a0]; simp [gk_up]
  have d1 : m11 83 = upd (ν 83) t (nI (a_wt A 1)) := by rw [e11, e9, ← a1]; simp [gk_up]
  have eo : ∀ c, c ≠ 82 → c ≠ 83 → m11 c = ν c := fun c c1 c2 => by rw [e11, e9]; simp [gk_up, c1, c2]
  refine h m11 (fun k hk9 => ?_) (by rw [d0, upd_s]) (by rw [d1, upd_s]) ⟨fun c c1 => (eo c (by omega) (by omega)).trans (hf.1 c c1), fun c x hx => ?_⟩
  · have := hw.1
    rw [eo (68 + k) (by omega) (by omega), eo (75 + k) (by omega) (by omega)]
    exact hk k hk9
  · by_cases e1 : c = 82
    · subst e1
      rw [d0, upd_n hx]
      exact hf.2 _ x hx
    · by_cases e2 : c = 83
      · subst e2
        rw [d1, upd_n hx]
        exact hf.2 _ x hx
      · rw [eo c e1 e2]
        exact hf.2 c x hx
set_option maxHeartbeats 4000000 in
theorem s_j100_66 {P : gp_P} (hw : gp_wf P) {t : Nat} (ht : t < 24) {μ : gk_St} (hs : gp_rs P 66 (gp_s P (t + 1)) μ) (hr : gp_rec P 66 t μ) {Q K : gk_St → Prop} {C : Int32 → Int32 → gk_St → Prop} {x2 : Int32} (h : ∀ ν, gp_rs P 66 (gp_s P (t + 1)) ν → gp_rec P 66 (t + 1) ν → gp_fr 66 μ ν → C x2 (nI (t + 1)) ν) : w_X2_run_j100 Q K C 66 31 x2 (nI t) (gp_pw P t) μ := by
  unfold w_X2_run_j100
  rw [rf_66_3, kc (k := t) (by omega)]
  refine ⟨vi ht ln_84 (by omega), ?_⟩
  intro m17 e17
  have d18 : m17 84 = upd (μ 84) t (gp_pw P t) := by rw [e17]; simp [gk_up]
  have eo : ∀ c, c ≠ 84 → m17 c = μ c := fun c c1 => by rw [e17]; simp [gk_up, c1]
  have hs2 : gp_rs P 66 (gp_s P (t + 1)) m17 := by
    unfold gp_rs
    rw [eo 66 (by omega), eo (66 + 19) (by omega), eo (66 + 20) (by omega), eo (66 + 21) (by omega), eo (66 + 22) (by omega), eo (66 + 23) (by omega)]
    exact hs
  refine s_note_66 hw ht hs2 (fun ν h1 h2 h3 hf => ?_)
  intro v19 e19
  have hn6 := hw.1
  rw [e19, nI_1]
  refine h ν ?_ (fun x hx => ?_) (fun c c1 => (hf.1 c (by omega)).trans (eo c (by omega)))
  · unfold gp_rs
    rw [hf.1 66 (by omega), hf.1 (66 + 19) (by omega), hf.1 (66 + 20) (by omega), hf.1 (66 + 21) (by omega), hf.1 (66 + 22) (by omega), hf.1 (66 + 23) (by omega)]
    exact hs2
  · by_cases e : x = t
    · subst e
      refine ⟨h1, h2, h3, ?_⟩
      rw [hf.1 (66 + 18) (by omega)]
      show m17 84 x = _
      rw [d18, upd_s]
    · obtain ⟨r1, r2, r3, r4⟩ := hr x (by omega)
      refine ⟨fun k hk => ?_, ?_, ?_, ?_⟩
      · rw [hf.2 _ x e, hf.2 _ x e, eo (66 + 2 + k) (by omega), eo (66 + 9 + k) (by omega)]
        exact r1 k hk
      · rw [hf.2 _ x e, eo (66 + 16) (by omega)]
        exact r2
      · rw [hf.2 _ x e, eo (66 + 17) (by omega)]
        exact r3
      · rw [hf.1 (66 + 18) (by omega)]
        show m17 84 x = _
        rw [d18, upd_n e]
        exact r4
set_option maxHeartbeats 4000000 in
theorem s_runL_66 {P : gp_P} (hw : gp_wf P) {last : Nat} (hl : last < 24) {Q K : gk_St → Prop} : ∀ (i t : Nat) (μ : gk_St), t + i = last + 1 → gp_rs P 66 (gp_s P t) μ → gp_rec P 66 t μ → gp_pla P μ → (∀ ν, gp_rs P 66 (gp_s P (last + 1)) ν → gp_rec P 66 (last + 1) ν → gp_fr 66 μ ν → K ν) → w_X2_run_l7 Q K 66 31 (i + 1) (nI last) (nI t) μ := by
  intro i
  induction i with
  | zero =>
    intro t μ ht hs hr hp h
    have e : t = last + 1 := by omega
    subst e
    unfold w_X2_run_l7
    by_cases c : (24 : Int32) ≤ nI (last + 1)
    · rw [if_pos c]
      exact h μ hs hr gp_fr_rf
    · rw [if_neg c, if_pos ((nI_ltI (by omega) (by omega)).mpr (by omega))]
      exact h μ hs hr gp_fr_rf
  | succ i ih =>
    intro t μ ht hs hr hp h
    have ht24 : t < 24 := by omega
    have hok := gp_ok_s hw t
    have hc1 : gp_come P (t + 1) ≤ 108 := Nat.le_trans (gp_come_mono (by omega)) hw.2.2.2
    have hok1 := gp_ok_arr (t := t) hok
    have hpl := hw.2.2.1 t ht24
    unfold w_X2_run_l7
    rw [if_neg (show ¬ (24 : Int32) ≤ nI t from fun q => absurd ((nI_leI (a := 24) (by omega) (by omega)).mp q) (by omega)), if_neg (fun q => absurd ((nI_ltI (by omega) (by omega)).mp q) (by omega)), rf_66_7, rf_31_5, z0c, z1c, rw_36_0, rw_36_1, kc (k := t) (by omega)]
    refine ⟨vi (k := 0) (by omega) ln_88 (by omega), vr (k := 0) (by omega) rl_36 (by omega), vi ht24 ln_37 (by omega), vi (k := 0) (by omega) ln_88 (by omega), ?_⟩
    intro m3 e3
    refine ⟨vi (k := 1) (by omega) ln_88 (by omega), vr (k := 1) (by omega) rl_36 (by omega), vi ht24 ln_38 (by omega), vi (k := 1) (by omega) ln_88 (by omega), ?_⟩
    intro m5 e5
    have w0 : μ 88 0 = nI (a_wt (gp_s P t) 0) := (hs.2.2.1 0 (by omega)).1
    have w1 : μ 88 1 = nI (a_wt (gp_s P t) 1) := (hs.2.2.1 1 (by omega)).1
    have r0 := (hp.2.2.2 t ht24).1
    have r1 := (hp.2.2.2 t ht24).2.1
    have e22 : m5 88 = upd (upd (μ 88) 0 (nI (a_wt (gp_s P t) 0 + p_ar P 0 t))) 1 (nI (a_wt (gp_s P t) 1 + p_ar P 1 t)) := by
      rw [e5, e3, ← nI_add, ← nI_add, ← w0, ← w1, ← r0, ← r1]
      simp [gk_up, upd]
    have eo : ∀ c, c ≠ 88 → m5 c = μ c := fun c c1 => by rw [e5, e3]; simp [gk_up, c1]
    have hf5 : gp_fs 66 μ m5 := fun c c1 c2 => eo c (by omega)
    have hs5 : gp_rs P 66 (gp_arr P t (gp_s P t)) m5 := by
      refine ⟨?_, fun k hk => ?_, fun s hs9 => ⟨?_, ?_⟩, ?_, ?_, ?_⟩
      · rw [eo 66 (by omega)]
        exact hs.1
      · rw [eo (66 + 19) (by omega), eo (66 + 20) (by omega), eo (66 + 21) (by omega)]
        exact hs.2.1 k hk
      · show m5 88 s = _
        rw [e22]
        exact upd_nI (upd_nI (fun i hi => (hs.2.2.1 i hi).1)) s hs9
      · rw [eo (66 + 23) (by omega)]
        exact (hs.2.2.1 s hs9).2
      · rw [eo 66 (by omega)]
        exact hs.2.2.2.1
      · rw [eo 66 (by omega)]
        exact hs.2.2.2.2.1
      · rw [eo 66 (by omega)]
        exact hs.2.2.2.2.2
    have hp5 := gp_fs_pla (P := P) (Or.inr rfl) hf5 hp
    have hr5 : ∀ ν, gp_fs 66 m5 ν → gp_rec P 66 t ν := fun ν f x hx => by
      have hn6 := hw.1
      obtain ⟨q1, q2, q3, q4⟩ := hr x hx
      refine ⟨fun k hk => ?_, ?_, ?_, ?_⟩
      · rw [f (66 + 2 + k) (by omega) (by omega), f (66 + 9 + k) (by omega) (by omega), eo (66 + 2 + k) (by omega), eo (66 + 9 + k) (by omega)]
        exact q1 k hk
      · rw [f (66 + 16) (by omega) (by omega), eo (66 + 16) (by omega)]
        exact q2
      · rw [f (66 + 17) (by omega) (by omega), eo (66 + 17) (by omega)]
        exact q3
      · rw [f (66 + 18) (by omega) (by omega), eo (66 + 18) (by omega)]
        exact q4
    refine s_places hp5 ht24 ?_
    have hpls : gp_pls P t ≤ 3 := by
      unfold gp_pls
      split <;> omega
    refine ⟨gp_pls P t + 1, ?_⟩
    refine s_gosL_66 hw hc1 hok1 ht24 hpls (gp_pls P t) 0 m5 (by omega) hs5 hp5 (fun ν h1 f1 => ?_)
    by_cases z : gp_pls P t = 0
    · rw [z, if_pos nI_0]
      rw [z] at h1
      refine s_stand_66 hw hc1 hok1 ht24 h1 (gp_fs_pla (Or.inr rfl) f1 hp5) (fun ξ h2 f2 => ?_)
      have em : gp_s P (t + 1) = gp_stn P t (gp_arr P t (gp_s P t)) (p_nc P) := by
        show (gp_mo P t (gp_s P t)).1 = _
        unfold gp_mo
        rw [if_pos z]
      have ep : gp_pw P t = 0 := by
        unfold gp_pw gp_mo
        rw [if_pos z]
      rw [← em] at h2
      show w_X2_run_j100 Q K _ 66 31 (nI last) (nI t) 0 ξ
      rw [← ep]
      refine s_j100_66 hw ht24 h2 (hr5 ξ (gp_fs_tr f1 f2)) (fun ζ h3 h4 f4 => ?_)
      exact ih (t + 1) ζ (by omega) h3 h4 (gp_fr_pla (Or.inr rfl) (gp_fr_tr (gp_fs_fr (gp_fs_tr f1 f2)) f4) hp5) (fun θ h5 h6 f6 => h θ h5 h6 (gp_fr_tr (gp_fr_tr (gp_fs_fr (gp_fs_tr hf5 (gp_fs_tr f1 f2))) f4) f6))
    · rw [if_neg (nI_ne0 (by omega) (by omega))]
      have em : gp_s P (t + 1) = (gp_gos P t (gp_arr P t (gp_s P t)) (gp_pls P t)).1 := by
        show (gp_mo P t (gp_s P t)).1 = _
        unfold gp_mo
        rw [if_neg z]
      have ep : gp_pw P t = (gp_gos P t (gp_arr P t (gp_s P t)) (gp_pls P t)).2 := by
        unfold gp_pw gp_mo
        rw [if_neg z]
      rw [← em] at h1
      rw [← ep]
      refine s_j100_66 hw ht24 h1 (hr5 ν f1) (fun ζ h3 h4 f4 => ?_)
      exact ih (t + 1) ζ (by omega) h3 h4 (gp_fr_pla (Or.inr rfl) (gp_fr_tr (gp_fs_fr f1) f4) hp5) (fun θ h5 h6 f6 => h θ h5 h6 (gp_fr_tr (gp_fr_tr (gp_fs_fr (gp_fs_tr hf5 f1)) f4) f6))
/-- Ride.run -/
theorem s_run_66 {P : gp_P} (hw : gp_wf P) {last : Nat} (hl : last < 24) {μ : gk_St} (hp : gp_pla P μ) {Q : gk_St → Prop} (h : ∀ ν, gp_rs P 66 (gp_s P (last + 1)) ν → gp_rec P 66 (last + 1) ν → gp_fr 66 μ ν → Q ν) : w_X2_run 66 31 (nI last) μ Q := by
  unfold w_X2_run
  refine s_start_66 hw hp (fun ν h1 f1 => ?_)
  refine ⟨last + 2, ?_⟩
  exact s_runL_66 hw hl (last + 1) 0 ν (by omega) h1 (fun t ht => absurd ht (Nat.not_lt_zero t)) (gp_fs_pla (Or.inr rfl) f1 hp) (fun ξ h2 h3 f3 => h ξ h2 h3 (gp_fr_tr (gp_fs_fr f1) f3))
