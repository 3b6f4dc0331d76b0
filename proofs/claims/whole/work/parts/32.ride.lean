/-! the class's Ride, over the class's Plan -/
def gp_isR (r : Nat) : Prop := r = 42 ∨ r = 66
def gp_bi (b : Bool) : Int32 := if b = true then 1 else 0
def gp_pla (P : gp_P) (μ : gk_St) : Prop := μ 31 0 = nI (p_nc P) ∧ (∀ k, k < p_nc P → μ 32 k = nI (p_pl P k) ∧ μ 33 k = nI (p_so P k) ∧ μ 34 k = nI (p_ro P k)) ∧ (∀ t, t < 24 → ∀ k, k < p_nc P → (μ 35 k ≤ nI t ↔ p_jm P t k = true)) ∧ ∀ t, t < 24 → μ 37 t = nI (p_ar P 0 t) ∧ μ 38 t = nI (p_ar P 1 t) ∧ μ 39 t = nI (p_pc P t) ∧ μ 40 t = gp_bi (p_gu P t) ∧ μ 41 t = gp_bi (p_sp P t)
theorem gp_pla_kept {P : gp_P} {μ ν : gk_St} (h : gp_pla P μ) (he : ∀ c, 31 ≤ c → c ≤ 41 → ν c = μ c) : gp_pla P ν := by
  unfold gp_pla
  rw [he 31 (by omega) (by omega), he 32 (by omega) (by omega), he 33 (by omega) (by omega), he 34 (by omega) (by omega), he 35 (by omega) (by omega), he 37 (by omega) (by omega), he 38 (by omega) (by omega), he 39 (by omega) (by omega), he 40 (by omega) (by omega), he 41 (by omega) (by omega)]
  exact h
def gp_rs (P : gp_P) (r : Nat) (A : gp_A) (μ : gk_St) : Prop := μ r 9 = nI (p_nc P) ∧ (∀ k, k < p_nc P → μ (r + 19) k = nI (a_pl A k) ∧ μ (r + 20) k = nI (a_in A k) ∧ μ (r + 21) k = nI (a_ou A k)) ∧ (∀ s, s < 2 → μ (r + 22) s = nI (a_wt A s) ∧ μ (r + 23) s = nI (a_ov A s)) ∧ μ r 10 = a_us A ∧ μ r 11 = a_fm A ∧ μ r 12 = a_fc A
/-- only the ride's numbers have changed -/
def gp_fs (r : Nat) (μ ν : gk_St) : Prop := ∀ c, c ≠ r → (c < r + 19 ∨ r + 23 < c) → ν c = μ c
theorem gp_fs_rf {r : Nat} {μ : gk_St} : gp_fs r μ μ := fun _ _ _ => rfl
theorem gp_fs_tr {r : Nat} {μ ν ξ : gk_St} (h1 : gp_fs r μ ν) (h2 : gp_fs r ν ξ) : gp_fs r μ ξ := fun c a b => (h2 c a b).trans (h1 c a b)
theorem gp_fs_pla {r : Nat} {P : gp_P} {μ ν : gk_St} (hr : gp_isR r) (h : gp_fs r μ ν) (hp : gp_pla P μ) : gp_pla P ν := gp_pla_kept hp (fun c h1 h2 => h c (by rcases hr with rfl | rfl <;> omega) (by rcases hr with rfl | rfl <;> omega))
theorem nI_b {b : Bool} : gp_bi b = 0 ↔ b = false := by cases b <;> simp [gp_bi]
theorem s_isClosed {P : gp_P} (hw : gp_wf P) {μ : gk_St} (hp : gp_pla P μ) {k t : Nat} (hk : k < p_nc P) (ht : t < 24) {Q : Int32 → gk_St → Prop} (h : Q (gp_bi (gp_cl P t k)) μ) : w_X1_isClosed 31 (nI k) (nI t) μ Q := by
  have hk6 : k < 6 := Nat.lt_of_lt_of_le hk hw.1
  unfold w_X1_isClosed
  rw [rf_31_4, rf_31_7, rf_31_2]
  rw [kc (k := k) (by omega), kc (k := t) (by omega)]
  refine ⟨vi hk6 ln_35 (by omega), ?_⟩
  have hj := hp.2.2.1 t ht k hk
  unfold gp_cl at h
  by_cases c : μ 35 k ≤ nI t
  · rw [if_pos c]
    rw [hj.mp c] at h
    exact h
  · rw [if_neg c]
    have hjf : p_jm P t k = false := by
      cases hq : p_jm P t k with
      | false => rfl
      | true => exact absurd (hj.mpr hq) c
    rw [hjf, Bool.false_or] at h
    refine ⟨vi ht ln_40 (by omega), ?_⟩
    rw [(hp.2.2.2 t ht).2.2.2.1]
    by_cases g : gp_bi (p_gu P t) = 0
    · rw [if_pos g]
      rw [nI_b.mp g, Bool.false_and] at h
      exact h
    · rw [if_neg g]
      have hg : p_gu P t = true := by
        cases hq : p_gu P t with
        | false => exact absurd (nI_b.mpr hq) g
        | true => rfl
      rw [hg, Bool.true_and] at h
      refine ⟨vi hk6 ln_33 (by omega), ?_⟩
      rw [(hp.2.1 k hk).2.1]
      have hs3 := (hw.2.1 k hk).2.1
      by_cases z : p_so P k = 0
      · rw [z, if_pos nI_0]
        rw [z] at h
        exact h
      · rw [if_neg (nI_ne0 (by omega) (by omega))]
        have e9 : (p_so P k == 0) = false := by simpa using z
        rw [e9] at h
        exact h
theorem nI_div {a b : Nat} (ha : a < 10000) (hb0 : 0 < b) (hb : b < 10000) : nI a / nI b = nI (a / b) := pk_div (by omega) hb0 (by omega)
theorem nI_md {a b : Nat} (ha : a < 10000) (hb0 : 0 < b) (hb : b < 10000) : gk_md (nI a) (nI b) = nI (a % b) := pk_rem (by omega) hb0 (by omega)
theorem s_roomIn {P : gp_P} (hw : gp_wf P) {μ : gk_St} (hp : gp_pla P μ) {k : Nat} (hk : k < p_nc P) {Q : Int32 → gk_St → Prop} (h : Q (nI (gp_cap P k)) μ) : w_X1_roomIn 31 (nI k) μ Q := by
  have hk6 : k < 6 := Nat.lt_of_lt_of_le hk hw.1
  have hro := (hw.2.1 k hk).2.2
  have hs3 := (hw.2.1 k hk).2.1
  unfold w_X1_roomIn
  rw [rf_31_2, rf_31_3, kc (k := k) (by omega), (hp.2.1 k hk).2.1, (hp.2.1 k hk).2.2]
  refine ⟨vi hk6 ln_33 (by omega), ?_⟩
  unfold gp_cap at h
  by_cases z : p_so P k = 2
  · rw [if_pos z] at h
    rw [if_pos (show nI (p_so P k) = 2 by rw [z]; decide)]
    refine ⟨vi hk6 ln_34 (by omega), ?_⟩
    have e9 : nI (p_ro P k) / 2 = nI (p_ro P k / 2) := nI_div (b := 2) (by omega) (by omega) (by omega)
    rw [e9]
    exact h
  · rw [if_neg z] at h
    rw [if_neg (show ¬ nI (p_so P k) = 2 from fun q => z ((nI_eq (b := 2) (by omega) (by omega)).mp q))]
    exact ⟨vi hk6 ln_34 (by omega), h⟩
theorem s_places {P : gp_P} {μ : gk_St} (hp : gp_pla P μ) {t : Nat} (ht : t < 24) {Q : Int32 → gk_St → Prop} (h : Q (nI (gp_pls P t)) μ) : w_X1_places 31 (nI t) μ Q := by
  unfold w_X1_places
  rw [rf_31_8, rf_31_6, kc (k := t) (by omega), (hp.2.2.2 t ht).2.2.1, (hp.2.2.2 t ht).2.2.2.2]
  refine ⟨vi ht ln_41 (by omega), ?_⟩
  unfold gp_pls at h
  cases hs : p_sp P t with
  | false =>
    rw [hs, if_neg (by simp)] at h
    rw [if_pos (show gp_bi false = 0 from rfl)]
    exact ⟨vi ht ln_39 (by omega), h⟩
  | true =>
    rw [hs, if_pos rfl] at h
    rw [if_neg (show ¬ gp_bi true = 0 by decide)]
    exact h
theorem s_station {p : Nat} (hp : p < 24) {μ : gk_St} {Q : Int32 → gk_St → Prop} (h1 : p % 12 = 0 → Q (nI (p / 12)) μ) (h2 : ¬ p % 12 = 0 → Q (-1) μ) : w_X2_stationAt (nI p) μ Q := by
  unfold w_X2_stationAt
  by_cases a : p = 0
  · rw [a, if_pos nI_0]
    rw [a] at h1
    exact h1 rfl
  · rw [if_neg (nI_ne0 (by omega) (by omega))]
    by_cases b : p = 12
    · rw [b, if_pos (by decide)]
      rw [b] at h1
      exact h1 rfl
    · rw [if_neg (show ¬ nI p = 12 from fun q => b ((nI_eq (b := 12) (by omega) (by omega)).mp q))]
      exact h2 (by omega)
