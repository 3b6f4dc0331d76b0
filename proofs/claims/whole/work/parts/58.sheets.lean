/-! the sheets -/
def c_hS (C : gp_C) (s : Nat) (lo : Bool) (fo : Int32) (sz : Nat) (f : Nat → Int32) : gp_C := (C.1, C.2.1, C.2.2.1, gp_u (c_lo C) s lo, gp_u (c_fo C) s fo, gp_u (c_sz C) s sz, gp_u (c_it C) s f, c_fi C)
theorem hS_cw {C : gp_C} {s : Nat} {lo : Bool} {fo : Int32} {sz : Nat} {f : Nat → Int32} (hC : gp_cw C) (hz : sz ≤ 60) : gp_cw (c_hS C s lo fo sz f) := by
  refine ⟨hC.1, hC.2.1, hC.2.2.1, fun t ht => ?_⟩
  show gp_u (c_sz C) s sz t ≤ 60
  by_cases e : t = s
  · rw [e, gp_us]
    exact hz
  · rw [gp_un e]
    exact hC.2.2.2 t ht
theorem kc_H {C : gp_C} {s : Nat} (hs : s < 4) {lo : Bool} {fo : Int32} {sz : Nat} {f : Nat → Int32} {μ ν : gk_St} (hk : gp_kc C μ) (h1 : ν (23 + 2 * s) 1 = gp_bi lo) (h2 : ν (23 + 2 * s) 2 = fo) (h3 : ν (23 + 2 * s) 3 = nI sz) (h4 : ∀ i, i < 60 → ν (24 + 2 * s) i = f i) (hf : ∀ c, c < 101 → c ≠ 23 + 2 * s → c ≠ 24 + 2 * s → ν c = μ c) : gp_kc (c_hS C s lo fo sz f) ν := by
  refine ⟨gp_kA_f (C := C) (fun c a b => hf c (by omega) (by omega) (by omega)) (by rw [hf 0 (by omega) (by omega) (by omega)]) hk.1, gp_kE_f (C := C) (fun c a b => hf c (by omega) (by omega) (by omega)) hk.2.1, gp_kS_f (C := C) (fun c a b => hf c (by omega) (by omega) (by omega)) hk.2.2.1, fun t ht => ?_, ?_, gp_kR_f (C := C) (fun c a b => hf c (by omega) (by omega) (by omega)) (by rw [hf 0 (by omega) (by omega) (by omega)]) hk.2.2.2.2.2⟩
  · show ν (23 + 2 * t) 1 = gp_bi (gp_u (c_lo C) s lo t) ∧ ν (23 + 2 * t) 2 = gp_u (c_fo C) s fo t ∧ ν (23 + 2 * t) 3 = nI (gp_u (c_sz C) s sz t) ∧ ∀ i, i < 60 → ν (24 + 2 * t) i = gp_u (c_it C) s f t i
    by_cases e : t = s
    · rw [e, gp_us, gp_us, gp_us, gp_us]
      exact ⟨h1, h2, h3, h4⟩
    · rw [gp_un e, gp_un e, gp_un e, gp_un e, hf (23 + 2 * t) (by omega) (by omega) (by omega), hf (24 + 2 * t) (by omega) (by omega) (by omega)]
      exact hk.2.2.2.1 t ht
  · rw [hf 0 (by omega) (by omega) (by omega)]
    exact hk.2.2.2.2.1
theorem km_H {C : gp_C} {s : Nat} (hs : s < 4) {lo : Bool} {fo : Int32} {sz : Nat} {f : Nat → Int32} {μ ν : gk_St} (hk : gp_km C μ) (h1 : ν 130 s = gp_bi (!lo)) (h2 : ν 131 s = fo) (h3 : ν 132 s = nI sz) (h4 : ∀ i, i < 60 → ν 133 (60 * s + i) = f i) (g : ∀ t, t < 4 → t ≠ s → ν 130 t = μ 130 t ∧ ν 131 t = μ 131 t ∧ ν 132 t = μ 132 t ∧ ∀ i, i < 60 → ν 133 (60 * t + i) = μ 133 (60 * t + i)) (hf : ∀ c, 101 ≤ c → (c < 129 ∨ 134 < c) → ν c = μ c) : gp_km (c_hS C s lo fo sz f) ν := by
  refine ⟨?_, ?_, ?_, fun t ht => ?_, ?_⟩
  · unfold gp_mt
    rw [hf 102 (by omega) (by omega), hf 103 (by omega) (by omega)]
    exact hk.1
  · unfold gp_mE
    rw [hf 101 (by omega) (by omega), hf 111 (by omega) (by omega), hf 112 (by omega) (by omega), hf 113 (by omega) (by omega)]
    exact hk.2.1
  · unfold gp_mS
    rw [hf 101 (by omega) (by omega), hf 126 (by omega) (by omega), hf 127 (by omega) (by omega), hf 128 (by omega) (by omega)]
    exact hk.2.2.1
  · show ν 130 t = gp_bi (!(gp_u (c_lo C) s lo t)) ∧ ν 131 t = gp_u (c_fo C) s fo t ∧ ν 132 t = nI (gp_u (c_sz C) s sz t) ∧ ∀ i, i < 60 → ν 133 (60 * t + i) = gp_u (c_it C) s f t i
    by_cases e : t = s
    · rw [e, gp_us, gp_us, gp_us, gp_us]
      exact ⟨h1, h2, h3, h4⟩
    · obtain ⟨g1, g2, g3, g4⟩ := g t ht e
      obtain ⟨q1, q2, q3, q4⟩ := hk.2.2.2.1 t ht
      rw [gp_un e, gp_un e, gp_un e, gp_un e, g1, g2, g3]
      exact ⟨q1, q2, q3, fun i hi => (g4 i hi).trans (q4 i hi)⟩
  · rw [hf 101 (by omega) (by omega)]
    exact hk.2.2.2.2
theorem s_sh_y {s : Nat} (hs : s < 4) {μ : gk_St} {Q : Option Nat → gk_St → Prop} (h : Q (some (23 + 2 * s)) μ) : w_X7_sheetOf 0 (nI s) μ Q := by
  unfold w_X7_sheetOf
  rw [rf_0_7, rf_0_8, rf_0_9, rf_0_10]
  rcases (show s = 0 ∨ s = 1 ∨ s = 2 ∨ s = 3 by omega) with z | z | z | z <;> subst z
  · rw [if_pos (by decide)]
    exact h
  · rw [if_neg (by decide), if_pos (by decide)]
    exact h
  · rw [if_neg (by decide), if_neg (by decide), if_pos (by decide)]
    exact h
  · rw [if_neg (by decide), if_neg (by decide), if_neg (by decide), if_pos (by decide)]
    exact h
theorem s_sh_n {x : Int32} (hx : x < 0 ∨ nI 3 < x) {μ : gk_St} {Q : Option Nat → gk_St → Prop} (h : Q none μ) : w_X7_sheetOf 0 x μ Q := by
  unfold w_X7_sheetOf
  rw [if_neg (show ¬ x = 0 from nr_ne (by omega) hx (j := 0) (by omega)), if_neg (show ¬ x = 1 from nr_ne (by omega) hx (j := 1) (by omega)), if_neg (show ¬ x = 2 from nr_ne (by omega) hx (j := 2) (by omega)), if_neg (show ¬ x = 3 from nr_ne (by omega) hx (j := 3) (by omega))]
  exact h
theorem m_sh_y {s : Nat} (hs : s < 4) {μ : gk_St} {Q : Int32 → gk_St → Prop} (h : Q 1 μ) : w_X8_isSheet (nI s) μ Q := s_ii (m := 3) (by omega) (by omega) ⟨Or.inr rfl, h⟩
theorem m_sh_n {x : Int32} (hx : x < 0 ∨ nI 3 < x) {μ : gk_St} {Q : Int32 → gk_St → Prop} (h : Q 0 μ) : w_X8_isSheet x μ Q := s_in_n hx ⟨Or.inl rfl, h⟩
theorem rf_h {s : Nat} (hs : s < 4) : gk_rf (23 + 2 * s) 0 = 24 + 2 * s ∧ gk_ln (24 + 2 * s) = 60 := by
  rcases (show s = 0 ∨ s = 1 ∨ s = 2 ∨ s = 3 by omega) with z | z | z | z <;> subst z
  · exact ⟨rf_23_0, ln_24⟩
  · exact ⟨rf_25_0, ln_26⟩
  · exact ⟨rf_27_0, ln_28⟩
  · exact ⟨rf_29_0, ln_30⟩
/-- a run of items -/
def gp_hr (n : Nat) (x c : Int32) : Prop := ∃ j m, x = nI j ∧ c = nI m ∧ j + m ≤ n
theorem c_hr_y {o n : Nat} (hn : n ≤ 60) {μ : gk_St} (h3 : μ o 3 = nI n) {j m : Nat} (hj : j + m ≤ n) {Q : Int32 → gk_St → Prop} (h : Q 1 μ) : w_X3_hasRun o (nI j) (nI m) μ Q := by
  unfold w_X3_hasRun
  rw [h3, pk_sub (a := n) (b := j) (by omega), if_neg (nI_pos (by omega)), if_neg (nI_pos (by omega)), if_neg (fun q => absurd ((nI_ltI (by omega) (by omega)).mp q) (by omega)), if_neg (fun q => absurd ((nI_ltI (by omega) (by omega)).mp q) (by omega))]
  exact h
theorem c_hr_n {o n : Nat} (hn : n ≤ 60) {μ : gk_St} (h3 : μ o 3 = nI n) {x c : Int32} (hx : ¬ gp_hr n x c) {Q : Int32 → gk_St → Prop} (h : Q 0 μ) : w_X3_hasRun o x c μ Q := by
  unfold w_X3_hasRun
  rw [h3]
  by_cases a : x < 0
  · rw [if_pos a]
    exact h
  · rw [if_neg a]
    by_cases b : c < 0
    · rw [if_pos b]
      exact h
    · rw [if_neg b]
      rcases rg x n (by omega) with ⟨j, hj, rfl⟩ | q
      · rw [if_neg (fun q => absurd ((nI_ltI (by omega) (by omega)).mp q) (by omega)), pk_sub hj]
        rcases rg c (n - j) (by omega) with ⟨m, hm, rfl⟩ | p
        · exact absurd ⟨j, m, rfl, rfl, by omega⟩ hx
        · rw [if_pos (p.resolve_left b)]
          exact h
      · rw [if_pos (q.resolve_left a)]
        exact h
/-- one item -/
theorem hr1_y {n j : Nat} (h : j < n) : gp_hr n (nI j) 1 := ⟨j, 1, rfl, rfl, h⟩
theorem hr1_n {n : Nat} (hn : n ≤ 60) {x : Int32} (h : x < 0 ∨ nI n - 1 < x) : ¬ gp_hr n x 1 := by
  intro ⟨j, m, e1, e2, e3⟩
  have hm : m = 1 := by
    have h60 : m ≤ 60 := by omega
    exact ((nI_eq (a := 1) (b := m) (by omega) (by omega)).mp e2).symm
  rw [e1] at h
  rcases h with q | q
  · exact nI_pos (by omega) q
  · exact nI_pr (n := n) (by omega) (by omega) q
def v_wr (C : gp_C) (s : Nat) (fo x : Int32) : Int32 := if c_lo C s = true then 1 else if fo = c_fo C s then (if x < 0 ∨ nI (c_sz C s) - 1 < x then 2 else 0) else 3
theorem bi_t {b : Bool} (h : b = true) : ¬ gp_bi b = 0 := by rw [h]; decide
theorem bi_f {b : Bool} (h : ¬ b = true) : gp_bi b = 0 := by
  cases b with
  | false => rfl
  | true => exact absurd rfl h
theorem c_wrong {C : gp_C} {μ : gk_St} (hC : gp_cw C) (hk : gp_kc C μ) {s : Nat} (hs : s < 4) {fo x : Int32} {Q : Int32 → gk_St → Prop} (h : Q (v_wr C s fo x) μ) : w_X3_wrongWith (23 + 2 * s) fo x μ Q := by
  obtain ⟨k1, k2, k3, k4⟩ := hk.2.2.2.1 s hs
  have hz := hC.2.2.2 s hs
  unfold v_wr at h
  unfold w_X3_wrongWith
  rw [k1, k2]
  by_cases l : c_lo C s = true
  · rw [if_neg (bi_t l)]
    rw [if_pos l] at h
    exact h
  · rw [if_pos (bi_f l)]
    rw [if_neg l] at h
    by_cases e : fo = c_fo C s
    · rw [if_pos e]
      rw [if_pos e] at h
      rcases rgc x (c_sz C s) (by omega) with ⟨j, hj, rfl⟩ | q
      · rw [if_neg (fun q => q.elim (nI_pos (by omega)) (nI_pr hj (by omega)))] at h
        refine c_hr_y hz k3 (m := 1) (by omega) ?_
        rw [if_neg i1n0]
        exact h
      · rw [if_pos q] at h
        refine c_hr_n hz k3 (hr1_n hz q) ?_
        rw [if_pos rfl]
        exact h
    · rw [if_neg e]
      rw [if_neg e] at h
      exact h
theorem m_lacks {C : gp_C} {μ : gk_St} (hC : gp_cw C) (hk : gp_km C μ) {s : Nat} (hs : s < 4) {fo x : Int32} {Q : Int32 → gk_St → Prop} (h : Q (v_wr C s fo x) μ) : w_X8_lacks 101 (nI s) fo x μ Q := by
  obtain ⟨k1, k2, k3, k4⟩ := hk.2.2.2.1 s hs
  have hz := hC.2.2.2 s hs
  unfold v_wr at h
  unfold w_X8_lacks
  rw [rf_101_42, rf_101_43, rf_101_44, kc (k := s) (by omega), k1, k2, k3]
  refine ⟨vi hs ln_130 (by omega), ?_⟩
  by_cases l : c_lo C s = true
  · rw [if_pos (show gp_bi (!c_lo C s) = 0 by rw [l]; rfl)]
    rw [if_pos l] at h
    exact h
  · rw [if_neg (bi_t (show (!c_lo C s) = true by simpa using l))]
    rw [if_neg l] at h
    refine ⟨vi hs ln_131 (by omega), ?_⟩
    by_cases e : fo = c_fo C s
    · rw [if_pos e.symm]
      rw [if_pos e] at h
      refine ⟨vi hs ln_132 (by omega), ?_⟩
      by_cases q : x < 0 ∨ nI (c_sz C s) - 1 < x
      · rw [if_pos q] at h
        refine s_in_n q ?_
        rw [if_pos rfl]
        exact h
      · rw [if_neg q] at h
        refine s_in_y (fun p => q (Or.inl p)) (fun p => q (Or.inr p)) ?_
        rw [if_neg i1n0]
        exact h
    · rw [if_neg (fun q => e q.symm)]
      rw [if_neg e] at h
      exact h
/-- an item kept, by its form -/
def gp_sf (fo v : Int32) : Int32 := if fo = 0 then v.toInt8.toInt32 else if fo = 1 then v.toInt16.toInt32 else v
theorem c_st {o a n j : Nat} (hr : gk_rf o 0 = a) (hl : gk_ln a = 60) {μ : gk_St} (hn : n ≤ 60) (h3 : μ o 3 = nI n) (hj : j < n) {v : Int32} {Q : gk_St → Prop} (h : Q (gk_up μ a j (gp_sf (μ o 2) v))) : w_X3_store o (nI j) v μ Q := by
  unfold w_X3_store
  refine c_hr_y hn h3 (m := 1) (by omega) ?_
  rw [if_neg i1n0, hr, kc (k := j) (by omega)]
  unfold gp_sf at h
  by_cases a0 : μ o 2 = 0
  · rw [if_pos a0]
    rw [if_pos a0] at h
    refine ⟨vi (n := 60) (by omega) hl (by omega), ?_⟩
    intro m e
    rw [e]
    exact h
  · rw [if_neg a0]
    rw [if_neg a0] at h
    by_cases a1 : μ o 2 = 1
    · rw [if_pos a1]
      rw [if_pos a1] at h
      refine ⟨vi (n := 60) (by omega) hl (by omega), ?_⟩
      intro m e
      rw [e]
      exact h
    · rw [if_neg a1]
      rw [if_neg a1] at h
      refine ⟨vi (n := 60) (by omega) hl (by omega), ?_⟩
      intro m e
      rw [e]
      exact h
theorem e60 (s j : Nat) : (60 : Int32) * nI s + nI j = nI (60 * s + j) := by
  have : (60 : Int32) * nI s = nI (60 * s) := pk_mul 60 s
  rw [this, nI_add]
theorem m_kp {s j : Nat} (hs : s < 4) (hj : j < 60) {μ : gk_St} {v : Int32} {Q : gk_St → Prop} (h : Q (gk_up μ 133 (60 * s + j) (gp_sf (μ 131 s) v))) : w_X8_keep 101 (nI s) (nI j) v μ Q := by
  unfold w_X8_keep
  rw [rf_101_43, rf_101_45, kc (k := s) (by omega), e60, kc (k := 60 * s + j) (by omega)]
  unfold gp_sf at h
  refine ⟨vi hs ln_131 (by omega), ?_⟩
  by_cases a0 : μ 131 s = 0
  · rw [if_pos a0]
    rw [if_pos a0] at h
    refine ⟨vi (n := 240) (by omega) ln_133 (by omega), ?_⟩
    intro m e
    rw [e]
    exact h
  · rw [if_neg a0]
    rw [if_neg a0] at h
    refine ⟨vi hs ln_131 (by omega), ?_⟩
    by_cases a1 : μ 131 s = 1
    · rw [if_pos a1]
      rw [if_pos a1] at h
      refine ⟨vi (n := 240) (by omega) ln_133 (by omega), ?_⟩
      intro m e
      rw [e]
      exact h
    · rw [if_neg a1]
      rw [if_neg a1] at h
      refine ⟨vi (n := 240) (by omega) ln_133 (by omega), ?_⟩
      intro m e
      rw [e]
      exact h
theorem v_wr_c (C : gp_C) (s : Nat) (fo x : Int32) : (v_wr C s fo x = 0 ∧ c_lo C s = false ∧ fo = c_fo C s ∧ ¬ (x < 0 ∨ nI (c_sz C s) - 1 < x)) ∨ (¬ v_wr C s fo x = 0 ∧ ¬ v_wr C s fo x ≤ 0) := by
  unfold v_wr
  by_cases l : c_lo C s = true
  · rw [if_pos l]
    exact Or.inr ⟨by decide, by decide⟩
  · rw [if_neg l]
    by_cases e : fo = c_fo C s
    · rw [if_pos e]
      by_cases q : x < 0 ∨ nI (c_sz C s) - 1 < x
      · rw [if_pos q]
        exact Or.inr ⟨by decide, by decide⟩
      · rw [if_neg q]
        exact Or.inl ⟨rfl, by simpa using l, e, q⟩
    · rw [if_neg e]
      exact Or.inr ⟨by decide, by decide⟩
set_option maxHeartbeats 4000000 in
theorem k_ok_get : ok_get gp_Inv := by
  intro μ x1 x2 x3 ⟨C, hK⟩
  unfold w_X7_get
  rcases rg x1 3 (by omega) with ⟨s, hs, rfl⟩ | b1
  · refine s_sh_y (by omega) ?_
    dsimp only
    rcases rg x2 2 (by omega) with ⟨fo, hf, rfl⟩ | b2
    · refine s_form_y (by omega) ?_
      rw [if_neg i1n0]
      refine c_wrong hK.1 hK.2.1 (by omega) ?_
      have hz := hK.1.2.2.2 s (by omega)
      rcases v_wr_c C s (nI fo) x3 with ⟨w1, w2, w3, w4⟩ | ⟨w1, w2⟩
      · rw [if_pos w1]
        rcases rgc x3 (c_sz C s) (by omega) with ⟨j, hj, rfl⟩ | q
        · rw [(rf_h (show s < 4 by omega)).1, kc (k := j) (by omega), (hK.2.1.2.2.2.1 s (by omega)).2.2.2 j (by omega)]
          refine ⟨vi (n := 60) (by omega) (rf_h (show s < 4 by omega)).2 (by omega), ?_⟩
          unfold w_X8_get
          refine m_sh_y (by omega) ?_
          rw [if_neg i1n0]
          refine s_ii (m := 2) (by omega) hf ?_
          rw [if_neg i1n0]
          refine m_lacks hK.1 hK.2.2 (by omega) ?_
          rw [if_pos (show v_wr C s (nI fo) (nI j) ≤ 0 by rw [w1]; decide), rf_101_45, e60, kc (k := 60 * s + j) (by omega), (hK.2.2.2.2.2.1 s (by omega)).2.2.2 j (by omega)]
          exact ⟨vi (n := 240) (by omega) ln_133 (by omega), rfl, C, hK⟩
        · exact absurd q w4
      · rw [if_neg w1]
        intro m7 e7
        rw [e7]
        have hm := km_F0 (f := v_wr C s (nI fo) x3) hK
        unfold w_X8_get
        refine m_sh_y (by omega) ?_
        rw [if_neg i1n0]
        refine s_ii (m := 2) (by omega) hf ?_
        rw [if_neg i1n0]
        refine m_lacks hK.1 hm (by omega) ?_
        rw [if_neg w2]
        intro m9 e9
        rw [e9]
        exact ⟨rfl, _, K_F hK⟩
    · refine s_form_n b2 ?_
      rw [if_pos rfl]
      unfold w_X8_get
      refine m_sh_y (by omega) ?_
      rw [if_neg i1n0]
      refine s_in_n b2 ?_
      rw [if_pos rfl]
      exact ⟨rfl, C, hK⟩
  · refine s_sh_n b1 ?_
    dsimp only
    unfold w_X8_get
    refine m_sh_n b1 ?_
    rw [if_pos rfl]
    exact ⟨rfl, C, hK⟩
theorem gp_it1 {C : gp_C} {s j : Nat} (hs : s < 4) (hj : j < 60) {v : Int32} {μ : gk_St} (hK : gp_K C μ) : gp_K (c_hS C s (c_lo C s) (c_fo C s) (c_sz C s) (gp_u (c_it C s) j v)) (gk_up (gk_up μ (24 + 2 * s) j v) 133 (60 * s + j) v) := by
  obtain ⟨k1, k2, k3, k4⟩ := hK.2.1.2.2.2.1 s hs
  obtain ⟨m1, m2, m3, m4⟩ := hK.2.2.2.2.2.1 s hs
  refine ⟨hS_cw hK.1 (hK.1.2.2.2 s hs), kc_lo (fun c q => gk_up_n (by omega)) (kc_H (μ := μ) hs hK.2.1 ?_ ?_ ?_ (fun i hi => ?_) (fun c p q r => gk_up_n r)), km_H (μ := μ) hs hK.2.2 ?_ ?_ ?_ (fun i hi => ?_) (fun t ht e => ⟨?_, ?_, ?_, fun i hi => ?_⟩) (fun c p q => ?_)⟩
  · rw [gk_up_n (by omega)]
    exact k1
  · rw [gk_up_n (by omega)]
    exact k2
  · rw [gk_up_n (by omega)]
    exact k3
  · rw [gk_up_s]
    by_cases e : i = j
    · rw [e, upd_s, gp_us]
    · rw [upd_n e, gp_un e]
      exact k4 i hi
  · rw [gk_up_n (by omega), gk_up_n (by omega)]
    exact m1
  · rw [gk_up_n (by omega), gk_up_n (by omega)]
    exact m2
  · rw [gk_up_n (by omega), gk_up_n (by omega)]
    exact m3
  · rw [gk_up_s]
    by_cases e : i = j
    · rw [e, upd_s, gp_us]
    · rw [upd_n (by omega), gp_un e, gk_up_n (by omega)]
      exact m4 i hi
  · rw [gk_up_n (by omega), gk_up_n (by omega)]
  · rw [gk_up_n (by omega), gk_up_n (by omega)]
  · rw [gk_up_n (by omega), gk_up_n (by omega)]
  · rw [gk_up_s, upd_n (by omega), gk_up_n (by omega)]
  · rw [gk_up_n (by omega), gk_up_n (by omega)]
set_option maxHeartbeats 4000000 in
theorem k_ok_put : ok_put gp_Inv := by
  intro μ x1 x2 x3 x4 ⟨C, hK⟩
  unfold w_X7_put
  rcases rg x1 3 (by omega) with ⟨s, hs, rfl⟩ | b1
  · refine s_sh_y (by omega) ?_
    dsimp only
    rcases rg x2 2 (by omega) with ⟨fo, hf, rfl⟩ | b2
    · refine s_form_y (by omega) ?_
      rw [if_neg i1n0]
      refine c_wrong hK.1 hK.2.1 (by omega) ?_
      have hz := hK.1.2.2.2 s (by omega)
      rcases v_wr_c C s (nI fo) x3 with ⟨w1, w2, w3, w4⟩ | ⟨w1, w2⟩
      · rw [if_pos w1]
        rcases rgc x3 (c_sz C s) (by omega) with ⟨j, hj, rfl⟩ | q
        · obtain ⟨k1, k2, k3, k4⟩ := hK.2.1.2.2.2.1 s (by omega)
          obtain ⟨r1, r2⟩ := rf_h (show s < 4 by omega)
          refine c_st r1 r2 hz k3 hj ?_
          rw [k2]
          have hm : gp_km C (gk_up μ (24 + 2 * s) j (gp_sf (c_fo C s) x4)) := km_hi (fun c q => gk_up_n (by omega)) hK.2.2
          unfold w_X8_put
          refine m_sh_y (by omega) ?_
          rw [if_neg i1n0]
          refine s_ii (m := 2) (by omega) hf ?_
          rw [if_neg i1n0]
          refine m_lacks hK.1 hm (by omega) ?_
          rw [if_pos (show v_wr C s (nI fo) (nI j) ≤ 0 by rw [w1]; decide)]
          refine m_kp (by omega) (by omega) ?_
          rw [(hm.2.2.2.1 s (by omega)).2.1]
          exact ⟨rfl, _, gp_it1 (by omega) (by omega) hK⟩
        · exact absurd q w4
      · rw [if_neg w1]
        refine c_fnd ?_
        have hm := km_F0 (f := v_wr C s (nI fo) x3) hK
        unfold w_X8_put
        refine m_sh_y (by omega) ?_
        rw [if_neg i1n0]
        refine s_ii (m := 2) (by omega) hf ?_
        rw [if_neg i1n0]
        refine m_lacks hK.1 hm (by omega) ?_
        rw [if_neg w2]
        exact m_mee ⟨rfl, _, K_F hK⟩
    · refine s_form_n b2 ?_
      rw [if_pos rfl]
      unfold w_X8_put
      refine m_sh_y (by omega) ?_
      rw [if_neg i1n0]
      refine s_in_n b2 ?_
      rw [if_pos rfl]
      exact ⟨rfl, C, hK⟩
  · refine s_sh_n b1 ?_
    dsimp only
    unfold w_X8_put
    refine m_sh_n b1 ?_
    rw [if_pos rfl]
    exact ⟨rfl, C, hK⟩
set_option maxHeartbeats 4000000 in
theorem k_ok_lose : ok_lose gp_Inv := by
  intro μ x1 ⟨C, hK⟩
  unfold w_X7_lose
  rcases rg x1 3 (by omega) with ⟨s, hs, rfl⟩ | b1
  · refine s_sh_y (by omega) ?_
    dsimp only
    have hs4 : s < 4 := by omega
    obtain ⟨k1, k2, k3, k4⟩ := hK.2.1.2.2.2.1 s hs4
    rw [k1]
    by_cases l : c_lo C s = true
    · rw [if_neg (bi_t l)]
      refine c_fnd ?_
      have hm := km_F0 (f := 1) hK
      unfold w_X8_lose
      refine m_sh_y hs4 ?_
      rw [if_neg i1n0, rf_101_42, kc (k := s) (by omega), (hm.2.2.2.1 s hs4).1, if_pos (show gp_bi (!c_lo C s) = 0 by rw [l]; rfl)]
      exact ⟨vi hs4 ln_130 (by omega), m_mee ⟨rfl, _, K_F hK⟩⟩
    · rw [if_pos (bi_f l)]
      intro m3 e3
      have g3 : m3 (23 + 2 * s) = upd (μ (23 + 2 * s)) 1 1 := by rw [e3, gk_up_s]
      have g0 : ∀ c, c ≠ 23 + 2 * s → m3 c = μ c := fun c q => by rw [e3, gk_up_n q]
      rw [g3, upd_n (by omega), k3]
      have hm : gp_km C m3 := km_hi (fun c q => g0 c (by omega)) hK.2.2
      obtain ⟨p1, p2, p3, p4⟩ := hm.2.2.2.1 s hs4
      have hc : gp_kc (c_hS C s true (c_fo C s) (c_sz C s) (c_it C s)) m3 := kc_H hs4 hK.2.1 (by rw [g3, upd_s]; rfl) (by rw [g3, upd_n (by omega)]; exact k2) (by rw [g3, upd_n (by omega)]; exact k3) (fun i hi => by rw [g0 _ (by omega)]; exact k4 i hi) (fun c p q r => g0 c q)
      unfold w_X8_lose
      refine m_sh_y hs4 ?_
      rw [if_neg i1n0, rf_101_42, rf_101_44, kc (k := s) (by omega), p1, if_neg (bi_t (show (!c_lo C s) = true by simpa using l))]
      refine ⟨vi hs4 ln_130 (by omega), vi hs4 ln_130 (by omega), ?_⟩
      intro m5 e5
      have f5 : m5 130 = upd (m3 130) s 0 := by rw [e5, gk_up_s]
      have f0 : ∀ c, c ≠ 130 → m5 c = m3 c := fun c q => by rw [e5, gk_up_n q]
      rw [f0 132 (by omega), p3]
      refine ⟨vi hs4 ln_132 (by omega), rfl, c_hS C s true (c_fo C s) (c_sz C s) (c_it C s), hS_cw hK.1 (hK.1.2.2.2 s hs4), kc_lo (fun c q => f0 c (by omega)) hc, km_H hs4 hm ?_ ?_ ?_ (fun i hi => ?_) (fun t ht e => ⟨?_, ?_, ?_, fun i hi => ?_⟩) (fun c p q => f0 c (by omega))⟩
      · rw [f5, upd_s]
        rfl
      · rw [f0 131 (by omega)]
        exact p2
      · rw [f0 132 (by omega)]
        exact p3
      · rw [f0 133 (by omega)]
        exact p4 i hi
      · rw [f5, upd_n e]
      · rw [f0 131 (by omega)]
      · rw [f0 132 (by omega)]
      · rw [f0 133 (by omega)]
  · refine s_sh_n b1 ?_
    dsimp only
    unfold w_X8_lose
    refine m_sh_n b1 ?_
    rw [if_pos rfl]
    exact ⟨rfl, C, hK⟩
theorem m_z60 {s : Nat} (hs : s < 4) {x3 : Int32} {Q : Int32 → gk_St → Prop} {K : Int32 → gk_St → Prop} : ∀ (i j : Nat) (μ : gk_St), j + i = 60 → (∀ t, t < j → μ 133 (60 * s + t) = 0) → (∀ ν, (∀ t, t < 60 → ν 133 (60 * s + t) = 0) → (∀ p, (p < 60 * s ∨ 60 * s + 60 ≤ p) → ν 133 p = μ 133 p) → (∀ c, c ≠ 133 → ν c = μ c) → K x3 ν) → w_X8_sheet_l59 Q K 101 (i + 1) (nI s) x3 (nI j) μ := by
  intro i
  induction i with
  | zero =>
    intro j μ hj hz h
    have e : j = 60 := by omega
    subst e
    unfold w_X8_sheet_l59
    rw [if_pos (by decide)]
    exact h μ hz (fun _ _ => rfl) (fun _ _ => rfl)
  | succ i ih =>
    intro j μ hj hz h
    unfold w_X8_sheet_l59
    rw [if_neg (show ¬ (60 : Int32) ≤ nI j from fun q => absurd ((nI_leI (a := 60) (by omega) (by omega)).mp q) (by omega)), rf_101_45, e60, kc (k := 60 * s + j) (by omega)]
    refine ⟨vi (n := 240) (by omega) ln_133 (by omega), ?_⟩
    intro m8 e8 v9 e9
    rw [e9, nI_1]
    refine ih (j + 1) m8 (by omega) (fun t ht => ?_) (fun ν a b c => h ν a (fun p q => ?_) (fun d q => ?_))
    · rw [e8, gk_up_s]
      by_cases e : t = j
      · rw [e, upd_s]
      · rw [upd_n (by omega)]
        exact hz t (by omega)
    · rw [b p q, e8, gk_up_s, upd_n (by omega)]
    · rw [c d q, e8, gk_up_n q]
set_option maxHeartbeats 4000000 in
theorem k_ok_sheet : ok_sheet gp_Inv := by
  intro μ x1 x2 x3 ⟨C, hK⟩
  unfold w_X7_sheet
  rcases rg x1 3 (by omega) with ⟨s, hs, rfl⟩ | b1
  · refine s_sh_y (by omega) ?_
    dsimp only
    have hs4 : s < 4 := by omega
    obtain ⟨r1, r2⟩ := rf_h hs4
    rcases rg x2 2 (by omega) with ⟨fo, hf, rfl⟩ | b2
    · refine s_form_y (by omega) ?_
      rw [if_neg i1n0]
      by_cases c60 : x3 ≤ 60
      · rw [if_pos c60]
        by_cases c0 : 0 ≤ x3
        · rw [if_pos c0]
          rcases rg x3 60 (by omega) with ⟨z, hz, rfl⟩ | q
          · unfold w_X3_renew
            rw [r1]
            refine s_fill r2 (by omega) (fun m1 a1 a2 => ?_)
            have e60' : gk_mx 0 (gk_mn (nI z) 60) = nI z := by
              have h1 : gk_mn (nI z) 60 = nI (min z 60) := nI_mn (b := 60) (by omega) (by omega)
              have h2 : gk_mx 0 (nI (min z 60)) = nI (max 0 (min z 60)) := nI_mx (a := 0) (by omega) (by omega)
              rw [h1, h2]
              congr 1
              omega
            rw [e60']
            intro m2 e2 m3 e3 m4 e4
            have g3 : m4 (23 + 2 * s) = upd (upd (upd (μ (23 + 2 * s)) 2 (nI fo)) 3 (nI z)) 1 0 := by rw [e4, gk_up_s, e3, gk_up_s, e2, gk_up_s, a2 _ (by omega)]
            have g0 : ∀ c, c ≠ 23 + 2 * s → m4 c = m1 c := fun c q => by rw [e4, gk_up_n q, e3, gk_up_n q, e2, gk_up_n q]
            have g1 : ∀ c, c ≠ 23 + 2 * s → c ≠ 24 + 2 * s → m4 c = μ c := fun c q r => by rw [g0 c q, a2 c r]
            have hm : gp_km C m4 := km_hi (fun c q => g1 c (by omega) (by omega)) hK.2.2
            have hc : gp_kc (c_hS C s false (nI fo) z (fun _ => 0)) m4 := kc_H hs4 hK.2.1 (by rw [g3, upd_s]; rfl) (by rw [g3, upd_n (by omega), upd_n (by omega), upd_s]) (by rw [g3, upd_n (by omega), upd_s]) (fun i hi => by rw [g0 _ (by omega)]; exact a1 i hi) (fun c p q r => g1 c q r)
            unfold w_X8_sheet
            refine m_sh_y hs4 ?_
            rw [if_neg i1n0]
            refine s_ii (m := 2) (by omega) hf ?_
            rw [if_neg i1n0, if_pos c60, if_pos c0, rf_101_42, rf_101_43, rf_101_44, kc (k := s) (by omega)]
            refine ⟨vi hs4 ln_130 (by omega), ?_⟩
            intro m5 e5
            refine ⟨vi hs4 ln_131 (by omega), ?_⟩
            intro m6 e6
            refine ⟨vi hs4 ln_132 (by omega), ?_⟩
            intro m7 e7
            refine ⟨61, ?_⟩
            refine m_z60 hs4 60 0 m7 (by omega) (fun t ht => absurd ht (Nat.not_lt_zero t)) (fun ν z1 z2 z3 => ?_)
            have f0 : ∀ c, c ≠ 130 → c ≠ 131 → c ≠ 132 → c ≠ 133 → ν c = m4 c := fun c q1 q2 q3 q4 => by rw [z3 c q4, e7, gk_up_n q3, e6, gk_up_n q2, e5, gk_up_n q1]
            have f1 : ν 130 = upd (m4 130) s 1 := by rw [z3 130 (by omega), e7, gk_up_n (by omega), e6, gk_up_n (by omega), e5, gk_up_s]
            have f2 : ν 131 = upd (m4 131) s (nI fo) := by rw [z3 131 (by omega), e7, gk_up_n (by omega), e6, gk_up_s, e5, gk_up_n (by omega)]
            have f3 : ν 132 = upd (m4 132) s (nI z) := by rw [z3 132 (by omega), e7, gk_up_s, e6, gk_up_n (by omega), e5, gk_up_n (by omega)]
            have f4 : m7 133 = m4 133 := by rw [e7, gk_up_n (by omega), e6, gk_up_n (by omega), e5, gk_up_n (by omega)]
            refine ⟨rfl, c_hS C s false (nI fo) z (fun _ => 0), hS_cw hK.1 hz, kc_lo (fun c q => f0 c (by omega) (by omega) (by omega) (by omega)) hc, km_H hs4 hm ?_ ?_ ?_ z1 (fun t ht e => ⟨?_, ?_, ?_, fun i hi => ?_⟩) (fun c p q => f0 c (by omega) (by omega) (by omega) (by omega))⟩
            · rw [f1, upd_s]
              rfl
            · rw [f2, upd_s]
            · rw [f3, upd_s]
            · rw [f1, upd_n e]
            · rw [f2, upd_n e]
            · rw [f3, upd_n e]
            · rw [z2 (60 * t + i) (by omega), f4]
          · rcases q with q | q
            · exact absurd c0 (Int32.not_le.mpr q)
            · exact absurd c60 (Int32.not_le.mpr q)
        · rw [if_neg c0]
          refine c_fnd ?_
          unfold w_X8_sheet
          refine m_sh_y hs4 ?_
          rw [if_neg i1n0]
          refine s_ii (m := 2) (by omega) hf ?_
          rw [if_neg i1n0, if_pos c60, if_neg c0]
          exact m_mee ⟨rfl, _, K_F hK⟩
      · rw [if_neg c60]
        unfold w_X8_sheet
        refine m_sh_y hs4 ?_
        rw [if_neg i1n0]
        refine s_ii (m := 2) (by omega) hf ?_
        rw [if_neg i1n0, if_neg c60]
        exact ⟨rfl, C, hK⟩
    · refine s_form_n b2 ?_
      rw [if_pos rfl]
      unfold w_X8_sheet
      refine m_sh_y hs4 ?_
      rw [if_neg i1n0]
      refine s_in_n b2 ?_
      rw [if_pos rfl]
      exact ⟨rfl, C, hK⟩
  · refine s_sh_n b1 ?_
    dsimp only
    unfold w_X8_sheet
    refine m_sh_n b1 ?_
    rw [if_pos rfl]
    exact ⟨rfl, C, hK⟩
