/-! what the two share: C, and what the cells hold of it -/
abbrev gp_C : Type := ((Nat → Nat) × (Nat → Nat → Nat)) × (Nat × (Nat → Nat) × (Nat → Nat) × (Nat → Nat)) × (Nat × (Nat → Nat) × (Nat → Nat) × (Nat → Nat)) × (Nat → Bool) × (Nat → Int32) × (Nat → Nat) × (Nat → Nat → Int32) × Int32
def c_tn (C : gp_C) : Nat → Nat := C.1.1
def c_tb (C : gp_C) : Nat → Nat → Nat := C.1.2
def c_ne (C : gp_C) : Nat := C.2.1.1
def c_ek (C : gp_C) : Nat → Nat := C.2.1.2.1
def c_ea (C : gp_C) : Nat → Nat := C.2.1.2.2.1
def c_en (C : gp_C) : Nat → Nat := C.2.1.2.2.2
def c_ns (C : gp_C) : Nat := C.2.2.1.1
def c_sm (C : gp_C) : Nat → Nat := C.2.2.1.2.1
def c_ss (C : gp_C) : Nat → Nat := C.2.2.1.2.2.1
def c_sw (C : gp_C) : Nat → Nat := C.2.2.1.2.2.2
def c_lo (C : gp_C) : Nat → Bool := C.2.2.2.1
def c_fo (C : gp_C) : Nat → Int32 := C.2.2.2.2.1
def c_sz (C : gp_C) : Nat → Nat := C.2.2.2.2.2.1
def c_it (C : gp_C) : Nat → Nat → Int32 := C.2.2.2.2.2.2.1
def c_fi (C : gp_C) : Int32 := C.2.2.2.2.2.2.2
def c_nc (C : gp_C) : Nat := gp_pz 0 (c_tn C 0) (c_tb C 0)
def c_pl (C : gp_C) (k : Nat) : Nat := c_tb C 0 (4 * k) - 97
def c_so (C : gp_C) (k : Nat) : Nat := gp_sgn 0 (c_tb C 0 (4 * k + 1))
def c_ro (C : gp_C) (k : Nat) : Nat := c_tb C 0 (4 * k + 2) - 48
def c_nm (C : gp_C) : Nat := gp_pz 1 (c_tn C 1) (c_tb C 1)
def c_pc (C : gp_C) : Nat → Nat := gp_ts (c_tn C 2) (c_tb C 2)
def c_D (C : gp_C) : gp_D := (c_nm C, fun i => c_tb C 1 (4 * i) - 97, fun i => gp_sgn 1 (c_tb C 1 (4 * i + 1)), fun i => c_tb C 1 (4 * i + 2) - 48, c_ne C, c_ek C, c_ea C, c_en C)
/-- the plan as told -/
def c_P (C : gp_C) : gp_P := gp_mk (c_nc C) (c_pl C) (c_so C) (c_ro C) (c_D C) (c_pc C) (fun _ => true)
def gp_cw (C : gp_C) : Prop := (∀ x, x < 3 → c_tn C x ≤ gp_lm x ∧ ∀ k, k < c_tn C x → c_tb C x k ≤ 255) ∧ (c_ne C ≤ 8 ∧ ∀ i, i < c_ne C → c_ek C i < 3 ∧ c_ea C i < 24 ∧ c_en C i < 6) ∧ (c_ns C ≤ 8 ∧ ∀ i, i < c_ns C → c_sm C i < 24 ∧ c_ss C i < 2 ∧ c_sw C i ≤ 108) ∧ ∀ s, s < 4 → c_sz C s ≤ 60
theorem c_car {C : gp_C} {k : Nat} (hk : k < c_nc C) : c_pl C k < 24 ∧ c_so C k < 3 ∧ c_ro C k ≤ 9 := by
  obtain ⟨h1, h2, h3, h4, h5, h6, h7⟩ := gp_pz_ok hk
  refine ⟨h3, h5, ?_⟩
  show c_tb C 0 (4 * k + 2) - 48 ≤ 9
  omega
theorem c_nc6 {C : gp_C} : c_nc C ≤ 6 := gp_pz_le
theorem c_nm12 {C : gp_C} : c_nm C ≤ 12 := gp_pz_le
theorem c_dw {C : gp_C} (hC : gp_cw C) : gp_dw (c_D C) := by
  refine ⟨c_nm12, fun i hi => ?_, hC.2.1.1, hC.2.1.2⟩
  obtain ⟨h1, h2, h3, h4, h5, h6, h7⟩ := gp_pz_ok (x := 1) (n := c_tn C 1) (b := c_tb C 1) hi
  refine ⟨h3, gp_sgn1 h5, ?_⟩
  show c_tb C 1 (4 * i + 2) - 48 ≤ 9
  omega
theorem c_pc3 {C : gp_C} {t : Nat} : c_pc C t ≤ 3 := gp_ts_le
theorem c_wf {C : gp_C} (hC : gp_cw C) : gp_wf (c_P C) := gp_wf_mk (c_dw hC) c_nc6 (fun _ hk => c_car hk) (fun _ _ => c_pc3)
/-- the class's part -/
def gp_kT (C : gp_C) (μ : gk_St) : Prop := ∀ x, x < 3 → μ (1 + 2 * x) 1 = nI (gp_lm x) ∧ μ (1 + 2 * x) 2 = nI (c_tn C x) ∧ ∀ k, k < c_tn C x → μ (2 + 2 * x) k = nI (c_tb C x k)
def gp_kE (C : gp_C) (μ : gk_St) : Prop := μ 15 3 = nI (c_ne C) ∧ ∀ i, i < c_ne C → μ 16 i = nI (c_ek C i) ∧ μ 17 i = nI (c_ea C i) ∧ μ 18 i = nI (c_en C i)
def gp_kS (C : gp_C) (μ : gk_St) : Prop := μ 19 3 = nI (c_ns C) ∧ ∀ i, i < c_ns C → μ 20 i = nI (c_sm C i) ∧ μ 21 i = nI (c_ss C i) ∧ μ 22 i = nI (c_sw C i)
def gp_kH (C : gp_C) (μ : gk_St) : Prop := ∀ s, s < 4 → μ (23 + 2 * s) 1 = gp_bi (c_lo C s) ∧ μ (23 + 2 * s) 2 = c_fo C s ∧ μ (23 + 2 * s) 3 = nI (c_sz C s) ∧ ∀ i, i < 60 → μ (24 + 2 * s) i = c_it C s i
def gp_kR (C : gp_C) (μ : gk_St) : Prop := μ 0 16 = 0 → gp_rs (c_P C) 42 (gp_s (c_P C) 24) μ ∧ gp_rec (c_P C) 42 24 μ
def gp_kA (C : gp_C) (μ : gk_St) : Prop := gp_kT C μ ∧ gp_tr_0 (c_tn C 0) (c_tb C 0) μ ∧ gp_tr_1 (c_tn C 1) (c_tb C 1) μ ∧ gp_isS (c_tn C 2) (c_tb C 2) (μ 0 15)
def gp_kc (C : gp_C) (μ : gk_St) : Prop := gp_kA C μ ∧ gp_kE C μ ∧ gp_kS C μ ∧ gp_kH C μ ∧ μ 0 17 = c_fi C ∧ gp_kR C μ
/-- the reference's part -/
def gp_mE (C : gp_C) (μ : gk_St) : Prop := μ 101 12 = nI (c_ne C) ∧ ∀ i, i < c_ne C → μ 111 i = nI (c_ek C i) ∧ μ 112 i = nI (c_ea C i) ∧ μ 113 i = nI (c_en C i)
def gp_mS (C : gp_C) (μ : gk_St) : Prop := μ 101 37 = nI (c_ns C) ∧ ∀ i, i < c_ns C → μ 126 i = nI (c_sm C i) ∧ μ 127 i = nI (c_ss C i) ∧ μ 128 i = nI (c_sw C i)
def gp_mH (C : gp_C) (μ : gk_St) : Prop := ∀ s, s < 4 → μ 130 s = gp_bi (!c_lo C s) ∧ μ 131 s = c_fo C s ∧ μ 132 s = nI (c_sz C s) ∧ ∀ i, i < 60 → μ 133 (60 * s + i) = c_it C s i
def gp_km (C : gp_C) (μ : gk_St) : Prop := gp_mt (c_tn C) (c_tb C) μ ∧ gp_mE C μ ∧ gp_mS C μ ∧ gp_mH C μ ∧ μ 101 47 = c_fi C
def gp_K (C : gp_C) (μ : gk_St) : Prop := gp_cw C ∧ gp_kc C μ ∧ gp_km C μ
def gp_Inv (μ : gk_St) : Prop := ∃ C, gp_K C μ
/-- frames -/
theorem gp_rs_f {P : gp_P} {A : gp_A} {μ ν : gk_St} (h : ∀ c, 42 ≤ c → c ≤ 65 → ν c = μ c) (hr : gp_rs P 42 A μ) : gp_rs P 42 A ν := by
  unfold gp_rs
  rw [h 42 (by omega) (by omega), h (42 + 19) (by omega) (by omega), h (42 + 20) (by omega) (by omega), h (42 + 21) (by omega) (by omega), h (42 + 22) (by omega) (by omega), h (42 + 23) (by omega) (by omega)]
  exact hr
theorem gp_rec_f {P : gp_P} {n : Nat} {μ ν : gk_St} (hn : p_nc P ≤ 6) (h : ∀ c, 42 ≤ c → c ≤ 65 → ν c = μ c) (hr : gp_rec P 42 n μ) : gp_rec P 42 n ν := by
  intro t ht
  obtain ⟨q1, q2, q3, q4⟩ := hr t ht
  refine ⟨fun k hk => ?_, ?_, ?_, ?_⟩
  · rw [h (42 + 2 + k) (by omega) (by omega), h (42 + 9 + k) (by omega) (by omega)]
    exact q1 k hk
  · rw [h (42 + 16) (by omega) (by omega)]
    exact q2
  · rw [h (42 + 17) (by omega) (by omega)]
    exact q3
  · rw [h (42 + 18) (by omega) (by omega)]
    exact q4
theorem gp_kT_f {C : gp_C} {μ ν : gk_St} (h : ∀ c, 1 ≤ c → c ≤ 6 → ν c = μ c) (hk : gp_kT C μ) : gp_kT C ν := by
  intro x hx
  rw [h (1 + 2 * x) (by omega) (by omega), h (2 + 2 * x) (by omega) (by omega)]
  exact hk x hx
theorem gp_kA_f {C : gp_C} {μ ν : gk_St} (h : ∀ c, 1 ≤ c → c ≤ 14 → ν c = μ c) (h0 : ν 0 15 = μ 0 15) (hk : gp_kA C μ) : gp_kA C ν := by
  refine ⟨gp_kT_f (fun c a b => h c a (by omega)) hk.1, ?_, ?_, by rw [h0]; exact hk.2.2.2⟩
  · unfold gp_tr_0
    rw [h 7 (by omega) (by omega), h 8 (by omega) (by omega), h 9 (by omega) (by omega), h 10 (by omega) (by omega)]
    exact hk.2.1
  · unfold gp_tr_1
    rw [h 11 (by omega) (by omega), h 12 (by omega) (by omega), h 13 (by omega) (by omega), h 14 (by omega) (by omega)]
    exact hk.2.2.1
theorem gp_kE_f {C : gp_C} {μ ν : gk_St} (h : ∀ c, 15 ≤ c → c ≤ 18 → ν c = μ c) (hk : gp_kE C μ) : gp_kE C ν := by
  unfold gp_kE
  rw [h 15 (by omega) (by omega), h 16 (by omega) (by omega), h 17 (by omega) (by omega), h 18 (by omega) (by omega)]
  exact hk
theorem gp_kS_f {C : gp_C} {μ ν : gk_St} (h : ∀ c, 19 ≤ c → c ≤ 22 → ν c = μ c) (hk : gp_kS C μ) : gp_kS C ν := by
  unfold gp_kS
  rw [h 19 (by omega) (by omega), h 20 (by omega) (by omega), h 21 (by omega) (by omega), h 22 (by omega) (by omega)]
  exact hk
theorem gp_kH_f {C : gp_C} {μ ν : gk_St} (h : ∀ c, 23 ≤ c → c ≤ 30 → ν c = μ c) (hk : gp_kH C μ) : gp_kH C ν := by
  intro s hs
  rw [h (23 + 2 * s) (by omega) (by omega), h (24 + 2 * s) (by omega) (by omega)]
  exact hk s hs
theorem gp_kR_f {C : gp_C} {μ ν : gk_St} (h : ∀ c, 42 ≤ c → c ≤ 65 → ν c = μ c) (h0 : ν 0 16 = μ 0 16) (hk : gp_kR C μ) : gp_kR C ν := by
  intro hz
  rw [h0] at hz
  exact ⟨gp_rs_f h (hk hz).1, gp_rec_f c_nc6 h (hk hz).2⟩
/-- the class's scratch: its plan, its trial, the crowds by room -/
def gp_fC (μ ν : gk_St) : Prop := ∀ c, (c < 31 ∨ (42 ≤ c ∧ c ≤ 65) ∨ 101 ≤ c) → ν c = μ c
theorem gp_fC_rf {μ : gk_St} : gp_fC μ μ := fun _ _ => rfl
theorem gp_fC_tr {μ ν ξ : gk_St} (h1 : gp_fC μ ν) (h2 : gp_fC ν ξ) : gp_fC μ ξ := fun c a => (h2 c a).trans (h1 c a)
theorem gp_kc_f {C : gp_C} {μ ν : gk_St} (h : ∀ c, (c < 31 ∨ (42 ≤ c ∧ c ≤ 65)) → ν c = μ c) (hk : gp_kc C μ) : gp_kc C ν :=
  ⟨gp_kA_f (fun c a b => h c (by omega)) (by rw [h 0 (by omega)]) hk.1, gp_kE_f (fun c a b => h c (by omega)) hk.2.1, gp_kS_f (fun c a b => h c (by omega)) hk.2.2.1, gp_kH_f (fun c a b => h c (by omega)) hk.2.2.2.1, by rw [h 0 (by omega)]; exact hk.2.2.2.2.1, gp_kR_f (fun c a b => h c (by omega)) (by rw [h 0 (by omega)]) hk.2.2.2.2.2⟩
/-- the reference's scratch -/
def gp_fM (μ ν : gk_St) : Prop := (∀ c, (c < 101 ∨ c = 102 ∨ c = 103 ∨ (111 ≤ c ∧ c ≤ 113) ∨ (126 ≤ c ∧ c ≤ 128) ∨ (130 ≤ c ∧ c ≤ 133)) → ν c = μ c) ∧ ∀ j, (j = 12 ∨ j = 37 ∨ j = 47) → ν 101 j = μ 101 j
theorem gp_fM_rf {μ : gk_St} : gp_fM μ μ := ⟨fun _ _ => rfl, fun _ _ => rfl⟩
theorem gp_fM_tr {μ ν ξ : gk_St} (h1 : gp_fM μ ν) (h2 : gp_fM ν ξ) : gp_fM μ ξ := ⟨fun c a => (h2.1 c a).trans (h1.1 c a), fun j a => (h2.2 j a).trans (h1.2 j a)⟩
theorem gp_km_f {C : gp_C} {μ ν : gk_St} (h : ∀ c, (c = 102 ∨ c = 103 ∨ (111 ≤ c ∧ c ≤ 113) ∨ (126 ≤ c ∧ c ≤ 128) ∨ (130 ≤ c ∧ c ≤ 133)) → ν c = μ c) (h2 : ∀ j, (j = 12 ∨ j = 37 ∨ j = 47) → ν 101 j = μ 101 j) (hk : gp_km C μ) : gp_km C ν := by
  unfold gp_km gp_mt gp_mE gp_mS gp_mH
  rw [h 102 (by omega), h 103 (by omega), h 111 (by omega), h 112 (by omega), h 113 (by omega), h 126 (by omega), h 127 (by omega), h 128 (by omega), h 130 (by omega), h 131 (by omega), h 132 (by omega), h 133 (by omega), h2 12 (by omega), h2 37 (by omega), h2 47 (by omega)]
  exact hk
theorem gp_K_fC {C : gp_C} {μ ν : gk_St} (h : gp_fC μ ν) (hk : gp_K C μ) : gp_K C ν := ⟨hk.1, gp_kc_f (fun c a => h c (by omega)) hk.2.1, gp_km_f (fun c a => h c (by omega)) (fun j a => by rw [h 101 (by omega)]) hk.2.2⟩
theorem gp_K_fM {C : gp_C} {μ ν : gk_St} (h : gp_fM μ ν) (hk : gp_K C μ) : gp_K C ν := ⟨hk.1, gp_kc_f (fun c a => h.1 c (by omega)) hk.2.1, gp_km_f (fun c a => h.1 c (by omega)) h.2 hk.2.2⟩
theorem gp_fR_fM {μ ν : gk_St} (h : gp_fR μ ν) : gp_fM μ ν := ⟨fun c a => h.1 c (by omega) (by omega), fun j a => h.2 j (by omega) (by omega) (by omega)⟩
theorem gp_fA_fM {μ ν : gk_St} (h : gp_fA μ ν) : gp_fM μ ν := ⟨fun c a => h.1 c (by omega) (by omega) (by omega), fun j a => h.2 j (by omega) (by omega) (by omega) (by omega)⟩
theorem gp_f3_fM {μ ν : gk_St} (h : gp_f3 μ ν) : gp_fM μ ν := ⟨fun c a => h.1 c (by omega) (by omega), fun j a => h.2 j (by omega)⟩
/-- the reference, told as it was told -/
theorem c_mc {C : gp_C} {ν : gk_St} (hr : gp_rd (c_tn C) (c_tb C) ν) (hp : ∀ t, t < 24 → ν 114 t = nI (c_pc C t)) (hz : ν 101 17 = 0) (he : gp_mE C ν) : gp_mc (c_nc C) (c_pl C) (c_so C) (c_ro C) (c_D C) (c_pc C) (fun _ => true) ν := by
  refine ⟨hr.1, hr.2.1, hr.2.2.1, hr.2.2.2.1, hp, he.1, he.2, fun i hi => ?_⟩
  rw [hz, b_0]
  rfl
theorem s_mastC {C : gp_C} {μ : gk_St} (hk : gp_K C μ) {Q : gk_St → Prop} (h : ∀ ν, gp_K C ν → gp_rd (c_tn C) (c_tb C) ν → gp_mc (c_nc C) (c_pl C) (c_so C) (c_ro C) (c_D C) (c_pc C) (fun _ => true) ν → ν 101 17 = 0 → gp_fM μ ν → Q ν) : w_X8_asTold 101 μ Q := by
  refine s_mast hk.2.2.1 (fun ν r1 r2 r3 r4 => ?_)
  have hK := gp_K_fM (gp_fA_fM r4) hk
  exact h ν hK r1 (c_mc r1 r2 r3 hK.2.2.2.1) r3 (gp_fA_fM r4)
theorem gp_rd_f3 {tn : Nat → Nat} {tb : Nat → Nat → Nat} {μ ν : gk_St} (h : gp_f3 μ ν) (hr : gp_rd tn tb μ) : gp_rd tn tb ν := by
  unfold gp_rd gp_rp
  rw [h.2 2 (by omega), h.2 6 (by omega), h.2 10 (by omega), h.1 104 (by omega) (by omega), h.1 105 (by omega) (by omega), h.1 106 (by omega) (by omega), h.1 107 (by omega) (by omega), h.1 108 (by omega) (by omega), h.1 109 (by omega) (by omega), h.1 110 (by omega) (by omega)]
  exact hr
/-- what a ride of the reference leaves -/
def gp_mrun (P : gp_P) (ν : gk_St) : Prop := gp_ms (p_nc P) (a_pl (gp_s P 24)) (gp_s P 24) ν ∧ ν 101 28 = gp_ps P 24 ∧ gp_mrec P 24 ν
theorem s_mrunT {C : gp_C} {μ : gk_St} (hk : gp_K C μ) {Q : gk_St → Prop} (h : ∀ ν, gp_K C ν → gp_rd (c_tn C) (c_tb C) ν → gp_mrun (c_P C) ν → gp_fM μ ν → Q ν) : w_X8_runsTold 101 μ Q := by
  unfold w_X8_runsTold
  refine s_mastC hk (fun ν a1 a2 a3 a4 a5 => ?_)
  refine s_mruns (P := c_P C) (c_dw hk.1) rfl (c_wf hk.1) a3 (fun ξ b1 b2 b3 b4 => ?_)
  exact h ξ (gp_K_fM (gp_f3_fM b4) a1) (gp_rd_f3 b4 a2) ⟨b1, b2, b3⟩ (gp_fM_tr a5 (gp_f3_fM b4))
