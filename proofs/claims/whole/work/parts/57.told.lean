/-! what is told of events, of crowds seen -/
def c_eE (C : gp_C) (n : Nat) (ek ea en : Nat → Nat) : gp_C := (C.1, (n, ek, ea, en), C.2.2)
def c_sE (C : gp_C) (n : Nat) (sm ss sw : Nat → Nat) : gp_C := (C.1, C.2.1, (n, sm, ss, sw), C.2.2.2)
def c_fE (C : gp_C) (f : Int32) : gp_C := (C.1, C.2.1, C.2.2.1, C.2.2.2.1, C.2.2.2.2.1, C.2.2.2.2.2.1, C.2.2.2.2.2.2.1, f)
theorem kc_E {C : gp_C} {n : Nat} {ek ea en : Nat → Nat} {μ ν : gk_St} (hk : gp_kc C μ) (hE : gp_kE (c_eE C n ek ea en) ν) (h16 : ν 0 16 = 1) (h0 : ∀ j, j ≠ 16 → ν 0 j = μ 0 j) (hf : ∀ c, c ≠ 0 → (c < 15 ∨ 18 < c) → ν c = μ c) : gp_kc (c_eE C n ek ea en) ν := by
  refine ⟨gp_kA_f (C := C) (fun c a b => hf c (by omega) (by omega)) (h0 15 (by omega)) hk.1, hE, gp_kS_f (C := C) (fun c a b => hf c (by omega) (by omega)) hk.2.2.1, gp_kH_f (C := C) (fun c a b => hf c (by omega) (by omega)) hk.2.2.2.1, ?_, fun q => ?_⟩
  · rw [h0 17 (by omega)]
    exact hk.2.2.2.2.1
  · rw [h16] at q
    exact absurd q (by decide)
theorem kc_S {C : gp_C} {n : Nat} {ek ea en : Nat → Nat} {μ ν : gk_St} (hk : gp_kc C μ) (hE : gp_kS (c_sE C n ek ea en) ν) (hf : ∀ c, (c < 19 ∨ 22 < c) → ν c = μ c) : gp_kc (c_sE C n ek ea en) ν := by
  refine ⟨gp_kA_f (C := C) (fun c a b => hf c (by omega)) (by rw [hf 0 (by omega)]) hk.1, gp_kE_f (C := C) (fun c a b => hf c (by omega)) hk.2.1, hE, gp_kH_f (C := C) (fun c a b => hf c (by omega)) hk.2.2.2.1, ?_, gp_kR_f (C := C) (fun c a b => hf c (by omega)) (by rw [hf 0 (by omega)]) hk.2.2.2.2.2⟩
  rw [hf 0 (by omega)]
  exact hk.2.2.2.2.1
theorem kc_F {C : gp_C} {f : Int32} {μ : gk_St} (hk : gp_kc C μ) : gp_kc (c_fE C f) (gk_up μ 0 17 f) := by
  have h0 : ∀ j, j ≠ 17 → (gk_up μ 0 17 f) 0 j = μ 0 j := fun j q => by rw [gk_up_s, upd_n q]
  have hf : ∀ c, c ≠ 0 → (gk_up μ 0 17 f) c = μ c := fun c q => gk_up_n q
  refine ⟨gp_kA_f (C := C) (fun c a b => hf c (by omega)) (h0 15 (by omega)) hk.1, gp_kE_f (C := C) (fun c a b => hf c (by omega)) hk.2.1, gp_kS_f (C := C) (fun c a b => hf c (by omega)) hk.2.2.1, gp_kH_f (C := C) (fun c a b => hf c (by omega)) hk.2.2.2.1, ?_, gp_kR_f (C := C) (fun c a b => hf c (by omega)) (h0 16 (by omega)) hk.2.2.2.2.2⟩
  rw [gk_up_s, upd_s]
  rfl
theorem km_F {C : gp_C} {f : Int32} {μ : gk_St} (hk : gp_km C μ) : gp_km (c_fE C f) (gk_up μ 101 47 f) := by
  have h0 : ∀ j, j ≠ 47 → (gk_up μ 101 47 f) 101 j = μ 101 j := fun j q => by rw [gk_up_s, upd_n q]
  have hf : ∀ c, c ≠ 101 → (gk_up μ 101 47 f) c = μ c := fun c q => gk_up_n q
  refine ⟨?_, ?_, ?_, ?_, ?_⟩
  · unfold gp_mt
    rw [hf 102 (by omega), hf 103 (by omega)]
    exact hk.1
  · unfold gp_mE
    rw [h0 12 (by omega), hf 111 (by omega), hf 112 (by omega), hf 113 (by omega)]
    exact hk.2.1
  · unfold gp_mS
    rw [h0 37 (by omega), hf 126 (by omega), hf 127 (by omega), hf 128 (by omega)]
    exact hk.2.2.1
  · unfold gp_mH
    rw [hf 130 (by omega), hf 131 (by omega), hf 132 (by omega), hf 133 (by omega)]
    exact hk.2.2.2.1
  · rw [gk_up_s, upd_s]
    rfl
theorem km_hi {C : gp_C} {μ ν : gk_St} (h : ∀ c, 101 ≤ c → ν c = μ c) (hk : gp_km C μ) : gp_km C ν := gp_km_f (fun c a => h c (by omega)) (fun j a => by rw [h 101 (by omega)]) hk
theorem kc_lo {C : gp_C} {μ ν : gk_St} (h : ∀ c, c < 101 → ν c = μ c) (hk : gp_kc C μ) : gp_kc C ν := gp_kc_f (fun c a => h c (by omega)) hk
theorem K_F {C : gp_C} {f : Int32} {μ : gk_St} (hk : gp_K C μ) : gp_K (c_fE C f) (gk_up (gk_up μ 0 17 f) 101 47 f) := ⟨hk.1, kc_lo (fun c q => gk_up_n (by omega)) (kc_F hk.2.1), km_F (km_hi (fun c q => gk_up_n (by omega)) hk.2.2)⟩
theorem km_F0 {C : gp_C} {f : Int32} {μ : gk_St} (hk : gp_K C μ) : gp_km C (gk_up μ 0 17 f) := km_hi (fun c q => gk_up_n (by omega)) hk.2.2
theorem c_fnd {f : Int32} {μ : gk_St} {Q : Int32 → gk_St → Prop} (h : Q (-10 - f) (gk_up μ 0 17 f)) : w_X7_found 0 f μ Q := by
  unfold w_X7_found
  intro m e
  rw [e]
  exact h
theorem m_mee {f : Int32} {μ : gk_St} {Q : Int32 → gk_St → Prop} (h : Q (-10 - f) (gk_up μ 101 47 f)) : w_X8_meets 101 f μ Q := by
  unfold w_X8_meets
  intro m e
  rw [e]
  exact h
theorem rgo {j m : Nat} (hm : m < 1000000) (h : j ≤ m) : ¬ (nI j < 0 ∨ nI m < nI j) := by
  intro q
  rcases q with q | q
  · exact nI_pos (by omega) q
  · exact nI_nlt h (by omega) q
theorem upd3 {f : Nat → Int32} {g : Nat → Nat} {n k : Nat} (h : ∀ i, i < n → f i = nI (g i)) : ∀ i, i < n + 1 → upd f n (nI k) i = nI (gp_u g n k i) := by
  intro i hi
  by_cases e : i = n
  · rw [e, upd_s, gp_us]
  · rw [upd_n e, gp_un e]
    exact h i (by omega)
theorem u3 {g : Nat → Nat} {n k B : Nat} (hk : k < B) (h : ∀ i, i < n → g i < B) : ∀ i, i < n + 1 → gp_u g n k i < B := by
  intro i hi
  by_cases e : i = n
  · rw [e, gp_us]
    exact hk
  · rw [gp_un e]
    exact h i (by omega)
theorem s0_sp {n : Nat} (hn : n < 8) {μ : gk_St} (h3 : μ 15 3 = nI n) {Q : Int32 → gk_St → Prop} (h : Q 1 μ) : w_X0_hasSpace 15 μ Q := by
  unfold w_X0_hasSpace
  rw [h3, if_neg (show ¬ (8 : Int32) ≤ nI n from fun q => absurd ((nI_leI (a := 8) (by omega) (by omega)).mp q) (by omega))]
  exact h
theorem s0_sn {μ : gk_St} (h3 : μ 15 3 = nI 8) {Q : Int32 → gk_St → Prop} (h : Q 0 μ) : w_X0_hasSpace 15 μ Q := by
  unfold w_X0_hasSpace
  rw [h3, if_pos (by decide)]
  exact h
theorem s0_app {n : Nat} (hn : n < 8) {x1 x2 x3 : Int32} {μ : gk_St} (h3 : μ 15 3 = nI n) {Q : gk_St → Prop} (h : ∀ ν, ν 15 3 = nI (n + 1) → ν 16 = upd (μ 16) n x1 → ν 17 = upd (μ 17) n x2 → ν 18 = upd (μ 18) n x3 → (∀ c, (c < 15 ∨ 18 < c) → ν c = μ c) → Q ν) : w_X0_append 15 x1 x2 x3 μ Q := by
  unfold w_X0_append
  refine s0_sp hn h3 ?_
  rw [if_neg i1n0, rf_15_0, rf_15_1, rf_15_2, h3, kc (k := n) (by omega)]
  refine ⟨vi (n := 8) hn ln_16 (by omega), ?_⟩
  intro m3 e3
  have f3 : m3 15 3 = nI n := by rw [e3, gk_up_n (by omega)]; exact h3
  rw [f3, kc (k := n) (by omega)]
  refine ⟨vi (n := 8) hn ln_17 (by omega), ?_⟩
  intro m4 e4
  have f4 : m4 15 3 = nI n := by rw [e4, gk_up_n (by omega)]; exact f3
  rw [f4, kc (k := n) (by omega)]
  refine ⟨vi (n := 8) hn ln_18 (by omega), ?_⟩
  intro m5 e5
  have f5 : m5 15 3 = nI n := by rw [e5, gk_up_n (by omega)]; exact f4
  rw [f5, nI_1]
  intro m6 e6
  refine h m6 ?_ ?_ ?_ ?_ (fun c q => ?_)
  · rw [e6, gk_up_s, upd_s]
  · rw [e6, gk_up_n (by omega), e5, gk_up_n (by omega), e4, gk_up_n (by omega), e3, gk_up_s]
  · rw [e6, gk_up_n (by omega), e5, gk_up_n (by omega), e4, gk_up_s, e3, gk_up_n (by omega)]
  · rw [e6, gk_up_n (by omega), e5, gk_up_s, e4, gk_up_n (by omega), e3, gk_up_n (by omega)]
  · rw [e6, gk_up_n (by omega), e5, gk_up_n (by omega), e4, gk_up_n (by omega), e3, gk_up_n (by omega)]
theorem s4_sp {n : Nat} (hn : n < 8) {μ : gk_St} (h3 : μ 19 3 = nI n) {Q : Int32 → gk_St → Prop} (h : Q 1 μ) : w_X4_hasSpace 19 μ Q := by
  unfold w_X4_hasSpace
  rw [h3, if_neg (show ¬ (8 : Int32) ≤ nI n from fun q => absurd ((nI_leI (a := 8) (by omega) (by omega)).mp q) (by omega))]
  exact h
theorem s4_sn {μ : gk_St} (h3 : μ 19 3 = nI 8) {Q : Int32 → gk_St → Prop} (h : Q 0 μ) : w_X4_hasSpace 19 μ Q := by
  unfold w_X4_hasSpace
  rw [h3, if_pos (by decide)]
  exact h
theorem s4_app {n : Nat} (hn : n < 8) {x1 x2 x3 : Int32} {μ : gk_St} (h3 : μ 19 3 = nI n) {Q : gk_St → Prop} (h : ∀ ν, ν 19 3 = nI (n + 1) → ν 20 = upd (μ 20) n x1 → ν 21 = upd (μ 21) n x2 → ν 22 = upd (μ 22) n x3 → (∀ c, (c < 19 ∨ 22 < c) → ν c = μ c) → Q ν) : w_X4_append 19 x1 x2 x3 μ Q := by
  unfold w_X4_append
  refine s4_sp hn h3 ?_
  rw [if_neg i1n0, rf_19_0, rf_19_1, rf_19_2, h3, kc (k := n) (by omega)]
  refine ⟨vi (n := 8) hn ln_20 (by omega), ?_⟩
  intro m3 e3
  have f3 : m3 19 3 = nI n := by rw [e3, gk_up_n (by omega)]; exact h3
  rw [f3, kc (k := n) (by omega)]
  refine ⟨vi (n := 8) hn ln_21 (by omega), ?_⟩
  intro m4 e4
  have f4 : m4 19 3 = nI n := by rw [e4, gk_up_n (by omega)]; exact f3
  rw [f4, kc (k := n) (by omega)]
  refine ⟨vi (n := 8) hn ln_22 (by omega), ?_⟩
  intro m5 e5
  have f5 : m5 19 3 = nI n := by rw [e5, gk_up_n (by omega)]; exact f4
  rw [f5, nI_1]
  intro m6 e6
  refine h m6 ?_ ?_ ?_ ?_ (fun c q => ?_)
  · rw [e6, gk_up_s, upd_s]
  · rw [e6, gk_up_n (by omega), e5, gk_up_n (by omega), e4, gk_up_n (by omega), e3, gk_up_s]
  · rw [e6, gk_up_n (by omega), e5, gk_up_n (by omega), e4, gk_up_s, e3, gk_up_n (by omega)]
  · rw [e6, gk_up_n (by omega), e5, gk_up_s, e4, gk_up_n (by omega), e3, gk_up_n (by omega)]
  · rw [e6, gk_up_n (by omega), e5, gk_up_n (by omega), e4, gk_up_n (by omega), e3, gk_up_n (by omega)]
def e_r (x1 x2 x3 : Int32) : Bool := !decide (x1 < 0 ∨ nI 2 < x1) && !decide (x2 < 0 ∨ nI 23 < x2) && !decide (x3 < 0 ∨ nI 5 < x3)
def e_v (C : gp_C) (x1 x2 x3 : Int32) : Int32 := if e_r x1 x2 x3 = true then (if c_ne C < 8 then nI (c_ne C + 1) else -4) else -2
def e_C (C : gp_C) (x1 x2 x3 : Int32) : gp_C := if e_r x1 x2 x3 = true ∧ c_ne C < 8 then c_eE C (c_ne C + 1) (gp_u (c_ek C) (c_ne C) x1.toNatClampNeg) (gp_u (c_ea C) (c_ne C) x2.toNatClampNeg) (gp_u (c_en C) (c_ne C) x3.toNatClampNeg) else C
theorem e_vn {C : gp_C} {x1 x2 x3 : Int32} (h : e_r x1 x2 x3 = false) : e_v C x1 x2 x3 = -2 := by
  unfold e_v
  rw [h, if_neg (by decide)]
theorem e_Cn {C : gp_C} {x1 x2 x3 : Int32} (h : e_r x1 x2 x3 = false) : e_C C x1 x2 x3 = C := by
  unfold e_C
  rw [h, if_neg (by simp)]
theorem e_vf {C : gp_C} {x1 x2 x3 : Int32} (h : e_r x1 x2 x3 = true) (h8 : ¬ c_ne C < 8) : e_v C x1 x2 x3 = -4 := by
  unfold e_v
  rw [if_pos h, if_neg h8]
theorem e_Cf {C : gp_C} {x1 x2 x3 : Int32} (h8 : ¬ c_ne C < 8) : e_C C x1 x2 x3 = C := by
  unfold e_C
  rw [if_neg (fun q => h8 q.2)]
theorem e_vy {C : gp_C} {x1 x2 x3 : Int32} (h : e_r x1 x2 x3 = true) (h8 : c_ne C < 8) : e_v C x1 x2 x3 = nI (c_ne C + 1) := by
  unfold e_v
  rw [if_pos h, if_pos h8]
theorem e_Cy {C : gp_C} {a1 a2 a3 : Nat} (h1 : a1 ≤ 2) (h2 : a2 ≤ 23) (h3 : a3 ≤ 5) (h : e_r (nI a1) (nI a2) (nI a3) = true) (h8 : c_ne C < 8) : e_C C (nI a1) (nI a2) (nI a3) = c_eE C (c_ne C + 1) (gp_u (c_ek C) (c_ne C) a1) (gp_u (c_ea C) (c_ne C) a2) (gp_u (c_en C) (c_ne C) a3) := by
  unfold e_C
  rw [if_pos ⟨h, h8⟩, kc (by omega), kc (by omega), kc (by omega)]
theorem e_r1 {x1 x2 x3 : Int32} (h : x1 < 0 ∨ nI 2 < x1) : e_r x1 x2 x3 = false := by
  unfold e_r
  rw [decide_eq_true h]
  rfl
theorem e_r2 {x1 x2 x3 : Int32} (h : x2 < 0 ∨ nI 23 < x2) : e_r x1 x2 x3 = false := by
  unfold e_r
  rw [decide_eq_true h]
  simp
theorem e_r3 {x1 x2 x3 : Int32} (h : x3 < 0 ∨ nI 5 < x3) : e_r x1 x2 x3 = false := by
  unfold e_r
  rw [decide_eq_true h]
  simp
theorem e_ry {a1 a2 a3 : Nat} (h1 : a1 ≤ 2) (h2 : a2 ≤ 23) (h3 : a3 ≤ 5) : e_r (nI a1) (nI a2) (nI a3) = true := by
  unfold e_r
  rw [decide_eq_false (rgo (by omega) h1), decide_eq_false (rgo (by omega) h2), decide_eq_false (rgo (by omega) h3)]
  rfl
theorem e_CH {C : gp_C} {x1 x2 x3 : Int32} : (e_C C x1 x2 x3).2.2 = C.2.2 := by
  unfold e_C
  split <;> rfl
theorem e_cases (x1 x2 x3 : Int32) : (∃ a1 a2 a3, a1 ≤ 2 ∧ a2 ≤ 23 ∧ a3 ≤ 5 ∧ x1 = nI a1 ∧ x2 = nI a2 ∧ x3 = nI a3) ∨ e_r x1 x2 x3 = false := by
  rcases rg x1 2 (by omega) with ⟨a1, h1, q1⟩ | b1
  · rcases rg x2 23 (by omega) with ⟨a2, h2, q2⟩ | b2
    · rcases rg x3 5 (by omega) with ⟨a3, h3, q3⟩ | b3
      · exact Or.inl ⟨a1, a2, a3, h1, h2, h3, q1, q2, q3⟩
      · exact Or.inr (e_r3 b3)
    · exact Or.inr (e_r2 b2)
  · exact Or.inr (e_r1 b1)
theorem e_cw {C : gp_C} {x1 x2 x3 : Int32} (hC : gp_cw C) : gp_cw (e_C C x1 x2 x3) := by
  rcases e_cases x1 x2 x3 with ⟨a1, a2, a3, h1, h2, h3, rfl, rfl, rfl⟩ | h
  · by_cases h8 : c_ne C < 8
    · rw [e_Cy h1 h2 h3 (e_ry h1 h2 h3) h8]
      refine ⟨hC.1, ⟨?_, fun i hi => ⟨?_, ?_, ?_⟩⟩, hC.2.2.1, hC.2.2.2⟩
      · show c_ne C + 1 ≤ 8
        omega
      · exact u3 (by omega) (fun i hi => (hC.2.1.2 i hi).1) i hi
      · exact u3 (by omega) (fun i hi => (hC.2.1.2 i hi).2.1) i hi
      · exact u3 (by omega) (fun i hi => (hC.2.1.2 i hi).2.2) i hi
    · rw [e_Cf h8]
      exact hC
  · rw [e_Cn h]
    exact hC
set_option maxHeartbeats 4000000 in
theorem c_ev {C : gp_C} (hC : gp_cw C) {μ : gk_St} (hk : gp_kc C μ) {x1 x2 x3 : Int32} {Q : Int32 → gk_St → Prop} (h : ∀ ν, gp_kc (e_C C x1 x2 x3) ν → (∀ c, 19 ≤ c → ν c = μ c) → Q (e_v C x1 x2 x3) ν) : w_X7_event 0 x1 x2 x3 μ Q := by
  have n2 : e_r x1 x2 x3 = false → Q (-2) μ := fun er => by
    have hh := h μ
    rw [e_vn er, e_Cn er] at hh
    exact hh hk (fun _ _ => rfl)
  unfold w_X7_event w_X0_mayBe
  rw [rf_0_5]
  rcases rg x1 2 (by omega) with ⟨a1, h1, rfl⟩ | b1
  · refine s_wi (m := 2) (by omega) h1 ?_
    rw [if_neg i1n0]
    rcases rg x2 23 (by omega) with ⟨a2, h2, rfl⟩ | b2
    · refine s_mom_y (by omega) ?_
      rw [if_neg i1n0]
      rcases rg x3 5 (by omega) with ⟨a3, h3, rfl⟩ | b3
      · refine s_wi (m := 5) (by omega) h3 ?_
        rw [if_neg i1n0]
        dsimp only
        rw [if_neg i1n0]
        have hr := e_ry h1 h2 h3
        have h8' := hC.2.1.1
        by_cases h8 : c_ne C < 8
        · refine s0_sp h8 hk.2.1.1 ?_
          rw [if_neg i1n0]
          refine s0_app h8 hk.2.1.1 (fun ν q1 q2 q3 q4 q5 => ?_)
          intro m6 e6
          have f0 : ∀ c, c ≠ 0 → m6 c = ν c := fun c q => by rw [e6, gk_up_n q]
          have hh := h m6
          rw [e_vy hr h8, e_Cy h1 h2 h3 hr h8] at hh
          rw [f0 15 (by omega), q1]
          refine hh (kc_E hk ⟨?_, fun i hi => ⟨?_, ?_, ?_⟩⟩ ?_ (fun j hj => ?_) (fun c p q => ?_)) (fun c p => ?_)
          · rw [f0 15 (by omega)]
            exact q1
          · rw [f0 16 (by omega), q2]
            exact upd3 (fun i hi => (hk.2.1.2 i hi).1) i hi
          · rw [f0 17 (by omega), q3]
            exact upd3 (fun i hi => (hk.2.1.2 i hi).2.1) i hi
          · rw [f0 18 (by omega), q4]
            exact upd3 (fun i hi => (hk.2.1.2 i hi).2.2) i hi
          · rw [e6, gk_up_s, upd_s]
          · rw [e6, gk_up_s, upd_n hj, q5 0 (by omega)]
          · rw [f0 c p, q5 c q]
          · rw [f0 c (by omega), q5 c (by omega)]
        · refine s0_sn (by rw [hk.2.1.1, show c_ne C = 8 by omega]) ?_
          rw [if_pos rfl]
          have hh := h μ
          rw [e_vf hr h8, e_Cf h8] at hh
          exact hh hk (fun _ _ => rfl)
      · refine s_w_n b3 ?_
        rw [if_pos rfl]
        dsimp only
        rw [if_pos rfl]
        exact n2 (e_r3 b3)
    · refine s_mom_n b2 ?_
      rw [if_pos rfl]
      dsimp only
      rw [if_pos rfl]
      exact n2 (e_r2 b2)
  · refine s_w_n b1 ?_
    rw [if_pos rfl]
    dsimp only
    rw [if_pos rfl]
    exact n2 (e_r1 b1)
/-- the reference's side -/
theorem km_E {C : gp_C} {n : Nat} {ek ea en : Nat → Nat} {μ ν : gk_St} (hk : gp_km C μ) (hE : gp_mE (c_eE C n ek ea en) ν) (h0 : ∀ j, j ≠ 12 → ν 101 j = μ 101 j) (hf : ∀ c, c ≠ 101 → (c < 111 ∨ 113 < c) → ν c = μ c) : gp_km (c_eE C n ek ea en) ν := by
  refine ⟨?_, hE, ?_, ?_, ?_⟩
  · unfold gp_mt
    rw [hf 102 (by omega) (by omega), hf 103 (by omega) (by omega)]
    exact hk.1
  · unfold gp_mS
    rw [h0 37 (by omega), hf 126 (by omega) (by omega), hf 127 (by omega) (by omega), hf 128 (by omega) (by omega)]
    exact hk.2.2.1
  · unfold gp_mH
    rw [hf 130 (by omega) (by omega), hf 131 (by omega) (by omega), hf 132 (by omega) (by omega), hf 133 (by omega) (by omega)]
    exact hk.2.2.2.1
  · rw [h0 47 (by omega)]
    exact hk.2.2.2.2
theorem km_S {C : gp_C} {n : Nat} {ek ea en : Nat → Nat} {μ ν : gk_St} (hk : gp_km C μ) (hE : gp_mS (c_sE C n ek ea en) ν) (h0 : ∀ j, j ≠ 37 → ν 101 j = μ 101 j) (hf : ∀ c, c ≠ 101 → (c < 126 ∨ 128 < c) → ν c = μ c) : gp_km (c_sE C n ek ea en) ν := by
  refine ⟨?_, ?_, hE, ?_, ?_⟩
  · unfold gp_mt
    rw [hf 102 (by omega) (by omega), hf 103 (by omega) (by omega)]
    exact hk.1
  · unfold gp_mE
    rw [h0 12 (by omega), hf 111 (by omega) (by omega), hf 112 (by omega) (by omega), hf 113 (by omega) (by omega)]
    exact hk.2.1
  · unfold gp_mH
    rw [hf 130 (by omega) (by omega), hf 131 (by omega) (by omega), hf 132 (by omega) (by omega), hf 133 (by omega) (by omega)]
    exact hk.2.2.2.1
  · rw [h0 47 (by omega)]
    exact hk.2.2.2.2
theorem m_app12 {n : Nat} (hn : n < 8) {x1 x2 x3 : Int32} {μ : gk_St} (h3 : μ 101 12 = nI n) {Q : Int32 → gk_St → Prop} (h : ∀ ν, ν 101 12 = nI (n + 1) → ν 111 = upd (μ 111) n x1 → ν 112 = upd (μ 112) n x2 → ν 113 = upd (μ 113) n x3 → (∀ j, j ≠ 12 → ν 101 j = μ 101 j) → (∀ c, c ≠ 101 → (c < 111 ∨ 113 < c) → ν c = μ c) → Q (nI (n + 1)) ν) : (if (μ 101 12) = 8 then Q (-4) μ else (vp_in (μ 101 12) (gk_ln (gk_rf 101 13)) ∧ (∀ m7 : gk_St, m7 = gk_up μ (gk_rf 101 13) (Int32.toNatClampNeg (μ 101 12)) x1 → (vp_in (m7 101 12) (gk_ln (gk_rf 101 14)) ∧ (∀ m8 : gk_St, m8 = gk_up m7 (gk_rf 101 14) (Int32.toNatClampNeg (m7 101 12)) x2 → (vp_in (m8 101 12) (gk_ln (gk_rf 101 15)) ∧ (∀ m9 : gk_St, m9 = gk_up m8 (gk_rf 101 15) (Int32.toNatClampNeg (m8 101 12)) x3 → (∀ m10 : gk_St, m10 = gk_up m9 101 12 ((m9 101 12) + 1) → Q (m10 101 12) m10)))))))) := by
  rw [h3, if_neg (show ¬ nI n = 8 from fun q => absurd ((nI_eq (b := 8) (by omega) (by omega)).mp q) (by omega)), rf_101_13, rf_101_14, rf_101_15, kc (k := n) (by omega)]
  refine ⟨vi (n := 8) hn ln_111 (by omega), ?_⟩
  intro m3 e3
  have f3 : m3 101 12 = nI n := by rw [e3, gk_up_n (by omega)]; exact h3
  rw [f3, kc (k := n) (by omega)]
  refine ⟨vi (n := 8) hn ln_112 (by omega), ?_⟩
  intro m4 e4
  have f4 : m4 101 12 = nI n := by rw [e4, gk_up_n (by omega)]; exact f3
  rw [f4, kc (k := n) (by omega)]
  refine ⟨vi (n := 8) hn ln_113 (by omega), ?_⟩
  intro m5 e5
  have f5 : m5 101 12 = nI n := by rw [e5, gk_up_n (by omega)]; exact f4
  rw [f5, nI_1]
  intro m6 e6
  have f6 : m6 101 12 = nI (n + 1) := by rw [e6, gk_up_s, upd_s]
  rw [f6]
  refine h m6 f6 ?_ ?_ ?_ (fun j hj => ?_) (fun c p q => ?_)
  · rw [e6, gk_up_n (by omega), e5, gk_up_n (by omega), e4, gk_up_n (by omega), e3, gk_up_s]
  · rw [e6, gk_up_n (by omega), e5, gk_up_n (by omega), e4, gk_up_s, e3, gk_up_n (by omega)]
  · rw [e6, gk_up_n (by omega), e5, gk_up_s, e4, gk_up_n (by omega), e3, gk_up_n (by omega)]
  · rw [e6, gk_up_s, upd_n hj, e5, gk_up_n (by omega), e4, gk_up_n (by omega), e3, gk_up_n (by omega)]
  · rw [e6, gk_up_n (by omega), e5, gk_up_n (by omega), e4, gk_up_n (by omega), e3, gk_up_n (by omega)]
theorem m_app37 {n : Nat} (hn : n < 8) {x1 x2 x3 : Int32} {μ : gk_St} (h3 : μ 101 37 = nI n) {Q : Int32 → gk_St → Prop} (h : ∀ ν, ν 101 37 = nI (n + 1) → ν 126 = upd (μ 126) n x1 → ν 127 = upd (μ 127) n x2 → ν 128 = upd (μ 128) n x3 → (∀ j, j ≠ 37 → ν 101 j = μ 101 j) → (∀ c, c ≠ 101 → (c < 126 ∨ 128 < c) → ν c = μ c) → Q (nI (n + 1)) ν) : (if (μ 101 37) = 8 then Q (-4) μ else (vp_in (μ 101 37) (gk_ln (gk_rf 101 38)) ∧ (∀ m7 : gk_St, m7 = gk_up μ (gk_rf 101 38) (Int32.toNatClampNeg (μ 101 37)) x1 → (vp_in (m7 101 37) (gk_ln (gk_rf 101 39)) ∧ (∀ m8 : gk_St, m8 = gk_up m7 (gk_rf 101 39) (Int32.toNatClampNeg (m7 101 37)) x2 → (vp_in (m8 101 37) (gk_ln (gk_rf 101 40)) ∧ (∀ m9 : gk_St, m9 = gk_up m8 (gk_rf 101 40) (Int32.toNatClampNeg (m8 101 37)) x3 → (∀ m10 : gk_St, m10 = gk_up m9 101 37 ((m9 101 37) + 1) → Q (m10 101 37) m10)))))))) := by
  rw [h3, if_neg (show ¬ nI n = 8 from fun q => absurd ((nI_eq (b := 8) (by omega) (by omega)).mp q) (by omega)), rf_101_38, rf_101_39, rf_101_40, kc (k := n) (by omega)]
  refine ⟨vi (n := 8) hn ln_126 (by omega), ?_⟩
  intro m3 e3
  have f3 : m3 101 37 = nI n := by rw [e3, gk_up_n (by omega)]; exact h3
  rw [f3, kc (k := n) (by omega)]
  refine ⟨vi (n := 8) hn ln_127 (by omega), ?_⟩
  intro m4 e4
  have f4 : m4 101 37 = nI n := by rw [e4, gk_up_n (by omega)]; exact f3
  rw [f4, kc (k := n) (by omega)]
  refine ⟨vi (n := 8) hn ln_128 (by omega), ?_⟩
  intro m5 e5
  have f5 : m5 101 37 = nI n := by rw [e5, gk_up_n (by omega)]; exact f4
  rw [f5, nI_1]
  intro m6 e6
  have f6 : m6 101 37 = nI (n + 1) := by rw [e6, gk_up_s, upd_s]
  rw [f6]
  refine h m6 f6 ?_ ?_ ?_ (fun j hj => ?_) (fun c p q => ?_)
  · rw [e6, gk_up_n (by omega), e5, gk_up_n (by omega), e4, gk_up_n (by omega), e3, gk_up_s]
  · rw [e6, gk_up_n (by omega), e5, gk_up_n (by omega), e4, gk_up_s, e3, gk_up_n (by omega)]
  · rw [e6, gk_up_n (by omega), e5, gk_up_s, e4, gk_up_n (by omega), e3, gk_up_n (by omega)]
  · rw [e6, gk_up_s, upd_n hj, e5, gk_up_n (by omega), e4, gk_up_n (by omega), e3, gk_up_n (by omega)]
  · rw [e6, gk_up_n (by omega), e5, gk_up_n (by omega), e4, gk_up_n (by omega), e3, gk_up_n (by omega)]
set_option maxHeartbeats 4000000 in
theorem m_ev {C : gp_C} (hC : gp_cw C) {μ : gk_St} (hk : gp_km C μ) {x1 x2 x3 : Int32} {Q : Int32 → gk_St → Prop} (h : ∀ ν, gp_km (e_C C x1 x2 x3) ν → (∀ c, (c < 101 ∨ 130 ≤ c) → ν c = μ c) → Q (e_v C x1 x2 x3) ν) : w_X8_event 101 x1 x2 x3 μ Q := by
  have n2 : e_r x1 x2 x3 = false → Q (-2) μ := fun er => by
    have hh := h μ
    rw [e_vn er, e_Cn er] at hh
    exact hh hk (fun _ _ => rfl)
  unfold w_X8_event
  rcases rg x1 2 (by omega) with ⟨a1, h1, rfl⟩ | b1
  · refine m_three_y (by omega) ?_
    rw [if_neg i1n0]
    rcases rg x2 23 (by omega) with ⟨a2, h2, rfl⟩ | b2
    · refine m_mom_y (by omega) ?_
      rw [if_neg i1n0]
      rcases rg x3 5 (by omega) with ⟨a3, h3, rfl⟩ | b3
      · refine s_ii (m := 5) (by omega) h3 ?_
        rw [if_neg i1n0]
        have hr := e_ry h1 h2 h3
        have h8' := hC.2.1.1
        by_cases h8 : c_ne C < 8
        · refine m_app12 h8 hk.2.1.1 (fun ν q1 q2 q3 q4 q5 q6 => ?_)
          have hh := h ν
          rw [e_vy hr h8, e_Cy h1 h2 h3 hr h8] at hh
          refine hh (km_E hk ⟨q1, fun i hi => ⟨?_, ?_, ?_⟩⟩ q5 q6) (fun c p => q6 c (by omega) (by omega))
          · rw [q2]
            exact upd3 (fun i hi => (hk.2.1.2 i hi).1) i hi
          · rw [q3]
            exact upd3 (fun i hi => (hk.2.1.2 i hi).2.1) i hi
          · rw [q4]
            exact upd3 (fun i hi => (hk.2.1.2 i hi).2.2) i hi
        · rw [if_pos (by rw [hk.2.1.1, show c_ne C = 8 by omega]; rfl)]
          have hh := h μ
          rw [e_vf hr h8, e_Cf h8] at hh
          exact hh hk (fun _ _ => rfl)
      · refine s_in_n b3 ?_
        rw [if_pos rfl]
        exact n2 (e_r3 b3)
    · refine m_mom_n b2 ?_
      rw [if_pos rfl]
      exact n2 (e_r2 b2)
  · refine m_three_n b1 ?_
    rw [if_pos rfl]
    exact n2 (e_r1 b1)
theorem k_ok_event : ok_event gp_Inv := by
  intro μ x1 x2 x3 ⟨C, hK⟩
  refine c_ev hK.1 hK.2.1 (fun ν a b => ?_)
  refine m_ev hK.1 (km_hi (fun c q => b c (by omega)) hK.2.2) (fun ξ a2 b2 => ?_)
  exact ⟨rfl, e_C C x1 x2 x3, e_cw hK.1, kc_lo (fun c q => b2 c (by omega)) a, a2⟩
theorem k_ok_back : ok_back gp_Inv := by
  intro μ ⟨C, hK⟩
  have h8 := hK.1.2.1.1
  have e1 : μ 15 3 = nI (c_ne C) := hK.2.1.2.1.1
  have e2 : μ 101 12 = nI (c_ne C) := hK.2.2.2.1.1
  unfold w_X7_back
  rw [rf_0_5, e1]
  by_cases z : c_ne C = 0
  · rw [if_pos (by rw [z]; rfl)]
    unfold w_X8_back
    dsimp only
    rw [e2, if_pos (by rw [z]; rfl)]
    exact ⟨rfl, C, hK⟩
  · have n0 : ¬ nI (c_ne C) = 0 := nI_ne0 (by omega) (by omega)
    have es : nI (c_ne C) - 1 = nI (c_ne C - 1) := pk_sub (b := 1) (by omega)
    rw [if_neg n0, es]
    intro m1 q1 m2 q2
    have f0 : ∀ c, c ≠ 0 → c ≠ 15 → m2 c = μ c := fun c a b => by rw [q2, gk_up_n a, q1, gk_up_n b]
    have f15 : m2 15 = upd (μ 15) 3 (nI (c_ne C - 1)) := by rw [q2, gk_up_n (by omega), q1, gk_up_s]
    rw [f15, upd_s]
    have hk2 : gp_kc (c_eE C (c_ne C - 1) (c_ek C) (c_ea C) (c_en C)) m2 := by
      refine kc_E hK.2.1 ⟨?_, fun i hi => ?_⟩ ?_ (fun j hj => ?_) (fun c p q => f0 c p (by omega))
      · rw [f15, upd_s]
        rfl
      · rw [f0 16 (by omega) (by omega), f0 17 (by omega) (by omega), f0 18 (by omega) (by omega)]
        have hi' : i < c_ne C - 1 := hi
        exact hK.2.1.2.1.2 i (by omega)
      · rw [q2, gk_up_s, upd_s]
      · rw [q2, gk_up_s, upd_n hj, q1, gk_up_n (by omega)]
    have hm := km_hi (C := C) (fun c q => f0 c (by omega) (by omega)) hK.2.2
    unfold w_X8_back
    rw [hm.2.1.1, if_neg n0, es]
    intro m3 q3
    have g101 : m3 101 = upd (m2 101) 12 (nI (c_ne C - 1)) := by rw [q3, gk_up_s]
    have g0 : ∀ c, c ≠ 101 → m3 c = m2 c := fun c a => by rw [q3, gk_up_n a]
    rw [g101, upd_s]
    refine ⟨rfl, c_eE C (c_ne C - 1) (c_ek C) (c_ea C) (c_en C), ⟨hK.1.1, ⟨?_, fun i hi => ?_⟩, hK.1.2.2⟩, kc_lo (fun c q => g0 c (by omega)) hk2, km_E hm ⟨?_, fun i hi => ?_⟩ (fun j hj => ?_) (fun c p q => g0 c p)⟩
    · show c_ne C - 1 ≤ 8
      omega
    · have hi' : i < c_ne C - 1 := hi
      exact hK.1.2.1.2 i (by omega)
    · rw [g101, upd_s]
      rfl
    · rw [g0 111 (by omega), g0 112 (by omega), g0 113 (by omega)]
      have hi' : i < c_ne C - 1 := hi
      exact hm.2.1.2 i (by omega)
    · rw [g101, upd_n hj]
theorem k_ok_forget : ok_forget gp_Inv := by
  intro μ ⟨C, hK⟩
  have e1 : μ 19 3 = nI (c_ns C) := hK.2.1.2.2.1.1
  unfold w_X7_forget
  rw [rf_0_6]
  intro v1 q1 m2 q2
  have f0 : ∀ c, c ≠ 19 → m2 c = μ c := fun c a => by rw [q2, gk_up_n a]
  have hk2 : gp_kc (c_sE C 0 (c_sm C) (c_ss C) (c_sw C)) m2 := kc_S hK.2.1 ⟨by rw [q2, gk_up_s, upd_s]; rfl, fun i hi => absurd hi (Nat.not_lt_zero i)⟩ (fun c q => f0 c (by omega))
  have hm := km_hi (C := C) (fun c q => f0 c (by omega)) hK.2.2
  unfold w_X8_forget
  intro v3 q3 m4 q4
  have g0 : ∀ c, c ≠ 101 → m4 c = m2 c := fun c a => by rw [q4, gk_up_n a]
  have g101 : m4 101 = upd (m2 101) 37 0 := by rw [q4, gk_up_s]
  refine ⟨by rw [q1, q3, e1, hm.2.2.1.1], c_sE C 0 (c_sm C) (c_ss C) (c_sw C), ⟨hK.1.1, hK.1.2.1, ⟨Nat.zero_le _, fun i hi => absurd hi (Nat.not_lt_zero i)⟩, hK.1.2.2.2⟩, kc_lo (fun c q => g0 c (by omega)) hk2, km_S hm ⟨by rw [g101, upd_s]; rfl, fun i hi => absurd hi (Nat.not_lt_zero i)⟩ (fun j hj => by rw [g101, upd_n hj]) (fun c p q => g0 c p)⟩
set_option maxHeartbeats 4000000 in
theorem k_ok_seen : ok_seen gp_Inv := by
  intro μ x1 x2 x3 ⟨C, hK⟩
  unfold w_X7_seen
  rw [rf_0_6]
  rcases rg x1 23 (by omega) with ⟨a1, h1, rfl⟩ | b1
  · refine s_mom_y (by omega) ?_
    rw [if_neg i1n0]
    rcases rg x2 1 (by omega) with ⟨a2, h2, rfl⟩ | b2
    · refine s_sta_y (by omega) ?_
      rw [if_neg i1n0]
      rcases rg x3 108 (by omega) with ⟨a3, h3, rfl⟩ | b3
      · refine s_wi (m := 108) (by omega) h3 ?_
        rw [if_neg i1n0]
        have h8' := hK.1.2.2.1.1
        have e1 : μ 19 3 = nI (c_ns C) := hK.2.1.2.2.1.1
        by_cases h8 : c_ns C < 8
        · refine s4_sp h8 e1 ?_
          rw [if_neg i1n0]
          refine s4_app h8 e1 (fun ν q1 q2 q3 q4 q5 => ?_)
          rw [q1]
          have hk2 : gp_kc (c_sE C (c_ns C + 1) (gp_u (c_sm C) (c_ns C) a1) (gp_u (c_ss C) (c_ns C) a2) (gp_u (c_sw C) (c_ns C) a3)) ν := by
            refine kc_S hK.2.1 ⟨q1, fun i hi => ⟨?_, ?_, ?_⟩⟩ q5
            · rw [q2]
              exact upd3 (fun i hi => (hK.2.1.2.2.1.2 i hi).1) i hi
            · rw [q3]
              exact upd3 (fun i hi => (hK.2.1.2.2.1.2 i hi).2.1) i hi
            · rw [q4]
              exact upd3 (fun i hi => (hK.2.1.2.2.1.2 i hi).2.2) i hi
          have hm := km_hi (C := C) (fun c q => q5 c (by omega)) hK.2.2
          unfold w_X8_seen
          refine m_mom_y (by omega) ?_
          rw [if_neg i1n0]
          refine m_two_y (by omega) ?_
          rw [if_neg i1n0]
          refine s_ii (m := 108) (by omega) h3 ?_
          rw [if_neg i1n0]
          refine m_app37 (Q := fun r2 m2 => nI (c_ns C + 1) = r2 ∧ gp_Inv m2) h8 hm.2.2.1.1 (fun ξ p1 p2 p3 p4 p5 p6 => ?_)
          refine ⟨rfl, c_sE C (c_ns C + 1) (gp_u (c_sm C) (c_ns C) a1) (gp_u (c_ss C) (c_ns C) a2) (gp_u (c_sw C) (c_ns C) a3), ⟨hK.1.1, hK.1.2.1, ⟨?_, fun i hi => ⟨?_, ?_, ?_⟩⟩, hK.1.2.2.2⟩, kc_lo (fun c q => p6 c (by omega) (by omega)) hk2, km_S hm ⟨p1, fun i hi => ⟨?_, ?_, ?_⟩⟩ p5 p6⟩
          · show c_ns C + 1 ≤ 8
            omega
          · exact u3 (by omega) (fun i hi => (hK.1.2.2.1.2 i hi).1) i hi
          · exact u3 (by omega) (fun i hi => (hK.1.2.2.1.2 i hi).2.1) i hi
          · exact Nat.le_of_lt_succ (u3 (B := 109) (by omega) (fun i hi => Nat.lt_succ_of_le (hK.1.2.2.1.2 i hi).2.2) i hi)
          · rw [p2]
            exact upd3 (fun i hi => (hm.2.2.1.2 i hi).1) i hi
          · rw [p3]
            exact upd3 (fun i hi => (hm.2.2.1.2 i hi).2.1) i hi
          · rw [p4]
            exact upd3 (fun i hi => (hm.2.2.1.2 i hi).2.2) i hi
        · refine s4_sn (by rw [e1, show c_ns C = 8 by omega]) ?_
          rw [if_pos rfl]
          unfold w_X8_seen
          refine m_mom_y (by omega) ?_
          rw [if_neg i1n0]
          refine m_two_y (by omega) ?_
          rw [if_neg i1n0]
          refine s_ii (m := 108) (by omega) h3 ?_
          rw [if_neg i1n0, if_pos (by rw [hK.2.2.2.2.1.1, show c_ns C = 8 by omega]; rfl)]
          exact ⟨rfl, C, hK⟩
      · refine s_w_n b3 ?_
        rw [if_pos rfl]
        unfold w_X8_seen
        refine m_mom_y (by omega) ?_
        rw [if_neg i1n0]
        refine m_two_y (by omega) ?_
        rw [if_neg i1n0]
        refine s_in_n b3 ?_
        rw [if_pos rfl]
        exact ⟨rfl, C, hK⟩
    · refine s_sta_n b2 ?_
      rw [if_pos rfl]
      unfold w_X8_seen
      refine m_mom_y (by omega) ?_
      rw [if_neg i1n0]
      refine m_two_n b2 ?_
      rw [if_pos rfl]
      exact ⟨rfl, C, hK⟩
  · refine s_mom_n b1 ?_
    rw [if_pos rfl]
    unfold w_X8_seen
    refine m_mom_n b1 ?_
    rw [if_pos rfl]
    exact ⟨rfl, C, hK⟩
