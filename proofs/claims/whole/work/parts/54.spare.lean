/-! spare -/
def gp_kx (x : Int32) (i : Nat) : Bool := !bt x i
def gp_fz (C : gp_C) (x : Int32) : Bool := gp_left (c_Pk C (gp_kx x)) == 0
theorem gp_kx_c {C : gp_C} (hC : gp_cw C) {x : Int32} : ∀ i, i < c_ne C → bt ((255 : Int32) &&& (x ^^^ (-1))) i = gp_kx x i := by
  intro i hi
  have := hC.2.1.1
  rw [b_and, b_255, b_xor, b_m1 i (by omega), decide_eq_true (by omega)]
  unfold gp_kx
  simp
def gp_S7 (C : gp_C) (μ : gk_St) : Prop := gp_K C μ ∧ gp_pl0 (c_nc C) (c_pl C) (c_so C) (c_ro C) (c_D C) (c_pc C) μ
theorem s_nob {C : gp_C} {μ : gk_St} (hS : gp_S7 C μ) {x : Int32} {Q : Int32 → gk_St → Prop} (h : ∀ ν, gp_S7 C ν → Q (gp_bi (gp_fz C x)) ν) : w_X7_nobodyLeftWithout 0 x μ Q := by
  obtain ⟨hK, h0⟩ := hS
  unfold w_X7_nobodyLeftWithout
  rw [rf_0_11, rf_0_5, rf_0_13]
  refine s_te hK.1 c_nc6 (gp_kx_c hK.1) hK.2.1.2.1 h0 (fun ν a b c => ?_)
  have hK2 : gp_K C ν := gp_K_fC (fun d p => c d (by omega) (by omega) (by omega)) hK
  refine s_trial hK2 (c_Pk_wf hK.1 (kp := gp_kx x)) a (fun ξ a2 b2 c2 d2 f2 => ?_)
  have h02 := gp_pl0_f (fun c p q r => f2 c (by omega)) b
  have hh := h ξ ⟨a2, h02⟩
  refine s_left_66 hK.1 a2.2.1.1 rfl (c_Pk_wf hK.1 (kp := gp_kx x)) c2 ?_
  have hl := gp_left_le (c_Pk_wf hK.1 (kp := gp_kx x))
  unfold gp_fz at hh
  show (if nI (gp_left (c_Pk C (gp_kx x))) = 0 then Q 1 ξ else Q 0 ξ)
  generalize gp_left (c_Pk C (gp_kx x)) = y at hl hh ⊢
  by_cases z : y = 0
  · rw [if_pos (by rw [z]; rfl)]
    rw [z] at hh
    exact hh
  · rw [if_neg (nI_ne0 (by omega) (by omega))]
    rw [show (y == 0) = false by simpa using z] at hh
    exact hh
def gp_S8 (C : gp_C) (μ : gk_St) : Prop := gp_K C μ ∧ gp_rd (c_tn C) (c_tb C) μ ∧ ∃ kp, gp_mc (c_nc C) (c_pl C) (c_so C) (c_ro C) (c_D C) (c_pc C) kp μ
theorem gp_S8_125 {C : gp_C} {μ : gk_St} {i : Nat} {x : Int32} (h : gp_S8 C μ) : gp_S8 C (gk_up μ 125 i x) := by
  have F : gp_f5 μ (gk_up μ 125 i x) := gp_f5_up (Or.inr (Or.inl rfl))
  refine ⟨gp_K_fM (gp_f5_fM F) h.1, gp_rd_f5 F h.2.1, ?_⟩
  obtain ⟨kp, hm⟩ := h.2.2
  refine ⟨kp, ?_⟩
  unfold gp_mc
  rw [gk_up_n (by omega), gk_up_n (by omega), gk_up_n (by omega), gk_up_n (by omega), gk_up_n (by omega), gk_up_n (by omega), gk_up_n (by omega), gk_up_n (by omega), gk_up_n (by omega), gk_up_n (by omega), gk_up_n (by omega)]
  exact hm
theorem m_isSp {C : gp_C} {μ : gk_St} (hS : gp_S8 C μ) {x : Int32} {Q : Int32 → gk_St → Prop} (h : ∀ ν, gp_S8 C ν → ν 125 = μ 125 → Q (gp_bi (gp_fz C x)) ν) : w_X8_isSpared 101 x μ Q := by
  obtain ⟨hK, hR, kp, hm⟩ := hS
  unfold w_X8_isSpared
  intro m1 e1
  have h1 := mu_kp (kp' := gp_kx x) hm e1 (fun i _ => by unfold gp_kx; rw [Bool.not_not])
  have F1 : gp_f5 μ m1 := by rw [e1]; exact gp_f5_17
  refine m_run (c_dw hK.1) (c_Pk_wf hK.1 (kp := gp_kx x)) h1 (fun ν a b c => ?_)
  have F2 := gp_f5_tr F1 (gp_f3_f5 c)
  have hh := h ν ⟨gp_K_fM (gp_f5_fM F2) hK, gp_rd_f5 F2 hR, _, b⟩ (by rw [c.1 125 (by omega) (by omega), e1, gk_up_n (by omega)])
  refine m_leftNow a ?_
  have hl := gp_left_le (c_Pk_wf hK.1 (kp := gp_kx x))
  unfold gp_fz at hh
  show (if nI (gp_left (c_Pk C (gp_kx x))) = 0 then Q 1 ν else Q 0 ν)
  generalize gp_left (c_Pk C (gp_kx x)) = y at hl hh ⊢
  by_cases z : y = 0
  · rw [if_pos (by rw [z]; rfl)]
    rw [z] at hh
    exact hh
  · rw [if_neg (nI_ne0 (by omega) (by omega))]
    rw [show (y == 0) = false by simpa using z] at hh
    exact hh
def gp_x1 (a : Nat) : Int32 := (1 : Int32) <<< (nI a &&& 31)
def gp_x2 (a b : Nat) : Int32 := gp_x1 a ||| gp_x1 b
def gp_p2 (C : gp_C) (a : Nat) : Bool := gp_any (fun b => decide (a < b) && gp_fz C (gp_x2 a b)) (c_ne C)
/-- what is spared: how many, which -/
def gp_isP (C : gp_C) (n a b : Nat) : Prop := (n = 0 ∧ gp_fz C 0 = true) ∨ (gp_fz C 0 = false ∧ n = 1 ∧ a < c_ne C ∧ gp_fz C (gp_x1 a) = true ∧ ∀ a', a' < a → gp_fz C (gp_x1 a') = false) ∨ (gp_fz C 0 = false ∧ (∀ a', a' < c_ne C → gp_fz C (gp_x1 a') = false) ∧ n = 2 ∧ a < b ∧ b < c_ne C ∧ gp_fz C (gp_x2 a b) = true ∧ (∀ a', a' < a → ∀ b', a' < b' → b' < c_ne C → gp_fz C (gp_x2 a' b') = false) ∧ ∀ b', a < b' → b' < b → gp_fz C (gp_x2 a b') = false) ∨ (gp_fz C 0 = false ∧ (∀ a', a' < c_ne C → gp_fz C (gp_x1 a') = false) ∧ n = 3 ∧ ∀ a' b', a' < b' → b' < c_ne C → gp_fz C (gp_x2 a' b') = false)
theorem gp_fst2 (f : Nat → Bool) : ∀ n, (∃ a, a < n ∧ f a = true ∧ ∀ a', a' < a → f a' = false) ∨ ∀ a, a < n → f a = false
  | 0 => Or.inr (fun a h => absurd h (Nat.not_lt_zero a))
  | n + 1 => by
    rcases gp_fst2 f n with ⟨a, h1, h2, h3⟩ | h
    · exact Or.inl ⟨a, by omega, h2, h3⟩
    · cases hq : f n with
      | true => exact Or.inl ⟨n, by omega, hq, h⟩
      | false =>
        refine Or.inr (fun a ha => ?_)
        by_cases e : a = n
        · rw [e]
          exact hq
        · exact h a (by omega)
theorem gp_isP_ex (C : gp_C) : ∃ n a b, gp_isP C n a b := by
  cases h0 : gp_fz C 0 with
  | true => exact ⟨0, 0, 0, Or.inl ⟨rfl, h0⟩⟩
  | false =>
    rcases gp_fst2 (fun a => gp_fz C (gp_x1 a)) (c_ne C) with ⟨a, h1, h2, h3⟩ | h1
    · exact ⟨1, a, 0, Or.inr (Or.inl ⟨h0, rfl, h1, h2, h3⟩)⟩
    · have np : ∀ a, gp_p2 C a = false → ∀ b', a < b' → b' < c_ne C → gp_fz C (gp_x2 a b') = false := fun a hq b' q1 q2 => by
        cases hz : gp_fz C (gp_x2 a b') with
        | false => rfl
        | true =>
          have : gp_p2 C a = true := gp_any_iff.mpr ⟨b', q2, by simp [q1, hz]⟩
          rw [hq] at this
          cases this
      rcases gp_fst2 (gp_p2 C) (c_ne C) with ⟨a, h2, h3, h4⟩ | h2
      · rcases gp_fst2 (fun b => decide (a < b) && gp_fz C (gp_x2 a b)) (c_ne C) with ⟨b, q1, q2, q3⟩ | q
        · rw [Bool.and_eq_true] at q2
          refine ⟨2, a, b, Or.inr (Or.inr (Or.inl ⟨h0, h1, rfl, of_decide_eq_true q2.1, q1, q2.2, fun a' ha' => np a' (h4 a' ha'), fun b' w1 w2 => ?_⟩))⟩
          have := q3 b' w2
          rw [decide_eq_true w1, Bool.true_and] at this
          exact this
        · obtain ⟨b, w1, w2⟩ := gp_any_iff.mp h3
          rw [q b w1] at w2
          cases w2
      · exact ⟨3, 0, 0, Or.inr (Or.inr (Or.inr ⟨h0, h1, rfl, fun a' b' w1 w2 => np a' (h2 a' (by omega)) b' w1 w2⟩))⟩
set_option maxHeartbeats 4000000 in
theorem c_ad16 {C : gp_C} {T m : Nat} (hT : T ≤ c_ne C) {Q : Int32 → gk_St → Prop} {K : gk_St → Prop} : ∀ (i j : Nat) (μ : gk_St), j + i = T → (∀ a', a' < T → gp_fz C (gp_x1 a') = false) → gp_S7 C μ → (∀ ν, gp_S7 C ν → w_X7_leastSpared_l16 Q K 0 m (nI T) ν) → w_X7_leastSpared_l16 Q K 0 (m + i) (nI j) μ := by
  intro i
  induction i with
  | zero =>
    intro j μ hj hf hS h
    have e : j = T := by omega
    rw [e]
    exact h μ hS
  | succ i ih =>
    intro j μ hj hf hS h
    have h8 := hS.1.1.2.1.1
    show w_X7_leastSpared_l16 Q K 0 ((m + i) + 1) (nI j) μ
    unfold w_X7_leastSpared_l16
    rw [rf_0_5, hS.1.2.1.2.1.1, if_neg (fun q => absurd ((nI_leI (by omega) (by omega)).mp q) (by omega))]
    refine s_nob hS (fun ν hS2 => ?_)
    have hz : gp_fz C ((1 : Int32) <<< (nI j &&& 31)) = false := hf j (by omega)
    rw [hz, if_pos (show gp_bi false = 0 from rfl)]
    intro v e
    rw [e, nI_1]
    exact ih (j + 1) ν (by omega) hf hS2 h
set_option maxHeartbeats 4000000 in
theorem c_ad64 {C : gp_C} {a T m : Nat} (hT : T ≤ c_ne C) {Q : Int32 → gk_St → Prop} {K : Int32 → gk_St → Prop} : ∀ (i j : Nat) (μ : gk_St), j + i = T → a < j → (∀ b', a < b' → b' < T → gp_fz C (gp_x2 a b') = false) → gp_S7 C μ → (∀ ν, gp_S7 C ν → w_X7_leastSpared_l64 Q K 0 m (nI a) (nI T) ν) → w_X7_leastSpared_l64 Q K 0 (m + i) (nI a) (nI j) μ := by
  intro i
  induction i with
  | zero =>
    intro j μ hj ha hf hS h
    have e : j = T := by omega
    rw [e]
    exact h μ hS
  | succ i ih =>
    intro j μ hj ha hf hS h
    have h8 := hS.1.1.2.1.1
    show w_X7_leastSpared_l64 Q K 0 ((m + i) + 1) (nI a) (nI j) μ
    unfold w_X7_leastSpared_l64
    rw [rf_0_5, hS.1.2.1.2.1.1, if_neg (fun q => absurd ((nI_leI (by omega) (by omega)).mp q) (by omega))]
    refine s_nob hS (fun ν hS2 => ?_)
    have hz : gp_fz C (((1 : Int32) <<< (nI a &&& 31)) ||| ((1 : Int32) <<< (nI j &&& 31))) = false := hf j ha (by omega)
    rw [hz, if_pos (show gp_bi false = 0 from rfl)]
    intro v e
    rw [e, nI_1]
    exact ih (j + 1) ν (by omega) (by omega) hf hS2 h
set_option maxHeartbeats 4000000 in
theorem c_ad49 {C : gp_C} {T m : Nat} (hT : T ≤ c_ne C) {Q : Int32 → gk_St → Prop} {K : gk_St → Prop} : ∀ (i j : Nat) (μ : gk_St), j + i = T → (∀ a', a' < T → ∀ b', a' < b' → b' < c_ne C → gp_fz C (gp_x2 a' b') = false) → gp_S7 C μ → (∀ ν, gp_S7 C ν → w_X7_leastSpared_l49 Q K 0 m (nI T) ν) → w_X7_leastSpared_l49 Q K 0 (m + i) (nI j) μ := by
  intro i
  induction i with
  | zero =>
    intro j μ hj hf hS h
    have e : j = T := by omega
    rw [e]
    exact h μ hS
  | succ i ih =>
    intro j μ hj hf hS h
    have h8 := hS.1.1.2.1.1
    show w_X7_leastSpared_l49 Q K 0 ((m + i) + 1) (nI j) μ
    unfold w_X7_leastSpared_l49
    rw [rf_0_5, hS.1.2.1.2.1.1, if_neg (fun q => absurd ((nI_leI (by omega) (by omega)).mp q) (by omega))]
    intro v8 e8
    rw [e8, nI_1]
    refine ⟨1 + (c_ne C - (j + 1)), ?_⟩
    refine c_ad64 (T := c_ne C) (Nat.le_refl _) (c_ne C - (j + 1)) (j + 1) μ (by omega) (by omega) (hf j (by omega)) hS (fun ν hS2 => ?_)
    unfold w_X7_leastSpared_l64
    rw [rf_0_5, hS2.1.2.1.2.1.1, if_pos (Int32.le_refl _)]
    intro v e
    rw [e, nI_1]
    exact ih (j + 1) ν (by omega) hf hS2 h
def gp_bp (n a b : Nat) : Int32 := if n = 0 then 0 else if n = 1 then gp_x1 a else if n = 2 then gp_x2 a b else -1
set_option maxHeartbeats 4000000 in
theorem c_least {C : gp_C} {n a b : Nat} (hP : gp_isP C n a b) {μ : gk_St} (hK : gp_K C μ) {Q : Int32 → gk_St → Prop} (h : ∀ ν, gp_K C ν → Q (gp_bp n a b) ν) : w_X7_leastSpared 0 μ Q := by
  unfold w_X7_leastSpared
  refine s_plan hK (fun ν a1 b1 c1 d1 => ?_)
  refine s_nob ⟨a1, c1⟩ (fun ξ hS => ?_)
  have h8 := hK.1.2.1.1
  rcases hP with ⟨p1, p2⟩ | ⟨p0, p1, p2, p3, p4⟩ | ⟨p0, pa, p1, p2, p3, p4, p5, p6⟩ | ⟨p0, pa, p1, p2⟩
  · rw [p2, if_neg (show ¬ gp_bi true = 0 by decide)]
    subst p1
    exact h ξ hS.1
  · rw [p0, if_pos (show gp_bi false = 0 from rfl)]
    subst p1
    refine ⟨1 + a, c_ad16 (T := a) (by omega) a 0 ξ (by omega) p4 hS (fun ζ hS2 => ?_)⟩
    unfold w_X7_leastSpared_l16
    rw [rf_0_5, hS2.1.2.1.2.1.1, if_neg (fun q => absurd ((nI_leI (by omega) (by omega)).mp q) (by omega))]
    refine s_nob hS2 (fun θ hS3 => ?_)
    have hz : gp_fz C ((1 : Int32) <<< (nI a &&& 31)) = true := p3
    rw [hz, if_neg (show ¬ gp_bi true = 0 by decide)]
    exact h θ hS3.1
  · rw [p0, if_pos (show gp_bi false = 0 from rfl)]
    subst p1
    refine ⟨1 + c_ne C, c_ad16 (T := c_ne C) (Nat.le_refl _) (c_ne C) 0 ξ (by omega) pa hS (fun ζ hS2 => ?_)⟩
    unfold w_X7_leastSpared_l16
    rw [rf_0_5, hS2.1.2.1.2.1.1, if_pos (Int32.le_refl _)]
    refine ⟨1 + a, c_ad49 (T := a) (by omega) a 0 ζ (by omega) p5 hS2 (fun θ hS3 => ?_)⟩
    unfold w_X7_leastSpared_l49
    rw [rf_0_5, hS3.1.2.1.2.1.1, if_neg (fun q => absurd ((nI_leI (by omega) (by omega)).mp q) (by omega))]
    intro v8 e8
    rw [e8, nI_1]
    refine ⟨1 + (b - (a + 1)), c_ad64 (T := b) (by omega) (b - (a + 1)) (a + 1) θ (by omega) (by omega) p6 hS3 (fun κ hS4 => ?_)⟩
    unfold w_X7_leastSpared_l64
    rw [rf_0_5, hS4.1.2.1.2.1.1, if_neg (fun q => absurd ((nI_leI (by omega) (by omega)).mp q) (by omega))]
    refine s_nob hS4 (fun σ hS5 => ?_)
    have hz : gp_fz C (((1 : Int32) <<< (nI a &&& 31)) ||| ((1 : Int32) <<< (nI b &&& 31))) = true := p4
    rw [hz, if_neg (show ¬ gp_bi true = 0 by decide)]
    exact h σ hS5.1
  · rw [p0, if_pos (show gp_bi false = 0 from rfl)]
    subst p1
    refine ⟨1 + c_ne C, c_ad16 (T := c_ne C) (Nat.le_refl _) (c_ne C) 0 ξ (by omega) pa hS (fun ζ hS2 => ?_)⟩
    unfold w_X7_leastSpared_l16
    rw [rf_0_5, hS2.1.2.1.2.1.1, if_pos (Int32.le_refl _)]
    refine ⟨1 + c_ne C, c_ad49 (T := c_ne C) (Nat.le_refl _) (c_ne C) 0 ζ (by omega) (fun a' _ b' q1 q2 => p2 a' b' q1 q2) hS2 (fun θ hS3 => ?_)⟩
    unfold w_X7_leastSpared_l49
    rw [rf_0_5, hS3.1.2.1.2.1.1, if_pos (Int32.le_refl _)]
    exact h θ hS3.1
/-- counting and finding bits -/
def gp_nbf (x i : Int32) : Nat → Int32 → Int32 → Int32
  | 0, _, _ => -1
  | n + 1, ah, bit => if 8 ≤ bit then -1 else (if ((x >>> (bit &&& 31)) &&& 1) = 1 then (if ah = i then bit else gp_nbf x i n (ah + 1) (bit + 1)) else gp_nbf x i n ah (bit + 1))
theorem c_nb {x i : Int32} {μ : gk_St} {Q : Int32 → gk_St → Prop} : ∀ (n b : Nat) (ah : Int32), b + n = 9 → b ≤ 8 → Q (gp_nbf x i n ah (nI b)) μ → w_X7_numberOfBit_l4 Q (fun m4 => Q (-1) m4) n x i ah (nI b) μ := by
  intro n
  induction n with
  | zero =>
    intro b ah hb h8 h
    omega
  | succ n ih =>
    intro b ah hb h8 h
    unfold gp_nbf at h
    unfold w_X7_numberOfBit_l4
    by_cases c : (8 : Int32) ≤ nI b
    · rw [if_pos c]
      rw [if_pos c] at h
      exact h
    · rw [if_neg c]
      rw [if_neg c] at h
      have hb8 : b < 8 := by
        by_cases z : b < 8
        · exact z
        · exact absurd ((nI_leI (a := 8) (by omega) (by omega)).mpr (by omega)) c
      by_cases d : ((x >>> (nI b &&& 31)) &&& 1) = 1
      · rw [if_pos d]
        rw [if_pos d] at h
        by_cases e : ah = i
        · rw [if_pos e]
          rw [if_pos e] at h
          exact h
        · rw [if_neg e]
          rw [if_neg e, nI_1] at h
          intro v2 e2 v3 e3
          rw [e2, e3, nI_1]
          exact ih (b + 1) (ah + 1) (by omega) (by omega) h
      · rw [if_neg d]
        rw [if_neg d, nI_1] at h
        intro v e
        rw [e, nI_1]
        exact ih (b + 1) ah (by omega) (by omega) h
def gp_bc (x0 : Int32) : Int32 :=
  let v1 := x0 - ((gk_us x0 1) &&& 1431655765)
  let v2 := (v1 &&& 858993459) + ((gk_us v1 2) &&& 858993459)
  let v3 := (v2 + (gk_us v2 4)) &&& 252645135
  let v4 := v3 + (gk_us v3 8)
  let v5 := v4 + (gk_us v4 16)
  v5 &&& 63
theorem c_bc {x : Int32} {μ : gk_St} {Q : Int32 → gk_St → Prop} (h : Q (gp_bc x) μ) : w_J6_bitCount_0f7a4 x μ Q := by
  unfold w_J6_bitCount_0f7a4
  intro v1 e1 v2 e2 v3 e3 v4 e4 v5 e5
  subst e1
  subst e2
  subst e3
  subst e4
  subst e5
  exact h
theorem bc_0 : gp_bc 0 = 0 := by decide +kernel
theorem bc_1 : ∀ a, a < 8 → gp_bc (gp_x1 a) = 1 := by decide +kernel
theorem bc_2 : ∀ b, b < 8 → ∀ a, a < b → gp_bc (gp_x2 a b) = 2 := by decide +kernel
theorem nb_0 : ∀ w, w < 2 → gp_nbf 0 (nI w) 9 0 0 = -1 := by decide +kernel
theorem nb_1 : ∀ w, w < 2 → ∀ a, a < 8 → gp_nbf (gp_x1 a) (nI w) 9 0 0 = if w = 0 then nI a else -1 := by decide +kernel
theorem nb_2 : ∀ w, w < 2 → ∀ b, b < 8 → ∀ a, a < b → gp_nbf (gp_x2 a b) (nI w) 9 0 0 = if w = 0 then nI a else nI b := by decide +kernel
theorem x1_n : ∀ a, a < 8 → ¬ gp_x1 a = -1 := by decide +kernel
theorem x2_n : ∀ b, b < 8 → ∀ a, a < b → ¬ gp_x2 a b = -1 := by decide +kernel
def v_sn (n : Nat) : Int32 := if n = 3 then -1 else nI n
def v_sw (n a b w : Nat) : Int32 := if n = 3 then -1 else if n ≤ w then -1 else if w = 0 then nI a else nI b
theorem gp_isP_c {C : gp_C} (hC : gp_cw C) {n a b : Nat} (hP : gp_isP C n a b) : n = 0 ∨ (n = 1 ∧ a < 8) ∨ (n = 2 ∧ a < b ∧ b < 8) ∨ n = 3 := by
  have h8 := hC.2.1.1
  rcases hP with ⟨p1, p2⟩ | ⟨p0, p1, p2, p3, p4⟩ | ⟨p0, pa, p1, p2, p3, p4, p5, p6⟩ | ⟨p0, pa, p1, p2⟩
  · exact Or.inl p1
  · exact Or.inr (Or.inl ⟨p1, by omega⟩)
  · exact Or.inr (Or.inr (Or.inl ⟨p1, p2, by omega⟩))
  · exact Or.inr (Or.inr (Or.inr p1))
theorem c_spn {C : gp_C} {n a b : Nat} (hP : gp_isP C n a b) {μ : gk_St} (hK : gp_K C μ) {Q : Int32 → gk_St → Prop} (h : ∀ ν, gp_K C ν → Q (v_sn n) ν) : w_X7_spare 0 (-1) μ Q := by
  unfold w_X7_spare
  refine s_w_y (by decide) (by decide) ?_
  rw [if_neg i1n0]
  refine c_least hP hK (fun ν hK2 => ?_)
  have hh := h ν hK2
  rcases gp_isP_c hK.1 hP with rfl | ⟨rfl, ha⟩ | ⟨rfl, ha, hb⟩ | rfl
  · rw [if_neg (show ¬ gp_bp 0 a b = -1 from fun q => absurd (show (0 : Int32) = -1 from q) (by decide)), if_pos rfl]
    refine c_bc ?_
    have : gp_bc (gp_bp 0 a b) = 0 := bc_0
    rw [this]
    exact hh
  · rw [if_neg (show ¬ gp_bp 1 a b = -1 from x1_n a ha), if_pos rfl]
    refine c_bc ?_
    have : gp_bc (gp_bp 1 a b) = 1 := bc_1 a ha
    rw [this]
    exact hh
  · rw [if_neg (show ¬ gp_bp 2 a b = -1 from x2_n b hb a ha), if_pos rfl]
    refine c_bc ?_
    have : gp_bc (gp_bp 2 a b) = 2 := bc_2 b hb a ha
    rw [this]
    exact hh
  · rw [if_pos (show gp_bp 3 a b = -1 from rfl)]
    exact hh
theorem c_spw {C : gp_C} {n a b : Nat} (hP : gp_isP C n a b) {μ : gk_St} (hK : gp_K C μ) {w : Nat} (hw : w < 2) {Q : Int32 → gk_St → Prop} (h : ∀ ν, gp_K C ν → Q (v_sw n a b w) ν) : w_X7_spare 0 (nI w) μ Q := by
  unfold w_X7_spare
  refine s_w_y (show ¬ nI w < -1 from ?_) (show ¬ (1 : Int32) < nI w from ?_) ?_
  · rcases (show w = 0 ∨ w = 1 by omega) with z | z <;> rw [z] <;> decide
  · rcases (show w = 0 ∨ w = 1 by omega) with z | z <;> rw [z] <;> decide
  rw [if_neg i1n0]
  refine c_least hP hK (fun ν hK2 => ?_)
  have hh := h ν hK2
  have nm : ¬ nI w = -1 := nI_nm1 (by omega)
  have key : ∀ x : Int32, gp_nbf x (nI w) 9 0 0 = v_sw n a b w → w_X7_numberOfBit x (nI w) ν (fun r6 m5 => Q r6 m5) := by
    intro x hx
    unfold w_X7_numberOfBit
    refine ⟨9, ?_⟩
    refine c_nb 9 0 0 (by omega) (by omega) ?_
    have e : gp_nbf x (nI w) 9 0 (nI 0) = gp_nbf x (nI w) 9 0 0 := by rw [nI_0]
    rw [e, hx]
    exact hh
  rcases gp_isP_c hK.1 hP with rfl | ⟨rfl, ha⟩ | ⟨rfl, ha, hb⟩ | rfl
  · rw [if_neg (show ¬ gp_bp 0 a b = -1 from fun q => absurd (show (0 : Int32) = -1 from q) (by decide)), if_neg nm]
    refine key _ ((nb_0 w hw).trans ?_)
    rcases (show w = 0 ∨ w = 1 by omega) with z | z <;> subst z <;> rfl
  · rw [if_neg (show ¬ gp_bp 1 a b = -1 from x1_n a ha), if_neg nm]
    refine key _ ((nb_1 w hw a ha).trans ?_)
    rcases (show w = 0 ∨ w = 1 by omega) with z | z <;> subst z <;> rfl
  · rw [if_neg (show ¬ gp_bp 2 a b = -1 from x2_n b hb a ha), if_neg nm]
    refine key _ ((nb_2 w hw b hb a ha).trans ?_)
    rcases (show w = 0 ∨ w = 1 by omega) with z | z <;> subst z <;> rfl
  · rw [if_pos (show gp_bp 3 a b = -1 from rfl)]
    exact hh
set_option maxHeartbeats 4000000 in
theorem m_ad16 {C : gp_C} {T m : Nat} (hT : T ≤ c_ne C) {Q : Int32 → gk_St → Prop} {K : gk_St → Prop} : ∀ (i j : Nat) (μ : gk_St), j + i = T → (∀ a', a' < T → gp_fz C (gp_x1 a') = false) → gp_S8 C μ → (∀ ν, gp_S8 C ν → w_X8_spareBy_l16 Q K 101 m (nI T) ν) → w_X8_spareBy_l16 Q K 101 (m + i) (nI j) μ := by
  intro i
  induction i with
  | zero =>
    intro j μ hj hf hS h
    have e : j = T := by omega
    rw [e]
    exact h μ hS
  | succ i ih =>
    intro j μ hj hf hS h
    have h8 := hS.1.1.2.1.1
    show w_X8_spareBy_l16 Q K 101 ((m + i) + 1) (nI j) μ
    unfold w_X8_spareBy_l16
    rw [hS.1.2.2.2.1.1, if_neg (fun q => absurd ((nI_leI (by omega) (by omega)).mp q) (by omega)), rf_101_36, z0c]
    refine ⟨vi (k := 0) (n := 2) (by omega) ln_125 (by omega), ?_⟩
    intro m4 e4
    refine m_isSp (C := C) (by rw [e4]; exact gp_S8_125 hS) (fun ν hS2 _ => ?_)
    have hz : gp_fz C ((1 : Int32) <<< (nI j &&& 31)) = false := hf j (by omega)
    rw [hz, if_pos (show gp_bi false = 0 from rfl)]
    intro v e
    rw [e, nI_1]
    exact ih (j + 1) ν (by omega) hf hS2 h
set_option maxHeartbeats 4000000 in
theorem m_ad63 {C : gp_C} {a T m : Nat} (hT : T ≤ c_ne C) {Q : Int32 → gk_St → Prop} {K : Int32 → gk_St → Prop} : ∀ (i j : Nat) (μ : gk_St), j + i = T → a < j → (∀ b', a < b' → b' < T → gp_fz C (gp_x2 a b') = false) → gp_S8 C μ → (∀ ν, gp_S8 C ν → w_X8_spareBy_l63 Q K 101 m (nI a) (nI T) ν) → w_X8_spareBy_l63 Q K 101 (m + i) (nI a) (nI j) μ := by
  intro i
  induction i with
  | zero =>
    intro j μ hj ha hf hS h
    have e : j = T := by omega
    rw [e]
    exact h μ hS
  | succ i ih =>
    intro j μ hj ha hf hS h
    have h8 := hS.1.1.2.1.1
    show w_X8_spareBy_l63 Q K 101 ((m + i) + 1) (nI a) (nI j) μ
    unfold w_X8_spareBy_l63
    rw [hS.1.2.2.2.1.1, if_neg (fun q => absurd ((nI_leI (by omega) (by omega)).mp q) (by omega)), rf_101_36, z0c, z1c]
    refine ⟨vi (k := 0) (n := 2) (by omega) ln_125 (by omega), ?_⟩
    intro m4 e4
    refine ⟨vi (k := 1) (n := 2) (by omega) ln_125 (by omega), ?_⟩
    intro m5 e5
    refine m_isSp (C := C) (by rw [e5, e4]; exact gp_S8_125 (gp_S8_125 hS)) (fun ν hS2 _ => ?_)
    have hz : gp_fz C (((1 : Int32) <<< (nI a &&& 31)) ||| ((1 : Int32) <<< (nI j &&& 31))) = false := hf j ha (by omega)
    rw [hz, if_pos (show gp_bi false = 0 from rfl)]
    intro v e
    rw [e, nI_1]
    exact ih (j + 1) ν (by omega) (by omega) hf hS2 h
set_option maxHeartbeats 4000000 in
theorem m_ad51 {C : gp_C} {T m : Nat} (hT : T ≤ c_ne C) {Q : Int32 → gk_St → Prop} {K : gk_St → Prop} : ∀ (i j : Nat) (μ : gk_St), j + i = T → (∀ a', a' < T → ∀ b', a' < b' → b' < c_ne C → gp_fz C (gp_x2 a' b') = false) → gp_S8 C μ → (∀ ν, gp_S8 C ν → w_X8_spareBy_l51 Q K 101 m (nI T) ν) → w_X8_spareBy_l51 Q K 101 (m + i) (nI j) μ := by
  intro i
  induction i with
  | zero =>
    intro j μ hj hf hS h
    have e : j = T := by omega
    rw [e]
    exact h μ hS
  | succ i ih =>
    intro j μ hj hf hS h
    have h8 := hS.1.1.2.1.1
    show w_X8_spareBy_l51 Q K 101 ((m + i) + 1) (nI j) μ
    unfold w_X8_spareBy_l51
    rw [hS.1.2.2.2.1.1, if_neg (fun q => absurd ((nI_leI (by omega) (by omega)).mp q) (by omega))]
    intro v8 e8
    rw [e8, nI_1]
    refine ⟨1 + (c_ne C - (j + 1)), ?_⟩
    refine m_ad63 (T := c_ne C) (Nat.le_refl _) (c_ne C - (j + 1)) (j + 1) μ (by omega) (by omega) (hf j (by omega)) hS (fun ν hS2 => ?_)
    unfold w_X8_spareBy_l63
    rw [hS2.1.2.2.2.1.1, if_pos (Int32.le_refl _)]
    intro v e
    rw [e, nI_1]
    exact ih (j + 1) ν (by omega) hf hS2 h
set_option maxHeartbeats 4000000 in
theorem m_sp {C : gp_C} {n a b : Nat} (hP : gp_isP C n a b) {μ : gk_St} (hK : gp_K C μ) {Q : Int32 → gk_St → Prop} (h : ∀ ν, gp_K C ν → gp_rd (c_tn C) (c_tb C) ν → (n = 1 ∨ n = 2 → ν 125 0 = nI a) → (n = 2 → ν 125 1 = nI b) → Q (v_sn n) ν) : w_X8_spareBy 101 μ Q := by
  unfold w_X8_spareBy
  refine s_mastC hK (fun ν a1 b1 c1 d1 f1 => ?_)
  refine m_isSp ⟨a1, b1, _, c1⟩ (fun ξ hS _ => ?_)
  have h8 := hK.1.2.1.1
  rcases hP with ⟨p1, p2⟩ | ⟨p0, p1, p2, p3, p4⟩ | ⟨p0, pa, p1, p2, p3, p4, p5, p6⟩ | ⟨p0, pa, p1, p2⟩
  · rw [p2, if_neg (show ¬ gp_bi true = 0 by decide)]
    subst p1
    exact h ξ hS.1 hS.2.1 (fun q => by omega) (fun q => by omega)
  · rw [p0, if_pos (show gp_bi false = 0 from rfl)]
    subst p1
    refine ⟨1 + a, m_ad16 (T := a) (by omega) a 0 ξ (by omega) p4 hS (fun ζ hS2 => ?_)⟩
    unfold w_X8_spareBy_l16
    rw [hS2.1.2.2.2.1.1, if_neg (fun q => absurd ((nI_leI (by omega) (by omega)).mp q) (by omega)), rf_101_36, z0c]
    refine ⟨vi (k := 0) (n := 2) (by omega) ln_125 (by omega), ?_⟩
    intro m4 e4
    refine m_isSp (C := C) (by rw [e4]; exact gp_S8_125 hS2) (fun θ hS3 h125 => ?_)
    have hz : gp_fz C ((1 : Int32) <<< (nI a &&& 31)) = true := p3
    rw [hz, if_neg (show ¬ gp_bi true = 0 by decide)]
    exact h θ hS3.1 hS3.2.1 (fun _ => by rw [h125, e4, gk_up_s, upd_s]) (fun q => by omega)
  · rw [p0, if_pos (show gp_bi false = 0 from rfl)]
    subst p1
    refine ⟨1 + c_ne C, m_ad16 (T := c_ne C) (Nat.le_refl _) (c_ne C) 0 ξ (by omega) pa hS (fun ζ hS2 => ?_)⟩
    unfold w_X8_spareBy_l16
    rw [hS2.1.2.2.2.1.1, if_pos (Int32.le_refl _)]
    refine ⟨1 + a, m_ad51 (T := a) (by omega) a 0 ζ (by omega) p5 hS2 (fun θ hS3 => ?_)⟩
    unfold w_X8_spareBy_l51
    rw [hS3.1.2.2.2.1.1, if_neg (fun q => absurd ((nI_leI (by omega) (by omega)).mp q) (by omega))]
    intro v8 e8
    rw [e8, nI_1]
    refine ⟨1 + (b - (a + 1)), m_ad63 (T := b) (by omega) (b - (a + 1)) (a + 1) θ (by omega) (by omega) p6 hS3 (fun κ hS4 => ?_)⟩
    unfold w_X8_spareBy_l63
    rw [hS4.1.2.2.2.1.1, if_neg (fun q => absurd ((nI_leI (by omega) (by omega)).mp q) (by omega)), rf_101_36, z0c, z1c]
    refine ⟨vi (k := 0) (n := 2) (by omega) ln_125 (by omega), ?_⟩
    intro m4 e4
    refine ⟨vi (k := 1) (n := 2) (by omega) ln_125 (by omega), ?_⟩
    intro m5 e5
    refine m_isSp (C := C) (by rw [e5, e4]; exact gp_S8_125 (gp_S8_125 hS4)) (fun σ hS5 h125 => ?_)
    have hz : gp_fz C (((1 : Int32) <<< (nI a &&& 31)) ||| ((1 : Int32) <<< (nI b &&& 31))) = true := p4
    rw [hz, if_neg (show ¬ gp_bi true = 0 by decide)]
    exact h σ hS5.1 hS5.2.1 (fun _ => by rw [h125, e5, gk_up_s, upd_n (by omega), e4, gk_up_s, upd_s]) (fun _ => by rw [h125, e5, gk_up_s, upd_s])
  · rw [p0, if_pos (show gp_bi false = 0 from rfl)]
    subst p1
    refine ⟨1 + c_ne C, m_ad16 (T := c_ne C) (Nat.le_refl _) (c_ne C) 0 ξ (by omega) pa hS (fun ζ hS2 => ?_)⟩
    unfold w_X8_spareBy_l16
    rw [hS2.1.2.2.2.1.1, if_pos (Int32.le_refl _)]
    refine ⟨1 + c_ne C, m_ad51 (T := c_ne C) (Nat.le_refl _) (c_ne C) 0 ζ (by omega) (fun a' _ b' q1 q2 => p2 a' b' q1 q2) hS2 (fun θ hS3 => ?_)⟩
    unfold w_X8_spareBy_l51
    rw [hS3.1.2.2.2.1.1, if_pos (Int32.le_refl _)]
    exact h θ hS3.1 hS3.2.1 (fun q => by omega) (fun q => by omega)
theorem m_row {n a b : Nat} (hn : n ≤ 3) {ν : gk_St} (h1 : n = 1 ∨ n = 2 → ν 125 0 = nI a) (h2 : n = 2 → ν 125 1 = nI b) {w : Nat} (hw : w < 2) {Q : Int32 → gk_St → Prop} (h : Q (v_sw n a b w) ν) : w_X8_ofRow 101 (v_sn n) (nI w) ν Q := by
  unfold w_X8_ofRow
  rw [if_neg (nI_nm1 (by omega)), rf_101_36, kc (k := w) (by omega)]
  unfold v_sw at h
  unfold v_sn
  by_cases c : n = 3
  · rw [if_pos c] at h ⊢
    rw [if_pos]
    · exact h
    · rcases (show w = 0 ∨ w = 1 by omega) with z | z <;> rw [z] <;> decide
  · rw [if_neg c] at h ⊢
    by_cases d : n ≤ w
    · rw [if_pos d] at h
      rw [if_pos ((nI_leI (by omega) (by omega)).mpr d)]
      exact h
    · rw [if_neg d] at h
      rw [if_neg (fun q => d ((nI_leI (by omega) (by omega)).mp q))]
      refine ⟨vi (n := 2) (by omega) ln_125 (by omega), ?_⟩
      by_cases z : w = 0
      · rw [if_pos z] at h
        rw [z, h1 (by omega)]
        exact h
      · rw [if_neg z] at h
        rw [show w = 1 by omega, h2 (by omega)]
        exact h
theorem rg1 (x : Int32) : x = -1 ∨ (∃ j, j ≤ 1 ∧ x = nI j) ∨ (x < -1 ∨ 1 < x) := by
  rcases rg x 1 (by omega) with h | h | h
  · exact Or.inr (Or.inl h)
  · by_cases c : x < -1
    · exact Or.inr (Or.inr (Or.inl c))
    · refine Or.inl ?_
      have c' := Int32.not_lt.mp c
      apply Int32.toInt_inj.mp
      have h1 := Int32.lt_iff_toInt_lt.mp h
      have h2 := Int32.le_iff_toInt_le.mp c'
      have e0 : (0 : Int32).toInt = 0 := by decide
      have e1 : (-1 : Int32).toInt = -1 := by decide
      omega
  · exact Or.inr (Or.inr (Or.inr h))
theorem k_ok_spare : ok_spare gp_Inv := by
  intro μ x1 ⟨C, hK⟩
  obtain ⟨n, a, b, hP⟩ := gp_isP_ex C
  have hn : n ≤ 3 := by
    rcases gp_isP_c hK.1 hP with h | ⟨h, _⟩ | ⟨h, _⟩ | h <;> omega
  rcases rg1 x1 with rfl | ⟨w, hw, rfl⟩ | hx
  · refine c_spn hP hK (fun ν hK => ?_)
    unfold w_X8_spare
    refine s_in_y (by decide) (by decide) ?_
    rw [if_neg i1n0]
    refine m_sp hP hK (fun ξ hK hR _ _ => ?_)
    unfold w_X8_ofRow
    rw [if_pos rfl]
    exact ⟨rfl, C, hK⟩
  · refine c_spw hP hK (by omega) (fun ν hK => ?_)
    unfold w_X8_spare
    refine s_in_y (show ¬ nI w < -1 from ?_) (show ¬ (1 : Int32) < nI w from ?_) ?_
    · rcases (show w = 0 ∨ w = 1 by omega) with z | z <;> rw [z] <;> decide
    · rcases (show w = 0 ∨ w = 1 by omega) with z | z <;> rw [z] <;> decide
    rw [if_neg i1n0]
    refine m_sp hP hK (fun ξ hK hR h1 h2 => ?_)
    exact m_row hn h1 h2 (by omega) ⟨rfl, C, hK⟩
  · unfold w_X7_spare
    refine s_w_n hx ?_
    rw [if_pos rfl]
    unfold w_X8_spare
    refine s_in_n hx ?_
    rw [if_pos rfl]
    exact ⟨rfl, C, hK⟩
