def bt (x : Int32) (i : Nat) : Bool := x.toBitVec.getLsbD i
theorem b_ext {x y : Int32} (h : ∀ i, i < 32 → bt x i = bt y i) : x = y := Int32.toBitVec_inj.mp (BitVec.eq_of_getLsbD_eq (fun i hi => h i hi))
theorem b_or (x y : Int32) (i : Nat) : bt (x ||| y) i = (bt x i || bt y i) := by unfold bt; rw [Int32.toBitVec_or, BitVec.getLsbD_or]
theorem b_and (x y : Int32) (i : Nat) : bt (x &&& y) i = (bt x i && bt y i) := by unfold bt; rw [Int32.toBitVec_and, BitVec.getLsbD_and]
theorem b_xor (x y : Int32) (i : Nat) : bt (x ^^^ y) i = (bt x i ^^ bt y i) := by unfold bt; rw [Int32.toBitVec_xor, BitVec.getLsbD_xor]
theorem b_big {x : Int32} {i : Nat} (h : 32 ≤ i) : bt x i = false := BitVec.getLsbD_of_ge _ _ h
theorem b_255 (i : Nat) : bt 255 i = decide (i < 8) := by
  rcases Nat.lt_or_ge i 32 with h | h
  · exact (by decide +kernel : ∀ i, i < 32 → bt 255 i = decide (i < 8)) i h
  · rw [b_big h, decide_eq_false (by omega)]
theorem b_65535 (i : Nat) : bt 65535 i = decide (i < 16) := by
  rcases Nat.lt_or_ge i 32 with h | h
  · exact (by decide +kernel : ∀ i, i < 32 → bt 65535 i = decide (i < 16)) i h
  · rw [b_big h, decide_eq_false (by omega)]
theorem b_m1 : ∀ i, i < 32 → bt (-1) i = true := by decide +kernel
theorem b_0 (i : Nat) : bt 0 i = false := BitVec.getLsbD_zero
theorem s_l : ∀ n, n < 32 → ((nI n &&& 31).toBitVec.smod 32).toNat = n := by decide +kernel
theorem s_u : ∀ n, n < 32 → (((nI n).toUInt32 &&& Int32.toUInt32 31).toBitVec % 32).toNat = n := by decide +kernel
theorem b_shl (n : Nat) (hn : n < 32) (x : Int32) {i : Nat} (hi : i < 32) : bt (x <<< (nI n &&& 31)) i = (decide (n ≤ i) && bt x (i - n)) := by
  unfold bt
  rw [Int32.toBitVec_shiftLeft]
  show (x.toBitVec <<< ((nI n &&& 31).toBitVec.smod 32).toNat).getLsbD i = _
  rw [s_l n hn, BitVec.getLsbD_shiftLeft]
  rcases Nat.lt_or_ge i n with h | h
  · simp [h, Nat.not_le.mpr h]
  · simp [hi, h, Nat.not_lt.mpr h]
theorem b_ushr (n : Nat) (hn : n < 32) (x : Int32) (i : Nat) : bt ((x.toUInt32 >>> ((nI n).toUInt32 &&& Int32.toUInt32 31)).toInt32) i = bt x (n + i) := by
  show (x.toUInt32 >>> ((nI n).toUInt32 &&& Int32.toUInt32 31)).toBitVec.getLsbD i = x.toUInt32.toBitVec.getLsbD (n + i)
  rw [UInt32.toBitVec_shiftRight]
  show (x.toUInt32.toBitVec >>> (((nI n).toUInt32 &&& Int32.toUInt32 31).toBitVec % 32).toNat).getLsbD i = _
  rw [s_u n hn, BitVec.getLsbD_ushiftRight]
theorem b_sshr (n : Nat) (hn : n < 32) (x : Int32) {i : Nat} (hi : i < 32) : bt (x >>> (nI n &&& 31)) i = if n + i < 32 then bt x (n + i) else bt x 31 := by
  unfold bt
  rw [Int32.toBitVec_shiftRight]
  show (x.toBitVec.sshiftRight ((nI n &&& 31).toBitVec.smod 32).toNat).getLsbD i = _
  rw [s_l n hn, BitVec.getLsbD_sshiftRight, BitVec.msb_eq_getLsbD_last]
  simp [hi]
theorem bt1 : ∀ i, i < 32 → bt 1 i = decide (i = 0) := by decide +kernel
theorem bt_iff {x : Int32} {k : Nat} (hk : k < 32) : ((x >>> (nI k &&& 31)) &&& 1) = 1 ↔ bt x k = true := by
  have e0 : bt (x >>> (nI k &&& 31)) 0 = bt x k := by
    rw [b_sshr k hk x (by omega)]
    simp [hk]
  constructor
  · intro h
    have h1 : bt ((x >>> (nI k &&& 31)) &&& 1) 0 = bt 1 0 := by rw [h]
    rw [b_and, e0, bt1 0 (by omega)] at h1
    simpa using h1
  · intro h
    apply b_ext
    intro i hi
    rw [b_and, bt1 i hi]
    by_cases e : i = 0
    · subst e
      rw [e0, h]
      rfl
    · simp [e]
theorem bt_one {e k : Nat} (he : e < 32) (hk : k < 32) : bt ((1 : Int32) <<< (nI e &&& 31)) k = decide (k = e) := by
  rw [b_shl e he 1 hk]
  by_cases h : e ≤ k
  · rw [bt1 (k - e) (by omega)]
    by_cases q : k = e
    · subst q
      simp
    · simp [h, q]
      omega
  · have : ¬ k = e := by omega
    simp [h, this]
def gp_any (f : Nat → Bool) : Nat → Bool
  | 0 => false
  | n + 1 => gp_any f n || f n
theorem gp_any_iff {f : Nat → Bool} : ∀ {n : Nat}, gp_any f n = true ↔ ∃ i, i < n ∧ f i = true
  | 0 => ⟨(fun h => by cases h), fun ⟨i, hi, _⟩ => absurd hi (Nat.not_lt_zero i)⟩
  | n + 1 => by
    show (gp_any f n || f n) = true ↔ _
    rw [Bool.or_eq_true, gp_any_iff]
    constructor
    · rintro (⟨i, hi, hf⟩ | hf)
      · exact ⟨i, by omega, hf⟩
      · exact ⟨n, by omega, hf⟩
    · rintro ⟨i, hi, hf⟩
      by_cases e : i = n
      · subst e
        exact Or.inr hf
      · exact Or.inl ⟨i, by omega, hf⟩
/-- what is told of comings and events: how many comings, when, where, how many; how many events, kind, moment, number -/
abbrev gp_D : Type := Nat × (Nat → Nat) × (Nat → Nat) × (Nat → Nat) × Nat × (Nat → Nat) × (Nat → Nat) × (Nat → Nat)
def d_nm (D : gp_D) : Nat := D.1
def d_ca (D : gp_D) : Nat → Nat := D.2.1
def d_ct (D : gp_D) : Nat → Nat := D.2.2.1
def d_cm (D : gp_D) : Nat → Nat := D.2.2.2.1
def d_ne (D : gp_D) : Nat := D.2.2.2.2.1
def d_ek (D : gp_D) : Nat → Nat := D.2.2.2.2.2.1
def d_ea (D : gp_D) : Nat → Nat := D.2.2.2.2.2.2.1
def d_en (D : gp_D) : Nat → Nat := D.2.2.2.2.2.2.2
def gp_dw (D : gp_D) : Prop := d_nm D ≤ 12 ∧ (∀ i, i < d_nm D → d_ca D i < 24 ∧ d_ct D i < 2 ∧ d_cm D i ≤ 9) ∧ d_ne D ≤ 8 ∧ ∀ i, i < d_ne D → d_ek D i < 3 ∧ d_ea D i < 24 ∧ d_en D i < 6
def gp_jb (D : gp_D) (kp : Nat → Bool) (t k : Nat) : Bool := gp_any (fun i => kp i && d_ek D i == 2 && d_en D i == k && decide (d_ea D i < t)) (d_ne D)
def gp_gb (D : gp_D) (kp : Nat → Bool) (kd t n : Nat) : Bool := gp_any (fun i => kp i && d_ek D i == kd && d_ea D i == t) n
def gp_mk (nc : Nat) (pl so ro : Nat → Nat) (D : gp_D) (pc : Nat → Nat) (kp : Nat → Bool) : gp_P := (nc, pl, so, ro, fun s t => gp_sum (fun i => if d_ct D i = s ∧ d_ca D i = t then d_cm D i else 0) (d_nm D), pc, fun t => gp_gb D kp 0 t (d_ne D), fun t => gp_gb D kp 1 t (d_ne D), fun t k => gp_jb D kp (t + 1) k)
theorem gp_sum_add {f g : Nat → Nat} : ∀ n, gp_sum (fun i => f i + g i) n = gp_sum f n + gp_sum g n
  | 0 => rfl
  | n + 1 => by
    show gp_sum (fun i => f i + g i) n + (f n + g n) = gp_sum f n + f n + (gp_sum g n + g n)
    rw [gp_sum_add n]
    omega
theorem gp_sum_congr {f g : Nat → Nat} : ∀ {n : Nat}, (∀ i, i < n → f i = g i) → gp_sum f n = gp_sum g n
  | 0, _ => rfl
  | n + 1, h => by
    show gp_sum f n + f n = gp_sum g n + g n
    rw [gp_sum_congr (fun i hi => h i (by omega)), h n (by omega)]
theorem gp_come_mk {nc : Nat} {pl so ro : Nat → Nat} {D : gp_D} {pc : Nat → Nat} {kp : Nat → Bool} (hD : gp_dw D) : ∀ t, gp_come (gp_mk nc pl so ro D pc kp) t = gp_sum (fun i => if d_ca D i < t then d_cm D i else 0) (d_nm D)
  | 0 => by
    have : ∀ n, gp_sum (fun i => if d_ca D i < 0 then d_cm D i else 0) n = 0 := by
      intro n
      induction n with
      | zero => rfl
      | succ n ih =>
        show gp_sum _ n + (if d_ca D n < 0 then d_cm D n else 0) = 0
        rw [ih, if_neg (Nat.not_lt_zero _)]
    rw [this]
    rfl
  | t + 1 => by
    show gp_come (gp_mk nc pl so ro D pc kp) t + gp_sum (fun i => if d_ct D i = 0 ∧ d_ca D i = t then d_cm D i else 0) (d_nm D) + gp_sum (fun i => if d_ct D i = 1 ∧ d_ca D i = t then d_cm D i else 0) (d_nm D) = _
    rw [gp_come_mk hD t, ← gp_sum_add, ← gp_sum_add]
    refine gp_sum_congr (fun i hi => ?_)
    have h2 := (hD.2.1 i hi).2.1
    rcases (show d_ct D i = 0 ∨ d_ct D i = 1 by omega) with q | q
    · rw [q]
      by_cases a : d_ca D i = t
      · simp [a]
      · by_cases b : d_ca D i < t
        · have : d_ca D i < t + 1 := by omega
          simp [a, b, this]
        · have : ¬ d_ca D i < t + 1 := by omega
          simp [a, b, this]
    · rw [q]
      by_cases a : d_ca D i = t
      · simp [a]
      · by_cases b : d_ca D i < t
        · have : d_ca D i < t + 1 := by omega
          simp [a, b, this]
        · have : ¬ d_ca D i < t + 1 := by omega
          simp [a, b, this]
theorem gp_sum_bd {f : Nat → Nat} {b : Nat} : ∀ {n : Nat}, (∀ i, i < n → f i ≤ b) → gp_sum f n ≤ n * b
  | 0, _ => Nat.zero_le _
  | n + 1, h => by
    show gp_sum f n + f n ≤ (n + 1) * b
    have h1 := gp_sum_bd (fun i hi => h i (by omega)) (n := n)
    have h2 := h n (by omega)
    rw [Nat.add_mul]
    omega
theorem gp_come_all {nc : Nat} {pl so ro : Nat → Nat} {D : gp_D} {pc : Nat → Nat} {kp : Nat → Bool} (hD : gp_dw D) : gp_come (gp_mk nc pl so ro D pc kp) 24 = gp_sum (d_cm D) (d_nm D) := by
  rw [gp_come_mk hD]
  refine gp_sum_congr (fun i hi => ?_)
  rw [if_pos (hD.2.1 i hi).1]
theorem gp_wf_mk {nc : Nat} {pl so ro : Nat → Nat} {D : gp_D} {pc : Nat → Nat} {kp : Nat → Bool} (hD : gp_dw D) (hn : nc ≤ 6) (hc : ∀ k, k < nc → pl k < 24 ∧ so k < 3 ∧ ro k ≤ 9) (hs : ∀ t, t < 24 → pc t ≤ 3) : gp_wf (gp_mk nc pl so ro D pc kp) := by
  refine ⟨hn, hc, hs, ?_⟩
  rw [gp_come_all hD]
  have h1 := gp_sum_bd (f := d_cm D) (b := 9) (n := d_nm D) (fun i hi => (hD.2.1 i hi).2.2)
  have h2 := hD.1
  omega
