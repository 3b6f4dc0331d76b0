/-! chance -/
def nL (n : Nat) : Int64 := Int64.ofNat n
theorem nL_i {n : Nat} (h : n < 2 ^ 62) : (nL n).toInt = n := Int64.toInt_ofNat_of_lt (by omega)
theorem nL_eq {a b : Nat} (ha : a < 2 ^ 62) (hb : b < 2 ^ 62) : nL a = nL b ↔ a = b := by
  constructor
  · intro h
    have := congrArg Int64.toInt h
    rw [nL_i ha, nL_i hb] at this
    omega
  · intro h
    rw [h]
theorem nL_ext {x : Int64} {n : Nat} (hn : n < 2 ^ 62) (h : x.toInt = n) : x = nL n := by
  apply Int64.toInt_inj.mp
  rw [h, nL_i hn]
theorem nL_add {a b : Nat} (h : a + b < 2 ^ 62) : nL a + nL b = nL (a + b) := by
  refine nL_ext h ?_
  rw [Int64.toInt_add, nL_i (by omega), nL_i (by omega)]
  rw [Int.bmod_eq_of_le] <;> omega
theorem nL_sub {a b : Nat} (hb : b ≤ a) (h : a < 2 ^ 62) : nL a - nL b = nL (a - b) := by
  refine nL_ext (by omega) ?_
  rw [Int64.toInt_sub, nL_i (by omega), nL_i (by omega)]
  rw [Int.bmod_eq_of_le] <;> omega
theorem nL_mul {a b : Nat} (h : a * b < 2 ^ 62) (ha : a < 2 ^ 62) (hb : b < 2 ^ 62) : nL a * nL b = nL (a * b) := by
  refine nL_ext h ?_
  rw [Int64.toInt_mul, nL_i ha, nL_i hb]
  have : (a : Int) * b = ((a * b : Nat) : Int) := by simp
  rw [this]
  generalize a * b = y at h
  rw [Int.bmod_eq_of_le] <;> omega
theorem nL_div {a b : Nat} (ha : a < 2 ^ 62) (hb : b < 2 ^ 62) : nL a / nL b = nL (a / b) := by
  have hq : a / b ≤ a := Nat.div_le_self a b
  refine nL_ext (by omega) ?_
  rw [Int64.toInt_div, nL_i ha, nL_i hb]
  have : (a : Int).tdiv b = ((a / b : Nat) : Int) := rfl
  rw [this]
  generalize a / b = y at hq
  rw [Int.bmod_eq_of_le] <;> omega
theorem nL_ml {a b : Nat} (ha : a < 2 ^ 62) (hb : b < 2 ^ 62) : gk_ml (nL a) (nL b) = nL (a % b) := by
  have hq : a / b * b ≤ a := Nat.div_mul_le_self a b
  have hq2 : a / b ≤ a := Nat.div_le_self a b
  unfold gk_ml
  rw [nL_div ha hb, nL_mul (by omega) (by omega) hb, nL_sub hq ha]
  have : a - a / b * b = a % b := by
    have := Nat.div_add_mod a b
    rw [Nat.mul_comm] at this
    omega
  rw [this]
theorem lg_z {a : Nat} (ha : a < 2 ^ 62) : (lg_cmp (nL a) 0 = 0) ↔ a = 0 := by
  have e : (0 : Int64) = nL 0 := rfl
  unfold lg_cmp
  rw [e]
  have hgt : nL a > nL 0 ↔ 0 < a := by
    rw [GT.gt, Int64.lt_iff_toInt_lt, nL_i ha, nL_i (by omega)]
    omega
  by_cases c : a = 0
  · rw [if_neg (by rw [hgt]; omega), if_pos (by rw [c])]
    simp [c]
  · rw [if_pos (by rw [hgt]; omega)]
    simp [c]
theorem nL_le {a b : Nat} (ha : a < 2 ^ 62) (hb : b < 2 ^ 62) : nL a ≤ nL b ↔ a ≤ b := by
  rw [Int64.le_iff_toInt_le, nL_i ha, nL_i hb]
  omega
theorem nL_sh : ∀ n, n < 9 → (1 : Int64) <<< ((((4 : Int32) * (Int32.ofNat n)) : Int32).toInt64 &&& 63) = nL (16 ^ n) := by decide +kernel
/-- halving -/
def gq_hv : Nat → Nat → Nat → Nat × Nat
  | 0, a, t => (a, t)
  | n + 1, a, t => if a % 2 = 0 then (if t ≤ 1 then (a, t) else gq_hv n (a / 2) (t / 2)) else (a, t)
theorem gq_hv_eq : ∀ (k n a : Nat), k ≤ n → gq_hv n a (2 ^ k) = (a / Nat.gcd a (2 ^ k), 2 ^ k / Nat.gcd a (2 ^ k)) := by
  intro k
  induction k with
  | zero =>
    intro n a h
    rw [Nat.pow_zero, Nat.gcd_one_right, Nat.div_one, Nat.div_one]
    cases n with
    | zero => rfl
    | succ n =>
      unfold gq_hv
      rw [if_pos (show 1 ≤ 1 from Nat.le_refl 1)]
      split <;> rfl
  | succ k ih =>
    intro n a h
    cases n with
    | zero => omega
    | succ n =>
      unfold gq_hv
      have hp : 0 < 2 ^ k := Nat.pow_pos (by omega)
      have h2 : 2 ^ (k + 1) = 2 * 2 ^ k := by rw [Nat.pow_succ, Nat.mul_comm]
      by_cases c : a % 2 = 0
      · rw [if_pos c, if_neg (by omega)]
        obtain ⟨b, rfl⟩ : ∃ b, a = 2 * b := ⟨a / 2, by omega⟩
        rw [h2, Nat.mul_div_cancel_left _ (by omega), Nat.mul_div_cancel_left _ (by omega), ih n b (by omega), Nat.gcd_mul_left]
        rw [Nat.mul_div_mul_left _ _ (by omega), Nat.mul_div_mul_left _ _ (by omega)]
      · rw [if_neg c]
        have : Nat.gcd a (2 ^ (k + 1)) = 1 := by
          have h1 : Nat.Coprime a 2 := by
            rw [Nat.coprime_comm]
            unfold Nat.Coprime
            rw [Nat.gcd_rec, show a % 2 = 1 by omega]
            rfl
          exact Nat.Coprime.pow_right (k + 1) h1
        rw [this, Nat.div_one, Nat.div_one]
theorem gq_hv_le : ∀ (n a t : Nat), (gq_hv n a t).1 ≤ a ∧ (gq_hv n a t).2 ≤ t := by
  intro n
  induction n with
  | zero => intro a t; exact ⟨Nat.le_refl _, Nat.le_refl _⟩
  | succ n ih =>
    intro a t
    unfold gq_hv
    have := ih (a / 2) (t / 2)
    split
    · split
      · exact ⟨Nat.le_refl _, Nat.le_refl _⟩
      · exact ⟨by omega, by omega⟩
    · exact ⟨Nat.le_refl _, Nat.le_refl _⟩
/-- a weight, a sum -/
def gq_wg (c : Nat) (f : Nat → Bool) : Nat → Nat
  | 0 => 1
  | n + 1 => gq_wg c f n * (if f n = true then c else 16 - c)
theorem gq_wg_le {c : Nat} (hc : c ≤ 16) {f : Nat → Bool} : ∀ n, gq_wg c f n ≤ 16 ^ n
  | 0 => Nat.le_refl 1
  | n + 1 => by
    unfold gq_wg
    rw [Nat.pow_succ]
    exact Nat.mul_le_mul (gq_wg_le hc n) (by split <;> omega)
def gq_sm (g : Nat → Nat) : Nat → Nat
  | 0 => 0
  | n + 1 => gq_sm g n + g n
theorem gq_sm_le {g : Nat → Nat} {B : Nat} : ∀ n, (∀ i, i < n → g i ≤ B) → gq_sm g n ≤ n * B
  | 0, _ => Nat.zero_le _
  | n + 1, h => by
    unfold gq_sm
    rw [Nat.succ_mul]
    exact Nat.add_le_add (gq_sm_le n (fun i hi => h i (by omega))) (h n (by omega))
theorem gq_sm_c {g h : Nat → Nat} : ∀ n, (∀ i, i < n → g i = h i) → gq_sm g n = gq_sm h n
  | 0, _ => rfl
  | n + 1, q => by
    unfold gq_sm
    rw [gq_sm_c n (fun i hi => q i (by omega)), q n (by omega)]
theorem gq_sm_f {g : Nat → Nat} : ∀ n, gq_sm g (n + 1) = g 0 + gq_sm (fun i => g (i + 1)) n
  | 0 => by simp [gq_sm]
  | n + 1 => by
    have h1 : gq_sm g (n + 1 + 1) = gq_sm g (n + 1) + g (n + 1) := rfl
    have h2 : gq_sm (fun i => g (i + 1)) (n + 1) = gq_sm (fun i => g (i + 1)) n + g (n + 1) := rfl
    rw [h1, h2, gq_sm_f n]
    omega
theorem gq_sm_r : ∀ (n : Nat) (g : Nat → Nat), gq_sm g n = gq_sm (fun i => g (n - 1 - i)) n
  | 0, _ => rfl
  | n + 1, g => by
    rw [gq_sm_f (g := fun i => g (n + 1 - 1 - i)) n]
    have h1 : gq_sm g (n + 1) = gq_sm g n + g n := rfl
    rw [h1, gq_sm_r n g]
    have h2 : gq_sm (fun i => g (n - 1 - i)) n = gq_sm (fun i => g (n + 1 - 1 - (i + 1))) n := gq_sm_c n (fun i hi => by
      show g (n - 1 - i) = g (n + 1 - 1 - (i + 1))
      congr 1
      omega)
    rw [h2]
    show _ = g (n + 1 - 1 - 0) + _
    rw [show n + 1 - 1 - 0 = n by omega]
    omega
theorem gq_wg_c {c : Nat} {f g : Nat → Bool} : ∀ n, (∀ i, i < n → f i = g i) → gq_wg c f n = gq_wg c g n
  | 0, _ => rfl
  | n + 1, h => by
    unfold gq_wg
    rw [gq_wg_c n (fun i hi => h i (by omega)), h n (by omega)]
theorem gq_cb {n x i : Nat} (hx : x < 2 ^ n) (hi : i < n) : Nat.testBit (2 ^ n - 1 - x) i = !Nat.testBit x i := by
  have := Nat.testBit_two_pow_sub_succ (x := x) hx i
  rw [show 2 ^ n - (x + 1) = 2 ^ n - 1 - x by omega] at this
  rw [this, decide_eq_true hi, Bool.true_and]
theorem c_Pk_c {C : gp_C} {f g : Nat → Bool} (h : ∀ i, i < c_ne C → f i = g i) : c_Pk C f = c_Pk C g := by
  have h1 : ∀ kd t, gp_gb (c_D C) f kd t (d_ne (c_D C)) = gp_gb (c_D C) g kd t (d_ne (c_D C)) := fun kd t => gp_any_congr (fun i hi => by rw [h i hi])
  have h2 : ∀ t k, gp_jb (c_D C) f t k = gp_jb (c_D C) g t k := fun t k => gp_any_congr (fun i hi => by rw [h i hi])
  unfold c_Pk gp_mk
  rw [show (fun t => gp_gb (c_D C) f 0 t (d_ne (c_D C))) = (fun t => gp_gb (c_D C) g 0 t (d_ne (c_D C))) from funext (h1 0), show (fun t => gp_gb (c_D C) f 1 t (d_ne (c_D C))) = (fun t => gp_gb (c_D C) g 1 t (d_ne (c_D C))) from funext (h1 1), show (fun t k => gp_jb (c_D C) f (t + 1) k) = (fun t k => gp_jb (c_D C) g (t + 1) k) from funext (fun t => funext (fun k => h2 (t + 1) k))]
/-- nobody waits -/
def gq_w (C : gp_C) (t : Nat) (kp : Nat → Bool) (s : Nat) : Nat := a_wt (gp_s (c_Pk C kp) (t + 1)) s
def gq_z (C : gp_C) (t : Nat) (kp : Nat → Bool) : Bool := (gq_w C t kp 0 + gq_w C t kp 1) == 0
def gq_cg (C : gp_C) (c t x : Nat) : Nat := if gq_z C t (Nat.testBit x) = true then gq_wg c (Nat.testBit x) (c_ne C) else 0
def gq_mg (C : gp_C) (c t x : Nat) : Nat := if gq_z C t (fun i => !Nat.testBit x i) = true then gq_wg c (fun i => !Nat.testBit x i) (c_ne C) else 0
theorem gq_mc {C : gp_C} {c t x : Nat} (hx : x < 2 ^ c_ne C) : gq_mg C c t x = gq_cg C c t (2 ^ c_ne C - 1 - x) := by
  have hb : ∀ i, i < c_ne C → Nat.testBit (2 ^ c_ne C - 1 - x) i = !Nat.testBit x i := fun i hi => gq_cb hx hi
  have hp := c_Pk_c (C := C) hb
  have hw := gq_wg_c (c := c) (c_ne C) hb
  unfold gq_mg gq_cg gq_z gq_w
  rw [hp, hw]
def gq_A (C : gp_C) (c t : Nat) : Nat := gq_sm (gq_cg C c t) (2 ^ c_ne C)
theorem gq_Am {C : gp_C} {c t : Nat} : gq_sm (gq_mg C c t) (2 ^ c_ne C) = gq_A C c t := by
  unfold gq_A
  rw [gq_sm_r (2 ^ c_ne C) (gq_cg C c t)]
  exact gq_sm_c _ (fun i hi => gq_mc hi)
theorem gq_wb {C : gp_C} (hC : gp_cw C) {c : Nat} (hc : c ≤ 16) {f : Nat → Bool} {n : Nat} (hn : n ≤ 8) : gq_wg c f n ≤ 2 ^ 32 := Nat.le_trans (gq_wg_le hc n) (Nat.le_trans (Nat.pow_le_pow_right (by omega) hn) (by decide))
theorem gq_p8 {n : Nat} (h : n ≤ 8) : 2 ^ n ≤ 256 ∧ 0 < 2 ^ n := ⟨Nat.le_trans (Nat.pow_le_pow_right (by omega) h) (by decide), Nat.pow_pos (by omega)⟩
theorem gq_Ab {C : gp_C} (hC : gp_cw C) {c t : Nat} (hc : c ≤ 16) {g : Nat → Nat} (hg : ∀ x, g x ≤ 2 ^ 32) {n : Nat} (hn : n ≤ 256) : gq_sm g n ≤ 2 ^ 40 := by
  have := gq_sm_le (g := g) (B := 2 ^ 32) n (fun i _ => hg i)
  have h2 : n * 2 ^ 32 ≤ 256 * 2 ^ 32 := Nat.mul_le_mul_right _ hn
  omega
theorem gq_cgb {C : gp_C} (hC : gp_cw C) {c t : Nat} (hc : c ≤ 16) (x : Nat) : gq_cg C c t x ≤ 2 ^ 32 := by
  unfold gq_cg
  split
  · exact gq_wb hC hc hC.2.1.1
  · omega
theorem gq_mgb {C : gp_C} (hC : gp_cw C) {c t : Nat} (hc : c ≤ 16) (x : Nat) : gq_mg C c t x ≤ 2 ^ 32 := by
  unfold gq_mg
  split
  · exact gq_wb hC hc hC.2.1.1
  · omega
theorem gq_T {n : Nat} (hn : n ≤ 8) : 16 ^ n = 2 ^ (4 * n) ∧ 16 ^ n < 2 ^ 62 ∧ 0 < 16 ^ n := by
  have h1 : 16 ^ n = 2 ^ (4 * n) := by rw [Nat.pow_mul]
  refine ⟨h1, ?_, Nat.pow_pos (by omega)⟩
  rw [h1]
  exact Nat.lt_of_le_of_lt (Nat.pow_le_pow_right (by omega) (show 4 * n ≤ 32 by omega)) (by decide)
def v_chn (C : gp_C) (c t w : Nat) : Int64 := if w = 0 then nL (gq_A C c t / Nat.gcd (gq_A C c t) (16 ^ c_ne C)) else nL (16 ^ c_ne C / Nat.gcd (gq_A C c t) (16 ^ c_ne C))
theorem bt_nI {x i : Nat} (hi : i < 32) : bt (nI x) i = Nat.testBit x i := by
  show (BitVec.ofNat 32 x).getLsbD i = Nat.testBit x i
  rw [BitVec.getLsbD_ofNat, decide_eq_true hi, Bool.true_and]
theorem i_shl : ∀ n, n < 9 → (1 : Int32) <<< (nI n &&& 31) = nI (2 ^ n) := by decide +kernel
theorem i_l : ∀ c, c < 17 → (nI c).toInt64 = nL c := by decide +kernel
theorem i_l16 : ∀ c, c < 17 → ((16 : Int32) - nI c).toInt64 = nL (16 - c) := by decide +kernel
theorem i_sh4 : ∀ n, n < 9 → (1 : Int64) <<< ((((4 : Int32) * nI n) : Int32).toInt64 &&& 63) = nL (16 ^ n) := by decide +kernel
theorem gq_wgs {c : Nat} {f : Nat → Bool} {j : Nat} : gq_wg c f (j + 1) = gq_wg c f j * (if f j = true then c else 16 - c) := rfl
set_option maxHeartbeats 4000000 in
theorem c_shr {C : gp_C} {c x : Nat} (hc : c ≤ 16) {Q : Int64 → gk_St → Prop} {K : Int64 → gk_St → Prop} {μ : gk_St} (hK : gp_K C μ) (h : K (nL (gq_wg c (Nat.testBit x) (c_ne C))) μ) : ∀ i j, j + i = c_ne C → w_X7_sharesOf_l5 Q K 0 (i + 1) (nI x) (nI c) (nL (gq_wg c (Nat.testBit x) j)) (nI j) μ := by
  intro i
  have hn8 : c_ne C ≤ 8 := hK.1.2.1.1
  induction i with
  | zero =>
    intro j hj
    have e : j = c_ne C := by omega
    unfold w_X7_sharesOf_l5
    rw [rf_0_5, hK.2.1.2.1.1, e, if_pos (Int32.le_refl _)]
    exact h
  | succ i ih =>
    intro j hj
    have ihj := ih (j + 1) (by omega)
    rw [gq_wgs] at ihj
    have hb := gq_wb hK.1 hc (f := Nat.testBit x) (n := j) (by omega)
    generalize gq_wg c (Nat.testBit x) j = y at hb ihj ⊢
    unfold w_X7_sharesOf_l5
    rw [rf_0_5, hK.2.1.2.1.1, if_neg (fun q => absurd ((nI_leI (by omega) (by omega)).mp q) (by omega))]
    by_cases d : Nat.testBit x j = true
    · rw [if_pos ((bt_iff (by omega)).mpr (by rw [bt_nI (by omega)]; exact d))]
      rw [if_pos d] at ihj
      unfold w_X7_sharesOf_j38
      intro v1 e1 v2 e2
      have hm : y * c ≤ 2 ^ 32 * 16 := Nat.mul_le_mul hb hc
      rw [e1, e2, nI_1, i_l c (by omega), nL_mul (by omega) (by omega) (by omega)]
      exact ihj
    · rw [if_neg (fun q => d (by rw [bt_iff (by omega), bt_nI (by omega)] at q; exact q))]
      rw [if_neg d] at ihj
      unfold w_X7_sharesOf_j38
      intro v1 e1 v2 e2
      have hm : y * (16 - c) ≤ 2 ^ 32 * 16 := Nat.mul_le_mul hb (by omega)
      rw [e1, e2, nI_1, i_l16 c (by omega), nL_mul (by omega) (by omega) (by omega)]
      exact ihj
theorem s_ckn {P : gp_P} {n : Nat} {μ : gk_St} (hr : gp_rec P 66 n μ) {t : Nat} (ht : t < n) (ht2 : t < 24) {Q : Int32 → gk_St → Prop} (h : Q (nI (a_wt (gp_s P (t + 1)) 0 * 109 + a_wt (gp_s P (t + 1)) 1)) μ) : w_X2_crowdKey 66 (nI t) μ Q := by
  have q2 : μ 82 t = nI (a_wt (gp_s P (t + 1)) 0) := (hr t ht).2.1
  have q3 : μ 83 t = nI (a_wt (gp_s P (t + 1)) 1) := (hr t ht).2.2.1
  have e109 : nI (a_wt (gp_s P (t + 1)) 0) * 109 = nI (a_wt (gp_s P (t + 1)) 0 * 109) := pk_mul _ 109
  unfold w_X2_crowdKey
  rw [rf_66_2, z0c, z1c, rw_81_0, rw_81_1, kc (k := t) (by omega), q2, q3, e109, nI_add]
  exact ⟨vr (k := 0) (n := 2) (by omega) rl_81 (by omega), vi (n := 24) (by omega) ln_82 (by omega), vr (k := 1) (n := 2) (by omega) rl_81 (by omega), vi (n := 24) (by omega) ln_83 (by omega), h⟩
theorem gq_sms {g : Nat → Nat} {j : Nat} : gq_sm g (j + 1) = gq_sm g j + g j := rfl
theorem gq_w8 {C : gp_C} (hC : gp_cw C) {t : Nat} (ht : t < 24) {kp : Nat → Bool} : gq_w C t kp 0 ≤ 108 ∧ gq_w C t kp 1 ≤ 108 := ⟨gp_wt108 (c_Pk_wf hC) ht (by omega), gp_wt108 (c_Pk_wf hC) ht (by omega)⟩
set_option maxHeartbeats 4000000 in
theorem c_shL {C : gp_C} {c t : Nat} (hc : c ≤ 16) (ht : t < 24) {Q : Int64 → gk_St → Prop} {K : Int64 → gk_St → Prop} (h : ∀ ν, gp_K C ν → K (nL (gq_A C c t)) ν) : ∀ (i j : Nat) (μ : gk_St), j + i = 2 ^ c_ne C → gp_S7 C μ → w_X7_sharesWithNobodyWaiting_l9 Q K 0 (i + 1) (nI c) (nI t) (nL (gq_sm (gq_cg C c t) j)) (nI j) μ := by
  intro i
  induction i with
  | zero =>
    intro j μ hj hS
    have hn8 : c_ne C ≤ 8 := hS.1.1.2.1.1
    have e : j = 2 ^ c_ne C := by omega
    subst e
    unfold w_X7_sharesWithNobodyWaiting_l9
    rw [rf_0_5, hS.1.2.1.2.1.1, i_shl _ (by omega), if_pos (Int32.le_refl _)]
    exact h μ hS.1
  | succ i ih =>
    intro j μ hj hS
    have hn8 : c_ne C ≤ 8 := hS.1.1.2.1.1
    obtain ⟨h256, hp0⟩ := gq_p8 hn8
    have ihj := fun ν => ih (j + 1) ν (by omega)
    rw [gq_sms] at ihj
    have hb := gq_Ab hS.1.1 (t := t) hc (gq_cgb hS.1.1 (t := t) hc) (n := j) (by omega)
    have hg := gq_cgb hS.1.1 (t := t) hc j
    have hwb := gq_wb hS.1.1 hc (f := Nat.testBit j) hn8
    have hz : gq_cg C c t j = if gq_z C t (Nat.testBit j) = true then gq_wg c (Nat.testBit j) (c_ne C) else 0 := rfl
    rw [hz] at ihj
    have hs := fun K' => c_shr (C := C) (x := j) hc (Q := K') (K := fun y3 m4 => K' y3 m4) hS.1
    generalize gq_sm (gq_cg C c t) j = y at hb ihj ⊢
    generalize gq_wg c (Nat.testBit j) (c_ne C) = w at hwb ihj hs
    unfold w_X7_sharesWithNobodyWaiting_l9
    rw [rf_0_5, hS.1.2.1.2.1.1, i_shl _ (by omega), if_neg (fun q => absurd ((nI_leI (by omega) (by omega)).mp q) (by omega))]
    unfold w_X7_sharesOf
    refine ⟨c_ne C + 1, ?_⟩
    refine hs _ ?_ (c_ne C) 0 (by omega)
    by_cases w0 : w = 0
    · rw [if_pos ((lg_z (by omega)).mpr w0)]
      intro v e
      rw [e, nI_1]
      rw [w0] at ihj
      have : (if gq_z C t (Nat.testBit j) = true then 0 else 0) = 0 := by split <;> rfl
      rw [this, Nat.add_zero] at ihj
      exact ihj μ hS
    · rw [if_neg (fun q => w0 ((lg_z (by omega)).mp q)), rf_0_11, rf_0_13]
      refine s_te hS.1.1 c_nc6 (kp := Nat.testBit j) (fun i hi => bt_nI (by omega)) hS.1.2.1.2.1 hS.2 (fun ν a b q => ?_)
      have hK2 : gp_K C ν := gp_K_fC (fun d p => q d (by omega) (by omega) (by omega)) hS.1
      refine s_run_66 (c_Pk_wf hS.1.1 (kp := Nat.testBit j)) ht a (fun ξ a2 b2 c2 => ?_)
      have hK3 : gp_K C ξ := gp_K_fC (fun d p => c2 d (by omega)) hK2
      have h02 := gp_pl0_f (fun c p q r => c2 c (by omega)) b
      refine s_ckn b2 (by omega) ht ?_
      obtain ⟨l0, l1⟩ := gq_w8 hS.1.1 ht (kp := Nat.testBit j)
      show (if nI (gq_w C t (Nat.testBit j) 0 * 109 + gq_w C t (Nat.testBit j) 1) = 0 then _ else _)
      have hzz : gq_z C t (Nat.testBit j) = ((gq_w C t (Nat.testBit j) 0 + gq_w C t (Nat.testBit j) 1) == 0) := rfl
      rw [hzz] at ihj
      generalize gq_w C t (Nat.testBit j) 0 = w0 at l0 ihj ⊢
      generalize gq_w C t (Nat.testBit j) 1 = w1 at l1 ihj ⊢
      by_cases z : w0 + w1 = 0
      · rw [if_pos (show nI (w0 * 109 + w1) = 0 by rw [show w0 * 109 + w1 = 0 by omega]; rfl)]
        rw [if_pos (by simpa using z)] at ihj
        intro v9 e9 v10 e10
        rw [e9, e10, nI_1, nL_add (by omega)]
        exact ihj ξ ⟨hK3, h02⟩
      · rw [if_neg (nI_ne0 (by omega) (by omega))]
        rw [if_neg (by simpa using z), Nat.add_zero] at ihj
        intro v8 e8
        rw [e8, nI_1]
        exact ihj ξ ⟨hK3, h02⟩
theorem c_hvL {x3 : Int32} {μ : gk_St} {Q : Int64 → gk_St → Prop} {K : Int32 → Int64 → Int64 → gk_St → Prop} : ∀ (i j a t : Nat), j + i = 32 → a < 2 ^ 62 → t < 2 ^ 62 → K x3 (nL (gq_hv i a t).1) (nL (gq_hv i a t).2) μ → w_X7_chance_l71 Q K (i + 1) x3 (nL a) (nL t) (nI j) μ := by
  intro i
  induction i with
  | zero =>
    intro j a t hj ha ht h
    have e : j = 32 := by omega
    subst e
    unfold w_X7_chance_l71
    rw [if_pos (by decide)]
    exact h
  | succ i ih =>
    intro j a t hj ha ht h
    unfold gq_hv at h
    unfold w_X7_chance_l71
    rw [if_neg (show ¬ (32 : Int32) ≤ nI j from fun q => absurd ((nI_leI (a := 32) (by omega) (by omega)).mp q) (by omega))]
    have e2 : (2 : Int64) = nL 2 := rfl
    have e1 : (1 : Int64) = nL 1 := rfl
    rw [e2, nL_ml ha (by omega), e1]
    by_cases c : a % 2 = 0
    · rw [if_pos ((lg_z (by omega)).mpr c)]
      rw [if_pos c] at h
      by_cases d : t ≤ 1
      · rw [if_pos ((lg_cmp_le _ _).mpr ((nL_le ht (by omega)).mpr d))]
        rw [if_pos d] at h
        exact h
      · rw [if_neg (fun q => d ((nL_le ht (by omega)).mp ((lg_cmp_le _ _).mp q)))]
        rw [if_neg d] at h
        intro v10 e10 v11 e11 v12 e12
        rw [e10, e11, e12, nI_1, nL_div ha (by omega), nL_div ht (by omega)]
        exact ih (j + 1) (a / 2) (t / 2) (by omega) (by omega) (by omega) h
    · rw [if_neg (fun q => c ((lg_z (by omega)).mp q))]
      rw [if_neg c] at h
      exact h
set_option maxHeartbeats 4000000 in
theorem c_chn {C : gp_C} {μ : gk_St} (hK : gp_K C μ) {c t w : Nat} (hc : c ≤ 16) (ht : t < 24) (hw : w < 2) {Q : Int64 → gk_St → Prop} (h : ∀ ν, gp_K C ν → Q (v_chn C c t w) ν) : w_X7_chance 0 (nI c) (nI t) (nI w) μ Q := by
  unfold w_X7_chance
  refine s_wi (m := 16) (by omega) (by omega) ?_
  rw [if_neg i1n0]
  refine s_mom_y ht ?_
  rw [if_neg i1n0]
  refine s_wi (m := 1) (by omega) (by omega) ?_
  rw [if_neg i1n0]
  unfold w_X7_sharesWithNobodyWaiting
  refine s_plan hK (fun ν a b c2 d => ?_)
  refine ⟨2 ^ c_ne C + 1, ?_⟩
  refine c_shL hc ht (fun ξ hK2 => ?_) (2 ^ c_ne C) 0 ν (by omega) ⟨a, c2⟩
  have hn8 : c_ne C ≤ 8 := hK.1.2.1.1
  intro v9 e9
  rw [rf_0_5, hK2.2.1.2.1.1, i_sh4 _ (by omega)] at e9
  rw [e9]
  obtain ⟨T1, T2, T3⟩ := gq_T hn8
  have hA : gq_A C c t ≤ 2 ^ 40 := gq_Ab hK.1 (t := t) hc (gq_cgb hK.1 (t := t) hc) (gq_p8 hn8).1
  have hh := h ξ hK2
  unfold v_chn at hh
  have hv := gq_hv_eq (4 * c_ne C) 32 (gq_A C c t) (by omega)
  rw [← T1] at hv
  generalize gq_A C c t = A at hA hh hv ⊢
  generalize 16 ^ c_ne C = T at T2 T3 hh hv ⊢
  by_cases z : A = 0
  · rw [if_pos ((lg_z (by omega)).mpr z)]
    rw [z, Nat.gcd_zero_left, Nat.zero_div, Nat.div_self T3] at hh
    refine gp_c2 hw (fun y => ?_) (fun y => ?_)
    · subst y
      exact hh
    · subst y
      exact hh
  · rw [if_neg (fun q => z ((lg_z (by omega)).mp q))]
    refine ⟨33, ?_⟩
    refine c_hvL 32 0 A T (by omega) (by omega) T2 ?_
    rw [hv]
    unfold w_X7_chance_j118
    refine gp_c2 hw (fun y => ?_) (fun y => ?_)
    · subst y
      exact hh
    · subst y
      exact hh
set_option maxHeartbeats 4000000 in
theorem m_shr {C : gp_C} {c x : Nat} {x2 x3 : Int32} {x4 : Int64} (hc : c ≤ 16) {Q : Int64 → gk_St → Prop} {K : Int32 → Int32 → Int32 → Int64 → Int32 → Int64 → gk_St → Prop} {μ : gk_St} (hK : gp_K C μ) (h : K (nI c) x2 x3 x4 (nI x) (nL (gq_wg c (fun i => !Nat.testBit x i) (c_ne C))) μ) : ∀ i j, j + i = c_ne C → w_X8_chanceOf_l27 Q K 101 (i + 1) (nI c) x2 x3 x4 (nI x) (nL (gq_wg c (fun i => !Nat.testBit x i) j)) (nI j) μ := by
  intro i
  have hn8 : c_ne C ≤ 8 := hK.1.2.1.1
  induction i with
  | zero =>
    intro j hj
    have e : j = c_ne C := by omega
    unfold w_X8_chanceOf_l27
    rw [hK.2.2.2.1.1, e, if_pos (Int32.le_refl _)]
    exact h
  | succ i ih =>
    intro j hj
    have ihj := ih (j + 1) (by omega)
    rw [gq_wgs] at ihj
    have hb := gq_wb hK.1 hc (f := fun i => !Nat.testBit x i) (n := j) (by omega)
    generalize gq_wg c (fun i => !Nat.testBit x i) j = y at hb ihj ⊢
    unfold w_X8_chanceOf_l27
    rw [hK.2.2.2.1.1, if_neg (fun q => absurd ((nI_leI (by omega) (by omega)).mp q) (by omega))]
    cases d : Nat.testBit x j with
    | false =>
      refine isIn_n (by omega) (by rw [bt_nI (by omega)]; exact d) ?_
      rw [if_pos rfl]
      rw [d, if_pos (show (!false) = true from rfl)] at ihj
      unfold w_X8_chanceOf_j58
      intro v1 e1 v2 e2
      have hm : y * c ≤ 2 ^ 32 * 16 := Nat.mul_le_mul hb hc
      rw [e1, e2, nI_1, i_l c (by omega), nL_mul (by omega) (by omega) (by omega)]
      exact ihj
    | true =>
      refine isIn_y (by omega) (by rw [bt_nI (by omega)]; exact d) ?_
      rw [if_neg i1n0]
      rw [d, if_neg (show ¬ (!true) = true by decide)] at ihj
      unfold w_X8_chanceOf_j58
      intro v1 e1 v2 e2
      have hm : y * (16 - c) ≤ 2 ^ 32 * 16 := Nat.mul_le_mul hb (by omega)
      rw [e1, e2, nI_1, i_l16 c (by omega), nL_mul (by omega) (by omega) (by omega)]
      exact ihj
set_option maxHeartbeats 4000000 in
theorem m_cnL {C : gp_C} {c t : Nat} {x3 : Int32} (hc : c ≤ 16) (ht : t < 24) {Q : Int64 → gk_St → Prop} {K : Int32 → Int64 → gk_St → Prop} (h : ∀ ν, gp_S8 C ν → K x3 (nL (gq_A C c t)) ν) : ∀ (i j : Nat) (μ : gk_St), j + i = 2 ^ c_ne C → gp_S8 C μ → w_X8_chanceOf_l10 Q K 101 (i + 1) (nI c) (nI t) x3 (nL (gq_sm (gq_mg C c t) j)) (nI j) μ := by
  intro i
  induction i with
  | zero =>
    intro j μ hj hS
    have hn8 : c_ne C ≤ 8 := hS.1.1.2.1.1
    have e : j = 2 ^ c_ne C := by omega
    subst e
    unfold w_X8_chanceOf_l10
    rw [hS.1.2.2.2.1.1, i_shl _ (by omega), if_pos (Int32.le_refl _), gq_Am]
    exact h μ hS
  | succ i ih =>
    intro j μ hj hS
    have hn8 : c_ne C ≤ 8 := hS.1.1.2.1.1
    obtain ⟨h256, hp0⟩ := gq_p8 hn8
    have ihj := fun ν => ih (j + 1) ν (by omega)
    rw [gq_sms] at ihj
    have hb := gq_Ab hS.1.1 (t := t) hc (gq_mgb hS.1.1 (t := t) hc) (n := j) (by omega)
    have hwb := gq_wb hS.1.1 hc (f := fun i => !Nat.testBit j i) hn8
    have hz : gq_mg C c t j = if gq_z C t (fun i => !Nat.testBit j i) = true then gq_wg c (fun i => !Nat.testBit j i) (c_ne C) else 0 := rfl
    rw [hz] at ihj
    generalize gq_sm (gq_mg C c t) j = y at hb ihj ⊢
    unfold w_X8_chanceOf_l10
    rw [hS.1.2.2.2.1.1, i_shl _ (by omega), if_neg (fun q => absurd ((nI_leI (by omega) (by omega)).mp q) (by omega))]
    refine ⟨c_ne C + 1, ?_⟩
    refine m_shr (C := C) (x := j) hc hS.1 ?_ (c_ne C) 0 (by omega)
    generalize gq_wg c (fun i => !Nat.testBit j i) (c_ne C) = w at hwb ihj ⊢
    by_cases w0 : w = 0
    · rw [if_pos (by rw [w0]; decide)]
      intro v e
      rw [e, nI_1]
      rw [w0] at ihj
      have : (if gq_z C t (fun i => !Nat.testBit j i) = true then 0 else 0) = 0 := by split <;> rfl
      rw [this, Nat.add_zero] at ihj
      exact ihj μ hS
    · rw [if_neg (fun q => w0 (by
        have := (nL_le (b := 0) (by omega) (by omega)).mp ((lg_cmp_le _ _).mp q)
        omega))]
      intro m14 e14
      obtain ⟨hK, hR, kp, hm⟩ := hS
      have h1 := mu_kp (kp' := fun i => !Nat.testBit j i) hm e14 (fun i hi => by
        have hi' : i < c_ne C := hi
        rw [Bool.not_not, bt_nI (by omega)])
      have F1 : gp_f5 μ m14 := by rw [e14]; exact gp_f5_17
      refine m_run (c_dw hK.1) (c_Pk_wf hK.1 (kp := fun i => !Nat.testBit j i)) h1 (fun ν a b q => ?_)
      have F2 := gp_f5_tr F1 (gp_f3_f5 q)
      have hS2 : gp_S8 C ν := ⟨gp_K_fM (gp_f5_fM F2) hK, gp_rd_f5 F2 hR, _, b⟩
      have q0 : ν 120 (2 * t) = nI (gq_w C t (fun i => !Nat.testBit j i) 0) := (a.2.2 t ht).1
      have q1 : ν 120 (2 * t + 1) = nI (gq_w C t (fun i => !Nat.testBit j i) 1) := (a.2.2 t ht).2.1
      rw [rf_101_31, e2c, nI_1, kc (k := 2 * t) (by omega), kc (k := 2 * t + 1) (by omega), q0, q1, nI_add]
      refine ⟨vi (n := 48) (by omega) ln_120 (by omega), vi (n := 48) (by omega) ln_120 (by omega), ?_⟩
      obtain ⟨l0, l1⟩ := gq_w8 hK.1 ht (kp := fun i => !Nat.testBit j i)
      have hzz : gq_z C t (fun i => !Nat.testBit j i) = ((gq_w C t (fun i => !Nat.testBit j i) 0 + gq_w C t (fun i => !Nat.testBit j i) 1) == 0) := rfl
      rw [hzz] at ihj
      unfold w_X8_chanceOf_j114
      clear q0 q1 hzz
      generalize gq_w C t (fun i => !Nat.testBit j i) 0 = w0 at l0 ihj ⊢
      generalize gq_w C t (fun i => !Nat.testBit j i) 1 = w1 at l1 ihj ⊢
      by_cases z : w0 + w1 = 0
      · rw [if_pos (show nI (w0 + w1) = 0 by rw [z]; rfl)]
        rw [if_pos (by simpa using z)] at ihj
        intro v9 e9 v10 e10
        rw [e9, e10, nI_1, nL_add (by omega)]
        exact ihj ν hS2
      · rw [if_neg (nI_ne0 (by omega) (by omega))]
        rw [if_neg (by simpa using z), Nat.add_zero] at ihj
        intro v8 e8 v9 e9
        rw [e8, e9, nI_1, Int64.add_zero]
        exact ihj ν hS2
theorem m_gcd {x0 x2 : Int64} {x4 : Int32} {μ : gk_St} {Q : Int64 → gk_St → Prop} {K : Int64 → Int64 → Int32 → Int64 → gk_St → Prop} : ∀ (N b a : Nat), b < N → a < 2 ^ 62 → b < 2 ^ 62 → K x0 x2 x4 (nL (Nat.gcd a b)) μ → ∃ n, w_X8_lowest_l6 Q K n x0 x2 x4 (nL a) (nL b) μ := by
  intro N
  induction N with
  | zero =>
    intro b a h
    omega
  | succ N ih =>
    intro b a h ha hb hk
    by_cases z : b = 0
    · refine ⟨1, ?_⟩
      unfold w_X8_lowest_l6
      rw [if_pos ((lg_z hb).mpr z)]
      rw [z, Nat.gcd_zero_right] at hk
      exact hk
    · have hm : a % b < b := Nat.mod_lt _ (by omega)
      rw [Nat.gcd_comm, Nat.gcd_rec, Nat.gcd_comm] at hk
      obtain ⟨n, hn⟩ := ih (a % b) b (by omega) hb (by omega) hk
      refine ⟨n + 1, ?_⟩
      unfold w_X8_lowest_l6
      rw [if_neg (fun q => z ((lg_z hb).mp q))]
      refine ⟨fun q => z ((nL_eq (b := 0) hb (by omega)).mp q), ?_⟩
      intro v1 e1
      rw [e1, nL_ml ha hb]
      exact hn
set_option maxHeartbeats 4000000 in
theorem m_chn {C : gp_C} {μ : gk_St} (hK : gp_K C μ) {c t w : Nat} (hc : c ≤ 16) (ht : t < 24) (hw : w < 2) {Q : Int64 → gk_St → Prop} (h : ∀ ν, gp_K C ν → gp_rd (c_tn C) (c_tb C) ν → Q (v_chn C c t w) ν) : w_X8_chanceOf 101 (nI c) (nI t) (nI w) μ Q := by
  unfold w_X8_chanceOf
  refine s_mastC hK (fun ν a b c2 d e => ?_)
  refine ⟨2 ^ c_ne C + 1, ?_⟩
  refine m_cnL hc ht (fun ξ hS => ?_) (2 ^ c_ne C) 0 ν (by omega) ⟨a, b, _, c2⟩
  have hn8 : c_ne C ≤ 8 := hK.1.2.1.1
  obtain ⟨T1, T2, T3⟩ := gq_T hn8
  have hA : gq_A C c t ≤ 2 ^ 40 := gq_Ab hK.1 (t := t) hc (gq_cgb hK.1 (t := t) hc) (gq_p8 hn8).1
  have hh := h ξ hS.1 hS.2.1
  unfold v_chn at hh
  rw [hS.1.2.2.2.1.1, i_sh4 _ (by omega)]
  generalize gq_A C c t = A at hA hh ⊢
  generalize 16 ^ c_ne C = T at T2 T3 hh ⊢
  unfold w_X8_lowest
  have hg : Nat.gcd A T ≤ T := Nat.gcd_le_right _ T3
  have hg0 : 0 < Nat.gcd A T := Nat.gcd_pos_of_pos_right _ T3
  refine m_gcd (T + 1) T A (by omega) (by omega) T2 ?_
  have hne : ¬ nL (Nat.gcd A T) = 0 := fun q => absurd ((nL_eq (b := 0) (by omega) (by omega)).mp q) (by omega)
  dsimp only
  rw [nL_div (by omega) (by omega), nL_div T2 (by omega)]
  refine gp_c2 hw (fun y => ?_) (fun y => ?_)
  · subst y
    exact ⟨hne, hh⟩
  · subst y
    exact ⟨hne, hh⟩
theorem m_no2 {μ : gk_St} {Q : Int64 → gk_St → Prop} (h : Q (-9223372036854775806) μ) : w_X8_chance_j34 Q μ := by
  unfold w_X8_chance_j34 w_X8_no
  exact h
set_option maxHeartbeats 4000000 in
theorem k_ok_chance : ok_chance gp_Inv := by
  intro μ x1 x2 x3 ⟨C, hK⟩
  rcases rg x1 16 (by omega) with ⟨a0, h0, rfl⟩ | b0
  · rcases rg x2 23 (by omega) with ⟨a1, h1, rfl⟩ | b1
    · rcases rg x3 1 (by omega) with ⟨a2, h2, rfl⟩ | b2
      · refine c_chn hK (by omega) (by omega) (by omega) (fun ν hK => ?_)
        unfold w_X8_chance
        refine s_ii (m := 16) (by omega) h0 ?_
        rw [if_neg i1n0]
        refine m_mom_y (by omega) ?_
        rw [if_neg i1n0]
        refine m_two_y (by omega) ?_
        rw [if_neg i1n0]
        exact m_chn hK (by omega) (by omega) (by omega) (fun ν hK hR => ⟨rfl, C, hK⟩)
      · unfold w_X7_chance
        refine s_wi (m := 16) (by omega) h0 ?_
        rw [if_neg i1n0]
        refine s_mom_y (by omega) ?_
        rw [if_neg i1n0]
        refine s_w_n b2 ?_
        rw [if_pos rfl]
        unfold w_X8_chance
        refine s_ii (m := 16) (by omega) h0 ?_
        rw [if_neg i1n0]
        refine m_mom_y (by omega) ?_
        rw [if_neg i1n0]
        refine m_two_n b2 ?_
        rw [if_pos rfl]
        exact m_no2 ⟨rfl, C, hK⟩
    · unfold w_X7_chance
      refine s_wi (m := 16) (by omega) h0 ?_
      rw [if_neg i1n0]
      refine s_mom_n b1 ?_
      rw [if_pos rfl]
      unfold w_X8_chance
      refine s_ii (m := 16) (by omega) h0 ?_
      rw [if_neg i1n0]
      refine m_mom_n b1 ?_
      rw [if_pos rfl]
      exact m_no2 ⟨rfl, C, hK⟩
  · unfold w_X7_chance
    refine s_w_n b0 ?_
    rw [if_pos rfl]
    unfold w_X8_chance
    refine s_in_n b0 ?_
    rw [if_pos rfl]
    exact m_no2 ⟨rfl, C, hK⟩
