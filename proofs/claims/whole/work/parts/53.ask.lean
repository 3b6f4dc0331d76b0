theorem gp_ifle {a b : Nat} (ha : a < 1000) (hb : b < 1000) {A B : Prop} (h1 : a ≤ b → A) (h2 : ¬ a ≤ b → B) : (if nI a ≤ nI b then A else B) := by
  by_cases c : a ≤ b
  · rw [if_pos ((nI_leI (by omega) (by omega)).mpr c)]
    exact h1 c
  · rw [if_neg (fun q => c ((nI_leI (by omega) (by omega)).mp q))]
    exact h2 c
theorem c_al2 {C : gp_C} (hC : gp_cw C) {k t : Nat} (ht : t < 24) {μ : gk_St} (hb : gp_cb C k 10 μ) {Q : Int32 → gk_St → Prop} (h : ∀ y : Nat, y = gp_am C k t 9 → y ≤ 9 → Q (nI y) μ) : w_X7_mostAlike 0 (nI t) μ Q := c_al hC ht hb (h _ rfl gp_am_le)
set_option maxHeartbeats 4000000 in
theorem c_a27 {C : gp_C} (hC : gp_cw C) {k : Nat} {μ : gk_St} (hb : gp_cb C k 10 μ) {Q : Int32 → gk_St → Prop} {K : Int32 → gk_St → Prop} {N : Nat} (hN : N = 23) (h : K (nI (gp_aq C k N).1) μ) : ∀ (i j : Nat), j + i = N → w_X7_ask_l27 Q K 0 (i + 1) (nI (gp_aq C k j).1) (nI (gp_aq C k j).2) (nI (j + 1)) μ := by
  intro i
  induction i with
  | zero =>
    intro j hj
    have e : j = N := by omega
    unfold w_X7_ask_l27
    rw [if_pos (show (24 : Int32) ≤ nI (j + 1) from (nI_leI (a := 24) (by omega) (by omega)).mpr (by omega)), e]
    exact h
  | succ i ih =>
    intro j hj
    have hlt : j + 1 < 24 := by omega
    have ihj := ih (j + 1) (by omega)
    have h1 := (gp_as_le (f := fun t => gp_am C k t 9) (b := 9) (fun _ => gp_am_le) j).1
    have es := gp_aq_s (C := C) (k := k) (j := j)
    unfold w_X7_ask_l27
    rw [if_neg (show ¬ (24 : Int32) ≤ nI (j + 1) from fun q => absurd ((nI_leI (a := 24) (by omega) (by omega)).mp q) (by omega))]
    refine c_al2 hC hlt hb (fun y hy hy9 => ?_)
    rw [← hy] at es
    have h1' : (gp_aq C k j).2 ≤ 9 := h1
    clear hy h1
    rw [es] at ihj
    refine gp_ifle (Nat.lt_of_le_of_lt h1' (by decide)) (Nat.lt_of_le_of_lt hy9 (by decide)) (fun c => ?_) (fun c => ?_)
    · rw [if_pos c] at ihj
      intro v e
      rw [e, nI_1]
      exact ihj
    · rw [if_neg c] at ihj
      intro v e
      rw [e, nI_1]
      exact ihj
theorem c_ask {C : gp_C} {μ : gk_St} (hK : gp_K C μ) {k : Nat} (hk : k < c_nc C) {Q : Int32 → gk_St → Prop} (h : ∀ ν, gp_K C ν → Q (v_as C k) ν) : w_X7_ask 0 (nI k) μ Q := by
  unfold w_X7_ask
  refine s_car_y hK.2.1.1 hk ?_
  rw [if_neg i1n0]
  unfold w_X7_noteCrowdsByRoom
  refine s_plan hK (fun ν a b c d => ?_)
  refine ⟨9 + 1, ?_⟩
  have e1 : gp_pla (c_Pr C k (c_ro C k)) ν := by
    unfold c_Pr
    rw [gp_u_id rfl]
    exact b
  refine c_n6 hk 9 1 ν (by omega) (by omega) a ⟨c_ro C k, e1⟩ (fun u u1 u2 => absurd u1 (by omega)) (fun ξ a2 b2 => ?_)
  refine c_al2 hK.1 (t := 0) (by omega) b2 (fun y hy hy9 => ?_)
  refine ⟨23 + 1, ?_⟩
  have hv := h ξ a2
  unfold v_as at hv
  have L := c_a27 hK.1 b2 (Q := Q) (K := fun y10 m11 => Q y10 m11) (N := 23) rfl hv 23 0 rfl
  have e0 : gp_aq C k 0 = (0, y) := by rw [hy]; rfl
  rw [e0] at L
  dsimp only at L
  rw [nI_0] at L
  exact L
theorem isIn_y {B : Int32} {a : Nat} (ha : a < 32) (hb : bt B a = true) {μ : gk_St} {Q : Int32 → gk_St → Prop} (h : Q 1 μ) : w_X8_isIn B (nI a) μ Q := by
  unfold w_X8_isIn
  rw [if_pos ((bt_iff ha).mpr hb)]
  exact h
theorem isIn_n {B : Int32} {a : Nat} (ha : a < 32) (hb : bt B a = false) {μ : gk_St} {Q : Int32 → gk_St → Prop} (h : Q 0 μ) : w_X8_isIn B (nI a) μ Q := by
  unfold w_X8_isIn
  rw [if_neg (fun q => by rw [(bt_iff ha).mp q] at hb; cases hb)]
  exact h
theorem gp_key2 {a b c d : Nat} (hb : b ≤ 108) (hd : d ≤ 108) : 128 * a + b = 128 * c + d ↔ a = c ∧ b = d := by omega
def gp_mB (C : gp_C) (k : Nat) (B : Int32) (μ : gk_St) : Prop := (∀ u, 0 < u → u < 10 → bt B u = gp_sn C (c_Pr C k u)) ∧ ∀ u, 0 < u → u < 10 → ∀ t, t < 24 → μ 129 (24 * u + t) = nI (128 * gp_w0 C k u t + gp_w1 C k u t)
set_option maxHeartbeats 4000000 in
theorem m_a40 {C : gp_C} (hC : gp_cw C) {k t a : Nat} (ht : t < 24) (ha0 : 0 < a) (ha : a < 10) {B : Int32} {μ : gk_St} (hb : gp_mB C k B μ) {x3 x4 x6 : Int32} {N : Nat} (hN : N = 9) {Q : Int32 → gk_St → Prop} {K : Int32 → Int32 → Int32 → Int32 → Int32 → Int32 → Int32 → gk_St → Prop} (h : K B x3 x4 (nI t) x6 (nI a) (nI (gp_ac C k t a N)) μ) : ∀ (i j : Nat), j + i = N → w_X8_askOf_l40 Q K 101 (i + 1) B x3 x4 (nI t) x6 (nI a) (nI (gp_ac C k t a j)) (nI (j + 1)) μ := by
  intro i
  induction i with
  | zero =>
    intro j hj
    have e : j = N := by omega
    unfold w_X8_askOf_l40
    rw [if_pos (show (10 : Int32) ≤ nI (j + 1) from (nI_leI (a := 10) (by omega) (by omega)).mpr (by omega)), e]
    exact h
  | succ i ih =>
    intro j hj
    have ihj := ih (j + 1) (by omega)
    have hs : gp_ac C k t a (j + 1) = if gp_al C k t a (j + 1) = true then gp_ac C k t a j + 1 else gp_ac C k t a j := rfl
    rw [hs] at ihj
    have wa := gp_w_le hC (k := k) (u := a) (t := t) (by omega) ht
    have wb := gp_w_le hC (k := k) (u := j + 1) (t := t) (by omega) ht
    have skip : gp_al C k t a (j + 1) = false → w_X8_askOf_j100 Q K (fun c_x2 c_x3 c_x4 c_x5 c_x6 c_x7 c_x8 c_x9 cm => w_X8_askOf_l40 Q K 101 (i + 1) c_x2 c_x3 c_x4 c_x5 c_x6 c_x7 c_x8 c_x9 cm) 101 B x3 x4 (nI t) x6 (nI a) (nI (j + 1)) (nI (gp_ac C k t a j)) μ := by
      intro hq
      rw [hq, if_neg (by decide)] at ihj
      unfold w_X8_askOf_j100 w_X8_askOf_j101
      intro v5 e5 v6 e6
      rw [e6, nI_1, e5, Int32.add_zero]
      exact ihj
    unfold w_X8_askOf_l40
    rw [if_neg (show ¬ (10 : Int32) ≤ nI (j + 1) from fun q => absurd ((nI_leI (a := 10) (by omega) (by omega)).mp q) (by omega))]
    have ba := hb.1 a ha0 ha
    have bb := hb.1 (j + 1) (by omega) (by omega)
    cases ga : gp_sn C (c_Pr C k a) with
    | false =>
      refine isIn_n (by omega) (by rw [ba]; exact ga) ?_
      rw [if_pos rfl]
      refine skip ?_
      unfold gp_al
      rw [ga, Bool.false_and, Bool.false_and]
    | true =>
      refine isIn_y (by omega) (by rw [ba]; exact ga) ?_
      rw [if_neg i1n0]
      cases gb : gp_sn C (c_Pr C k (j + 1)) with
      | false =>
        refine isIn_n (by omega) (by rw [bb]; exact gb) ?_
        rw [if_pos rfl]
        refine skip ?_
        unfold gp_al
        rw [gb, Bool.and_false, Bool.false_and]
      | true =>
        refine isIn_y (by omega) (by rw [bb]; exact gb) ?_
        have eal : gp_al C k t a (j + 1) = (gp_w0 C k a t == gp_w0 C k (j + 1) t && gp_w1 C k a t == gp_w1 C k (j + 1) t) := by
          unfold gp_al
          rw [ga, gb]
          rfl
        rw [if_neg i1n0, e24, e24, nI_add, nI_add, rf_101_41, kc (k := 24 * a + t) (by omega), kc (k := 24 * (j + 1) + t) (by omega), hb.2 a ha0 ha t ht, hb.2 (j + 1) (by omega) (by omega) t ht]
        refine ⟨vi (n := 240) (by omega) ln_129 (by omega), vi (n := 240) (by omega) ln_129 (by omega), ?_⟩
        by_cases c : gp_w0 C k a t = gp_w0 C k (j + 1) t ∧ gp_w1 C k a t = gp_w1 C k (j + 1) t
        · rw [eal, if_pos (show (gp_w0 C k a t == gp_w0 C k (j + 1) t && gp_w1 C k a t == gp_w1 C k (j + 1) t) = true by simp [c.1, c.2])] at ihj
          rw [if_pos (by rw [c.1, c.2])]
          unfold w_X8_askOf_j101
          intro v5 e5 v6 e6
          rw [e6, nI_1, e5, nI_1]
          exact ihj
        · rw [if_neg (fun q => c ((gp_key2 (by omega) (by omega)).mp ((nI_eq (by omega) (by omega)).mp q)))]
          refine skip ?_
          rw [eal]
          simpa using c
theorem gp_ac_le {C : gp_C} {k t a n : Nat} : gp_ac C k t a n ≤ n := gp_cn_le n
set_option maxHeartbeats 4000000 in
theorem m_a27 {C : gp_C} (hC : gp_cw C) {k t : Nat} (ht : t < 24) {B : Int32} {μ : gk_St} (hb : gp_mB C k B μ) {x3 x4 : Int32} {N : Nat} (hN : N = 9) {Q : Int32 → gk_St → Prop} {K : Int32 → Int32 → Int32 → Int32 → Int32 → gk_St → Prop} (h : K B x3 x4 (nI t) (nI (gp_mm (fun a => gp_ac C k t (a + 1) N) N)) μ) : ∀ (i j : Nat), j + i = N → w_X8_askOf_l27 Q K 101 (i + 1) B x3 x4 (nI t) (nI (gp_mm (fun a => gp_ac C k t (a + 1) N) j)) (nI (j + 1)) μ := by
  intro i
  induction i with
  | zero =>
    intro j hj
    have e : j = N := by omega
    unfold w_X8_askOf_l27
    rw [if_pos (show (10 : Int32) ≤ nI (j + 1) from (nI_leI (a := 10) (by omega) (by omega)).mpr (by omega)), e]
    exact h
  | succ i ih =>
    intro j hj
    have ihj := ih (j + 1) (by omega)
    have hs : gp_mm (fun a => gp_ac C k t (a + 1) N) (j + 1) = max (gp_mm (fun a => gp_ac C k t (a + 1) N) j) (gp_ac C k t (j + 1) N) := rfl
    have h1 := gp_mm_le (g := fun a => gp_ac C k t (a + 1) N) (b := N) (fun i => gp_ac_le) j
    have h2 := gp_ac_le (C := C) (k := k) (t := t) (a := j + 1) (n := N)
    rw [hs] at ihj
    unfold w_X8_askOf_l27
    rw [if_neg (show ¬ (10 : Int32) ≤ nI (j + 1) from fun q => absurd ((nI_leI (a := 10) (by omega) (by omega)).mp q) (by omega))]
    refine ⟨N + 1, ?_⟩
    refine m_a40 hC ht (by omega) (by omega) hb hN ?_ N 0 (by omega)
    refine gp_ifle (by omega) (by omega) (fun c => ?_) (fun c => ?_)
    · rw [show max (gp_mm (fun a => gp_ac C k t (a + 1) N) j) (gp_ac C k t (j + 1) N) = gp_mm (fun a => gp_ac C k t (a + 1) N) j by omega] at ihj
      intro v e
      rw [e, nI_1]
      exact ihj
    · rw [show max (gp_mm (fun a => gp_ac C k t (a + 1) N) j) (gp_ac C k t (j + 1) N) = gp_ac C k t (j + 1) N by omega] at ihj
      intro v e
      rw [e, nI_1]
      exact ihj
theorem m_am {C : gp_C} (hC : gp_cw C) {k t : Nat} (ht : t < 24) {B : Int32} {μ : gk_St} (hb : gp_mB C k B μ) {x3 x4 : Int32} {Q : Int32 → gk_St → Prop} {K : Int32 → Int32 → Int32 → Int32 → Int32 → gk_St → Prop} (h : ∀ y : Nat, y = gp_am C k t 9 → y ≤ 9 → K B x3 x4 (nI t) (nI y) μ) : (∃ n27 : Nat, w_X8_askOf_l27 Q K 101 n27 B x3 x4 (nI t) 0 1 μ) := by
  obtain ⟨N, hN⟩ : ∃ N : Nat, N = 9 := ⟨9, rfl⟩
  have hh := h _ rfl gp_am_le
  unfold gp_am at hh
  rw [← hN] at hh
  have L := m_a27 (x3 := x3) (x4 := x4) (Q := Q) hC ht hb hN hh N 0 (by omega)
  have e0 : gp_mm (fun a => gp_ac C k t (a + 1) N) 0 = 0 := rfl
  rw [e0, nI_0] at L
  exact ⟨N + 1, L⟩
set_option maxHeartbeats 4000000 in
theorem m_a14 {C : gp_C} (hC : gp_cw C) {k : Nat} {B : Int32} {μ : gk_St} (hb : gp_mB C k B μ) {N : Nat} (hN : N = 23) {Q : Int32 → gk_St → Prop} {K : Int32 → gk_St → Prop} (h : K (nI (gp_aq C k N).1) μ) : ∀ (i j : Nat) (x3 x4 : Int32), j + i = N + 1 → ((j = 0 ∧ x3 = -1) ∨ ∃ j', j = j' + 1 ∧ x3 = nI (gp_aq C k j').1 ∧ x4 = nI (gp_aq C k j').2) → w_X8_askOf_l14 Q K 101 (i + 1) B x3 x4 (nI j) μ := by
  intro i
  induction i with
  | zero =>
    intro j x3 x4 hj hx
    rcases hx with hx | ⟨j', e1, e2, e3⟩
    · omega
    · have e : j' = N := by omega
      unfold w_X8_askOf_l14
      rw [if_pos (show (24 : Int32) ≤ nI j from (nI_leI (a := 24) (by omega) (by omega)).mpr (by omega)), e2, e]
      exact h
  | succ i ih =>
    intro j x3 x4 hj hx
    unfold w_X8_askOf_l14
    rw [if_neg (show ¬ (24 : Int32) ≤ nI j from fun q => absurd ((nI_leI (a := 24) (by omega) (by omega)).mp q) (by omega))]
    refine m_am hC (by omega) hb (fun y hy hy9 => ?_)
    have better : gp_aq C k j = (j, y) → w_X8_askOf_j144 Q K (fun c_x2 c_x3 c_x4 c_x5 cm => w_X8_askOf_l14 Q K 101 (i + 1) c_x2 c_x3 c_x4 c_x5 cm) 101 B x3 x4 (nI j) (nI y) μ := by
      intro hq
      unfold w_X8_askOf_j144 w_X8_askOf_j149
      rw [if_neg i1n0]
      unfold w_X8_askOf_j162
      rw [if_neg i1n0]
      intro v e
      rw [e, nI_1]
      exact ih (j + 1) _ _ (by omega) (Or.inr ⟨j, rfl, by rw [hq], by rw [hq]⟩)
    rcases hx with ⟨hx1, hx2⟩ | ⟨j', e1, e2, e3⟩
    · rw [if_pos hx2]
      refine better ?_
      subst hx1
      rw [hy]
      rfl
    · have hb1 := gp_as_le (f := fun t => gp_am C k t 9) (b := 9) (fun _ => gp_am_le) j'
      have hb2 : (gp_aq C k j').2 ≤ 9 := hb1.1
      have hb3 : (gp_aq C k j').1 ≤ j' := hb1.2
      clear hb1
      have es := gp_aq_s (C := C) (k := k) (j := j')
      rw [← e1, ← hy] at es
      clear hy
      rw [if_neg (by rw [e2]; exact nI_nm1 (by omega)), e3]
      refine gp_ifle (by omega) (by omega) (fun c => ?_) (fun c => ?_)
      · rw [if_pos c] at es
        unfold w_X8_askOf_j149
        rw [if_pos rfl]
        unfold w_X8_askOf_j162
        rw [if_pos rfl]
        intro v e
        rw [e, nI_1]
        exact ih (j + 1) _ _ (by omega) (Or.inr ⟨j, rfl, by rw [es, e2], by rw [es]⟩)
      · rw [if_neg c] at es
        rw [← e3]
        exact better es
theorem m_ask {C : gp_C} {μ : gk_St} (hK : gp_K C μ) {k : Nat} (hk : k < c_nc C) {Q : Int32 → gk_St → Prop} (h : ∀ ν, gp_K C ν → gp_rd (c_tn C) (c_tb C) ν → Q (v_as C k) ν) : w_X8_askOf 101 (nI k) μ Q := by
  unfold w_X8_askOf
  refine m_ro hK hk (fun ν a b c => ?_)
  have hB : gp_mB C k (gp_bt (gp_rb C k) 10) ν := by
    refine ⟨fun u u1 u2 => ?_, c⟩
    rw [gp_bt_b (by omega) 10 (by omega), decide_eq_true u2, Bool.true_and, gp_rb_1 u1]
  have hv := h ν a b
  unfold v_as at hv
  exact ⟨24 + 1, m_a14 hK.1 hB (Q := Q) (K := fun y27 m28 => Q y27 m28) (N := 23) rfl hv 24 0 _ _ rfl (Or.inl ⟨rfl, rfl⟩)⟩
