theorem gp_ifle {a b : Nat} (ha : a < 1000) (hb : b < 1000) {A B : Prop} (h1 : a ≤ b → A) (h2 : ¬ a ≤ b → B) : (if nI a ≤ nI b then A else B) := by
  by_cases c : a ≤ b
  · rw [if_pos ((nI_leI (by omega) (by omega)).mpr c)]
    exact h1 c
  · rw [if_neg (fun q => c ((nI_leI (by omega) (by omega)).mp q))]
    exact h2 c
theorem c_al2 {C : gp_C} (hC : gp_cw C) {k t : Nat} (ht : t < 24) {μ : gk_St} (hb : gp_cb C k 10 μ) {Q : Int32 → gk_St → Prop} (h : ∀ y : Nat, y = gp_am C k t 9 → y ≤ 9 → Q (nI y) μ) : w_X7_mostAlike 0 (nI t) μ Q := c_al hC ht hb (h _ rfl gp_am_le)
set_option maxHeartbeats 4000000 in
theorem c_a27 {C : gp_C} (hC : gp_cw C) {k : Nat} {μ : gk_St} (hb : gp_cb C k 10 μ) {Q : Int32 → gk_St → Prop} {K : Int32 → gk_St → Prop} {N : Nat} (hN : N = 23) (h : K (nI (gp_aq C k N).1) μ) : ∀ (i j : Nat), j + i = N → w_X7_ask_l27 Q K 0 (i + 1) (nI (gp_aq C k j).1) (nI (gp_aq C k j).2) (nI (j + 1)) μ := by
  intro i
  induction i with
  | zero =>
    intro j hj
    have e : j = N := by omega
    unfold w_X7_ask_l27
    rw [if_pos (show (24 : Int32) ≤ nI (j + 1) from (nI_leI (a := 24) (by omega) (by omega)).mpr (by omega)), e]
    exact h
  | succ i ih =>
    intro j hj
    have hlt : j + 1 < 24 := by omega
    have ihj := ih (j + 1) (by omega)
    have h1 := (gp_as_le (f := fun t => gp_am C k t 9) (b := 9) (fun _ => gp_am_le) j).1
    have es := gp_aq_s (C := C) (k := k) (j := j)
    unfold w_X7_ask_l27
    rw [if_neg (show ¬ (24 : Int32) ≤ nI (j + 1) from fun q => absurd ((nI_leI (a := 24) (by omega) (by omega)).mp q) (by omega))]
    refine c_al2 hC hlt hb (fun y hy hy9 => ?_)
    rw [← hy] at es
    have h1' : (gp_aq C k j).2 ≤ 9 := h1
    clear hy h1
    rw [es] at ihj
    refine gp_ifle (Nat.lt_of_le_of_lt h1' (by decide)) (Nat.lt_of_le_of_lt hy9 (by decide)) (fun c => ?_) (fun c => ?_)
    · rw [if_pos c] at ihj
      intro v e
      rw [e, nI_1]
      exact ihj
    · rw [if_neg c] at ihj
      intro v e
      rw [e, nI_1]
      exact ihj
