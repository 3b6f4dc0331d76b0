/-! THE PURE PART. First what a ride IS: numbers (Nat) of people, by moments, by places of the rope, by cars -/
def gp_u {β : Type} (f : Nat → β) (k : Nat) (x : β) : Nat → β := fun j => if j = k then x else f j
theorem gp_us {β : Type} {f : Nat → β} {k : Nat} {x : β} : gp_u f k x k = x := if_pos rfl
theorem gp_un {β : Type} {f : Nat → β} {k j : Nat} {x : β} (h : j ≠ k) : gp_u f k x j = f j := if_neg h
/-- what a ride hangs on: how many cars; place, sort, room of each; who comes where and when; speed; gusts, stops, jams (moment, car) -/
abbrev gp_P : Type := Nat × (Nat → Nat) × (Nat → Nat) × (Nat → Nat) × (Nat → Nat → Nat) × (Nat → Nat) × (Nat → Bool) × (Nat → Bool) × (Nat → Nat → Bool)
def p_nc (P : gp_P) : Nat := P.1
def p_pl (P : gp_P) : Nat → Nat := P.2.1
def p_so (P : gp_P) : Nat → Nat := P.2.2.1
def p_ro (P : gp_P) : Nat → Nat := P.2.2.2.1
def p_ar (P : gp_P) : Nat → Nat → Nat := P.2.2.2.2.1
def p_pc (P : gp_P) : Nat → Nat := P.2.2.2.2.2.1
def p_gu (P : gp_P) : Nat → Bool := P.2.2.2.2.2.2.1
def p_sp (P : gp_P) : Nat → Bool := P.2.2.2.2.2.2.2.1
def p_jm (P : gp_P) : Nat → Nat → Bool := P.2.2.2.2.2.2.2.2
/-- how it stands: places, who is inside, who got out (by cars), who waits, who has come over (by stations), cars ever used, the first moment and car -/
abbrev gp_A : Type := (Nat → Nat) × (Nat → Nat) × (Nat → Nat) × (Nat → Nat) × (Nat → Nat) × Int32 × Int32 × Int32
def a_pl (A : gp_A) : Nat → Nat := A.1
def a_in (A : gp_A) : Nat → Nat := A.2.1
def a_ou (A : gp_A) : Nat → Nat := A.2.2.1
def a_wt (A : gp_A) : Nat → Nat := A.2.2.2.1
def a_ov (A : gp_A) : Nat → Nat := A.2.2.2.2.1
def a_us (A : gp_A) : Int32 := A.2.2.2.2.2.1
def a_fm (A : gp_A) : Int32 := A.2.2.2.2.2.2.1
def a_fc (A : gp_A) : Int32 := A.2.2.2.2.2.2.2
def gp_letOut (t : Nat) (A : gp_A) (k st : Nat) : gp_A := (a_pl A, gp_u (a_in A) k 0, gp_u (a_ou A) k (a_ou A k + a_in A k), a_wt A, gp_u (a_ov A) st (a_ov A st + a_in A k), a_us A, if 0 < a_in A k ∧ a_fm A = -1 then nI t else a_fm A, if 0 < a_in A k ∧ a_fm A = -1 then nI k else a_fc A)
def gp_letIn (A : gp_A) (k st room : Nat) : gp_A := (a_pl A, gp_u (a_in A) k (a_in A k + min (a_wt A st) room), a_ou A, gp_u (a_wt A) st (a_wt A st - min (a_wt A st) room), a_ov A, if 0 < min (a_wt A st) room then a_us A ||| ((1 : Int32) <<< (nI k &&& 31)) else a_us A, a_fm A, a_fc A)
def gp_mv (A : gp_A) (k : Nat) : gp_A := (gp_u (a_pl A) k ((a_pl A k + 1) % 24), A.2)
def gp_cap (P : gp_P) (k : Nat) : Nat := if p_so P k = 2 then p_ro P k / 2 else p_ro P k
def gp_cl (P : gp_P) (t k : Nat) : Bool := p_jm P t k || (p_gu P t && p_so P k == 0)
def gp_sv (P : gp_P) (t k : Nat) (A : gp_A) : gp_A := if a_pl A k % 12 = 0 ∧ gp_cl P t k = false then gp_letIn (gp_letOut t A k (a_pl A k / 12)) k (a_pl A k / 12) (gp_cap P k) else A
def gp_sd (P : gp_P) (t k : Nat) (A : gp_A) : gp_A := if a_pl A k % 12 = 0 ∧ gp_cl P t k = false then gp_letIn A k (a_pl A k / 12) (gp_cap P k - a_in A k) else A
def gp_ld (A : gp_A) (k : Nat) (l : Int32) : Int32 := l + (if a_pl A k < 12 then nI (a_in A k) else -(nI (a_in A k)))
/-- one place on: cars 0 .. j - 1 -/
def gp_go (P : gp_P) (t : Nat) (A : gp_A) : Nat → gp_A × Int32
  | 0 => (A, 0)
  | j + 1 => (gp_sv P t j (gp_mv (gp_go P t A j).1 j), gp_ld (gp_go P t A j).1 j (gp_go P t A j).2)
/-- n places on -/
def gp_gos (P : gp_P) (t : Nat) (A : gp_A) : Nat → gp_A × Int32
  | 0 => (A, 0)
  | n + 1 => ((gp_go P t (gp_gos P t A n).1 (p_nc P)).1, (gp_gos P t A n).2 + gk_mx 0 (gp_go P t (gp_gos P t A n).1 (p_nc P)).2)
def gp_stn (P : gp_P) (t : Nat) (A : gp_A) : Nat → gp_A
  | 0 => A
  | j + 1 => gp_sd P t j (gp_stn P t A j)
def gp_arr (P : gp_P) (t : Nat) (A : gp_A) : gp_A := (a_pl A, a_in A, a_ou A, gp_u (gp_u (a_wt A) 0 (a_wt A 0 + p_ar P 0 t)) 1 (a_wt A 1 + p_ar P 1 t), a_ov A, a_us A, a_fm A, a_fc A)
def gp_pls (P : gp_P) (t : Nat) : Nat := if p_sp P t = true then 0 else p_pc P t
def gp_mo (P : gp_P) (t : Nat) (A : gp_A) : gp_A × Int32 := if gp_pls P t = 0 then (gp_stn P t (gp_arr P t A) (p_nc P), 0) else gp_gos P t (gp_arr P t A) (gp_pls P t)
def gp_ini (P : gp_P) : gp_A := (p_pl P, fun _ => 0, fun _ => 0, fun _ => 0, fun _ => 0, 0, -1, -1)
/-- how it stands ahead of moment t; the power of moment t; the power by moment t -/
def gp_s (P : gp_P) : Nat → gp_A
  | 0 => gp_ini P
  | t + 1 => (gp_mo P t (gp_s P t)).1
def gp_pw (P : gp_P) (t : Nat) : Int32 := (gp_mo P t (gp_s P t)).2
def gp_ps (P : gp_P) : Nat → Int32
  | 0 => 0
  | t + 1 => gp_ps P t + gp_pw P t
def gp_sum (f : Nat → Nat) : Nat → Nat
  | 0 => 0
  | n + 1 => gp_sum f n + f n
theorem gp_sum_u {f : Nat → Nat} {k x : Nat} : ∀ {n : Nat}, k < n → gp_sum (gp_u f k x) n + f k = gp_sum f n + x
  | 0, h => absurd h (Nat.not_lt_zero k)
  | n + 1, h => by
    show gp_sum (gp_u f k x) n + gp_u f k x n + f k = gp_sum f n + f n + x
    by_cases e : k = n
    · subst e
      rw [gp_us]
      have : gp_sum (gp_u f k x) k = gp_sum f k := by
        have key : ∀ m, m ≤ k → gp_sum (gp_u f k x) m = gp_sum f m := by
          intro m
          induction m with
          | zero => intro _; rfl
          | succ m ih =>
            intro hm
            show gp_sum (gp_u f k x) m + gp_u f k x m = gp_sum f m + f m
            rw [ih (by omega), gp_un (by omega)]
        exact key k (Nat.le_refl k)
      omega
    · have := gp_sum_u (f := f) (k := k) (x := x) (n := n) (by omega)
      rw [gp_un (fun q => e q.symm)]
      omega
theorem gp_sum_le {f : Nat → Nat} {k : Nat} : ∀ {n : Nat}, k < n → f k ≤ gp_sum f n
  | 0, h => absurd h (Nat.not_lt_zero k)
  | n + 1, h => by
    show f k ≤ gp_sum f n + f n
    by_cases e : k = n
    · subst e
      omega
    · have := gp_sum_le (f := f) (k := k) (n := n) (by omega)
      omega
/-- nobody is lost; nobody sits where there is no room; places are places -/
def gp_ok (P : gp_P) (arr : Nat) (A : gp_A) : Prop := a_wt A 0 + a_wt A 1 + gp_sum (a_in A) (p_nc P) + a_ov A 0 + a_ov A 1 = arr ∧ (∀ k, k < p_nc P → a_in A k ≤ gp_cap P k) ∧ ∀ k, k < p_nc P → a_pl A k < 24
theorem gp_ok_out {P : gp_P} {arr t k st : Nat} {A : gp_A} (hk : k < p_nc P) (hst : st < 2) (h : gp_ok P arr A) : gp_ok P arr (gp_letOut t A k st) := by
  obtain ⟨h1, h2, h3⟩ := h
  refine ⟨?_, fun j hj => ?_, h3⟩
  · have hs := gp_sum_u (f := a_in A) (k := k) (x := 0) hk
    show a_wt A 0 + a_wt A 1 + gp_sum (gp_u (a_in A) k 0) (p_nc P) + gp_u (a_ov A) st (a_ov A st + a_in A k) 0 + gp_u (a_ov A) st (a_ov A st + a_in A k) 1 = arr
    rcases (show st = 0 ∨ st = 1 by omega) with rfl | rfl
    · rw [gp_us, gp_un (by omega)]
      omega
    · rw [gp_us, gp_un (by omega)]
      omega
  · show gp_u (a_in A) k 0 j ≤ gp_cap P j
    by_cases e : j = k
    · subst e
      rw [gp_us]
      omega
    · rw [gp_un e]
      exact h2 j hj
theorem gp_ok_in {P : gp_P} {arr k st room : Nat} {A : gp_A} (hk : k < p_nc P) (hst : st < 2) (hr : a_in A k + room ≤ gp_cap P k) (h : gp_ok P arr A) : gp_ok P arr (gp_letIn A k st room) := by
  obtain ⟨h1, h2, h3⟩ := h
  refine ⟨?_, fun j hj => ?_, h3⟩
  · have hs := gp_sum_u (f := a_in A) (k := k) (x := a_in A k + min (a_wt A st) room) hk
    show gp_u (a_wt A) st (a_wt A st - min (a_wt A st) room) 0 + gp_u (a_wt A) st (a_wt A st - min (a_wt A st) room) 1 + gp_sum (gp_u (a_in A) k (a_in A k + min (a_wt A st) room)) (p_nc P) + a_ov A 0 + a_ov A 1 = arr
    rcases (show st = 0 ∨ st = 1 by omega) with rfl | rfl
    · rw [gp_us, gp_un (by omega)]
      omega
    · rw [gp_us, gp_un (by omega)]
      omega
  · show gp_u (a_in A) k (a_in A k + min (a_wt A st) room) j ≤ gp_cap P j
    by_cases e : j = k
    · subst e
      rw [gp_us]
      omega
    · rw [gp_un e]
      exact h2 j hj
theorem gp_st2 {p : Nat} (h : p < 24) : p / 12 < 2 := by omega
theorem gp_ok_sv {P : gp_P} {arr t k : Nat} {A : gp_A} (hk : k < p_nc P) (h : gp_ok P arr A) : gp_ok P arr (gp_sv P t k A) := by
  unfold gp_sv
  split
  · have hst := gp_st2 (h.2.2 k hk)
    refine gp_ok_in hk hst ?_ (gp_ok_out hk hst h)
    show gp_u (a_in A) k 0 k + gp_cap P k ≤ gp_cap P k
    rw [gp_us]
    omega
  · exact h
theorem gp_ok_sd {P : gp_P} {arr t k : Nat} {A : gp_A} (hk : k < p_nc P) (h : gp_ok P arr A) : gp_ok P arr (gp_sd P t k A) := by
  unfold gp_sd
  split
  · have hst := gp_st2 (h.2.2 k hk)
    refine gp_ok_in hk hst ?_ h
    have := h.2.1 k hk
    omega
  · exact h
theorem gp_ok_mv {P : gp_P} {arr k : Nat} {A : gp_A} (h : gp_ok P arr A) : gp_ok P arr (gp_mv A k) := by
  refine ⟨h.1, h.2.1, fun j hj => ?_⟩
  show gp_u (a_pl A) k ((a_pl A k + 1) % 24) j < 24
  by_cases e : j = k
  · subst e
    rw [gp_us]
    omega
  · rw [gp_un e]
    exact h.2.2 j hj
theorem gp_ok_go {P : gp_P} {arr t : Nat} {A : gp_A} (h : gp_ok P arr A) : ∀ j, j ≤ p_nc P → gp_ok P arr (gp_go P t A j).1
  | 0, _ => h
  | j + 1, hj => gp_ok_sv (by omega) (gp_ok_mv (gp_ok_go h j (by omega)))
theorem gp_ok_gos {P : gp_P} {arr t : Nat} {A : gp_A} (h : gp_ok P arr A) : ∀ n, gp_ok P arr (gp_gos P t A n).1
  | 0 => h
  | n + 1 => gp_ok_go (gp_ok_gos h n) _ (Nat.le_refl _)
theorem gp_ok_stn {P : gp_P} {arr t : Nat} {A : gp_A} (h : gp_ok P arr A) : ∀ j, j ≤ p_nc P → gp_ok P arr (gp_stn P t A j)
  | 0, _ => h
  | j + 1, hj => gp_ok_sd (by omega) (gp_ok_stn h j (by omega))
theorem gp_ok_arr {P : gp_P} {arr t : Nat} {A : gp_A} (h : gp_ok P arr A) : gp_ok P (arr + p_ar P 0 t + p_ar P 1 t) (gp_arr P t A) := by
  refine ⟨?_, h.2.1, h.2.2⟩
  have := h.1
  show gp_u (gp_u (a_wt A) 0 (a_wt A 0 + p_ar P 0 t)) 1 (a_wt A 1 + p_ar P 1 t) 0 + gp_u (gp_u (a_wt A) 0 (a_wt A 0 + p_ar P 0 t)) 1 (a_wt A 1 + p_ar P 1 t) 1 + gp_sum (a_in A) (p_nc P) + a_ov A 0 + a_ov A 1 = _
  rw [gp_us, gp_un (by omega), gp_us]
  omega
/-- how many have come ahead of moment t -/
def gp_come (P : gp_P) : Nat → Nat
  | 0 => 0
  | t + 1 => gp_come P t + p_ar P 0 t + p_ar P 1 t
/-- what holds of every plan here -/
def gp_wf (P : gp_P) : Prop := p_nc P ≤ 6 ∧ (∀ k, k < p_nc P → p_pl P k < 24 ∧ p_so P k < 3 ∧ p_ro P k ≤ 9) ∧ (∀ t, t < 24 → p_pc P t ≤ 3) ∧ gp_come P 24 ≤ 108
theorem gp_ok_mo {P : gp_P} {arr t : Nat} {A : gp_A} (h : gp_ok P arr A) : gp_ok P (arr + p_ar P 0 t + p_ar P 1 t) (gp_mo P t A).1 := by
  unfold gp_mo
  split
  · exact gp_ok_stn (gp_ok_arr h) _ (Nat.le_refl _)
  · exact gp_ok_gos (gp_ok_arr h) _
theorem gp_ok_s {P : gp_P} (hP : gp_wf P) : ∀ t, gp_ok P (gp_come P t) (gp_s P t)
  | 0 => by
    refine ⟨?_, fun k _ => Nat.zero_le _, fun k hk => (hP.2.1 k hk).1⟩
    have : ∀ n, gp_sum (fun _ => 0) n = 0 := by
      intro n
      induction n with
      | zero => rfl
      | succ n ih => show gp_sum (fun _ => 0) n + 0 = 0; omega
    show 0 + 0 + gp_sum (fun _ => 0) (p_nc P) + 0 + 0 = 0
    rw [this]
  | t + 1 => gp_ok_mo (gp_ok_s hP t)
theorem gp_come_mono {P : gp_P} {a b : Nat} (h : a ≤ b) : gp_come P a ≤ gp_come P b := by
  induction b with
  | zero => rw [show a = 0 by omega]; exact Nat.le_refl _
  | succ b ih =>
    by_cases e : a = b + 1
    · rw [e]
      exact Nat.le_refl _
    · have := ih (by omega)
      show _ ≤ gp_come P b + p_ar P 0 b + p_ar P 1 b
      omega
/-- small numbers -/
def gp_sm (P : gp_P) (A : gp_A) : Prop := (∀ s, s < 2 → a_wt A s ≤ 108) ∧ (∀ k, k < p_nc P → a_in A k ≤ 108 ∧ a_in A k ≤ gp_cap P k ∧ a_pl A k < 24)
theorem gp_sm_of {P : gp_P} {arr : Nat} {A : gp_A} (ha : arr ≤ 108) (h : gp_ok P arr A) : gp_sm P A := by
  obtain ⟨h1, h2, h3⟩ := h
  refine ⟨fun s hs => ?_, fun k hk => ⟨?_, h2 k hk, h3 k hk⟩⟩
  · rcases (show s = 0 ∨ s = 1 by omega) with rfl | rfl <;> omega
  · have := gp_sum_le (f := a_in A) hk
    omega
