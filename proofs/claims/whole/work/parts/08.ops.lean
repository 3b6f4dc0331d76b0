/-! rest of Go's rules: remainder, unsigned shift, the two texts, the constant row -/
def gk_md (x y : Int32) : Int32 := x - x / y * y
def gk_ml (x y : Int64) : Int64 := x - x / y * y
def gk_us (x y : Int32) : Int32 := (x.toUInt32 >>> (y.toUInt32 &&& Int32.toUInt32 31)).toInt32
/-- where a sign stands in "osg" (cell 1000), in "bt" (cell 1001) -/
def gk_ix (t : Nat) (c : Int32) : Int32 := if t = 1000 then (if c = 111 then 0 else if c = 115 then 1 else if c = 103 then 2 else -1) else (if c = 98 then 0 else if c = 116 then 1 else -1)
def gk_isS (t : Nat) : Prop := t = 1000 ∨ t = 1001
/-- DIGEST_MOMENTS -/
def gk_dm (i : Nat) : Int32 := if i = 0 then 0 else if i = 1 then 5 else if i = 2 then 12 else 23
set_option maxRecDepth 100000 in
theorem rs_6_0 {o : Nat} (h : gk_isO o 6) : gk_isS (gk_rf o 0) := by
  have h9 := gk_chk (P := fun o => !((gk_sk o).1 == 6) || ((gk_rf o 0) == 1000 || (gk_rf o 0) == 1001)) (by decide +kernel) (gk_isO_lt h (by omega))
  have h2 : (gk_sk o).1 = 6 := h
  simp only [h2, beq_self_eq_true, Bool.not_true, Bool.false_or, beq_iff_eq, Bool.or_eq_true] at h9
  exact h9
section GoOps
variable {own : String} {cc : ByteArray} {mL : Nat} {ret : Option FieldType} {d pc : Nat} {lv : List (Nat × Value)} {rest : List Value} {μ : gk_St} {Q : Option Value → gk_St → Prop}
theorem gb_irem {x y : Int32} (hd : decode cc pc = .ok (.irem, 1)) (hne : ¬ y = 0) (k : Go own cc mL ret d (pc + 1) lv (.int (gk_md x y) :: rest) μ Q) : Go own cc mL ret d pc lv (.int y :: .int x :: rest) μ Q := go_irem hd hne k
theorem gb_lrem {x y : Int64} (hd : decode cc pc = .ok (.lrem, 1)) (hne : ¬ y = 0) (k : Go own cc mL ret d (pc + 1) lv (.long (gk_ml x y) :: rest) μ Q) : Go own cc mL ret d pc lv (.long y :: .long x :: rest) μ Q := go_lrem hd hne k
theorem gb_iushr {x y : Int32} (hd : decode cc pc = .ok (.iushr, 1)) (k : Go own cc mL ret d (pc + 1) lv (.int (gk_us x y) :: rest) μ Q) : Go own cc mL ret d pc lv (.int y :: .int x :: rest) μ Q := go_iushr hd k
theorem gb_acopy {idx a b : Nat} {sp dp n : Int32} (hd : decode cc pc = .ok (.invokestatic idx, 3)) (w1 : Cond.methodLink own idx arraycopyName ∈ gk_tb) (w2 : Cond.native arraycopyName ∈ gk_tb) (w3 : Cond.static arraycopyName ∈ gk_tb) (w4 : Cond.initialized "java/lang/System" ∈ gk_tb) (ha : gk_isO a 100) (hb : gk_isO b 100) (hh : ¬ sp < 0 ∧ ¬ dp < 0 ∧ ¬ n < 0 ∧ sp.toNatClampNeg + n.toNatClampNeg ≤ gk_ln a ∧ dp.toNatClampNeg + n.toNatClampNeg ≤ gk_ln b) (hr : (rest.map fun v => v.category).sum ≤ 8) (hdd : 1 ≤ d) (kk : ∀ μ' : gk_St, μ' = gk_sa μ b (va_cpy (μ a) (μ b) sp.toNatClampNeg dp.toNatClampNeg n.toNatClampNeg) → Go own cc mL ret d (pc + 3) lv rest μ' Q) : Go own cc mL ret d pc lv (.int n :: .int dp :: .ref b :: .int sp :: .ref a :: rest) μ Q := go_acopy hd w1 w2 w3 w4 ha hb hh.1 hh.2.1 hh.2.2.1 hh.2.2.2.1 hh.2.2.2.2 hr hdd (kk _ rfl)
/-- String.indexOf(int) of one of the two texts -/
theorem go_ixof {idx t : Nat} {x : Int32} (hd : decode cc pc = .ok (.invokevirtual idx, 3)) (hw : gk_cw own idx yJ0_indexOf_0f7a4 cJ0_indexOf_0f7a4 2 (some .int) 1) (ht : gk_isS t) (hr : (rest.map fun v => v.category).sum ≤ 8) (hdd : 6 ≤ d) (k : Go own cc mL ret d (pc + 3) lv (.int (gk_ix t x) :: rest) μ Q) : Go own cc mL ret d pc lv (.int x :: .ref t :: rest) μ Q := by
  sorry
theorem go_getsD (hd : decode cc pc = .ok (.getstatic 326, 3)) (hown : own = "CableCars") (k : Go own cc mL ret d (pc + 3) lv (.ref 1002 :: rest) μ Q) : Go own cc mL ret d pc lv rest μ Q := by
  sorry
theorem go_alenD {t : Nat} (hd : decode cc pc = .ok (.arraylength, 1)) (ht : t = 1002) (k : Go own cc mL ret d (pc + 1) lv (.int 4 :: rest) μ Q) : Go own cc mL ret d pc lv (.ref t :: rest) μ Q := by
  sorry
theorem go_ialoadD {i : Int32} {t : Nat} (hd : decode cc pc = .ok (.iaload, 1)) (ht : t = 1002) (hin : vp_in i 4) (k : Go own cc mL ret d (pc + 1) lv (.int (gk_dm i.toNatClampNeg) :: rest) μ Q) : Go own cc mL ret d pc lv (.int i :: .ref t :: rest) μ Q := by
  sorry
end GoOps
