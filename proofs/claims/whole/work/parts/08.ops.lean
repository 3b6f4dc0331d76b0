/-! rest of Go's rules: remainder, unsigned shift, the two texts, the constant row -/
def gk_md (x y : Int32) : Int32 := x - x / y * y
def gk_ml (x y : Int64) : Int64 := x - x / y * y
def gk_us (x y : Int32) : Int32 := (x.toUInt32 >>> (y.toUInt32 &&& Int32.toUInt32 31)).toInt32
/-- where a sign stands in "osg" (cell 1000), in "bt" (cell 1001) -/
def gk_ix (t : Nat) (c : Int32) : Int32 := if t = 1000 then (if c = 111 then 0 else if c = 115 then 1 else if c = 103 then 2 else -1) else (if c = 98 then 0 else if c = 116 then 1 else -1)
def gk_isS (t : Nat) : Prop := t = 1000 ∨ t = 1001
set_option maxRecDepth 100000 in
theorem rs_6_0 {o : Nat} (h : gk_isO o 6) : gk_isS (gk_rf o 0) := by
  have h9 := gk_chk (P := fun o => !((gk_sk o).1 == 6) || ((gk_rf o 0) == 1000 || (gk_rf o 0) == 1001)) (by decide +kernel) (gk_isO_lt h (by omega))
  have h2 : (gk_sk o).1 = 6 := h
  simp only [h2, beq_self_eq_true, Bool.not_true, Bool.false_or, beq_iff_eq, Bool.or_eq_true] at h9
  exact h9
section GoOps
variable {own : String} {cc : ByteArray} {mL : Nat} {ret : Option FieldType} {d pc : Nat} {lv : List (Nat × Value)} {rest : List Value} {μ : gk_St} {Q : Option Value → gk_St → Prop}
theorem gb_irem {x y : Int32} (hd : decode cc pc = .ok (.irem, 1)) (hne : ¬ y = 0) (k : Go own cc mL ret d (pc + 1) lv (.int (gk_md x y) :: rest) μ Q) : Go own cc mL ret d pc lv (.int y :: .int x :: rest) μ Q := go_irem hd hne k
theorem gb_lrem {x y : Int64} (hd : decode cc pc = .ok (.lrem, 1)) (hne : ¬ y = 0) (k : Go own cc mL ret d (pc + 1) lv (.long (gk_ml x y) :: rest) μ Q) : Go own cc mL ret d pc lv (.long y :: .long x :: rest) μ Q := go_lrem hd hne k
theorem gb_iushr {x y : Int32} (hd : decode cc pc = .ok (.iushr, 1)) (k : Go own cc mL ret d (pc + 1) lv (.int (gk_us x y) :: rest) μ Q) : Go own cc mL ret d pc lv (.int y :: .int x :: rest) μ Q := go_iushr hd k
theorem gb_acopy {idx a b : Nat} {sp dp n : Int32} (hd : decode cc pc = .ok (.invokestatic idx, 3)) (w1 : Cond.methodLink own idx arraycopyName ∈ gk_tb) (w2 : Cond.native arraycopyName ∈ gk_tb) (w3 : Cond.static arraycopyName ∈ gk_tb) (w4 : Cond.initialized "java/lang/System" ∈ gk_tb) (ha : gk_isO a 100) (hb : gk_isO b 100) (hh : ¬ sp < 0 ∧ ¬ dp < 0 ∧ ¬ n < 0 ∧ sp.toNatClampNeg + n.toNatClampNeg ≤ gk_ln a ∧ dp.toNatClampNeg + n.toNatClampNeg ≤ gk_ln b) (hr : (rest.map fun v => v.category).sum ≤ 8) (hdd : 1 ≤ d) (kk : ∀ μ' : gk_St, μ' = gk_sa μ b (va_cpy (μ a) (μ b) sp.toNatClampNeg dp.toNatClampNeg n.toNatClampNeg) → Go own cc mL ret d (pc + 3) lv rest μ' Q) : Go own cc mL ret d pc lv (.int n :: .int dp :: .ref b :: .int sp :: .ref a :: rest) μ Q := go_acopy hd w1 w2 w3 w4 ha hb hh.1 hh.2.1 hh.2.2.1 hh.2.2.2.1 hh.2.2.2.2 hr hdd (kk _ rfl)
theorem go_getsD {idx : Nat} (hd : decode cc pc = .ok (.getstatic idx, 3)) (hw : Cond.fieldLink own idx "CableCars" "DIGEST_MOMENTS" "[I" ∈ gk_tb) (k : Go own cc mL ret d (pc + 3) lv (.ref 1002 :: rest) μ Q) : Go own cc mL ret d pc lv rest μ Q := by
  intro p l e s m args below meth c D α cI cB cR z0 H locs ls hE hH hl
  have hR := hE.2.2.2.2.2.2.2.2.1
  exact va_gets hE.1 hE.2.1 (hR.2.2.1.narrow (gk_A_A0 hR.1 hR.2.1)) hH.2.2 hE.2.2.2.2.2.1 (hE.2.2.2.2.2.2.1 _ hw) (fun _ h => h) hd (k p l e s m args below meth c D α cI cB cR z0 H locs ls hE hH hl)
theorem go_alenD {t : Nat} (hd : decode cc pc = .ok (.arraylength, 1)) (ht : t = 1002) (k : Go own cc mL ret d (pc + 1) lv (.int 4 :: rest) μ Q) : Go own cc mL ret d pc lv (.ref t :: rest) μ Q := by
  intro p l e s m args below meth c D α cI cB cR z0 H locs ls hE hH hl
  subst ht
  have hR := hE.2.2.2.2.2.2.2.2.1
  exact va_tlen hE.1 hE.2.1 (hR.2.2.2.1.narrow (gk_A_A0 hR.1 hR.2.1)) hH.2.2 rfl hd (k p l e s m args below meth c D α cI cB cR z0 H locs ls hE hH hl)
theorem go_ialoadD {i : Int32} {t : Nat} (hd : decode cc pc = .ok (.iaload, 1)) (ht : t = 1002) (hin : vp_in i 4) (k : Go own cc mL ret d (pc + 1) lv (.int (gk_dm i.toNatClampNeg) :: rest) μ Q) : Go own cc mL ret d pc lv (.int i :: .ref t :: rest) μ Q := by
  intro p l e s m args below meth c D α cI cB cR z0 H locs ls hE hH hl
  subst ht
  have hR := hE.2.2.2.2.2.2.2.2.1
  exact va_ti hE.1 hE.2.1 (hR.2.2.2.1.narrow (gk_A_A0 hR.1 hR.2.1)) hH.2.2 hin rfl hd (k p l e s m args below meth c D α cI cB cR z0 H locs ls hE hH hl)
/-! the two texts -/
def gk_isV (t : Nat) : Prop := t = 1010 ∨ t = 1011
def gk_sl (t : Nat) : Nat := if t = 1010 then 3 else 2
def gk_sb (t i : Nat) : Int32 := if t = 1010 then (if i = 0 then 111 else if i = 1 then 115 else 103) else (if i = 0 then 98 else 116)
theorem gk_isSV {t : Nat} (h : gk_isS t) : gk_isV (t + 10) := h.elim (fun e => Or.inl (by omega)) (fun e => Or.inr (by omega))
theorem go_getsCS {idx : Nat} (hd : decode cc pc = .ok (.getstatic idx, 3)) (hw : Cond.fieldLink own idx "java/lang/String" "COMPACT_STRINGS" "Z" ∈ gk_tb) (k : Go own cc mL ret d (pc + 3) lv (.int 1 :: rest) μ Q) : Go own cc mL ret d pc lv rest μ Q := by
  intro p l e s m args below meth c D α cI cB cR z0 H locs ls hE hH hl
  have hR := hE.2.2.2.2.2.2.2.2.1
  exact va_gets hE.1 hE.2.1 (hR.2.2.2.2.1.narrow (gk_A_A0 hR.1 hR.2.1)) hH.2.2 hE.2.2.2.2.2.1 (hE.2.2.2.2.2.2.1 _ hw) (fun _ h => h) hd (k p l e s m args below meth c D α cI cB cR z0 H locs ls hE hH hl)
theorem gk_Str {z0 : Nat} {α : Nat → Nat} {s : State} {t : Nat} (ht : gk_isS t) (hR : gk_RO z0 α s s.heap) : ∃ i, i < 2 ∧ t = 1000 + i ∧ vk_S 2 [3, 2] [[111, 115, 103], [98, 116]] (fun i => α (1000 + i)) (fun i => α (1010 + i)) (gk_A α s.heap.size) s s.heap := by
  have h := hR.2.2.2.2.2.narrow (gk_A_A0 hR.1 hR.2.1)
  rcases ht with rfl | rfl
  · exact ⟨0, by omega, rfl, h⟩
  · exact ⟨1, by omega, rfl, h⟩
theorem go_getSv {idx t : Nat} (hd : decode cc pc = .ok (.getfield idx, 3)) (hw : Cond.fieldLink own idx "java/lang/String" "value" "[B" ∈ gk_tb) (ht : gk_isS t) (k : Go own cc mL ret d (pc + 3) lv (.ref (t + 10) :: rest) μ Q) : Go own cc mL ret d pc lv (.ref t :: rest) μ Q := by
  intro p l e s m args below meth c D α cI cB cR z0 H locs ls hE hH hl
  obtain ⟨i, hi, rfl, hv⟩ := gk_Str ht hE.2.2.2.2.2.2.2.2.1
  have hq := (hv.1 i hi).2.2.1
  have e9 : 1000 + i + 10 = 1010 + i := by omega
  refine vk_getf (v := .ref (α (1000 + i + 10))) hE.1 hE.2.1 (by rw [e9]; exact hq) hH.2.2 hE.2.2.2.2.2.1 (hE.2.2.2.2.2.2.1 _ hw) (fun _ h => h) hd (k p l e s m args below meth c D α cI cB cR z0 H locs ls hE hH hl)
theorem go_getSc {idx t : Nat} (hd : decode cc pc = .ok (.getfield idx, 3)) (hw : Cond.fieldLink own idx "java/lang/String" "coder" "B" ∈ gk_tb) (ht : gk_isS t) (k : Go own cc mL ret d (pc + 3) lv (.int 0 :: rest) μ Q) : Go own cc mL ret d pc lv (.ref t :: rest) μ Q := by
  intro p l e s m args below meth c D α cI cB cR z0 H locs ls hE hH hl
  obtain ⟨i, hi, rfl, hv⟩ := gk_Str ht hE.2.2.2.2.2.2.2.2.1
  exact vk_getf hE.1 hE.2.1 (hv.1 i hi).2.1 hH.2.2 hE.2.2.2.2.2.1 (hE.2.2.2.2.2.2.1 _ hw) (fun _ h => h) hd (k p l e s m args below meth c D α cI cB cR z0 H locs ls hE hH hl)
theorem gk_Vec {z0 : Nat} {α : Nat → Nat} {s : State} {t : Nat} (ht : gk_isV t) (hR : gk_RO z0 α s s.heap) : va_T .byte (α t) (gk_sl t) (fun j => .int ((if t = 1010 then [111, 115, 103] else [98, 116] : List Int32).getD j 0)) (gk_A α s.heap.size) s s.heap := by
  have h := hR.2.2.2.2.2.narrow (gk_A_A0 hR.1 hR.2.1)
  rcases ht with rfl | rfl
  · exact (h.1 0 (by omega)).2.2.2
  · exact (h.1 1 (by omega)).2.2.2
theorem go_baloadS {i : Int32} {t : Nat} (hd : decode cc pc = .ok (.baload, 1)) (ht : gk_isV t) (hin : vp_in i (gk_sl t)) (k : Go own cc mL ret d (pc + 1) lv (.int (gk_sb t i.toNatClampNeg) :: rest) μ Q) : Go own cc mL ret d pc lv (.int i :: .ref t :: rest) μ Q := by
  intro p l e s m args below meth c D α cI cB cR z0 H locs ls hE hH hl
  have hT := gk_Vec ht hE.2.2.2.2.2.2.2.2.1
  refine va_tb (v := .int (gk_sb t i.toNatClampNeg)) hE.1 hE.2.1 hT hH.2.2 hin ?_ hd (k p l e s m args below meth c D α cI cB cR z0 H locs ls hE hH hl)
  have hlt := gk_inlt hin
  rcases ht with rfl | rfl
  · have hlt : i.toNatClampNeg < 3 := hlt
    show Value.int _ = _
    rcases (show i.toNatClampNeg = 0 ∨ i.toNatClampNeg = 1 ∨ i.toNatClampNeg = 2 by omega) with q | q | q <;> rw [q] <;> rfl
  · have hlt : i.toNatClampNeg < 2 := hlt
    show Value.int _ = _
    rcases (show i.toNatClampNeg = 0 ∨ i.toNatClampNeg = 1 by omega) with q | q <;> rw [q] <;> rfl
theorem go_alenS {t : Nat} (hd : decode cc pc = .ok (.arraylength, 1)) (ht : gk_isV t) (k : Go own cc mL ret d (pc + 1) lv (.int (Int32.ofNat (gk_sl t)) :: rest) μ Q) : Go own cc mL ret d pc lv (.ref t :: rest) μ Q := by
  intro p l e s m args below meth c D α cI cB cR z0 H locs ls hE hH hl
  exact va_tlen hE.1 hE.2.1 (gk_Vec ht hE.2.2.2.2.2.2.2.2.1) hH.2.2 rfl hd (k p l e s m args below meth c D α cI cB cR z0 H locs ls hE hH hl)
theorem go_bret {x : Int32} {ty : FieldType} (hd : decode cc pc = .ok (.ireturn, 1)) (hx : narrow ty (.int x) = .int x) (h : Q (some (.int x)) μ) : Go own cc mL (some ty) d pc lv [.int x] μ Q := by
  intro p l e s m args below meth c D α cI cB cR z0 H locs ls hE hH hl
  exact W.zret hE.1 hE.2.1 hE.2.2.2.1 hx (fun t ht hW => ⟨⟨some (.int x), μ, rfl, h, by rw [ht]; exact hH.1, va_K.moved hW.alike hE.2.2.2.2.2.2.2.1, hH.2.1⟩, hH.2.2.F ht⟩) hH.2.2.2.2 hd hE.2.2.2.2.1
/-- invokevirtual on one of the two texts -/
theorem go_callVS {idx : Nat} {y : MethodName} {cc' : ByteArray} {mL' d' n t : Nat} {ret' : Option FieldType} {Qa : Option Value → gk_St → Prop} (As : List Value) (hd : decode cc pc = .ok (.invokevirtual idx, 3)) (hw : gk_cw own idx y cc' mL' ret' n) (hi : Cond.instanceMethod y ∈ gk_tb) (hs : Cond.selects y.cls y y ∈ gk_tb) (hc : y.cls = "java/lang/String") (ht0 : gk_isS t) (hn : As.length = n) (hr : (rest.map fun v => v.category).sum ≤ 8) (hdd : d' + 1 ≤ d) (hM : gk_CT y cc' mL' ret' d' (.ref t :: As) μ Qa)
    (k : ∀ (r : Option Value) (μ' : gk_St), Qa r μ' → Go own cc mL ret d (pc + 3) lv (r.toList ++ rest) μ' Q) : Go own cc mL ret d pc lv (As.reverse ++ .ref t :: rest) μ Q := by
  intro p l e s m args below meth c D α cI cB cR z0 H locs ls hE hH hl
  have ht := hE.2.2.2.2.2.2.1
  obtain ⟨w1, w2, w3, w4, w5⟩ := hw
  have hr2 : ((rest.map (gk_tr α)).map fun v => v.category).sum ≤ 8 := by simpa only [List.map_map, Function.comp_def, gk_tr_cat] using hr
  have cw : CallW (gk_rm d) s args own y.cls idx y cc' mL' ret' (Cond.code y cc' mL' ret' :: gk_tb) (gk_rm d') 0 0 n := ⟨callB_of n ht (gk_good_code w2) rfl rfl rfl (ht _ w3) (ht _ w1) w4 (gk_room w5 hdd), ht _ hi, ht _ hs⟩
  have hrec : ∃ cell : Cell, H[α t]? = some cell ∧ cell.vm.isStatics = false ∧ s.vm.findClass y.cls = some cell.cls := by
    obtain ⟨i, hi9, rfl, hv⟩ := gk_Str ht0 hE.2.2.2.2.2.2.2.2.1
    rw [hc]
    exact vk_recv (adK := fun i => α (1000 + i)) (i := i) hv hi9 hH.2.2
  exact gk_after (va_runV (As := As.map (gk_tr α)) (rest := rest.map (gk_tr α)) (b := α t) ⟨hE.1, hE.2.1, hE.2.2.1, hE.2.2.2.2.2.1, ht⟩ (hM l D α cI cB cR z0 H.size) cw ⟨gk_blind, hrec, gk_pre hE hH (.ref t :: As)⟩ rfl (by rw [List.length_map]; exact hn) hl.1 (by show (As.reverse ++ .ref t :: rest).map (gk_tr α) = _; rw [List.map_append, List.map_reverse]; rfl) (lv_room hr2) hd ⟨Nat.zero_le _, Nat.zero_le _⟩) hE hH hl k
end GoOps
