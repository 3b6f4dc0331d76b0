/-! Gc's rules that make cells, write fields, call -/
theorem gc_objs {α : Nat → Nat} {cI cB cR : ClassId} {k : Nat} {pl : List Nat} {ns : List Int32} (hk : k < 100) : gc_ce α cI cB cR (k, pl, ns) = .inr (k, pl.mapIdx (fun j r => if r = 0 then Value.int (ns.getD j 0) else if r = 1 then Value.null else Value.ref (α (r - 2)))) := by
  unfold gc_ce
  dsimp only
  rw [if_neg (by omega), if_neg (by omega), if_neg (by omega)]
theorem gc_set_num {α : Nat → Nat} {pl : List Nat} {ns : List Int32} {k : Nat} {x : Int32} (h : pl[k]? = some 0) (hn : k < ns.length) : (pl.mapIdx (fun j r => if r = 0 then Value.int (ns.getD j 0) else if r = 1 then Value.null else Value.ref (α (r - 2)))).set k (.int x) = pl.mapIdx (fun j r => if r = 0 then Value.int ((ns.set k x).getD j 0) else if r = 1 then Value.null else Value.ref (α (r - 2))) := by
  apply List.ext_getElem?
  intro j
  rw [List.getElem?_set, List.length_mapIdx, List.getElem?_mapIdx, List.getElem?_mapIdx]
  have hk : k < pl.length := (List.getElem?_eq_some_iff.mp h).1
  by_cases e : k = j
  · subst e
    simp only [h, Option.map_some, if_true, hk]
    simp [List.getD_eq_getElem?_getD, hn]
  · rw [if_neg e]
    cases hl : pl[j]? with
    | none => rfl
    | some r =>
      have e9 : (ns.set k x).getD j 0 = ns.getD j 0 := by rw [List.getD_eq_getElem?_getD, List.getD_eq_getElem?_getD, List.getElem?_set_ne e]
      simp only [Option.map_some, e9]
theorem gc_set_ref {α : Nat → Nat} {pl : List Nat} {ns : List Int32} {k i : Nat} : (pl.mapIdx (fun j r => if r = 0 then Value.int (ns.getD j 0) else if r = 1 then Value.null else Value.ref (α (r - 2)))).set k (.ref (α i)) = (pl.set k (i + 2)).mapIdx (fun j r => if r = 0 then Value.int (ns.getD j 0) else if r = 1 then Value.null else Value.ref (α (r - 2))) := by
  apply List.ext_getElem?
  intro j
  rw [List.getElem?_set, List.length_mapIdx, List.getElem?_mapIdx, List.getElem?_mapIdx, List.getElem?_set]
  by_cases e : k = j
  · subst e
    by_cases h : k < pl.length
    · simp [h]
    · simp [h]
  · rw [if_neg e, if_neg e]
theorem gc_ok_num {n k : Nat} {pl : List Nat} {ns ns' : List Int32} (h : gc_okc n (k, pl, ns) = true) : gc_okc n (k, pl, ns') = true := h
theorem gc_ok_ref {n k j i : Nat} {pl : List Nat} {ns : List Int32} (hk : k < 100) (h : gc_okc n (k, pl, ns) = true) (hi : gc_okr n i = true) : gc_okc n (k, pl.set j (i + 2), ns) = true := by
  unfold gc_okc at *
  dsimp only at *
  rw [if_neg (by omega), if_neg (by omega), List.all_eq_true] at *
  intro r hr
  rcases List.mem_or_eq_of_mem_set hr with q | q
  · exact h r q
  · rw [q]
    simp only [Bool.or_eq_true]
    exact Or.inr hi
section GcMore
variable {own : String} {cc : ByteArray} {mL d mc ms pc : Nat} {lv : List (Nat × Value)} {rest : List Value} {cs : List gc_C} {cells slots : Nat} {Q : List gc_C → Prop}
theorem gc_objInit {idx o : Nat} (hd : decode cc pc = .ok (.invokespecial idx, 3)) (w1 : Cond.methodLink own idx Lib.objectInit ∈ gk_tb) (w2 : Cond.instanceMethod Lib.objectInit ∈ gk_tb) (w3 : Cond.code Lib.objectInit ⟨#[0xb1]⟩ 1 none ∈ gk_tb) (hr : (rest.map fun v => v.category).sum ≤ 8) (hdd : 1 ≤ d) (k : Gc own cc mL d mc ms (pc + 3) lv rest cs cells slots Q) : Gc own cc mL d mc ms pc lv (.ref o :: rest) cs cells slots Q := by
  intro p l e s m args below meth c D α cI cB cR z0 α0 n0 H locs ls hE h0 hn0 hok hL hT hH hl
  have ht := hE.2.2.2.2.2.2.1
  have hr2 : ((rest.map (gk_tr α)).map fun v => v.category).sum ≤ 8 := by simpa only [List.map_map, Function.comp_def, gk_tr_cat] using hr
  have hK := k p l e s m args below meth c D α cI cB cR z0 α0 n0 H locs ls hE h0 hn0 hok hL (fun v hv => hT v (List.mem_cons_of_mem _ hv)) hH hl
  have hloc : 2 * (F0 m pc ls (.ref (α o) :: rest.map (gk_tr α))).monitorRoom + ((rest.map (gk_tr α)).map fun v => v.category).sum + 12 ≤ (gc_rm d mc ms).locals := by
    show 2 * 0 + _ + 12 ≤ 40 * d
    omega
  exact W.objInit (g := F0 m pc ls (.ref (α o) :: rest.map (gk_tr α))) (a := α o) (rest := rest.map (gk_tr α)) hE.1 hE.2.1 hE.2.2.2.2.2.1 (ht _ w1) (ht _ w2) (ht _ w3) rfl (hl.1.trans hE.2.2.1.symm) rfl hd hdd hloc hK
/-- a field becomes a number -/
theorem gc_putN {idx ci k o : Nat} {ty : FieldType} {x : Int32} {pl : List Nat} {ns : List Int32} (hd : decode cc pc = .ok (.putfield idx, 3)) (hf : gk_fp own idx ci k ty) (ho : cs[o]? = some (ci, pl, ns)) (hp : pl[k]? = some 0) (hn : k < ns.length) (hx1 : narrow ty (.int x) = .int x) (hx2 : fits ty (.int x) = true) (kk : Gc own cc mL d mc ms (pc + 3) lv rest (cs.set o (ci, pl, ns.set k x)) cells slots Q) : Gc own cc mL d mc ms pc lv (.int x :: .ref o :: rest) cs cells slots Q := by
  intro p l e s m args below meth c D α cI cB cR z0 α0 n0 H locs ls hE h0 hn0 hok hL hT hH hl
  obtain ⟨C, T, N, ty0, ⟨hc, h1, h2, h3, h4⟩, hk, hlink, hfin, hty⟩ := hf
  have hset : (gc_ws α cI cB cR cs).set o (α o, .inr (ci, (pl.mapIdx (fun j r => if r = 0 then Value.int (ns.getD j 0) else if r = 1 then Value.null else Value.ref (α (r - 2)))).set k (.int x))) = gc_ws α cI cB cR (cs.set o (ci, pl, ns.set k x)) := by
    rw [gc_ws_set, gc_objs hc, gc_set_num hp hn]
  refine va_put (D := D) (v := .int x) (ty := ty) hE.1 hE.2.1 hE.2.2.2.2.2.2.1 h2 ty0 h3 h4 hE.2.2.2.2.2.1 hE.2.2.2.2.2.2.2.1 hH.1 hH.2.1 hH.2.2 o (fs := pl.mapIdx (fun j r => if r = 0 then Value.int (ns.getD j 0) else if r = 1 then Value.null else Value.ref (α (r - 2)))) ?_ h1 k hk (hE.2.2.2.2.2.2.1 _ hlink) (fun _ h => h) hfin (by rw [h3 k hk, hty]) hx1 hx2 ?_ hd (fun H1 locs1 hP hD hS => ?_)
  · rw [gc_ws_get ho, gc_objs hc]
  · rw [List.length_mapIdx]
    exact (List.getElem?_eq_some_iff.mp hp).1
  · rw [hset] at hP hD
    exact kk p l e s m args below meth c D α cI cB cR z0 α0 n0 H1 locs1 ls hE h0 (by rw [List.length_set]; exact hn0) (gc_okS_set hok (gc_ok_num (hok.2 _ (List.mem_of_getElem? ho)))) (by rw [List.length_set]; exact hL) (by rw [List.length_set]; exact fun v hv => hT v (List.mem_cons_of_mem _ (List.mem_cons_of_mem _ hv))) ⟨hP, hD, hS⟩ hl
/-- a final field becomes a number -/
def gc_ff (own : String) (idx ci k : Nat) (ty : FieldType) : Prop := ∃ (C : String) (T : u_T) (N : Nat) (ty0 : Nat → FieldType), gk_cl ci C T N ty0 ∧ k < N ∧ Cond.fieldLink own idx (T k).1 (T k).2.1 (T k).2.2.1 ∈ gk_tb ∧ (T k).2.2.2 = true ∧ (T k).1 = own ∧ ty0 k = ty
theorem gc_putFN {idx ci k o : Nat} {ty : FieldType} {x : Int32} {pl : List Nat} {ns : List Int32} (hd : decode cc pc = .ok (.putfield idx, 3)) (hf : gc_ff own idx ci k ty) (ho : cs[o]? = some (ci, pl, ns)) (hp : pl[k]? = some 0) (hn : k < ns.length) (hx1 : narrow ty (.int x) = .int x) (hx2 : fits ty (.int x) = true) (kk : Gc own cc mL d mc ms (pc + 3) lv rest (cs.set o (ci, pl, ns.set k x)) cells slots Q) : Gc own cc mL d mc ms pc lv (.int x :: .ref o :: rest) cs cells slots Q := by
  intro p l e s m args below meth c D α cI cB cR z0 α0 n0 H locs ls hE h0 hn0 hok hL hT hH hl
  obtain ⟨C, T, N, ty0, ⟨hc, h1, h2, h3, h4⟩, hk, hlink, hfin, hdecl, hty⟩ := hf
  have hset : (gc_ws α cI cB cR cs).set o (α o, .inr (ci, (pl.mapIdx (fun j r => if r = 0 then Value.int (ns.getD j 0) else if r = 1 then Value.null else Value.ref (α (r - 2)))).set k (.int x))) = gc_ws α cI cB cR (cs.set o (ci, pl, ns.set k x)) := by
    rw [gc_ws_set, gc_objs hc, gc_set_num hp hn]
  refine va_putF (D := D) (v := .int x) (ty := ty) hE.1 hE.2.1 hE.2.2.2.2.2.2.1 h2 ty0 h3 h4 hE.2.2.2.2.2.1 hE.2.2.2.2.2.2.2.1 hH.1 hH.2.1 hH.2.2 o (fs := pl.mapIdx (fun j r => if r = 0 then Value.int (ns.getD j 0) else if r = 1 then Value.null else Value.ref (α (r - 2)))) ?_ h1 k hk (hE.2.2.2.2.2.2.1 _ hlink) (fun _ h => h) hfin hE.2.2.2.2.2.2.2.2.2.1 hdecl (by rw [h3 k hk, hty]) hx1 hx2 ?_ hd (fun H1 locs1 hP hD hS => ?_)
  · rw [gc_ws_get ho, gc_objs hc]
  · rw [List.length_mapIdx]
    exact (List.getElem?_eq_some_iff.mp hp).1
  · rw [hset] at hP hD
    exact kk p l e s m args below meth c D α cI cB cR z0 α0 n0 H1 locs1 ls hE h0 (by rw [List.length_set]; exact hn0) (gc_okS_set hok (gc_ok_num (hok.2 _ (List.mem_of_getElem? ho)))) (by rw [List.length_set]; exact hL) (by rw [List.length_set]; exact fun v hv => hT v (List.mem_cons_of_mem _ (List.mem_cons_of_mem _ hv))) ⟨hP, hD, hS⟩ hl
/-- a final field becomes a cell -/
theorem gc_putFR {idx ci k o i : Nat} {ty : FieldType} {pl : List Nat} {ns : List Int32} (hd : decode cc pc = .ok (.putfield idx, 3)) (hf : gc_ff own idx ci k ty) (ho : cs[o]? = some (ci, pl, ns)) (hp : k < pl.length) (hx : ∀ q, narrow ty (.ref q) = .ref q ∧ fits ty (.ref q) = true) (kk : Gc own cc mL d mc ms (pc + 3) lv rest (cs.set o (ci, pl.set k (i + 2), ns)) cells slots Q) : Gc own cc mL d mc ms pc lv (.ref i :: .ref o :: rest) cs cells slots Q := by
  intro p l e s m args below meth c D α cI cB cR z0 α0 n0 H locs ls hE h0 hn0 hok hL hT hH hl
  obtain ⟨C, T, N, ty0, ⟨hc, h1, h2, h3, h4⟩, hk, hlink, hfin, hdecl, hty⟩ := hf
  have hset : (gc_ws α cI cB cR cs).set o (α o, .inr (ci, (pl.mapIdx (fun j r => if r = 0 then Value.int (ns.getD j 0) else if r = 1 then Value.null else Value.ref (α (r - 2)))).set k (.ref (α i)))) = gc_ws α cI cB cR (cs.set o (ci, pl.set k (i + 2), ns)) := by
    rw [gc_ws_set, gc_objs hc, gc_set_ref]
  refine va_putF (D := D) (v := .ref (α i)) (ty := ty) hE.1 hE.2.1 hE.2.2.2.2.2.2.1 h2 ty0 h3 h4 hE.2.2.2.2.2.1 hE.2.2.2.2.2.2.2.1 hH.1 hH.2.1 hH.2.2 o (fs := pl.mapIdx (fun j r => if r = 0 then Value.int (ns.getD j 0) else if r = 1 then Value.null else Value.ref (α (r - 2)))) ?_ h1 k hk (hE.2.2.2.2.2.2.1 _ hlink) (fun _ h => h) hfin hE.2.2.2.2.2.2.2.2.2.1 hdecl (by rw [h3 k hk, hty]) (hx _).1 (hx _).2 ?_ hd (fun H1 locs1 hP hD hS => ?_)
  · rw [gc_ws_get ho, gc_objs hc]
  · rw [List.length_mapIdx]
    exact hp
  · rw [hset] at hP hD
    exact kk p l e s m args below meth c D α cI cB cR z0 α0 n0 H1 locs1 ls hE h0 (by rw [List.length_set]; exact hn0) (gc_okS_set hok (gc_ok_ref hc (hok.2 _ (List.mem_of_getElem? ho)) (hT (.ref i) List.mem_cons_self))) (by rw [List.length_set]; exact hL) (by rw [List.length_set]; exact fun v hv => hT v (List.mem_cons_of_mem _ (List.mem_cons_of_mem _ hv))) ⟨hP, hD, hS⟩ hl
theorem gc_env_ext {own : String} {D : va_G} {α β : Nat → Nat} {cI cB cR : ClassId} {z0 n : Nat} {p : Program} {s : State} {m : MethodId} {args : Array Value} {meth : Method} {c : Code} (hs : gc_same n β α) (hE : gc_Env own cc mL D α cI cB cR z0 p s m args meth c) : gc_Env own cc mL D β cI cB cR z0 p s m args meth c := by
  obtain ⟨e1, e2, e3, e4, e5, e6, e7, e8, e9, e10, e11, e12⟩ := hE
  refine ⟨e1, e2, e3, e4, e5, e6, e7, e8, e9, e10, ?_, e12⟩
  unfold gc_SR
  rw [hs 1000 (by unfold gc_okr; simp), hs 1001 (by unfold gc_okr; simp)]
  exact e11
/-- new -/
theorem gc_new {idx ci N : Nat} {C : String} {T : u_T} {ty0 : Nat → FieldType} (pl : List Nat) (hd : decode cc pc = .ok (.new idx, 3)) (hcl : gk_cl ci C T N ty0) (w1 : Cond.classLink own idx C ∈ gk_tb) (w2 : Cond.instantiable C N ∈ gk_tb) (w3 : Cond.initialized C ∈ gk_tb) (hpl : ∀ j, j < N → (pl[j]? = some 0 ∧ defaultValue (ty0 j) = .int 0) ∨ (pl[j]? = some 1 ∧ defaultValue (ty0 j) = .null)) (hp2 : pl.all (fun r => decide (r < 2)) = true) (hlen : cs.length < 900) (hcm : cells + 1 ≤ mc) (hsm : slots + N ≤ ms) (kk : Gc own cc mL d mc ms (pc + 3) lv (.ref cs.length :: rest) (cs ++ [(ci, pl, List.replicate N 0)]) (cells + 1) (slots + N) Q) : Gc own cc mL d mc ms pc lv rest cs cells slots Q := by
  intro p l e s m args below meth c D α cI cB cR z0 α0 n0 H locs ls hE h0 hn0 hok hL hT hH hl
  obtain ⟨hc, h1, h2, h3, h4⟩ := hcl
  have ht := hE.2.2.2.2.2.2.1
  refine va_new (fs := pl.mapIdx (fun j r => if r = 0 then Value.int ((List.replicate N (0 : Int32)).getD j 0) else if r = 1 then Value.null else Value.ref (α (r - 2)))) hE.1 hE.2.1 ht h2 ty0 h3 hE.2.2.2.2.2.1 (ht _ w1) (ht _ w2) (ht _ w3) hE.2.2.2.2.2.2.2.1 hH.1 hH.2.1 hH.2.2 (fun q hq => Nat.le_trans hE.2.2.2.2.2.2.2.2.1 hq) h1 (fun j hj => ?_) hcm hsm hd (fun q H1 hP hD hS => ?_)
  · unfold vp_V
    rw [List.getD_eq_getElem?_getD, List.getElem?_mapIdx]
    rcases hpl j hj with ⟨a1, a2⟩ | ⟨a1, a2⟩
    · rw [a1, a2]
      simp [hj]
    · rw [a1, a2]
      simp
  · have hsm : gc_same cs.length (gc_ext α cs.length q) α := gc_ext_same (by omega)
    have hw : gc_ws α cI cB cR cs ++ [(q, .inr (ci, pl.mapIdx (fun j r => if r = 0 then Value.int ((List.replicate N (0 : Int32)).getD j 0) else if r = 1 then Value.null else Value.ref (α (r - 2)))))] = gc_ws (gc_ext α cs.length q) cI cB cR (cs ++ [(ci, pl, List.replicate N 0)]) := by
      rw [gc_ws_app, gc_ws_same hsm hok]
      congr 1
      show _ = [(gc_ext α cs.length q (cs.length + 0), gc_ce (gc_ext α cs.length q) cI cB cR (ci, pl, List.replicate N 0))]
      have e9 : gc_ext α cs.length q (cs.length + 0) = q := by unfold gc_ext; simp
      have hokc : gc_okc cs.length (ci, pl, List.replicate N 0) = true := by
        unfold gc_okc
        dsimp only
        rw [if_neg (by omega), if_neg (by omega), List.all_eq_true]
        intro r hr
        have := List.all_eq_true.mp hp2 r hr
        simp only [Bool.or_eq_true]
        exact Or.inl this
      rw [e9, gc_ce_same hsm hokc, gc_objs hc]
    rw [hw] at hP hD
    have hl9 : (cs ++ [((ci, pl, List.replicate N 0) : gc_C)]).length = cs.length + 1 := by simp
    have hT9 : gc_okT (cs ++ [((ci, pl, List.replicate N 0) : gc_C)]).length (.ref cs.length :: rest) := by
      rw [hl9]
      refine List.forall_mem_cons.mpr ⟨?_, gc_okT_mono (Nat.le_succ _) hT⟩
      unfold gc_okv gc_okr
      simp
    have hst : (.ref q :: rest.map (gk_tr α)) = (Value.ref cs.length :: rest).map (gk_tr (gc_ext α cs.length q)) := by
      rw [List.map_cons, gc_st_same hsm hT]
      have e9 : gc_ext α cs.length q cs.length = q := by unfold gc_ext; simp
      show _ = Value.ref (gc_ext α cs.length q cs.length) :: _
      rw [e9]
    rw [hst]
    refine kk p l e s m args below meth c D (gc_ext α cs.length q) cI cB cR z0 α0 n0 H1 locs ls (gc_env_ext hsm hE) (gc_same_trans hn0 hsm h0) (by rw [hl9]; omega) ?_ (by rw [hl9]; exact gc_okL_mono (Nat.le_succ _) hL) hT9 ⟨hP, hD, hS⟩ (by rw [gc_lv_same hsm hL]; exact hl)
    refine gc_okS_push hok (by rw [hl9]; omega) (fun x hx => ?_)
    rw [List.mem_singleton.mp hx]
    unfold gc_okc
    dsimp only
    rw [if_neg (by omega), if_neg (by omega), List.all_eq_true]
    intro r hr
    have := List.all_eq_true.mp hp2 r hr
    simp only [Bool.or_eq_true]
    exact Or.inl this
theorem gc_okc_row {n k : Nat} {pl : List Nat} {ns : List Int32} (h : k = 100 ∨ k = 101) : gc_okc n (k, pl, ns) = true := by
  unfold gc_okc
  dsimp only
  rw [if_neg (by omega), if_pos h]
theorem gc_row_i {α : Nat → Nat} {cI cB cR : ClassId} {n : Nat} {ns : List Int32} : gc_ce α cI cB cR (100, [n], ns) = .inl (cI, n, .inl (fun _ => 0)) := rfl
theorem gc_row_b {α : Nat → Nat} {cI cB cR : ClassId} {n : Nat} {ns : List Int32} : gc_ce α cI cB cR (101, [n], ns) = .inl (cB, n, .inl (fun _ => 0)) := rfl
/-- new int[n] -/
theorem gc_newI {x : Int32} (n : Nat) (hd : decode cc pc = .ok (.newarray .int, 2)) (w1 : Cond.arrayClass .int ∈ gk_tb) (hx : ¬ x < 0) (hn : x.toNatClampNeg = n) (hb : n ≤ 1000) (hlen : cs.length < 900) (hcm : cells + 1 ≤ mc) (hsm : slots + n ≤ ms) (kk : Gc own cc mL d mc ms (pc + 2) lv (.ref cs.length :: rest) (cs ++ [(100, [n], [])]) (cells + 1) (slots + n) Q) : Gc own cc mL d mc ms pc lv (.int x :: rest) cs cells slots Q := by
  intro p l e s m args below meth c D α cI cB cR z0 α0 n0 H locs ls hE h0 hn0 hok hL hT hH hl
  have ht := hE.2.2.2.2.2.2.1
  have hK := hE.2.2.2.2.2.2.2.1
  refine va_newa (atype := .int) (ty := .int) (a0 := (n, .inl (fun _ => 0))) (N' := n) hE.1 hE.2.1 (ht _ w1) rfl hK hH.1 hH.2.1 hH.2.2 (fun q hq => Nat.le_trans hE.2.2.2.2.2.2.2.2.1 hq) (fun _ => rfl) hx hn (by show n * 4 ≤ _; omega) hcm hsm hd (fun q cA H1 hK2 hP hD hS => ?_)
  have hcA : cA = cI := by
    have a1 := (hK2.2 3 (cA, .int) rfl).2
    have a2 := (hK.2 0 (cI, .int) rfl).2
    exact Option.some.inj (a1.symm.trans a2)
  subst hcA
  have hsm : gc_same cs.length (gc_ext α cs.length q) α := gc_ext_same (by omega)
  have hw : gc_ws α cA cB cR cs ++ [(q, .inl (cA, n, .inl (fun _ => 0)))] = gc_ws (gc_ext α cs.length q) cA cB cR (cs ++ [(100, [n], [])]) := by
    rw [gc_ws_app, gc_ws_same hsm hok]
    congr 1
    show _ = [(gc_ext α cs.length q (cs.length + 0), gc_ce (gc_ext α cs.length q) cA cB cR (100, [n], []))]
    have e9 : gc_ext α cs.length q (cs.length + 0) = q := by unfold gc_ext; simp
    rw [e9, gc_row_i]
  rw [hw] at hP hD
  have hl9 : (cs ++ [((100, [n], []) : gc_C)]).length = cs.length + 1 := by simp
  have hT9 : gc_okT (cs ++ [((100, [n], []) : gc_C)]).length (.ref cs.length :: rest) := by
    rw [hl9]
    refine List.forall_mem_cons.mpr ⟨?_, gc_okT_mono (Nat.le_succ _) (fun v hv => hT v (List.mem_cons_of_mem _ hv))⟩
    unfold gc_okv gc_okr
    simp
  have hst : (.ref q :: rest.map (gk_tr α)) = (Value.ref cs.length :: rest).map (gk_tr (gc_ext α cs.length q)) := by
    rw [List.map_cons, gc_st_same hsm (fun v hv => hT v (List.mem_cons_of_mem _ hv))]
    have e9 : gc_ext α cs.length q cs.length = q := by unfold gc_ext; simp
    show _ = Value.ref (gc_ext α cs.length q cs.length) :: _
    rw [e9]
  rw [hst]
  exact kk p l e s m args below meth c D (gc_ext α cs.length q) cA cB cR z0 α0 n0 H1 locs ls (gc_env_ext hsm hE) (gc_same_trans hn0 hsm h0) (by rw [hl9]; omega) (gc_okS_push hok (by rw [hl9]; omega) (fun x hx => by rw [List.mem_singleton.mp hx]; exact gc_okc_row (Or.inl rfl))) (by rw [hl9]; exact gc_okL_mono (Nat.le_succ _) hL) hT9 ⟨hP, hD, hS⟩ (by rw [gc_lv_same hsm hL]; exact hl)
/-- new boolean[n] -/
theorem gc_newZ {x : Int32} (n : Nat) (hd : decode cc pc = .ok (.newarray .boolean, 2)) (w1 : Cond.arrayClass .boolean ∈ gk_tb) (hx : ¬ x < 0) (hn : x.toNatClampNeg = n) (hb : n ≤ 1000) (hlen : cs.length < 900) (hcm : cells + 1 ≤ mc) (hsm : slots + n ≤ ms) (kk : Gc own cc mL d mc ms (pc + 2) lv (.ref cs.length :: rest) (cs ++ [(101, [n], [])]) (cells + 1) (slots + n) Q) : Gc own cc mL d mc ms pc lv (.int x :: rest) cs cells slots Q := by
  intro p l e s m args below meth c D α cI cB cR z0 α0 n0 H locs ls hE h0 hn0 hok hL hT hH hl
  have ht := hE.2.2.2.2.2.2.1
  have hK := hE.2.2.2.2.2.2.2.1
  refine va_newa (atype := .boolean) (ty := .boolean) (a0 := (n, .inl (fun _ => 0))) (N' := n) hE.1 hE.2.1 (ht _ w1) rfl hK hH.1 hH.2.1 hH.2.2 (fun q hq => Nat.le_trans hE.2.2.2.2.2.2.2.2.1 hq) (fun _ => rfl) hx hn (by show n * 1 ≤ _; omega) hcm hsm hd (fun q cA H1 hK2 hP hD hS => ?_)
  have hcA : cA = cB := by
    have a1 := (hK2.2 3 (cA, .boolean) rfl).2
    have a2 := (hK.2 1 (cB, .boolean) rfl).2
    exact Option.some.inj (a1.symm.trans a2)
  subst hcA
  have hsm : gc_same cs.length (gc_ext α cs.length q) α := gc_ext_same (by omega)
  have hw : gc_ws α cI cA cR cs ++ [(q, .inl (cA, n, .inl (fun _ => 0)))] = gc_ws (gc_ext α cs.length q) cI cA cR (cs ++ [(101, [n], [])]) := by
    rw [gc_ws_app, gc_ws_same hsm hok]
    congr 1
    show _ = [(gc_ext α cs.length q (cs.length + 0), gc_ce (gc_ext α cs.length q) cI cA cR (101, [n], []))]
    have e9 : gc_ext α cs.length q (cs.length + 0) = q := by unfold gc_ext; simp
    rw [e9, gc_row_b]
  rw [hw] at hP hD
  have hl9 : (cs ++ [((101, [n], []) : gc_C)]).length = cs.length + 1 := by simp
  have hT9 : gc_okT (cs ++ [((101, [n], []) : gc_C)]).length (.ref cs.length :: rest) := by
    rw [hl9]
    refine List.forall_mem_cons.mpr ⟨?_, gc_okT_mono (Nat.le_succ _) (fun v hv => hT v (List.mem_cons_of_mem _ hv))⟩
    unfold gc_okv gc_okr
    simp
  have hst : (.ref q :: rest.map (gk_tr α)) = (Value.ref cs.length :: rest).map (gk_tr (gc_ext α cs.length q)) := by
    rw [List.map_cons, gc_st_same hsm (fun v hv => hT v (List.mem_cons_of_mem _ hv))]
    have e9 : gc_ext α cs.length q cs.length = q := by unfold gc_ext; simp
    show _ = Value.ref (gc_ext α cs.length q cs.length) :: _
    rw [e9]
  rw [hst]
  exact kk p l e s m args below meth c D (gc_ext α cs.length q) cI cA cR z0 α0 n0 H1 locs ls (gc_env_ext hsm hE) (gc_same_trans hn0 hsm h0) (by rw [hl9]; omega) (gc_okS_push hok (by rw [hl9]; omega) (fun x hx => by rw [List.mem_singleton.mp hx]; exact gc_okc_row (Or.inr rfl))) (by rw [hl9]; exact gc_okL_mono (Nat.le_succ _) hL) hT9 ⟨hP, hD, hS⟩ (by rw [gc_lv_same hsm hL]; exact hl)
end GcMore
