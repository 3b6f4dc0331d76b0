def gc_nest : List (String × Nat × MethodName) := [(RX7, 42, yX0_init), (RX7, 49, yX4_init), (RX7, 56, yX3_init), (RX7, 72, yX1_init), (RX7, 79, yX2_init)]
/-! CONSTRUCTORS. While they run the cells are a list cs: (kind, what it holds: 0 a number, 1 null, r + 2 cell r; of a row its length, of a row of rows the rows; the numbers). Gc is Go's sister: the list grows. -/
abbrev gc_C : Type := Nat × List Nat × List Int32
def gc_ce (α : Nat → Nat) (cI cB cR : ClassId) (c : gc_C) : va_E :=
  if c.1 = 100 then .inl (cI, c.2.1.getD 0 0, .inl (fun _ => 0)) else if c.1 = 101 then .inl (cB, c.2.1.getD 0 0, .inl (fun _ => 0)) else if c.1 = 102 then .inl (cR, c.2.1.length, .inr (.inr (.inr (.inr (fun i => (c.2.1[i]?).map α))))) else .inr (c.1, c.2.1.mapIdx (fun j r => if r = 0 then Value.int (c.2.2.getD j 0) else if r = 1 then Value.null else Value.ref (α (r - 2))))
def gc_ws (α : Nat → Nat) (cI cB cR : ClassId) (cs : List gc_C) : va_W := cs.mapIdx (fun i c => (α i, gc_ce α cI cB cR c))
def gc_okr (n i : Nat) : Bool := decide (i < n) || decide (1000 ≤ i)
def gc_okv (n : Nat) (v : Value) : Bool := match v with
  | .ref i => gc_okr n i
  | _ => true
def gc_okc (n : Nat) (c : gc_C) : Bool := if c.1 = 102 then c.2.1.all (fun r => gc_okr n r) else if c.1 = 100 ∨ c.1 = 101 then true else c.2.1.all (fun r => decide (r < 2) || gc_okr n (r - 2))
def gc_okS (cs : List gc_C) : Prop := cs.length < 1000 ∧ ∀ c ∈ cs, gc_okc cs.length c = true
def gc_okL (n : Nat) (lv : List (Nat × Value)) : Prop := ∀ q ∈ lv, gc_okv n q.2 = true
def gc_okT (n : Nat) (st : List Value) : Prop := ∀ v ∈ st, gc_okv n v = true
theorem gc_okr_mono {n m i : Nat} (h : n ≤ m) (hi : gc_okr n i = true) : gc_okr m i = true := by
  unfold gc_okr at *
  simp only [Bool.or_eq_true, decide_eq_true_eq] at *
  omega
theorem gc_okv_mono {n m : Nat} {v : Value} (h : n ≤ m) (hi : gc_okv n v = true) : gc_okv m v = true := by
  cases v <;> first | exact gc_okr_mono h hi | rfl
theorem gc_okc_mono {n m : Nat} {c : gc_C} (h : n ≤ m) (hi : gc_okc n c = true) : gc_okc m c = true := by
  unfold gc_okc at *
  by_cases h2 : c.1 = 102
  · rw [if_pos h2, List.all_eq_true] at *
    exact fun r hr => gc_okr_mono h (hi r hr)
  · by_cases h3 : c.1 = 100 ∨ c.1 = 101
    · rw [if_neg h2, if_pos h3]
    · rw [if_neg h2, if_neg h3, List.all_eq_true] at *
      intro r hr
      have := hi r hr
      simp only [Bool.or_eq_true] at *
      exact this.imp id (gc_okr_mono h)
/-- two ways to say where the cells are, the same on those that count -/
def gc_same (n : Nat) (α β : Nat → Nat) : Prop := ∀ i, gc_okr n i = true → α i = β i
theorem gc_tr_same {n : Nat} {α β : Nat → Nat} (h : gc_same n α β) {v : Value} (hv : gc_okv n v = true) : gk_tr α v = gk_tr β v := by
  cases v <;> first | rfl | exact congrArg Value.ref (h _ hv)
theorem gc_ce_same {n : Nat} {α β : Nat → Nat} {cI cB cR : ClassId} (h : gc_same n α β) {c : gc_C} (hc : gc_okc n c = true) : gc_ce α cI cB cR c = gc_ce β cI cB cR c := by
  obtain ⟨k, l, ns⟩ := c
  unfold gc_okc at hc
  unfold gc_ce
  dsimp only at *
  by_cases h0 : k = 100
  · rw [if_pos h0, if_pos h0]
  · rw [if_neg h0, if_neg h0]
    by_cases h1 : k = 101
    · rw [if_pos h1, if_pos h1]
    · rw [if_neg h1, if_neg h1]
      by_cases h2 : k = 102
      · rw [if_pos h2, if_pos h2]
        rw [if_pos h2, List.all_eq_true] at hc
        have e : (fun i : Nat => (l[i]?).map α) = (fun i : Nat => (l[i]?).map β) := by
          funext i
          cases hl : l[i]? with
          | none => rfl
          | some r => exact congrArg some (h r (hc r (List.mem_of_getElem? hl)))
        rw [e]
      · rw [if_neg h2, if_neg h2]
        by_cases h3 : k = 100 ∨ k = 101
        · exact absurd h3 (by omega)
        · rw [if_neg h2, if_neg h3, List.all_eq_true] at hc
          refine congrArg (fun z => Sum.inr (k, z)) ?_
          apply List.ext_getElem?
          intro j
          rw [List.getElem?_mapIdx, List.getElem?_mapIdx]
          cases hl : l[j]? with
          | none => rfl
          | some r =>
            have := hc r (List.mem_of_getElem? hl)
            simp only [Bool.or_eq_true, decide_eq_true_eq] at this
            show some _ = some _
            dsimp only
            by_cases r0 : r = 0
            · rw [if_pos r0, if_pos r0]
            · rw [if_neg r0, if_neg r0]
              by_cases r1 : r = 1
              · rw [if_pos r1, if_pos r1]
              · rw [if_neg r1, if_neg r1, h (r - 2) (this.resolve_left (by omega))]
theorem gc_ws_get {α : Nat → Nat} {cI cB cR : ClassId} {cs : List gc_C} {o : Nat} {c : gc_C} (h : cs[o]? = some c) : (gc_ws α cI cB cR cs)[o]? = some (α o, gc_ce α cI cB cR c) := by
  unfold gc_ws
  rw [List.getElem?_mapIdx, h]
  rfl
theorem gc_ws_same {α β : Nat → Nat} {cI cB cR : ClassId} {cs : List gc_C} (hs : gc_same cs.length α β) (hok : gc_okS cs) : gc_ws α cI cB cR cs = gc_ws β cI cB cR cs := by
  apply List.ext_getElem?
  intro j
  unfold gc_ws
  rw [List.getElem?_mapIdx, List.getElem?_mapIdx]
  cases hl : cs[j]? with
  | none => rfl
  | some c =>
    have hj : j < cs.length := (List.getElem?_eq_some_iff.mp hl).1
    show some _ = some _
    dsimp only
    rw [hs j (by unfold gc_okr; simp [hj]), gc_ce_same hs (hok.2 c (List.mem_of_getElem? hl))]
theorem gc_ws_app {α : Nat → Nat} {cI cB cR : ClassId} {cs ds : List gc_C} : gc_ws α cI cB cR (cs ++ ds) = gc_ws α cI cB cR cs ++ ds.mapIdx (fun i c => (α (cs.length + i), gc_ce α cI cB cR c)) := by
  unfold gc_ws
  rw [List.mapIdx_append]
  congr 1
  apply List.ext_getElem?
  intro j
  rw [List.getElem?_mapIdx, List.getElem?_mapIdx, Nat.add_comm]
theorem gc_ws_set {α : Nat → Nat} {cI cB cR : ClassId} {cs : List gc_C} {o : Nat} {c : gc_C} : gc_ws α cI cB cR (cs.set o c) = (gc_ws α cI cB cR cs).set o (α o, gc_ce α cI cB cR c) := by
  apply List.ext_getElem?
  intro j
  unfold gc_ws
  rw [List.getElem?_mapIdx, List.getElem?_set, List.getElem?_set, List.length_mapIdx, List.getElem?_mapIdx]
  by_cases e : o = j
  · subst e
    by_cases h : o < cs.length
    · simp [h]
    · simp [h]
  · simp [e]
theorem gc_okS_push {cs ds : List gc_C} (h : gc_okS cs) (hl : (cs ++ ds).length < 1000) (hd : ∀ c ∈ ds, gc_okc (cs ++ ds).length c = true) : gc_okS (cs ++ ds) := by
  refine ⟨hl, fun c hc => ?_⟩
  rcases List.mem_append.mp hc with q | q
  · exact gc_okc_mono (by rw [List.length_append]; omega) (h.2 c q)
  · exact hd c q
theorem gc_okS_set {cs : List gc_C} {o : Nat} {c : gc_C} (h : gc_okS cs) (hc : gc_okc cs.length c = true) : gc_okS (cs.set o c) := by
  refine ⟨by rw [List.length_set]; exact h.1, fun x hx => ?_⟩
  rw [List.length_set]
  rcases List.mem_or_eq_of_mem_set hx with q | q
  · exact h.2 x q
  · rw [q]
    exact hc
theorem gc_okL_mono {n m : Nat} {lv : List (Nat × Value)} (h : n ≤ m) (hl : gc_okL n lv) : gc_okL m lv := fun q hq => gc_okv_mono h (hl q hq)
theorem gc_okT_mono {n m : Nat} {st : List Value} (h : n ≤ m) (hl : gc_okT n st) : gc_okT m st := fun q hq => gc_okv_mono h (hl q hq)
theorem gc_lv_same {n : Nat} {α β : Nat → Nat} (h : gc_same n α β) {lv : List (Nat × Value)} (hl : gc_okL n lv) : lv.map (fun q => (q.1, gk_tr α q.2)) = lv.map (fun q => (q.1, gk_tr β q.2)) := List.map_congr_left fun q hq => by rw [gc_tr_same h (hl q hq)]
theorem gc_st_same {n : Nat} {α β : Nat → Nat} (h : gc_same n α β) {st : List Value} (hl : gc_okT n st) : st.map (gk_tr α) = st.map (gk_tr β) := List.map_congr_left fun q hq => gc_tr_same h (hl q hq)
/-- one more place -/
def gc_ext (α : Nat → Nat) (n q : Nat) : Nat → Nat := fun i => if i = n then q else α i
theorem gc_ext_same {α : Nat → Nat} {n q : Nat} (hn : n < 1000) : gc_same n (gc_ext α n q) α := fun i hi => by
  unfold gc_okr at hi
  simp only [Bool.or_eq_true, decide_eq_true_eq] at hi
  unfold gc_ext
  rw [if_neg (by omega)]
theorem gc_same_trans {n m : Nat} {α β γ : Nat → Nat} (h : n ≤ m) (h1 : gc_same m α β) (h2 : gc_same n β γ) : gc_same n α γ := fun i hi => (h1 i (gc_okr_mono h hi)).trans (h2 i hi)
def gc_rm (d mc ms : Nat) : Room := { frames := d, cells := mc, slots := ms, locals := 40 * d }
def gc_SR (α : Nat → Nat) (U : State) : Prop := vk_R "CableCars" 26 "osg" (α 1000) U ∧ vk_R "CableCars" 35 "bt" (α 1001) U
def gc_NS (U : State) : Prop := ∀ q ∈ gc_nest, va_Nw (.methodLinkNest q.1 q.2.1 q.2.2 "CableCars") U
def gc_AO (U : State) : Prop := va_AOA .int U
theorem gc_AO_spec {s : State} (h : gc_AO s) : ∃ (comp c : ClassId) (k : Class), s.vm.findClass (FieldType.array .int).toString = some comp ∧ (s.vm.classes.findIdx? fun (x : Class) => match x.kind with | .array component _ => component == comp | _ => false) = some c ∧ s.vm.classes[c]? = some k ∧ k.kind = .array comp (.array .int) ∧ s.vm.findClass ("[" ++ (FieldType.array .int).toString) = some c := by
  unfold gc_AO va_AOA Cond.before at h
  simp only [Cond.holds, Cond.value, beq_iff_eq] at h
  cases hc : s.vm.findClass (FieldType.array .int).toString with
  | none => simp [hc] at h
  | some comp =>
    simp only [hc, Option.bind_some, Option.bind_eq_some_iff, Option.map_eq_some_iff] at h
    obtain ⟨c, hi, k, hk, hb⟩ := h
    obtain ⟨hlt, hp, -⟩ := Array.findIdx?_eq_some_iff_getElem.mp hi
    have hkk : s.vm.classes[c] = k := (Array.getElem?_eq_some_iff.mp hk).2
    rw [hkk] at hp
    cases hkind : k.kind with
    | array component ty =>
      rw [hkind] at hb hp
      simp at hb hp
      exact ⟨comp, c, k, rfl, hi, hk, by rw [hkind, hp, hb.1], hb.2⟩
    | _ => rw [hkind] at hb; simp at hb
theorem gc_AO.moved {u U : State} (hvm : u.vm.Alike U.vm) (h : gc_AO u) : gc_AO U := by
  obtain ⟨comp, c, k, h1, h2, h3, h4, h5⟩ := gc_AO_spec h
  obtain ⟨k', hk', he⟩ := hvm.2.2 _ _ h3
  have hi : (U.vm.classes.findIdx? fun (x : Class) => match x.kind with | .array component _ => component == comp | _ => false) = some c := by
    have e0 := va_idx_bare U.vm comp
    have e1 := va_idx_bare u.vm comp
    first | rw [hvm.bare_eq] at e0 | rw [← hvm.bare_eq] at e0
    exact (e0.symm.trans e1).trans h2
  have hkind : k'.kind = .array comp (.array .int) := by rw [he]; exact h4
  have f1 : U.vm.findClass (FieldType.array .int).toString = some comp := by rw [hvm.findClass]; exact h1
  have f2 : U.vm.findClass ("[" ++ (FieldType.array .int).toString) = some c := by rw [hvm.findClass]; exact h5
  unfold gc_AO va_AOA Cond.before Cond.holds
  simp only [Cond.value]
  rw [f1, Option.bind_some]
  refine (congrArg (fun o : Option Nat => (o.bind (fun c => (U.vm.classes[c]?).map fun (k : Class) => match k.kind with | .array _ ty => decide (ty = FieldType.array .int) && decide (U.vm.findClass ("[" ++ (FieldType.array .int).toString) = some c) | _ => false) == some true)) hi).trans ?_
  simp [hk', hkind, f2]
def gc_Env (own : String) (cc : ByteArray) (mL : Nat) (D : va_G) (α : Nat → Nat) (cI cB cR : ClassId) (z0 : Nat) (p : Program) (s : State) (m : MethodId) (args : Array Value) (meth : Method) (c : Code) : Prop :=
  p.tables.exec = Jvm.exec ∧ c.code = cc ∧ c.maxLocals = mL ∧ meth.sig.returnType = none ∧ meth.locks = false ∧ s.vm.findClass own = some m.cls ∧ (∀ w ∈ gk_tb, w.before args s = true) ∧ va_K D vwCl (gk_tys cI cB cR) s ∧ z0 ≤ s.heap.size ∧ meth.name = "<init>" ∧ gc_SR α s ∧ gc_NS s ∧ gc_AO s
def gc_H (D : va_G) (α : Nat → Nat) (cI cB cR : ClassId) (z0 : Nat) (cs : List gc_C) (s : State) (H : Heap) (locs : List Loc) : Prop :=
  va_P D vwCl (gc_ws α cI cB cR cs) H ∧ va_D (gk_A0 z0) (gc_ws α cI cB cR cs) ∧ va_S (gk_A0 z0) s.heap H locs
def gc_Qc (D : va_G) (α0 : Nat → Nat) (n0 : Nat) (cI cB cR : ClassId) (z0 : Nat) (Q : List gc_C → Prop) : Array Value → State → Outcome → State → Prop := fun _ st o t =>
  (∃ (α : Nat → Nat) (cs : List gc_C), o = .returned none ∧ gc_same n0 α α0 ∧ n0 ≤ cs.length ∧ gc_okS cs ∧ Q cs ∧ va_P D vwCl (gc_ws α cI cB cR cs) t.heap ∧ va_K D vwCl (gk_tys cI cB cR) t ∧ va_D (gk_A0 z0) (gc_ws α cI cB cR cs)) ∧ va_F (gk_A0 z0) st t
def Gc (own : String) (cc : ByteArray) (mL d mc ms pc : Nat) (lv : List (Nat × Value)) (st : List Value) (cs : List gc_C) (cells slots : Nat) (Q : List gc_C → Prop) : Prop :=
  ∀ (p : Program) (l : Launch) (e : Env) (s : State) (m : MethodId) (args : Array Value) (below : List Frame) (meth : Method) (c : Code) (D : va_G) (α : Nat → Nat) (cI cB cR : ClassId) (z0 : Nat) (α0 : Nat → Nat) (n0 : Nat) (H : Heap) (locs : List Loc) (ls : Array Slot),
    gc_Env own cc mL D α cI cB cR z0 p s m args meth c → gc_same n0 α α0 → n0 ≤ cs.length → gc_okS cs → gc_okL cs.length lv → gc_okT cs.length st → gc_H D α cI cB cR z0 cs s H locs → lv_has ls mL (lv.map (fun q => (q.1, gk_tr α q.2))) →
    W p l e (gc_rm d mc ms) s m args below meth c H locs cells slots (MQ below (gc_Qc D α0 n0 cI cB cR z0 Q) args s mc ms (gk_A0 z0)) (F0 m pc ls (st.map (gk_tr α)))
def gc_Pc (D : va_G) (α : Nat → Nat) (cI cB cR : ClassId) (z0 : Nat) (avs : List Value) (cs : List gc_C) : Array Value → State → Prop :=
  va_Pc (avs.map (gk_tr α)) (fun U => z0 ≤ U.heap.size ∧ va_P D vwCl (gc_ws α cI cB cR cs) U.heap ∧ va_K D vwCl (gk_tys cI cB cR) U ∧ va_D (gk_A0 z0) (gc_ws α cI cB cR cs) ∧ gc_okS cs ∧ gc_SR α U ∧ gc_NS U ∧ gc_AO U)
def gc_CT (y : MethodName) (cc : ByteArray) (mL d mc ms : Nat) (avs : List Value) (cs : List gc_C) (Q : List gc_C → Prop) : Prop :=
  ∀ (l : Launch) (D : va_G) (α : Nat → Nat) (cI cB cR : ClassId) (z0 : Nat), Met l y (Cond.code y cc mL none :: gk_tb) (gc_rm d mc ms) (gc_Pc D α cI cB cR z0 avs cs) (gc_Qc D α cs.length cI cB cR z0 Q) mc ms (gk_A0 z0)
theorem gc_enter {y : MethodName} {cc : ByteArray} {mL d mc ms : Nat} {avs : List Value} {cs : List gc_C} {Q : List gc_C → Prop} (hy : plainName y.cls = true) (hn : y.name = "<init>") (hlen : (lg_sl avs).length ≤ mL) (hokL : gc_okL cs.length (lv_args 0 avs)) (k : Gc y.cls cc mL d mc ms 0 (lv_args 0 avs) [] cs 0 0 Q) : gc_CT y cc mL d mc ms avs cs Q := by
  intro l D α cI cB cR z0
  refine Met.ofW (cc := cc) (maxL := mL) (ret := none) hy rfl ?_
  intro p e s m args below meth c s₁ B hml hv
  obtain ⟨rfl, hz, hP, hK, hD0, hok, hSR, hNS, hAO⟩ := hv
  have hts := atoms_spec (ws := Cond.code y cc mL none :: gk_tb) B.pre
  have hl := lv_entry (avs.map (gk_tr α)) (n := mL) (by rw [gk_sl_len]; exact hlen)
  rw [lg_entry_eq]
  rw [gk_lv_args] at hl
  exact k p l e s m _ below meth c D α cI cB cR z0 α cs.length s.heap [] _ ⟨B.exec, B.bytes, hml, B.returns, B.notSynchronized, findClass_of_methodNamed B.named, fun w hw => hts w (List.mem_cons_of_mem _ hw), hK, hz, ((name_of_methodNamed B.named B.method).1).trans hn, hSR, hNS, hAO⟩ (fun _ _ => rfl) (Nat.le_refl _) hok hokL (fun _ h => by cases h) ⟨hP, hD0, va_S.rf⟩ hl
section GcRules
variable {own : String} {cc : ByteArray} {mL d mc ms pc : Nat} {lv : List (Nat × Value)} {rest : List Value} {cs : List gc_C} {cells slots : Nat} {Q : List gc_C → Prop}
theorem gc_aload_n {j : Fin 4} {i x : Nat} (n : Nat) (hd : decode cc pc = .ok (.aload_n j, 1)) (hi : (j : Nat) = i) (hk : lv[n]? = some (i, .ref x)) (k : Gc own cc mL d mc ms (pc + 1) lv (.ref x :: rest) cs cells slots Q) : Gc own cc mL d mc ms pc lv rest cs cells slots Q := by
  intro p l e s m args below meth c D α cI cB cR z0 α0 n0 H locs ls hE h0 hn0 hok hL hT hH hl
  exact lv_aload_n hE.1 hE.2.1 hd hi (gk_lv_at hl hk) (k p l e s m args below meth c D α cI cB cR z0 α0 n0 H locs ls hE h0 hn0 hok hL (List.forall_mem_cons.mpr ⟨hL _ (List.mem_of_getElem? hk), hT⟩) hH hl)
theorem gc_iload_n {j : Fin 4} {i : Nat} {x : Int32} (n : Nat) (hd : decode cc pc = .ok (.iload_n j, 1)) (hi : (j : Nat) = i) (hk : lv[n]? = some (i, .int x)) (k : Gc own cc mL d mc ms (pc + 1) lv (.int x :: rest) cs cells slots Q) : Gc own cc mL d mc ms pc lv rest cs cells slots Q := by
  intro p l e s m args below meth c D α cI cB cR z0 α0 n0 H locs ls hE h0 hn0 hok hL hT hH hl
  exact lv_iload_n hE.1 hE.2.1 hd hi (gk_lv_at hl hk) (k p l e s m args below meth c D α cI cB cR z0 α0 n0 H locs ls hE h0 hn0 hok hL (List.forall_mem_cons.mpr ⟨rfl, hT⟩) hH hl)
theorem gc_iconst {n : Int} {v : Int32} (hd : decode cc pc = .ok (.iconst n, 1)) (hv : Int32.ofInt n = v) (k : Gc own cc mL d mc ms (pc + 1) lv (.int v :: rest) cs cells slots Q) : Gc own cc mL d mc ms pc lv rest cs cells slots Q := by
  intro p l e s m args below meth c D α cI cB cR z0 α0 n0 H locs ls hE h0 hn0 hok hL hT hH hl
  exact lv_iconst hE.1 hE.2.1 hd hv (k p l e s m args below meth c D α cI cB cR z0 α0 n0 H locs ls hE h0 hn0 hok hL (List.forall_mem_cons.mpr ⟨rfl, hT⟩) hH hl)
theorem gc_bipush {n : Int} {v : Int32} (hd : decode cc pc = .ok (.bipush n, 2)) (hv : (Int8.ofInt n).toInt32 = v) (k : Gc own cc mL d mc ms (pc + 2) lv (.int v :: rest) cs cells slots Q) : Gc own cc mL d mc ms pc lv rest cs cells slots Q := by
  intro p l e s m args below meth c D α cI cB cR z0 α0 n0 H locs ls hE h0 hn0 hok hL hT hH hl
  exact lv_bipush hE.1 hE.2.1 hd hv (k p l e s m args below meth c D α cI cB cR z0 α0 n0 H locs ls hE h0 hn0 hok hL (List.forall_mem_cons.mpr ⟨rfl, hT⟩) hH hl)
theorem gc_sipush {n : Int} {v : Int32} (hd : decode cc pc = .ok (.sipush n, 3)) (hv : (Int16.ofInt n).toInt32 = v) (k : Gc own cc mL d mc ms (pc + 3) lv (.int v :: rest) cs cells slots Q) : Gc own cc mL d mc ms pc lv rest cs cells slots Q := by
  intro p l e s m args below meth c D α cI cB cR z0 α0 n0 H locs ls hE h0 hn0 hok hL hT hH hl
  exact lv_sipush hE.1 hE.2.1 hd hv (k p l e s m args below meth c D α cI cB cR z0 α0 n0 H locs ls hE h0 hn0 hok hL (List.forall_mem_cons.mpr ⟨rfl, hT⟩) hH hl)
theorem gc_dup {v : Value} (hd : decode cc pc = .ok (.dup, 1)) (hv : v.category = 1) (k : Gc own cc mL d mc ms (pc + 1) lv (v :: v :: rest) cs cells slots Q) : Gc own cc mL d mc ms pc lv (v :: rest) cs cells slots Q := by
  intro p l e s m args below meth c D α cI cB cR z0 α0 n0 H locs ls hE h0 hn0 hok hL hT hH hl
  exact lv_dup hE.1 hE.2.1 hd ((gk_tr_cat α v).trans hv) (k p l e s m args below meth c D α cI cB cR z0 α0 n0 H locs ls hE h0 hn0 hok hL (List.forall_mem_cons.mpr ⟨hT v List.mem_cons_self, hT⟩) hH hl)
theorem gc_ldc26 (hd : decode cc pc = .ok (.ldc 26, 2)) (ho : own = "CableCars") (k : Gc own cc mL d mc ms (pc + 2) lv (.ref 1000 :: rest) cs cells slots Q) : Gc own cc mL d mc ms pc lv rest cs cells slots Q := by
  intro p l e s m args below meth c D α cI cB cR z0 α0 n0 H locs ls hE h0 hn0 hok hL hT hH hl
  subst ho
  exact va_ldcS hE.1 hE.2.1 hE.2.2.2.2.2.1 hE.2.2.2.2.2.2.2.2.2.2.1.1 hd (k p l e s m args below meth c D α cI cB cR z0 α0 n0 H locs ls hE h0 hn0 hok hL (List.forall_mem_cons.mpr ⟨by unfold gc_okv gc_okr; simp, hT⟩) hH hl)
theorem gc_ldc35 (hd : decode cc pc = .ok (.ldc 35, 2)) (ho : own = "CableCars") (k : Gc own cc mL d mc ms (pc + 2) lv (.ref 1001 :: rest) cs cells slots Q) : Gc own cc mL d mc ms pc lv rest cs cells slots Q := by
  intro p l e s m args below meth c D α cI cB cR z0 α0 n0 H locs ls hE h0 hn0 hok hL hT hH hl
  subst ho
  exact va_ldcS hE.1 hE.2.1 hE.2.2.2.2.2.1 hE.2.2.2.2.2.2.2.2.2.2.1.2 hd (k p l e s m args below meth c D α cI cB cR z0 α0 n0 H locs ls hE h0 hn0 hok hL (List.forall_mem_cons.mpr ⟨by unfold gc_okv gc_okr; simp, hT⟩) hH hl)
theorem gc_mmin {idx : Nat} {x y : Int32} (hd : decode cc pc = .ok (.invokestatic idx, 3)) (h1 : Cond.methodLink own idx Lib.Math.min.name ∈ gk_tb) (h2 : Cond.static Lib.Math.min.name ∈ gk_tb) (h3 : Cond.initialized "java/lang/Math" ∈ gk_tb) (h4 : Cond.code Lib.Math.min.name Lib.Math.min.code 2 (some .int) ∈ gk_tb) (hr : (rest.map fun v => v.category).sum ≤ 8) (hdd : 1 ≤ d) (hcm : cells ≤ mc) (hsm : slots ≤ ms) (kk : Gc own cc mL d mc ms (pc + 3) lv (.int (gk_mn x y) :: rest) cs cells slots Q) : Gc own cc mL d mc ms pc lv (.int y :: .int x :: rest) cs cells slots Q := by
  intro p l e s m args below meth c D α cI cB cR z0 α0 n0 H locs ls hE h0 hn0 hok hL hT hH hl
  have ht := hE.2.2.2.2.2.2.1
  have hr2 : ((rest.map (gk_tr α)).map fun v => v.category).sum ≤ 8 := by simpa only [List.map_map, Function.comp_def, gk_tr_cat] using hr
  refine va_mmin hE.1 hE.2.1 (hE.2.2.1.trans hl.1.symm) hE.2.2.2.2.2.1 (ht _ h1) (ht _ h2) (ht _ h3) (ht _ h4) hdd ?_ hcm hsm hd (kk p l e s m args below meth c D α cI cB cR z0 α0 n0 H locs ls hE h0 hn0 hok hL (List.forall_mem_cons.mpr ⟨rfl, fun v hv => hT v (List.mem_cons_of_mem _ (List.mem_cons_of_mem _ hv))⟩) hH hl)
  show _ ≤ 40 * d
  omega
theorem gc_vret (hd : decode cc pc = .ok (.return_, 1)) (h : Q cs) : Gc own cc mL d mc ms pc lv [] cs mc ms Q := by
  intro p l e s m args below meth c D α cI cB cR z0 α0 n0 H locs ls hE h0 hn0 hok hL hT hH hl
  exact W.vret hE.1 hE.2.1 hE.2.2.2.1 (fun t ht hW => ⟨⟨α, cs, rfl, h0, hn0, hok, h, by rw [ht]; exact hH.1, va_K.moved hW.alike hE.2.2.2.2.2.2.2.1, hH.2.1⟩, hH.2.2.F ht⟩) hH.2.2.2.2 hd hE.2.2.2.2.1
end GcRules
