/-! THE LIGHT JUDGEMENT. The cells are those of gk_sk, for ever; what changes are numbers: mu (cell, place). Go: from this pc, these locals and stack, with these numbers, the method comes to its end with an answer and numbers of which Q holds. gk_CT: a method's contract, in the same words. -/
abbrev gk_St : Type := Nat → Nat → Int32
def gk_up (μ : gk_St) (a i : Nat) (x : Int32) : gk_St := fun b => if b = a then upd (μ a) i x else μ b
def gk_sa (μ : gk_St) (a : Nat) (f : Nat → Int32) : gk_St := fun b => if b = a then f else μ b
theorem gk_up_sa (μ : gk_St) (a i : Nat) (x : Int32) : gk_up μ a i x = gk_sa μ a (upd (μ a) i x) := rfl
def gk_b (x : Int32) : Prop := x = 0 ∨ x = 1
def gk_tr (α : Nat → Nat) (v : Value) : Value := match v with
  | .ref i => .ref (α i)
  | v => v
theorem gk_tr_cat (α : Nat → Nat) (v : Value) : (gk_tr α v).category = v.category := by cases v <;> rfl
def gk_ce (α : Nat → Nat) (cI cB cR : ClassId) (k : Nat × List Nat) (f : Nat → Int32) : va_E :=
  if k.1 = 100 then .inl (cI, k.2.getD 0 0, .inl f) else if k.1 = 101 then .inl (cB, k.2.getD 0 0, .inl f) else if k.1 = 102 then .inl (cR, k.2.length, .inr (.inr (.inr (.inr (fun i => (k.2[i]?).map α))))) else .inr (k.1, k.2.mapIdx (fun j r => if r = 0 then Value.int (f j) else Value.ref (α (r - 1))))
def gk_ws (α : Nat → Nat) (cI cB cR : ClassId) (μ : gk_St) : va_W := (List.range gk_N).map (fun i => (α i, gk_ce α cI cB cR (gk_sk i) (μ i)))
theorem gk_ws_get {α : Nat → Nat} {cI cB cR : ClassId} {μ : gk_St} {o : Nat} (h : o < gk_N) : (gk_ws α cI cB cR μ)[o]? = some (α o, gk_ce α cI cB cR (gk_sk o) (μ o)) := by
  unfold gk_ws
  rw [List.getElem?_map, List.getElem?_range h]
  rfl
theorem gk_ws_lt {α : Nat → Nat} {cI cB cR : ClassId} {μ : gk_St} {k : Nat} {q : Nat × va_E} (h : (gk_ws α cI cB cR μ)[k]? = some q) : k < gk_N ∧ q.1 = α k := by
  unfold gk_ws at h
  rw [List.getElem?_map] at h
  by_cases hk : k < gk_N
  · rw [List.getElem?_range hk] at h
    cases h
    exact ⟨hk, rfl⟩
  · rw [List.getElem?_eq_none (by rw [List.length_range]; omega)] at h
    cases h
theorem gk_ws_set {α : Nat → Nat} {cI cB cR : ClassId} {μ : gk_St} {o : Nat} {g : Nat → Int32} {e : Nat × va_E} (h : o < gk_N) (he : e = (α o, gk_ce α cI cB cR (gk_sk o) g)) : (gk_ws α cI cB cR μ).set o e = gk_ws α cI cB cR (gk_sa μ o g) := by
  subst he
  apply List.ext_getElem?
  intro k
  rw [List.getElem?_set]
  by_cases hk : k < gk_N
  · rw [gk_ws_get hk, gk_ws_get hk]
    by_cases e : o = k
    · subst e
      have : o < (gk_ws α cI cB cR μ).length := by unfold gk_ws; rw [List.length_map, List.length_range]; exact h
      simp [this, gk_sa]
    · have e2 : ¬ k = o := fun q => e q.symm
      simp [e, gk_sa, e2]
  · have e : ¬ o = k := fun q => hk (q ▸ h)
    have n1 : (gk_ws α cI cB cR μ)[k]? = none := List.getElem?_eq_none (by unfold gk_ws; rw [List.length_map, List.length_range]; omega)
    have n2 : (gk_ws α cI cB cR (gk_sa μ o g))[k]? = none := List.getElem?_eq_none (by unfold gk_ws; rw [List.length_map, List.length_range]; omega)
    simp [e, n1, n2]
theorem gk_ce_o {α : Nat → Nat} {cI cB cR : ClassId} {o c : Nat} {f : Nat → Int32} (h : gk_isO o c) (hc : c < 100) : gk_ce α cI cB cR (gk_sk o) f = .inr (c, (gk_sk o).2.mapIdx (fun j r => if r = 0 then Value.int (f j) else Value.ref (α (r - 1)))) := by
  unfold gk_isO at h
  unfold gk_ce
  rw [h, if_neg (by omega), if_neg (by omega), if_neg (by omega)]
theorem gk_ce_i {α : Nat → Nat} {cI cB cR : ClassId} {a : Nat} {f : Nat → Int32} (h : gk_isO a 100) : gk_ce α cI cB cR (gk_sk a) f = .inl (cI, gk_ln a, .inl f) := by
  unfold gk_isO at h
  unfold gk_ce
  rw [h, if_pos rfl]
  rfl
theorem gk_ce_b {α : Nat → Nat} {cI cB cR : ClassId} {a : Nat} {f : Nat → Int32} (h : gk_isO a 101) : gk_ce α cI cB cR (gk_sk a) f = .inl (cB, gk_ln a, .inl f) := by
  unfold gk_isO at h
  unfold gk_ce
  rw [h, if_neg (by decide), if_pos rfl]
  rfl
theorem gk_ce_r {α : Nat → Nat} {cI cB cR : ClassId} {a : Nat} {f : Nat → Int32} (h : gk_isO a 102) : gk_ce α cI cB cR (gk_sk a) f = .inl (cR, gk_rl a, .inr (.inr (.inr (.inr (fun i => ((gk_sk a).2[i]?).map α))))) := by
  unfold gk_isO at h
  unfold gk_ce
  rw [h, if_neg (by decide), if_neg (by decide), if_pos rfl]
  rfl
/-- which cells may change -/
def gk_A (α : Nat → Nat) (sz : Nat) : Nat → Prop := fun q => (∃ i, i < gk_N ∧ α i = q) ∨ sz ≤ q
/-- DIGEST_MOMENTS -/
def gk_dm (i : Nat) : Int32 := if i = 0 then 0 else if i = 1 then 5 else if i = 2 then 12 else 23
def gk_A0 (z0 : Nat) : Nat → Prop := fun q => z0 ≤ q
/-- what was there before the law began: the constant row, the two texts (cells 1000, 1001; their bytes 1010, 1011) -/
def gk_RO (z0 : Nat) (α : Nat → Nat) (U : State) (H : Heap) : Prop :=
  z0 ≤ H.size ∧ (∀ i, i < gk_N → z0 ≤ α i) ∧ va_Z "CableCars" "DIGEST_MOMENTS" "[I" (.ref (α 1002)) (gk_A0 z0) U H ∧ va_T .int (α 1002) 4 (fun j => .int (gk_dm j)) (gk_A0 z0) U H ∧ va_Z "java/lang/String" "COMPACT_STRINGS" "Z" (.int 1) (gk_A0 z0) U H ∧ vk_S 2 [3, 2] [[111, 115, 103], [98, 116]] (fun i => α (1000 + i)) (fun i => α (1010 + i)) (gk_A0 z0) U H
theorem gk_RO.moved {z0 : Nat} {α : Nat → Nat} {u U : State} {H : Heap} (hvm : u.vm.Alike U.vm) (h : gk_RO z0 α u H) : gk_RO z0 α U H := ⟨h.1, h.2.1, h.2.2.1.moved hvm, h.2.2.2.1.moved hvm, h.2.2.2.2.1.moved hvm, h.2.2.2.2.2.moved hvm⟩
theorem gk_A_A0 {z0 : Nat} {α : Nat → Nat} {sz : Nat} (h1 : z0 ≤ sz) (h2 : ∀ i, i < gk_N → z0 ≤ α i) : ∀ q, gk_A α sz q → gk_A0 z0 q := fun q hq => by
  rcases hq with ⟨i, hi, e⟩ | z
  · have := h2 i hi
    show z0 ≤ q
    omega
  · exact Nat.le_trans h1 z
theorem gk_RO.kept {z0 : Nat} {α : Nat → Nat} {U : State} {H0 H : Heap} {locs : List Loc} (h : gk_RO z0 α U H0) (hS : va_S (gk_A α H0.size) H0 H locs) : gk_RO z0 α U H := by
  obtain ⟨h1, h2, h3, h4, h5, h6⟩ := h
  have hq : ∀ a : Nat, a < H0.size → ¬ gk_A0 z0 a → H[a]? = H0[a]? := fun a ha hn => hS.2.1 a ha (fun z => hn (gk_A_A0 h1 h2 a z))
  exact ⟨Nat.le_trans h1 hS.1, h2, h3.kept hq, h4.kept hq, h5.kept hq, h6.kept hq⟩
abbrev gk_tys (cI cB cR : ClassId) : List (ClassId × FieldType) := [(cI, .int), (cB, .boolean), (cR, .array .int)]
/-- links of private methods in nest mates -/
def gk_NS (U : State) : Prop := ∀ q ∈ gk_nest, va_Nw (.methodLinkNest q.1 q.2.1 q.2.2 "CableCars") U
theorem gk_NS.warm {s U : State} (hW : s.WarmedH U.vm) (h : gk_NS s) : gk_NS U := fun q hq => va_Nw.warmM hW (h q hq)
theorem gk_NS.same {u U : State} (hv : u.vm = U.vm) (h : gk_NS u) : gk_NS U := fun q hq => va_Nw.same rfl hv (h q hq)
def gk_rm (d : Nat) : Room := { frames := d, cells := 0, slots := 0, locals := 40 * d }
def gk_Env (own : String) (cc : ByteArray) (mL : Nat) (ret : Option FieldType) (D : va_G) (α : Nat → Nat) (cI cB cR : ClassId) (z0 : Nat) (p : Program) (s : State) (m : MethodId) (args : Array Value) (meth : Method) (c : Code) : Prop :=
  p.tables.exec = Jvm.exec ∧ c.code = cc ∧ c.maxLocals = mL ∧ meth.sig.returnType = ret ∧ meth.locks = false ∧ s.vm.findClass own = some m.cls ∧ (∀ w ∈ gk_tb, w.before args s = true) ∧ va_K D vwCl (gk_tys cI cB cR) s ∧ gk_RO z0 α s s.heap ∧ gk_NS s
def gk_H (D : va_G) (α : Nat → Nat) (cI cB cR : ClassId) (μ : gk_St) (s : State) (H : Heap) (locs : List Loc) : Prop :=
  va_P D vwCl (gk_ws α cI cB cR μ) H ∧ va_D (gk_A α s.heap.size) (gk_ws α cI cB cR μ) ∧ va_S (gk_A α s.heap.size) s.heap H locs
def gk_Qc (D : va_G) (α : Nat → Nat) (cI cB cR : ClassId) (sz : Nat) (Q : Option Value → gk_St → Prop) : Array Value → State → Outcome → State → Prop := fun _ st o t =>
  (∃ (r : Option Value) (μ : gk_St), o = .returned (r.map (gk_tr α)) ∧ Q r μ ∧ va_P D vwCl (gk_ws α cI cB cR μ) t.heap ∧ va_K D vwCl (gk_tys cI cB cR) t ∧ va_D (gk_A α sz) (gk_ws α cI cB cR μ)) ∧ va_F (gk_A α sz) st t
def Go (own : String) (cc : ByteArray) (mL : Nat) (ret : Option FieldType) (d pc : Nat) (lv : List (Nat × Value)) (st : List Value) (μ : gk_St) (Q : Option Value → gk_St → Prop) : Prop :=
  ∀ (p : Program) (l : Launch) (e : Env) (s : State) (m : MethodId) (args : Array Value) (below : List Frame) (meth : Method) (c : Code) (D : va_G) (α : Nat → Nat) (cI cB cR : ClassId) (z0 : Nat) (H : Heap) (locs : List Loc) (ls : Array Slot),
    gk_Env own cc mL ret D α cI cB cR z0 p s m args meth c → gk_H D α cI cB cR μ s H locs → lv_has ls mL (lv.map (fun q => (q.1, gk_tr α q.2))) →
    W p l e (gk_rm d) s m args below meth c H locs 0 0 (MQ below (gk_Qc D α cI cB cR s.heap.size Q) args s 0 0 (gk_A α s.heap.size)) (F0 m pc ls (st.map (gk_tr α)))
def gk_Pc (D : va_G) (α : Nat → Nat) (cI cB cR : ClassId) (z0 : Nat) (sz : Nat) (avs : List Value) (μ : gk_St) : Array Value → State → Prop :=
  va_Pc (avs.map (gk_tr α)) (fun U => U.heap.size = sz ∧ va_P D vwCl (gk_ws α cI cB cR μ) U.heap ∧ va_K D vwCl (gk_tys cI cB cR) U ∧ va_D (fun _ => True) (gk_ws α cI cB cR μ) ∧ gk_RO z0 α U U.heap ∧ gk_NS U)
def gk_CT (y : MethodName) (cc : ByteArray) (mL : Nat) (ret : Option FieldType) (d : Nat) (avs : List Value) (μ : gk_St) (Q : Option Value → gk_St → Prop) : Prop :=
  ∀ (l : Launch) (D : va_G) (α : Nat → Nat) (cI cB cR : ClassId) (z0 : Nat) (sz : Nat),
    Met l y (Cond.code y cc mL ret :: gk_tb) (gk_rm d) (gk_Pc D α cI cB cR z0 sz avs μ) (gk_Qc D α cI cB cR sz Q) 0 0 (gk_A α sz)
theorem gk_lv_args (α : Nat → Nat) : ∀ (vs : List Value) (i : Nat), lv_args i (vs.map (gk_tr α)) = (lv_args i vs).map (fun q => (q.1, gk_tr α q.2))
  | [], _ => rfl
  | v :: vs, i => by
    simp only [List.map_cons, lv_args, gk_tr_cat]
    rw [gk_lv_args α vs]
theorem gk_sl_len (α : Nat → Nat) : ∀ (vs : List Value), (lg_sl (vs.map (gk_tr α))).length = (lg_sl vs).length
  | [] => rfl
  | v :: vs => by
    have := gk_sl_len α vs
    unfold lg_sl at this ⊢
    simp only [List.map_cons, List.flatMap_cons, List.length_append, gk_tr_cat, this]
    by_cases h : v.category = 2 <;> simp [h]
theorem gk_D_true {α : Nat → Nat} {cI cB cR : ClassId} {μ : gk_St} {A : Nat → Prop} {sz : Nat} (h : va_D A (gk_ws α cI cB cR μ)) : va_D (gk_A α sz) (gk_ws α cI cB cR μ) :=
  ⟨h.1, fun k q hk => by
    obtain ⟨h1, h2⟩ := gk_ws_lt hk
    exact Or.inl ⟨k, h1, h2.symm⟩⟩
/-- a contract out of a walk from the entry -/
theorem gk_enter {y : MethodName} {cc : ByteArray} {mL : Nat} {ret : Option FieldType} {d : Nat} {avs : List Value} {μ : gk_St} {Q : Option Value → gk_St → Prop} (hy : plainName y.cls = true) (hlen : (lg_sl avs).length ≤ mL) (k : Go y.cls cc mL ret d 0 (lv_args 0 avs) [] μ Q) : gk_CT y cc mL ret d avs μ Q := by
  intro l D α cI cB cR z0 sz
  refine Met.ofW (cc := cc) (maxL := mL) (ret := ret) hy rfl ?_
  intro p e s m args below meth c s₁ B hml hv
  obtain ⟨rfl, hsz, hP, hK, hD0, hRO, hNS⟩ := hv
  have hts := atoms_spec (ws := Cond.code y cc mL ret :: gk_tb) B.pre
  subst hsz
  have hl := lv_entry (avs.map (gk_tr α)) (n := mL) (by rw [gk_sl_len]; exact hlen)
  rw [lg_entry_eq]
  rw [gk_lv_args] at hl
  exact k p l e s m _ below meth c D α cI cB cR z0 s.heap [] _ ⟨B.exec, B.bytes, hml, B.returns, B.notSynchronized, findClass_of_methodNamed B.named, fun w hw => hts w (List.mem_cons_of_mem _ hw), hK, hRO, hNS⟩ ⟨hP, gk_D_true hD0, va_S.rf⟩ hl
