set_option maxRecDepth 100000 in
set_option maxHeartbeats 4000000 in
/-- the law's loop, over any Inv that every pair of calls keeps -/
theorem law_loop {Inv : gk_St → Prop} (ok : ok_all Inv) {L : Nat} {xs : Nat → Int32} (hL : L ≤ 3072) : ∀ (n j : Nat) (i : Int32) (μ : gk_St), i = nI j → j ≤ L + 6 → L + 6 < j + 6 * n → Inv μ → GL L xs 18 [(0, .ref 2000), (1, .ref 0), (2, .ref 101), (3, .int i)] [] μ := by
  obtain ⟨o_type, o_wipe, o_undo, o_fault, o_car, o_coming, o_speed, o_event, o_back, o_read, o_at, o_waits, o_over, o_sum, o_crowd, o_first, o_carried, o_idle, o_left, o_hang, o_pace, o_cheap, o_spare, o_seen, o_forget, o_never, o_was, o_ask, o_chance, o_years, o_sheet, o_lose, o_put, o_get, o_copy, o_write, o_count, o_digest⟩ := ok
  intro n
  induction n with
  | zero =>
    intro j i μ hi h1 h2 hI
    omega
  | succ n ih =>
    intro j i μ hi h1 h2 hI
    refine gl_iload_n 3 dL_law_18 rfl rfl ?_
    refine gl_aload_n 0 dL_law_19 rfl rfl ?_
    refine gl_slen dL_law_20 ?_
    refine gl_bipush (v := nI 6) dL_law_21 (by decide) ?_
    refine gl_isub dL_law_23 ?_
    refine gl_icmp_gt 1322 dL_law_24 (by decide) (fun c => ?_) (fun c => ?_)
    · refine gl_iconst (v := 1) dL_law_1322 (by decide) ?_
      exact gl_ret dL_law_1323
    · have hj : j + 6 ≤ L := by
        rcases Nat.lt_or_ge L (j + 6) with q | q
        · exfalso
          apply c
          rw [Int32.lt_iff_toInt_lt, hi]
          have a1 : (nI L - nI 6).toInt = (L : Int) - (6 : Nat) := pk_sub_toInt (by omega) (by omega)
          have a2 : (nI j).toInt = (j : Int) := nI_toInt (by omega)
          show (nI L - nI 6).toInt < (nI j).toInt
          rw [a1, a2]
          omega
        · exact q
      have kk : ∀ m : gk_St, Inv m → GL L xs 1316 [(0, .ref 2000), (1, .ref 0), (2, .ref 101), (3, .int i)] [] m := by
        intro m hm
        refine gl_iinc (w := nI 6) 3 (fun v => [(3, .int v), (0, .ref 2000), (1, .ref 0), (2, .ref 101)]) dL_law_1316 rfl (by decide) (by decide) (fun _ => rfl) (fun v e => ?_)
        refine gl_goto 18 dL_law_1319 (by decide) ?_
        refine gl_lv [1, 2, 3, 0] rfl ?_
        exact ih (j + 6) v m (by rw [e, hi, nI_add]) (by omega) (by omega) hm
      refine gl_aload_n 0 dL_law_27 rfl rfl ?_
      refine gl_iload_n 3 dL_law_28 rfl rfl ?_
      refine gl_sld dL_law_29 (gl_in0 hi hj hL) ?_
      refine gl_bipush (v := nI 63) dL_law_30 (by decide) ?_
      refine gl_iand dL_law_32 ?_
      generalize xs i.toNatClampNeg &&& nI 63 = w
      by_cases c0 : w = 0
      · refine gl_tableIn (k := 0) (off := 167) 200 dL_law_33 c0 (by decide) (by decide) (by decide) (by decide) ?_
        exact la_type hi hj hL o_type hI kk
      by_cases c1 : w = 1
      · refine gl_tableIn (k := 1) (off := 200) 233 dL_law_33 c1 (by decide) (by decide) (by decide) (by decide) ?_
        exact la_wipe hi hj hL o_wipe hI kk
      by_cases c2 : w = 2
      · refine gl_tableIn (k := 2) (off := 223) 256 dL_law_33 c2 (by decide) (by decide) (by decide) (by decide) ?_
        exact la_undo hi hj hL o_undo hI kk
      by_cases c3 : w = 3
      · refine gl_tableIn (k := 3) (off := 246) 279 dL_law_33 c3 (by decide) (by decide) (by decide) (by decide) ?_
        exact la_fault hi hj hL o_fault hI kk
      by_cases c4 : w = 4
      · refine gl_tableIn (k := 4) (off := 269) 302 dL_law_33 c4 (by decide) (by decide) (by decide) (by decide) ?_
        exact la_car hi hj hL o_car hI kk
      by_cases c5 : w = 5
      · refine gl_tableIn (k := 5) (off := 302) 335 dL_law_33 c5 (by decide) (by decide) (by decide) (by decide) ?_
        exact la_coming hi hj hL o_coming hI kk
      by_cases c6 : w = 6
      · refine gl_tableIn (k := 6) (off := 335) 368 dL_law_33 c6 (by decide) (by decide) (by decide) (by decide) ?_
        exact la_speed hi hj hL o_speed hI kk
      by_cases c7 : w = 7
      · refine gl_tableIn (k := 7) (off := 358) 391 dL_law_33 c7 (by decide) (by decide) (by decide) (by decide) ?_
        exact la_event hi hj hL o_event hI kk
      by_cases c8 : w = 8
      · refine gl_tableIn (k := 8) (off := 401) 434 dL_law_33 c8 (by decide) (by decide) (by decide) (by decide) ?_
        exact la_back hi hj hL o_back hI kk
      by_cases c9 : w = 9
      · refine gl_tableIn (k := 9) (off := 414) 447 dL_law_33 c9 (by decide) (by decide) (by decide) (by decide) ?_
        exact la_read hi hj hL o_read hI kk
      by_cases c10 : w = 10
      · refine gl_tableIn (k := 10) (off := 437) 470 dL_law_33 c10 (by decide) (by decide) (by decide) (by decide) ?_
        exact la_at hi hj hL o_at hI kk
      by_cases c11 : w = 11
      · refine gl_tableIn (k := 11) (off := 480) 513 dL_law_33 c11 (by decide) (by decide) (by decide) (by decide) ?_
        exact la_waits hi hj hL o_waits hI kk
      by_cases c12 : w = 12
      · refine gl_tableIn (k := 12) (off := 513) 546 dL_law_33 c12 (by decide) (by decide) (by decide) (by decide) ?_
        exact la_over hi hj hL o_over hI kk
      by_cases c13 : w = 13
      · refine gl_tableIn (k := 13) (off := 536) 569 dL_law_33 c13 (by decide) (by decide) (by decide) (by decide) ?_
        exact la_sum hi hj hL o_sum hI kk
      by_cases c14 : w = 14
      · refine gl_tableIn (k := 14) (off := 549) 582 dL_law_33 c14 (by decide) (by decide) (by decide) (by decide) ?_
        exact la_crowd hi hj hL o_crowd hI kk
      by_cases c15 : w = 15
      · refine gl_tableIn (k := 15) (off := 582) 615 dL_law_33 c15 (by decide) (by decide) (by decide) (by decide) ?_
        exact la_first hi hj hL o_first hI kk
      by_cases c16 : w = 16
      · refine gl_tableIn (k := 16) (off := 605) 638 dL_law_33 c16 (by decide) (by decide) (by decide) (by decide) ?_
        exact la_carried hi hj hL o_carried hI kk
      by_cases c17 : w = 17
      · refine gl_tableIn (k := 17) (off := 628) 661 dL_law_33 c17 (by decide) (by decide) (by decide) (by decide) ?_
        exact la_idle hi hj hL o_idle hI kk
      by_cases c18 : w = 18
      · refine gl_tableIn (k := 18) (off := 641) 674 dL_law_33 c18 (by decide) (by decide) (by decide) (by decide) ?_
        exact la_left hi hj hL o_left hI kk
      by_cases c19 : w = 19
      · refine gl_tableIn (k := 19) (off := 654) 687 dL_law_33 c19 (by decide) (by decide) (by decide) (by decide) ?_
        exact la_hang hi hj hL o_hang hI kk
      by_cases c20 : w = 20
      · refine gl_tableIn (k := 20) (off := 687) 720 dL_law_33 c20 (by decide) (by decide) (by decide) (by decide) ?_
        exact la_pace hi hj hL o_pace hI kk
      by_cases c21 : w = 21
      · refine gl_tableIn (k := 21) (off := 720) 753 dL_law_33 c21 (by decide) (by decide) (by decide) (by decide) ?_
        exact la_cheap hi hj hL o_cheap hI kk
      by_cases c22 : w = 22
      · refine gl_tableIn (k := 22) (off := 753) 786 dL_law_33 c22 (by decide) (by decide) (by decide) (by decide) ?_
        exact la_spare hi hj hL o_spare hI kk
      by_cases c23 : w = 23
      · refine gl_tableIn (k := 23) (off := 776) 809 dL_law_33 c23 (by decide) (by decide) (by decide) (by decide) ?_
        exact la_seen hi hj hL o_seen hI kk
      by_cases c24 : w = 24
      · refine gl_tableIn (k := 24) (off := 819) 852 dL_law_33 c24 (by decide) (by decide) (by decide) (by decide) ?_
        exact la_forget hi hj hL o_forget hI kk
      by_cases c25 : w = 25
      · refine gl_tableIn (k := 25) (off := 832) 865 dL_law_33 c25 (by decide) (by decide) (by decide) (by decide) ?_
        exact la_never hi hj hL o_never hI kk
      by_cases c26 : w = 26
      · refine gl_tableIn (k := 26) (off := 845) 878 dL_law_33 c26 (by decide) (by decide) (by decide) (by decide) ?_
        exact la_was hi hj hL o_was hI kk
      by_cases c27 : w = 27
      · refine gl_tableIn (k := 27) (off := 878) 911 dL_law_33 c27 (by decide) (by decide) (by decide) (by decide) ?_
        exact la_ask hi hj hL o_ask hI kk
      by_cases c28 : w = 28
      · refine gl_tableIn (k := 28) (off := 901) 934 dL_law_33 c28 (by decide) (by decide) (by decide) (by decide) ?_
        exact la_chance hi hj hL o_chance hI kk
      by_cases c29 : w = 29
      · refine gl_tableIn (k := 29) (off := 945) 978 dL_law_33 c29 (by decide) (by decide) (by decide) (by decide) ?_
        exact la_years hi hj hL o_years hI kk
      by_cases c30 : w = 30
      · refine gl_tableIn (k := 30) (off := 988) 1021 dL_law_33 c30 (by decide) (by decide) (by decide) (by decide) ?_
        exact la_sheet hi hj hL o_sheet hI kk
      by_cases c31 : w = 31
      · refine gl_tableIn (k := 31) (off := 1031) 1064 dL_law_33 c31 (by decide) (by decide) (by decide) (by decide) ?_
        exact la_lose hi hj hL o_lose hI kk
      by_cases c32 : w = 32
      · refine gl_tableIn (k := 32) (off := 1054) 1087 dL_law_33 c32 (by decide) (by decide) (by decide) (by decide) ?_
        exact la_put hi hj hL o_put hI kk
      by_cases c33 : w = 33
      · refine gl_tableIn (k := 33) (off := 1107) 1140 dL_law_33 c33 (by decide) (by decide) (by decide) (by decide) ?_
        exact la_get hi hj hL o_get hI kk
      by_cases c34 : w = 34
      · refine gl_tableIn (k := 34) (off := 1150) 1183 dL_law_33 c34 (by decide) (by decide) (by decide) (by decide) ?_
        exact la_copy hi hj hL o_copy hI kk
      by_cases c35 : w = 35
      · refine gl_tableIn (k := 35) (off := 1213) 1246 dL_law_33 c35 (by decide) (by decide) (by decide) (by decide) ?_
        exact la_write hi hj hL o_write hI kk
      by_cases c36 : w = 36
      · refine gl_tableIn (k := 36) (off := 1246) 1279 dL_law_33 c36 (by decide) (by decide) (by decide) (by decide) ?_
        exact la_count hi hj hL o_count hI kk
      by_cases c37 : w = 37
      · refine gl_tableIn (k := 37) (off := 1269) 1302 dL_law_33 c37 (by decide) (by decide) (by decide) (by decide) ?_
        exact la_digest hi hj hL o_digest hI kk
      have t0 := gk_neT (a := 0) (by decide) c0
      have t1 := gk_neT (a := 1) (by decide) c1
      have t2 := gk_neT (a := 2) (by decide) c2
      have t3 := gk_neT (a := 3) (by decide) c3
      have t4 := gk_neT (a := 4) (by decide) c4
      have t5 := gk_neT (a := 5) (by decide) c5
      have t6 := gk_neT (a := 6) (by decide) c6
      have t7 := gk_neT (a := 7) (by decide) c7
      have t8 := gk_neT (a := 8) (by decide) c8
      have t9 := gk_neT (a := 9) (by decide) c9
      have t10 := gk_neT (a := 10) (by decide) c10
      have t11 := gk_neT (a := 11) (by decide) c11
      have t12 := gk_neT (a := 12) (by decide) c12
      have t13 := gk_neT (a := 13) (by decide) c13
      have t14 := gk_neT (a := 14) (by decide) c14
      have t15 := gk_neT (a := 15) (by decide) c15
      have t16 := gk_neT (a := 16) (by decide) c16
      have t17 := gk_neT (a := 17) (by decide) c17
      have t18 := gk_neT (a := 18) (by decide) c18
      have t19 := gk_neT (a := 19) (by decide) c19
      have t20 := gk_neT (a := 20) (by decide) c20
      have t21 := gk_neT (a := 21) (by decide) c21
      have t22 := gk_neT (a := 22) (by decide) c22
      have t23 := gk_neT (a := 23) (by decide) c23
      have t24 := gk_neT (a := 24) (by decide) c24
      have t25 := gk_neT (a := 25) (by decide) c25
      have t26 := gk_neT (a := 26) (by decide) c26
      have t27 := gk_neT (a := 27) (by decide) c27
      have t28 := gk_neT (a := 28) (by decide) c28
      have t29 := gk_neT (a := 29) (by decide) c29
      have t30 := gk_neT (a := 30) (by decide) c30
      have t31 := gk_neT (a := 31) (by decide) c31
      have t32 := gk_neT (a := 32) (by decide) c32
      have t33 := gk_neT (a := 33) (by decide) c33
      have t34 := gk_neT (a := 34) (by decide) c34
      have t35 := gk_neT (a := 35) (by decide) c35
      have t36 := gk_neT (a := 36) (by decide) c36
      have t37 := gk_neT (a := 37) (by decide) c37
      refine gl_tableOut 1316 dL_law_33 (by omega) (by decide) ?_
      exact kk μ hI
/-- what the law knows at its start -/
def gn_Env (L : Nat) (xs : Nat → Int32) (p : Program) (s : State) (m : MethodId) (meth : Method) (c : Code) (b : Nat) (D : va_G) (α : Nat → Nat) (cI cB cR : ClassId) : Prop :=
  p.tables.exec = Jvm.exec ∧ c.code = code ∧ c.maxLocals = 4 ∧ meth.sig.returnType = ret ∧ meth.locks = false ∧ s.vm.findClass RL = some m.cls ∧ (∀ w ∈ gk_tb, w.before #[Value.ref b] s = true) ∧ va_K D vwCl (gk_tys cI cB cR) s ∧ (va_Z "CableCars" "DIGEST_MOMENTS" "[I" (.ref (α 1002)) (gk_A0 s.heap.size) s s.heap ∧ va_T .int (α 1002) 4 (fun j => .int (gk_dm j)) (gk_A0 s.heap.size) s s.heap ∧ va_Z "java/lang/String" "COMPACT_STRINGS" "Z" (.int 1) (gk_A0 s.heap.size) s s.heap ∧ vk_S 2 [3, 2] [[111, 115, 103], [98, 116]] (fun i => α (1000 + i)) (fun i => α (1010 + i)) (gk_A0 s.heap.size) s s.heap) ∧ gk_NS s ∧ va_X b L xs s s.heap ∧ b < s.heap.size ∧ α 2000 = b ∧ gc_SR α s ∧ gc_NS s ∧ gc_AO s
def gn_H (D : va_G) (α : Nat → Nat) (cI cB cR : ClassId) (cs : List gc_C) (s : State) (H : Heap) (locs : List Loc) : Prop := va_P D vwCl (gc_ws α cI cB cR cs) H ∧ va_D (gk_A0 s.heap.size) (gc_ws α cI cB cR cs) ∧ va_S (gk_A0 s.heap.size) s.heap H locs
def GN (L : Nat) (xs : Nat → Int32) (pc : Nat) (lv : List (Nat × Value)) (st : List Value) (cs : List gc_C) (cells slots : Nat) : Prop :=
  ∀ (p : Program) (l : Launch) (e : Env) (s : State) (m : MethodId) (below : List Frame) (meth : Method) (c : Code) (b : Nat) (D : va_G) (α : Nat → Nat) (cI cB cR : ClassId) (H : Heap) (locs : List Loc) (ls : Array Slot),
    gn_Env L xs p s m meth c b D α cI cB cR → gc_okS cs → gc_okL cs.length lv → gc_okT cs.length st → gn_H D α cI cB cR cs s H locs → lv_has ls 4 (lv.map (fun q => (q.1, gk_tr α q.2))) →
    W p l e room_1 s m #[Value.ref b] below meth c H locs cells slots (lw_Z below #[Value.ref b] s) (F0 m pc ls (st.map (gk_tr α)))
theorem gn_ext {L : Nat} {xs : Nat → Int32} {p : Program} {s : State} {m : MethodId} {meth : Method} {c : Code} {b : Nat} {D : va_G} {α β : Nat → Nat} {cI cB cR : ClassId} {n : Nat} (hs : gc_same n β α) (hE : gn_Env L xs p s m meth c b D α cI cB cR) : gn_Env L xs p s m meth c b D β cI cB cR := by
  have q : ∀ i, 1000 ≤ i → β i = α i := fun i hi => hs i (by unfold gc_okr; simp [hi])
  obtain ⟨e1, e2, e3, e4, e5, e6, e7, e8, ⟨f1, f2, f3, f4⟩, e10, e11, e12, e13, e14, e15⟩ := hE
  refine ⟨e1, e2, e3, e4, e5, e6, e7, e8, ⟨?_, ?_, f3, ?_⟩, e10, e11, e12, ?_, ?_, e15⟩
  · rw [q 1002 (by omega)]
    exact f1
  · rw [q 1002 (by omega)]
    exact f2
  · have a1 : (fun i => β (1000 + i)) = (fun i => α (1000 + i)) := funext fun i => q _ (by omega)
    have a2 : (fun i => β (1010 + i)) = (fun i => α (1010 + i)) := funext fun i => q _ (by omega)
    rw [a1, a2]
    exact f4
  · rw [q 2000 (by omega)]
    exact e13
  · unfold gc_SR
    rw [q 1000 (by omega), q 1001 (by omega)]
    exact e14
section GNr
variable {L : Nat} {xs : Nat → Int32} {pc : Nat} {lv : List (Nat × Value)} {rest : List Value} {cs : List gc_C} {cells slots : Nat}
theorem gn_dup {v : Value} (hd : decode code pc = .ok (.dup, 1)) (hv : v.category = 1) (k : GN L xs (pc + 1) lv (v :: v :: rest) cs cells slots) : GN L xs pc lv (v :: rest) cs cells slots := by
  intro p l e s m below meth c b D α cI cB cR H locs ls hE hok hL hT hH hl
  exact lv_dup hE.1 hE.2.1 hd ((gk_tr_cat α v).trans hv) (k p l e s m below meth c b D α cI cB cR H locs ls hE hok hL (List.forall_mem_cons.mpr ⟨hT v List.mem_cons_self, hT⟩) hH hl)
theorem gn_astore_n {j : Fin 4} {i x : Nat} (lv' : List (Nat × Value)) (hd : decode code pc = .ok (.astore_n j, 1)) (hi : (j : Nat) = i) (hn : i < 4) (hl' : (i, Value.ref x) :: lv.filter (fun q => !(q.1 == i) && !(q.1 + 1 == i && q.2.category == 2)) = lv') (k : GN L xs (pc + 1) lv' rest cs cells slots) : GN L xs pc lv (.ref x :: rest) cs cells slots := by
  intro p l e s m below meth c b D α cI cB cR H locs ls hE hok hL hT hH hl
  subst hl'
  refine lv_astore_n hE.1 hE.2.1 hd hi hl hn (by rw [gk_filt1]; rfl) (fun ls hl => k p l e s m below meth c b D α cI cB cR H locs ls hE hok ?_ (fun v hv => hT v (List.mem_cons_of_mem _ hv)) hH hl)
  intro q hq
  rcases List.mem_cons.mp hq with e9 | e9
  · rw [e9]
    exact hT _ List.mem_cons_self
  · exact hL q (List.mem_filter.mp e9).1
theorem gl_fs {α : Nat → Nat} {N : Nat} {pl : List Nat} {ty0 : Nat → FieldType} (hpl : ∀ j, j < N → (pl[j]? = some 0 ∧ defaultValue (ty0 j) = .int 0) ∨ (pl[j]? = some 1 ∧ defaultValue (ty0 j) = .null)) : ∀ j, j < N → defaultValue (ty0 j) = vp_V (pl.mapIdx (fun j r => if r = 0 then Value.int ((List.replicate N (0 : Int32)).getD j 0) else if r = 1 then Value.null else Value.ref (α (r - 2)))) j := by
  intro j hj
  unfold vp_V
  rw [List.getD_eq_getElem?_getD, List.getElem?_mapIdx]
  rcases hpl j hj with ⟨a1, a2⟩ | ⟨a1, a2⟩
  · rw [a1, a2]
    simp [hj]
  · rw [a1, a2]
    simp
theorem gn_new {idx ci N : Nat} {C : String} {T : u_T} {ty0 : Nat → FieldType} (n : Nat) (pl : List Nat) (cs2 : List gc_C) (hd : decode code pc = .ok (.new idx, 3)) (hcl : gk_cl ci C T N ty0) (w1 : Cond.classLink RL idx C ∈ gk_tb) (w2 : Cond.instantiable C N ∈ gk_tb) (w3 : Cond.initialized C ∈ gk_tb) (hpl : ∀ j, j < N → (pl[j]? = some 0 ∧ defaultValue (ty0 j) = .int 0) ∨ (pl[j]? = some 1 ∧ defaultValue (ty0 j) = .null)) (hp2 : pl.all (fun r => decide (r < 2)) = true) (hn : cs.length = n) (hlen : n < 900) (e2 : cs ++ [(ci, pl, List.replicate N 0)] = cs2) (hcm : cells + 1 ≤ 600000) (hsm : slots + N ≤ 7302250) (kk : GN L xs (pc + 3) lv (.ref n :: rest) cs2 (cells + 1) (slots + N)) : GN L xs pc lv rest cs cells slots := by
  intro p l e s m below meth c b D α cI cB cR H locs ls hE hok hL hT hH hl
  subst hn
  subst e2
  obtain ⟨hc, h1, h2, h3, h4⟩ := hcl
  have ht := hE.2.2.2.2.2.2.1
  refine va_new (fs := pl.mapIdx (fun j r => if r = 0 then Value.int ((List.replicate N (0 : Int32)).getD j 0) else if r = 1 then Value.null else Value.ref (α (r - 2)))) hE.1 hE.2.1 ht h2 ty0 h3 hE.2.2.2.2.2.1 (ht _ w1) (ht _ w2) (ht _ w3) hE.2.2.2.2.2.2.2.1 hH.1 hH.2.1 hH.2.2 (fun q hq => hq) h1 (gl_fs hpl) hcm hsm hd (fun q H1 hP hD hS => ?_)
  have hsm : gc_same cs.length (gc_ext α cs.length q) α := gc_ext_same (by omega)
  have hokc : gc_okc cs.length (ci, pl, List.replicate N 0) = true := by
    unfold gc_okc
    dsimp only
    rw [if_neg (by omega), if_neg (by omega), List.all_eq_true]
    intro r hr
    have := List.all_eq_true.mp hp2 r hr
    simp only [Bool.or_eq_true]
    exact Or.inl this
  have hw : gc_ws α cI cB cR cs ++ [(q, .inr (ci, pl.mapIdx (fun j r => if r = 0 then Value.int ((List.replicate N (0 : Int32)).getD j 0) else if r = 1 then Value.null else Value.ref (α (r - 2)))))] = gc_ws (gc_ext α cs.length q) cI cB cR (cs ++ [(ci, pl, List.replicate N 0)]) := by
    rw [gc_ws_app, gc_ws_same hsm hok]
    refine congrArg (fun z => gc_ws α cI cB cR cs ++ z) ?_
    show _ = [(gc_ext α cs.length q (cs.length + 0), gc_ce (gc_ext α cs.length q) cI cB cR (ci, pl, List.replicate N 0))]
    have e9 : gc_ext α cs.length q (cs.length + 0) = q := by unfold gc_ext; simp
    rw [e9, gc_ce_same hsm hokc, gc_objs hc]
  rw [hw] at hP hD
  have hl9 : (cs ++ [((ci, pl, List.replicate N 0) : gc_C)]).length = cs.length + 1 := by simp
  have hT9 : gc_okT (cs ++ [((ci, pl, List.replicate N 0) : gc_C)]).length (.ref cs.length :: rest) := by
    rw [hl9]
    refine List.forall_mem_cons.mpr ⟨?_, gc_okT_mono (Nat.le_succ _) hT⟩
    unfold gc_okv gc_okr
    simp
  have hst : (.ref q :: rest.map (gk_tr α)) = (Value.ref cs.length :: rest).map (gk_tr (gc_ext α cs.length q)) := by
    rw [List.map_cons, gc_st_same hsm hT]
    have e9 : gc_ext α cs.length q cs.length = q := by unfold gc_ext; simp
    show _ = Value.ref (gc_ext α cs.length q cs.length) :: _
    rw [e9]
  rw [hst]
  refine kk p l e s m below meth c b D (gc_ext α cs.length q) cI cB cR H1 locs ls (gn_ext hsm hE) (gc_okS_push hok (by rw [hl9]; omega) (fun x hx => ?_)) (by rw [hl9]; exact gc_okL_mono (Nat.le_succ _) hL) hT9 ⟨hP, hD, hS⟩ (by rw [gc_lv_same hsm hL]; exact hl)
  rw [List.mem_singleton.mp hx]
  exact gc_okc_mono (by rw [hl9]; omega) hokc
theorem gn_call {idx : Nat} {y : MethodName} {cc' : ByteArray} {mL' d' mc' ms' n o : Nat} {Qa : List gc_C → Prop} (hd : decode code pc = .ok (.invokespecial idx, 3)) (hw : gk_cw RL idx y cc' mL' none n) (hi : Cond.instanceMethod y ∈ gk_tb) (hy : y.name = "<init>") (hn : 0 = n) (hr : (rest.map fun v => v.category).sum ≤ 8) (hdd : d' ≤ 12) (hcm : cells + mc' ≤ 600000) (hsm : slots + ms' ≤ 7302250) (hM : gc_CT y cc' mL' d' mc' ms' [.ref o] cs Qa)
    (k : ∀ cs' : List gc_C, Qa cs' → GN L xs (pc + 3) lv rest cs' (cells + mc') (slots + ms')) : GN L xs pc lv (.ref o :: rest) cs cells slots := by
  intro p l e s m below meth c b D α cI cB cR H locs ls hE hok hL hT hH hl
  have ht := hE.2.2.2.2.2.2.1
  obtain ⟨w1, w2, w3, w4, w5⟩ := hw
  have hr2 : ((rest.map (gk_tr α)).map fun v => v.category).sum ≤ 8 := by simpa only [List.map_map, Function.comp_def, gk_tr_cat] using hr
  have hroom : (gc_rm d' mc' ms').frames + 1 ≤ room_1.frames ∧ 8 + (mL' + 11) + (gc_rm d' mc' ms').locals ≤ room_1.locals := by
    refine ⟨?_, ?_⟩
    · show d' + 1 ≤ 14
      omega
    · show 8 + (mL' + 11) + 40 * d' ≤ 554
      omega
  have cw : CallB room_1 s #[Value.ref b] RL idx y cc' mL' none (Cond.code y cc' mL' none :: gk_tb) (gc_rm d' mc' ms') mc' ms' n := callB_of n ht (gk_good_code w2) rfl rfl rfl (ht _ w3) (ht _ w1) w4 hroom
  have hpre : ∀ U : State, U.heap = H → s.WarmedH U.vm → gc_Pc D α cI cB cR s.heap.size [.ref o] cs ([Value.ref o].map (gk_tr α)).toArray U := fun U hU hW =>
    ⟨rfl, by rw [hU]; exact hH.2.2.1, by rw [hU]; exact hH.1, va_K.moved hW.alike hE.2.2.2.2.2.2.2.1, hH.2.1, hok, ⟨hE.2.2.2.2.2.2.2.2.2.2.2.2.2.1.1.warm hW, hE.2.2.2.2.2.2.2.2.2.2.2.2.2.1.2.warm hW⟩, fun x hx => va_Nw.warmM hW (hE.2.2.2.2.2.2.2.2.2.2.2.2.2.2.1 x hx), hE.2.2.2.2.2.2.2.2.2.2.2.2.2.2.2.moved hW.alike⟩
  have hrun := va_runI (l := l) (e := e) (below := below) (meth := meth) (locs := locs) (cells := cells) (slots := slots) (g := F0 m pc ls ((.ref o :: rest).map (gk_tr α))) (As := []) (rest := rest.map (gk_tr α)) (b := α o) ⟨hE.1, hE.2.1, hE.2.2.1, hE.2.2.2.2.2.1, ht⟩ (hM l D α cI cB cR s.heap.size) ⟨cw, hy, ht _ hi⟩ ⟨gc_blind, hpre⟩ rfl hn hl.1 rfl (lv_room hr2) hd ⟨hcm, hsm⟩
  intro T0 hT0 X
  obtain ⟨v, st₀, t, T', Lq, hh0, X', hLq, e1, e2, ⟨⟨β, cs', hv, hs, hle, hok', hq, hP, hK, hD⟩, hz, hk⟩, st⟩ := hrun T0 hT0 X
  have hv : v = none := by cases hv; rfl
  subst hv
  rw [hh0] at hz hk
  have hT1 : gc_okT cs.length rest := fun v hv => hT v (List.mem_cons_of_mem _ hv)
  have hS : va_S (gk_A0 s.heap.size) s.heap T'.heap (locs ++ Lq) :=
    ⟨Nat.le_trans hH.2.2.1 (by rw [e1]; exact hz), fun q h1 h2 => by rw [e1, hk q (Nat.lt_of_lt_of_le h1 hH.2.2.1) h2]; exact hH.2.2.2.1 q h1 h2, fun q hq => by
      rcases List.mem_append.mp hq with h | h
      · exact hH.2.2.2.2 q h
      · exact hLq q h⟩
  obtain ⟨t2, a1, b1⟩ := k cs' hq p l e s m below meth c b D β cI cB cR T'.heap (locs ++ Lq) ls (gn_ext hs hE) hok' (gc_okL_mono hle hL) (gc_okT_mono hle hT1) ⟨by rw [e1]; exact hP, hD, hS⟩ (by rw [gc_lv_same hs hL]; exact hl) T' rfl X'
  refine ⟨t2, st t2 ?_, b1⟩
  rw [gc_st_same hs hT1] at a1
  exact a1
end GNr
def gs_b : List gc_C := gs_47 ++ [(8, [1, 1, 0, 1, 1, 1, 0, 1, 1, 1, 0, 1, 0, 1, 1, 1, 1, 0, 0, 0, 0, 1, 1, 1, 0, 1, 1, 0, 0, 0, 0, 1, 1, 1, 1, 1, 1, 0, 1, 1, 1, 1, 1, 1, 1, 1, 1, 0], [0, 0, 0, 0, 0, 0, 0, 0, 0, 0, 0, 0, 0, 0, 0, 0, 0, 0, 0, 0, 0, 0, 0, 0, 0, 0, 0, 0, 0, 0, 0, 0, 0, 0, 0, 0, 0, 0, 0, 0, 0, 0, 0, 0, 0, 0, 0, 0])]
def gs_z : List gc_C := [(7, [3, 5, 7, 9, 13, 17, 21, 25, 27, 29, 31, 33, 44, 68, 92, 0, 0, 0], [0, 0, 0, 0, 0, 0, 0, 0, 0, 0, 0, 0, 0, 0, 0, (-1), 1, 0]), (5, [4, 0, 0], [0, 23, 0]), (100, [47], []), (5, [6, 0, 0], [0, 47, 0]), (100, [47], []), (5, [8, 0, 0], [0, 24, 0]), (100, [47], []), (6, [1002, 0, 0, 10, 11, 12, 0, 0], [0, 6, 1, 0, 0, 0, 0, (-1)]), (100, [12], []), (100, [12], []), (100, [12], []), (6, [1003, 0, 0, 14, 15, 16, 0, 0], [0, 12, 0, 0, 0, 0, 0, (-1)]), (100, [12], []), (100, [12], []), (100, [12], []), (0, [18, 19, 20, 0], [0, 0, 0, 0]), (100, [8], []), (100, [8], []), (100, [8], []), (4, [22, 23, 24, 0], [0, 0, 0, 0]), (100, [8], []), (100, [8], []), (100, [8], []), (3, [26, 0, 0, 0], [0, 1, 0, 0]), (100, [60], []), (3, [28, 0, 0, 0], [0, 1, 0, 0]), (100, [60], []), (3, [30, 0, 0, 0], [0, 1, 0, 0]), (100, [60], []), (3, [32, 0, 0, 0], [0, 1, 0, 0]), (100, [60], []), (1, [0, 34, 35, 36, 37, 38, 41, 42, 43], [0, 0, 0, 0, 0, 0, 0, 0, 0]), (100, [6], []), (100, [6], []), (100, [6], []), (100, [6], []), (102, [37, 38], []), (100, [24], []), (100, [24], []), (100, [24], []), (101, [24], []), (101, [24], []), (2, [45, 52, 59, 62, 63, 64, 65, 66, 67, 0, 0, 0, 0], [0, 0, 0, 0, 0, 0, 0, 0, 0, 0, 0, (-1), (-1)]), (102, [44, 45, 46, 47, 48, 49], []), (100, [24], []), (100, [24], []), (100, [24], []), (100, [24], []), (100, [24], []), (100, [24], []), (102, [51, 52, 53, 54, 55, 56], []), (100, [24], []), (100, [24], []), (100, [24], []), (100, [24], []), (100, [24], []), (100, [24], []), (102, [58, 59], []), (100, [24], []), (100, [24], []), (100, [24], []), (100, [6], []), (100, [6], []), (100, [6], []), (100, [2], []), (100, [2], []), (2, [69, 76, 83, 86, 87, 88, 89, 90, 91, 0, 0, 0, 0], [0, 0, 0, 0, 0, 0, 0, 0, 0, 0, 0, (-1), (-1)]), (102, [68, 69, 70, 71, 72, 73], []), (100, [24], []), (100, [24], []), (100, [24], []), (100, [24], []), (100, [24], []), (100, [24], []), (102, [75, 76, 77, 78, 79, 80], []), (100, [24], []), (100, [24], []), (100, [24], []), (100, [24], []), (100, [24], []), (100, [24], []), (102, [82, 83], []), (100, [24], []), (100, [24], []), (100, [24], []), (100, [6], []), (100, [6], []), (100, [6], []), (100, [2], []), (100, [2], []), (102, [91, 92, 93, 94, 95, 96, 97, 98, 99, 100], []), (100, [24], []), (100, [24], []), (100, [24], []), (100, [24], []), (100, [24], []), (100, [24], []), (100, [24], []), (100, [24], []), (100, [24], []), (100, [24], []), (8, [104, 105, 0, 106, 107, 108, 0, 109, 110, 111, 0, 112, 0, 113, 114, 115, 116, 0, 0, 0, 0, 117, 118, 119, 0, 120, 121, 0, 0, 0, 0, 122, 123, 124, 125, 126, 127, 0, 128, 129, 130, 131, 132, 133, 134, 135, 136, 0], [0, 0, 0, 0, 0, 0, 0, 0, 0, 0, 0, 0, 0, 0, 0, 0, 0, 0, 0, 0, 0, 0, 0, 0, 0, 0, 0, 0, 0, 0, 0, 0, 0, 0, 0, 0, 0, 0, 0, 0, 0, 0, 0, 0, 0, 0, 0, 0]), (100, [3], []), (100, [141], []), (100, [7], []), (100, [7], []), (100, [7], []), (100, [13], []), (100, [13], []), (100, [13], []), (100, [24], []), (100, [8], []), (100, [8], []), (100, [8], []), (100, [24], []), (100, [6], []), (100, [6], []), (100, [6], []), (100, [2], []), (100, [2], []), (100, [48], []), (100, [24], []), (100, [24], []), (100, [144], []), (100, [144], []), (100, [2], []), (100, [8], []), (100, [8], []), (100, [8], []), (100, [240], []), (101, [4], []), (100, [4], []), (100, [4], []), (100, [240], []), (100, [60], [])]
def gk_mu0 : gk_St := fun i j => ((gs_z[i]?).map (fun c => c.2.2.getD j 0)).getD 0
/-- a cell of the constructors' list, and the same of the skeleton -/
def gs_sk (c : gc_C) (k : Nat × List Nat) : Bool := c.1 == k.1 && (if 100 ≤ c.1 then c.2.1 == k.2 && c.2.2 == [] else c.2.1 == k.2.map (fun r => if r = 0 then 0 else r + 1))
set_option maxRecDepth 100000 in
theorem gs_all : (List.range 135).all (fun i => match gs_z[i]? with | some c => gs_sk c (gk_sk i) && (c.1 < 100 || c.1 == 100 || c.1 == 101 || c.1 == 102) | none => false) = true := by decide +kernel
theorem gs_len : gs_z.length = 135 := by decide +kernel
theorem gs_ce {α : Nat → Nat} {cI cB cR : ClassId} {c : gc_C} {k : Nat × List Nat} (h : gs_sk c k = true) (hk : c.1 < 100 ∨ c.1 = 100 ∨ c.1 = 101 ∨ c.1 = 102) : gc_ce α cI cB cR c = gk_ce α cI cB cR k (fun j => c.2.2.getD j 0) := by
  obtain ⟨k0, pl, ns⟩ := c
  obtain ⟨k1, pl1⟩ := k
  unfold gs_sk at h
  simp only [Bool.and_eq_true, beq_iff_eq] at h
  obtain ⟨h1, h2⟩ := h
  subst h1
  dsimp only at *
  unfold gc_ce gk_ce
  dsimp only
  by_cases h0 : k0 = 100
  · subst h0
    simp only [Nat.le_refl, if_true, Bool.and_eq_true, beq_iff_eq] at h2
    obtain ⟨h2, h3⟩ := h2
    subst h2
    subst h3
    rfl
  · by_cases h3 : k0 = 101
    · subst h3
      simp only [show 100 ≤ 101 by omega, if_true, Bool.and_eq_true, beq_iff_eq] at h2
      obtain ⟨h2, h3⟩ := h2
      subst h2
      subst h3
      rfl
    · by_cases h4 : k0 = 102
      · subst h4
        simp only [show 100 ≤ 102 by omega, if_true, Bool.and_eq_true, beq_iff_eq] at h2
        obtain ⟨h2, h3⟩ := h2
        subst h2
        subst h3
        rfl
      · have h5 : ¬ 100 ≤ k0 := by omega
        rw [if_neg h5] at h2
        simp only [beq_iff_eq] at h2
        subst h2
        rw [if_neg h0, if_neg h3, if_neg h4, if_neg h0, if_neg h3, if_neg h4]
        refine congrArg (fun z => Sum.inr (k0, z)) ?_
        apply List.ext_getElem?
        intro j
        rw [List.getElem?_mapIdx, List.getElem?_mapIdx, List.getElem?_map]
        cases hl : pl1[j]? with
        | none => rfl
        | some r =>
          show some _ = some _
          dsimp only
          by_cases r0 : r = 0
          · rw [if_pos r0, if_pos rfl, if_pos r0]
          · rw [if_neg r0, if_neg (by omega), if_neg (by omega), if_neg r0]
            have e9 : r + 1 - 2 = r - 1 := by omega
            rw [e9]
theorem gs_ws {α : Nat → Nat} {cI cB cR : ClassId} : gc_ws α cI cB cR gs_z = gk_ws α cI cB cR gk_mu0 := by
  apply List.ext_getElem?
  intro i
  by_cases hi : i < gk_N
  · have h := List.all_eq_true.mp gs_all i (List.mem_range.mpr hi)
    rw [gk_ws_get hi]
    unfold gc_ws
    rw [List.getElem?_mapIdx]
    cases hc : gs_z[i]? with
    | none =>
      rw [hc] at h
      simp at h
    | some c =>
      rw [hc] at h
      simp only [Bool.and_eq_true, Bool.or_eq_true, beq_iff_eq, decide_eq_true_eq] at h
      have hm : gk_mu0 i = fun j => c.2.2.getD j 0 := by
        funext j
        unfold gk_mu0
        rw [hc]
        rfl
      show some _ = some _
      dsimp only
      rw [hm, gs_ce h.1 (by omega)]
  · have h1 : (gc_ws α cI cB cR gs_z)[i]? = none := List.getElem?_eq_none (by unfold gc_ws; rw [List.length_mapIdx, gs_len]; exact Nat.not_lt.mp hi)
    have h2 : (gk_ws α cI cB cR gk_mu0)[i]? = none := List.getElem?_eq_none (by unfold gk_ws; rw [List.length_map, List.length_range]; omega)
    rw [h1, h2]
set_option maxRecDepth 100000 in
set_option maxHeartbeats 4000000 in
/-- from the law's first instruction -/
theorem law_new {Inv : gk_St → Prop} (ok : ok_all Inv) (h0 : Inv gk_mu0) {L : Nat} {xs : Nat → Int32} (hL : L ≤ 3072) : GN L xs 0 [(0, .ref 2000)] [] [] 0 0 := by
  refine gn_new 0 [1, 1, 1, 1, 1, 1, 1, 1, 1, 1, 1, 1, 1, 1, 1, 0, 0, 0] gs_0 dL_law_0 cl_7 kl_RL_7 kz_7 kj_7 (by decide) (by decide) rfl (by decide) (by decide +kernel) (Nat.le_of_ble_eq_true rfl) (Nat.le_of_ble_eq_true rfl) ?_
  refine gn_dup dL_law_3 rfl ?_
  refine gn_call (mc' := 100) (ms' := 1773) dL_law_4 cw_RL_9 ki_X7_init rfl rfl (Nat.le_of_ble_eq_true rfl) (by decide) (Nat.le_of_ble_eq_true rfl) (Nat.le_of_ble_eq_true rfl) cc_X7_init (fun c9 h9 => ?_)
  subst h9
  refine gn_astore_n [(1, .ref 0), (0, .ref 2000)] dL_law_7 rfl (by decide) rfl ?_
  refine gn_new 101 [1, 1, 0, 1, 1, 1, 0, 1, 1, 1, 0, 1, 0, 1, 1, 1, 1, 0, 0, 0, 0, 1, 1, 1, 0, 1, 1, 0, 0, 0, 0, 1, 1, 1, 1, 1, 1, 0, 1, 1, 1, 1, 1, 1, 1, 1, 1, 0] gs_b dL_law_8 cl_8 kl_RL_10 kz_8 kj_8 (by decide) (by decide) (by decide +kernel) (by decide) (by decide +kernel) (Nat.le_of_ble_eq_true rfl) (Nat.le_of_ble_eq_true rfl) ?_
  refine gn_dup dL_law_11 rfl ?_
  refine gn_call (mc' := 33) (ms' := 1260) dL_law_12 cw_RL_12 ki_X8_init rfl rfl (Nat.le_of_ble_eq_true rfl) (by decide) (Nat.le_of_ble_eq_true rfl) (Nat.le_of_ble_eq_true rfl) (cc_X8_init (cs := gs_b) (o := 101) (by decide +kernel) (by decide +kernel)) (fun c9 h9 => ?_)
  have e9 : c9 = gs_z := h9.trans (by decide +kernel)
  subst e9
  refine gn_astore_n [(2, .ref 101), (1, .ref 0), (0, .ref 2000)] dL_law_15 rfl (by decide) rfl ?_
  intro p l e s m below meth c b D α cI cB cR H locs ls hE hok hLv hT hH hl
  have hP := hH.1
  have hD := hH.2.1
  rw [gs_ws] at hP hD
  have hα : ∀ i, i < gk_N → s.heap.size ≤ α i := fun i hi => hD.2 i _ (gk_ws_get hi)
  have hE2 : gl_Env L xs p s m meth c b D α cI cB cR := ⟨hE.1, hE.2.1, hE.2.2.1, hE.2.2.2.1, hE.2.2.2.2.1, hE.2.2.2.2.2.1, hE.2.2.2.2.2.2.1, hE.2.2.2.2.2.2.2.1, ⟨Nat.le_refl _, hα, hE.2.2.2.2.2.2.2.2.1.1, hE.2.2.2.2.2.2.2.2.1.2.1, hE.2.2.2.2.2.2.2.2.1.2.2.1, hE.2.2.2.2.2.2.2.2.1.2.2.2⟩, hE.2.2.2.2.2.2.2.2.2.1, hE.2.2.2.2.2.2.2.2.2.2.1, hE.2.2.2.2.2.2.2.2.2.2.2.1, hE.2.2.2.2.2.2.2.2.2.2.2.2.1⟩
  have hH2 : gk_H D α cI cB cR gk_mu0 s H locs := ⟨hP, gk_D_true hD, hH.2.2.1, fun q h1 h2 => hH.2.2.2.1 q h1 (fun z => h2 (Or.inr z)), fun q hq => Or.inr (hH.2.2.2.2 q hq)⟩
  refine lv_iconst (v := 0) hE.1 hE.2.1 dL_law_16 (by decide) ?_
  refine lv_istore_n hE.1 hE.2.1 dL_law_17 rfl hl (by decide) rfl (fun ls hl => ?_)
  have hl2 : lv_has ls 4 (([(3, .int 0), (2, .ref 101), (1, .ref 0), (0, .ref 2000)] : List (Nat × Value)).map (fun q => (q.1, gk_tr α q.2))) := hl
  have k9 : GL L xs 18 [(3, .int 0), (2, .ref 101), (1, .ref 0), (0, .ref 2000)] [] gk_mu0 := by
    refine gl_lv [3, 2, 1, 0] rfl ?_
    exact law_loop ok hL (L + 2) 0 0 gk_mu0 nI_0.symm (by omega) (by omega) h0
  exact k9 p l e s m below meth c b D α cI cB cR H locs ls hE2 hH2 hl2
