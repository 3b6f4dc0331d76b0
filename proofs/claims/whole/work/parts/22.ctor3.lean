/-! Gc: rows of rows, and calls of constructors -/
def gc_ext2 (α : Nat → Nat) (n q N : Nat) (r : Nat → Nat) : Nat → Nat := fun i => if i = n then q else if n < i ∧ i ≤ n + N then r (i - n - 1) else α i
theorem gc_ext2_same {α : Nat → Nat} {n q N : Nat} {r : Nat → Nat} (hn : n + N < 1000) : gc_same n (gc_ext2 α n q N r) α := fun i hi => by
  unfold gc_okr at hi
  simp only [Bool.or_eq_true, decide_eq_true_eq] at hi
  unfold gc_ext2
  rw [if_neg (by omega), if_neg (by omega)]
theorem gc_blind {D : va_G} {α : Nat → Nat} {cI cB cR : ClassId} {z0 : Nat} {avs : List Value} {cs : List gc_C} : FrameBlind (gc_Pc D α cI cB cR z0 avs cs) := fun a U g mk q => by
  obtain ⟨q0, q1, qP, qK, qD, qo, qs, qn, qa⟩ := q
  refine ⟨q0, q1, qP, va_K.moved (u := U) (U := U.calling g mk a) (Vm.Alike.refl U.vm) qK, qD, qo, ⟨qs.1.same rfl, qs.2.same rfl⟩, fun x hx => va_Nw.same (u := U) (U := U.calling g mk a) rfl rfl (qn x hx), gc_AO.moved (u := U) (U := U.calling g mk a) (Vm.Alike.refl U.vm) qa⟩
section GcCall
variable {own : String} {cc : ByteArray} {mL d mc ms pc : Nat} {lv : List (Nat × Value)} {rest : List Value} {cs : List gc_C} {cells slots : Nat} {Q : List gc_C → Prop}
theorem gc_room {mL' d' mc' ms' : Nat} (h : mL' ≤ 21) (hdd : d' + 1 ≤ d) : (gc_rm d' mc' ms').frames + 1 ≤ (gc_rm d mc ms).frames ∧ 8 + (mL' + 11) + (gc_rm d' mc' ms').locals ≤ (gc_rm d mc ms).locals := ⟨hdd, by
  show 8 + (mL' + 11) + 40 * d' ≤ 40 * d
  omega⟩
theorem gc_pre {p : Program} {s : State} {m : MethodId} {args : Array Value} {meth : Method} {c : Code} {D : va_G} {α : Nat → Nat} {cI cB cR : ClassId} {z0 : Nat} {H : Heap} {locs : List Loc} (hE : gc_Env own cc mL D α cI cB cR z0 p s m args meth c) (hok : gc_okS cs) (hH : gc_H D α cI cB cR z0 cs s H locs) (avs : List Value) : ∀ U : State, U.heap = H → s.WarmedH U.vm → gc_Pc D α cI cB cR z0 avs cs (avs.map (gk_tr α)).toArray U := fun U hU hW =>
  ⟨rfl, by rw [hU]; exact Nat.le_trans hE.2.2.2.2.2.2.2.2.1 hH.2.2.1, by rw [hU]; exact hH.1, va_K.moved hW.alike hE.2.2.2.2.2.2.2.1, hH.2.1, hok, ⟨hE.2.2.2.2.2.2.2.2.2.2.1.1.warm hW, hE.2.2.2.2.2.2.2.2.2.2.1.2.warm hW⟩, fun x hx => va_Nw.warmM hW (hE.2.2.2.2.2.2.2.2.2.2.2.1 x hx), hE.2.2.2.2.2.2.2.2.2.2.2.2.moved hW.alike⟩
theorem gc_after {p : Program} {l : Launch} {e : Env} {s : State} {m : MethodId} {args : Array Value} {below : List Frame} {meth : Method} {c : Code} {D : va_G} {α : Nat → Nat} {cI cB cR : ClassId} {z0 : Nat} {α0 : Nat → Nat} {n0 : Nat} {H : Heap} {locs : List Loc} {ls : Array Slot} {st0 : List Value} {a : Array Value} {mc' ms' : Nat} {Qa : List gc_C → Prop}
    (hr : va_Run p l e (gc_rm d mc ms) s m args below meth c H locs cells slots mc' ms' (F0 m pc ls st0) (rest.map (gk_tr α)) (gc_Qc D α cs.length cI cB cR z0 Qa a) (gk_A0 z0)) (hE : gc_Env own cc mL D α cI cB cR z0 p s m args meth c) (h0 : gc_same n0 α α0) (hn0 : n0 ≤ cs.length) (hok : gc_okS cs) (hL : gc_okL cs.length lv) (hT : gc_okT cs.length rest) (hH : gc_H D α cI cB cR z0 cs s H locs) (hl : lv_has ls mL (lv.map (fun q => (q.1, gk_tr α q.2))))
    (k : ∀ cs' : List gc_C, Qa cs' → Gc own cc mL d mc ms (pc + 3) lv rest cs' (cells + mc') (slots + ms') Q) : W p l e (gc_rm d mc ms) s m args below meth c H locs cells slots (MQ below (gc_Qc D α0 n0 cI cB cR z0 Q) args s mc ms (gk_A0 z0)) (F0 m pc ls st0) := by
  intro T hT0 X
  obtain ⟨v, st₀, t, T', L, hh0, X', hLq, e1, e2, ⟨⟨β, cs', hv, hs, hle, hok', hq, hP, hK, hD⟩, hz, hk⟩, st⟩ := hr T hT0 X
  have hv : v = none := by cases hv; rfl
  subst hv
  rw [hh0] at hz hk
  have hS : va_S (gk_A0 z0) s.heap T'.heap (locs ++ L) :=
    ⟨Nat.le_trans hH.2.2.1 (by rw [e1]; exact hz), fun q h1 h2 => by rw [e1, hk q (Nat.lt_of_lt_of_le h1 hH.2.2.1) h2]; exact hH.2.2.2.1 q h1 h2, fun q hq => by
      rcases List.mem_append.mp hq with h | h
      · exact hH.2.2.2.2 q h
      · exact hLq q h⟩
  obtain ⟨t2, a1, b1⟩ := k cs' hq p l e s m args below meth c D β cI cB cR z0 α0 n0 T'.heap (locs ++ L) ls (gc_env_ext hs hE) (gc_same_trans hn0 hs h0) (Nat.le_trans hn0 hle) hok' (gc_okL_mono hle hL) (gc_okT_mono hle hT) ⟨by rw [e1]; exact hP, hD, hS⟩ (by rw [gc_lv_same hs hL]; exact hl) T' rfl X'
  refine ⟨t2, st t2 ?_, b1⟩
  rw [gc_st_same hs hT] at a1
  exact a1
/-- invokespecial of a constructor -/
theorem gc_call {idx : Nat} {y : MethodName} {cc' : ByteArray} {mL' d' mc' ms' n o : Nat} {Qa : List gc_C → Prop} (As : List Value) (hd : decode cc pc = .ok (.invokespecial idx, 3)) (hw : gk_cw own idx y cc' mL' none n) (hi : Cond.instanceMethod y ∈ gk_tb) (hy : y.name = "<init>") (hn : As.length = n) (hr : (rest.map fun v => v.category).sum ≤ 8) (hdd : d' + 1 ≤ d) (hcm : cells + mc' ≤ mc) (hsm : slots + ms' ≤ ms) (hM : gc_CT y cc' mL' d' mc' ms' (.ref o :: As) cs Qa)
    (k : ∀ cs' : List gc_C, Qa cs' → Gc own cc mL d mc ms (pc + 3) lv rest cs' (cells + mc') (slots + ms') Q) : Gc own cc mL d mc ms pc lv (As.reverse ++ .ref o :: rest) cs cells slots Q := by
  intro p l e s m args below meth c D α cI cB cR z0 α0 n0 H locs ls hE h0 hn0 hok hL hT hH hl
  have ht := hE.2.2.2.2.2.2.1
  obtain ⟨w1, w2, w3, w4, w5⟩ := hw
  have hr2 : ((rest.map (gk_tr α)).map fun v => v.category).sum ≤ 8 := by simpa only [List.map_map, Function.comp_def, gk_tr_cat] using hr
  have cw : CallB (gc_rm d mc ms) s args own idx y cc' mL' none (Cond.code y cc' mL' none :: gk_tb) (gc_rm d' mc' ms') mc' ms' n := callB_of n ht (gk_good_code w2) rfl rfl rfl (ht _ w3) (ht _ w1) w4 (gc_room w5 hdd)
  exact gc_after (va_runI (As := As.map (gk_tr α)) (rest := rest.map (gk_tr α)) (b := α o) ⟨hE.1, hE.2.1, hE.2.2.1, hE.2.2.2.2.2.1, ht⟩ (hM l D α cI cB cR z0) ⟨cw, hy, ht _ hi⟩ ⟨gc_blind, gc_pre hE hok hH (.ref o :: As)⟩ rfl (by rw [List.length_map]; exact hn) hl.1 (by show (As.reverse ++ .ref o :: rest).map (gk_tr α) = _; rw [List.map_append, List.map_reverse]; rfl) (lv_room hr2) hd ⟨hcm, hsm⟩) hE h0 hn0 hok hL (fun v hv => hT v (List.mem_append_right _ (List.mem_cons_of_mem _ hv))) hH hl k
/-- invokespecial of a nest mate's private constructor -/
theorem gc_callN {idx : Nat} {y : MethodName} {cc' : ByteArray} {mL' d' mc' ms' n o : Nat} {Qa : List gc_C → Prop} (As : List Value) (hd : decode cc pc = .ok (.invokespecial idx, 3)) (w1 : (own, idx, y) ∈ gc_nest) (w2 : Cond.code y cc' mL' none ∈ gk_tb) (w3 : Cond.initialized y.cls ∈ gk_tb) (w4 : y.cls ≠ "java/lang/invoke/MethodHandle" ∧ y.cls ≠ "java/lang/invoke/VarHandle" ∧ (parseMethodDescriptor y.desc).map (fun d => d.parameters.length) = some n) (w5 : mL' ≤ 21) (hi : Cond.instanceMethod y ∈ gk_tb) (hy : y.name = "<init>") (hn : As.length = n) (hr : (rest.map fun v => v.category).sum ≤ 8) (hdd : d' + 1 ≤ d) (hcm : cells + mc' ≤ mc) (hsm : slots + ms' ≤ ms) (hM : gc_CT y cc' mL' d' mc' ms' (.ref o :: As) cs Qa)
    (k : ∀ cs' : List gc_C, Qa cs' → Gc own cc mL d mc ms (pc + 3) lv rest cs' (cells + mc') (slots + ms') Q) : Gc own cc mL d mc ms pc lv (As.reverse ++ .ref o :: rest) cs cells slots Q := by
  intro p l e s m args below meth c D α cI cB cR z0 α0 n0 H locs ls hE h0 hn0 hok hL hT hH hl
  have ht := hE.2.2.2.2.2.2.1
  have hr2 : ((rest.map (gk_tr α)).map fun v => v.category).sum ≤ 8 := by simpa only [List.map_map, Function.comp_def, gk_tr_cat] using hr
  have cw : va_CN (gc_rm d mc ms) s args own idx y "CableCars" cc' mL' none (Cond.code y cc' mL' none :: gk_tb) (gc_rm d' mc' ms') mc' ms' n := va_cnB n ht (gk_good_code w2) rfl rfl rfl (hE.2.2.2.2.2.2.2.2.2.2.2.1 _ w1) (ht _ w3) w4 (gc_room w5 hdd)
  exact gc_after (va_runIN (As := As.map (gk_tr α)) (rest := rest.map (gk_tr α)) (b := α o) ⟨hE.1, hE.2.1, hE.2.2.1, hE.2.2.2.2.2.1, ht⟩ (hM l D α cI cB cR z0) ⟨cw, hy, ht _ hi⟩ ⟨gc_blind, gc_pre hE hok hH (.ref o :: As)⟩ rfl (by rw [List.length_map]; exact hn) hl.1 (by show (As.reverse ++ .ref o :: rest).map (gk_tr α) = _; rw [List.map_append, List.map_reverse]; rfl) (lv_room hr2) hd ⟨hcm, hsm⟩) hE h0 hn0 hok hL (fun v hv => hT v (List.mem_append_right _ (List.mem_cons_of_mem _ hv))) hH hl k
theorem gc_ws2 {α : Nat → Nat} {cI cB cR : ClassId} {q N K : Nat} {r : Nat → Nat} (hok : gc_okS cs) (hlen : cs.length + N < 999) : gc_ws (gc_ext2 α cs.length q N r) cI cB cR (cs ++ ((102, (List.range N).map (fun i => cs.length + 1 + i), []) :: List.replicate N (100, [K], []))) = gc_ws α cI cB cR cs ++ (q, .inl (cR, N, .inr (.inr (.inr (.inr (fun i => if i < N then some (r i) else none)))))) :: (List.range N).map (fun i => (r i, .inl (cI, K, .inl (fun _ => 0)))) := by
  have hsm : gc_same cs.length (gc_ext2 α cs.length q N r) α := gc_ext2_same (by omega)
  have er : ∀ i, i < N → gc_ext2 α cs.length q N r (cs.length + 1 + i) = r i := fun i hi => by
    unfold gc_ext2
    rw [if_neg (by omega), if_pos (by omega)]
    congr 1
    omega
  rw [gc_ws_app, gc_ws_same hsm hok, List.mapIdx_cons]
  congr 1
  congr 1
  · have e9 : gc_ext2 α cs.length q N r (cs.length + 0) = q := by unfold gc_ext2; simp
    rw [e9]
    congr 1
    show Sum.inl (cR, ((List.range N).map (fun i => cs.length + 1 + i)).length, _) = _
    rw [List.length_map, List.length_range]
    have e8 : (fun i : Nat => (((List.range N).map (fun i => cs.length + 1 + i))[i]?).map (gc_ext2 α cs.length q N r)) = (fun i => if i < N then some (r i) else none) := by
      funext i
      by_cases hi : i < N
      · rw [List.getElem?_map, List.getElem?_range hi, if_pos hi]
        exact congrArg some (er i hi)
      · rw [List.getElem?_map, List.getElem?_eq_none (by rw [List.length_range]; omega), if_neg hi]
        rfl
    exact congrArg (fun z => Sum.inl (cR, N, Sum.inr (Sum.inr (Sum.inr (Sum.inr z))))) e8
  · apply List.ext_getElem?
    intro j
    rw [List.getElem?_mapIdx, List.getElem?_map, List.getElem?_replicate]
    by_cases hj : j < N
    · rw [if_pos hj, List.getElem?_range hj]
      show some (gc_ext2 α cs.length q N r (cs.length + (j + 1)), _) = some _
      rw [show cs.length + (j + 1) = cs.length + 1 + j by omega, er j hj]
      rfl
    · rw [if_neg hj, List.getElem?_eq_none (by rw [List.length_range]; omega)]
      rfl
end GcCall
