/-! THE LAW's own judgement: Go's, over room_1, with the script (cell 2000) beside the cells -/
def gl_Env (L : Nat) (xs : Nat → Int32) (p : Program) (s : State) (m : MethodId) (meth : Method) (c : Code) (b : Nat) (D : va_G) (α : Nat → Nat) (cI cB cR : ClassId) : Prop :=
  p.tables.exec = Jvm.exec ∧ c.code = code ∧ c.maxLocals = 4 ∧ meth.sig.returnType = ret ∧ meth.locks = false ∧ s.vm.findClass RL = some m.cls ∧ (∀ w ∈ gk_tb, w.before #[Value.ref b] s = true) ∧ va_K D vwCl (gk_tys cI cB cR) s ∧ gk_RO s.heap.size α s s.heap ∧ gk_NS s ∧ va_X b L xs s s.heap ∧ b < s.heap.size ∧ α 2000 = b
def GL (L : Nat) (xs : Nat → Int32) (pc : Nat) (lv : List (Nat × Value)) (st : List Value) (μ : gk_St) : Prop :=
  ∀ (p : Program) (l : Launch) (e : Env) (s : State) (m : MethodId) (below : List Frame) (meth : Method) (c : Code) (b : Nat) (D : va_G) (α : Nat → Nat) (cI cB cR : ClassId) (H : Heap) (locs : List Loc) (ls : Array Slot),
    gl_Env L xs p s m meth c b D α cI cB cR → gk_H D α cI cB cR μ s H locs → lv_has ls 4 (lv.map (fun q => (q.1, gk_tr α q.2))) →
    W p l e room_1 s m #[Value.ref b] below meth c H locs 135 3099 (lw_Z below #[Value.ref b] s) (F0 m pc ls (st.map (gk_tr α)))
section GLr
variable {L : Nat} {xs : Nat → Int32} {pc : Nat} {lv : List (Nat × Value)} {rest : List Value} {μ : gk_St}
theorem gl_iadd {x y : Int32} (hd : decode code pc = .ok (.iadd, 1)) (k : GL L xs (pc + 1) lv (.int (x + y) :: rest) μ) : GL L xs pc lv (.int y :: .int x :: rest) μ := by
  intro p l e s m below meth c b D α cI cB cR H locs ls hE hH hl
  exact lv_iadd hE.1 hE.2.1 hd (k p l e s m below meth c b D α cI cB cR H locs ls hE hH hl)
theorem gl_isub {x y : Int32} (hd : decode code pc = .ok (.isub, 1)) (k : GL L xs (pc + 1) lv (.int (x - y) :: rest) μ) : GL L xs pc lv (.int y :: .int x :: rest) μ := by
  intro p l e s m below meth c b D α cI cB cR H locs ls hE hH hl
  exact lv_isub hE.1 hE.2.1 hd (k p l e s m below meth c b D α cI cB cR H locs ls hE hH hl)
theorem gl_iand {x y : Int32} (hd : decode code pc = .ok (.iand, 1)) (k : GL L xs (pc + 1) lv (.int (x &&& y) :: rest) μ) : GL L xs pc lv (.int y :: .int x :: rest) μ := by
  intro p l e s m below meth c b D α cI cB cR H locs ls hE hH hl
  exact lv_iand hE.1 hE.2.1 hd (k p l e s m below meth c b D α cI cB cR H locs ls hE hH hl)
theorem gl_lcmp {x y : Int64} (hd : decode code pc = .ok (.lcmp, 1)) (k : GL L xs (pc + 1) lv (.int (lg_cmp x y) :: rest) μ) : GL L xs pc lv (.long y :: .long x :: rest) μ := by
  intro p l e s m below meth c b D α cI cB cR H locs ls hE hH hl
  exact W.lcmp hE.1 hE.2.1 hd (k p l e s m below meth c b D α cI cB cR H locs ls hE hH hl)
theorem gl_iconst {n : Int} {v : Int32} (hd : decode code pc = .ok (.iconst n, 1)) (hv : Int32.ofInt n = v) (k : GL L xs (pc + 1) lv (.int v :: rest) μ) : GL L xs pc lv rest μ := by
  intro p l e s m below meth c b D α cI cB cR H locs ls hE hH hl
  exact lv_iconst hE.1 hE.2.1 hd hv (k p l e s m below meth c b D α cI cB cR H locs ls hE hH hl)
theorem gl_bipush {n : Int} {v : Int32} (hd : decode code pc = .ok (.bipush n, 2)) (hv : (Int8.ofInt n).toInt32 = v) (k : GL L xs (pc + 2) lv (.int v :: rest) μ) : GL L xs pc lv rest μ := by
  intro p l e s m below meth c b D α cI cB cR H locs ls hE hH hl
  exact lv_bipush hE.1 hE.2.1 hd hv (k p l e s m below meth c b D α cI cB cR H locs ls hE hH hl)
theorem gl_iload_n {j : Fin 4} {i : Nat} {x : Int32} (n : Nat) (hd : decode code pc = .ok (.iload_n j, 1)) (hi : (j : Nat) = i) (hk : lv[n]? = some (i, .int x)) (k : GL L xs (pc + 1) lv (.int x :: rest) μ) : GL L xs pc lv rest μ := by
  intro p l e s m below meth c b D α cI cB cR H locs ls hE hH hl
  exact lv_iload_n hE.1 hE.2.1 hd hi (gk_lv_at hl hk) (k p l e s m below meth c b D α cI cB cR H locs ls hE hH hl)
theorem gl_aload_n {j : Fin 4} {i : Nat} {x : Nat} (n : Nat) (hd : decode code pc = .ok (.aload_n j, 1)) (hi : (j : Nat) = i) (hk : lv[n]? = some (i, .ref x)) (k : GL L xs (pc + 1) lv (.ref x :: rest) μ) : GL L xs pc lv rest μ := by
  intro p l e s m below meth c b D α cI cB cR H locs ls hE hH hl
  exact lv_aload_n hE.1 hE.2.1 hd hi (gk_lv_at hl hk) (k p l e s m below meth c b D α cI cB cR H locs ls hE hH hl)
theorem gl_iinc {i : Nat} {n : Int} {x w : Int32} (j : Nat) (lv' : Int32 → List (Nat × Value)) (hd : decode code pc = .ok (.iinc i n, 3)) (hk : lv[j]? = some (i, .int x)) (hw : Int32.ofInt n = w) (hn : i < 4) (hl' : ∀ v : Int32, (i, Value.int v) :: lv.filter (fun q => !(q.1 == i) && !(q.1 + 1 == i && q.2.category == 2)) = lv' v) (k : ∀ v : Int32, v = x + w → GL L xs (pc + 3) (lv' v) rest μ) : GL L xs pc lv rest μ := by
  intro p l e s m below meth c b D α cI cB cR H locs ls hE hH hl
  refine lv_iinc (k := j) hE.1 hE.2.1 hd hl (by rw [List.getElem?_map, hk]; rfl) (by rw [hw]) hn (by rw [gk_filt1]; exact congrArg (List.map (fun q : Nat × Value => (q.1, gk_tr α q.2))) (hl' (x + w))) (fun ls hl => k _ rfl p l e s m below meth c b D α cI cB cR H locs ls hE hH hl)
theorem gl_icmp_eq {x y : Int32} {off : Int} (tgt : Nat) (hd : decode code pc = .ok (.if_icmp .eq off, 3)) (ht : (pc : Int) + off = (tgt : Int)) (kt : x = y → GL L xs tgt lv rest μ) (kf : ¬ x = y → GL L xs (pc + 3) lv rest μ) : GL L xs pc lv (.int y :: .int x :: rest) μ := by
  intro p l e s m below meth c b D α cI cB cR H locs ls hE hH hl
  exact lv_icmp_eq hE.1 hE.2.1 hd ht (fun q => kt q p l e s m below meth c b D α cI cB cR H locs ls hE hH hl) (fun q => kf q p l e s m below meth c b D α cI cB cR H locs ls hE hH hl)
theorem gl_icmp_gt {x y : Int32} {off : Int} (tgt : Nat) (hd : decode code pc = .ok (.if_icmp .gt off, 3)) (ht : (pc : Int) + off = (tgt : Int)) (kt : y < x → GL L xs tgt lv rest μ) (kf : ¬ y < x → GL L xs (pc + 3) lv rest μ) : GL L xs pc lv (.int y :: .int x :: rest) μ := by
  intro p l e s m below meth c b D α cI cB cR H locs ls hE hH hl
  exact lv_icmp_gt hE.1 hE.2.1 hd ht (fun q => kt q p l e s m below meth c b D α cI cB cR H locs ls hE hH hl) (fun q => kf q p l e s m below meth c b D α cI cB cR H locs ls hE hH hl)
theorem gl_if_eq {x : Int32} {off : Int} (tgt : Nat) (hd : decode code pc = .ok (.ifCond .eq off, 3)) (ht : (pc : Int) + off = (tgt : Int)) (kt : x = 0 → GL L xs tgt lv rest μ) (kf : ¬ x = 0 → GL L xs (pc + 3) lv rest μ) : GL L xs pc lv (.int x :: rest) μ := by
  intro p l e s m below meth c b D α cI cB cR H locs ls hE hH hl
  exact lv_if_eq hE.1 hE.2.1 hd ht (fun q => kt q p l e s m below meth c b D α cI cB cR H locs ls hE hH hl) (fun q => kf q p l e s m below meth c b D α cI cB cR H locs ls hE hH hl)
theorem gl_goto {off : Int} (tgt : Nat) (hd : decode code pc = .ok (.goto off, 3)) (ht : (pc : Int) + off = (tgt : Int)) (k : GL L xs tgt lv rest μ) : GL L xs pc lv rest μ := by
  intro p l e s m below meth c b D α cI cB cR H locs ls hE hH hl
  exact lv_goto hE.1 hE.2.1 hd ht (k p l e s m below meth c b D α cI cB cR H locs ls hE hH hl)
theorem gl_tableIn {dflt lo hi : Int} {offs : Array Int} {len : Nat} {x k : Int32} {off : Int} (tgt : Nat) (hd : decode code pc = .ok (.tableswitch dflt lo hi offs, len)) (hx : x = k) (h1 : ¬ k.toInt < lo) (h2 : ¬ hi < k.toInt) (ho : offs[(k.toInt - lo).toNat]? = some off) (ht : (pc : Int) + off = (tgt : Int)) (kk : GL L xs tgt lv rest μ) : GL L xs pc lv (.int x :: rest) μ := by
  intro p l e s m below meth c b D α cI cB cR H locs ls hE hH hl
  subst hx
  exact lv_tableIn hE.1 hE.2.1 hd h1 h2 ho ht (kk p l e s m below meth c b D α cI cB cR H locs ls hE hH hl)
theorem gl_tableOut {dflt lo hi : Int} {offs : Array Int} {len : Nat} {x : Int32} (tgt : Nat) (hd : decode code pc = .ok (.tableswitch dflt lo hi offs, len)) (h : x.toInt < lo ∨ hi < x.toInt) (ht : (pc : Int) + dflt = (tgt : Int)) (kk : GL L xs tgt lv rest μ) : GL L xs pc lv (.int x :: rest) μ := by
  intro p l e s m below meth c b D α cI cB cR H locs ls hE hH hl
  exact lv_tableOut hE.1 hE.2.1 hd h ht (kk p l e s m below meth c b D α cI cB cR H locs ls hE hH hl)
theorem gl_lv {lv' : List (Nat × Value)} {st : List Value} (ks : List Nat) (h : lv_pick lv ks = lv') (k : GL L xs pc lv' st μ) : GL L xs pc lv st μ := by
  intro p l e s m below meth c b D α cI cB cR H locs ls hE hH hl
  refine k p l e s m below meth c b D α cI cB cR H locs ls hE hH (lv_sub hl ks ?_)
  rw [← h]
  unfold lv_pick
  rw [List.map_filterMap]
  refine congrArg (fun g => List.filterMap g ks) (funext fun j => ?_)
  rw [List.getElem?_map]
theorem gl_out {p : Program} {s : State} {m : MethodId} {meth : Method} {c : Code} {b : Nat} {D : va_G} {α : Nat → Nat} {cI cB cR : ClassId} (hE : gl_Env L xs p s m meth c b D α cI cB cR) : ¬ gk_A α s.heap.size b := fun h => by
  have h1 := gk_A_A0 hE.2.2.2.2.2.2.2.2.1.1 hE.2.2.2.2.2.2.2.2.1.2.1 b h
  have h2 := hE.2.2.2.2.2.2.2.2.2.2.2.1
  exact absurd h2 (Nat.not_lt.mpr h1)
theorem gl_sld {i : Int32} (hd : decode code pc = .ok (.iaload, 1)) (hin : vp_in i L) (k : GL L xs (pc + 1) lv (.int (xs i.toNatClampNeg) :: rest) μ) : GL L xs pc lv (.int i :: .ref 2000 :: rest) μ := by
  intro p l e s m below meth c b D α cI cB cR H locs ls hE hH hl
  have e9 := hE.2.2.2.2.2.2.2.2.2.2.2.2
  have h := va_sld hE.1 hE.2.1 hE.2.2.2.2.2.2.2.2.2.2.1 hE.2.2.2.2.2.2.2.2.2.2.2.1 (gl_out hE) hH.2.2 hin hd (k p l e s m below meth c b D α cI cB cR H locs ls hE hH hl)
  rw [← e9] at h ⊢
  exact h
theorem gl_slen (hd : decode code pc = .ok (.arraylength, 1)) (k : GL L xs (pc + 1) lv (.int (Int32.ofNat L) :: rest) μ) : GL L xs pc lv (.ref 2000 :: rest) μ := by
  intro p l e s m below meth c b D α cI cB cR H locs ls hE hH hl
  have e9 := hE.2.2.2.2.2.2.2.2.2.2.2.2
  have h := va_slen hE.1 hE.2.1 hE.2.2.2.2.2.2.2.2.2.2.1 hE.2.2.2.2.2.2.2.2.2.2.2.1 (gl_out hE) hH.2.2 hd (k p l e s m below meth c b D α cI cB cR H locs ls hE hH hl)
  rw [← e9] at h ⊢
  exact h
theorem gl_ret (hd : decode code pc = .ok (.ireturn, 1)) : GL L xs pc lv [.int 1] μ := by
  intro p l e s m below meth c b D α cI cB cR H locs ls hE hH hl
  refine W.widen (k := 600000) (n := 7302250) (Nat.le_of_ble_eq_true rfl) (Nat.le_of_ble_eq_true rfl) ?_
  refine va_forget (fun q hq => ?_) ?_
  · have h1 := hH.2.2.2.2 q hq
    exact gk_A_A0 hE.2.2.2.2.2.2.2.2.1.1 hE.2.2.2.2.2.2.2.2.1.2.1 _ h1
  · exact lw_ret hE.1 hE.2.1 hE.2.2.2.1 hE.2.2.2.2.1 hd
theorem gl_pre {p : Program} {s : State} {m : MethodId} {meth : Method} {c : Code} {b : Nat} {D : va_G} {α : Nat → Nat} {cI cB cR : ClassId} {H : Heap} {locs : List Loc} (hE : gl_Env L xs p s m meth c b D α cI cB cR) (hH : gk_H D α cI cB cR μ s H locs) (avs : List Value) : ∀ U : State, U.heap = H → s.WarmedH U.vm → gk_Pc D α cI cB cR s.heap.size H.size avs μ (avs.map (gk_tr α)).toArray U := fun U hU hW =>
  ⟨rfl, by rw [hU], by rw [hU]; exact hH.1, va_K.moved hW.alike hE.2.2.2.2.2.2.2.1, hH.2.1.weaken (fun _ _ _ _ => trivial), by rw [hU]; exact (hE.2.2.2.2.2.2.2.2.1.kept hH.2.2).moved hW.alike, hE.2.2.2.2.2.2.2.2.2.1.warm hW⟩
theorem gl_callV {idx : Nat} {y : MethodName} {cc' : ByteArray} {mL' d' n ci o : Nat} {ret' : Option FieldType} {T : u_T} {N : Nat} {Qa : Option Value → gk_St → Prop} (As : List Value) (hd : decode code pc = .ok (.invokevirtual idx, 3)) (hw : gk_cw RL idx y cc' mL' ret' n) (hi : Cond.instanceMethod y ∈ gk_tb) (hs : Cond.selects y.cls y y ∈ gk_tb) (hc : vwCl[ci]? = some (y.cls, T, N)) (hci : ci < 100) (ho : gk_isO o ci) (hn : As.length = n) (hr : (rest.map fun v => v.category).sum ≤ 8) (hdd : d' ≤ 12) (hM : gk_CT y cc' mL' ret' d' (.ref o :: As) μ Qa)
    (k : ∀ (r : Option Value) (μ' : gk_St), Qa r μ' → GL L xs (pc + 3) lv (r.toList ++ rest) μ') : GL L xs pc lv (As.reverse ++ .ref o :: rest) μ := by
  intro p l e s m below meth c b D α cI cB cR H locs ls hE hH hl
  have ht := hE.2.2.2.2.2.2.1
  obtain ⟨w1, w2, w3, w4, w5⟩ := hw
  have hr2 : ((rest.map (gk_tr α)).map fun v => v.category).sum ≤ 8 := by simpa only [List.map_map, Function.comp_def, gk_tr_cat] using hr
  have hroom : (gk_rm d').frames + 1 ≤ room_1.frames ∧ 8 + (mL' + 11) + (gk_rm d').locals ≤ room_1.locals := by
    refine ⟨?_, ?_⟩
    · show d' + 1 ≤ 14
      omega
    · show 8 + (mL' + 11) + 40 * d' ≤ 554
      omega
  have cw : CallW room_1 s #[Value.ref b] RL y.cls idx y cc' mL' ret' (Cond.code y cc' mL' ret' :: gk_tb) (gk_rm d') 0 0 n := ⟨callB_of n ht (gk_good_code w2) rfl rfl rfl (ht _ w3) (ht _ w1) w4 hroom, ht _ hi, ht _ hs⟩
  have hrec := va_recv hE.2.2.2.2.2.2.2.1 hH.1 hc (a := α o) (q0 := o) (fs := (gk_sk o).2.mapIdx (fun j r => if r = 0 then Value.int (μ o j) else Value.ref (α (r - 1)))) (by rw [gk_ws_get (gk_isO_lt ho (by omega)), gk_ce_o ho hci])
  have hrun := va_runV (l := l) (e := e) (below := below) (meth := meth) (locs := locs) (cells := 135) (slots := 3099) (g := F0 m pc ls ((As.reverse ++ .ref o :: rest).map (gk_tr α))) (As := As.map (gk_tr α)) (rest := rest.map (gk_tr α)) (b := α o) ⟨hE.1, hE.2.1, hE.2.2.1, hE.2.2.2.2.2.1, ht⟩ (hM l D α cI cB cR s.heap.size H.size) cw ⟨gk_blind, hrec, gl_pre hE hH (.ref o :: As)⟩ rfl (by rw [List.length_map]; exact hn) hl.1 (by show (As.reverse ++ .ref o :: rest).map (gk_tr α) = _; rw [List.map_append, List.map_reverse]; rfl) (lv_room hr2) hd ⟨Nat.le_of_ble_eq_true rfl, Nat.le_of_ble_eq_true rfl⟩
  intro T0 hT X
  obtain ⟨v, st₀, t, T', Lq, h0, X', hL, e1, e2, ⟨⟨r, μ', hv, hq, hP, hK, hD⟩, hz, hk⟩, st⟩ := hrun T0 hT X
  have hv : v = r.map (gk_tr α) := by cases hv; rfl
  subst hv
  rw [h0] at hz hk
  have hle : s.heap.size ≤ H.size := hH.2.2.1
  have hS : va_S (gk_A α s.heap.size) s.heap T'.heap (locs ++ Lq) :=
    ⟨Nat.le_trans hle (by rw [e1]; exact hz), fun q h1 h2 => by rw [e1, hk q (Nat.lt_of_lt_of_le h1 hle) (fun z => h2 (gk_A_mono hle q z))]; exact hH.2.2.2.1 q h1 h2, fun q hq => by
      rcases List.mem_append.mp hq with h | h
      · exact hH.2.2.2.2 q h
      · exact gk_A_mono hle _ (hL q h)⟩
  obtain ⟨t2, a1, b1⟩ := k r μ' hq p l e s m below meth c b D α cI cB cR T'.heap (locs ++ Lq) ls hE ⟨by rw [e1]; exact hP, hD.weaken (fun _ _ _ h => gk_A_mono hle _ h), hS⟩ hl T' rfl X'
  refine ⟨t2, st t2 ?_, b1⟩
  have hst : (r.toList ++ rest).map (gk_tr α) = (r.map (gk_tr α)).toList ++ rest.map (gk_tr α) := by cases r <;> simp
  rw [hst] at a1
  exact a1
theorem gl_ki {Qa : Int32 → gk_St → Prop} (k : ∀ (v : Int32) (μ : gk_St), Qa v μ → GL L xs pc lv (.int v :: rest) μ) : ∀ (r : Option Value) (μ : gk_St), gk_Qi Qa r μ → GL L xs pc lv (r.toList ++ rest) μ := by
  rintro r μ ⟨v, rfl, h⟩
  exact k v μ h
theorem gl_kl {Qa : Int64 → gk_St → Prop} (k : ∀ (v : Int64) (μ : gk_St), Qa v μ → GL L xs pc lv (.long v :: rest) μ) : ∀ (r : Option Value) (μ : gk_St), gk_Ql Qa r μ → GL L xs pc lv (r.toList ++ rest) μ := by
  rintro r μ ⟨v, rfl, h⟩
  exact k v μ h
end GLr
