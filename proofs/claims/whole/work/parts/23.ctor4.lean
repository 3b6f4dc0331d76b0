/-- new int[n][k] -/
theorem gc_mna {own : String} {cc : ByteArray} {mL d mc ms pc : Nat} {lv : List (Nat × Value)} {rest : List Value} {cs : List gc_C} {cells slots : Nat} {Q : List gc_C → Prop} {idx : Nat} {x y : Int32} (N K : Nat) (hd : decode cc pc = .ok (.multianewarray idx 2, 4)) (w1 : Cond.classLink own idx "[[I" ∈ gk_tb) (w2 : Cond.arrayClass .int ∈ gk_tb) (hx : ¬ x < 0) (hy : ¬ y < 0) (hN : x.toNatClampNeg = N) (hK9 : y.toNatClampNeg = K) (hb1 : N ≤ 100) (hb2 : K ≤ 1000) (hlen : cs.length + N < 900) (hcm : cells + (1 + N) ≤ mc) (hsm : slots + (N + N * K) ≤ ms)
    (kk : Gc own cc mL d mc ms (pc + 4) lv (.ref cs.length :: rest) (cs ++ ((102, (List.range N).map (fun i => cs.length + 1 + i), []) :: List.replicate N (100, [K], []))) (cells + 1 + N) (slots + N + N * K) Q) : Gc own cc mL d mc ms pc lv (.int y :: .int x :: rest) cs cells slots Q := by
  intro p l e s m args below meth c D α cI cB cR z0 α0 n0 H locs ls hE h0 hn0 hok hL hT hH hl
  have ht := hE.2.2.2.2.2.2.1
  have hK := hE.2.2.2.2.2.2.2.1
  have hcI : s.vm.findClass (FieldType.array .int).toString = some cI := (hK.2 0 (cI, .int) rfl).2
  have e0 : gc_ws α cI cB cR cs ++ va_pl [] (fun _ => (.inr (0, []) : va_E)) = gc_ws α cI cB cR cs := List.append_nil _
  refine va_mna (X := gc_ws α cI cB cR cs) (L := []) (f := fun _ => .inr (0, [])) (ty := .int) (cy := cI) (N' := N) (K' := K) (z := (K, .inl (fun _ => 0))) hE.1 hE.2.1 hE.2.2.2.2.2.1 (ht _ w1) hE.2.2.2.2.2.2.2.2.2.2.2.2 (ht _ w2) hcI hK (by rw [e0]; exact hH.1) (by rw [e0]; exact hH.2.1) hH.2.2 (fun q hq => Nat.le_trans hE.2.2.2.2.2.2.2.2.1 hq) hx hy hN hK9 (by omega) (by show K * 4 ≤ _; omega) (by omega) rfl rfl hcm hsm (fun c9 => arrV_new c9 K (.int 0)) hd (fun q r cA H1 hinj hnot hK2 hP hD hS => ?_)
  have hcA : cA = cR := by
    have a1 := (hK2.2 3 (cA, .array .int) rfl).2
    have a2 := (hK.2 2 (cR, .array .int) rfl).2
    exact Option.some.inj (a1.symm.trans a2)
  subst hcA
  have hsm9 : gc_same cs.length (gc_ext2 α cs.length q N r) α := gc_ext2_same (by omega)
  have hin : va_pl ([] ++ (List.range N).map r) (vr_up (fun _ => (.inr (0, []) : va_E)) ((List.range N).map r) (.inl (cI, (K, .inl (fun _ => 0))))) = (List.range N).map (fun i => (r i, .inl (cI, K, .inl (fun _ => 0)))) := by
    unfold va_pl
    rw [List.nil_append, List.map_map]
    refine List.map_congr_left fun i hi => ?_
    show (r i, vr_up _ _ _ (r i)) = _
    rw [vr_up_in (List.mem_map.mpr ⟨i, hi, rfl⟩)]
  have hw : (gc_ws α cI cB cA cs ++ [(q, .inl (cA, N, .inr (.inr (.inr (.inr (fun i => if i < N then some (r i) else none))))))]) ++ va_pl ([] ++ (List.range N).map r) (vr_up (fun _ => (.inr (0, []) : va_E)) ((List.range N).map r) (.inl (cI, (K, .inl (fun _ => 0))))) = gc_ws (gc_ext2 α cs.length q N r) cI cB cA (cs ++ ((102, (List.range N).map (fun i => cs.length + 1 + i), []) :: List.replicate N (100, [K], []))) := by
    rw [gc_ws2 hok (by omega), hin, List.append_assoc]
    rfl
  rw [hw] at hP hD
  have hl9 : (cs ++ (((102, (List.range N).map (fun i => cs.length + 1 + i), []) : gc_C) :: List.replicate N (100, [K], []))).length = cs.length + 1 + N := by simp; omega
  have hT1 : gc_okT cs.length rest := fun v hv => hT v (List.mem_cons_of_mem _ (List.mem_cons_of_mem _ hv))
  have hT9 : gc_okT (cs ++ (((102, (List.range N).map (fun i => cs.length + 1 + i), []) : gc_C) :: List.replicate N (100, [K], []))).length (.ref cs.length :: rest) := by
    rw [hl9]
    refine List.forall_mem_cons.mpr ⟨?_, gc_okT_mono (by omega) hT1⟩
    unfold gc_okv gc_okr
    simp
    omega
  have hst : (.ref q :: rest.map (gk_tr α)) = (Value.ref cs.length :: rest).map (gk_tr (gc_ext2 α cs.length q N r)) := by
    rw [List.map_cons, gc_st_same hsm9 hT1]
    have e9 : gc_ext2 α cs.length q N r cs.length = q := by unfold gc_ext2; simp
    show _ = Value.ref (gc_ext2 α cs.length q N r cs.length) :: _
    rw [e9]
  rw [hst]
  refine kk p l e s m args below meth c D (gc_ext2 α cs.length q N r) cI cB cA z0 α0 n0 H1 locs ls (gc_env_ext hsm9 hE) (gc_same_trans hn0 hsm9 h0) (by rw [hl9]; omega) (gc_okS_push hok (by rw [hl9]; omega) (fun x hx => ?_)) (by rw [hl9]; exact gc_okL_mono (by omega) hL) hT9 ⟨hP, hD, hS⟩ (by rw [gc_lv_same hsm9 hL]; exact hl)
  rw [hl9]
  rcases List.mem_cons.mp hx with e | e
  · rw [e]
    unfold gc_okc
    dsimp only
    rw [if_pos rfl, List.all_eq_true]
    intro r9 hr9
    obtain ⟨i, hi, rfl⟩ := List.mem_map.mp hr9
    have := List.mem_range.mp hi
    unfold gc_okr
    simp
    omega
  · rw [(List.mem_replicate.mp e).2]
    exact gc_okc_row (Or.inl rfl)
