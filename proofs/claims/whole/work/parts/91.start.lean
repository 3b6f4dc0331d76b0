theorem gl_arr {ty : FieldType} {A : Array Value} {s : State} (h : (Cond.arrayClass ty).before A s = true) : ∃ cA : ClassId, ArrOfT s cA ty ∧ s.vm.findClass ("[" ++ ty.toString) = some cA := by
  obtain ⟨c, k, comp, h1, h2, h3⟩ := Cond.arrayClass_spec h
  exact ⟨c, fun n z => ⟨(fun q hq => by cases hq), k, h2, comp, h3⟩, h1⟩
set_option maxRecDepth 100000 in
set_option maxHeartbeats 4000000 in
theorem law_start {Inv : gk_St → Prop} (ok : ok_all Inv) (h0 : Inv gk_mu0) {p : Program} {e : Env} {s : State} {m : MethodId} {below : List Frame} {meth : Method} {c : Code} (l : Launch) {b L : Nat} {xs : Nat → Int32} (hL : L ≤ 3072) (C0 : lw_At p s m meth c b L xs) : W p l e room_1 s m #[Value.ref b] below meth c s.heap [] 0 0 (lw_Z below #[Value.ref b] s) (entryFrame m ([Value.ref b] : List Value).toArray 4) := by
  obtain ⟨hx, hb, hr, hml, hown, hts, hX, hbl, hlocks, hgv⟩ := id C0
  have htg : ∀ w ∈ gk_tb, w.before #[Value.ref b] s = true := fun w h => hts w (List.mem_filter.mp h).1
  have hA0 : ∀ a : Nat, a < s.heap.size → ¬ gk_A0 s.heap.size a := fun a h1 h2 => absurd h1 (Nat.not_lt.mpr h2)
  have hs := flat_of_before _ hgv
  obtain ⟨c0, iS0, hKn0⟩ := u_known (C := RX0) (T := TX0) (N := 4) (n := 4) htg cl_0.2.2.1 (htg _ kz_0)
  obtain ⟨c1, iS1, hKn1⟩ := u_known (C := RX1) (T := TX1) (N := 9) (n := 9) htg cl_1.2.2.1 (htg _ kz_1)
  obtain ⟨c2, iS2, hKn2⟩ := u_known (C := RX2) (T := TX2) (N := 13) (n := 13) htg cl_2.2.2.1 (htg _ kz_2)
  obtain ⟨c3, iS3, hKn3⟩ := u_known (C := RX3) (T := TX3) (N := 4) (n := 4) htg cl_3.2.2.1 (htg _ kz_3)
  obtain ⟨c4, iS4, hKn4⟩ := u_known (C := RX4) (T := TX4) (N := 4) (n := 4) htg cl_4.2.2.1 (htg _ kz_4)
  obtain ⟨c5, iS5, hKn5⟩ := u_known (C := RX5) (T := TX5) (N := 3) (n := 3) htg cl_5.2.2.1 (htg _ kz_5)
  obtain ⟨c6, iS6, hKn6⟩ := u_known (C := RX6) (T := TX6) (N := 8) (n := 8) htg cl_6.2.2.1 (htg _ kz_6)
  obtain ⟨c7, iS7, hKn7⟩ := u_known (C := RX7) (T := TX7) (N := 18) (n := 18) htg cl_7.2.2.1 (htg _ kz_7)
  obtain ⟨c8, iS8, hKn8⟩ := u_known (C := RX8) (T := TX8) (N := 48) (n := 48) htg cl_8.2.2.1 (htg _ kz_8)
  obtain ⟨dC, dI, hKc⟩ : ∃ (dC : Nat → ClassId) (dI : Nat → Nat → Nat), ∀ (k : Nat) (q : vw_C), vwCl[k]? = some q → u_Kn s q.1 q.2.1 q.2.2 (dC k) (dI k) := by
    refine ⟨fun k => if k = 0 then c0 else if k = 1 then c1 else if k = 2 then c2 else if k = 3 then c3 else if k = 4 then c4 else if k = 5 then c5 else if k = 6 then c6 else if k = 7 then c7 else c8, fun k => if k = 0 then iS0 else if k = 1 then iS1 else if k = 2 then iS2 else if k = 3 then iS3 else if k = 4 then iS4 else if k = 5 then iS5 else if k = 6 then iS6 else if k = 7 then iS7 else iS8, ?_⟩
    intro k q hq
    match k, hq with
    | 0, hq => cases hq; exact hKn0
    | 1, hq => cases hq; exact hKn1
    | 2, hq => cases hq; exact hKn2
    | 3, hq => cases hq; exact hKn3
    | 4, hq => cases hq; exact hKn4
    | 5, hq => cases hq; exact hKn5
    | 6, hq => cases hq; exact hKn6
    | 7, hq => cases hq; exact hKn7
    | 8, hq => cases hq; exact hKn8
    | k + 9, hq => simp [vwCl] at hq
  obtain ⟨cI, hI1, hI2⟩ := gl_arr (htg _ ka_int)
  obtain ⟨cB, hB1, hB2⟩ := gl_arr (htg _ ka_bool)
  have hAO : gc_AO s := hts (Cond.arrayOver (.array .int)) (List.mem_of_getElem? (i := 252) (by decide +kernel))
  obtain ⟨comp, cR, kR, hR1, hR2, hR3, hR4, hR5⟩ := gc_AO_spec hAO
  have hK : va_K (dC, dI) vwCl (gk_tys cI cB cR) s := by
    refine ⟨hKc, fun k q hk => ?_⟩
    match k, hk with
    | 0, hk => cases hk; exact ⟨hI1, hI2⟩
    | 1, hk => cases hk; exact ⟨hB1, hB2⟩
    | 2, hk => cases hk; exact ⟨fun n z => ⟨(fun q hq => by cases hq), kR, hR3, comp, hR4⟩, hR5⟩
    | k + 3, hk => simp [gk_tys] at hk
  obtain ⟨t, ht, hT⟩ := va_Tof (tm := Term.static "CableCars" "DIGEST_MOMENTS" "[I") (ty := .int) (N := 4) (f := fun j => .int (gk_dm j)) (A := gk_A0 s.heap.size) (by decide) (hs (Cond.arrayOf (Term.static "CableCars" "DIGEST_MOMENTS" "[I") .int) (by decide +kernel)) (va_eqt (hs (Cond.eq (Term.length (Term.static "CableCars" "DIGEST_MOMENTS" "[I")) (Term.int 4)) (by decide +kernel))) (fun j hj => by
    rcases (show j = 0 ∨ j = 1 ∨ j = 2 ∨ j = 3 by omega) with rfl | rfl | rfl | rfl
    · exact va_eqt (hs (Cond.eq (Term.elem (Term.static "CableCars" "DIGEST_MOMENTS" "[I") (Term.int 0)) (Term.int 0)) (by decide +kernel))
    · exact va_eqt (hs (Cond.eq (Term.elem (Term.static "CableCars" "DIGEST_MOMENTS" "[I") (Term.int 1)) (Term.int 5)) (by decide +kernel))
    · exact va_eqt (hs (Cond.eq (Term.elem (Term.static "CableCars" "DIGEST_MOMENTS" "[I") (Term.int 2)) (Term.int 12)) (by decide +kernel))
    · exact va_eqt (hs (Cond.eq (Term.elem (Term.static "CableCars" "DIGEST_MOMENTS" "[I") (Term.int 3)) (Term.int 23)) (by decide +kernel))) hA0
  have hZ1 := va_Zof (hts (Cond.laysStatic "CableCars" "DIGEST_MOMENTS" "[I") (List.mem_of_getElem? (i := 924) (by decide +kernel))) (hts (Cond.initialized "CableCars") (List.mem_of_getElem? (i := 85) (by decide +kernel))) ht hA0
  have hZ2 := va_Zof (A := gk_A0 s.heap.size) (hts (Cond.laysStatic "java/lang/String" "COMPACT_STRINGS" "Z") (List.mem_of_getElem? (i := 456) (by decide +kernel))) (hts (Cond.initialized "java/lang/String") (List.mem_of_getElem? (i := 95) (by decide +kernel))) (va_eqt (hs (Cond.eq (Term.static "java/lang/String" "COMPACT_STRINGS" "Z") (Term.int 1)) (by decide +kernel))) hA0
  obtain ⟨adK, adV, hVS, hVe⟩ := vk_Sof (args := #[Value.ref b]) (s := s) (N := 2) (tm := fun i => if i = 0 then Term.string "CableCars" 26 else Term.string "CableCars" 35) (len := [3, 2]) (byt := [[111, 115, 103], [98, 116]]) (A := gk_A0 s.heap.size) (fun i hi => by
    rcases (show i = 0 ∨ i = 1 by omega) with rfl | rfl <;> decide) (fun i hi => by
    rcases (show i = 0 ∨ i = 1 by omega) with rfl | rfl
    · exact hs (Cond.exactly (Term.string "CableCars" 26) "java/lang/String") (by decide +kernel)
    · exact hs (Cond.exactly (Term.string "CableCars" 35) "java/lang/String") (by decide +kernel)) (fun i hi => by
    rcases (show i = 0 ∨ i = 1 by omega) with rfl | rfl
    · exact hs (Cond.eq (Term.field (Term.string "CableCars" 26) "java/lang/String" "coder" "B") (Term.int 0)) (by decide +kernel)
    · exact hs (Cond.eq (Term.field (Term.string "CableCars" 35) "java/lang/String" "coder" "B") (Term.int 0)) (by decide +kernel)) (fun i hi => by
    rcases (show i = 0 ∨ i = 1 by omega) with rfl | rfl
    · exact hs (Cond.arrayOf (Term.field (Term.string "CableCars" 26) "java/lang/String" "value" "[B") .byte) (by decide +kernel)
    · exact hs (Cond.arrayOf (Term.field (Term.string "CableCars" 35) "java/lang/String" "value" "[B") .byte) (by decide +kernel)) (fun i hi => by
    rcases (show i = 0 ∨ i = 1 by omega) with rfl | rfl
    · exact hs (Cond.eq (Term.length (Term.field (Term.string "CableCars" 26) "java/lang/String" "value" "[B")) (Term.int 3)) (by decide +kernel)
    · exact hs (Cond.eq (Term.length (Term.field (Term.string "CableCars" 35) "java/lang/String" "value" "[B")) (Term.int 2)) (by decide +kernel)) (fun i hi j hj => by
    rcases (show i = 0 ∨ i = 1 by omega) with rfl | rfl
    · have hj : j < 3 := hj
      rcases (show j = 0 ∨ j = 1 ∨ j = 2 by omega) with rfl | rfl | rfl
      · exact hs (Cond.eq (Term.elem (Term.field (Term.string "CableCars" 26) "java/lang/String" "value" "[B") (Term.int 0)) (Term.int 111)) (by decide +kernel)
      · exact hs (Cond.eq (Term.elem (Term.field (Term.string "CableCars" 26) "java/lang/String" "value" "[B") (Term.int 1)) (Term.int 115)) (by decide +kernel)
      · exact hs (Cond.eq (Term.elem (Term.field (Term.string "CableCars" 26) "java/lang/String" "value" "[B") (Term.int 2)) (Term.int 103)) (by decide +kernel)
    · have hj : j < 2 := hj
      rcases (show j = 0 ∨ j = 1 by omega) with rfl | rfl
      · exact hs (Cond.eq (Term.elem (Term.field (Term.string "CableCars" 35) "java/lang/String" "value" "[B") (Term.int 0)) (Term.int 98)) (by decide +kernel)
      · exact hs (Cond.eq (Term.elem (Term.field (Term.string "CableCars" 35) "java/lang/String" "value" "[B") (Term.int 1)) (Term.int 116)) (by decide +kernel)) (fun i j hi hj hij => by
    rcases (show i = 0 ∨ i = 1 by omega) with rfl | rfl
    · rcases (show j = 0 ∨ j = 1 by omega) with rfl | rfl
      · exact absurd rfl hij
      · exact Or.inl (hs (Cond.not (Cond.eq (Term.string "CableCars" 26) (Term.string "CableCars" 35))) (by decide +kernel))
    · rcases (show j = 0 ∨ j = 1 by omega) with rfl | rfl
      · exact Or.inr (hs (Cond.not (Cond.eq (Term.string "CableCars" 26) (Term.string "CableCars" 35))) (by decide +kernel))
      · exact absurd rfl hij) hA0
  have hR26 : vk_R "CableCars" 26 "osg" (adK 0) s := vk_R.of (hts (Cond.stringRef "CableCars" 26 "osg") (List.mem_of_getElem? (i := 137) (by decide +kernel))) (hVe 0 (by omega))
  have hR35 : vk_R "CableCars" 35 "bt" (adK 1) s := vk_R.of (hts (Cond.stringRef "CableCars" 35 "bt") (List.mem_of_getElem? (i := 177) (by decide +kernel))) (hVe 1 (by omega))
  have hNS : gk_NS s := by
    intro q hq
    simp only [gk_nest, List.mem_cons, List.not_mem_nil, or_false] at hq
    rcases hq with rfl | rfl | rfl
    · exact va_Nw.of rfl (hts (Cond.methodLinkNest RX0 25 yX7_within "CableCars") (List.mem_of_getElem? (i := 578) (by decide +kernel)))
    · exact va_Nw.of rfl (hts (Cond.methodLinkNest RX0 29 yX7_isMoment "CableCars") (List.mem_of_getElem? (i := 579) (by decide +kernel)))
    · exact va_Nw.of rfl (hts (Cond.methodLinkNest RX6 67 yX7_within "CableCars") (List.mem_of_getElem? (i := 438) (by decide +kernel)))
  have hNC : gc_NS s := by
    intro q hq
    simp only [gc_nest, List.mem_cons, List.not_mem_nil, or_false] at hq
    rcases hq with rfl | rfl | rfl | rfl | rfl
    · exact va_Nw.of rfl (hts (Cond.methodLinkNest RX7 42 yX0_init "CableCars") (List.mem_of_getElem? (i := 180) (by decide +kernel)))
    · exact va_Nw.of rfl (hts (Cond.methodLinkNest RX7 49 yX4_init "CableCars") (List.mem_of_getElem? (i := 204) (by decide +kernel)))
    · exact va_Nw.of rfl (hts (Cond.methodLinkNest RX7 56 yX3_init "CableCars") (List.mem_of_getElem? (i := 224) (by decide +kernel)))
    · exact va_Nw.of rfl (hts (Cond.methodLinkNest RX7 72 yX1_init "CableCars") (List.mem_of_getElem? (i := 247) (by decide +kernel)))
    · exact va_Nw.of rfl (hts (Cond.methodLinkNest RX7 79 yX2_init "CableCars") (List.mem_of_getElem? (i := 291) (by decide +kernel)))
  obtain ⟨α, hα⟩ : ∃ α : Nat → Nat, α = fun i => if i = 1000 then adK 0 else if i = 1001 then adK 1 else if i = 1002 then t else if i = 1010 then adV 0 else if i = 1011 then adV 1 else b := ⟨_, rfl⟩
  have a0 : α 1000 = adK 0 := by rw [hα]; rfl
  have a1 : α 1001 = adK 1 := by rw [hα]; rfl
  have a2 : α 1002 = t := by rw [hα]; rfl
  have a3 : α 1010 = adV 0 := by rw [hα]; rfl
  have a4 : α 1011 = adV 1 := by rw [hα]; rfl
  have a5 : α 2000 = b := by rw [hα]; rfl
  have hV2 : vk_S 2 [3, 2] [[111, 115, 103], [98, 116]] (fun i => α (1000 + i)) (fun i => α (1010 + i)) (gk_A0 s.heap.size) s s.heap := by
    refine ⟨fun i hi => ?_, fun i j hi hj e => ?_⟩
    · rcases (show i = 0 ∨ i = 1 by omega) with rfl | rfl
      · have := hVS.1 0 (by omega)
        rw [← a0, ← a3] at this
        exact this
      · have := hVS.1 1 (by omega)
        rw [← a1, ← a4] at this
        exact this
    · rcases (show i = 0 ∨ i = 1 by omega) with rfl | rfl
      · rcases (show j = 0 ∨ j = 1 by omega) with rfl | rfl
        · rfl
        · exact hVS.2 0 1 (by omega) (by omega) (by rw [← a0, ← a1]; exact e)
      · rcases (show j = 0 ∨ j = 1 by omega) with rfl | rfl
        · exact hVS.2 1 0 (by omega) (by omega) (by rw [← a0, ← a1]; exact e)
        · rfl
  rw [← a2] at hZ1 hT
  rw [← a0] at hR26
  rw [← a1] at hR35
  have hE : gn_Env L xs p s m meth c b (dC, dI) α cI cB cR := ⟨hx, hb, hml, hr, hlocks, hown, htg, hK, ⟨hZ1, hT, hZ2, hV2⟩, hNS, hX, hbl, a5, ⟨hR26, hR35⟩, hNC, hAO⟩
  have hl := lv_entry ([.ref b]) (n := 4) (Nat.le_of_ble_eq_true rfl)
  rw [lg_entry_eq]
  generalize (lg_sl ([.ref b]) ++ List.replicate (4 - (lg_sl ([.ref b])).length) Slot.unset).toArray = ls at hl ⊢
  have hl2 : lv_has ls 4 (([(0, .ref 2000)] : List (Nat × Value)).map (fun q => (q.1, gk_tr α q.2))) := by
    show lv_has ls 4 [(0, .ref (α 2000))]
    rw [a5]
    exact hl
  exact law_new ok h0 hL p l e s m below meth c b (dC, dI) α cI cB cR s.heap [] ls hE ⟨by decide, fun _ h => by cases h⟩ (fun q hq => by
    rw [List.mem_singleton.mp hq]
    rfl) (fun _ h => by cases h) ⟨fun k q h => by simp [gc_ws] at h, ⟨fun i j p q h => by simp [gc_ws] at h, fun k q h => by simp [gc_ws] at h⟩, va_S.rf⟩ hl2
