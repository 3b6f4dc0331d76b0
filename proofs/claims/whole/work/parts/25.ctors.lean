theorem gc_csEq {own : String} {cc : ByteArray} {mL d mc ms pc : Nat} {lv : List (Nat × Value)} {st : List Value} {cs cs2 : List gc_C} {cells slots : Nat} {Q : List gc_C → Prop} (e : cs = cs2) (k : Gc own cc mL d mc ms pc lv st cs2 cells slots Q) : Gc own cc mL d mc ms pc lv st cs cells slots Q := by
  rw [e]
  exact k
set_option maxRecDepth 100000 in
set_option maxHeartbeats 4000000 in
theorem cc_X0_init {cs : List gc_C} {o : Nat} (h : cs[o]? = some (0, [1, 1, 1, 0], [0, 0, 0, 0])) (hlen : cs.length < 800) : gc_CT yX0_init cX0_init 1 1 3 24 [.ref o] cs (fun c9 => c9 = gc_f cs o (0, [(cs.length + 0) + 2, (cs.length + 1) + 2, (cs.length + 2) + 2, 0], [0, 0, 0, 0]) [(100, [8], []), (100, [8], []), (100, [8], [])]) := by
  have ho : o < cs.length := (List.getElem?_eq_some_iff.mp h).1
  refine gc_enter (by decide) rfl (Nat.le_of_ble_eq_true rfl) (fun q hq => ?_) ?_
  · have hq : q ∈ [(0, Value.ref o)] := hq
    simp only [List.mem_cons, List.not_mem_nil, or_false] at hq
    rcases hq with rfl
    · unfold gc_okv gc_okr; simp [ho]
  · show Gc RX0 cX0_init 1 1 3 24 0 [(0, .ref o)] [] cs 0 0 _
    refine gc_csEq (gf_id h) ?_
    refine gc_aload_n 0 dX0_init_0 rfl rfl ?_
    refine gc_objInit dX0_init_1 oi_RX0_3 oi_i oi_c (Nat.le_of_ble_eq_true rfl) (by decide) ?_
    refine gc_aload_n 0 dX0_init_4 rfl rfl ?_
    refine gc_bipush (v := 8) dX0_init_5 (by decide) ?_
    refine gf_newI 8 0 [(100, [8], [])] dX0_init_7 (by decide) (by decide) (by decide) hlen rfl (by decide) rfl (Nat.le_of_ble_eq_true rfl) (Nat.le_of_ble_eq_true rfl) ?_
    refine gf_putFR [(cs.length + 0) + 2, 1, 1, 0] dX0_init_9 ff_RX0_9 ho (Nat.le_of_ble_eq_true rfl) (fun _ => ⟨rfl, rfl⟩) rfl ?_
    refine gc_aload_n 0 dX0_init_12 rfl rfl ?_
    refine gc_bipush (v := 8) dX0_init_13 (by decide) ?_
    refine gf_newI 8 1 [(100, [8], []), (100, [8], [])] dX0_init_15 (by decide) (by decide) (by decide) hlen rfl (by decide) rfl (Nat.le_of_ble_eq_true rfl) (Nat.le_of_ble_eq_true rfl) ?_
    refine gf_putFR [(cs.length + 0) + 2, (cs.length + 1) + 2, 1, 0] dX0_init_17 ff_RX0_15 ho (Nat.le_of_ble_eq_true rfl) (fun _ => ⟨rfl, rfl⟩) rfl ?_
    refine gc_aload_n 0 dX0_init_20 rfl rfl ?_
    refine gc_bipush (v := 8) dX0_init_21 (by decide) ?_
    refine gf_newI 8 2 [(100, [8], []), (100, [8], []), (100, [8], [])] dX0_init_23 (by decide) (by decide) (by decide) hlen rfl (by decide) rfl (Nat.le_of_ble_eq_true rfl) (Nat.le_of_ble_eq_true rfl) ?_
    refine gf_putFR [(cs.length + 0) + 2, (cs.length + 1) + 2, (cs.length + 2) + 2, 0] dX0_init_25 ff_RX0_18 ho (Nat.le_of_ble_eq_true rfl) (fun _ => ⟨rfl, rfl⟩) rfl ?_
    refine gc_aload_n 0 dX0_init_28 rfl rfl ?_
    refine gc_iconst (v := 0) dX0_init_29 (by decide) ?_
    refine gf_putN [0, 0, 0, 0] dX0_init_30 fp_RX0_21 ho rfl (Nat.le_of_ble_eq_true rfl) rfl rfl rfl ?_
    exact gc_vret dX0_init_33 rfl
set_option maxRecDepth 100000 in
set_option maxHeartbeats 4000000 in
theorem cc_X1_init {cs : List gc_C} {o : Nat} (h : cs[o]? = some (1, [0, 1, 1, 1, 1, 1, 1, 1, 1], [0, 0, 0, 0, 0, 0, 0, 0, 0])) (hlen : cs.length < 800) : gc_CT yX1_init cX1_init 1 1 10 146 [.ref o] cs (fun c9 => c9 = gc_f cs o (1, [0, (cs.length + 0) + 2, (cs.length + 1) + 2, (cs.length + 2) + 2, (cs.length + 3) + 2, (cs.length + 4) + 2, (cs.length + 7) + 2, (cs.length + 8) + 2, (cs.length + 9) + 2], [0, 0, 0, 0, 0, 0, 0, 0, 0]) [(100, [6], []), (100, [6], []), (100, [6], []), (100, [6], []), (102, [cs.length + 4 + 1 + 0, cs.length + 4 + 1 + 1], []), (100, [24], []), (100, [24], []), (100, [24], []), (101, [24], []), (101, [24], [])]) := by
  have ho : o < cs.length := (List.getElem?_eq_some_iff.mp h).1
  refine gc_enter (by decide) rfl (Nat.le_of_ble_eq_true rfl) (fun q hq => ?_) ?_
  · have hq : q ∈ [(0, Value.ref o)] := hq
    simp only [List.mem_cons, List.not_mem_nil, or_false] at hq
    rcases hq with rfl
    · unfold gc_okv gc_okr; simp [ho]
  · show Gc RX1 cX1_init 1 1 10 146 0 [(0, .ref o)] [] cs 0 0 _
    refine gc_csEq (gf_id h) ?_
    refine gc_aload_n 0 dX1_init_0 rfl rfl ?_
    refine gc_objInit dX1_init_1 oi_RX1_3 oi_i oi_c (Nat.le_of_ble_eq_true rfl) (by decide) ?_
    refine gc_aload_n 0 dX1_init_4 rfl rfl ?_
    refine gc_iconst (v := 0) dX1_init_5 (by decide) ?_
    refine gf_putN [0, 0, 0, 0, 0, 0, 0, 0, 0] dX1_init_6 fp_RX1_9 ho rfl (Nat.le_of_ble_eq_true rfl) rfl rfl rfl ?_
    refine gc_aload_n 0 dX1_init_9 rfl rfl ?_
    refine gc_bipush (v := 6) dX1_init_10 (by decide) ?_
    refine gf_newI 6 0 [(100, [6], [])] dX1_init_12 (by decide) (by decide) (by decide) hlen rfl (by decide) rfl (Nat.le_of_ble_eq_true rfl) (Nat.le_of_ble_eq_true rfl) ?_
    refine gf_putFR [0, (cs.length + 0) + 2, 1, 1, 1, 1, 1, 1, 1] dX1_init_14 ff_RX1_15 ho (Nat.le_of_ble_eq_true rfl) (fun _ => ⟨rfl, rfl⟩) rfl ?_
    refine gc_aload_n 0 dX1_init_17 rfl rfl ?_
    refine gc_bipush (v := 6) dX1_init_18 (by decide) ?_
    refine gf_newI 6 1 [(100, [6], []), (100, [6], [])] dX1_init_20 (by decide) (by decide) (by decide) hlen rfl (by decide) rfl (Nat.le_of_ble_eq_true rfl) (Nat.le_of_ble_eq_true rfl) ?_
    refine gf_putFR [0, (cs.length + 0) + 2, (cs.length + 1) + 2, 1, 1, 1, 1, 1, 1] dX1_init_22 ff_RX1_19 ho (Nat.le_of_ble_eq_true rfl) (fun _ => ⟨rfl, rfl⟩) rfl ?_
    refine gc_aload_n 0 dX1_init_25 rfl rfl ?_
    refine gc_bipush (v := 6) dX1_init_26 (by decide) ?_
    refine gf_newI 6 2 [(100, [6], []), (100, [6], []), (100, [6], [])] dX1_init_28 (by decide) (by decide) (by decide) hlen rfl (by decide) rfl (Nat.le_of_ble_eq_true rfl) (Nat.le_of_ble_eq_true rfl) ?_
    refine gf_putFR [0, (cs.length + 0) + 2, (cs.length + 1) + 2, (cs.length + 2) + 2, 1, 1, 1, 1, 1] dX1_init_30 ff_RX1_22 ho (Nat.le_of_ble_eq_true rfl) (fun _ => ⟨rfl, rfl⟩) rfl ?_
    refine gc_aload_n 0 dX1_init_33 rfl rfl ?_
    refine gc_bipush (v := 6) dX1_init_34 (by decide) ?_
    refine gf_newI 6 3 [(100, [6], []), (100, [6], []), (100, [6], []), (100, [6], [])] dX1_init_36 (by decide) (by decide) (by decide) hlen rfl (by decide) rfl (Nat.le_of_ble_eq_true rfl) (Nat.le_of_ble_eq_true rfl) ?_
    refine gf_putFR [0, (cs.length + 0) + 2, (cs.length + 1) + 2, (cs.length + 2) + 2, (cs.length + 3) + 2, 1, 1, 1, 1] dX1_init_38 ff_RX1_25 ho (Nat.le_of_ble_eq_true rfl) (fun _ => ⟨rfl, rfl⟩) rfl ?_
    refine gc_aload_n 0 dX1_init_41 rfl rfl ?_
    refine gc_iconst (v := 2) dX1_init_42 (by decide) ?_
    refine gc_bipush (v := 24) dX1_init_43 (by decide) ?_
    refine gf_mna 2 24 4 [(100, [6], []), (100, [6], []), (100, [6], []), (100, [6], []), (102, [cs.length + 4 + 1 + 0, cs.length + 4 + 1 + 1], []), (100, [24], []), (100, [24], [])] dX1_init_45 kl_RX1_28 (by decide) (by decide) (by decide) (by decide) (by decide) (by decide) hlen rfl (by decide) rfl (Nat.le_of_ble_eq_true rfl) (Nat.le_of_ble_eq_true rfl) ?_
    refine gf_putFR [0, (cs.length + 0) + 2, (cs.length + 1) + 2, (cs.length + 2) + 2, (cs.length + 3) + 2, (cs.length + 4) + 2, 1, 1, 1] dX1_init_49 ff_RX1_30 ho (Nat.le_of_ble_eq_true rfl) (fun _ => ⟨rfl, rfl⟩) rfl ?_
    refine gc_aload_n 0 dX1_init_52 rfl rfl ?_
    refine gc_bipush (v := 24) dX1_init_53 (by decide) ?_
    refine gf_newI 24 7 [(100, [6], []), (100, [6], []), (100, [6], []), (100, [6], []), (102, [cs.length + 4 + 1 + 0, cs.length + 4 + 1 + 1], []), (100, [24], []), (100, [24], []), (100, [24], [])] dX1_init_55 (by decide) (by decide) (by decide) hlen rfl (by decide) rfl (Nat.le_of_ble_eq_true rfl) (Nat.le_of_ble_eq_true rfl) ?_
    refine gf_putFR [0, (cs.length + 0) + 2, (cs.length + 1) + 2, (cs.length + 2) + 2, (cs.length + 3) + 2, (cs.length + 4) + 2, (cs.length + 7) + 2, 1, 1] dX1_init_57 ff_RX1_33 ho (Nat.le_of_ble_eq_true rfl) (fun _ => ⟨rfl, rfl⟩) rfl ?_
    refine gc_aload_n 0 dX1_init_60 rfl rfl ?_
    refine gc_bipush (v := 24) dX1_init_61 (by decide) ?_
    refine gf_newZ 24 8 [(100, [6], []), (100, [6], []), (100, [6], []), (100, [6], []), (102, [cs.length + 4 + 1 + 0, cs.length + 4 + 1 + 1], []), (100, [24], []), (100, [24], []), (100, [24], []), (101, [24], [])] dX1_init_63 (by decide) (by decide) (by decide) hlen rfl (by decide) rfl (Nat.le_of_ble_eq_true rfl) (Nat.le_of_ble_eq_true rfl) ?_
    refine gf_putFR [0, (cs.length + 0) + 2, (cs.length + 1) + 2, (cs.length + 2) + 2, (cs.length + 3) + 2, (cs.length + 4) + 2, (cs.length + 7) + 2, (cs.length + 8) + 2, 1] dX1_init_65 ff_RX1_36 ho (Nat.le_of_ble_eq_true rfl) (fun _ => ⟨rfl, rfl⟩) rfl ?_
    refine gc_aload_n 0 dX1_init_68 rfl rfl ?_
    refine gc_bipush (v := 24) dX1_init_69 (by decide) ?_
    refine gf_newZ 24 9 [(100, [6], []), (100, [6], []), (100, [6], []), (100, [6], []), (102, [cs.length + 4 + 1 + 0, cs.length + 4 + 1 + 1], []), (100, [24], []), (100, [24], []), (100, [24], []), (101, [24], []), (101, [24], [])] dX1_init_71 (by decide) (by decide) (by decide) hlen rfl (by decide) rfl (Nat.le_of_ble_eq_true rfl) (Nat.le_of_ble_eq_true rfl) ?_
    refine gf_putFR [0, (cs.length + 0) + 2, (cs.length + 1) + 2, (cs.length + 2) + 2, (cs.length + 3) + 2, (cs.length + 4) + 2, (cs.length + 7) + 2, (cs.length + 8) + 2, (cs.length + 9) + 2] dX1_init_73 ff_RX1_40 ho (Nat.le_of_ble_eq_true rfl) (fun _ => ⟨rfl, rfl⟩) rfl ?_
    exact gc_vret dX1_init_76 rfl
set_option maxRecDepth 100000 in
set_option maxHeartbeats 4000000 in
theorem cc_X2_init {cs : List gc_C} {o : Nat} (h : cs[o]? = some (2, [1, 1, 1, 1, 1, 1, 1, 1, 1, 0, 0, 0, 0], [0, 0, 0, 0, 0, 0, 0, 0, 0, 0, 0, 0, 0])) (hlen : cs.length < 800) : gc_CT yX2_init cX2_init 1 1 23 396 [.ref o] cs (fun c9 => c9 = gc_f cs o (2, [(cs.length + 0) + 2, (cs.length + 7) + 2, (cs.length + 14) + 2, (cs.length + 17) + 2, (cs.length + 18) + 2, (cs.length + 19) + 2, (cs.length + 20) + 2, (cs.length + 21) + 2, (cs.length + 22) + 2, 0, 0, 0, 0], [0, 0, 0, 0, 0, 0, 0, 0, 0, 0, 0, (-1), (-1)]) [(102, [cs.length + 0 + 1 + 0, cs.length + 0 + 1 + 1, cs.length + 0 + 1 + 2, cs.length + 0 + 1 + 3, cs.length + 0 + 1 + 4, cs.length + 0 + 1 + 5], []), (100, [24], []), (100, [24], []), (100, [24], []), (100, [24], []), (100, [24], []), (100, [24], []), (102, [cs.length + 7 + 1 + 0, cs.length + 7 + 1 + 1, cs.length + 7 + 1 + 2, cs.length + 7 + 1 + 3, cs.length + 7 + 1 + 4, cs.length + 7 + 1 + 5], []), (100, [24], []), (100, [24], []), (100, [24], []), (100, [24], []), (100, [24], []), (100, [24], []), (102, [cs.length + 14 + 1 + 0, cs.length + 14 + 1 + 1], []), (100, [24], []), (100, [24], []), (100, [24], []), (100, [6], []), (100, [6], []), (100, [6], []), (100, [2], []), (100, [2], [])]) := by
  have ho : o < cs.length := (List.getElem?_eq_some_iff.mp h).1
  refine gc_enter (by decide) rfl (Nat.le_of_ble_eq_true rfl) (fun q hq => ?_) ?_
  · have hq : q ∈ [(0, Value.ref o)] := hq
    simp only [List.mem_cons, List.not_mem_nil, or_false] at hq
    rcases hq with rfl
    · unfold gc_okv gc_okr; simp [ho]
  · show Gc RX2 cX2_init 1 1 23 396 0 [(0, .ref o)] [] cs 0 0 _
    refine gc_csEq (gf_id h) ?_
    refine gc_aload_n 0 dX2_init_0 rfl rfl ?_
    refine gc_objInit dX2_init_1 oi_RX2_3 oi_i oi_c (Nat.le_of_ble_eq_true rfl) (by decide) ?_
    refine gc_aload_n 0 dX2_init_4 rfl rfl ?_
    refine gc_bipush (v := 6) dX2_init_5 (by decide) ?_
    refine gc_bipush (v := 24) dX2_init_7 (by decide) ?_
    refine gf_mna 6 24 0 [(102, [cs.length + 0 + 1 + 0, cs.length + 0 + 1 + 1, cs.length + 0 + 1 + 2, cs.length + 0 + 1 + 3, cs.length + 0 + 1 + 4, cs.length + 0 + 1 + 5], []), (100, [24], []), (100, [24], []), (100, [24], []), (100, [24], []), (100, [24], []), (100, [24], [])] dX2_init_9 kl_RX2_9 (by decide) (by decide) (by decide) (by decide) (by decide) (by decide) hlen rfl (by decide) rfl (Nat.le_of_ble_eq_true rfl) (Nat.le_of_ble_eq_true rfl) ?_
    refine gf_putFR [(cs.length + 0) + 2, 1, 1, 1, 1, 1, 1, 1, 1, 0, 0, 0, 0] dX2_init_13 ff_RX2_11 ho (Nat.le_of_ble_eq_true rfl) (fun _ => ⟨rfl, rfl⟩) rfl ?_
    refine gc_aload_n 0 dX2_init_16 rfl rfl ?_
    refine gc_bipush (v := 6) dX2_init_17 (by decide) ?_
    refine gc_bipush (v := 24) dX2_init_19 (by decide) ?_
    refine gf_mna 6 24 7 [(102, [cs.length + 0 + 1 + 0, cs.length + 0 + 1 + 1, cs.length + 0 + 1 + 2, cs.length + 0 + 1 + 3, cs.length + 0 + 1 + 4, cs.length + 0 + 1 + 5], []), (100, [24], []), (100, [24], []), (100, [24], []), (100, [24], []), (100, [24], []), (100, [24], []), (102, [cs.length + 7 + 1 + 0, cs.length + 7 + 1 + 1, cs.length + 7 + 1 + 2, cs.length + 7 + 1 + 3, cs.length + 7 + 1 + 4, cs.length + 7 + 1 + 5], []), (100, [24], []), (100, [24], []), (100, [24], []), (100, [24], []), (100, [24], []), (100, [24], [])] dX2_init_21 kl_RX2_9 (by decide) (by decide) (by decide) (by decide) (by decide) (by decide) hlen rfl (by decide) rfl (Nat.le_of_ble_eq_true rfl) (Nat.le_of_ble_eq_true rfl) ?_
    refine gf_putFR [(cs.length + 0) + 2, (cs.length + 7) + 2, 1, 1, 1, 1, 1, 1, 1, 0, 0, 0, 0] dX2_init_25 ff_RX2_16 ho (Nat.le_of_ble_eq_true rfl) (fun _ => ⟨rfl, rfl⟩) rfl ?_
    refine gc_aload_n 0 dX2_init_28 rfl rfl ?_
    refine gc_iconst (v := 2) dX2_init_29 (by decide) ?_
    refine gc_bipush (v := 24) dX2_init_30 (by decide) ?_
    refine gf_mna 2 24 14 [(102, [cs.length + 0 + 1 + 0, cs.length + 0 + 1 + 1, cs.length + 0 + 1 + 2, cs.length + 0 + 1 + 3, cs.length + 0 + 1 + 4, cs.length + 0 + 1 + 5], []), (100, [24], []), (100, [24], []), (100, [24], []), (100, [24], []), (100, [24], []), (100, [24], []), (102, [cs.length + 7 + 1 + 0, cs.length + 7 + 1 + 1, cs.length + 7 + 1 + 2, cs.length + 7 + 1 + 3, cs.length + 7 + 1 + 4, cs.length + 7 + 1 + 5], []), (100, [24], []), (100, [24], []), (100, [24], []), (100, [24], []), (100, [24], []), (100, [24], []), (102, [cs.length + 14 + 1 + 0, cs.length + 14 + 1 + 1], []), (100, [24], []), (100, [24], [])] dX2_init_32 kl_RX2_9 (by decide) (by decide) (by decide) (by decide) (by decide) (by decide) hlen rfl (by decide) rfl (Nat.le_of_ble_eq_true rfl) (Nat.le_of_ble_eq_true rfl) ?_
    refine gf_putFR [(cs.length + 0) + 2, (cs.length + 7) + 2, (cs.length + 14) + 2, 1, 1, 1, 1, 1, 1, 0, 0, 0, 0] dX2_init_36 ff_RX2_19 ho (Nat.le_of_ble_eq_true rfl) (fun _ => ⟨rfl, rfl⟩) rfl ?_
    refine gc_aload_n 0 dX2_init_39 rfl rfl ?_
    refine gc_bipush (v := 24) dX2_init_40 (by decide) ?_
    refine gf_newI 24 17 [(102, [cs.length + 0 + 1 + 0, cs.length + 0 + 1 + 1, cs.length + 0 + 1 + 2, cs.length + 0 + 1 + 3, cs.length + 0 + 1 + 4, cs.length + 0 + 1 + 5], []), (100, [24], []), (100, [24], []), (100, [24], []), (100, [24], []), (100, [24], []), (100, [24], []), (102, [cs.length + 7 + 1 + 0, cs.length + 7 + 1 + 1, cs.length + 7 + 1 + 2, cs.length + 7 + 1 + 3, cs.length + 7 + 1 + 4, cs.length + 7 + 1 + 5], []), (100, [24], []), (100, [24], []), (100, [24], []), (100, [24], []), (100, [24], []), (100, [24], []), (102, [cs.length + 14 + 1 + 0, cs.length + 14 + 1 + 1], []), (100, [24], []), (100, [24], []), (100, [24], [])] dX2_init_42 (by decide) (by decide) (by decide) hlen rfl (by decide) rfl (Nat.le_of_ble_eq_true rfl) (Nat.le_of_ble_eq_true rfl) ?_
    refine gf_putFR [(cs.length + 0) + 2, (cs.length + 7) + 2, (cs.length + 14) + 2, (cs.length + 17) + 2, 1, 1, 1, 1, 1, 0, 0, 0, 0] dX2_init_44 ff_RX2_22 ho (Nat.le_of_ble_eq_true rfl) (fun _ => ⟨rfl, rfl⟩) rfl ?_
    refine gc_aload_n 0 dX2_init_47 rfl rfl ?_
    refine gc_bipush (v := 6) dX2_init_48 (by decide) ?_
    refine gf_newI 6 18 [(102, [cs.length + 0 + 1 + 0, cs.length + 0 + 1 + 1, cs.length + 0 + 1 + 2, cs.length + 0 + 1 + 3, cs.length + 0 + 1 + 4, cs.length + 0 + 1 + 5], []), (100, [24], []), (100, [24], []), (100, [24], []), (100, [24], []), (100, [24], []), (100, [24], []), (102, [cs.length + 7 + 1 + 0, cs.length + 7 + 1 + 1, cs.length + 7 + 1 + 2, cs.length + 7 + 1 + 3, cs.length + 7 + 1 + 4, cs.length + 7 + 1 + 5], []), (100, [24], []), (100, [24], []), (100, [24], []), (100, [24], []), (100, [24], []), (100, [24], []), (102, [cs.length + 14 + 1 + 0, cs.length + 14 + 1 + 1], []), (100, [24], []), (100, [24], []), (100, [24], []), (100, [6], [])] dX2_init_50 (by decide) (by decide) (by decide) hlen rfl (by decide) rfl (Nat.le_of_ble_eq_true rfl) (Nat.le_of_ble_eq_true rfl) ?_
    refine gf_putFR [(cs.length + 0) + 2, (cs.length + 7) + 2, (cs.length + 14) + 2, (cs.length + 17) + 2, (cs.length + 18) + 2, 1, 1, 1, 1, 0, 0, 0, 0] dX2_init_52 ff_RX2_26 ho (Nat.le_of_ble_eq_true rfl) (fun _ => ⟨rfl, rfl⟩) rfl ?_
    refine gc_aload_n 0 dX2_init_55 rfl rfl ?_
    refine gc_bipush (v := 6) dX2_init_56 (by decide) ?_
    refine gf_newI 6 19 [(102, [cs.length + 0 + 1 + 0, cs.length + 0 + 1 + 1, cs.length + 0 + 1 + 2, cs.length + 0 + 1 + 3, cs.length + 0 + 1 + 4, cs.length + 0 + 1 + 5], []), (100, [24], []), (100, [24], []), (100, [24], []), (100, [24], []), (100, [24], []), (100, [24], []), (102, [cs.length + 7 + 1 + 0, cs.length + 7 + 1 + 1, cs.length + 7 + 1 + 2, cs.length + 7 + 1 + 3, cs.length + 7 + 1 + 4, cs.length + 7 + 1 + 5], []), (100, [24], []), (100, [24], []), (100, [24], []), (100, [24], []), (100, [24], []), (100, [24], []), (102, [cs.length + 14 + 1 + 0, cs.length + 14 + 1 + 1], []), (100, [24], []), (100, [24], []), (100, [24], []), (100, [6], []), (100, [6], [])] dX2_init_58 (by decide) (by decide) (by decide) hlen rfl (by decide) rfl (Nat.le_of_ble_eq_true rfl) (Nat.le_of_ble_eq_true rfl) ?_
    refine gf_putFR [(cs.length + 0) + 2, (cs.length + 7) + 2, (cs.length + 14) + 2, (cs.length + 17) + 2, (cs.length + 18) + 2, (cs.length + 19) + 2, 1, 1, 1, 0, 0, 0, 0] dX2_init_60 ff_RX2_29 ho (Nat.le_of_ble_eq_true rfl) (fun _ => ⟨rfl, rfl⟩) rfl ?_
    refine gc_aload_n 0 dX2_init_63 rfl rfl ?_
    refine gc_bipush (v := 6) dX2_init_64 (by decide) ?_
    refine gf_newI 6 20 [(102, [cs.length + 0 + 1 + 0, cs.length + 0 + 1 + 1, cs.length + 0 + 1 + 2, cs.length + 0 + 1 + 3, cs.length + 0 + 1 + 4, cs.length + 0 + 1 + 5], []), (100, [24], []), (100, [24], []), (100, [24], []), (100, [24], []), (100, [24], []), (100, [24], []), (102, [cs.length + 7 + 1 + 0, cs.length + 7 + 1 + 1, cs.length + 7 + 1 + 2, cs.length + 7 + 1 + 3, cs.length + 7 + 1 + 4, cs.length + 7 + 1 + 5], []), (100, [24], []), (100, [24], []), (100, [24], []), (100, [24], []), (100, [24], []), (100, [24], []), (102, [cs.length + 14 + 1 + 0, cs.length + 14 + 1 + 1], []), (100, [24], []), (100, [24], []), (100, [24], []), (100, [6], []), (100, [6], []), (100, [6], [])] dX2_init_66 (by decide) (by decide) (by decide) hlen rfl (by decide) rfl (Nat.le_of_ble_eq_true rfl) (Nat.le_of_ble_eq_true rfl) ?_
    refine gf_putFR [(cs.length + 0) + 2, (cs.length + 7) + 2, (cs.length + 14) + 2, (cs.length + 17) + 2, (cs.length + 18) + 2, (cs.length + 19) + 2, (cs.length + 20) + 2, 1, 1, 0, 0, 0, 0] dX2_init_68 ff_RX2_32 ho (Nat.le_of_ble_eq_true rfl) (fun _ => ⟨rfl, rfl⟩) rfl ?_
    refine gc_aload_n 0 dX2_init_71 rfl rfl ?_
    refine gc_iconst (v := 2) dX2_init_72 (by decide) ?_
    refine gf_newI 2 21 [(102, [cs.length + 0 + 1 + 0, cs.length + 0 + 1 + 1, cs.length + 0 + 1 + 2, cs.length + 0 + 1 + 3, cs.length + 0 + 1 + 4, cs.length + 0 + 1 + 5], []), (100, [24], []), (100, [24], []), (100, [24], []), (100, [24], []), (100, [24], []), (100, [24], []), (102, [cs.length + 7 + 1 + 0, cs.length + 7 + 1 + 1, cs.length + 7 + 1 + 2, cs.length + 7 + 1 + 3, cs.length + 7 + 1 + 4, cs.length + 7 + 1 + 5], []), (100, [24], []), (100, [24], []), (100, [24], []), (100, [24], []), (100, [24], []), (100, [24], []), (102, [cs.length + 14 + 1 + 0, cs.length + 14 + 1 + 1], []), (100, [24], []), (100, [24], []), (100, [24], []), (100, [6], []), (100, [6], []), (100, [6], []), (100, [2], [])] dX2_init_73 (by decide) (by decide) (by decide) hlen rfl (by decide) rfl (Nat.le_of_ble_eq_true rfl) (Nat.le_of_ble_eq_true rfl) ?_
    refine gf_putFR [(cs.length + 0) + 2, (cs.length + 7) + 2, (cs.length + 14) + 2, (cs.length + 17) + 2, (cs.length + 18) + 2, (cs.length + 19) + 2, (cs.length + 20) + 2, (cs.length + 21) + 2, 1, 0, 0, 0, 0] dX2_init_75 ff_RX2_35 ho (Nat.le_of_ble_eq_true rfl) (fun _ => ⟨rfl, rfl⟩) rfl ?_
    refine gc_aload_n 0 dX2_init_78 rfl rfl ?_
    refine gc_iconst (v := 2) dX2_init_79 (by decide) ?_
    refine gf_newI 2 22 [(102, [cs.length + 0 + 1 + 0, cs.length + 0 + 1 + 1, cs.length + 0 + 1 + 2, cs.length + 0 + 1 + 3, cs.length + 0 + 1 + 4, cs.length + 0 + 1 + 5], []), (100, [24], []), (100, [24], []), (100, [24], []), (100, [24], []), (100, [24], []), (100, [24], []), (102, [cs.length + 7 + 1 + 0, cs.length + 7 + 1 + 1, cs.length + 7 + 1 + 2, cs.length + 7 + 1 + 3, cs.length + 7 + 1 + 4, cs.length + 7 + 1 + 5], []), (100, [24], []), (100, [24], []), (100, [24], []), (100, [24], []), (100, [24], []), (100, [24], []), (102, [cs.length + 14 + 1 + 0, cs.length + 14 + 1 + 1], []), (100, [24], []), (100, [24], []), (100, [24], []), (100, [6], []), (100, [6], []), (100, [6], []), (100, [2], []), (100, [2], [])] dX2_init_80 (by decide) (by decide) (by decide) hlen rfl (by decide) rfl (Nat.le_of_ble_eq_true rfl) (Nat.le_of_ble_eq_true rfl) ?_
    refine gf_putFR [(cs.length + 0) + 2, (cs.length + 7) + 2, (cs.length + 14) + 2, (cs.length + 17) + 2, (cs.length + 18) + 2, (cs.length + 19) + 2, (cs.length + 20) + 2, (cs.length + 21) + 2, (cs.length + 22) + 2, 0, 0, 0, 0] dX2_init_82 ff_RX2_38 ho (Nat.le_of_ble_eq_true rfl) (fun _ => ⟨rfl, rfl⟩) rfl ?_
    refine gc_aload_n 0 dX2_init_85 rfl rfl ?_
    refine gc_iconst (v := 0) dX2_init_86 (by decide) ?_
    refine gf_putN [0, 0, 0, 0, 0, 0, 0, 0, 0, 0, 0, 0, 0] dX2_init_87 fp_RX2_41 ho rfl (Nat.le_of_ble_eq_true rfl) rfl rfl rfl ?_
    refine gc_aload_n 0 dX2_init_90 rfl rfl ?_
    refine gc_iconst (v := 0) dX2_init_91 (by decide) ?_
    refine gf_putN [0, 0, 0, 0, 0, 0, 0, 0, 0, 0, 0, 0, 0] dX2_init_92 fp_RX2_45 ho rfl (Nat.le_of_ble_eq_true rfl) rfl rfl rfl ?_
    refine gc_aload_n 0 dX2_init_95 rfl rfl ?_
    refine gc_iconst (v := (-1)) dX2_init_96 (by decide) ?_
    refine gf_putN [0, 0, 0, 0, 0, 0, 0, 0, 0, 0, 0, (-1), 0] dX2_init_97 fp_RX2_48 ho rfl (Nat.le_of_ble_eq_true rfl) rfl rfl rfl ?_
    refine gc_aload_n 0 dX2_init_100 rfl rfl ?_
    refine gc_iconst (v := (-1)) dX2_init_101 (by decide) ?_
    refine gf_putN [0, 0, 0, 0, 0, 0, 0, 0, 0, 0, 0, (-1), (-1)] dX2_init_102 fp_RX2_51 ho rfl (Nat.le_of_ble_eq_true rfl) rfl rfl rfl ?_
    exact gc_vret dX2_init_105 rfl
set_option maxRecDepth 100000 in
set_option maxHeartbeats 4000000 in
theorem cc_X3_init {cs : List gc_C} {o : Nat} (h : cs[o]? = some (3, [1, 0, 0, 0], [0, 0, 0, 0])) (hlen : cs.length < 800) : gc_CT yX3_init cX3_init 1 1 1 60 [.ref o] cs (fun c9 => c9 = gc_f cs o (3, [(cs.length + 0) + 2, 0, 0, 0], [0, 1, 0, 0]) [(100, [60], [])]) := by
  have ho : o < cs.length := (List.getElem?_eq_some_iff.mp h).1
  refine gc_enter (by decide) rfl (Nat.le_of_ble_eq_true rfl) (fun q hq => ?_) ?_
  · have hq : q ∈ [(0, Value.ref o)] := hq
    simp only [List.mem_cons, List.not_mem_nil, or_false] at hq
    rcases hq with rfl
    · unfold gc_okv gc_okr; simp [ho]
  · show Gc RX3 cX3_init 1 1 1 60 0 [(0, .ref o)] [] cs 0 0 _
    refine gc_csEq (gf_id h) ?_
    refine gc_aload_n 0 dX3_init_0 rfl rfl ?_
    refine gc_objInit dX3_init_1 oi_RX3_3 oi_i oi_c (Nat.le_of_ble_eq_true rfl) (by decide) ?_
    refine gc_aload_n 0 dX3_init_4 rfl rfl ?_
    refine gc_bipush (v := 60) dX3_init_5 (by decide) ?_
    refine gf_newI 60 0 [(100, [60], [])] dX3_init_7 (by decide) (by decide) (by decide) hlen rfl (by decide) rfl (Nat.le_of_ble_eq_true rfl) (Nat.le_of_ble_eq_true rfl) ?_
    refine gf_putFR [(cs.length + 0) + 2, 0, 0, 0] dX3_init_9 ff_RX3_9 ho (Nat.le_of_ble_eq_true rfl) (fun _ => ⟨rfl, rfl⟩) rfl ?_
    refine gc_aload_n 0 dX3_init_12 rfl rfl ?_
    refine gc_iconst (v := 1) dX3_init_13 (by decide) ?_
    refine gf_putN [0, 1, 0, 0] dX3_init_14 fp_RX3_15 ho rfl (Nat.le_of_ble_eq_true rfl) rfl rfl rfl ?_
    refine gc_aload_n 0 dX3_init_17 rfl rfl ?_
    refine gc_iconst (v := 0) dX3_init_18 (by decide) ?_
    refine gf_putN [0, 1, 0, 0] dX3_init_19 fp_RX3_19 ho rfl (Nat.le_of_ble_eq_true rfl) rfl rfl rfl ?_
    refine gc_aload_n 0 dX3_init_22 rfl rfl ?_
    refine gc_iconst (v := 0) dX3_init_23 (by decide) ?_
    refine gf_putN [0, 1, 0, 0] dX3_init_24 fp_RX3_23 ho rfl (Nat.le_of_ble_eq_true rfl) rfl rfl rfl ?_
    exact gc_vret dX3_init_27 rfl
set_option maxRecDepth 100000 in
set_option maxHeartbeats 4000000 in
theorem cc_X4_init {cs : List gc_C} {o : Nat} (h : cs[o]? = some (4, [1, 1, 1, 0], [0, 0, 0, 0])) (hlen : cs.length < 800) : gc_CT yX4_init cX4_init 1 1 3 24 [.ref o] cs (fun c9 => c9 = gc_f cs o (4, [(cs.length + 0) + 2, (cs.length + 1) + 2, (cs.length + 2) + 2, 0], [0, 0, 0, 0]) [(100, [8], []), (100, [8], []), (100, [8], [])]) := by
  have ho : o < cs.length := (List.getElem?_eq_some_iff.mp h).1
  refine gc_enter (by decide) rfl (Nat.le_of_ble_eq_true rfl) (fun q hq => ?_) ?_
  · have hq : q ∈ [(0, Value.ref o)] := hq
    simp only [List.mem_cons, List.not_mem_nil, or_false] at hq
    rcases hq with rfl
    · unfold gc_okv gc_okr; simp [ho]
  · show Gc RX4 cX4_init 1 1 3 24 0 [(0, .ref o)] [] cs 0 0 _
    refine gc_csEq (gf_id h) ?_
    refine gc_aload_n 0 dX4_init_0 rfl rfl ?_
    refine gc_objInit dX4_init_1 oi_RX4_3 oi_i oi_c (Nat.le_of_ble_eq_true rfl) (by decide) ?_
    refine gc_aload_n 0 dX4_init_4 rfl rfl ?_
    refine gc_bipush (v := 8) dX4_init_5 (by decide) ?_
    refine gf_newI 8 0 [(100, [8], [])] dX4_init_7 (by decide) (by decide) (by decide) hlen rfl (by decide) rfl (Nat.le_of_ble_eq_true rfl) (Nat.le_of_ble_eq_true rfl) ?_
    refine gf_putFR [(cs.length + 0) + 2, 1, 1, 0] dX4_init_9 ff_RX4_9 ho (Nat.le_of_ble_eq_true rfl) (fun _ => ⟨rfl, rfl⟩) rfl ?_
    refine gc_aload_n 0 dX4_init_12 rfl rfl ?_
    refine gc_bipush (v := 8) dX4_init_13 (by decide) ?_
    refine gf_newI 8 1 [(100, [8], []), (100, [8], [])] dX4_init_15 (by decide) (by decide) (by decide) hlen rfl (by decide) rfl (Nat.le_of_ble_eq_true rfl) (Nat.le_of_ble_eq_true rfl) ?_
    refine gf_putFR [(cs.length + 0) + 2, (cs.length + 1) + 2, 1, 0] dX4_init_17 ff_RX4_15 ho (Nat.le_of_ble_eq_true rfl) (fun _ => ⟨rfl, rfl⟩) rfl ?_
    refine gc_aload_n 0 dX4_init_20 rfl rfl ?_
    refine gc_bipush (v := 8) dX4_init_21 (by decide) ?_
    refine gf_newI 8 2 [(100, [8], []), (100, [8], []), (100, [8], [])] dX4_init_23 (by decide) (by decide) (by decide) hlen rfl (by decide) rfl (Nat.le_of_ble_eq_true rfl) (Nat.le_of_ble_eq_true rfl) ?_
    refine gf_putFR [(cs.length + 0) + 2, (cs.length + 1) + 2, (cs.length + 2) + 2, 0] dX4_init_25 ff_RX4_18 ho (Nat.le_of_ble_eq_true rfl) (fun _ => ⟨rfl, rfl⟩) rfl ?_
    refine gc_aload_n 0 dX4_init_28 rfl rfl ?_
    refine gc_iconst (v := 0) dX4_init_29 (by decide) ?_
    refine gf_putN [0, 0, 0, 0] dX4_init_30 fp_RX4_21 ho rfl (Nat.le_of_ble_eq_true rfl) rfl rfl rfl ?_
    exact gc_vret dX4_init_33 rfl
set_option maxRecDepth 100000 in
set_option maxHeartbeats 4000000 in
theorem cc_X5_init {cs : List gc_C} {o : Nat} {x1 : Int32} (h : cs[o]? = some (5, [1, 0, 0], [0, 0, 0])) (hlen : cs.length < 800) : gc_CT yX5_init cX5_init 2 1 1 47 [.ref o, .int x1] cs (fun c9 => c9 = gc_f cs o (5, [(cs.length + 0) + 2, 0, 0], [0, (gk_mn x1 47), 0]) [(100, [47], [])]) := by
  have ho : o < cs.length := (List.getElem?_eq_some_iff.mp h).1
  refine gc_enter (by decide) rfl (Nat.le_of_ble_eq_true rfl) (fun q hq => ?_) ?_
  · have hq : q ∈ [(0, Value.ref o), (1, Value.int x1)] := hq
    simp only [List.mem_cons, List.not_mem_nil, or_false] at hq
    rcases hq with rfl | rfl
    · unfold gc_okv gc_okr; simp [ho]
    · rfl
  · show Gc RX5 cX5_init 2 1 1 47 0 [(0, .ref o), (1, .int x1)] [] cs 0 0 _
    refine gc_csEq (gf_id h) ?_
    refine gc_aload_n 0 dX5_init_0 rfl rfl ?_
    refine gc_objInit dX5_init_1 oi_RX5_3 oi_i oi_c (Nat.le_of_ble_eq_true rfl) (by decide) ?_
    refine gc_aload_n 0 dX5_init_4 rfl rfl ?_
    refine gc_bipush (v := 47) dX5_init_5 (by decide) ?_
    refine gf_newI 47 0 [(100, [47], [])] dX5_init_7 (by decide) (by decide) (by decide) hlen rfl (by decide) rfl (Nat.le_of_ble_eq_true rfl) (Nat.le_of_ble_eq_true rfl) ?_
    refine gf_putFR [(cs.length + 0) + 2, 0, 0] dX5_init_9 ff_RX5_9 ho (Nat.le_of_ble_eq_true rfl) (fun _ => ⟨rfl, rfl⟩) rfl ?_
    refine gc_aload_n 0 dX5_init_12 rfl rfl ?_
    refine gc_iconst (v := 0) dX5_init_13 (by decide) ?_
    refine gf_putN [0, 0, 0] dX5_init_14 fp_RX5_15 ho rfl (Nat.le_of_ble_eq_true rfl) rfl rfl rfl ?_
    refine gc_aload_n 0 dX5_init_17 rfl rfl ?_
    refine gc_iload_n 1 dX5_init_18 rfl rfl ?_
    refine gc_bipush (v := 47) dX5_init_19 (by decide) ?_
    refine gc_mmin dX5_init_21 mw_RX5_19 mt_min mi_Math mc_min (Nat.le_of_ble_eq_true rfl) (by decide) (Nat.le_of_ble_eq_true rfl) (Nat.le_of_ble_eq_true rfl) ?_
    refine gf_putFN [0, (gk_mn x1 47), 0] dX5_init_24 ff_RX5_25 ho rfl (Nat.le_of_ble_eq_true rfl) rfl rfl rfl ?_
    exact gc_vret dX5_init_27 rfl
set_option maxRecDepth 100000 in
set_option maxHeartbeats 4000000 in
theorem cc_X6_init {cs : List gc_C} {o : Nat} {a1 : Nat} {x2 : Int32} {x3 : Int32} (h : cs[o]? = some (6, [1, 0, 0, 1, 1, 1, 0, 0], [0, 0, 0, 0, 0, 0, 0, 0])) (hlen : cs.length < 800) (h_a1 : gc_okr cs.length a1 = true) (hz : gk_b x3) : gc_CT yX6_init cX6_init 4 1 3 36 [.ref o, .ref a1, .int x2, .int x3] cs (fun c9 => c9 = gc_f cs o (6, [a1 + 2, 0, 0, (cs.length + 0) + 2, (cs.length + 1) + 2, (cs.length + 2) + 2, 0, 0], [0, (gk_mn x2 12), x3, 0, 0, 0, 0, (-1)]) [(100, [12], []), (100, [12], []), (100, [12], [])]) := by
  have ho : o < cs.length := (List.getElem?_eq_some_iff.mp h).1
  refine gc_enter (by decide) rfl (Nat.le_of_ble_eq_true rfl) (fun q hq => ?_) ?_
  · have hq : q ∈ [(0, Value.ref o), (1, Value.ref a1), (2, Value.int x2), (3, Value.int x3)] := hq
    simp only [List.mem_cons, List.not_mem_nil, or_false] at hq
    rcases hq with rfl | rfl | rfl | rfl
    · unfold gc_okv gc_okr; simp [ho]
    · exact h_a1
    · rfl
    · rfl
  · show Gc RX6 cX6_init 4 1 3 36 0 [(0, .ref o), (1, .ref a1), (2, .int x2), (3, .int x3)] [] cs 0 0 _
    refine gc_csEq (gf_id h) ?_
    refine gc_aload_n 0 dX6_init_0 rfl rfl ?_
    refine gc_objInit dX6_init_1 oi_RX6_3 oi_i oi_c (Nat.le_of_ble_eq_true rfl) (by decide) ?_
    refine gc_aload_n 0 dX6_init_4 rfl rfl ?_
    refine gc_bipush (v := 12) dX6_init_5 (by decide) ?_
    refine gf_newI 12 0 [(100, [12], [])] dX6_init_7 (by decide) (by decide) (by decide) hlen rfl (by decide) rfl (Nat.le_of_ble_eq_true rfl) (Nat.le_of_ble_eq_true rfl) ?_
    refine gf_putFR [1, 0, 0, (cs.length + 0) + 2, 1, 1, 0, 0] dX6_init_9 ff_RX6_9 ho (Nat.le_of_ble_eq_true rfl) (fun _ => ⟨rfl, rfl⟩) rfl ?_
    refine gc_aload_n 0 dX6_init_12 rfl rfl ?_
    refine gc_bipush (v := 12) dX6_init_13 (by decide) ?_
    refine gf_newI 12 1 [(100, [12], []), (100, [12], [])] dX6_init_15 (by decide) (by decide) (by decide) hlen rfl (by decide) rfl (Nat.le_of_ble_eq_true rfl) (Nat.le_of_ble_eq_true rfl) ?_
    refine gf_putFR [1, 0, 0, (cs.length + 0) + 2, (cs.length + 1) + 2, 1, 0, 0] dX6_init_17 ff_RX6_15 ho (Nat.le_of_ble_eq_true rfl) (fun _ => ⟨rfl, rfl⟩) rfl ?_
    refine gc_aload_n 0 dX6_init_20 rfl rfl ?_
    refine gc_bipush (v := 12) dX6_init_21 (by decide) ?_
    refine gf_newI 12 2 [(100, [12], []), (100, [12], []), (100, [12], [])] dX6_init_23 (by decide) (by decide) (by decide) hlen rfl (by decide) rfl (Nat.le_of_ble_eq_true rfl) (Nat.le_of_ble_eq_true rfl) ?_
    refine gf_putFR [1, 0, 0, (cs.length + 0) + 2, (cs.length + 1) + 2, (cs.length + 2) + 2, 0, 0] dX6_init_25 ff_RX6_18 ho (Nat.le_of_ble_eq_true rfl) (fun _ => ⟨rfl, rfl⟩) rfl ?_
    refine gc_aload_n 0 dX6_init_28 rfl rfl ?_
    refine gc_iconst (v := 0) dX6_init_29 (by decide) ?_
    refine gf_putN [0, 0, 0, 0, 0, 0, 0, 0] dX6_init_30 fp_RX6_21 ho rfl (Nat.le_of_ble_eq_true rfl) rfl rfl rfl ?_
    refine gc_aload_n 0 dX6_init_33 rfl rfl ?_
    refine gc_iconst (v := (-1)) dX6_init_34 (by decide) ?_
    refine gf_putN [0, 0, 0, 0, 0, 0, 0, (-1)] dX6_init_35 fp_RX6_25 ho rfl (Nat.le_of_ble_eq_true rfl) rfl rfl rfl ?_
    refine gc_aload_n 0 dX6_init_38 rfl rfl ?_
    refine gc_aload_n 1 dX6_init_39 rfl rfl ?_
    refine gf_putFR [a1 + 2, 0, 0, (cs.length + 0) + 2, (cs.length + 1) + 2, (cs.length + 2) + 2, 0, 0] dX6_init_40 ff_RX6_28 ho (Nat.le_of_ble_eq_true rfl) (fun _ => ⟨rfl, rfl⟩) rfl ?_
    refine gc_aload_n 0 dX6_init_43 rfl rfl ?_
    refine gc_iload_n 2 dX6_init_44 rfl rfl ?_
    refine gc_bipush (v := 12) dX6_init_45 (by decide) ?_
    refine gc_mmin dX6_init_47 mw_RX6_32 mt_min mi_Math mc_min (Nat.le_of_ble_eq_true rfl) (by decide) (Nat.le_of_ble_eq_true rfl) (Nat.le_of_ble_eq_true rfl) ?_
    refine gf_putFN [0, (gk_mn x2 12), 0, 0, 0, 0, 0, (-1)] dX6_init_50 ff_RX6_38 ho rfl (Nat.le_of_ble_eq_true rfl) rfl rfl rfl ?_
    refine gc_aload_n 0 dX6_init_53 rfl rfl ?_
    refine gc_iload_n 3 dX6_init_54 rfl rfl ?_
    refine gf_putFN [0, (gk_mn x2 12), x3, 0, 0, 0, 0, (-1)] dX6_init_55 ff_RX6_41 ho rfl (Nat.le_of_ble_eq_true rfl) (gk_nb hz) (gk_fb hz) rfl ?_
    exact gc_vret dX6_init_58 rfl
