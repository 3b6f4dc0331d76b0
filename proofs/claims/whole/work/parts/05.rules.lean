section GoRules
variable {own : String} {cc : ByteArray} {mL : Nat} {ret : Option FieldType} {d pc : Nat} {lv : List (Nat × Value)} {rest : List Value} {μ : gk_St} {Q : Option Value → gk_St → Prop}
theorem go_iadd {x y : Int32} (hd : decode cc pc = .ok (.iadd, 1)) (k : Go own cc mL ret d (pc + 1) lv (.int (x + y) :: rest) μ Q) : Go own cc mL ret d pc lv (.int y :: .int x :: rest) μ Q := by
  intro p l e s m args below meth c D α cI cB cR z0 H locs ls hE hH hl
  exact lv_iadd hE.1 hE.2.1 hd (k p l e s m args below meth c D α cI cB cR z0 H locs ls hE hH hl)
theorem go_isub {x y : Int32} (hd : decode cc pc = .ok (.isub, 1)) (k : Go own cc mL ret d (pc + 1) lv (.int (x - y) :: rest) μ Q) : Go own cc mL ret d pc lv (.int y :: .int x :: rest) μ Q := by
  intro p l e s m args below meth c D α cI cB cR z0 H locs ls hE hH hl
  exact lv_isub hE.1 hE.2.1 hd (k p l e s m args below meth c D α cI cB cR z0 H locs ls hE hH hl)
theorem go_imul {x y : Int32} (hd : decode cc pc = .ok (.imul, 1)) (k : Go own cc mL ret d (pc + 1) lv (.int (x * y) :: rest) μ Q) : Go own cc mL ret d pc lv (.int y :: .int x :: rest) μ Q := by
  intro p l e s m args below meth c D α cI cB cR z0 H locs ls hE hH hl
  exact lv_imul hE.1 hE.2.1 hd (k p l e s m args below meth c D α cI cB cR z0 H locs ls hE hH hl)
theorem go_iand {x y : Int32} (hd : decode cc pc = .ok (.iand, 1)) (k : Go own cc mL ret d (pc + 1) lv (.int (x &&& y) :: rest) μ Q) : Go own cc mL ret d pc lv (.int y :: .int x :: rest) μ Q := by
  intro p l e s m args below meth c D α cI cB cR z0 H locs ls hE hH hl
  exact lv_iand hE.1 hE.2.1 hd (k p l e s m args below meth c D α cI cB cR z0 H locs ls hE hH hl)
theorem go_ior {x y : Int32} (hd : decode cc pc = .ok (.ior, 1)) (k : Go own cc mL ret d (pc + 1) lv (.int (x ||| y) :: rest) μ Q) : Go own cc mL ret d pc lv (.int y :: .int x :: rest) μ Q := by
  intro p l e s m args below meth c D α cI cB cR z0 H locs ls hE hH hl
  exact lv_ior hE.1 hE.2.1 hd (k p l e s m args below meth c D α cI cB cR z0 H locs ls hE hH hl)
theorem go_ixor {x y : Int32} (hd : decode cc pc = .ok (.ixor, 1)) (k : Go own cc mL ret d (pc + 1) lv (.int (x ^^^ y) :: rest) μ Q) : Go own cc mL ret d pc lv (.int y :: .int x :: rest) μ Q := by
  intro p l e s m args below meth c D α cI cB cR z0 H locs ls hE hH hl
  exact lv_ixor hE.1 hE.2.1 hd (k p l e s m args below meth c D α cI cB cR z0 H locs ls hE hH hl)
theorem go_ishl {x y : Int32} (hd : decode cc pc = .ok (.ishl, 1)) (k : Go own cc mL ret d (pc + 1) lv (.int (x <<< (y &&& 31)) :: rest) μ Q) : Go own cc mL ret d pc lv (.int y :: .int x :: rest) μ Q := by
  intro p l e s m args below meth c D α cI cB cR z0 H locs ls hE hH hl
  exact lv_ishl hE.1 hE.2.1 hd (k p l e s m args below meth c D α cI cB cR z0 H locs ls hE hH hl)
theorem go_ishr {x y : Int32} (hd : decode cc pc = .ok (.ishr, 1)) (k : Go own cc mL ret d (pc + 1) lv (.int (x >>> (y &&& 31)) :: rest) μ Q) : Go own cc mL ret d pc lv (.int y :: .int x :: rest) μ Q := by
  intro p l e s m args below meth c D α cI cB cR z0 H locs ls hE hH hl
  exact lv_ishr hE.1 hE.2.1 hd (k p l e s m args below meth c D α cI cB cR z0 H locs ls hE hH hl)
theorem go_iushr {x y : Int32} (hd : decode cc pc = .ok (.iushr, 1)) (k : Go own cc mL ret d (pc + 1) lv (.int ((x.toUInt32 >>> (y.toUInt32 &&& Int32.toUInt32 31)).toInt32) :: rest) μ Q) : Go own cc mL ret d pc lv (.int y :: .int x :: rest) μ Q := by
  intro p l e s m args below meth c D α cI cB cR z0 H locs ls hE hH hl
  exact lv_iushr hE.1 hE.2.1 hd rfl (k p l e s m args below meth c D α cI cB cR z0 H locs ls hE hH hl)
theorem go_idiv {x y : Int32} (hd : decode cc pc = .ok (.idiv, 1)) (hne : ¬ y = 0) (k : Go own cc mL ret d (pc + 1) lv (.int (x / y) :: rest) μ Q) : Go own cc mL ret d pc lv (.int y :: .int x :: rest) μ Q := by
  intro p l e s m args below meth c D α cI cB cR z0 H locs ls hE hH hl
  exact lv_idiv hE.1 hE.2.1 hd hne (k p l e s m args below meth c D α cI cB cR z0 H locs ls hE hH hl)
theorem go_irem {x y : Int32} (hd : decode cc pc = .ok (.irem, 1)) (hne : ¬ y = 0) (k : Go own cc mL ret d (pc + 1) lv (.int (x - x / y * y) :: rest) μ Q) : Go own cc mL ret d pc lv (.int y :: .int x :: rest) μ Q := by
  intro p l e s m args below meth c D α cI cB cR z0 H locs ls hE hH hl
  exact lv_irem hE.1 hE.2.1 hd hne (k p l e s m args below meth c D α cI cB cR z0 H locs ls hE hH hl)
theorem go_ineg {x : Int32} (hd : decode cc pc = .ok (.ineg, 1)) (k : Go own cc mL ret d (pc + 1) lv (.int (-x) :: rest) μ Q) : Go own cc mL ret d pc lv (.int x :: rest) μ Q := by
  intro p l e s m args below meth c D α cI cB cR z0 H locs ls hE hH hl
  exact lv_ineg hE.1 hE.2.1 hd (k p l e s m args below meth c D α cI cB cR z0 H locs ls hE hH hl)
theorem go_ladd {x y : Int64} (hd : decode cc pc = .ok (.ladd, 1)) (k : Go own cc mL ret d (pc + 1) lv (.long (x + y) :: rest) μ Q) : Go own cc mL ret d pc lv (.long y :: .long x :: rest) μ Q := by
  intro p l e s m args below meth c D α cI cB cR z0 H locs ls hE hH hl
  exact lv_ladd hE.1 hE.2.1 hd (k p l e s m args below meth c D α cI cB cR z0 H locs ls hE hH hl)
theorem go_lsub {x y : Int64} (hd : decode cc pc = .ok (.lsub, 1)) (k : Go own cc mL ret d (pc + 1) lv (.long (x - y) :: rest) μ Q) : Go own cc mL ret d pc lv (.long y :: .long x :: rest) μ Q := by
  intro p l e s m args below meth c D α cI cB cR z0 H locs ls hE hH hl
  exact lv_lsub hE.1 hE.2.1 hd (k p l e s m args below meth c D α cI cB cR z0 H locs ls hE hH hl)
theorem go_lmul {x y : Int64} (hd : decode cc pc = .ok (.lmul, 1)) (k : Go own cc mL ret d (pc + 1) lv (.long (x * y) :: rest) μ Q) : Go own cc mL ret d pc lv (.long y :: .long x :: rest) μ Q := by
  intro p l e s m args below meth c D α cI cB cR z0 H locs ls hE hH hl
  exact lv_lmul hE.1 hE.2.1 hd (k p l e s m args below meth c D α cI cB cR z0 H locs ls hE hH hl)
theorem go_ldiv {x y : Int64} (hd : decode cc pc = .ok (.ldiv, 1)) (hne : ¬ y = 0) (k : Go own cc mL ret d (pc + 1) lv (.long (x / y) :: rest) μ Q) : Go own cc mL ret d pc lv (.long y :: .long x :: rest) μ Q := by
  intro p l e s m args below meth c D α cI cB cR z0 H locs ls hE hH hl
  exact lv_ldiv hE.1 hE.2.1 hd hne (k p l e s m args below meth c D α cI cB cR z0 H locs ls hE hH hl)
theorem go_lrem {x y : Int64} (hd : decode cc pc = .ok (.lrem, 1)) (hne : ¬ y = 0) (k : Go own cc mL ret d (pc + 1) lv (.long (x - x / y * y) :: rest) μ Q) : Go own cc mL ret d pc lv (.long y :: .long x :: rest) μ Q := by
  intro p l e s m args below meth c D α cI cB cR z0 H locs ls hE hH hl
  exact lv_lrem hE.1 hE.2.1 hd hne (k p l e s m args below meth c D α cI cB cR z0 H locs ls hE hH hl)
theorem go_lshl {x : Int64} {y : Int32} (hd : decode cc pc = .ok (.lshl, 1)) (k : Go own cc mL ret d (pc + 1) lv (.long (x <<< (y.toInt64 &&& 63)) :: rest) μ Q) : Go own cc mL ret d pc lv (.int y :: .long x :: rest) μ Q := by
  intro p l e s m args below meth c D α cI cB cR z0 H locs ls hE hH hl
  exact lv_lshl hE.1 hE.2.1 hd rfl (k p l e s m args below meth c D α cI cB cR z0 H locs ls hE hH hl)
theorem go_i2l {x : Int32} (hd : decode cc pc = .ok (.i2l, 1)) (k : Go own cc mL ret d (pc + 1) lv (.long x.toInt64 :: rest) μ Q) : Go own cc mL ret d pc lv (.int x :: rest) μ Q := by
  intro p l e s m args below meth c D α cI cB cR z0 H locs ls hE hH hl
  exact lv_i2l hE.1 hE.2.1 hd rfl (k p l e s m args below meth c D α cI cB cR z0 H locs ls hE hH hl)
theorem go_i2b {x : Int32} (hd : decode cc pc = .ok (.i2b, 1)) (k : Go own cc mL ret d (pc + 1) lv (.int x.toInt8.toInt32 :: rest) μ Q) : Go own cc mL ret d pc lv (.int x :: rest) μ Q := by
  intro p l e s m args below meth c D α cI cB cR z0 H locs ls hE hH hl
  exact lv_i2b hE.1 hE.2.1 hd rfl (k p l e s m args below meth c D α cI cB cR z0 H locs ls hE hH hl)
theorem go_i2s {x : Int32} (hd : decode cc pc = .ok (.i2s, 1)) (k : Go own cc mL ret d (pc + 1) lv (.int x.toInt16.toInt32 :: rest) μ Q) : Go own cc mL ret d pc lv (.int x :: rest) μ Q := by
  intro p l e s m args below meth c D α cI cB cR z0 H locs ls hE hH hl
  exact lv_i2s hE.1 hE.2.1 hd rfl (k p l e s m args below meth c D α cI cB cR z0 H locs ls hE hH hl)
theorem go_i2c {x : Int32} (hd : decode cc pc = .ok (.i2c, 1)) (k : Go own cc mL ret d (pc + 1) lv (.int (x.toUInt32 % 65536).toInt32 :: rest) μ Q) : Go own cc mL ret d pc lv (.int x :: rest) μ Q := by
  intro p l e s m args below meth c D α cI cB cR z0 H locs ls hE hH hl
  exact lv_i2c hE.1 hE.2.1 hd rfl (k p l e s m args below meth c D α cI cB cR z0 H locs ls hE hH hl)
theorem go_lcmp {x y : Int64} (hd : decode cc pc = .ok (.lcmp, 1)) (k : Go own cc mL ret d (pc + 1) lv (.int (lg_cmp x y) :: rest) μ Q) : Go own cc mL ret d pc lv (.long y :: .long x :: rest) μ Q := by
  intro p l e s m args below meth c D α cI cB cR z0 H locs ls hE hH hl
  exact W.lcmp hE.1 hE.2.1 hd (k p l e s m args below meth c D α cI cB cR z0 H locs ls hE hH hl)
theorem go_iconst {n : Int} {v : Int32} (hd : decode cc pc = .ok (.iconst n, 1)) (hv : Int32.ofInt n = v) (k : Go own cc mL ret d (pc + 1) lv (.int v :: rest) μ Q) : Go own cc mL ret d pc lv rest μ Q := by
  intro p l e s m args below meth c D α cI cB cR z0 H locs ls hE hH hl
  exact lv_iconst hE.1 hE.2.1 hd hv (k p l e s m args below meth c D α cI cB cR z0 H locs ls hE hH hl)
theorem go_bipush {n : Int} {v : Int32} (hd : decode cc pc = .ok (.bipush n, 2)) (hv : (Int8.ofInt n).toInt32 = v) (k : Go own cc mL ret d (pc + 2) lv (.int v :: rest) μ Q) : Go own cc mL ret d pc lv rest μ Q := by
  intro p l e s m args below meth c D α cI cB cR z0 H locs ls hE hH hl
  exact lv_bipush hE.1 hE.2.1 hd hv (k p l e s m args below meth c D α cI cB cR z0 H locs ls hE hH hl)
theorem go_sipush {n : Int} {v : Int32} (hd : decode cc pc = .ok (.sipush n, 3)) (hv : (Int16.ofInt n).toInt32 = v) (k : Go own cc mL ret d (pc + 3) lv (.int v :: rest) μ Q) : Go own cc mL ret d pc lv rest μ Q := by
  intro p l e s m args below meth c D α cI cB cR z0 H locs ls hE hH hl
  exact lv_sipush hE.1 hE.2.1 hd hv (k p l e s m args below meth c D α cI cB cR z0 H locs ls hE hH hl)
theorem go_lconst {n : Fin 2} {v : Int64} (hd : decode cc pc = .ok (.lconst n, 1)) (hv : Int64.ofNat (n : Nat) = v) (k : Go own cc mL ret d (pc + 1) lv (.long v :: rest) μ Q) : Go own cc mL ret d pc lv rest μ Q := by
  intro p l e s m args below meth c D α cI cB cR z0 H locs ls hE hH hl
  exact lv_lconst hE.1 hE.2.1 hd hv (k p l e s m args below meth c D α cI cB cR z0 H locs ls hE hH hl)
theorem go_null (hd : decode cc pc = .ok (.aconst_null, 1)) (k : Go own cc mL ret d (pc + 1) lv (.null :: rest) μ Q) : Go own cc mL ret d pc lv rest μ Q := by
  intro p l e s m args below meth c D α cI cB cR z0 H locs ls hE hH hl
  exact lv_null hE.1 hE.2.1 hd (k p l e s m args below meth c D α cI cB cR z0 H locs ls hE hH hl)
theorem go_dup {v : Value} (hd : decode cc pc = .ok (.dup, 1)) (hv : v.category = 1) (k : Go own cc mL ret d (pc + 1) lv (v :: v :: rest) μ Q) : Go own cc mL ret d pc lv (v :: rest) μ Q := by
  intro p l e s m args below meth c D α cI cB cR z0 H locs ls hE hH hl
  exact lv_dup hE.1 hE.2.1 hd ((gk_tr_cat α v).trans hv) (k p l e s m args below meth c D α cI cB cR z0 H locs ls hE hH hl)
theorem go_pop {v : Value} (hd : decode cc pc = .ok (.pop, 1)) (hv : v.category = 1) (k : Go own cc mL ret d (pc + 1) lv rest μ Q) : Go own cc mL ret d pc lv (v :: rest) μ Q := by
  intro p l e s m args below meth c D α cI cB cR z0 H locs ls hE hH hl
  exact lv_pop hE.1 hE.2.1 hd ((gk_tr_cat α v).trans hv) (k p l e s m args below meth c D α cI cB cR z0 H locs ls hE hH hl)
theorem go_dup2 {v w : Value} (hd : decode cc pc = .ok (.dup2, 1)) (hv : v.category = 1) (hw : w.category = 1) (k : Go own cc mL ret d (pc + 1) lv (v :: w :: v :: w :: rest) μ Q) : Go own cc mL ret d pc lv (v :: w :: rest) μ Q := by
  intro p l e s m args below meth c D α cI cB cR z0 H locs ls hE hH hl
  exact lv_dup2_11 hE.1 hE.2.1 hd ((gk_tr_cat α v).trans hv) ((gk_tr_cat α w).trans hw) (k p l e s m args below meth c D α cI cB cR z0 H locs ls hE hH hl)
theorem go_ldc {index : Nat} {v : Int32} (hd : decode cc pc = .ok (.ldc index, 2)) (hc : Cond.constant own index v ∈ gk_tb) (k : Go own cc mL ret d (pc + 2) lv (.int v :: rest) μ Q) : Go own cc mL ret d pc lv rest μ Q := by
  intro p l e s m args below meth c D α cI cB cR z0 H locs ls hE hH hl
  exact lv_ldc hE.1 hE.2.1 hE.2.2.2.2.2.1 (hE.2.2.2.2.2.2.1 _ hc) hd (k p l e s m args below meth c D α cI cB cR z0 H locs ls hE hH hl)
theorem go_ldc_w {index : Nat} {v : Int32} (hd : decode cc pc = .ok (.ldc_w index, 3)) (hc : Cond.constant own index v ∈ gk_tb) (k : Go own cc mL ret d (pc + 3) lv (.int v :: rest) μ Q) : Go own cc mL ret d pc lv rest μ Q := by
  intro p l e s m args below meth c D α cI cB cR z0 H locs ls hE hH hl
  exact lv_ldcw hE.1 hE.2.1 hE.2.2.2.2.2.1 (hE.2.2.2.2.2.2.1 _ hc) hd (k p l e s m args below meth c D α cI cB cR z0 H locs ls hE hH hl)
theorem go_ldc2_w {index : Nat} {v : Int64} (hd : decode cc pc = .ok (.ldc2_w index, 3)) (hc : Cond.constantLong own index v ∈ gk_tb) (k : Go own cc mL ret d (pc + 3) lv (.long v :: rest) μ Q) : Go own cc mL ret d pc lv rest μ Q := by
  intro p l e s m args below meth c D α cI cB cR z0 H locs ls hE hH hl
  exact lv_ldc2 hE.1 hE.2.1 hE.2.2.2.2.2.1 (hE.2.2.2.2.2.2.1 _ hc) hd (k p l e s m args below meth c D α cI cB cR z0 H locs ls hE hH hl)
theorem gk_lv_at {α : Nat → Nat} {ls : Array Slot} {lv : List (Nat × Value)} {mL i k : Nat} {v : Value} (hl : lv_has ls mL (lv.map (fun q => (q.1, gk_tr α q.2)))) (hk : lv[k]? = some (i, v)) : ls[i]? = some (.val (gk_tr α v)) := lv_at hl k (by rw [List.getElem?_map, hk]; rfl)
theorem go_iload_n {j : Fin 4} {i : Nat} {x : Int32} (n : Nat) (hd : decode cc pc = .ok (.iload_n j, 1)) (hi : (j : Nat) = i) (hk : lv[n]? = some (i, .int x)) (k : Go own cc mL ret d (pc + 1) lv (.int x :: rest) μ Q) : Go own cc mL ret d pc lv rest μ Q := by
  intro p l e s m args below meth c D α cI cB cR z0 H locs ls hE hH hl
  exact lv_iload_n hE.1 hE.2.1 hd hi (gk_lv_at hl hk) (k p l e s m args below meth c D α cI cB cR z0 H locs ls hE hH hl)
theorem go_iload {i : Nat} {x : Int32} (n : Nat) (hd : decode cc pc = .ok (.iload i, 2)) (hk : lv[n]? = some (i, .int x)) (k : Go own cc mL ret d (pc + 2) lv (.int x :: rest) μ Q) : Go own cc mL ret d pc lv rest μ Q := by
  intro p l e s m args below meth c D α cI cB cR z0 H locs ls hE hH hl
  exact lv_iload hE.1 hE.2.1 hd (gk_lv_at hl hk) (k p l e s m args below meth c D α cI cB cR z0 H locs ls hE hH hl)
theorem go_lload_n {j : Fin 4} {i : Nat} {x : Int64} (n : Nat) (hd : decode cc pc = .ok (.lload_n j, 1)) (hi : (j : Nat) = i) (hk : lv[n]? = some (i, .long x)) (k : Go own cc mL ret d (pc + 1) lv (.long x :: rest) μ Q) : Go own cc mL ret d pc lv rest μ Q := by
  intro p l e s m args below meth c D α cI cB cR z0 H locs ls hE hH hl
  exact lv_lload_n hE.1 hE.2.1 hd hi (gk_lv_at hl hk) (k p l e s m args below meth c D α cI cB cR z0 H locs ls hE hH hl)
theorem go_lload {i : Nat} {x : Int64} (n : Nat) (hd : decode cc pc = .ok (.lload i, 2)) (hk : lv[n]? = some (i, .long x)) (k : Go own cc mL ret d (pc + 2) lv (.long x :: rest) μ Q) : Go own cc mL ret d pc lv rest μ Q := by
  intro p l e s m args below meth c D α cI cB cR z0 H locs ls hE hH hl
  exact lv_lload hE.1 hE.2.1 hd (gk_lv_at hl hk) (k p l e s m args below meth c D α cI cB cR z0 H locs ls hE hH hl)
theorem go_aload_n {j : Fin 4} {i : Nat} {x : Nat} (n : Nat) (hd : decode cc pc = .ok (.aload_n j, 1)) (hi : (j : Nat) = i) (hk : lv[n]? = some (i, .ref x)) (k : Go own cc mL ret d (pc + 1) lv (.ref x :: rest) μ Q) : Go own cc mL ret d pc lv rest μ Q := by
  intro p l e s m args below meth c D α cI cB cR z0 H locs ls hE hH hl
  exact lv_aload_n hE.1 hE.2.1 hd hi (gk_lv_at hl hk) (k p l e s m args below meth c D α cI cB cR z0 H locs ls hE hH hl)
theorem go_aload {i : Nat} {x : Nat} (n : Nat) (hd : decode cc pc = .ok (.aload i, 2)) (hk : lv[n]? = some (i, .ref x)) (k : Go own cc mL ret d (pc + 2) lv (.ref x :: rest) μ Q) : Go own cc mL ret d pc lv rest μ Q := by
  intro p l e s m args below meth c D α cI cB cR z0 H locs ls hE hH hl
  exact lv_aload hE.1 hE.2.1 hd (gk_lv_at hl hk) (k p l e s m args below meth c D α cI cB cR z0 H locs ls hE hH hl)
theorem go_aload_nN {j : Fin 4} {i : Nat} (n : Nat) (hd : decode cc pc = .ok (.aload_n j, 1)) (hi : (j : Nat) = i) (hk : lv[n]? = some (i, .null)) (k : Go own cc mL ret d (pc + 1) lv (.null :: rest) μ Q) : Go own cc mL ret d pc lv rest μ Q := by
  intro p l e s m args below meth c D α cI cB cR z0 H locs ls hE hH hl
  exact lv_aload_nN hE.1 hE.2.1 hd hi (gk_lv_at hl hk) (k p l e s m args below meth c D α cI cB cR z0 H locs ls hE hH hl)
theorem go_aloadN {i : Nat} (n : Nat) (hd : decode cc pc = .ok (.aload i, 2)) (hk : lv[n]? = some (i, .null)) (k : Go own cc mL ret d (pc + 2) lv (.null :: rest) μ Q) : Go own cc mL ret d pc lv rest μ Q := by
  intro p l e s m args below meth c D α cI cB cR z0 H locs ls hE hH hl
  exact lv_aloadN hE.1 hE.2.1 hd (gk_lv_at hl hk) (k p l e s m args below meth c D α cI cB cR z0 H locs ls hE hH hl)
theorem gk_filt1 (α : Nat → Nat) (i : Nat) (lv : List (Nat × Value)) : (lv.map (fun q => (q.1, gk_tr α q.2))).filter (fun q => !(q.1 == i) && !(q.1 + 1 == i && q.2.category == 2)) = (lv.filter (fun q => !(q.1 == i) && !(q.1 + 1 == i && q.2.category == 2))).map (fun q => (q.1, gk_tr α q.2)) := by
  rw [List.filter_map]
  refine congrArg _ (List.filter_congr fun q _ => ?_)
  simp only [Function.comp, gk_tr_cat]
theorem gk_filt2 (α : Nat → Nat) (i : Nat) (lv : List (Nat × Value)) : (lv.map (fun q => (q.1, gk_tr α q.2))).filter (fun q => !(q.1 == i) && (!(q.1 == i + 1) && !(q.1 + 1 == i && q.2.category == 2))) = (lv.filter (fun q => !(q.1 == i) && (!(q.1 == i + 1) && !(q.1 + 1 == i && q.2.category == 2)))).map (fun q => (q.1, gk_tr α q.2)) := by
  rw [List.filter_map]
  refine congrArg _ (List.filter_congr fun q _ => ?_)
  simp only [Function.comp, gk_tr_cat]
theorem go_istore_n {j : Fin 4} {i : Nat} {x : Int32} (lv' : List (Nat × Value)) (hd : decode cc pc = .ok (.istore_n j, 1)) (hi : (j : Nat) = i) (hn : i < mL) (hl' : (i, Value.int x) :: lv.filter (fun q => !(q.1 == i) && !(q.1 + 1 == i && q.2.category == 2)) = lv') (k : Go own cc mL ret d (pc + 1) lv' rest μ Q) : Go own cc mL ret d pc lv (.int x :: rest) μ Q := by
  intro p l e s m args below meth c D α cI cB cR z0 H locs ls hE hH hl
  subst hl'
  exact lv_istore_n hE.1 hE.2.1 hd hi hl hn (by rw [gk_filt1]; rfl) (fun ls hl => k p l e s m args below meth c D α cI cB cR z0 H locs ls hE hH hl)
theorem go_istore {i : Nat} {x : Int32} (lv' : List (Nat × Value)) (hd : decode cc pc = .ok (.istore i, 2)) (hn : i < mL) (hl' : (i, Value.int x) :: lv.filter (fun q => !(q.1 == i) && !(q.1 + 1 == i && q.2.category == 2)) = lv') (k : Go own cc mL ret d (pc + 2) lv' rest μ Q) : Go own cc mL ret d pc lv (.int x :: rest) μ Q := by
  intro p l e s m args below meth c D α cI cB cR z0 H locs ls hE hH hl
  subst hl'
  exact lv_istore hE.1 hE.2.1 hd hl hn (by rw [gk_filt1]; rfl) (fun ls hl => k p l e s m args below meth c D α cI cB cR z0 H locs ls hE hH hl)
theorem go_astore_n {j : Fin 4} {i : Nat} {x : Nat} (lv' : List (Nat × Value)) (hd : decode cc pc = .ok (.astore_n j, 1)) (hi : (j : Nat) = i) (hn : i < mL) (hl' : (i, Value.ref x) :: lv.filter (fun q => !(q.1 == i) && !(q.1 + 1 == i && q.2.category == 2)) = lv') (k : Go own cc mL ret d (pc + 1) lv' rest μ Q) : Go own cc mL ret d pc lv (.ref x :: rest) μ Q := by
  intro p l e s m args below meth c D α cI cB cR z0 H locs ls hE hH hl
  subst hl'
  exact lv_astore_n hE.1 hE.2.1 hd hi hl hn (by rw [gk_filt1]; rfl) (fun ls hl => k p l e s m args below meth c D α cI cB cR z0 H locs ls hE hH hl)
theorem go_astore {i : Nat} {x : Nat} (lv' : List (Nat × Value)) (hd : decode cc pc = .ok (.astore i, 2)) (hn : i < mL) (hl' : (i, Value.ref x) :: lv.filter (fun q => !(q.1 == i) && !(q.1 + 1 == i && q.2.category == 2)) = lv') (k : Go own cc mL ret d (pc + 2) lv' rest μ Q) : Go own cc mL ret d pc lv (.ref x :: rest) μ Q := by
  intro p l e s m args below meth c D α cI cB cR z0 H locs ls hE hH hl
  subst hl'
  exact lv_astore hE.1 hE.2.1 hd hl hn (by rw [gk_filt1]; rfl) (fun ls hl => k p l e s m args below meth c D α cI cB cR z0 H locs ls hE hH hl)
theorem go_lstore_n {j : Fin 4} {i : Nat} {x : Int64} (lv' : List (Nat × Value)) (hd : decode cc pc = .ok (.lstore_n j, 1)) (hi : (j : Nat) = i) (hn : i + 1 < mL) (hl' : (i, Value.long x) :: lv.filter (fun q => !(q.1 == i) && (!(q.1 == i + 1) && !(q.1 + 1 == i && q.2.category == 2))) = lv') (k : Go own cc mL ret d (pc + 1) lv' rest μ Q) : Go own cc mL ret d pc lv (.long x :: rest) μ Q := by
  intro p l e s m args below meth c D α cI cB cR z0 H locs ls hE hH hl
  subst hl'
  exact lv_lstore_n hE.1 hE.2.1 hd hi hl hn (by rw [gk_filt2]; rfl) (fun ls hl => k p l e s m args below meth c D α cI cB cR z0 H locs ls hE hH hl)
theorem go_lstore {i : Nat} {x : Int64} (lv' : List (Nat × Value)) (hd : decode cc pc = .ok (.lstore i, 2)) (hn : i + 1 < mL) (hl' : (i, Value.long x) :: lv.filter (fun q => !(q.1 == i) && (!(q.1 == i + 1) && !(q.1 + 1 == i && q.2.category == 2))) = lv') (k : Go own cc mL ret d (pc + 2) lv' rest μ Q) : Go own cc mL ret d pc lv (.long x :: rest) μ Q := by
  intro p l e s m args below meth c D α cI cB cR z0 H locs ls hE hH hl
  subst hl'
  exact lv_lstore hE.1 hE.2.1 hd hl hn (by rw [gk_filt2]; rfl) (fun ls hl => k p l e s m args below meth c D α cI cB cR z0 H locs ls hE hH hl)
theorem go_astore_nN {j : Fin 4} {i : Nat} (lv' : List (Nat × Value)) (hd : decode cc pc = .ok (.astore_n j, 1)) (hi : (j : Nat) = i) (hn : i < mL) (hl' : (i, Value.null) :: lv.filter (fun q => !(q.1 == i) && !(q.1 + 1 == i && q.2.category == 2)) = lv') (k : Go own cc mL ret d (pc + 1) lv' rest μ Q) : Go own cc mL ret d pc lv (.null :: rest) μ Q := by
  intro p l e s m args below meth c D α cI cB cR z0 H locs ls hE hH hl
  subst hl'
  exact lv_astore_nN hE.1 hE.2.1 hd hi hl hn (by rw [gk_filt1]; rfl) (fun ls hl => k p l e s m args below meth c D α cI cB cR z0 H locs ls hE hH hl)
theorem go_astoreN {i : Nat} (lv' : List (Nat × Value)) (hd : decode cc pc = .ok (.astore i, 2)) (hn : i < mL) (hl' : (i, Value.null) :: lv.filter (fun q => !(q.1 == i) && !(q.1 + 1 == i && q.2.category == 2)) = lv') (k : Go own cc mL ret d (pc + 2) lv' rest μ Q) : Go own cc mL ret d pc lv (.null :: rest) μ Q := by
  intro p l e s m args below meth c D α cI cB cR z0 H locs ls hE hH hl
  subst hl'
  exact lv_astoreN hE.1 hE.2.1 hd hl hn (by rw [gk_filt1]; rfl) (fun ls hl => k p l e s m args below meth c D α cI cB cR z0 H locs ls hE hH hl)
theorem go_iinc {i : Nat} {n : Int} {x v : Int32} (j : Nat) (lv' : List (Nat × Value)) (hd : decode cc pc = .ok (.iinc i n, 3)) (hk : lv[j]? = some (i, .int x)) (hv : x + Int32.ofInt n = v) (hn : i < mL) (hl' : (i, Value.int v) :: lv.filter (fun q => !(q.1 == i) && !(q.1 + 1 == i && q.2.category == 2)) = lv') (k : Go own cc mL ret d (pc + 3) lv' rest μ Q) : Go own cc mL ret d pc lv rest μ Q := by
  intro p l e s m args below meth c D α cI cB cR z0 H locs ls hE hH hl
  subst hl'
  exact lv_iinc (k := j) hE.1 hE.2.1 hd hl (by rw [List.getElem?_map, hk]; rfl) hv hn (by rw [gk_filt1]; rfl) (fun ls hl => k p l e s m args below meth c D α cI cB cR z0 H locs ls hE hH hl)
theorem go_lv {lv' : List (Nat × Value)} {st : List Value} (ks : List Nat) (h : lv_pick lv ks = lv') (k : Go own cc mL ret d pc lv' st μ Q) : Go own cc mL ret d pc lv st μ Q := by
  intro p l e s m args below meth c D α cI cB cR z0 H locs ls hE hH hl
  refine k p l e s m args below meth c D α cI cB cR z0 H locs ls hE hH (lv_sub hl ks ?_)
  rw [← h]
  unfold lv_pick
  rw [List.map_filterMap]
  refine congrArg (fun g => List.filterMap g ks) (funext fun j => ?_)
  rw [List.getElem?_map]
theorem go_if_eq {x : Int32} {off : Int} (tgt : Nat) (hd : decode cc pc = .ok (.ifCond .eq off, 3)) (ht : (pc : Int) + off = (tgt : Int)) (kt : x = 0 → Go own cc mL ret d tgt lv rest μ Q) (kf : ¬ x = 0 → Go own cc mL ret d (pc + 3) lv rest μ Q) : Go own cc mL ret d pc lv (.int x :: rest) μ Q := by
  intro p l e s m args below meth c D α cI cB cR z0 H locs ls hE hH hl
  exact lv_if_eq hE.1 hE.2.1 hd ht (fun q => kt q p l e s m args below meth c D α cI cB cR z0 H locs ls hE hH hl) (fun q => kf q p l e s m args below meth c D α cI cB cR z0 H locs ls hE hH hl)
theorem go_if_ne {x : Int32} {off : Int} (tgt : Nat) (hd : decode cc pc = .ok (.ifCond .ne off, 3)) (ht : (pc : Int) + off = (tgt : Int)) (kt : ¬ x = 0 → Go own cc mL ret d tgt lv rest μ Q) (kf : x = 0 → Go own cc mL ret d (pc + 3) lv rest μ Q) : Go own cc mL ret d pc lv (.int x :: rest) μ Q := by
  intro p l e s m args below meth c D α cI cB cR z0 H locs ls hE hH hl
  exact lv_if_ne hE.1 hE.2.1 hd ht (fun q => kt q p l e s m args below meth c D α cI cB cR z0 H locs ls hE hH hl) (fun q => kf q p l e s m args below meth c D α cI cB cR z0 H locs ls hE hH hl)
theorem go_if_lt {x : Int32} {off : Int} (tgt : Nat) (hd : decode cc pc = .ok (.ifCond .lt off, 3)) (ht : (pc : Int) + off = (tgt : Int)) (kt : x < 0 → Go own cc mL ret d tgt lv rest μ Q) (kf : ¬ x < 0 → Go own cc mL ret d (pc + 3) lv rest μ Q) : Go own cc mL ret d pc lv (.int x :: rest) μ Q := by
  intro p l e s m args below meth c D α cI cB cR z0 H locs ls hE hH hl
  exact lv_if_lt hE.1 hE.2.1 hd ht (fun q => kt q p l e s m args below meth c D α cI cB cR z0 H locs ls hE hH hl) (fun q => kf q p l e s m args below meth c D α cI cB cR z0 H locs ls hE hH hl)
theorem go_if_ge {x : Int32} {off : Int} (tgt : Nat) (hd : decode cc pc = .ok (.ifCond .ge off, 3)) (ht : (pc : Int) + off = (tgt : Int)) (kt : 0 ≤ x → Go own cc mL ret d tgt lv rest μ Q) (kf : ¬ 0 ≤ x → Go own cc mL ret d (pc + 3) lv rest μ Q) : Go own cc mL ret d pc lv (.int x :: rest) μ Q := by
  intro p l e s m args below meth c D α cI cB cR z0 H locs ls hE hH hl
  exact lv_if_ge hE.1 hE.2.1 hd ht (fun q => kt q p l e s m args below meth c D α cI cB cR z0 H locs ls hE hH hl) (fun q => kf q p l e s m args below meth c D α cI cB cR z0 H locs ls hE hH hl)
theorem go_if_gt {x : Int32} {off : Int} (tgt : Nat) (hd : decode cc pc = .ok (.ifCond .gt off, 3)) (ht : (pc : Int) + off = (tgt : Int)) (kt : 0 < x → Go own cc mL ret d tgt lv rest μ Q) (kf : ¬ 0 < x → Go own cc mL ret d (pc + 3) lv rest μ Q) : Go own cc mL ret d pc lv (.int x :: rest) μ Q := by
  intro p l e s m args below meth c D α cI cB cR z0 H locs ls hE hH hl
  exact lv_if_gt hE.1 hE.2.1 hd ht (fun q => kt q p l e s m args below meth c D α cI cB cR z0 H locs ls hE hH hl) (fun q => kf q p l e s m args below meth c D α cI cB cR z0 H locs ls hE hH hl)
theorem go_if_le {x : Int32} {off : Int} (tgt : Nat) (hd : decode cc pc = .ok (.ifCond .le off, 3)) (ht : (pc : Int) + off = (tgt : Int)) (kt : x ≤ 0 → Go own cc mL ret d tgt lv rest μ Q) (kf : ¬ x ≤ 0 → Go own cc mL ret d (pc + 3) lv rest μ Q) : Go own cc mL ret d pc lv (.int x :: rest) μ Q := by
  intro p l e s m args below meth c D α cI cB cR z0 H locs ls hE hH hl
  exact lv_if_le hE.1 hE.2.1 hd ht (fun q => kt q p l e s m args below meth c D α cI cB cR z0 H locs ls hE hH hl) (fun q => kf q p l e s m args below meth c D α cI cB cR z0 H locs ls hE hH hl)
theorem go_icmp_eq {x y : Int32} {off : Int} (tgt : Nat) (hd : decode cc pc = .ok (.if_icmp .eq off, 3)) (ht : (pc : Int) + off = (tgt : Int)) (kt : x = y → Go own cc mL ret d tgt lv rest μ Q) (kf : ¬ x = y → Go own cc mL ret d (pc + 3) lv rest μ Q) : Go own cc mL ret d pc lv (.int y :: .int x :: rest) μ Q := by
  intro p l e s m args below meth c D α cI cB cR z0 H locs ls hE hH hl
  exact lv_icmp_eq hE.1 hE.2.1 hd ht (fun q => kt q p l e s m args below meth c D α cI cB cR z0 H locs ls hE hH hl) (fun q => kf q p l e s m args below meth c D α cI cB cR z0 H locs ls hE hH hl)
theorem go_icmp_ne {x y : Int32} {off : Int} (tgt : Nat) (hd : decode cc pc = .ok (.if_icmp .ne off, 3)) (ht : (pc : Int) + off = (tgt : Int)) (kt : ¬ x = y → Go own cc mL ret d tgt lv rest μ Q) (kf : x = y → Go own cc mL ret d (pc + 3) lv rest μ Q) : Go own cc mL ret d pc lv (.int y :: .int x :: rest) μ Q := by
  intro p l e s m args below meth c D α cI cB cR z0 H locs ls hE hH hl
  exact lv_icmp_ne hE.1 hE.2.1 hd ht (fun q => kt q p l e s m args below meth c D α cI cB cR z0 H locs ls hE hH hl) (fun q => kf q p l e s m args below meth c D α cI cB cR z0 H locs ls hE hH hl)
theorem go_icmp_lt {x y : Int32} {off : Int} (tgt : Nat) (hd : decode cc pc = .ok (.if_icmp .lt off, 3)) (ht : (pc : Int) + off = (tgt : Int)) (kt : x < y → Go own cc mL ret d tgt lv rest μ Q) (kf : ¬ x < y → Go own cc mL ret d (pc + 3) lv rest μ Q) : Go own cc mL ret d pc lv (.int y :: .int x :: rest) μ Q := by
  intro p l e s m args below meth c D α cI cB cR z0 H locs ls hE hH hl
  exact lv_icmp_lt hE.1 hE.2.1 hd ht (fun q => kt q p l e s m args below meth c D α cI cB cR z0 H locs ls hE hH hl) (fun q => kf q p l e s m args below meth c D α cI cB cR z0 H locs ls hE hH hl)
theorem go_icmp_ge {x y : Int32} {off : Int} (tgt : Nat) (hd : decode cc pc = .ok (.if_icmp .ge off, 3)) (ht : (pc : Int) + off = (tgt : Int)) (kt : y ≤ x → Go own cc mL ret d tgt lv rest μ Q) (kf : ¬ y ≤ x → Go own cc mL ret d (pc + 3) lv rest μ Q) : Go own cc mL ret d pc lv (.int y :: .int x :: rest) μ Q := by
  intro p l e s m args below meth c D α cI cB cR z0 H locs ls hE hH hl
  exact lv_icmp_ge hE.1 hE.2.1 hd ht (fun q => kt q p l e s m args below meth c D α cI cB cR z0 H locs ls hE hH hl) (fun q => kf q p l e s m args below meth c D α cI cB cR z0 H locs ls hE hH hl)
theorem go_icmp_gt {x y : Int32} {off : Int} (tgt : Nat) (hd : decode cc pc = .ok (.if_icmp .gt off, 3)) (ht : (pc : Int) + off = (tgt : Int)) (kt : y < x → Go own cc mL ret d tgt lv rest μ Q) (kf : ¬ y < x → Go own cc mL ret d (pc + 3) lv rest μ Q) : Go own cc mL ret d pc lv (.int y :: .int x :: rest) μ Q := by
  intro p l e s m args below meth c D α cI cB cR z0 H locs ls hE hH hl
  exact lv_icmp_gt hE.1 hE.2.1 hd ht (fun q => kt q p l e s m args below meth c D α cI cB cR z0 H locs ls hE hH hl) (fun q => kf q p l e s m args below meth c D α cI cB cR z0 H locs ls hE hH hl)
theorem go_icmp_le {x y : Int32} {off : Int} (tgt : Nat) (hd : decode cc pc = .ok (.if_icmp .le off, 3)) (ht : (pc : Int) + off = (tgt : Int)) (kt : x ≤ y → Go own cc mL ret d tgt lv rest μ Q) (kf : ¬ x ≤ y → Go own cc mL ret d (pc + 3) lv rest μ Q) : Go own cc mL ret d pc lv (.int y :: .int x :: rest) μ Q := by
  intro p l e s m args below meth c D α cI cB cR z0 H locs ls hE hH hl
  exact lv_icmp_le hE.1 hE.2.1 hd ht (fun q => kt q p l e s m args below meth c D α cI cB cR z0 H locs ls hE hH hl) (fun q => kf q p l e s m args below meth c D α cI cB cR z0 H locs ls hE hH hl)
theorem go_goto {off : Int} (tgt : Nat) (hd : decode cc pc = .ok (.goto off, 3)) (ht : (pc : Int) + off = (tgt : Int)) (k : Go own cc mL ret d tgt lv rest μ Q) : Go own cc mL ret d pc lv rest μ Q := by
  intro p l e s m args below meth c D α cI cB cR z0 H locs ls hE hH hl
  exact lv_goto hE.1 hE.2.1 hd ht (k p l e s m args below meth c D α cI cB cR z0 H locs ls hE hH hl)
theorem go_ifnull {x : Nat} {off : Int} (hd : decode cc pc = .ok (.ifnull off, 3)) (k : Go own cc mL ret d (pc + 3) lv rest μ Q) : Go own cc mL ret d pc lv (.ref x :: rest) μ Q := by
  intro p l e s m args below meth c D α cI cB cR z0 H locs ls hE hH hl
  exact lv_ifnull hE.1 hE.2.1 hd (k p l e s m args below meth c D α cI cB cR z0 H locs ls hE hH hl)
theorem go_ifnonnull {x : Nat} {off : Int} (tgt : Nat) (hd : decode cc pc = .ok (.ifnonnull off, 3)) (ht : (pc : Int) + off = (tgt : Int)) (k : Go own cc mL ret d tgt lv rest μ Q) : Go own cc mL ret d pc lv (.ref x :: rest) μ Q := by
  intro p l e s m args below meth c D α cI cB cR z0 H locs ls hE hH hl
  exact lv_ifnonnull hE.1 hE.2.1 hd ht (k p l e s m args below meth c D α cI cB cR z0 H locs ls hE hH hl)
theorem go_ifnullN {off : Int} (tgt : Nat) (hd : decode cc pc = .ok (.ifnull off, 3)) (ht : (pc : Int) + off = (tgt : Int)) (k : Go own cc mL ret d tgt lv rest μ Q) : Go own cc mL ret d pc lv (.null :: rest) μ Q := by
  intro p l e s m args below meth c D α cI cB cR z0 H locs ls hE hH hl
  exact lv_ifnullN hE.1 hE.2.1 hd ht (k p l e s m args below meth c D α cI cB cR z0 H locs ls hE hH hl)
theorem go_ifnonnullN {off : Int} (hd : decode cc pc = .ok (.ifnonnull off, 3)) (k : Go own cc mL ret d (pc + 3) lv rest μ Q) : Go own cc mL ret d pc lv (.null :: rest) μ Q := by
  intro p l e s m args below meth c D α cI cB cR z0 H locs ls hE hH hl
  exact lv_ifnonnullN hE.1 hE.2.1 hd (k p l e s m args below meth c D α cI cB cR z0 H locs ls hE hH hl)
theorem go_tableIn {dflt lo hi : Int} {offs : Array Int} {len : Nat} {x k : Int32} {off : Int} (tgt : Nat) (hd : decode cc pc = .ok (.tableswitch dflt lo hi offs, len)) (hx : x = k) (h1 : ¬ k.toInt < lo) (h2 : ¬ hi < k.toInt) (ho : offs[(k.toInt - lo).toNat]? = some off) (ht : (pc : Int) + off = (tgt : Int)) (kk : Go own cc mL ret d tgt lv rest μ Q) : Go own cc mL ret d pc lv (.int x :: rest) μ Q := by
  intro p l e s m args below meth c D α cI cB cR z0 H locs ls hE hH hl
  subst hx
  exact lv_tableIn hE.1 hE.2.1 hd h1 h2 ho ht (kk p l e s m args below meth c D α cI cB cR z0 H locs ls hE hH hl)
theorem go_tableOut {dflt lo hi : Int} {offs : Array Int} {len : Nat} {x : Int32} (tgt : Nat) (hd : decode cc pc = .ok (.tableswitch dflt lo hi offs, len)) (h : x.toInt < lo ∨ hi < x.toInt) (ht : (pc : Int) + dflt = (tgt : Int)) (kk : Go own cc mL ret d tgt lv rest μ Q) : Go own cc mL ret d pc lv (.int x :: rest) μ Q := by
  intro p l e s m args below meth c D α cI cB cR z0 H locs ls hE hH hl
  exact lv_tableOut hE.1 hE.2.1 hd h ht (kk p l e s m args below meth c D α cI cB cR z0 H locs ls hE hH hl)
theorem go_lookup {dflt : Int} {ps : Array (Int × Int)} {len : Nat} {x : Int32} {off : Int} (tgt : Nat) (hd : decode cc pc = .ok (.lookupswitch dflt ps, len)) (hp : (ps.toList.zip (ps.toList.drop 1)).all (fun (a, next) => a.1 < next.1) = true) (ho : Op.lookupswitch.offset ps.toList dflt x.toInt = off) (ht : (pc : Int) + off = (tgt : Int)) (kk : Go own cc mL ret d tgt lv rest μ Q) : Go own cc mL ret d pc lv (.int x :: rest) μ Q := by
  intro p l e s m args below meth c D α cI cB cR z0 H locs ls hE hH hl
  exact lv_lookup hE.1 hE.2.1 hd hp ho ht (kk p l e s m args below meth c D α cI cB cR z0 H locs ls hE hH hl)
theorem go_iret {x : Int32} (hd : decode cc pc = .ok (.ireturn, 1)) (h : Q (some (.int x)) μ) : Go own cc mL (some .int) d pc lv [.int x] μ Q := by
  intro p l e s m args below meth c D α cI cB cR z0 H locs ls hE hH hl
  exact W.iret hE.1 hE.2.1 hE.2.2.2.1 (fun t ht hW => ⟨⟨some (.int x), μ, rfl, h, by rw [ht]; exact hH.1, va_K.moved hW.alike hE.2.2.2.2.2.2.2.1, hH.2.1⟩, hH.2.2.F ht⟩) hH.2.2.2.2 hd hE.2.2.2.2.1
theorem gk_nb {x : Int32} (h : gk_b x) : narrow .boolean (.int x) = .int x := by rcases h with rfl | rfl <;> rfl
theorem gk_fb {x : Int32} (h : gk_b x) : fits .boolean (.int x) = true := by rcases h with rfl | rfl <;> rfl
theorem go_zret {x : Int32} (hd : decode cc pc = .ok (.ireturn, 1)) (hx : gk_b x) (h : Q (some (.int x)) μ) : Go own cc mL (some .boolean) d pc lv [.int x] μ Q := by
  intro p l e s m args below meth c D α cI cB cR z0 H locs ls hE hH hl
  exact W.zret hE.1 hE.2.1 hE.2.2.2.1 (gk_nb hx) (fun t ht hW => ⟨⟨some (.int x), μ, rfl, h, by rw [ht]; exact hH.1, va_K.moved hW.alike hE.2.2.2.2.2.2.2.1, hH.2.1⟩, hH.2.2.F ht⟩) hH.2.2.2.2 hd hE.2.2.2.2.1
theorem go_lret {x : Int64} (hd : decode cc pc = .ok (.lreturn, 1)) (h : Q (some (.long x)) μ) : Go own cc mL (some .long) d pc lv [.long x] μ Q := by
  intro p l e s m args below meth c D α cI cB cR z0 H locs ls hE hH hl
  exact W.lret hE.1 hE.2.1 hE.2.2.2.1 (fun t ht hW => ⟨⟨some (.long x), μ, rfl, h, by rw [ht]; exact hH.1, va_K.moved hW.alike hE.2.2.2.2.2.2.2.1, hH.2.1⟩, hH.2.2.F ht⟩) hH.2.2.2.2 hd hE.2.2.2.2.1
theorem go_vret (hd : decode cc pc = .ok (.return_, 1)) (h : Q none μ) : Go own cc mL none d pc lv [] μ Q := by
  intro p l e s m args below meth c D α cI cB cR z0 H locs ls hE hH hl
  exact W.vret hE.1 hE.2.1 hE.2.2.2.1 (fun t ht hW => ⟨⟨none, μ, rfl, h, by rw [ht]; exact hH.1, va_K.moved hW.alike hE.2.2.2.2.2.2.2.1, hH.2.1⟩, hH.2.2.F ht⟩) hH.2.2.2.2 hd hE.2.2.2.2.1
theorem go_aret {x : Nat} {C : String} (hd : decode cc pc = .ok (.areturn, 1)) (h : Q (some (.ref x)) μ) : Go own cc mL (some (.object C)) d pc lv [.ref x] μ Q := by
  intro p l e s m args below meth c D α cI cB cR z0 H locs ls hE hH hl
  exact W.aret hE.1 hE.2.1 hE.2.2.2.1 (Or.inl ⟨C, rfl⟩) (Or.inr ⟨α x, rfl⟩) (fun t ht hW => ⟨⟨some (.ref x), μ, rfl, h, by rw [ht]; exact hH.1, va_K.moved hW.alike hE.2.2.2.2.2.2.2.1, hH.2.1⟩, hH.2.2.F ht⟩) hH.2.2.2.2 hd hE.2.2.2.2.1
theorem go_aretN {C : String} (hd : decode cc pc = .ok (.areturn, 1)) (h : Q (some .null) μ) : Go own cc mL (some (.object C)) d pc lv [.null] μ Q := by
  intro p l e s m args below meth c D α cI cB cR z0 H locs ls hE hH hl
  exact W.aret hE.1 hE.2.1 hE.2.2.2.1 (Or.inl ⟨C, rfl⟩) (Or.inl rfl) (fun t ht hW => ⟨⟨some .null, μ, rfl, h, by rw [ht]; exact hH.1, va_K.moved hW.alike hE.2.2.2.2.2.2.2.1, hH.2.1⟩, hH.2.2.F ht⟩) hH.2.2.2.2 hd hE.2.2.2.2.1
end GoRules
