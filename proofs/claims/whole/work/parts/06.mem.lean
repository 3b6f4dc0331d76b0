/-! rules of Go for fields, rows, calls -/
/-- a class of the tables, with all that a field needs -/
def gk_cl (ci : Nat) (C : String) (T : u_T) (N : Nat) (ty0 : Nat → FieldType) : Prop := ci < 100 ∧ vwCl[ci]? = some (C, T, N) ∧ (∀ w ∈ u_ws C T N, w ∈ gk_tb) ∧ (∀ k, k < N → parseFieldDescriptor (T k).2.2.1 = some (ty0 k)) ∧ (∀ a, a < N → ∀ b, b < N → a ≠ b → (T a).2.1 ≠ (T b).2.1)
def gk_fl (own : String) (idx ci k : Nat) : Prop := ∃ (C : String) (T : u_T) (N : Nat) (ty0 : Nat → FieldType), gk_cl ci C T N ty0 ∧ k < N ∧ Cond.fieldLink own idx (T k).1 (T k).2.1 (T k).2.2.1 ∈ gk_tb
def gk_fp (own : String) (idx ci k : Nat) (ty : FieldType) : Prop := ∃ (C : String) (T : u_T) (N : Nat) (ty0 : Nat → FieldType), gk_cl ci C T N ty0 ∧ k < N ∧ Cond.fieldLink own idx (T k).1 (T k).2.1 (T k).2.2.1 ∈ gk_tb ∧ (T k).2.2.2 = false ∧ ty0 k = ty
theorem gk_mapIdx_set {α : Nat → Nat} {f : Nat → Int32} {k : Nat} {v : Int32} : ∀ (l : List Nat), l[k]? = some 0 → (l.mapIdx (fun j r => if r = 0 then Value.int (f j) else Value.ref (α (r - 1)))).set k (.int v) = l.mapIdx (fun j r => if r = 0 then Value.int (upd f k v j) else Value.ref (α (r - 1))) := by
  intro l hl
  apply List.ext_getElem?
  intro j
  rw [List.getElem?_set, List.length_mapIdx]
  have hk : k < l.length := (List.getElem?_eq_some_iff.mp hl).1
  by_cases e : k = j
  · subst e
    simp [List.getElem?_mapIdx, hk, upd]
    exact (List.getElem?_eq_some_iff.mp hl).2
  · have e2 : ¬ j = k := fun q => e q.symm
    simp [List.getElem?_mapIdx, e, upd, e2]
section GoMem
variable {own : String} {cc : ByteArray} {mL : Nat} {ret : Option FieldType} {d pc : Nat} {lv : List (Nat × Value)} {rest : List Value} {μ : gk_St} {Q : Option Value → gk_St → Prop}
theorem go_getI {idx ci k o : Nat} (hd : decode cc pc = .ok (.getfield idx, 3)) (hf : gk_fl own idx ci k) (ho : gk_isO o ci) (hn : gk_num o k) (kk : Go own cc mL ret d (pc + 3) lv (.int (μ o k) :: rest) μ Q) : Go own cc mL ret d pc lv (.ref o :: rest) μ Q := by
  intro p l e s m args below meth c D α cI cB cR z0 H locs ls hE hH hl
  obtain ⟨C, T, N, ty0, ⟨hc, h1, h2, h3, h4⟩, hk, hlink⟩ := hf
  refine va_get (D := D) (v := .int (μ o k)) hE.1 hE.2.1 hE.2.2.2.2.2.2.1 h2 hE.2.2.2.2.2.1 hE.2.2.2.2.2.2.2.1 hH.1 o (fs := (gk_sk o).2.mapIdx (fun j r => if r = 0 then Value.int (μ o j) else Value.ref (α (r - 1)))) ?_ h1 k hk (hE.2.2.2.2.2.2.1 _ hlink) (fun _ h => h) ?_ hd (kk p l e s m args below meth c D α cI cB cR z0 H locs ls hE hH hl)
  · rw [gk_ws_get (gk_isO_lt ho (by omega)), gk_ce_o ho hc]
  · rw [List.getElem?_mapIdx, hn]
    rfl
theorem go_getR {idx ci k o : Nat} (hd : decode cc pc = .ok (.getfield idx, 3)) (hf : gk_fl own idx ci k) (ho : gk_isO o ci) (hn : gk_ref o k) (kk : Go own cc mL ret d (pc + 3) lv (.ref (gk_rf o k) :: rest) μ Q) : Go own cc mL ret d pc lv (.ref o :: rest) μ Q := by
  intro p l e s m args below meth c D α cI cB cR z0 H locs ls hE hH hl
  obtain ⟨C, T, N, ty0, ⟨hc, h1, h2, h3, h4⟩, hk, hlink⟩ := hf
  obtain ⟨r, hr⟩ := hn
  have hg : gk_rf o k = r := by
    unfold gk_rf
    rw [List.getD_eq_getElem?_getD, hr]
    simp
  refine va_get (D := D) (v := .ref (α (gk_rf o k))) hE.1 hE.2.1 hE.2.2.2.2.2.2.1 h2 hE.2.2.2.2.2.1 hE.2.2.2.2.2.2.2.1 hH.1 o (fs := (gk_sk o).2.mapIdx (fun j r => if r = 0 then Value.int (μ o j) else Value.ref (α (r - 1)))) ?_ h1 k hk (hE.2.2.2.2.2.2.1 _ hlink) (fun _ h => h) ?_ hd (kk p l e s m args below meth c D α cI cB cR z0 H locs ls hE hH hl)
  · rw [gk_ws_get (gk_isO_lt ho (by omega)), gk_ce_o ho hc]
  · rw [List.getElem?_mapIdx, hr, hg]
    simp
theorem go_put {idx ci k o : Nat} {ty : FieldType} {x : Int32} (hd : decode cc pc = .ok (.putfield idx, 3)) (hf : gk_fp own idx ci k ty) (ho : gk_isO o ci) (hn : gk_num o k) (hx1 : narrow ty (.int x) = .int x) (hx2 : fits ty (.int x) = true) (kk : Go own cc mL ret d (pc + 3) lv rest (gk_up μ o k x) Q) : Go own cc mL ret d pc lv (.int x :: .ref o :: rest) μ Q := by
  intro p l e s m args below meth c D α cI cB cR z0 H locs ls hE hH hl
  obtain ⟨C, T, N, ty0, ⟨hc, h1, h2, h3, h4⟩, hk, hlink, hfin, hty⟩ := hf
  have hlt := gk_isO_lt ho (by omega)
  have hset : (gk_ws α cI cB cR μ).set o (α o, .inr (ci, ((gk_sk o).2.mapIdx (fun j r => if r = 0 then Value.int (μ o j) else Value.ref (α (r - 1)))).set k (.int x))) = gk_ws α cI cB cR (gk_up μ o k x) :=
    gk_ws_set hlt (by rw [gk_ce_o ho hc, gk_mapIdx_set _ hn])
  refine va_put (D := D) (v := .int x) (ty := ty) hE.1 hE.2.1 hE.2.2.2.2.2.2.1 h2 ty0 h3 h4 hE.2.2.2.2.2.1 hE.2.2.2.2.2.2.2.1 hH.1 hH.2.1 hH.2.2 o (fs := (gk_sk o).2.mapIdx (fun j r => if r = 0 then Value.int (μ o j) else Value.ref (α (r - 1)))) ?_ h1 k hk (hE.2.2.2.2.2.2.1 _ hlink) (fun _ h => h) hfin (by rw [h3 k hk, hty]) hx1 hx2 ?_ hd (fun H1 locs1 hP hD hS => ?_)
  · rw [gk_ws_get hlt, gk_ce_o ho hc]
  · rw [List.length_mapIdx]
    exact (List.getElem?_eq_some_iff.mp hn).1
  · rw [hset] at hP hD
    exact kk p l e s m args below meth c D α cI cB cR z0 H1 locs1 ls hE ⟨hP, hD, hS⟩ hl
theorem go_putI {idx ci k o : Nat} {x : Int32} (hd : decode cc pc = .ok (.putfield idx, 3)) (hf : gk_fp own idx ci k .int) (ho : gk_isO o ci) (hn : gk_num o k) (kk : Go own cc mL ret d (pc + 3) lv rest (gk_up μ o k x) Q) : Go own cc mL ret d pc lv (.int x :: .ref o :: rest) μ Q := go_put hd hf ho hn rfl rfl kk
theorem go_putZ {idx ci k o : Nat} {x : Int32} (hd : decode cc pc = .ok (.putfield idx, 3)) (hf : gk_fp own idx ci k .boolean) (ho : gk_isO o ci) (hn : gk_num o k) (hx : gk_b x) (kk : Go own cc mL ret d (pc + 3) lv rest (gk_up μ o k x) Q) : Go own cc mL ret d pc lv (.int x :: .ref o :: rest) μ Q := go_put hd hf ho hn (gk_nb hx) (gk_fb hx) kk
theorem go_iaload {a : Nat} {i : Int32} (hd : decode cc pc = .ok (.iaload, 1)) (ha : gk_isO a 100) (hin : vp_in i (gk_ln a)) (kk : Go own cc mL ret d (pc + 1) lv (.int (μ a i.toNatClampNeg) :: rest) μ Q) : Go own cc mL ret d pc lv (.int i :: .ref a :: rest) μ Q := by
  intro p l e s m args below meth c D α cI cB cR z0 H locs ls hE hH hl
  exact va_iald (D := D) hE.1 hE.2.1 hE.2.2.2.2.2.2.2.1 hH.1 a 0 (by rw [gk_ws_get (gk_isO_lt ha (by omega)), gk_ce_i ha]) rfl hin hd (kk p l e s m args below meth c D α cI cB cR z0 H locs ls hE hH hl)
theorem go_baload {a : Nat} {i : Int32} (hd : decode cc pc = .ok (.baload, 1)) (ha : gk_isO a 101) (hin : vp_in i (gk_ln a)) (kk : Go own cc mL ret d (pc + 1) lv (.int (μ a i.toNatClampNeg) :: rest) μ Q) : Go own cc mL ret d pc lv (.int i :: .ref a :: rest) μ Q := by
  intro p l e s m args below meth c D α cI cB cR z0 H locs ls hE hH hl
  exact va_zald (D := D) hE.1 hE.2.1 hE.2.2.2.2.2.2.2.1 hH.1 a 1 (by rw [gk_ws_get (gk_isO_lt ha (by omega)), gk_ce_b ha]) rfl hin hd (kk p l e s m args below meth c D α cI cB cR z0 H locs ls hE hH hl)
theorem go_alen {a : Nat} (hd : decode cc pc = .ok (.arraylength, 1)) (ha : gk_isO a 100) (kk : Go own cc mL ret d (pc + 1) lv (.int (Int32.ofNat (gk_ln a)) :: rest) μ Q) : Go own cc mL ret d pc lv (.ref a :: rest) μ Q := by
  intro p l e s m args below meth c D α cI cB cR z0 H locs ls hE hH hl
  exact va_alen (D := D) hE.1 hE.2.1 hE.2.2.2.2.2.2.2.1 hH.1 a 0 (x := (gk_ln a, .inl (μ a))) (by rw [gk_ws_get (gk_isO_lt ha (by omega)), gk_ce_i ha]) (ty := .int) rfl rfl hd (kk p l e s m args below meth c D α cI cB cR z0 H locs ls hE hH hl)
theorem go_iastore {a : Nat} {i x : Int32} (hd : decode cc pc = .ok (.iastore, 1)) (ha : gk_isO a 100) (hin : vp_in i (gk_ln a)) (kk : Go own cc mL ret d (pc + 1) lv rest (gk_up μ a i.toNatClampNeg x) Q) : Go own cc mL ret d pc lv (.int x :: .int i :: .ref a :: rest) μ Q := by
  intro p l e s m args below meth c D α cI cB cR z0 H locs ls hE hH hl
  have hlt := gk_isO_lt ha (by omega)
  have hset : (gk_ws α cI cB cR μ).set a (α a, .inl (cI, gk_ln a, .inl (upd (μ a) i.toNatClampNeg x))) = gk_ws α cI cB cR (gk_up μ a i.toNatClampNeg x) := gk_ws_set hlt (by rw [gk_ce_i ha])
  refine va_iast (D := D) hE.1 hE.2.1 hE.2.2.2.2.2.2.2.1 hH.1 hH.2.1 hH.2.2 a 0 (by rw [gk_ws_get hlt, gk_ce_i ha]) rfl hin hd (fun H1 locs1 hP hD hS => ?_)
  rw [hset] at hP hD
  exact kk p l e s m args below meth c D α cI cB cR z0 H1 locs1 ls hE ⟨hP, hD, hS⟩ hl
theorem gk_vnb {x : Int32} (h : gk_b x) : vp_nar .boolean x = x := by rcases h with rfl | rfl <;> rfl
theorem go_bastore {a : Nat} {i x : Int32} (hd : decode cc pc = .ok (.bastore, 1)) (ha : gk_isO a 101) (hin : vp_in i (gk_ln a)) (hx : gk_b x) (kk : Go own cc mL ret d (pc + 1) lv rest (gk_up μ a i.toNatClampNeg x) Q) : Go own cc mL ret d pc lv (.int x :: .int i :: .ref a :: rest) μ Q := by
  intro p l e s m args below meth c D α cI cB cR z0 H locs ls hE hH hl
  have hlt := gk_isO_lt ha (by omega)
  have hset : (gk_ws α cI cB cR μ).set a (α a, .inl (cB, gk_ln a, .inl (upd (μ a) i.toNatClampNeg x))) = gk_ws α cI cB cR (gk_up μ a i.toNatClampNeg x) := gk_ws_set hlt (by rw [gk_ce_b ha])
  refine va_zast (D := D) hE.1 hE.2.1 hE.2.2.2.2.2.2.2.1 hH.1 hH.2.1 hH.2.2 a 1 (by rw [gk_ws_get hlt, gk_ce_b ha]) rfl hin hd (fun H1 locs1 hP hD hS => ?_)
  rw [gk_vnb hx, hset] at hP hD
  exact kk p l e s m args below meth c D α cI cB cR z0 H1 locs1 ls hE ⟨hP, hD, hS⟩ hl
theorem go_aaload {a : Nat} {i : Int32} (hd : decode cc pc = .ok (.aaload, 1)) (ha : gk_isO a 102) (hin : vp_in i (gk_rl a)) (kk : Go own cc mL ret d (pc + 1) lv (.ref (gk_rw a i.toNatClampNeg) :: rest) μ Q) : Go own cc mL ret d pc lv (.int i :: .ref a :: rest) μ Q := by
  intro p l e s m args below meth c D α cI cB cR z0 H locs ls hE hH hl
  have hlt : i.toNatClampNeg < gk_rl a := Nat.not_le.mp fun q => hin (Or.inr q)
  have hw := hH.1 a _ (by rw [gk_ws_get (gk_isO_lt ha (by omega)), gk_ce_r ha])
  have hK := hE.2.2.2.2.2.2.2.1
  refine W.aald (v := .ref (α (gk_rw a i.toNatClampNeg))) (ty := .array .int) hE.1 hE.2.1 hw ((hK.2 2 (cR, .array .int) rfl).1 (gk_rl a) _) rfl (fun q => by cases q) (by show ¬ (i < 0 ∨ (arrV _ _ _).slots.size ≤ _); rw [arrV_size]; exact hin) ?_ rfl rfl hd (kk p l e s m args below meth c D α cI cB cR z0 H locs ls hE hH hl)
  show (arrV _ _ _).slots[_]? = _
  rw [arrV_read _ _ hlt]
  unfold gk_rl at hlt
  unfold gk_rw
  have h9 := List.getElem?_eq_getElem hlt
  show some (va_rf (Option.map α ((gk_sk a).2[i.toNatClampNeg]?))) = _
  rw [List.getD_eq_getElem?_getD, h9]
  rfl
theorem go_mmin {idx : Nat} {x y : Int32} (hd : decode cc pc = .ok (.invokestatic idx, 3)) (h1 : Cond.methodLink own idx Lib.Math.min.name ∈ gk_tb) (h2 : Cond.static Lib.Math.min.name ∈ gk_tb) (h3 : Cond.initialized "java/lang/Math" ∈ gk_tb) (h4 : Cond.code Lib.Math.min.name Lib.Math.min.code 2 (some .int) ∈ gk_tb) (hr : (rest.map fun v => v.category).sum ≤ 8) (hdd : 1 ≤ d) (kk : Go own cc mL ret d (pc + 3) lv (.int (if y < x then y else x) :: rest) μ Q) : Go own cc mL ret d pc lv (.int y :: .int x :: rest) μ Q := by
  intro p l e s m args below meth c D α cI cB cR z0 H locs ls hE hH hl
  have ht := hE.2.2.2.2.2.2.1
  have hr2 : ((rest.map (gk_tr α)).map fun v => v.category).sum ≤ 8 := by simpa only [List.map_map, Function.comp_def, gk_tr_cat] using hr
  refine va_mmin hE.1 hE.2.1 (hE.2.2.1.trans hl.1.symm) hE.2.2.2.2.2.1 (ht _ h1) (ht _ h2) (ht _ h3) (ht _ h4) hdd ?_ (Nat.le_refl _) (Nat.le_refl _) hd (kk p l e s m args below meth c D α cI cB cR z0 H locs ls hE hH hl)
  show _ ≤ 40 * d
  omega
theorem go_mmax {idx : Nat} {x y : Int32} (hd : decode cc pc = .ok (.invokestatic idx, 3)) (h1 : Cond.methodLink own idx Lib.Math.max.name ∈ gk_tb) (h2 : Cond.static Lib.Math.max.name ∈ gk_tb) (h3 : Cond.initialized "java/lang/Math" ∈ gk_tb) (h4 : Cond.code Lib.Math.max.name Lib.Math.max.code 2 (some .int) ∈ gk_tb) (hr : (rest.map fun v => v.category).sum ≤ 8) (hdd : 1 ≤ d) (kk : Go own cc mL ret d (pc + 3) lv (.int (if x < y then y else x) :: rest) μ Q) : Go own cc mL ret d pc lv (.int y :: .int x :: rest) μ Q := by
  intro p l e s m args below meth c D α cI cB cR z0 H locs ls hE hH hl
  have ht := hE.2.2.2.2.2.2.1
  have hr2 : ((rest.map (gk_tr α)).map fun v => v.category).sum ≤ 8 := by simpa only [List.map_map, Function.comp_def, gk_tr_cat] using hr
  refine va_mmax hE.1 hE.2.1 (hE.2.2.1.trans hl.1.symm) hE.2.2.2.2.2.1 (ht _ h1) (ht _ h2) (ht _ h3) (ht _ h4) hdd ?_ (Nat.le_refl _) (Nat.le_refl _) hd (kk p l e s m args below meth c D α cI cB cR z0 H locs ls hE hH hl)
  show _ ≤ 40 * d
  omega
theorem go_acopy {idx a b : Nat} {sp dp n : Int32} (hd : decode cc pc = .ok (.invokestatic idx, 3)) (w1 : Cond.methodLink own idx arraycopyName ∈ gk_tb) (w2 : Cond.native arraycopyName ∈ gk_tb) (w3 : Cond.static arraycopyName ∈ gk_tb) (w4 : Cond.initialized "java/lang/System" ∈ gk_tb) (ha : gk_isO a 100) (hb : gk_isO b 100) (h1 : ¬ sp < 0) (h2 : ¬ dp < 0) (h3 : ¬ n < 0) (h4 : sp.toNatClampNeg + n.toNatClampNeg ≤ gk_ln a) (h5 : dp.toNatClampNeg + n.toNatClampNeg ≤ gk_ln b) (hr : (rest.map fun v => v.category).sum ≤ 8) (hdd : 1 ≤ d) (kk : Go own cc mL ret d (pc + 3) lv rest (gk_sa μ b (va_cpy (μ a) (μ b) sp.toNatClampNeg dp.toNatClampNeg n.toNatClampNeg)) Q) : Go own cc mL ret d pc lv (.int n :: .int dp :: .ref b :: .int sp :: .ref a :: rest) μ Q := by
  intro p l e s m args below meth c D α cI cB cR z0 H locs ls hE hH hl
  have ht := hE.2.2.2.2.2.2.1
  have hr2 : ((rest.map (gk_tr α)).map fun v => v.category).sum ≤ 8 := by simpa only [List.map_map, Function.comp_def, gk_tr_cat] using hr
  have hlt := gk_isO_lt hb (by omega)
  have hset : (gk_ws α cI cB cR μ).set b (α b, .inl (cI, gk_ln b, .inl (va_cpy (μ a) (μ b) sp.toNatClampNeg dp.toNatClampNeg n.toNatClampNeg))) = gk_ws α cI cB cR (gk_sa μ b (va_cpy (μ a) (μ b) sp.toNatClampNeg dp.toNatClampNeg n.toNatClampNeg)) := gk_ws_set hlt (by rw [gk_ce_i hb])
  refine va_copyi (D := D) hE.1 hE.2.1 (hE.2.2.1.trans hl.1.symm) hE.2.2.2.2.2.1 (ht _ w1) (ht _ w2) (ht _ w3) (ht _ w4) hE.2.2.2.2.2.2.2.1 hH.1 hH.2.1 hH.2.2 a b 0 0 (ty := .int) (by rw [gk_ws_get (gk_isO_lt ha (by omega)), gk_ce_i ha]) (by rw [gk_ws_get hlt, gk_ce_i hb]) rfl rfl rfl h1 h2 h3 h4 h5 (fun _ _ => rfl) hdd ?_ hd (fun H1 locs1 hP hD hS => ?_)
  · show _ + _ ≤ 40 * d
    have : nativeFrameWords "java/lang/System" "arraycopy" 5 + 11 ≤ 32 := by decide
    omega
  · rw [hset] at hP hD
    exact kk p l e s m args below meth c D α cI cB cR z0 H1 locs1 ls hE ⟨hP, hD, hS⟩ hl
end GoMem
/-- a call's words -/
def gk_cw (own : String) (idx : Nat) (y : MethodName) (cc : ByteArray) (mL : Nat) (ret : Option FieldType) (n : Nat) : Prop := Cond.methodLink own idx y ∈ gk_tb ∧ Cond.code y cc mL ret ∈ gk_tb ∧ Cond.initialized y.cls ∈ gk_tb ∧ (y.cls ≠ "java/lang/invoke/MethodHandle" ∧ y.cls ≠ "java/lang/invoke/VarHandle" ∧ (parseMethodDescriptor y.desc).map (fun d => d.parameters.length) = some n) ∧ mL ≤ 21
theorem gk_good_code {y : MethodName} {cc : ByteArray} {mL : Nat} {ret : Option FieldType} (h : Cond.code y cc mL ret ∈ gk_tb) : GoodIn gk_tb (Cond.code y cc mL ret :: gk_tb) := fun w hw => by
  rcases List.mem_cons.mp hw with rfl | q
  · exact gk_tb_good _ h
  · exact gk_tb_good _ q
theorem gk_blind {D : va_G} {α : Nat → Nat} {cI cB cR : ClassId} {z0 : Nat} {sz : Nat} {avs : List Value} {μ : gk_St} : FrameBlind (gk_Pc D α cI cB cR z0 sz avs μ) := fun a U g mk q => by
  obtain ⟨q0, q1, qP, qK, qD, qR, qN⟩ := q
  exact ⟨q0, q1, qP, va_K.moved (u := U) (U := U.calling g mk a) (Vm.Alike.refl U.vm) qK, qD, gk_RO.moved (u := U) (U := U.calling g mk a) (Vm.Alike.refl U.vm) qR, gk_NS.same (u := U) (U := U.calling g mk a) rfl qN⟩
theorem gk_A_mono {α : Nat → Nat} {a b : Nat} (h : a ≤ b) : ∀ q, gk_A α b q → gk_A α a q := fun q hq => hq.elim Or.inl (fun z => Or.inr (Nat.le_trans h z))
section GoCall
variable {own : String} {cc : ByteArray} {mL : Nat} {ret : Option FieldType} {d pc : Nat} {lv : List (Nat × Value)} {rest : List Value} {μ : gk_St} {Q : Option Value → gk_St → Prop}
theorem gk_after {p : Program} {l : Launch} {e : Env} {s : State} {m : MethodId} {args : Array Value} {below : List Frame} {meth : Method} {c : Code} {D : va_G} {α : Nat → Nat} {cI cB cR : ClassId} {z0 : Nat} {H : Heap} {locs : List Loc} {ls : Array Slot} {st0 : List Value} {a : Array Value} {Qa : Option Value → gk_St → Prop}
    (hr : va_Run p l e (gk_rm d) s m args below meth c H locs 0 0 0 0 (F0 m pc ls st0) (rest.map (gk_tr α)) (gk_Qc D α cI cB cR H.size Qa a) (gk_A α H.size)) (hE : gk_Env own cc mL ret D α cI cB cR z0 p s m args meth c) (hH : gk_H D α cI cB cR μ s H locs) (hl : lv_has ls mL (lv.map (fun q => (q.1, gk_tr α q.2))))
    (k : ∀ (r : Option Value) (μ' : gk_St), Qa r μ' → Go own cc mL ret d (pc + 3) lv (r.toList ++ rest) μ' Q) : W p l e (gk_rm d) s m args below meth c H locs 0 0 (MQ below (gk_Qc D α cI cB cR s.heap.size Q) args s 0 0 (gk_A α s.heap.size)) (F0 m pc ls st0) := by
  intro T hT X
  obtain ⟨v, st₀, t, T', L, h0, X', hL, e1, e2, ⟨⟨r, μ', hv, hq, hP, hK, hD⟩, hz, hk⟩, st⟩ := hr T hT X
  have hv : v = r.map (gk_tr α) := by cases hv; rfl
  subst hv
  rw [h0] at hz hk
  have hle : s.heap.size ≤ H.size := hH.2.2.1
  have hS : va_S (gk_A α s.heap.size) s.heap T'.heap (locs ++ L) :=
    ⟨Nat.le_trans hle (by rw [e1]; exact hz), fun q h1 h2 => by rw [e1, hk q (Nat.lt_of_lt_of_le h1 hle) (fun z => h2 (gk_A_mono hle q z))]; exact hH.2.2.2.1 q h1 h2, fun q hq => by
      rcases List.mem_append.mp hq with h | h
      · exact hH.2.2.2.2 q h
      · exact gk_A_mono hle _ (hL q h)⟩
  obtain ⟨t2, a1, b1⟩ := k r μ' hq p l e s m args below meth c D α cI cB cR z0 T'.heap (locs ++ L) ls hE ⟨by rw [e1]; exact hP, hD.weaken (fun _ _ _ h => gk_A_mono hle _ h), hS⟩ hl T' rfl X'
  refine ⟨t2, st t2 ?_, b1⟩
  have hst : (r.toList ++ rest).map (gk_tr α) = (r.map (gk_tr α)).toList ++ rest.map (gk_tr α) := by cases r <;> simp
  rw [hst] at a1
  exact a1
theorem gk_room {mL' d' : Nat} (h : mL' ≤ 21) (hdd : d' + 1 ≤ d) : (gk_rm d').frames + 1 ≤ (gk_rm d).frames ∧ 8 + (mL' + 11) + (gk_rm d').locals ≤ (gk_rm d).locals := ⟨hdd, by
  show 8 + (mL' + 11) + 40 * d' ≤ 40 * d
  omega⟩
theorem gk_pre {p : Program} {s : State} {m : MethodId} {args : Array Value} {meth : Method} {c : Code} {D : va_G} {α : Nat → Nat} {cI cB cR : ClassId} {z0 : Nat} {H : Heap} {locs : List Loc} (hE : gk_Env own cc mL ret D α cI cB cR z0 p s m args meth c) (hH : gk_H D α cI cB cR μ s H locs) (avs : List Value) : ∀ U : State, U.heap = H → s.WarmedH U.vm → gk_Pc D α cI cB cR z0 H.size avs μ (avs.map (gk_tr α)).toArray U := fun U hU hW =>
  ⟨rfl, by rw [hU], by rw [hU]; exact hH.1, va_K.moved hW.alike hE.2.2.2.2.2.2.2.1, hH.2.1.weaken (fun _ _ _ _ => trivial), by rw [hU]; exact (hE.2.2.2.2.2.2.2.2.1.kept hH.2.2).moved hW.alike, hE.2.2.2.2.2.2.2.2.2.warm hW⟩
/-- invokevirtual -/
theorem go_callV {idx : Nat} {y : MethodName} {cc' : ByteArray} {mL' d' n ci o : Nat} {ret' : Option FieldType} {T : u_T} {N : Nat} {Qa : Option Value → gk_St → Prop} (As : List Value) (hd : decode cc pc = .ok (.invokevirtual idx, 3)) (hw : gk_cw own idx y cc' mL' ret' n) (hi : Cond.instanceMethod y ∈ gk_tb) (hs : Cond.selects y.cls y y ∈ gk_tb) (hc : vwCl[ci]? = some (y.cls, T, N)) (hci : ci < 100) (ho : gk_isO o ci) (hn : As.length = n) (hr : (rest.map fun v => v.category).sum ≤ 8) (hdd : d' + 1 ≤ d) (hM : gk_CT y cc' mL' ret' d' (.ref o :: As) μ Qa)
    (k : ∀ (r : Option Value) (μ' : gk_St), Qa r μ' → Go own cc mL ret d (pc + 3) lv (r.toList ++ rest) μ' Q) : Go own cc mL ret d pc lv (As.reverse ++ .ref o :: rest) μ Q := by
  intro p l e s m args below meth c D α cI cB cR z0 H locs ls hE hH hl
  have ht := hE.2.2.2.2.2.2.1
  obtain ⟨w1, w2, w3, w4, w5⟩ := hw
  have hr2 : ((rest.map (gk_tr α)).map fun v => v.category).sum ≤ 8 := by simpa only [List.map_map, Function.comp_def, gk_tr_cat] using hr
  have cw : CallW (gk_rm d) s args own y.cls idx y cc' mL' ret' (Cond.code y cc' mL' ret' :: gk_tb) (gk_rm d') 0 0 n := ⟨callB_of n ht (gk_good_code w2) rfl rfl rfl (ht _ w3) (ht _ w1) w4 (gk_room w5 hdd), ht _ hi, ht _ hs⟩
  have hrec := va_recv hE.2.2.2.2.2.2.2.1 hH.1 hc (a := α o) (q0 := o) (fs := (gk_sk o).2.mapIdx (fun j r => if r = 0 then Value.int (μ o j) else Value.ref (α (r - 1)))) (by rw [gk_ws_get (gk_isO_lt ho (by omega)), gk_ce_o ho hci])
  exact gk_after (va_runV (As := As.map (gk_tr α)) (rest := rest.map (gk_tr α)) (b := α o) ⟨hE.1, hE.2.1, hE.2.2.1, hE.2.2.2.2.2.1, ht⟩ (hM l D α cI cB cR z0 H.size) cw ⟨gk_blind, hrec, gk_pre hE hH (.ref o :: As)⟩ rfl (by rw [List.length_map]; exact hn) hl.1 (by show (As.reverse ++ .ref o :: rest).map (gk_tr α) = _; rw [List.map_append, List.map_reverse]; rfl) (lv_room hr2) hd ⟨Nat.zero_le _, Nat.zero_le _⟩) hE hH hl k
/-- invokestatic -/
theorem go_callS {idx : Nat} {y : MethodName} {cc' : ByteArray} {mL' d' n : Nat} {ret' : Option FieldType} {Qa : Option Value → gk_St → Prop} (As : List Value) (hd : decode cc pc = .ok (.invokestatic idx, 3)) (hw : gk_cw own idx y cc' mL' ret' n) (hi : Cond.static y ∈ gk_tb) (hn : As.length = n) (hr : (rest.map fun v => v.category).sum ≤ 8) (hdd : d' + 1 ≤ d) (hM : gk_CT y cc' mL' ret' d' As μ Qa)
    (k : ∀ (r : Option Value) (μ' : gk_St), Qa r μ' → Go own cc mL ret d (pc + 3) lv (r.toList ++ rest) μ' Q) : Go own cc mL ret d pc lv (As.reverse ++ rest) μ Q := by
  intro p l e s m args below meth c D α cI cB cR z0 H locs ls hE hH hl
  have ht := hE.2.2.2.2.2.2.1
  obtain ⟨w1, w2, w3, w4, w5⟩ := hw
  have hr2 : ((rest.map (gk_tr α)).map fun v => v.category).sum ≤ 8 := by simpa only [List.map_map, Function.comp_def, gk_tr_cat] using hr
  have cw : CallB (gk_rm d) s args own idx y cc' mL' ret' (Cond.code y cc' mL' ret' :: gk_tb) (gk_rm d') 0 0 n := callB_of n ht (gk_good_code w2) rfl rfl rfl (ht _ w3) (ht _ w1) w4 (gk_room w5 hdd)
  exact gk_after (va_runS (As := As.map (gk_tr α)) (rest := rest.map (gk_tr α)) ⟨hE.1, hE.2.1, hE.2.2.1, hE.2.2.2.2.2.1, ht⟩ (hM l D α cI cB cR z0 H.size) ⟨cw, ht _ hi⟩ ⟨gk_blind, gk_pre hE hH As⟩ rfl (by rw [List.length_map]; exact hn) hl.1 (by show (As.reverse ++ rest).map (gk_tr α) = _; rw [List.map_append, List.map_reverse]) (lv_room hr2) hd ⟨Nat.zero_le _, Nat.zero_le _⟩) hE hH hl k
/-- invokestatic of a nest mate's private method -/
theorem go_callSN {idx : Nat} {y : MethodName} {cc' : ByteArray} {mL' d' n : Nat} {ret' : Option FieldType} {Qa : Option Value → gk_St → Prop} (As : List Value) (hd : decode cc pc = .ok (.invokestatic idx, 3)) (w1 : (own, idx, y) ∈ gk_nest) (w2 : Cond.code y cc' mL' ret' ∈ gk_tb) (w3 : Cond.initialized y.cls ∈ gk_tb) (w4 : y.cls ≠ "java/lang/invoke/MethodHandle" ∧ y.cls ≠ "java/lang/invoke/VarHandle" ∧ (parseMethodDescriptor y.desc).map (fun d => d.parameters.length) = some n) (w5 : mL' ≤ 21) (hi : Cond.static y ∈ gk_tb) (hn : As.length = n) (hr : (rest.map fun v => v.category).sum ≤ 8) (hdd : d' + 1 ≤ d) (hM : gk_CT y cc' mL' ret' d' As μ Qa)
    (k : ∀ (r : Option Value) (μ' : gk_St), Qa r μ' → Go own cc mL ret d (pc + 3) lv (r.toList ++ rest) μ' Q) : Go own cc mL ret d pc lv (As.reverse ++ rest) μ Q := by
  intro p l e s m args below meth c D α cI cB cR z0 H locs ls hE hH hl
  have ht := hE.2.2.2.2.2.2.1
  have hr2 : ((rest.map (gk_tr α)).map fun v => v.category).sum ≤ 8 := by simpa only [List.map_map, Function.comp_def, gk_tr_cat] using hr
  have cw : va_CN (gk_rm d) s args own idx y "CableCars" cc' mL' ret' (Cond.code y cc' mL' ret' :: gk_tb) (gk_rm d') 0 0 n := va_cnB n ht (gk_good_code w2) rfl rfl rfl (hE.2.2.2.2.2.2.2.2.2 _ w1) (ht _ w3) w4 (gk_room w5 hdd)
  exact gk_after (va_runSN (As := As.map (gk_tr α)) (rest := rest.map (gk_tr α)) ⟨hE.1, hE.2.1, hE.2.2.1, hE.2.2.2.2.2.1, ht⟩ (hM l D α cI cB cR z0 H.size) ⟨cw, ht _ hi, trivial⟩ ⟨gk_blind, gk_pre hE hH As⟩ rfl (by rw [List.length_map]; exact hn) hl.1 (by show (As.reverse ++ rest).map (gk_tr α) = _; rw [List.map_append, List.map_reverse]) (lv_room hr2) hd ⟨Nat.zero_le _, Nat.zero_le _⟩) hE hH hl k
end GoCall
/-! answers by kind -/
def gk_Qi (Q : Int32 → gk_St → Prop) : Option Value → gk_St → Prop := fun r μ => ∃ v, r = some (.int v) ∧ Q v μ
def gk_Ql (Q : Int64 → gk_St → Prop) : Option Value → gk_St → Prop := fun r μ => ∃ v, r = some (.long v) ∧ Q v μ
def gk_Qv (Q : gk_St → Prop) : Option Value → gk_St → Prop := fun r μ => r = none ∧ Q μ
def gk_Qr (ci : Nat) (Q : Nat → gk_St → Prop) : Option Value → gk_St → Prop := fun r μ => ∃ o, r = some (.ref o) ∧ gk_isO o ci ∧ Q o μ
def gk_Qq (ci : Nat) (Q : Option Nat → gk_St → Prop) : Option Value → gk_St → Prop := fun r μ => (r = some .null ∧ Q none μ) ∨ ∃ o, r = some (.ref o) ∧ gk_isO o ci ∧ Q (some o) μ
section GoAns
variable {own : String} {cc : ByteArray} {mL : Nat} {ret : Option FieldType} {d pc : Nat} {lv : List (Nat × Value)} {rest : List Value} {Q : Option Value → gk_St → Prop}
theorem gk_ki {Qa : Int32 → gk_St → Prop} (k : ∀ (v : Int32) (μ : gk_St), Qa v μ → Go own cc mL ret d pc lv (.int v :: rest) μ Q) : ∀ (r : Option Value) (μ : gk_St), gk_Qi Qa r μ → Go own cc mL ret d pc lv (r.toList ++ rest) μ Q := by
  rintro r μ ⟨v, rfl, h⟩
  exact k v μ h
theorem gk_kl {Qa : Int64 → gk_St → Prop} (k : ∀ (v : Int64) (μ : gk_St), Qa v μ → Go own cc mL ret d pc lv (.long v :: rest) μ Q) : ∀ (r : Option Value) (μ : gk_St), gk_Ql Qa r μ → Go own cc mL ret d pc lv (r.toList ++ rest) μ Q := by
  rintro r μ ⟨v, rfl, h⟩
  exact k v μ h
theorem gk_kv {Qa : gk_St → Prop} (k : ∀ (μ : gk_St), Qa μ → Go own cc mL ret d pc lv rest μ Q) : ∀ (r : Option Value) (μ : gk_St), gk_Qv Qa r μ → Go own cc mL ret d pc lv (r.toList ++ rest) μ Q := by
  rintro r μ ⟨rfl, h⟩
  exact k μ h
theorem gk_kr {ci : Nat} {Qa : Nat → gk_St → Prop} (k : ∀ (o : Nat) (μ : gk_St), gk_isO o ci → Qa o μ → Go own cc mL ret d pc lv (.ref o :: rest) μ Q) : ∀ (r : Option Value) (μ : gk_St), gk_Qr ci Qa r μ → Go own cc mL ret d pc lv (r.toList ++ rest) μ Q := by
  rintro r μ ⟨v, rfl, h1, h⟩
  exact k v μ h1 h
theorem gk_kq {ci : Nat} {Qa : Option Nat → gk_St → Prop} (k0 : ∀ (μ : gk_St), Qa none μ → Go own cc mL ret d pc lv (.null :: rest) μ Q) (k : ∀ (o : Nat) (μ : gk_St), gk_isO o ci → Qa (some o) μ → Go own cc mL ret d pc lv (.ref o :: rest) μ Q) : ∀ (r : Option Value) (μ : gk_St), gk_Qq ci Qa r μ → Go own cc mL ret d pc lv (r.toList ++ rest) μ Q := by
  rintro r μ (⟨rfl, h⟩ | ⟨v, rfl, h1, h⟩)
  · exact k0 μ h
  · exact k v μ h1 h
end GoAns
theorem gk_ip {c A B : Prop} {dc : Decidable c} (h : @ite Prop c dc A B) (hc : c) : A := by rw [if_pos hc] at h; exact h
theorem gk_in {c A B : Prop} {dc : Decidable c} (h : @ite Prop c dc A B) (hc : ¬ c) : B := by rw [if_neg hc] at h; exact h
/-! the same rules, with a name for what is new -/
def gk_mn (x y : Int32) : Int32 := if y < x then y else x
def gk_mx (x y : Int32) : Int32 := if x < y then y else x
section GoB
variable {own : String} {cc : ByteArray} {mL : Nat} {ret : Option FieldType} {d pc : Nat} {lv : List (Nat × Value)} {rest : List Value} {μ : gk_St} {Q : Option Value → gk_St → Prop}
theorem gb_putI {idx ci k o : Nat} {x : Int32} (hd : decode cc pc = .ok (.putfield idx, 3)) (hf : gk_fp own idx ci k .int) (ho : gk_isO o ci) (hn : gk_num o k) (kk : ∀ μ' : gk_St, μ' = gk_up μ o k x → Go own cc mL ret d (pc + 3) lv rest μ' Q) : Go own cc mL ret d pc lv (.int x :: .ref o :: rest) μ Q := go_putI hd hf ho hn (kk _ rfl)
theorem gb_putZ {idx ci k o : Nat} {x : Int32} (hd : decode cc pc = .ok (.putfield idx, 3)) (hf : gk_fp own idx ci k .boolean) (ho : gk_isO o ci) (hn : gk_num o k) (hx : gk_b x) (kk : ∀ μ' : gk_St, μ' = gk_up μ o k x → Go own cc mL ret d (pc + 3) lv rest μ' Q) : Go own cc mL ret d pc lv (.int x :: .ref o :: rest) μ Q := go_putZ hd hf ho hn hx (kk _ rfl)
theorem gb_iastore {a : Nat} {i x : Int32} (hd : decode cc pc = .ok (.iastore, 1)) (ha : gk_isO a 100) (hin : vp_in i (gk_ln a)) (kk : ∀ μ' : gk_St, μ' = gk_up μ a i.toNatClampNeg x → Go own cc mL ret d (pc + 1) lv rest μ' Q) : Go own cc mL ret d pc lv (.int x :: .int i :: .ref a :: rest) μ Q := go_iastore hd ha hin (kk _ rfl)
theorem gb_bastore {a : Nat} {i x : Int32} (hd : decode cc pc = .ok (.bastore, 1)) (ha : gk_isO a 101) (hin : vp_in i (gk_ln a)) (hx : gk_b x) (kk : ∀ μ' : gk_St, μ' = gk_up μ a i.toNatClampNeg x → Go own cc mL ret d (pc + 1) lv rest μ' Q) : Go own cc mL ret d pc lv (.int x :: .int i :: .ref a :: rest) μ Q := go_bastore hd ha hin hx (kk _ rfl)
theorem gb_istore_n {j : Fin 4} {i : Nat} {x : Int32} (lv' : Int32 → List (Nat × Value)) (hd : decode cc pc = .ok (.istore_n j, 1)) (hi : (j : Nat) = i) (hn : i < mL) (hl' : ∀ v : Int32, (i, Value.int v) :: lv.filter (fun q => !(q.1 == i) && !(q.1 + 1 == i && q.2.category == 2)) = lv' v) (k : ∀ v : Int32, v = x → Go own cc mL ret d (pc + 1) (lv' v) rest μ Q) : Go own cc mL ret d pc lv (.int x :: rest) μ Q := go_istore_n (lv' x) hd hi hn (hl' x) (k x rfl)
theorem gb_istore {i : Nat} {x : Int32} (lv' : Int32 → List (Nat × Value)) (hd : decode cc pc = .ok (.istore i, 2)) (hn : i < mL) (hl' : ∀ v : Int32, (i, Value.int v) :: lv.filter (fun q => !(q.1 == i) && !(q.1 + 1 == i && q.2.category == 2)) = lv' v) (k : ∀ v : Int32, v = x → Go own cc mL ret d (pc + 2) (lv' v) rest μ Q) : Go own cc mL ret d pc lv (.int x :: rest) μ Q := go_istore (lv' x) hd hn (hl' x) (k x rfl)
theorem gb_lstore_n {j : Fin 4} {i : Nat} {x : Int64} (lv' : Int64 → List (Nat × Value)) (hd : decode cc pc = .ok (.lstore_n j, 1)) (hi : (j : Nat) = i) (hn : i + 1 < mL) (hl' : ∀ v : Int64, (i, Value.long v) :: lv.filter (fun q => !(q.1 == i) && (!(q.1 == i + 1) && !(q.1 + 1 == i && q.2.category == 2))) = lv' v) (k : ∀ v : Int64, v = x → Go own cc mL ret d (pc + 1) (lv' v) rest μ Q) : Go own cc mL ret d pc lv (.long x :: rest) μ Q := go_lstore_n (lv' x) hd hi hn (hl' x) (k x rfl)
theorem gb_lstore {i : Nat} {x : Int64} (lv' : Int64 → List (Nat × Value)) (hd : decode cc pc = .ok (.lstore i, 2)) (hn : i + 1 < mL) (hl' : ∀ v : Int64, (i, Value.long v) :: lv.filter (fun q => !(q.1 == i) && (!(q.1 == i + 1) && !(q.1 + 1 == i && q.2.category == 2))) = lv' v) (k : ∀ v : Int64, v = x → Go own cc mL ret d (pc + 2) (lv' v) rest μ Q) : Go own cc mL ret d pc lv (.long x :: rest) μ Q := go_lstore (lv' x) hd hn (hl' x) (k x rfl)
theorem gb_iinc {i : Nat} {n : Int} {x w : Int32} (j : Nat) (lv' : Int32 → List (Nat × Value)) (hd : decode cc pc = .ok (.iinc i n, 3)) (hk : lv[j]? = some (i, .int x)) (hw : Int32.ofInt n = w) (hn : i < mL) (hl' : ∀ v : Int32, (i, Value.int v) :: lv.filter (fun q => !(q.1 == i) && !(q.1 + 1 == i && q.2.category == 2)) = lv' v) (k : ∀ v : Int32, v = x + w → Go own cc mL ret d (pc + 3) (lv' v) rest μ Q) : Go own cc mL ret d pc lv rest μ Q := go_iinc j (lv' (x + w)) hd hk (by rw [hw]) hn (hl' _) (k _ rfl)
theorem gb_mmin {idx : Nat} {x y : Int32} (hd : decode cc pc = .ok (.invokestatic idx, 3)) (h1 : Cond.methodLink own idx Lib.Math.min.name ∈ gk_tb) (h2 : Cond.static Lib.Math.min.name ∈ gk_tb) (h3 : Cond.initialized "java/lang/Math" ∈ gk_tb) (h4 : Cond.code Lib.Math.min.name Lib.Math.min.code 2 (some .int) ∈ gk_tb) (hr : (rest.map fun v => v.category).sum ≤ 8) (hdd : 1 ≤ d) (kk : Go own cc mL ret d (pc + 3) lv (.int (gk_mn x y) :: rest) μ Q) : Go own cc mL ret d pc lv (.int y :: .int x :: rest) μ Q := go_mmin hd h1 h2 h3 h4 hr hdd kk
theorem gb_mmax {idx : Nat} {x y : Int32} (hd : decode cc pc = .ok (.invokestatic idx, 3)) (h1 : Cond.methodLink own idx Lib.Math.max.name ∈ gk_tb) (h2 : Cond.static Lib.Math.max.name ∈ gk_tb) (h3 : Cond.initialized "java/lang/Math" ∈ gk_tb) (h4 : Cond.code Lib.Math.max.name Lib.Math.max.code 2 (some .int) ∈ gk_tb) (hr : (rest.map fun v => v.category).sum ≤ 8) (hdd : 1 ≤ d) (kk : Go own cc mL ret d (pc + 3) lv (.int (gk_mx x y) :: rest) μ Q) : Go own cc mL ret d pc lv (.int y :: .int x :: rest) μ Q := go_mmax hd h1 h2 h3 h4 hr hdd kk
end GoB
theorem gk_lk2 {x : Int32} {dflt a b : Int} (h0 : ¬ x.toInt = 0) (h1 : ¬ x.toInt = 1) : Op.lookupswitch.offset [(0, a), (1, b)] dflt x.toInt = dflt := by
  have h0' : ¬ (0 : Int) = x.toInt := fun q => h0 q.symm
  have h1' : ¬ (1 : Int) = x.toInt := fun q => h1 q.symm
  rw [Op.lookupswitch.offset_cons, if_neg h0', Op.lookupswitch.offset_cons, if_neg h1']
  rfl
theorem gk_neT {x k : Int32} {a : Int} (hk : k.toInt = a) (h : ¬ x = k) : ¬ x.toInt = a := lv_neT h hk
theorem gk_rows : ∀ {a i : Nat}, gk_isO a 102 → i < gk_rl a → gk_isO (gk_rw a i) 100 ∧ gk_ln (gk_rw a i) = 24 := by
  intro a i ha hi
  have h := gk_chk (P := fun a => !((gk_sk a).1 == 102) || (List.range (gk_rl a)).all (fun i => (gk_sk (gk_rw a i)).1 == 100 && gk_ln (gk_rw a i) == 24)) (by decide +kernel) (gk_isO_lt ha (by omega))
  have h2 : (gk_sk a).1 = 102 := ha
  simp only [h2, beq_self_eq_true, Bool.not_true, Bool.false_or] at h
  have h3 := List.all_eq_true.mp h i (List.mem_range.mpr hi)
  simp only [Bool.and_eq_true, beq_iff_eq] at h3
  exact h3
theorem gk_inlt {i : Int32} {n : Nat} (h : vp_in i n) : i.toNatClampNeg < n := Nat.not_le.mp fun q => h (Or.inr q)
