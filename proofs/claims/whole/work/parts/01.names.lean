def va_AOA (ty : FieldType) (U : State) : Prop := (Cond.arrayOver (.array ty)).before #[] U = true
theorem va_AOA.use {ty : FieldType} {A : Array Value} {U : State} (h : va_AOA ty U) : (Cond.arrayOver (.array ty)).before A U = true := h
/-! ===== BEGIN words of one list among another's, by their places ===== -/
theorem goodIn_r {big : List Cond} (ws : List Cond) (ps : List Nat) (hp : ws = ps.filterMap (fun i => big[i]?)) (h : ws.all goodWord = true) : GoodIn big ws := by
  intro w hw
  have h1 := List.all_eq_true.mp h w hw
  rw [hp] at hw
  obtain ⟨i, -, hi⟩ := List.mem_filterMap.mp hw
  have hm : w ∈ big := by first | exact List.mem_of_getElem? hi | exact List.getElem?_mem hi
  exact ⟨hm, good_of_word h1⟩
theorem goodIn_app {big a b : List Cond} (ha : GoodIn big a) (hb : GoodIn big b) : GoodIn big (a ++ b) := fun w h => (List.mem_append.mp h).elim (ha w) (hb w)
theorem goodIn_ca {big a b : List Cond} {c : Cond} (ha : GoodIn big (c :: a)) (hb : GoodIn big b) : GoodIn big (c :: (a ++ b)) := fun w h => (List.mem_cons.mp h).elim (fun e => ha w (List.mem_cons.mpr (Or.inl e))) (fun h => (List.mem_append.mp h).elim (fun h => ha w (List.mem_cons.mpr (Or.inr h))) (hb w))
theorem goodIn_sub {big ws : List Cond} (hm : ∀ w ∈ ws, w ∈ big) (h : ws.all goodWord = true) : GoodIn big ws := fun w hw => ⟨hm w hw, good_of_word (List.all_eq_true.mp h w hw)⟩
/-! ===== END ===== -/

/-! ===== BEGIN new T[n][m]: the outer array a place, the inner ones among the pooled ===== -/
/-- f, but v at every address of l -/
def vr_up {α : Type} (f : Nat → α) (l : List Nat) (v : α) : Nat → α := fun a => if a ∈ l then v else f a
theorem vr_up_in {α : Type} {f : Nat → α} {l : List Nat} {v : α} {a : Nat} (h : a ∈ l) : vr_up f l v a = v := if_pos h
theorem vr_up_ne {α : Type} {f : Nat → α} {l : List Nat} {v : α} {a : Nat} (h : a ∉ l) : vr_up f l v a = f a := if_neg h
theorem vr_rows {L l : List Nat} {f : Nat → va_E} {e : va_E} (h : ∀ a, a ∈ l → a ∉ L) : va_pl L f ++ l.map (fun a => (a, e)) = va_pl (L ++ l) (vr_up f l e) := by
  unfold va_pl
  rw [List.map_append]
  congr 1
  · apply List.map_congr_left
    intro a ha
    rw [vr_up_ne (fun q => h a q ha)]
  · apply List.map_congr_left
    intro a ha
    rw [vr_up_in ha]
theorem vr_lay {X rows : va_W} {x : Nat × va_E} {pl : va_W} {D : va_G} {cl : List vw_C} {H : Heap} (hP : va_P D cl (((X ++ pl) ++ [x]) ++ rows) H) : va_P D cl ((X ++ [x]) ++ (pl ++ rows)) H := by
  rw [List.append_assoc (X ++ pl)] at hP
  have h := va_P.swap hP
  rw [← List.append_assoc X] at h
  have h2 := va_P.swap h
  rw [List.append_assoc (X ++ [x])] at h2
  exact h2
theorem vr_layD {X rows : va_W} {x : Nat × va_E} {pl : va_W} {A : Nat → Prop} (hD : va_D A (((X ++ pl) ++ [x]) ++ rows)) : va_D A ((X ++ [x]) ++ (pl ++ rows)) := by
  rw [List.append_assoc (X ++ pl)] at hD
  have h := va_D.swap hD
  rw [← List.append_assoc X] at h
  have h2 := va_D.swap h
  rw [List.append_assoc (X ++ [x])] at h2
  exact h2
theorem vr_outer (c : ClassId) (N h0 : Nat) : ∀ i : Nat, Jvm.Free.Multi.outerC c N h0 i = arrV c N (fun j => va_rf (if j < i then some (h0 + 1 + j) else none))
  | 0 => by
    show ({ cls := c, slots := Array.replicate N .null, vm := .none } : Cell) = _
    rw [arrV_new]
    refine congrArg (arrV c N) (funext fun j => ?_)
    simp [va_rf]
  | i + 1 => by
    show (Jvm.Free.Multi.outerC c N h0 i).setSlot i (.ref (h0 + 1 + i)) = _
    rw [vr_outer c N h0 i, arrV_store]
    refine congrArg (arrV c N) (funext fun j => ?_)
    by_cases e : j = i
    · subst e
      simp [updV, va_rf]
    · by_cases h : j < i
      · simp [updV, e, h, Nat.lt_succ_of_lt h]
      · simp [updV, e, h, show ¬ j < i + 1 by omega]
section VGM
variable {p : Program} {l : Launch} {e : Env} {R : Room} {s : State} {m : MethodId} {args : Array Value} {below : List Frame} {meth : Method} {c : Code} {H : Heap} {locs : List Loc} {cells slots : Nat} {Q : State → Prop}
variable {cc : ByteArray} {pc : Nat} {ls : Array Slot} {rest : List Value} {D : va_G} {cl : List vw_C} {A : Nat → Prop} {a : Nat} {tys : List (ClassId × FieldType)} {ws : va_W} {H0 : Heap}
theorem va_mna {X : va_W} {L : List Nat} {f : Nat → va_E} {cc : ByteArray} (hexec : p.tables.exec = Jvm.exec) (hb : c.code = cc) {own : String} {index : Nat} {ty : FieldType} {cy : ClassId} (hown : s.vm.findClass own = some m.cls) (hclink : (Cond.classLink own index ("[" ++ (FieldType.array ty).toString)).before args s = true) (hover : va_AOA ty s) (harr : (Cond.arrayClass ty).before args s = true) (hcy : s.vm.findClass (FieldType.array ty).toString = some cy)
    (hK : va_K D cl tys s) (hP : va_P D cl (X ++ va_pl L f) H) (hD : va_D A (X ++ va_pl L f)) (hS : va_S A H0 H locs) (hA : ∀ q, H0.size ≤ q → A q) {n k : Int32} {N' K' : Nat} {z : vp_A} (hn : ¬ n < 0) (hk : ¬ k < 0) (hN : n.toNatClampNeg = N') (hM : k.toNatClampNeg = K')
    (hb1 : N' * 4 ≤ 536870912) (hb2 : K' * componentBytes ty ≤ 536870912) (hb3 : K' ≤ 536870912) (hdf : fits ty (defaultValue ty) = true) (hdd : (defaultValue ty).isDefault = true) (hcells : cells + (1 + N') ≤ R.cells) (hslots : slots + (N' + N' * K') ≤ R.slots) (hz : ∀ c : ClassId, Jvm.Free.Multi.innerC c K' (defaultValue ty) = vp_cell c z) (hdg : decode cc pc = .ok (.multianewarray index 2, 4))
    (kk : ∀ (q : Nat) (r : Nat → Nat) (cA : ClassId) (H1 : Heap), (∀ i j : Nat, i < N' → j < N' → r i = r j → i = j) → (∀ i : Nat, i < N' → r i ∉ L) → va_K D cl (tys ++ [(cA, .array ty)]) s →
      va_P D cl ((X ++ [(q, .inl (cA, N', .inr (.inr (.inr (.inr (fun i => if i < N' then some (r i) else none))))))]) ++ va_pl (L ++ (List.range N').map r) (vr_up f ((List.range N').map r) (.inl (cy, z)))) H1 → va_D A ((X ++ [(q, .inl (cA, N', .inr (.inr (.inr (.inr (fun i => if i < N' then some (r i) else none))))))]) ++ va_pl (L ++ (List.range N').map r) (vr_up f ((List.range N').map r) (.inl (cy, z)))) → va_S A H0 H1 locs →
      W p l e R s m args below meth c H1 locs (cells + 1 + N') (slots + N' + N' * K') Q (F0 m (pc + 4) ls (.ref q :: rest))) : W p l e R s m args below meth c H locs cells slots Q (F0 m pc ls (.int k :: .int n :: rest)) := by
  subst hN
  subst hM
  intro T hT Xs
  obtain ⟨vm₁, cA, comp, -, fA, fC, hO, -, X', step⟩ := Xs.multianewarray2F hexec hown hclink (va_AOA.use hover) harr (g := F0 m pc ls (.int k :: .int n :: rest)) rfl (by rw [hb]; exact hdg) rfl hn hk hb1 hb2 hb3 hdf hdd hcells hslots
  have ec : some cy = some comp := hcy.symm.trans fC
  cases ec
  generalize hF : Jvm.Free.Multi.fill (T.setVm vm₁) cA cy n.toNatClampNeg k.toNatClampNeg (defaultValue ty) n.toNatClampNeg = F at X' step
  have hTh : (T.setVm vm₁).heap = H := hT
  obtain ⟨f1, f2, -, -⟩ := Jvm.Free.Multi.fill_facts (T.setVm vm₁) cA cy n.toNatClampNeg k.toNatClampNeg (defaultValue ty) n.toNatClampNeg
  rw [hF, hTh] at f1 f2
  have hold : ∀ x : Nat, x < H.size → F.heap[x]? = H[x]? := fun x hx => by
    have := Jvm.Free.Multi.fill_old (T.setVm vm₁) cA cy n.toNatClampNeg k.toNatClampNeg (defaultValue ty) (a := x) (by rw [hTh]; exact hx) n.toNatClampNeg
    rw [hF, hTh] at this
    exact this
  have hrow : ∀ j : Nat, j < n.toNatClampNeg → F.heap[H.size + 1 + j]? = some (vp_cell cy z) := fun j hj => by
    have := Jvm.Free.Multi.fill_inner (T.setVm vm₁) cA cy n.toNatClampNeg k.toNatClampNeg (defaultValue ty) n.toNatClampNeg j hj
    rw [hF, hTh, hz] at this
    exact this
  have hout : Jvm.Free.Multi.outerC cA n.toNatClampNeg H.size n.toNatClampNeg = vp_cell cA (n.toNatClampNeg, .inr (.inr (.inr (.inr (fun i => if i < n.toNatClampNeg then some (H.size + 1 + i) else none))))) := by
    rw [vp_cell_q]
    exact vr_outer cA n.toNatClampNeg H.size n.toNatClampNeg
  rw [hout] at f2
  have hlt : ∀ a, a ∈ L → a < H.size := fun a ha => by
    obtain ⟨k9, hk9⟩ := va_pl_get (X := X) (f := f) ha
    exact (hP k9 _ hk9).lt
  have hnl : ∀ i : Nat, i < n.toNatClampNeg → H.size + 1 + i ∉ L := fun i _ h => by
    have := hlt _ h
    omega
  have hnm : ∀ a, a ∈ (List.range n.toNatClampNeg).map (fun i => H.size + 1 + i) → a ∉ L := fun a ha h => by
    obtain ⟨i, -, rfl⟩ := List.mem_map.mp ha
    have := hlt _ h
    omega
  have hP0 : va_P D cl (X ++ va_pl L f) F.heap := hP.kept (fun k9 x hx => hold x.1 ((hP k9 x hx).lt))
  have hP1 : va_P D cl ((X ++ va_pl L f) ++ [(H.size, .inl (cA, n.toNatClampNeg, .inr (.inr (.inr (.inr (fun i => if i < n.toNatClampNeg then some (H.size + 1 + i) else none))))))]) F.heap := hP0.app (fun k9 x hx => by
    have h0 : k9 < 1 := (List.getElem?_eq_some_iff.mp hx).1
    rw [show k9 = 0 by omega] at hx
    cases hx
    exact f2)
  have hP2 : va_P D cl (((X ++ va_pl L f) ++ [(H.size, .inl (cA, n.toNatClampNeg, .inr (.inr (.inr (.inr (fun i => if i < n.toNatClampNeg then some (H.size + 1 + i) else none))))))]) ++ ((List.range n.toNatClampNeg).map (fun i => H.size + 1 + i)).map (fun a => (a, .inl (cy, z)))) F.heap := hP1.app (fun k9 x hx => by
    obtain ⟨a, ha, rfl⟩ := List.mem_map.mp (List.mem_of_getElem? hx)
    obtain ⟨i, hi, rfl⟩ := List.mem_map.mp ha
    exact hrow i (List.mem_range.mp hi))
  have hD2 : va_D A (((X ++ va_pl L f) ++ [(H.size, .inl (cA, n.toNatClampNeg, .inr (.inr (.inr (.inr (fun i => if i < n.toNatClampNeg then some (H.size + 1 + i) else none))))))]) ++ ((List.range n.toNatClampNeg).map (fun i => H.size + 1 + i)).map (fun a => (a, .inl (cy, z)))) := by
    have hD1 := hD.push (e := .inl (cA, n.toNatClampNeg, .inr (.inr (.inr (.inr (fun i => if i < n.toNatClampNeg then some (H.size + 1 + i) else none)))))) hP rfl (hA _ hS.1)
    generalize hW1 : (X ++ va_pl L f) ++ [(H.size, .inl (cA, n.toNatClampNeg, .inr (.inr (.inr (.inr (fun i => if i < n.toNatClampNeg then some (H.size + 1 + i) else none))))))] = W1 at hD1 hP1 ⊢
    have hle : ∀ (k9 : Nat) (x : Nat × va_E), W1[k9]? = some x → x.1 ≤ H.size := fun k9 x hx => by
      rw [← hW1] at hx
      by_cases hl : k9 < (X ++ va_pl L f).length
      · rw [List.getElem?_append_left hl] at hx
        exact Nat.le_of_lt ((hP k9 x hx).lt)
      · rw [List.getElem?_append_right (by omega)] at hx
        have h0 : k9 - (X ++ va_pl L f).length < 1 := (List.getElem?_eq_some_iff.mp hx).1
        rw [show k9 - (X ++ va_pl L f).length = 0 by omega] at hx
        cases hx
        exact Nat.le_refl _
    have hr : ∀ (k9 : Nat) (x : Nat × va_E), (((List.range n.toNatClampNeg).map (fun i => H.size + 1 + i)).map (fun a => ((a, .inl (cy, z)) : Nat × va_E)))[k9]? = some x → x.1 = H.size + 1 + k9 := fun k9 x hx => by
      rw [List.getElem?_map, List.getElem?_map] at hx
      by_cases h9 : k9 < n.toNatClampNeg
      · rw [List.getElem?_range h9] at hx
        cases hx
        rfl
      · have hn0 : (List.range n.toNatClampNeg)[k9]? = none := List.getElem?_eq_none (by rw [List.length_range]; omega)
        rw [hn0] at hx
        cases hx
    refine ⟨fun i j x y hi hj hxy => ?_, fun k9 x hx => ?_⟩
    · by_cases h1 : i < W1.length <;> by_cases h2 : j < W1.length
      · rw [List.getElem?_append_left h1] at hi
        rw [List.getElem?_append_left h2] at hj
        exact hD1.1 i j x y hi hj hxy
      · rw [List.getElem?_append_left h1] at hi
        rw [List.getElem?_append_right (by omega)] at hj
        have := hle _ _ hi
        have := hr _ _ hj
        omega
      · rw [List.getElem?_append_right (by omega)] at hi
        rw [List.getElem?_append_left h2] at hj
        have := hle _ _ hj
        have := hr _ _ hi
        omega
      · rw [List.getElem?_append_right (by omega)] at hi hj
        have := hr _ _ hi
        have := hr _ _ hj
        omega
    · by_cases h1 : k9 < W1.length
      · rw [List.getElem?_append_left h1] at hx
        exact hD1.2 k9 x hx
      · rw [List.getElem?_append_right (by omega)] at hx
        have := hr _ _ hx
        exact hA _ (by have := hS.1; omega)
  have hAr : ArrOfT s cA (.array ty) := fun N9 z9 => by
    obtain ⟨-, k9, hk9, cm9, hkk9⟩ := (hO 0 0 0).1
    exact ⟨(fun q hq => by cases hq), k9, hk9, cm9, hkk9⟩
  have hK2 : va_K D cl (tys ++ [(cA, .array ty)]) s := ⟨hK.1, fun k9 x hx => by
    by_cases hl : k9 < tys.length
    · rw [List.getElem?_append_left hl] at hx
      exact hK.2 k9 x hx
    · rw [List.getElem?_append_right (by omega)] at hx
      have h0 : k9 - tys.length < 1 := (List.getElem?_eq_some_iff.mp hx).1
      rw [show k9 - tys.length = 0 by omega] at hx
      cases hx
      exact ⟨hAr, fA⟩⟩
  obtain ⟨t, a1, b1⟩ := kk H.size (fun i => H.size + 1 + i) cA F.heap (fun i j _ _ h => by have h9 : H.size + 1 + i = H.size + 1 + j := h; omega) hnl hK2 (by rw [← vr_rows hnm]; exact vr_lay hP2) (by rw [← vr_rows hnm]; exact vr_layD hD2) ⟨by rw [f1]; have := hS.1; omega, fun x h1 h2 => (hold x (Nat.lt_of_lt_of_le h1 hS.1)).trans (hS.2.1 x h1 h2), hS.2.2⟩ F rfl X'
  refine ⟨t, step t ?_, b1⟩
  have e : T.heap.size = H.size := by rw [hT]
  rw [e]
  exact a1
end VGM
/-! ===== END ===== -/

/-! ===== BEGIN printed: names, fields, word lists, decode rows ===== -/
def RX0 : String := "CableCars$Events"
def TX0 : u_T := fun k => match k with
  | 0 => ("CableCars$Events", "kind", "[I", true)
  | 1 => ("CableCars$Events", "moment", "[I", true)
  | 2 => ("CableCars$Events", "number", "[I", true)
  | _ => ("CableCars$Events", "size", "I", false)
def tyX0 : Nat → FieldType := fun k => match k with
  | 0 => .array .int
  | 1 => .array .int
  | 2 => .array .int
  | _ => .int
abbrev wsX00 : List Cond := u_ws RX0 TX0 4
theorem nmX0 : ∀ a, a < 4 → ∀ b, b < 4 → a ≠ b → (TX0 a).2.1 ≠ (TX0 b).2.1 := by decide +kernel
theorem tyX0_ok : ∀ k, k < 4 → parseFieldDescriptor (TX0 k).2.2.1 = some (tyX0 k) := by decide +kernel
abbrev cX0_init : ByteArray := prog_2_method_1_code
def yX0_init : MethodName := ⟨RX0, "<init>", "()V"⟩
abbrev cX0_mayBe : ByteArray := prog_2_method_2_code
def yX0_mayBe : MethodName := ⟨RX0, "mayBe", "(III)Z"⟩
abbrev cX0_hasSpace : ByteArray := prog_2_method_3_code
def yX0_hasSpace : MethodName := ⟨RX0, "hasSpace", "()Z"⟩
abbrev cX0_append : ByteArray := prog_2_method_4_code
def yX0_append : MethodName := ⟨RX0, "append", "(III)V"⟩
def RX1 : String := "CableCars$Plan"
def TX1 : u_T := fun k => match k with
  | 0 => ("CableCars$Plan", "cars", "I", false)
  | 1 => ("CableCars$Plan", "place", "[I", true)
  | 2 => ("CableCars$Plan", "sort", "[I", true)
  | 3 => ("CableCars$Plan", "room", "[I", true)
  | 4 => ("CableCars$Plan", "jammedFrom", "[I", true)
  | 5 => ("CableCars$Plan", "arrivals", "[[I", true)
  | 6 => ("CableCars$Plan", "pace", "[I", true)
  | 7 => ("CableCars$Plan", "gusty", "[Z", true)
  | _ => ("CableCars$Plan", "stopped", "[Z", true)
def tyX1 : Nat → FieldType := fun k => match k with
  | 0 => .int
  | 1 => .array .int
  | 2 => .array .int
  | 3 => .array .int
  | 4 => .array .int
  | 5 => .array (.array .int)
  | 6 => .array .int
  | 7 => .array .boolean
  | _ => .array .boolean
abbrev wsX10 : List Cond := u_ws RX1 TX1 9
theorem nmX1 : ∀ a, a < 9 → ∀ b, b < 9 → a ≠ b → (TX1 a).2.1 ≠ (TX1 b).2.1 := by decide +kernel
theorem tyX1_ok : ∀ k, k < 9 → parseFieldDescriptor (TX1 k).2.2.1 = some (tyX1 k) := by decide +kernel
abbrev cX1_init : ByteArray := prog_3_method_1_code
def yX1_init : MethodName := ⟨RX1, "<init>", "()V"⟩
abbrev cX1_takeCars : ByteArray := prog_3_method_2_code
def yX1_takeCars : MethodName := ⟨RX1, "takeCars", "(LCableCars$Triples;)V"⟩
abbrev cX1_takeComings : ByteArray := prog_3_method_3_code
def yX1_takeComings : MethodName := ⟨RX1, "takeComings", "(LCableCars$Triples;)V"⟩
abbrev cX1_takeEvents : ByteArray := prog_3_method_4_code
def yX1_takeEvents : MethodName := ⟨RX1, "takeEvents", "(LCableCars$Events;I)V"⟩
abbrev cX1_takeEvent : ByteArray := prog_3_method_5_code
def yX1_takeEvent : MethodName := ⟨RX1, "takeEvent", "(III)V"⟩
abbrev cX1_places : ByteArray := prog_3_method_6_code
def yX1_places : MethodName := ⟨RX1, "places", "(I)I"⟩
abbrev cX1_roomIn : ByteArray := prog_3_method_7_code
def yX1_roomIn : MethodName := ⟨RX1, "roomIn", "(I)I"⟩
abbrev cX1_isClosed : ByteArray := prog_3_method_8_code
def yX1_isClosed : MethodName := ⟨RX1, "isClosed", "(II)Z"⟩
def RX2 : String := "CableCars$Ride"
def TX2 : u_T := fun k => match k with
  | 0 => ("CableCars$Ride", "placeBehind", "[[I", true)
  | 1 => ("CableCars$Ride", "insideBehind", "[[I", true)
  | 2 => ("CableCars$Ride", "waitBehind", "[[I", true)
  | 3 => ("CableCars$Ride", "power", "[I", true)
  | 4 => ("CableCars$Ride", "place", "[I", true)
  | 5 => ("CableCars$Ride", "inside", "[I", true)
  | 6 => ("CableCars$Ride", "gotOut", "[I", true)
  | 7 => ("CableCars$Ride", "waiting", "[I", true)
  | 8 => ("CableCars$Ride", "comeOver", "[I", true)
  | 9 => ("CableCars$Ride", "cars", "I", false)
  | 10 => ("CableCars$Ride", "usedCars", "I", false)
  | 11 => ("CableCars$Ride", "firstMoment", "I", false)
  | _ => ("CableCars$Ride", "firstCar", "I", false)
def tyX2 : Nat → FieldType := fun k => match k with
  | 0 => .array (.array .int)
  | 1 => .array (.array .int)
  | 2 => .array (.array .int)
  | 3 => .array .int
  | 4 => .array .int
  | 5 => .array .int
  | 6 => .array .int
  | 7 => .array .int
  | 8 => .array .int
  | 9 => .int
  | 10 => .int
  | 11 => .int
  | _ => .int
abbrev wsX20 : List Cond := u_ws RX2 TX2 13
theorem nmX2 : ∀ a, a < 13 → ∀ b, b < 13 → a ≠ b → (TX2 a).2.1 ≠ (TX2 b).2.1 := by decide +kernel
theorem tyX2_ok : ∀ k, k < 13 → parseFieldDescriptor (TX2 k).2.2.1 = some (tyX2 k) := by decide +kernel
abbrev cX2_init : ByteArray := prog_4_method_1_code
def yX2_init : MethodName := ⟨RX2, "<init>", "()V"⟩
abbrev cX2_run : ByteArray := prog_4_method_2_code
def yX2_run : MethodName := ⟨RX2, "run", "(LCableCars$Plan;I)V"⟩
abbrev cX2_allInside : ByteArray := prog_4_method_3_code
def yX2_allInside : MethodName := ⟨RX2, "allInside", "(I)I"⟩
abbrev cX2_allOver : ByteArray := prog_4_method_4_code
def yX2_allOver : MethodName := ⟨RX2, "allOver", "()I"⟩
abbrev cX2_allPower : ByteArray := prog_4_method_5_code
def yX2_allPower : MethodName := ⟨RX2, "allPower", "()I"⟩
abbrev cX2_crowdKey : ByteArray := prog_4_method_6_code
def yX2_crowdKey : MethodName := ⟨RX2, "crowdKey", "(I)I"⟩
abbrev cX2_start : ByteArray := prog_4_method_7_code
def yX2_start : MethodName := ⟨RX2, "start", "(LCableCars$Plan;)V"⟩
abbrev cX2_goOn : ByteArray := prog_4_method_8_code
def yX2_goOn : MethodName := ⟨RX2, "goOn", "(LCableCars$Plan;I)I"⟩
abbrev cX2_stand : ByteArray := prog_4_method_9_code
def yX2_stand : MethodName := ⟨RX2, "stand", "(LCableCars$Plan;I)V"⟩
abbrev cX2_letOut : ByteArray := prog_4_method_10_code
def yX2_letOut : MethodName := ⟨RX2, "letOut", "(III)V"⟩
abbrev cX2_letIn : ByteArray := prog_4_method_11_code
def yX2_letIn : MethodName := ⟨RX2, "letIn", "(III)V"⟩
abbrev cX2_note : ByteArray := prog_4_method_12_code
def yX2_note : MethodName := ⟨RX2, "note", "(I)V"⟩
abbrev cX2_stationAt : ByteArray := prog_4_method_13_code
def yX2_stationAt : MethodName := ⟨RX2, "stationAt", "(I)I"⟩
def RX3 : String := "CableCars$Sheet"
def TX3 : u_T := fun k => match k with
  | 0 => ("CableCars$Sheet", "items", "[I", true)
  | 1 => ("CableCars$Sheet", "lost", "Z", false)
  | 2 => ("CableCars$Sheet", "form", "I", false)
  | _ => ("CableCars$Sheet", "size", "I", false)
def tyX3 : Nat → FieldType := fun k => match k with
  | 0 => .array .int
  | 1 => .boolean
  | 2 => .int
  | _ => .int
abbrev wsX30 : List Cond := u_ws RX3 TX3 4
theorem nmX3 : ∀ a, a < 4 → ∀ b, b < 4 → a ≠ b → (TX3 a).2.1 ≠ (TX3 b).2.1 := by decide +kernel
theorem tyX3_ok : ∀ k, k < 4 → parseFieldDescriptor (TX3 k).2.2.1 = some (tyX3 k) := by decide +kernel
abbrev cX3_init : ByteArray := prog_5_method_1_code
def yX3_init : MethodName := ⟨RX3, "<init>", "()V"⟩
abbrev cX3_renew : ByteArray := prog_5_method_2_code
def yX3_renew : MethodName := ⟨RX3, "renew", "(II)V"⟩
abbrev cX3_wrongWith : ByteArray := prog_5_method_3_code
def yX3_wrongWith : MethodName := ⟨RX3, "wrongWith", "(II)I"⟩
abbrev cX3_hasRun : ByteArray := prog_5_method_4_code
def yX3_hasRun : MethodName := ⟨RX3, "hasRun", "(II)Z"⟩
abbrev cX3_store : ByteArray := prog_5_method_5_code
def yX3_store : MethodName := ⟨RX3, "store", "(II)V"⟩
def RX4 : String := "CableCars$Sightings"
def TX4 : u_T := fun k => match k with
  | 0 => ("CableCars$Sightings", "moment", "[I", true)
  | 1 => ("CableCars$Sightings", "station", "[I", true)
  | 2 => ("CableCars$Sightings", "many", "[I", true)
  | _ => ("CableCars$Sightings", "size", "I", false)
def tyX4 : Nat → FieldType := fun k => match k with
  | 0 => .array .int
  | 1 => .array .int
  | 2 => .array .int
  | _ => .int
abbrev wsX40 : List Cond := u_ws RX4 TX4 4
theorem nmX4 : ∀ a, a < 4 → ∀ b, b < 4 → a ≠ b → (TX4 a).2.1 ≠ (TX4 b).2.1 := by decide +kernel
theorem tyX4_ok : ∀ k, k < 4 → parseFieldDescriptor (TX4 k).2.2.1 = some (tyX4 k) := by decide +kernel
abbrev cX4_init : ByteArray := prog_6_method_1_code
def yX4_init : MethodName := ⟨RX4, "<init>", "()V"⟩
abbrev cX4_hasSpace : ByteArray := prog_6_method_2_code
def yX4_hasSpace : MethodName := ⟨RX4, "hasSpace", "()Z"⟩
abbrev cX4_append : ByteArray := prog_6_method_3_code
def yX4_append : MethodName := ⟨RX4, "append", "(III)V"⟩
abbrev cX4_agreeWith : ByteArray := prog_6_method_4_code
def yX4_agreeWith : MethodName := ⟨RX4, "agreeWith", "(LCableCars$Ride;)Z"⟩
def RX5 : String := "CableCars$Text"
def TX5 : u_T := fun k => match k with
  | 0 => ("CableCars$Text", "bytes", "[I", true)
  | 1 => ("CableCars$Text", "limit", "I", true)
  | _ => ("CableCars$Text", "length", "I", false)
def tyX5 : Nat → FieldType := fun k => match k with
  | 0 => .array .int
  | 1 => .int
  | _ => .int
abbrev wsX50 : List Cond := u_ws RX5 TX5 3
theorem nmX5 : ∀ a, a < 3 → ∀ b, b < 3 → a ≠ b → (TX5 a).2.1 ≠ (TX5 b).2.1 := by decide +kernel
theorem tyX5_ok : ∀ k, k < 3 → parseFieldDescriptor (TX5 k).2.2.1 = some (tyX5 k) := by decide +kernel
abbrev cX5_init : ByteArray := prog_7_method_1_code
def yX5_init : MethodName := ⟨RX5, "<init>", "(I)V"⟩
abbrev cX5_hasSpace : ByteArray := prog_7_method_2_code
def yX5_hasSpace : MethodName := ⟨RX5, "hasSpace", "()Z"⟩
abbrev cX5_append : ByteArray := prog_7_method_3_code
def yX5_append : MethodName := ⟨RX5, "append", "(I)V"⟩
def RX6 : String := "CableCars$Triples"
def TX6 : u_T := fun k => match k with
  | 0 => ("CableCars$Triples", "signs", "Ljava/lang/String;", true)
  | 1 => ("CableCars$Triples", "most", "I", true)
  | 2 => ("CableCars$Triples", "lettersDiffer", "Z", true)
  | 3 => ("CableCars$Triples", "letter", "[I", true)
  | 4 => ("CableCars$Triples", "sign", "[I", true)
  | 5 => ("CableCars$Triples", "figure", "[I", true)
  | 6 => ("CableCars$Triples", "size", "I", false)
  | _ => ("CableCars$Triples", "fault", "I", false)
def tyX6 : Nat → FieldType := fun k => match k with
  | 0 => .object "java/lang/String"
  | 1 => .int
  | 2 => .boolean
  | 3 => .array .int
  | 4 => .array .int
  | 5 => .array .int
  | 6 => .int
  | _ => .int
abbrev wsX60 : List Cond := u_ws RX6 TX6 8
theorem nmX6 : ∀ a, a < 8 → ∀ b, b < 8 → a ≠ b → (TX6 a).2.1 ≠ (TX6 b).2.1 := by decide +kernel
theorem tyX6_ok : ∀ k, k < 8 → parseFieldDescriptor (TX6 k).2.2.1 = some (tyX6 k) := by decide +kernel
abbrev cX6_init : ByteArray := prog_8_method_1_code
def yX6_init : MethodName := ⟨RX6, "<init>", "(Ljava/lang/String;IZ)V"⟩
abbrev cX6_part : ByteArray := prog_8_method_2_code
def yX6_part : MethodName := ⟨RX6, "part", "(II)I"⟩
abbrev cX6_parse : ByteArray := prog_8_method_3_code
def yX6_parse : MethodName := ⟨RX6, "parse", "(LCableCars$Text;)V"⟩
abbrev cX6_faultIn : ByteArray := prog_8_method_4_code
def yX6_faultIn : MethodName := ⟨RX6, "faultIn", "(LCableCars$Text;)I"⟩
abbrev cX6_goesOn : ByteArray := prog_8_method_5_code
def yX6_goesOn : MethodName := ⟨RX6, "goesOn", "(LCableCars$Text;I)Z"⟩
abbrev cX6_isTaken : ByteArray := prog_8_method_6_code
def yX6_isTaken : MethodName := ⟨RX6, "isTaken", "(LCableCars$Text;I)Z"⟩
def RX7 : String := "CableCars"
def TX7 : u_T := fun k => match k with
  | 0 => ("CableCars", "carText", "LCableCars$Text;", true)
  | 1 => ("CableCars", "comingText", "LCableCars$Text;", true)
  | 2 => ("CableCars", "speedText", "LCableCars$Text;", true)
  | 3 => ("CableCars", "cars", "LCableCars$Triples;", true)
  | 4 => ("CableCars", "comings", "LCableCars$Triples;", true)
  | 5 => ("CableCars", "events", "LCableCars$Events;", true)
  | 6 => ("CableCars", "sightings", "LCableCars$Sightings;", true)
  | 7 => ("CableCars", "sheet0", "LCableCars$Sheet;", true)
  | 8 => ("CableCars", "sheet1", "LCableCars$Sheet;", true)
  | 9 => ("CableCars", "sheet2", "LCableCars$Sheet;", true)
  | 10 => ("CableCars", "sheet3", "LCableCars$Sheet;", true)
  | 11 => ("CableCars", "plan", "LCableCars$Plan;", true)
  | 12 => ("CableCars", "toldRide", "LCableCars$Ride;", true)
  | 13 => ("CableCars", "trial", "LCableCars$Ride;", true)
  | 14 => ("CableCars", "crowdByRoom", "[[I", true)
  | 15 => ("CableCars", "speedFault", "I", false)
  | 16 => ("CableCars", "stale", "Z", false)
  | _ => ("CableCars", "finding", "I", false)
def tyX7 : Nat → FieldType := fun k => match k with
  | 0 => .object "CableCars$Text"
  | 1 => .object "CableCars$Text"
  | 2 => .object "CableCars$Text"
  | 3 => .object "CableCars$Triples"
  | 4 => .object "CableCars$Triples"
  | 5 => .object "CableCars$Events"
  | 6 => .object "CableCars$Sightings"
  | 7 => .object "CableCars$Sheet"
  | 8 => .object "CableCars$Sheet"
  | 9 => .object "CableCars$Sheet"
  | 10 => .object "CableCars$Sheet"
  | 11 => .object "CableCars$Plan"
  | 12 => .object "CableCars$Ride"
  | 13 => .object "CableCars$Ride"
  | 14 => .array (.array .int)
  | 15 => .int
  | 16 => .boolean
  | _ => .int
abbrev wsX70 : List Cond := u_ws RX7 TX7 18
theorem nmX7 : ∀ a, a < 18 → ∀ b, b < 18 → a ≠ b → (TX7 a).2.1 ≠ (TX7 b).2.1 := by decide +kernel
theorem tyX7_ok : ∀ k, k < 18 → parseFieldDescriptor (TX7 k).2.2.1 = some (tyX7 k) := by decide +kernel
abbrev cX7_init : ByteArray := prog_1_method_1_code
def yX7_init : MethodName := ⟨RX7, "<init>", "()V"⟩
abbrev cX7_type : ByteArray := prog_1_method_2_code
def yX7_type : MethodName := ⟨RX7, "type", "(II)I"⟩
abbrev cX7_wipe : ByteArray := prog_1_method_3_code
def yX7_wipe : MethodName := ⟨RX7, "wipe", "(I)I"⟩
abbrev cX7_undo : ByteArray := prog_1_method_4_code
def yX7_undo : MethodName := ⟨RX7, "undo", "(I)I"⟩
abbrev cX7_fault : ByteArray := prog_1_method_5_code
def yX7_fault : MethodName := ⟨RX7, "fault", "(I)I"⟩
abbrev cX7_car : ByteArray := prog_1_method_6_code
def yX7_car : MethodName := ⟨RX7, "car", "(II)I"⟩
abbrev cX7_coming : ByteArray := prog_1_method_7_code
def yX7_coming : MethodName := ⟨RX7, "coming", "(II)I"⟩
abbrev cX7_speed : ByteArray := prog_1_method_8_code
def yX7_speed : MethodName := ⟨RX7, "speed", "(I)I"⟩
abbrev cX7_event : ByteArray := prog_1_method_9_code
def yX7_event : MethodName := ⟨RX7, "event", "(III)I"⟩
abbrev cX7_back : ByteArray := prog_1_method_10_code
def yX7_back : MethodName := ⟨RX7, "back", "()I"⟩
abbrev cX7_read : ByteArray := prog_1_method_11_code
def yX7_read : MethodName := ⟨RX7, "read", "(I)I"⟩
abbrev cX7_at : ByteArray := prog_1_method_12_code
def yX7_at : MethodName := ⟨RX7, "at", "(III)I"⟩
abbrev cX7_waits : ByteArray := prog_1_method_13_code
def yX7_waits : MethodName := ⟨RX7, "waits", "(II)I"⟩
abbrev cX7_over : ByteArray := prog_1_method_14_code
def yX7_over : MethodName := ⟨RX7, "over", "(I)I"⟩
abbrev cX7_sum : ByteArray := prog_1_method_15_code
def yX7_sum : MethodName := ⟨RX7, "sum", "()I"⟩
abbrev cX7_crowd : ByteArray := prog_1_method_16_code
def yX7_crowd : MethodName := ⟨RX7, "crowd", "(II)I"⟩
abbrev cX7_first : ByteArray := prog_1_method_17_code
def yX7_first : MethodName := ⟨RX7, "first", "(I)I"⟩
abbrev cX7_carried : ByteArray := prog_1_method_18_code
def yX7_carried : MethodName := ⟨RX7, "carried", "(I)I"⟩
abbrev cX7_idle : ByteArray := prog_1_method_19_code
def yX7_idle : MethodName := ⟨RX7, "idle", "()I"⟩
abbrev cX7_left : ByteArray := prog_1_method_20_code
def yX7_left : MethodName := ⟨RX7, "left", "()I"⟩
abbrev cX7_hang : ByteArray := prog_1_method_21_code
def yX7_hang : MethodName := ⟨RX7, "hang", "(II)I"⟩
abbrev cX7_pace : ByteArray := prog_1_method_22_code
def yX7_pace : MethodName := ⟨RX7, "pace", "(II)I"⟩
abbrev cX7_cheap : ByteArray := prog_1_method_23_code
def yX7_cheap : MethodName := ⟨RX7, "cheap", "(II)I"⟩
abbrev cX7_spare : ByteArray := prog_1_method_24_code
def yX7_spare : MethodName := ⟨RX7, "spare", "(I)I"⟩
abbrev cX7_seen : ByteArray := prog_1_method_25_code
def yX7_seen : MethodName := ⟨RX7, "seen", "(III)I"⟩
abbrev cX7_forget : ByteArray := prog_1_method_26_code
def yX7_forget : MethodName := ⟨RX7, "forget", "()I"⟩
abbrev cX7_never : ByteArray := prog_1_method_27_code
def yX7_never : MethodName := ⟨RX7, "never", "()I"⟩
abbrev cX7_was : ByteArray := prog_1_method_28_code
def yX7_was : MethodName := ⟨RX7, "was", "(II)I"⟩
abbrev cX7_ask : ByteArray := prog_1_method_29_code
def yX7_ask : MethodName := ⟨RX7, "ask", "(I)I"⟩
abbrev cX7_chance : ByteArray := prog_1_method_30_code
def yX7_chance : MethodName := ⟨RX7, "chance", "(III)J"⟩
abbrev cX7_years : ByteArray := prog_1_method_31_code
def yX7_years : MethodName := ⟨RX7, "years", "(III)I"⟩
abbrev cX7_sheet : ByteArray := prog_1_method_32_code
def yX7_sheet : MethodName := ⟨RX7, "sheet", "(III)I"⟩
abbrev cX7_lose : ByteArray := prog_1_method_33_code
def yX7_lose : MethodName := ⟨RX7, "lose", "(I)I"⟩
abbrev cX7_put : ByteArray := prog_1_method_34_code
def yX7_put : MethodName := ⟨RX7, "put", "(IIII)I"⟩
abbrev cX7_get : ByteArray := prog_1_method_35_code
def yX7_get : MethodName := ⟨RX7, "get", "(III)I"⟩
abbrev cX7_copy : ByteArray := prog_1_method_36_code
def yX7_copy : MethodName := ⟨RX7, "copy", "(IIIII)I"⟩
abbrev cX7_write : ByteArray := prog_1_method_37_code
def yX7_write : MethodName := ⟨RX7, "write", "(II)I"⟩
abbrev cX7_count : ByteArray := prog_1_method_38_code
def yX7_count : MethodName := ⟨RX7, "count", "(I)I"⟩
abbrev cX7_digest : ByteArray := prog_1_method_39_code
def yX7_digest : MethodName := ⟨RX7, "digest", "()J"⟩
abbrev cX7_digestTold : ByteArray := prog_1_method_40_code
def yX7_digestTold : MethodName := ⟨RX7, "digestTold", "(J)J"⟩
abbrev cX7_mix : ByteArray := prog_1_method_41_code
def yX7_mix : MethodName := ⟨RX7, "mix", "(JJ)J"⟩
abbrev cX7_within : ByteArray := prog_1_method_42_code
def yX7_within : MethodName := ⟨RX7, "within", "(III)Z"⟩
abbrev cX7_isMoment : ByteArray := prog_1_method_43_code
def yX7_isMoment : MethodName := ⟨RX7, "isMoment", "(I)Z"⟩
abbrev cX7_isStation : ByteArray := prog_1_method_44_code
def yX7_isStation : MethodName := ⟨RX7, "isStation", "(I)Z"⟩
abbrev cX7_isForm : ByteArray := prog_1_method_45_code
def yX7_isForm : MethodName := ⟨RX7, "isForm", "(I)Z"⟩
abbrev cX7_isCar : ByteArray := prog_1_method_46_code
def yX7_isCar : MethodName := ⟨RX7, "isCar", "(I)Z"⟩
abbrev cX7_found : ByteArray := prog_1_method_47_code
def yX7_found : MethodName := ⟨RX7, "found", "(I)I"⟩
abbrev cX7_textOf : ByteArray := prog_1_method_48_code
def yX7_textOf : MethodName := ⟨RX7, "textOf", "(I)LCableCars$Text;"⟩
abbrev cX7_sheetOf : ByteArray := prog_1_method_49_code
def yX7_sheetOf : MethodName := ⟨RX7, "sheetOf", "(I)LCableCars$Sheet;"⟩
abbrev cX7_readAgain : ByteArray := prog_1_method_50_code
def yX7_readAgain : MethodName := ⟨RX7, "readAgain", "(I)V"⟩
abbrev cX7_faultOfSpeed : ByteArray := prog_1_method_51_code
def yX7_faultOfSpeed : MethodName := ⟨RX7, "faultOfSpeed", "()I"⟩
abbrev cX7_toldSpeed : ByteArray := prog_1_method_52_code
def yX7_toldSpeed : MethodName := ⟨RX7, "toldSpeed", "(I)I"⟩
abbrev cX7_anotherHangsAt : ByteArray := prog_1_method_53_code
def yX7_anotherHangsAt : MethodName := ⟨RX7, "anotherHangsAt", "(II)Z"⟩
abbrev cX7_planAsTold : ByteArray := prog_1_method_54_code
def yX7_planAsTold : MethodName := ⟨RX7, "planAsTold", "()V"⟩
abbrev cX7_asTold : ByteArray := prog_1_method_55_code
def yX7_asTold : MethodName := ⟨RX7, "asTold", "()LCableCars$Ride;"⟩
abbrev cX7_leftBehind : ByteArray := prog_1_method_56_code
def yX7_leftBehind : MethodName := ⟨RX7, "leftBehind", "(LCableCars$Ride;)I"⟩
abbrev cX7_leastSpared : ByteArray := prog_1_method_57_code
def yX7_leastSpared : MethodName := ⟨RX7, "leastSpared", "()I"⟩
abbrev cX7_nobodyLeftWithout : ByteArray := prog_1_method_58_code
def yX7_nobodyLeftWithout : MethodName := ⟨RX7, "nobodyLeftWithout", "(I)Z"⟩
abbrev cX7_numberOfBit : ByteArray := prog_1_method_59_code
def yX7_numberOfBit : MethodName := ⟨RX7, "numberOfBit", "(II)I"⟩
abbrev cX7_comesOutAsSeen : ByteArray := prog_1_method_60_code
def yX7_comesOutAsSeen : MethodName := ⟨RX7, "comesOutAsSeen", "()Z"⟩
abbrev cX7_likelyRooms : ByteArray := prog_1_method_61_code
def yX7_likelyRooms : MethodName := ⟨RX7, "likelyRooms", "(I)I"⟩
abbrev cX7_likelySorts : ByteArray := prog_1_method_62_code
def yX7_likelySorts : MethodName := ⟨RX7, "likelySorts", "(I)I"⟩
abbrev cX7_noteCrowdsByRoom : ByteArray := prog_1_method_63_code
def yX7_noteCrowdsByRoom : MethodName := ⟨RX7, "noteCrowdsByRoom", "(I)V"⟩
abbrev cX7_mostAlike : ByteArray := prog_1_method_64_code
def yX7_mostAlike : MethodName := ⟨RX7, "mostAlike", "(I)I"⟩
abbrev cX7_sharesWithNobodyWaiting : ByteArray := prog_1_method_65_code
def yX7_sharesWithNobodyWaiting : MethodName := ⟨RX7, "sharesWithNobodyWaiting", "(II)J"⟩
abbrev cX7_sharesOf : ByteArray := prog_1_method_66_code
def yX7_sharesOf : MethodName := ⟨RX7, "sharesOf", "(II)J"⟩
def RX8 : String := "CableCarsModel"
def TX8 : u_T := fun k => match k with
  | 0 => ("CableCarsModel", "typed", "[I", true)
  | 1 => ("CableCarsModel", "texts", "[I", true)
  | 2 => ("CableCarsModel", "cars", "I", false)
  | 3 => ("CableCarsModel", "places", "[I", true)
  | 4 => ("CableCarsModel", "sorts", "[I", true)
  | 5 => ("CableCarsModel", "rooms", "[I", true)
  | 6 => ("CableCarsModel", "comings", "I", false)
  | 7 => ("CableCarsModel", "comingAt", "[I", true)
  | 8 => ("CableCarsModel", "comingTo", "[I", true)
  | 9 => ("CableCarsModel", "comingMany", "[I", true)
  | 10 => ("CableCarsModel", "speeds", "I", false)
  | 11 => ("CableCarsModel", "speedTold", "[I", true)
  | 12 => ("CableCarsModel", "events", "I", false)
  | 13 => ("CableCarsModel", "eventKind", "[I", true)
  | 14 => ("CableCarsModel", "eventAt", "[I", true)
  | 15 => ("CableCarsModel", "eventNumber", "[I", true)
  | 16 => ("CableCarsModel", "speedNow", "[I", true)
  | 17 => ("CableCarsModel", "notEvents", "I", false)
  | 18 => ("CableCarsModel", "isGust", "Z", false)
  | 19 => ("CableCarsModel", "isStop", "Z", false)
  | 20 => ("CableCarsModel", "jammed", "I", false)
  | 21 => ("CableCarsModel", "placeNow", "[I", true)
  | 22 => ("CableCarsModel", "inside", "[I", true)
  | 23 => ("CableCarsModel", "gotOut", "[I", true)
  | 24 => ("CableCarsModel", "everIn", "I", false)
  | 25 => ("CableCarsModel", "waiting", "[I", true)
  | 26 => ("CableCarsModel", "overNow", "[I", true)
  | 27 => ("CableCarsModel", "powerNow", "I", false)
  | 28 => ("CableCarsModel", "sumNow", "I", false)
  | 29 => ("CableCarsModel", "firstAt", "I", false)
  | 30 => ("CableCarsModel", "firstCar", "I", false)
  | 31 => ("CableCarsModel", "waitAt", "[I", true)
  | 32 => ("CableCarsModel", "ridesAt", "[I", true)
  | 33 => ("CableCarsModel", "powerAt", "[I", true)
  | 34 => ("CableCarsModel", "placeAt", "[I", true)
  | 35 => ("CableCarsModel", "insideAt", "[I", true)
  | 36 => ("CableCarsModel", "planRow", "[I", true)
  | 37 => ("CableCarsModel", "seens", "I", false)
  | 38 => ("CableCarsModel", "seenAt", "[I", true)
  | 39 => ("CableCarsModel", "seenStation", "[I", true)
  | 40 => ("CableCarsModel", "seenMany", "[I", true)
  | 41 => ("CableCarsModel", "waitBy", "[I", true)
  | 42 => ("CableCarsModel", "isThere", "[Z", true)
  | 43 => ("CableCarsModel", "forms", "[I", true)
  | 44 => ("CableCarsModel", "sizes", "[I", true)
  | 45 => ("CableCarsModel", "items", "[I", true)
  | 46 => ("CableCarsModel", "moved", "[I", true)
  | _ => ("CableCarsModel", "finding", "I", false)
def tyX8 : Nat → FieldType := fun k => match k with
  | 0 => .array .int
  | 1 => .array .int
  | 2 => .int
  | 3 => .array .int
  | 4 => .array .int
  | 5 => .array .int
  | 6 => .int
  | 7 => .array .int
  | 8 => .array .int
  | 9 => .array .int
  | 10 => .int
  | 11 => .array .int
  | 12 => .int
  | 13 => .array .int
  | 14 => .array .int
  | 15 => .array .int
  | 16 => .array .int
  | 17 => .int
  | 18 => .boolean
  | 19 => .boolean
  | 20 => .int
  | 21 => .array .int
  | 22 => .array .int
  | 23 => .array .int
  | 24 => .int
  | 25 => .array .int
  | 26 => .array .int
  | 27 => .int
  | 28 => .int
  | 29 => .int
  | 30 => .int
  | 31 => .array .int
  | 32 => .array .int
  | 33 => .array .int
  | 34 => .array .int
  | 35 => .array .int
  | 36 => .array .int
  | 37 => .int
  | 38 => .array .int
  | 39 => .array .int
  | 40 => .array .int
  | 41 => .array .int
  | 42 => .array .boolean
  | 43 => .array .int
  | 44 => .array .int
  | 45 => .array .int
  | 46 => .array .int
  | _ => .int
abbrev wsX80 : List Cond := u_ws RX8 TX8 48
theorem nmX8 : ∀ a, a < 48 → ∀ b, b < 48 → a ≠ b → (TX8 a).2.1 ≠ (TX8 b).2.1 := by decide +kernel
theorem tyX8_ok : ∀ k, k < 48 → parseFieldDescriptor (TX8 k).2.2.1 = some (tyX8 k) := by decide +kernel
abbrev cX8_init : ByteArray := prog_10_method_1_code
def yX8_init : MethodName := ⟨RX8, "<init>", "()V"⟩
abbrev cX8_in : ByteArray := prog_10_method_3_code
def yX8_in : MethodName := ⟨RX8, "in", "(III)Z"⟩
abbrev cX8_isIn : ByteArray := prog_10_method_4_code
def yX8_isIn : MethodName := ⟨RX8, "isIn", "(II)Z"⟩
abbrev cX8_no : ByteArray := prog_10_method_5_code
def yX8_no : MethodName := ⟨RX8, "no", "(I)J"⟩
abbrev cX8_lowest : ByteArray := prog_10_method_6_code
def yX8_lowest : MethodName := ⟨RX8, "lowest", "(JJI)J"⟩
abbrev cX8_isText : ByteArray := prog_10_method_7_code
def yX8_isText : MethodName := ⟨RX8, "isText", "(I)Z"⟩
abbrev cX8_isMoment : ByteArray := prog_10_method_8_code
def yX8_isMoment : MethodName := ⟨RX8, "isMoment", "(I)Z"⟩
abbrev cX8_isTwo : ByteArray := prog_10_method_9_code
def yX8_isTwo : MethodName := ⟨RX8, "isTwo", "(I)Z"⟩
abbrev cX8_isThree : ByteArray := prog_10_method_10_code
def yX8_isThree : MethodName := ⟨RX8, "isThree", "(I)Z"⟩
abbrev cX8_roomOf : ByteArray := prog_10_method_11_code
def yX8_roomOf : MethodName := ⟨RX8, "roomOf", "(I)I"⟩
abbrev cX8_type : ByteArray := prog_10_method_12_code
def yX8_type : MethodName := ⟨RX8, "type", "(II)I"⟩
abbrev cX8_wipe : ByteArray := prog_10_method_13_code
def yX8_wipe : MethodName := ⟨RX8, "wipe", "(I)I"⟩
abbrev cX8_undo : ByteArray := prog_10_method_14_code
def yX8_undo : MethodName := ⟨RX8, "undo", "(I)I"⟩
abbrev cX8_byteAt : ByteArray := prog_10_method_15_code
def yX8_byteAt : MethodName := ⟨RX8, "byteAt", "(II)I"⟩
abbrev cX8_isTaken : ByteArray := prog_10_method_16_code
def yX8_isTaken : MethodName := ⟨RX8, "isTaken", "(II)Z"⟩
abbrev cX8_readsCar : ByteArray := prog_10_method_17_code
def yX8_readsCar : MethodName := ⟨RX8, "readsCar", "(II)I"⟩
abbrev cX8_readsComing : ByteArray := prog_10_method_18_code
def yX8_readsComing : MethodName := ⟨RX8, "readsComing", "(II)I"⟩
abbrev cX8_readsParts : ByteArray := prog_10_method_19_code
def yX8_readsParts : MethodName := ⟨RX8, "readsParts", "(I)I"⟩
abbrev cX8_readsSpeed : ByteArray := prog_10_method_20_code
def yX8_readsSpeed : MethodName := ⟨RX8, "readsSpeed", "()I"⟩
abbrev cX8_faultOf : ByteArray := prog_10_method_21_code
def yX8_faultOf : MethodName := ⟨RX8, "faultOf", "(I)I"⟩
abbrev cX8_reads : ByteArray := prog_10_method_22_code
def yX8_reads : MethodName := ⟨RX8, "reads", "()V"⟩
abbrev cX8_fault : ByteArray := prog_10_method_23_code
def yX8_fault : MethodName := ⟨RX8, "fault", "(I)I"⟩
abbrev cX8_isCar : ByteArray := prog_10_method_24_code
def yX8_isCar : MethodName := ⟨RX8, "isCar", "(I)Z"⟩
abbrev cX8_carOf : ByteArray := prog_10_method_25_code
def yX8_carOf : MethodName := ⟨RX8, "carOf", "(II)I"⟩
abbrev cX8_car : ByteArray := prog_10_method_26_code
def yX8_car : MethodName := ⟨RX8, "car", "(II)I"⟩
abbrev cX8_comingOf : ByteArray := prog_10_method_27_code
def yX8_comingOf : MethodName := ⟨RX8, "comingOf", "(II)I"⟩
abbrev cX8_coming : ByteArray := prog_10_method_28_code
def yX8_coming : MethodName := ⟨RX8, "coming", "(II)I"⟩
abbrev cX8_speedOf : ByteArray := prog_10_method_29_code
def yX8_speedOf : MethodName := ⟨RX8, "speedOf", "(I)I"⟩
abbrev cX8_speed : ByteArray := prog_10_method_30_code
def yX8_speed : MethodName := ⟨RX8, "speed", "(I)I"⟩
abbrev cX8_event : ByteArray := prog_10_method_31_code
def yX8_event : MethodName := ⟨RX8, "event", "(III)I"⟩
abbrev cX8_back : ByteArray := prog_10_method_32_code
def yX8_back : MethodName := ⟨RX8, "back", "()I"⟩
abbrev cX8_read : ByteArray := prog_10_method_33_code
def yX8_read : MethodName := ⟨RX8, "read", "(I)I"⟩
abbrev cX8_asTold : ByteArray := prog_10_method_34_code
def yX8_asTold : MethodName := ⟨RX8, "asTold", "()V"⟩
abbrev cX8_befalls : ByteArray := prog_10_method_35_code
def yX8_befalls : MethodName := ⟨RX8, "befalls", "(I)V"⟩
abbrev cX8_getsOut : ByteArray := prog_10_method_36_code
def yX8_getsOut : MethodName := ⟨RX8, "getsOut", "(II)V"⟩
abbrev cX8_getsIn : ByteArray := prog_10_method_37_code
def yX8_getsIn : MethodName := ⟨RX8, "getsIn", "(I)V"⟩
abbrev cX8_servesAll : ByteArray := prog_10_method_38_code
def yX8_servesAll : MethodName := ⟨RX8, "servesAll", "(IZ)V"⟩
abbrev cX8_goesOn : ByteArray := prog_10_method_39_code
def yX8_goesOn : MethodName := ⟨RX8, "goesOn", "()V"⟩
abbrev cX8_goesBy : ByteArray := prog_10_method_40_code
def yX8_goesBy : MethodName := ⟨RX8, "goesBy", "(I)V"⟩
abbrev cX8_runs : ByteArray := prog_10_method_41_code
def yX8_runs : MethodName := ⟨RX8, "runs", "()V"⟩
abbrev cX8_runsTold : ByteArray := prog_10_method_42_code
def yX8_runsTold : MethodName := ⟨RX8, "runsTold", "()V"⟩
abbrev cX8_atOf : ByteArray := prog_10_method_43_code
def yX8_atOf : MethodName := ⟨RX8, "atOf", "(III)I"⟩
abbrev cX8_at : ByteArray := prog_10_method_44_code
def yX8_at : MethodName := ⟨RX8, "at", "(III)I"⟩
abbrev cX8_waitsOf : ByteArray := prog_10_method_45_code
def yX8_waitsOf : MethodName := ⟨RX8, "waitsOf", "(II)I"⟩
abbrev cX8_waits : ByteArray := prog_10_method_46_code
def yX8_waits : MethodName := ⟨RX8, "waits", "(II)I"⟩
abbrev cX8_overOf : ByteArray := prog_10_method_47_code
def yX8_overOf : MethodName := ⟨RX8, "overOf", "(I)I"⟩
abbrev cX8_over : ByteArray := prog_10_method_48_code
def yX8_over : MethodName := ⟨RX8, "over", "(I)I"⟩
abbrev cX8_sumOf : ByteArray := prog_10_method_49_code
def yX8_sumOf : MethodName := ⟨RX8, "sumOf", "()I"⟩
abbrev cX8_sum : ByteArray := prog_10_method_50_code
def yX8_sum : MethodName := ⟨RX8, "sum", "()I"⟩
abbrev cX8_crowdOf : ByteArray := prog_10_method_51_code
def yX8_crowdOf : MethodName := ⟨RX8, "crowdOf", "(II)I"⟩
abbrev cX8_crowd : ByteArray := prog_10_method_52_code
def yX8_crowd : MethodName := ⟨RX8, "crowd", "(II)I"⟩
abbrev cX8_firstOf : ByteArray := prog_10_method_53_code
def yX8_firstOf : MethodName := ⟨RX8, "firstOf", "(I)I"⟩
abbrev cX8_first : ByteArray := prog_10_method_54_code
def yX8_first : MethodName := ⟨RX8, "first", "(I)I"⟩
abbrev cX8_carriedOf : ByteArray := prog_10_method_55_code
def yX8_carriedOf : MethodName := ⟨RX8, "carriedOf", "(I)I"⟩
abbrev cX8_carried : ByteArray := prog_10_method_56_code
def yX8_carried : MethodName := ⟨RX8, "carried", "(I)I"⟩
abbrev cX8_idleOf : ByteArray := prog_10_method_57_code
def yX8_idleOf : MethodName := ⟨RX8, "idleOf", "()I"⟩
abbrev cX8_idle : ByteArray := prog_10_method_58_code
def yX8_idle : MethodName := ⟨RX8, "idle", "()I"⟩
abbrev cX8_leftNow : ByteArray := prog_10_method_59_code
def yX8_leftNow : MethodName := ⟨RX8, "leftNow", "()I"⟩
abbrev cX8_leftOf : ByteArray := prog_10_method_60_code
def yX8_leftOf : MethodName := ⟨RX8, "leftOf", "()I"⟩
abbrev cX8_left : ByteArray := prog_10_method_61_code
def yX8_left : MethodName := ⟨RX8, "left", "()I"⟩
abbrev cX8_bothOver : ByteArray := prog_10_method_62_code
def yX8_bothOver : MethodName := ⟨RX8, "bothOver", "()I"⟩
abbrev cX8_isOther : ByteArray := prog_10_method_63_code
def yX8_isOther : MethodName := ⟨RX8, "isOther", "(II)Z"⟩
abbrev cX8_hangOf : ByteArray := prog_10_method_64_code
def yX8_hangOf : MethodName := ⟨RX8, "hangOf", "(II)I"⟩
abbrev cX8_hang : ByteArray := prog_10_method_65_code
def yX8_hang : MethodName := ⟨RX8, "hang", "(II)I"⟩
abbrev cX8_paceOf : ByteArray := prog_10_method_66_code
def yX8_paceOf : MethodName := ⟨RX8, "paceOf", "(II)I"⟩
abbrev cX8_pace : ByteArray := prog_10_method_67_code
def yX8_pace : MethodName := ⟨RX8, "pace", "(II)I"⟩
abbrev cX8_cheapOf : ByteArray := prog_10_method_68_code
def yX8_cheapOf : MethodName := ⟨RX8, "cheapOf", "(II)I"⟩
abbrev cX8_cheap : ByteArray := prog_10_method_69_code
def yX8_cheap : MethodName := ⟨RX8, "cheap", "(II)I"⟩
abbrev cX8_isSpared : ByteArray := prog_10_method_70_code
def yX8_isSpared : MethodName := ⟨RX8, "isSpared", "(I)Z"⟩
abbrev cX8_spareBy : ByteArray := prog_10_method_71_code
def yX8_spareBy : MethodName := ⟨RX8, "spareBy", "()I"⟩
abbrev cX8_ofRow : ByteArray := prog_10_method_72_code
def yX8_ofRow : MethodName := ⟨RX8, "ofRow", "(II)I"⟩
abbrev cX8_spare : ByteArray := prog_10_method_73_code
def yX8_spare : MethodName := ⟨RX8, "spare", "(I)I"⟩
abbrev cX8_seen : ByteArray := prog_10_method_74_code
def yX8_seen : MethodName := ⟨RX8, "seen", "(III)I"⟩
abbrev cX8_forget : ByteArray := prog_10_method_75_code
def yX8_forget : MethodName := ⟨RX8, "forget", "()I"⟩
abbrev cX8_isSeen : ByteArray := prog_10_method_76_code
def yX8_isSeen : MethodName := ⟨RX8, "isSeen", "()Z"⟩
abbrev cX8_neverNow : ByteArray := prog_10_method_77_code
def yX8_neverNow : MethodName := ⟨RX8, "neverNow", "()I"⟩
abbrev cX8_never : ByteArray := prog_10_method_78_code
def yX8_never : MethodName := ⟨RX8, "never", "()I"⟩
abbrev cX8_roomsBy : ByteArray := prog_10_method_79_code
def yX8_roomsBy : MethodName := ⟨RX8, "roomsBy", "(I)I"⟩
abbrev cX8_sortsBy : ByteArray := prog_10_method_80_code
def yX8_sortsBy : MethodName := ⟨RX8, "sortsBy", "(I)I"⟩
abbrev cX8_was : ByteArray := prog_10_method_81_code
def yX8_was : MethodName := ⟨RX8, "was", "(II)I"⟩
abbrev cX8_askOf : ByteArray := prog_10_method_82_code
def yX8_askOf : MethodName := ⟨RX8, "askOf", "(I)I"⟩
abbrev cX8_ask : ByteArray := prog_10_method_83_code
def yX8_ask : MethodName := ⟨RX8, "ask", "(I)I"⟩
abbrev cX8_chanceOf : ByteArray := prog_10_method_84_code
def yX8_chanceOf : MethodName := ⟨RX8, "chanceOf", "(III)J"⟩
abbrev cX8_chance : ByteArray := prog_10_method_85_code
def yX8_chance : MethodName := ⟨RX8, "chance", "(III)J"⟩
abbrev cX8_yearsOf : ByteArray := prog_10_method_86_code
def yX8_yearsOf : MethodName := ⟨RX8, "yearsOf", "(III)I"⟩
abbrev cX8_years : ByteArray := prog_10_method_87_code
def yX8_years : MethodName := ⟨RX8, "years", "(III)I"⟩
abbrev cX8_meets : ByteArray := prog_10_method_88_code
def yX8_meets : MethodName := ⟨RX8, "meets", "(I)I"⟩
abbrev cX8_isSheet : ByteArray := prog_10_method_89_code
def yX8_isSheet : MethodName := ⟨RX8, "isSheet", "(I)Z"⟩
abbrev cX8_sheet : ByteArray := prog_10_method_90_code
def yX8_sheet : MethodName := ⟨RX8, "sheet", "(III)I"⟩
abbrev cX8_lose : ByteArray := prog_10_method_91_code
def yX8_lose : MethodName := ⟨RX8, "lose", "(I)I"⟩
abbrev cX8_lacks : ByteArray := prog_10_method_92_code
def yX8_lacks : MethodName := ⟨RX8, "lacks", "(III)I"⟩
abbrev cX8_keep : ByteArray := prog_10_method_93_code
def yX8_keep : MethodName := ⟨RX8, "keep", "(III)V"⟩
abbrev cX8_put : ByteArray := prog_10_method_94_code
def yX8_put : MethodName := ⟨RX8, "put", "(IIII)I"⟩
abbrev cX8_get : ByteArray := prog_10_method_95_code
def yX8_get : MethodName := ⟨RX8, "get", "(III)I"⟩
abbrev cX8_copy : ByteArray := prog_10_method_96_code
def yX8_copy : MethodName := ⟨RX8, "copy", "(IIIII)I"⟩
abbrev cX8_write : ByteArray := prog_10_method_97_code
def yX8_write : MethodName := ⟨RX8, "write", "(II)I"⟩
abbrev cX8_tellOf : ByteArray := prog_10_method_98_code
def yX8_tellOf : MethodName := ⟨RX8, "tellOf", "(I)I"⟩
abbrev cX8_count : ByteArray := prog_10_method_99_code
def yX8_count : MethodName := ⟨RX8, "count", "(I)I"⟩
abbrev cX8_momentDigest : ByteArray := prog_10_method_100_code
def yX8_momentDigest : MethodName := ⟨RX8, "momentDigest", "(JI)J"⟩
abbrev cX8_atDigest : ByteArray := prog_10_method_101_code
def yX8_atDigest : MethodName := ⟨RX8, "atDigest", "(JII)J"⟩
abbrev cX8_carDigest : ByteArray := prog_10_method_102_code
def yX8_carDigest : MethodName := ⟨RX8, "carDigest", "(JI)J"⟩
abbrev cX8_digest : ByteArray := prog_10_method_103_code
def yX8_digest : MethodName := ⟨RX8, "digest", "()J"⟩
def RJx145de : String := "java/io/Serializable"
def TJx145de : u_T := fun k => match k with
  | _ => ("", "", "", false)
def tyJx145de : Nat → FieldType := fun k => match k with
  | _ => .int
abbrev wsJx145de0 : List Cond := u_ws RJx145de TJx145de 0
theorem nmJx145de : ∀ a, a < 0 → ∀ b, b < 0 → a ≠ b → (TJx145de a).2.1 ≠ (TJx145de b).2.1 := by decide +kernel
theorem tyJx145de_ok : ∀ k, k < 0 → parseFieldDescriptor (TJx145de k).2.2.1 = some (tyJx145de k) := by decide +kernel
def RJx9f9b0 : String := "java/lang/CharSequence"
def TJx9f9b0 : u_T := fun k => match k with
  | _ => ("", "", "", false)
def tyJx9f9b0 : Nat → FieldType := fun k => match k with
  | _ => .int
abbrev wsJx9f9b00 : List Cond := u_ws RJx9f9b0 TJx9f9b0 0
theorem nmJx9f9b0 : ∀ a, a < 0 → ∀ b, b < 0 → a ≠ b → (TJx9f9b0 a).2.1 ≠ (TJx9f9b0 b).2.1 := by decide +kernel
theorem tyJx9f9b0_ok : ∀ k, k < 0 → parseFieldDescriptor (TJx9f9b0 k).2.2.1 = some (tyJx9f9b0 k) := by decide +kernel
def RJ11 : String := "java/lang/Character"
def TJ11 : u_T := fun k => match k with
  | _ => ("", "", "", false)
def tyJ11 : Nat → FieldType := fun k => match k with
  | _ => .int
abbrev wsJ110 : List Cond := u_ws RJ11 TJ11 0
theorem nmJ11 : ∀ a, a < 0 → ∀ b, b < 0 → a ≠ b → (TJ11 a).2.1 ≠ (TJ11 b).2.1 := by decide +kernel
theorem tyJ11_ok : ∀ k, k < 0 → parseFieldDescriptor (TJ11 k).2.2.1 = some (tyJ11 k) := by decide +kernel
abbrev cJ11_isValidCodePoint_9a6ad : ByteArray := prog_11_method_11_code
def yJ11_isValidCodePoint_9a6ad : MethodName := ⟨RJ11, "isValidCodePoint", "(I)Z"⟩
abbrev cJ11_highSurrogate_5068e : ByteArray := prog_11_method_28_code
def yJ11_highSurrogate_5068e : MethodName := ⟨RJ11, "highSurrogate", "(I)C"⟩
abbrev cJ11_lowSurrogate_5068e : ByteArray := prog_11_method_29_code
def yJ11_lowSurrogate_5068e : MethodName := ⟨RJ11, "lowSurrogate", "(I)C"⟩
def RJxb160c : String := "java/lang/Comparable"
def TJxb160c : u_T := fun k => match k with
  | _ => ("", "", "", false)
def tyJxb160c : Nat → FieldType := fun k => match k with
  | _ => .int
abbrev wsJxb160c0 : List Cond := u_ws RJxb160c TJxb160c 0
theorem nmJxb160c : ∀ a, a < 0 → ∀ b, b < 0 → a ≠ b → (TJxb160c a).2.1 ≠ (TJxb160c b).2.1 := by decide +kernel
theorem tyJxb160c_ok : ∀ k, k < 0 → parseFieldDescriptor (TJxb160c k).2.2.1 = some (tyJxb160c k) := by decide +kernel
def RJ6 : String := "java/lang/Integer"
def TJ6 : u_T := fun k => match k with
  | _ => ("", "", "", false)
def tyJ6 : Nat → FieldType := fun k => match k with
  | _ => .int
abbrev wsJ60 : List Cond := u_ws RJ6 TJ6 0
theorem nmJ6 : ∀ a, a < 0 → ∀ b, b < 0 → a ≠ b → (TJ6 a).2.1 ≠ (TJ6 b).2.1 := by decide +kernel
theorem tyJ6_ok : ∀ k, k < 0 → parseFieldDescriptor (TJ6 k).2.2.1 = some (tyJ6 k) := by decide +kernel
abbrev cJ6_bitCount_0f7a4 : ByteArray := prog_12_method_49_code
def yJ6_bitCount_0f7a4 : MethodName := ⟨RJ6, "bitCount", "(I)I"⟩
def RJ9 : String := "java/lang/Math"
def TJ9 : u_T := fun k => match k with
  | _ => ("", "", "", false)
def tyJ9 : Nat → FieldType := fun k => match k with
  | _ => .int
abbrev wsJ90 : List Cond := u_ws RJ9 TJ9 0
theorem nmJ9 : ∀ a, a < 0 → ∀ b, b < 0 → a ≠ b → (TJ9 a).2.1 ≠ (TJ9 b).2.1 := by decide +kernel
theorem tyJ9_ok : ∀ k, k < 0 → parseFieldDescriptor (TJ9 k).2.2.1 = some (tyJ9 k) := by decide +kernel
abbrev cJ9_max_7cf53 : ByteArray := prog_13_method_65_code
def yJ9_max_7cf53 : MethodName := ⟨RJ9, "max", "(II)I"⟩
abbrev cJ9_min_7cf53 : ByteArray := prog_13_method_69_code
def yJ9_min_7cf53 : MethodName := ⟨RJ9, "min", "(II)I"⟩
def RJ0 : String := "java/lang/String"
def TJ0 : u_T := fun k => match k with
  | _ => ("", "", "", false)
def tyJ0 : Nat → FieldType := fun k => match k with
  | _ => .int
abbrev wsJ00 : List Cond := u_ws RJ0 TJ0 0
theorem nmJ0 : ∀ a, a < 0 → ∀ b, b < 0 → a ≠ b → (TJ0 a).2.1 ≠ (TJ0 b).2.1 := by decide +kernel
theorem tyJ0_ok : ∀ k, k < 0 → parseFieldDescriptor (TJ0 k).2.2.1 = some (tyJ0 k) := by decide +kernel
abbrev cJ0_length_8abf5 : ByteArray := prog_14_method_54_code
def yJ0_length_8abf5 : MethodName := ⟨RJ0, "length", "()I"⟩
abbrev cJ0_indexOf_0f7a4 : ByteArray := prog_14_method_79_code
def yJ0_indexOf_0f7a4 : MethodName := ⟨RJ0, "indexOf", "(I)I"⟩
abbrev cJ0_indexOf_7cf53 : ByteArray := prog_14_method_80_code
def yJ0_indexOf_7cf53 : MethodName := ⟨RJ0, "indexOf", "(II)I"⟩
abbrev cJ0_coder_7d493 : ByteArray := prog_14_method_152_code
def yJ0_coder_7d493 : MethodName := ⟨RJ0, "coder", "()B"⟩
abbrev cJ0_isLatin1_aae02 : ByteArray := prog_14_method_154_code
def yJ0_isLatin1_aae02 : MethodName := ⟨RJ0, "isLatin1", "()Z"⟩
abbrev cJ0_checkBoundsBeginEnd_23922 : ByteArray := prog_14_method_158_code
def yJ0_checkBoundsBeginEnd_23922 : MethodName := ⟨RJ0, "checkBoundsBeginEnd", "(III)V"⟩
def RJ1 : String := "java/lang/StringLatin1"
def TJ1 : u_T := fun k => match k with
  | _ => ("", "", "", false)
def tyJ1 : Nat → FieldType := fun k => match k with
  | _ => .int
abbrev wsJ10 : List Cond := u_ws RJ1 TJ1 0
theorem nmJ1 : ∀ a, a < 0 → ∀ b, b < 0 → a ≠ b → (TJ1 a).2.1 ≠ (TJ1 b).2.1 := by decide +kernel
theorem tyJ1_ok : ∀ k, k < 0 → parseFieldDescriptor (TJ1 k).2.2.1 = some (tyJ1 k) := by decide +kernel
abbrev cJ1_canEncode_9a6ad : ByteArray := prog_15_method_4_code
def yJ1_canEncode_9a6ad : MethodName := ⟨RJ1, "canEncode", "(I)Z"⟩
abbrev cJ1_indexOf_4cfef : ByteArray := prog_15_method_22_code
def yJ1_indexOf_4cfef : MethodName := ⟨RJ1, "indexOf", "([BIII)I"⟩
abbrev cJ1_indexOfChar_4cfef : ByteArray := prog_15_method_23_code
def yJ1_indexOfChar_4cfef : MethodName := ⟨RJ1, "indexOfChar", "([BIII)I"⟩
def RJ2 : String := "java/lang/StringUTF16"
def TJ2 : u_T := fun k => match k with
  | _ => ("", "", "", false)
def tyJ2 : Nat → FieldType := fun k => match k with
  | _ => .int
abbrev wsJ20 : List Cond := u_ws RJ2 TJ2 0
theorem nmJ2 : ∀ a, a < 0 → ∀ b, b < 0 → a ≠ b → (TJ2 a).2.1 ≠ (TJ2 b).2.1 := by decide +kernel
theorem tyJ2_ok : ∀ k, k < 0 → parseFieldDescriptor (TJ2 k).2.2.1 = some (tyJ2 k) := by decide +kernel
abbrev cJ2_getChar_3b067 : ByteArray := prog_16_method_5_code
def yJ2_getChar_3b067 : MethodName := ⟨RJ2, "getChar", "([BI)C"⟩
abbrev cJ2_length_9d52b : ByteArray := prog_16_method_6_code
def yJ2_length_9d52b : MethodName := ⟨RJ2, "length", "([B)I"⟩
abbrev cJ2_indexOf_4cfef : ByteArray := prog_16_method_40_code
def yJ2_indexOf_4cfef : MethodName := ⟨RJ2, "indexOf", "([BIII)I"⟩
abbrev cJ2_indexOfChar_4cfef : ByteArray := prog_16_method_47_code
def yJ2_indexOfChar_4cfef : MethodName := ⟨RJ2, "indexOfChar", "([BIII)I"⟩
abbrev cJ2_indexOfCharUnsafe_4cfef : ByteArray := prog_16_method_48_code
def yJ2_indexOfCharUnsafe_4cfef : MethodName := ⟨RJ2, "indexOfCharUnsafe", "([BIII)I"⟩
abbrev cJ2_indexOfSupplementary_4cfef : ByteArray := prog_16_method_49_code
def yJ2_indexOfSupplementary_4cfef : MethodName := ⟨RJ2, "indexOfSupplementary", "([BIII)I"⟩
abbrev cJ2_checkBoundsBeginEnd_d044e : ByteArray := prog_16_method_93_code
def yJ2_checkBoundsBeginEnd_d044e : MethodName := ⟨RJ2, "checkBoundsBeginEnd", "(II[B)V"⟩
def RJ10 : String := "java/lang/System"
def TJ10 : u_T := fun k => match k with
  | _ => ("", "", "", false)
def tyJ10 : Nat → FieldType := fun k => match k with
  | _ => .int
abbrev wsJ100 : List Cond := u_ws RJ10 TJ10 0
theorem nmJ10 : ∀ a, a < 0 → ∀ b, b < 0 → a ≠ b → (TJ10 a).2.1 ≠ (TJ10 b).2.1 := by decide +kernel
theorem tyJ10_ok : ∀ k, k < 0 → parseFieldDescriptor (TJ10 k).2.2.1 = some (tyJ10 k) := by decide +kernel
def RJxfd54e : String := "java/lang/constant/Constable"
def TJxfd54e : u_T := fun k => match k with
  | _ => ("", "", "", false)
def tyJxfd54e : Nat → FieldType := fun k => match k with
  | _ => .int
abbrev wsJxfd54e0 : List Cond := u_ws RJxfd54e TJxfd54e 0
theorem nmJxfd54e : ∀ a, a < 0 → ∀ b, b < 0 → a ≠ b → (TJxfd54e a).2.1 ≠ (TJxfd54e b).2.1 := by decide +kernel
theorem tyJxfd54e_ok : ∀ k, k < 0 → parseFieldDescriptor (TJxfd54e k).2.2.1 = some (tyJxfd54e k) := by decide +kernel
def RJx3cf43 : String := "java/lang/constant/ConstantDesc"
def TJx3cf43 : u_T := fun k => match k with
  | _ => ("", "", "", false)
def tyJx3cf43 : Nat → FieldType := fun k => match k with
  | _ => .int
abbrev wsJx3cf430 : List Cond := u_ws RJx3cf43 TJx3cf43 0
theorem nmJx3cf43 : ∀ a, a < 0 → ∀ b, b < 0 → a ≠ b → (TJx3cf43 a).2.1 ≠ (TJx3cf43 b).2.1 := by decide +kernel
theorem tyJx3cf43_ok : ∀ k, k < 0 → parseFieldDescriptor (TJx3cf43 k).2.2.1 = some (tyJx3cf43 k) := by decide +kernel
def RJ7 : String := "java/util/Arrays"
def TJ7 : u_T := fun k => match k with
  | _ => ("", "", "", false)
def tyJ7 : Nat → FieldType := fun k => match k with
  | _ => .int
abbrev wsJ70 : List Cond := u_ws RJ7 TJ7 0
theorem nmJ7 : ∀ a, a < 0 → ∀ b, b < 0 → a ≠ b → (TJ7 a).2.1 ≠ (TJ7 b).2.1 := by decide +kernel
theorem tyJ7_ok : ∀ k, k < 0 → parseFieldDescriptor (TJ7 k).2.2.1 = some (tyJ7 k) := by decide +kernel
abbrev cJ7_fill_53178 : ByteArray := prog_18_method_103_code
def yJ7_fill_53178 : MethodName := ⟨RJ7, "fill", "([II)V"⟩
def RJ3 : String := "jdk/internal/util/Preconditions"
def TJ3 : u_T := fun k => match k with
  | _ => ("", "", "", false)
def tyJ3 : Nat → FieldType := fun k => match k with
  | _ => .int
abbrev wsJ30 : List Cond := u_ws RJ3 TJ3 0
theorem nmJ3 : ∀ a, a < 0 → ∀ b, b < 0 → a ≠ b → (TJ3 a).2.1 ≠ (TJ3 b).2.1 := by decide +kernel
theorem tyJ3_ok : ∀ k, k < 0 → parseFieldDescriptor (TJ3 k).2.2.1 = some (tyJ3 k) := by decide +kernel
abbrev cJ3_checkFromToIndex_8c36e : ByteArray := prog_19_method_12_code
def yJ3_checkFromToIndex_8c36e : MethodName := ⟨RJ3, "checkFromToIndex", "(IIILjava/util/function/BiFunction;)I"⟩
def RL : String := "CableCarsLaw"
abbrev cL_law : ByteArray := code
def yL_law : MethodName := ⟨RL, "law", "([I)Z"⟩
abbrev vwCl : List vw_C := [(RX0, TX0, 4), (RX1, TX1, 9), (RX2, TX2, 13), (RX3, TX3, 4), (RX4, TX4, 4), (RX5, TX5, 3), (RX6, TX6, 8), (RX7, TX7, 18), (RX8, TX8, 48)]
set_option maxRecDepth 100000 in
theorem inX0 : ∀ w ∈ wsX00, w ∈ lw_tbl := fun w h => (goodIn_r wsX00 [193, 195, 197, 199] (by decide +kernel) (by decide +kernel) w h).1
set_option maxRecDepth 100000 in
theorem inX1 : ∀ w ∈ wsX10, w ∈ lw_tbl := fun w h => (goodIn_r wsX10 [269, 271, 273, 275, 277, 279, 281, 283, 285] (by decide +kernel) (by decide +kernel) w h).1
set_option maxRecDepth 100000 in
theorem inX2 : ∀ w ∈ wsX20, w ∈ lw_tbl := fun w h => (goodIn_r wsX20 [319, 321, 323, 325, 327, 329, 331, 333, 335, 337, 339, 341, 343] (by decide +kernel) (by decide +kernel) w h).1
set_option maxRecDepth 100000 in
theorem inX3 : ∀ w ∈ wsX30, w ∈ lw_tbl := fun w h => (goodIn_r wsX30 [236, 238, 240, 242] (by decide +kernel) (by decide +kernel) w h).1
set_option maxRecDepth 100000 in
theorem inX4 : ∀ w ∈ wsX40, w ∈ lw_tbl := fun w h => (goodIn_r wsX40 [213, 215, 217, 219] (by decide +kernel) (by decide +kernel) w h).1
set_option maxRecDepth 100000 in
theorem inX5 : ∀ w ∈ wsX50, w ∈ lw_tbl := fun w h => (goodIn_r wsX50 [127, 129, 131] (by decide +kernel) (by decide +kernel) w h).1
set_option maxRecDepth 100000 in
theorem inX6 : ∀ w ∈ wsX60, w ∈ lw_tbl := fun w h => (goodIn_r wsX60 [159, 161, 163, 165, 167, 169, 171, 173] (by decide +kernel) (by decide +kernel) w h).1
set_option maxRecDepth 100000 in
theorem inX7 : ∀ w ∈ wsX70, w ∈ lw_tbl := fun w h => (goodIn_r wsX70 [365, 367, 369, 371, 373, 375, 377, 379, 381, 383, 385, 387, 389, 391, 393, 395, 397, 399] (by decide +kernel) (by decide +kernel) w h).1
set_option maxRecDepth 100000 in
theorem inX8 : ∀ w ∈ wsX80, w ∈ lw_tbl := fun w h => (goodIn_r wsX80 [996, 998, 1000, 1002, 1004, 1006, 1008, 1010, 1012, 1014, 1016, 1018, 1020, 1022, 1024, 1026, 1028, 1030, 1032, 1034, 1036, 1038, 1040, 1042, 1044, 1046, 1048, 1050, 1052, 1054, 1056, 1058, 1060, 1062, 1064, 1066, 1068, 1070, 1072, 1074, 1076, 1078, 1080, 1082, 1084, 1086, 1088, 1090] (by decide +kernel) (by decide +kernel) w h).1
def gk_tb : List Cond := lw_tbl.filter goodWord
theorem gk_tb_good : GoodIn gk_tb gk_tb := fun w h => ⟨h, good_of_word (List.mem_filter.mp h).2⟩
theorem gk_tb_in {w : Cond} (i : Nat) (h : lw_tbl[i]? = some w) (hg : goodWord w = true) : w ∈ gk_tb := List.mem_filter.mpr ⟨List.mem_of_getElem? h, hg⟩
