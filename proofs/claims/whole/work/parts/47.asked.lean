/-! what is asked of that which was told, and of its ride -/
theorem s_mom_y {t : Nat} (ht : t < 24) {μ : gk_St} {Q : Int32 → gk_St → Prop} (h : Q 1 μ) : w_X7_isMoment (nI t) μ Q := s_wi (m := 23) (by omega) (by omega) ⟨Or.inr rfl, h⟩
theorem s_mom_n {x : Int32} (hx : x < 0 ∨ nI 23 < x) {μ : gk_St} {Q : Int32 → gk_St → Prop} (h : Q 0 μ) : w_X7_isMoment x μ Q := s_w_n hx ⟨Or.inl rfl, h⟩
theorem m_mom_y {t : Nat} (ht : t < 24) {μ : gk_St} {Q : Int32 → gk_St → Prop} (h : Q 1 μ) : w_X8_isMoment (nI t) μ Q := s_ii (m := 23) (by omega) (by omega) ⟨Or.inr rfl, h⟩
theorem m_mom_n {x : Int32} (hx : x < 0 ∨ nI 23 < x) {μ : gk_St} {Q : Int32 → gk_St → Prop} (h : Q 0 μ) : w_X8_isMoment x μ Q := s_in_n hx ⟨Or.inl rfl, h⟩
theorem s_sta_y {t : Nat} (ht : t < 2) {μ : gk_St} {Q : Int32 → gk_St → Prop} (h : Q 1 μ) : w_X7_isStation (nI t) μ Q := s_wi (m := 1) (by omega) (by omega) ⟨Or.inr rfl, h⟩
theorem s_sta_n {x : Int32} (hx : x < 0 ∨ nI 1 < x) {μ : gk_St} {Q : Int32 → gk_St → Prop} (h : Q 0 μ) : w_X7_isStation x μ Q := s_w_n hx ⟨Or.inl rfl, h⟩
theorem s_form_y {t : Nat} (ht : t < 3) {μ : gk_St} {Q : Int32 → gk_St → Prop} (h : Q 1 μ) : w_X7_isForm (nI t) μ Q := s_wi (m := 2) (by omega) (by omega) ⟨Or.inr rfl, h⟩
theorem s_form_n {x : Int32} (hx : x < 0 ∨ nI 2 < x) {μ : gk_St} {Q : Int32 → gk_St → Prop} (h : Q 0 μ) : w_X7_isForm x μ Q := s_w_n hx ⟨Or.inl rfl, h⟩
theorem m_two_y {t : Nat} (ht : t < 2) {μ : gk_St} {Q : Int32 → gk_St → Prop} (h : Q 1 μ) : w_X8_isTwo (nI t) μ Q := s_ii (m := 1) (by omega) (by omega) ⟨Or.inr rfl, h⟩
theorem m_two_n {x : Int32} (hx : x < 0 ∨ nI 1 < x) {μ : gk_St} {Q : Int32 → gk_St → Prop} (h : Q 0 μ) : w_X8_isTwo x μ Q := s_in_n hx ⟨Or.inl rfl, h⟩
theorem m_three_y {t : Nat} (ht : t < 3) {μ : gk_St} {Q : Int32 → gk_St → Prop} (h : Q 1 μ) : w_X8_isThree (nI t) μ Q := s_ii (m := 2) (by omega) (by omega) ⟨Or.inr rfl, h⟩
theorem m_three_n {x : Int32} (hx : x < 0 ∨ nI 2 < x) {μ : gk_St} {Q : Int32 → gk_St → Prop} (h : Q 0 μ) : w_X8_isThree x μ Q := s_in_n hx ⟨Or.inl rfl, h⟩
theorem rgc (x : Int32) (n : Nat) (hn : n < 1000) : (∃ j, j < n ∧ x = nI j) ∨ (x < 0 ∨ nI n - 1 < x) := by
  by_cases c : n = 0
  · refine Or.inr ?_
    by_cases d : x < 0
    · exact Or.inl d
    · refine Or.inr ?_
      rw [c, show nI 0 - 1 = (-1 : Int32) by decide]
      exact Int32.lt_of_lt_of_le (by decide) (Int32.not_lt.mp d)
  · have e : nI n - 1 = nI (n - 1) := pk_sub (b := 1) (by omega)
    rw [e]
    rcases rg x (n - 1) (by omega) with ⟨j, h1, h2⟩ | h
    · exact Or.inl ⟨j, by omega, h2⟩
    · exact Or.inr h
theorem nI_pr {k n : Nat} (h : k < n) (hn : n < 1000) : ¬ nI n - 1 < nI k := by
  have e : nI n - 1 = nI (n - 1) := pk_sub (b := 1) (by omega)
  rw [e]
  exact nI_nlt (by omega) (by omega)
theorem s_car_y {C : gp_C} {μ : gk_St} (hA : gp_kA C μ) {k : Nat} (hk : k < c_nc C) {Q : Int32 → gk_St → Prop} (h : Q 1 μ) : w_X7_isCar 0 (nI k) μ Q := by
  have hn := c_nc6 (C := C)
  unfold w_X7_isCar
  rw [rf_0_3, show μ 7 6 = nI (c_nc C) from hA.2.1.2.2.1]
  exact s_w_y (nI_pos (by omega)) (nI_pr hk (by omega)) ⟨Or.inr rfl, h⟩
theorem s_car_n {C : gp_C} {μ : gk_St} (hA : gp_kA C μ) {x : Int32} (hx : x < 0 ∨ nI (c_nc C) - 1 < x) {Q : Int32 → gk_St → Prop} (h : Q 0 μ) : w_X7_isCar 0 x μ Q := by
  unfold w_X7_isCar
  rw [rf_0_3, show μ 7 6 = nI (c_nc C) from hA.2.1.2.2.1]
  exact s_w_n hx ⟨Or.inl rfl, h⟩
theorem s_readsC {C : gp_C} {μ : gk_St} (hk : gp_K C μ) {Q : gk_St → Prop} (h : ∀ ν, gp_K C ν → gp_rd (c_tn C) (c_tb C) ν → Q ν) : w_X8_reads 101 μ Q := s_reads hk.2.2.1 (fun ν a b => h ν (gp_K_fM (gp_fR_fM b) hk) a)
theorem m_car_y {C : gp_C} {μ : gk_St} (hK : gp_K C μ) {k : Nat} (hk : k < c_nc C) {Q : Int32 → gk_St → Prop} (h : ∀ ν, gp_K C ν → gp_rd (c_tn C) (c_tb C) ν → Q 1 ν) : w_X8_isCar 101 (nI k) μ Q := by
  have hn := c_nc6 (C := C)
  unfold w_X8_isCar
  refine s_readsC hK (fun ν a b => ?_)
  rw [show ν 101 2 = nI (c_nc C) from b.1]
  exact s_in_y (nI_pos (by omega)) (nI_pr hk (by omega)) ⟨Or.inr rfl, h ν a b⟩
theorem m_car_n {C : gp_C} {μ : gk_St} (hK : gp_K C μ) {x : Int32} (hx : x < 0 ∨ nI (c_nc C) - 1 < x) {Q : Int32 → gk_St → Prop} (h : ∀ ν, gp_K C ν → gp_rd (c_tn C) (c_tb C) ν → Q 0 ν) : w_X8_isCar 101 x μ Q := by
  unfold w_X8_isCar
  refine s_readsC hK (fun ν a b => ?_)
  rw [show ν 101 2 = nI (c_nc C) from b.1]
  exact s_in_n hx ⟨Or.inl rfl, h ν a b⟩
/-- a case of 0, 1 or more -/
theorem gp_c2 {A B : Prop} {w : Nat} (hw : w < 2) (h0 : w = 0 → A) (h1 : w = 1 → B) : (if nI w = 0 then A else B) := by
  rcases (show w = 0 ∨ w = 1 by omega) with z | z
  · rw [if_pos (by rw [z]; rfl)]
    exact h0 z
  · rw [if_neg (by rw [z]; decide)]
    exact h1 z
theorem gp_c3 {A B D : Prop} {w : Nat} (hw : w < 3) (h0 : w = 0 → A) (h1 : w = 1 → B) (h2 : w = 2 → D) : (if nI w = 0 then A else (if nI w = 1 then B else D)) := by
  rcases (show w = 0 ∨ w = 1 ∨ w = 2 by omega) with z | z | z
  · rw [if_pos (by rw [z]; rfl)]
    exact h0 z
  · rw [if_neg (by rw [z]; decide), if_pos (by rw [z]; rfl)]
    exact h1 z
  · rw [if_neg (by rw [z]; decide), if_neg (by rw [z]; decide)]
    exact h2 z
/-- the faults -/
def gp_isV (C : gp_C) (F : Nat → Int32) : Prop := gp_isF 0 (c_tn C 0) (c_tb C 0) (F 0) ∧ gp_isF 1 (c_tn C 1) (c_tb C 1) (F 1) ∧ gp_isS (c_tn C 2) (c_tb C 2) (F 2)
theorem gp_isV_K {C : gp_C} {μ : gk_St} (hk : gp_K C μ) : gp_isV C (fun x => if x = 0 then μ 7 7 else if x = 1 then μ 11 7 else μ 0 15) := ⟨hk.2.1.1.2.1.2.2.2.1, hk.2.1.1.2.2.1.2.2.2.1, hk.2.1.1.2.2.2⟩
theorem c_fault {C : gp_C} {F : Nat → Int32} (hF : gp_isV C F) {μ : gk_St} (hk : gp_K C μ) {x : Nat} (hx : x < 3) {Q : Int32 → gk_St → Prop} (h : Q (F x) μ) : w_X7_fault 0 (nI x) μ Q := by
  have e0 : μ 7 7 = F 0 := gp_isF_u hk.2.1.1.2.1.2.2.2.1 hF.1
  have e1 : μ 11 7 = F 1 := gp_isF_u hk.2.1.1.2.2.1.2.2.2.1 hF.2.1
  have e2 : μ 0 15 = F 2 := gp_isS_u hk.2.1.1.2.2.2 hF.2.2
  unfold w_X7_fault
  rw [rf_0_3, rf_0_4, e0, e1, e2]
  rcases (show x = 0 ∨ x = 1 ∨ x = 2 by omega) with z | z | z
  · subst z
    rw [if_pos (by decide)]
    exact h
  · subst z
    rw [if_neg (by decide), if_pos (by decide)]
    exact h
  · subst z
    rw [if_neg (by decide), if_neg (by decide), if_pos (by decide)]
    exact h
theorem m_fault {C : gp_C} {F : Nat → Int32} (hF : gp_isV C F) {μ : gk_St} (hk : gp_K C μ) {x : Nat} (hx : x < 3) {Q : Int32 → gk_St → Prop} (h : ∀ ν, gp_K C ν → gp_rd (c_tn C) (c_tb C) ν → Q (F x) ν) : w_X8_faultOf 101 (nI x) μ Q := by
  refine s_faultOf hk.2.2.1 hx (fun f ν a0 a1 a2 b c => ?_)
  have hK := gp_K_fM (gp_fR_fM c) hk
  rcases (show x = 0 ∨ x = 1 ∨ x = 2 by omega) with z | z | z
  · subst z
    rw [gp_isF_u (a0 rfl) hF.1]
    exact h ν hK b
  · subst z
    rw [gp_isF_u (a1 rfl) hF.2.1]
    exact h ν hK b
  · subst z
    rw [gp_isS_u (a2 rfl) hF.2.2]
    exact h ν hK b
theorem k_ok_fault : ok_fault gp_Inv := by
  intro μ x1 ⟨C, hk⟩
  rcases rg x1 2 (by omega) with ⟨x, hx, rfl⟩ | hx
  · refine c_fault (gp_isV_K hk) hk (by omega) ?_
    unfold w_X8_fault
    refine m_isText (x := x) (by omega) ?_
    rw [if_neg i1n0]
    exact m_fault (gp_isV_K hk) hk (by omega) (fun ν a b => ⟨rfl, C, a⟩)
  · unfold w_X7_fault
    rw [if_neg (show ¬ x1 = 0 from nr_ne (by omega) hx (j := 0) (by omega)), if_neg (show ¬ x1 = 1 from nr_ne (by omega) hx (j := 1) (by omega)), if_neg (show ¬ x1 = 2 from nr_ne (by omega) hx (j := 2) (by omega))]
    unfold w_X8_fault
    refine m_isText_n hx ?_
    rw [if_pos rfl]
    exact ⟨rfl, C, hk⟩
/-- car, coming, speed -/
def v_car (C : gp_C) (k w : Nat) : Int32 := if w = 0 then nI (c_pl C k) else if w = 1 then nI (c_so C k) else nI (c_ro C k)
def v_com (C : gp_C) (i w : Nat) : Int32 := if i < c_nm C then (if w = 0 then nI (d_ca (c_D C) i) else if w = 1 then nI (d_ct (c_D C) i) else nI (d_cm (c_D C) i)) else -1
theorem s_part {r a b c k w : Nat} (hk : k < 12) (hw : w < 3) (h3 : gk_rf r 3 = a) (h4 : gk_rf r 4 = b) (h5 : gk_rf r 5 = c) (l3 : gk_ln a = 12) (l4 : gk_ln b = 12) (l5 : gk_ln c = 12) {μ : gk_St} {Q : Int32 → gk_St → Prop} (h : Q (if w = 0 then μ a k else if w = 1 then μ b k else μ c k) μ) : w_X6_part r (nI k) (nI w) μ Q := by
  unfold w_X6_part
  rw [h3, h4, h5, kc (k := k) (by omega)]
  refine gp_c3 hw (fun z => ?_) (fun z => ?_) (fun z => ?_)
  · subst z
    exact ⟨vi hk l3 (by omega), h⟩
  · subst z
    exact ⟨vi hk l4 (by omega), h⟩
  · subst z
    exact ⟨vi hk l5 (by omega), h⟩
theorem c_carq {C : gp_C} {μ : gk_St} (hK : gp_K C μ) {k w : Nat} (hk : k < c_nc C) (hw : w < 3) {Q : Int32 → gk_St → Prop} (h : Q (v_car C k w) μ) : w_X7_car 0 (nI k) (nI w) μ Q := by
  have hn := c_nc6 (C := C)
  unfold w_X7_car
  refine s_car_y hK.2.1.1 hk ?_
  rw [if_neg i1n0]
  refine s_wi (m := 2) (by omega) (by omega) ?_
  rw [if_neg i1n0, rf_0_3]
  refine s_part (by omega) hw rf_7_3 rf_7_4 rf_7_5 ln_8 ln_9 ln_10 ?_
  obtain ⟨q1, q2, q3⟩ := hK.2.1.1.2.1.2.2.2.2 k hk
  rw [q1, q2, q3]
  exact h
theorem m_carq {C : gp_C} {μ : gk_St} (hr : gp_rd (c_tn C) (c_tb C) μ) {k w : Nat} (hk : k < c_nc C) (hw : w < 3) {Q : Int32 → gk_St → Prop} (h : Q (v_car C k w) μ) : w_X8_carOf 101 (nI k) (nI w) μ Q := by
  have hn := c_nc6 (C := C)
  unfold w_X8_carOf
  obtain ⟨q1, q2, q3⟩ := hr.2.1 k hk
  rw [rf_101_3, rf_101_4, rf_101_5, kc (k := k) (by omega), q1, q2, q3]
  refine gp_c3 hw (fun z => ?_) (fun z => ?_) (fun z => ?_)
  · subst z
    exact ⟨vi (n := 7) (by omega) ln_104 (by omega), h⟩
  · subst z
    exact ⟨vi (n := 7) (by omega) ln_105 (by omega), h⟩
  · subst z
    exact ⟨vi (n := 7) (by omega) ln_106 (by omega), h⟩
theorem c_comq {C : gp_C} {μ : gk_St} (hK : gp_K C μ) {i w : Nat} (hi : i < 12) (hw : w < 3) {Q : Int32 → gk_St → Prop} (h : Q (v_com C i w) μ) : w_X7_coming 0 (nI i) (nI w) μ Q := by
  have hn := c_nm12 (C := C)
  unfold w_X7_coming
  refine s_wi (m := 11) (by omega) (by omega) ?_
  rw [if_neg i1n0]
  refine s_wi (m := 2) (by omega) (by omega) ?_
  rw [if_neg i1n0, rf_0_4, show μ 11 6 = nI (c_nm C) from hK.2.1.1.2.2.1.2.2.1]
  unfold v_com at h
  by_cases c : i < c_nm C
  · rw [if_neg (fun q => absurd ((nI_leI (by omega) (by omega)).mp q) (by omega))]
    rw [if_pos c] at h
    refine s_part (by omega) hw rf_11_3 rf_11_4 rf_11_5 ln_12 ln_13 ln_14 ?_
    obtain ⟨q1, q2, q3⟩ := hK.2.1.1.2.2.1.2.2.2.2 i c
    rw [q1, q2, q3]
    exact h
  · rw [if_pos ((nI_leI (by omega) (by omega)).mpr (by omega))]
    rw [if_neg c] at h
    exact h
theorem m_comq {C : gp_C} {μ : gk_St} (hK : gp_K C μ) {i w : Nat} (hi : i < 12) (hw : w < 3) {Q : Int32 → gk_St → Prop} (h : ∀ ν, gp_K C ν → gp_rd (c_tn C) (c_tb C) ν → Q (v_com C i w) ν) : w_X8_comingOf 101 (nI i) (nI w) μ Q := by
  have hn := c_nm12 (C := C)
  unfold w_X8_comingOf
  refine s_readsC hK (fun ν a b => ?_)
  have h' := h ν a b
  rw [show ν 101 6 = nI (c_nm C) from b.2.2.1, rf_101_7, rf_101_8, rf_101_9, kc (k := i) (by omega)]
  unfold v_com at h'
  by_cases c : i < c_nm C
  · rw [if_pos ((nI_ltI (by omega) (by omega)).mpr c)]
    rw [if_pos c] at h'
    obtain ⟨q1, q2, q3⟩ := b.2.2.2.1 i c
    rw [q1, q2, q3]
    refine gp_c3 hw (fun z => ?_) (fun z => ?_) (fun z => ?_)
    · subst z
      exact ⟨vi (n := 13) (by omega) ln_107 (by omega), h'⟩
    · subst z
      exact ⟨vi (n := 13) (by omega) ln_108 (by omega), h'⟩
    · subst z
      exact ⟨vi (n := 13) (by omega) ln_109 (by omega), h'⟩
  · rw [if_neg (fun q => absurd ((nI_ltI (by omega) (by omega)).mp q) (by omega))]
    rw [if_neg c] at h'
    exact h'
theorem c_spq {C : gp_C} {μ : gk_St} (hK : gp_K C μ) {t : Nat} (ht : t < 24) {Q : Int32 → gk_St → Prop} (h : Q (nI (c_pc C t)) μ) : w_X7_speed 0 (nI t) μ Q := by
  unfold w_X7_speed
  refine s_mom_y ht ?_
  rw [if_neg i1n0]
  exact s_toldSpeed hK.1 hK.2.1.1 (by omega) h
theorem m_spq {C : gp_C} {μ : gk_St} (hK : gp_K C μ) {t : Nat} (ht : t < 24) {Q : Int32 → gk_St → Prop} (h : ∀ ν, gp_K C ν → gp_rd (c_tn C) (c_tb C) ν → Q (nI (c_pc C t)) ν) : w_X8_speedOf 101 (nI t) μ Q := by
  unfold w_X8_speedOf
  refine s_readsC hK (fun ν a b => ?_)
  rw [rf_101_11, kc (k := t) (by omega), b.2.2.2.2.2 t ht]
  exact ⟨vi (n := 24) (by omega) ln_110 (by omega), h ν a b⟩
/-- count -/
def v_cnt (C : gp_C) (w : Nat) : Int32 := if w = 0 then nI (c_nc C) else if w = 1 then nI (c_nm C) else if w = 2 then (if gp_sk (c_tn C 2) (c_tb C 2) = true then nI (c_tn C 2) else 0) else if w = 3 then nI (c_tn C 0) else if w = 4 then nI (c_tn C 1) else if w = 5 then nI (c_tn C 2) else if w = 6 then nI (c_ne C) else if w = 7 then nI (c_ns C) else c_fi C
theorem c_cnt {C : gp_C} {μ : gk_St} (hK : gp_K C μ) {w : Nat} (hw : w < 9) {Q : Int32 → gk_St → Prop} (h : Q (v_cnt C w) μ) : w_X7_count 0 (nI w) μ Q := by
  have h24 : c_tn C 2 ≤ 24 := (hK.1.1 2 (by omega)).1
  have e0 : μ 7 6 = nI (c_nc C) := hK.2.1.1.2.1.2.2.1
  have e1 : μ 11 6 = nI (c_nm C) := hK.2.1.1.2.2.1.2.2.1
  have e3 : μ 1 2 = nI (c_tn C 0) := (hK.2.1.1.1 0 (by omega)).2.1
  have e4 : μ 3 2 = nI (c_tn C 1) := (hK.2.1.1.1 1 (by omega)).2.1
  have e5 : μ 5 2 = nI (c_tn C 2) := (hK.2.1.1.1 2 (by omega)).2.1
  have e6 : μ 15 3 = nI (c_ne C) := hK.2.1.2.1.1
  have e7 : μ 19 3 = nI (c_ns C) := hK.2.1.2.2.1.1
  have e8 : μ 0 17 = c_fi C := hK.2.1.2.2.2.2.1
  have hs := gp_isS_sk (by omega) hK.2.1.1.2.2.2
  unfold w_X7_count
  rw [rf_0_0, rf_0_1, rf_0_2, rf_0_3, rf_0_4, rf_0_5, rf_0_6, e0, e1, e3, e4, e5, e6, e7, e8]
  rcases (show w = 0 ∨ w = 1 ∨ w = 2 ∨ w = 3 ∨ w = 4 ∨ w = 5 ∨ w = 6 ∨ w = 7 ∨ w = 8 by omega) with z | z | z | z | z | z | z | z | z <;> subst z
  · rw [if_pos (by decide)]
    exact h
  · rw [if_neg (by decide), if_pos (by decide)]
    exact h
  · rw [if_neg (by decide), if_neg (by decide), if_pos (by decide)]
    have hv : v_cnt C 2 = if gp_sk (c_tn C 2) (c_tb C 2) = true then nI (c_tn C 2) else 0 := rfl
    rw [hv] at h
    by_cases c : μ 0 15 = -1
    · rw [if_pos c]
      rw [if_pos (hs.mp c)] at h
      exact h
    · rw [if_neg c]
      rw [if_neg (fun q => c (hs.mpr q))] at h
      exact h
  · rw [if_neg (by decide), if_neg (by decide), if_neg (by decide), if_pos (by decide)]
    exact h
  · rw [if_neg (by decide), if_neg (by decide), if_neg (by decide), if_neg (by decide), if_pos (by decide)]
    exact h
  · rw [if_neg (by decide), if_neg (by decide), if_neg (by decide), if_neg (by decide), if_neg (by decide), if_pos (by decide)]
    exact h
  · rw [if_neg (by decide), if_neg (by decide), if_neg (by decide), if_neg (by decide), if_neg (by decide), if_neg (by decide), if_pos (by decide)]
    exact h
  · rw [if_neg (by decide), if_neg (by decide), if_neg (by decide), if_neg (by decide), if_neg (by decide), if_neg (by decide), if_neg (by decide), if_pos (by decide)]
    exact h
  · rw [if_neg (by decide), if_neg (by decide), if_neg (by decide), if_neg (by decide), if_neg (by decide), if_neg (by decide), if_neg (by decide), if_neg (by decide), if_pos (by decide)]
    exact h
theorem m_tell {C : gp_C} {μ : gk_St} (hK : gp_K C μ) {w : Nat} (hw : w < 3) {Q : Int32 → gk_St → Prop} (h : ∀ ν, gp_K C ν → Q (v_cnt C w) ν) : w_X8_tellOf 101 (nI w) μ Q := by
  unfold w_X8_tellOf
  refine s_readsC hK (fun ν a b => ?_)
  rw [b.1, b.2.2.1, b.2.2.2.2.1]
  refine gp_c3 hw (fun z => ?_) (fun z => ?_) (fun z => ?_) <;> subst z <;> exact h ν a
theorem m_cnt {C : gp_C} {μ : gk_St} (hK : gp_K C μ) {w : Nat} (hw : w < 9) {Q : Int32 → gk_St → Prop} (h : ∀ ν, gp_K C ν → Q (v_cnt C w) ν) : w_X8_count 101 (nI w) μ Q := by
  have e3 : μ 102 0 = nI (c_tn C 0) := (hK.2.2.1 0 (by omega)).1
  have e4 : μ 102 1 = nI (c_tn C 1) := (hK.2.2.1 1 (by omega)).1
  have e5 : μ 102 2 = nI (c_tn C 2) := (hK.2.2.1 2 (by omega)).1
  have e6 : μ 101 12 = nI (c_ne C) := hK.2.2.2.1.1
  have e7 : μ 101 37 = nI (c_ns C) := hK.2.2.2.2.1.1
  have e8 : μ 101 47 = c_fi C := hK.2.2.2.2.2.2
  have hh := h μ hK
  unfold w_X8_count
  rw [rf_101_0, e6, e7, e8]
  rcases (show w = 0 ∨ w = 1 ∨ w = 2 ∨ w = 3 ∨ w = 4 ∨ w = 5 ∨ w = 6 ∨ w = 7 ∨ w = 8 by omega) with z | z | z | z | z | z | z | z | z <;> subst z
  · rw [if_pos (by decide)]
    exact m_tell hK (by omega) h
  · rw [if_neg (by decide), if_pos (by decide)]
    exact m_tell hK (by omega) h
  · rw [if_neg (by decide), if_neg (by decide), if_pos (by decide)]
    exact m_tell hK (by omega) h
  · rw [if_neg (by decide), if_neg (by decide), if_neg (by decide), if_pos (by decide), show nI 3 - 3 = nI 0 by decide, kc (by omega), e3]
    exact ⟨vi (n := 3) (by omega) ln_102 (by omega), hh⟩
  · rw [if_neg (by decide), if_neg (by decide), if_neg (by decide), if_neg (by decide), if_pos (by decide), show nI 4 - 3 = nI 1 by decide, kc (by omega), e4]
    exact ⟨vi (n := 3) (by omega) ln_102 (by omega), hh⟩
  · rw [if_neg (by decide), if_neg (by decide), if_neg (by decide), if_neg (by decide), if_neg (by decide), if_pos (by decide), show nI 5 - 3 = nI 2 by decide, kc (by omega), e5]
    exact ⟨vi (n := 3) (by omega) ln_102 (by omega), hh⟩
  · rw [if_neg (by decide), if_neg (by decide), if_neg (by decide), if_neg (by decide), if_neg (by decide), if_neg (by decide), if_pos (by decide)]
    exact hh
  · rw [if_neg (by decide), if_neg (by decide), if_neg (by decide), if_neg (by decide), if_neg (by decide), if_neg (by decide), if_neg (by decide), if_pos (by decide)]
    exact hh
  · rw [if_neg (by decide), if_neg (by decide), if_neg (by decide), if_neg (by decide), if_neg (by decide), if_neg (by decide), if_neg (by decide), if_neg (by decide), if_pos (by decide)]
    exact hh
theorem k_ok_count : ok_count gp_Inv := by
  intro μ x1 ⟨C, hk⟩
  rcases rg x1 8 (by omega) with ⟨x, hx, rfl⟩ | hx
  · refine c_cnt hk (by omega) ?_
    exact m_cnt hk (by omega) (fun ν a => ⟨rfl, C, a⟩)
  · have n0 : ¬ x1 = 0 := nr_ne (by omega) hx (j := 0) (by omega)
    have n1 : ¬ x1 = 1 := nr_ne (by omega) hx (j := 1) (by omega)
    have n2 : ¬ x1 = 2 := nr_ne (by omega) hx (j := 2) (by omega)
    have n3 : ¬ x1 = 3 := nr_ne (by omega) hx (j := 3) (by omega)
    have n4 : ¬ x1 = 4 := nr_ne (by omega) hx (j := 4) (by omega)
    have n5 : ¬ x1 = 5 := nr_ne (by omega) hx (j := 5) (by omega)
    have n6 : ¬ x1 = 6 := nr_ne (by omega) hx (j := 6) (by omega)
    have n7 : ¬ x1 = 7 := nr_ne (by omega) hx (j := 7) (by omega)
    have n8 : ¬ x1 = 8 := nr_ne (by omega) hx (j := 8) (by omega)
    unfold w_X7_count
    rw [if_neg n0, if_neg n1, if_neg n2, if_neg n3, if_neg n4, if_neg n5, if_neg n6, if_neg n7, if_neg n8]
    dsimp only
    unfold w_X8_count
    rw [if_neg n0, if_neg n1, if_neg n2, if_neg n3, if_neg n4, if_neg n5, if_neg n6, if_neg n7, if_neg n8]
    exact ⟨rfl, C, hk⟩
set_option maxHeartbeats 4000000 in
theorem k_ok_car : ok_car gp_Inv := by
  intro μ x1 x2 ⟨C, hK⟩
  rcases rgc x1 (c_nc C) (Nat.lt_of_le_of_lt c_nc6 (by omega)) with ⟨a0, h0, rfl⟩ | b0
  · rcases rg x2 2 (by omega) with ⟨a1, h1, rfl⟩ | b1
    · refine c_carq hK h0 (by omega) ?_
      unfold w_X8_car
      refine m_car_y hK h0 (fun ν hK hR => ?_)
      rw [if_neg i1n0]
      refine m_three_y (by omega) ?_
      rw [if_neg i1n0]
      exact m_carq hR h0 (by omega) ⟨rfl, C, hK⟩
    · unfold w_X7_car
      refine s_car_y hK.2.1.1 h0 ?_
      rw [if_neg i1n0]
      refine s_w_n b1 ?_
      rw [if_pos rfl]
      unfold w_X8_car
      refine m_car_y hK h0 (fun ν hK hR => ?_)
      rw [if_neg i1n0]
      refine m_three_n b1 ?_
      rw [if_pos rfl]
      exact ⟨rfl, C, hK⟩
  · unfold w_X7_car
    refine s_car_n hK.2.1.1 b0 ?_
    rw [if_pos rfl]
    unfold w_X8_car
    refine m_car_n hK b0 (fun ν hK hR => ?_)
    rw [if_pos rfl]
    exact ⟨rfl, C, hK⟩
set_option maxHeartbeats 4000000 in
theorem k_ok_coming : ok_coming gp_Inv := by
  intro μ x1 x2 ⟨C, hK⟩
  rcases rg x1 11 (by omega) with ⟨a0, h0, rfl⟩ | b0
  · rcases rg x2 2 (by omega) with ⟨a1, h1, rfl⟩ | b1
    · refine c_comq hK (by omega) (by omega) ?_
      unfold w_X8_coming
      refine s_ii (m := 11) (by omega) h0 ?_
      rw [if_neg i1n0]
      refine m_three_y (by omega) ?_
      rw [if_neg i1n0]
      exact m_comq hK (by omega) (by omega) (fun ν hK hR => ⟨rfl, C, hK⟩)
    · unfold w_X7_coming
      refine s_wi (m := 11) (by omega) h0 ?_
      rw [if_neg i1n0]
      refine s_w_n b1 ?_
      rw [if_pos rfl]
      unfold w_X8_coming
      refine s_ii (m := 11) (by omega) h0 ?_
      rw [if_neg i1n0]
      refine m_three_n b1 ?_
      rw [if_pos rfl]
      exact ⟨rfl, C, hK⟩
  · unfold w_X7_coming
    refine s_w_n b0 ?_
    rw [if_pos rfl]
    unfold w_X8_coming
    refine s_in_n b0 ?_
    rw [if_pos rfl]
    exact ⟨rfl, C, hK⟩
set_option maxHeartbeats 4000000 in
theorem k_ok_speed : ok_speed gp_Inv := by
  intro μ x1 ⟨C, hK⟩
  rcases rg x1 23 (by omega) with ⟨a0, h0, rfl⟩ | b0
  · refine c_spq hK (by omega) ?_
    unfold w_X8_speed
    refine m_mom_y (by omega) ?_
    rw [if_neg i1n0]
    exact m_spq hK (by omega) (fun ν hK hR => ⟨rfl, C, hK⟩)
  · unfold w_X7_speed
    refine s_mom_n b0 ?_
    rw [if_pos rfl]
    unfold w_X8_speed
    refine m_mom_n b0 ?_
    rw [if_pos rfl]
    exact ⟨rfl, C, hK⟩
