/-! was -/
def c_Pr (C : gp_C) (k v : Nat) : gp_P := gp_mk (c_nc C) (c_pl C) (c_so C) (gp_u (c_ro C) k v) (c_D C) (c_pc C) (fun _ => true)
theorem c_Pr_wf {C : gp_C} (hC : gp_cw C) {k v : Nat} (hv : v ≤ 9) : gp_wf (c_Pr C k v) := gp_wf_mk (c_dw hC) c_nc6 (fun j hj => by
  refine ⟨(c_car hj).1, (c_car hj).2.1, ?_⟩
  by_cases e : j = k
  · rw [e, gp_us]
    exact hv
  · rw [gp_un e]
    exact (c_car hj).2.2) (fun x _ => c_pc3)
def c_Ps (C : gp_C) (k v : Nat) : gp_P := gp_mk (c_nc C) (c_pl C) (gp_u (c_so C) k v) (c_ro C) (c_D C) (c_pc C) (fun _ => true)
theorem c_Ps_wf {C : gp_C} (hC : gp_cw C) {k v : Nat} (hv : v < 3) : gp_wf (c_Ps C k v) := gp_wf_mk (c_dw hC) c_nc6 (fun j hj => by
  refine ⟨(c_car hj).1, ?_, (c_car hj).2.2⟩
  by_cases e : j = k
  · rw [e, gp_us]
    exact hv
  · rw [gp_un e]
    exact (c_car hj).2.1) (fun x _ => c_pc3)
def gp_rb (C : gp_C) (k v : Nat) : Bool := decide (0 < v) && gp_sn C (c_Pr C k v)
def gp_sb (C : gp_C) (k v : Nat) : Bool := gp_sn C (c_Ps C k v)
theorem gp_rb_1 {C : gp_C} {k v : Nat} (h : 0 < v) : gp_rb C k v = gp_sn C (c_Pr C k v) := by
  unfold gp_rb
  rw [decide_eq_true h, Bool.true_and]
theorem gp_bt_s {f : Nat → Bool} {v : Nat} : gp_bt f (v + 1) = if f v = true then gp_bt f v ||| ((1 : Int32) <<< (nI v &&& 31)) else gp_bt f v := rfl
theorem gp_rb_0 {C : gp_C} {k : Nat} : gp_bt (gp_rb C k) 1 = 0 := rfl
def v_was (C : gp_C) (k w : Nat) : Int32 := if w = 0 then gp_bt (gp_rb C k) 10 else gp_bt (gp_sb C k) 3
set_option maxHeartbeats 4000000 in
theorem c_roL {C : gp_C} {k : Nat} (hk : k < c_nc C) {Q : Int32 → gk_St → Prop} {K : Int32 → gk_St → Prop} : ∀ (i j : Nat) (μ : gk_St), j + i = 10 → 0 < j → gp_K C μ → (∃ q, gp_pla (c_Pr C k q) μ) → (∀ ν, gp_K C ν → K (gp_bt (gp_rb C k) 10) ν) → w_X7_likelyRooms_l8 Q K 0 (i + 1) (nI k) (gp_bt (gp_rb C k) j) (nI j) μ := by
  have hn6 := c_nc6 (C := C)
  intro i
  induction i with
  | zero =>
    intro j μ hj h0 hK hp h
    have e : j = 10 := by omega
    subst e
    unfold w_X7_likelyRooms_l8
    rw [if_pos (show (9 : Int32) < nI 10 by decide)]
    exact h μ hK
  | succ i ih =>
    intro j μ hj h0 hK ⟨q, hp⟩ h
    have ihj := ih (j + 1)
    rw [gp_bt_s (v := j), gp_rb_1 h0] at ihj
    unfold w_X7_likelyRooms_l8
    rw [if_neg (show ¬ (9 : Int32) < nI j from fun q => absurd ((nI_ltI (a := 9) (by omega) (by omega)).mp q) (by omega)), rf_0_11, rf_31_3, kc (k := k) (by omega)]
    refine ⟨vi (n := 6) (by omega) ln_34 (by omega), ?_⟩
    intro m2 e2
    have hp2 : gp_pla (c_Pr C k j) m2 := by
      have := up_ro hp e2
      rw [gp_u_u] at this
      exact this
    have hK2 : gp_K C m2 := gp_K_fC (fun c a => by rw [e2, gk_up_n (by omega)]) hK
    refine s_seen hK2 (c_Pr_wf hK.1 (by omega)) hp2 (fun ξ a2 b2 c2 d2 => ?_)
    cases g : gp_sn C (c_Pr C k j) with
    | false =>
      rw [g, if_neg (by decide)] at ihj
      rw [if_pos (show gp_bi false = 0 from rfl)]
      intro v e
      rw [e, nI_1]
      exact ihj ξ (by omega) (by omega) a2 ⟨j, b2⟩ h
    | true =>
      rw [g, if_pos rfl] at ihj
      rw [if_neg (show ¬ gp_bi true = 0 by decide)]
      intro v6 e6 v7 e7
      rw [e7, nI_1, e6]
      exact ihj ξ (by omega) (by omega) a2 ⟨j, b2⟩ h
set_option maxHeartbeats 4000000 in
theorem c_soL {C : gp_C} {k : Nat} (hk : k < c_nc C) {Q : Int32 → gk_St → Prop} {K : Int32 → gk_St → Prop} : ∀ (i j : Nat) (μ : gk_St), j + i = 3 → gp_K C μ → (∃ q, gp_pla (c_Ps C k q) μ) → (∀ ν, gp_K C ν → K (gp_bt (gp_sb C k) 3) ν) → w_X7_likelySorts_l8 Q K 0 (i + 1) (nI k) (gp_bt (gp_sb C k) j) (nI j) μ := by
  have hn6 := c_nc6 (C := C)
  intro i
  induction i with
  | zero =>
    intro j μ hj hK hp h
    have e : j = 3 := by omega
    subst e
    unfold w_X7_likelySorts_l8
    rw [if_pos (show (2 : Int32) < nI 3 by decide)]
    exact h μ hK
  | succ i ih =>
    intro j μ hj hK ⟨q, hp⟩ h
    have ihj := ih (j + 1)
    rw [gp_bt_s (v := j)] at ihj
    unfold w_X7_likelySorts_l8
    rw [if_neg (show ¬ (2 : Int32) < nI j from fun q => absurd ((nI_ltI (a := 2) (by omega) (by omega)).mp q) (by omega)), rf_0_11, rf_31_2, kc (k := k) (by omega)]
    refine ⟨vi (n := 6) (by omega) ln_33 (by omega), ?_⟩
    intro m2 e2
    have hp2 : gp_pla (c_Ps C k j) m2 := by
      have := up_so hp e2
      rw [gp_u_u] at this
      exact this
    have hK2 : gp_K C m2 := gp_K_fC (fun c a => by rw [e2, gk_up_n (by omega)]) hK
    refine s_seen hK2 (c_Ps_wf hK.1 (by omega)) hp2 (fun ξ a2 b2 c2 d2 => ?_)
    have hg : gp_sb C k j = gp_sn C (c_Ps C k j) := rfl
    rw [hg] at ihj
    cases g : gp_sn C (c_Ps C k j) with
    | false =>
      rw [g, if_neg (by decide)] at ihj
      rw [if_pos (show gp_bi false = 0 from rfl)]
      intro v e
      rw [e, nI_1]
      exact ihj ξ (by omega) a2 ⟨j, b2⟩ h
    | true =>
      rw [g, if_pos rfl] at ihj
      rw [if_neg (show ¬ gp_bi true = 0 by decide)]
      intro v6 e6 v7 e7
      rw [e7, nI_1, e6]
      exact ihj ξ (by omega) a2 ⟨j, b2⟩ h
theorem c_was {C : gp_C} {μ : gk_St} (hK : gp_K C μ) {k w : Nat} (hk : k < c_nc C) (hw : w < 2) {Q : Int32 → gk_St → Prop} (h : ∀ ν, gp_K C ν → Q (v_was C k w) ν) : w_X7_was 0 (nI k) (nI w) μ Q := by
  unfold w_X7_was
  refine s_car_y hK.2.1.1 hk ?_
  rw [if_neg i1n0]
  refine s_wi (m := 1) (by omega) (by omega) ?_
  rw [if_neg i1n0]
  refine gp_c2 hw (fun z => ?_) (fun z => ?_)
  · subst z
    unfold w_X7_likelyRooms
    refine s_plan hK (fun ν a b c d => ?_)
    have e0 : v_was C k 0 = gp_bt (gp_rb C k) 10 := if_pos rfl
    rw [e0] at h
    refine ⟨9 + 1, ?_⟩
    have e1 : gp_pla (c_Pr C k (c_ro C k)) ν := by
      unfold c_Pr
      rw [gp_u_id rfl]
      exact b
    have L := c_roL hk (Q := Q) (K := fun y8 m9 => Q y8 m9) 9 1 ν (by omega) (by omega) a ⟨c_ro C k, e1⟩ h
    rw [gp_rb_0] at L
    exact L
  · subst z
    unfold w_X7_likelySorts
    refine s_plan hK (fun ν a b c d => ?_)
    have e0 : v_was C k 1 = gp_bt (gp_sb C k) 3 := if_neg (by omega)
    rw [e0] at h
    refine ⟨3 + 1, ?_⟩
    have e1 : gp_pla (c_Ps C k (c_so C k)) ν := by
      unfold c_Ps
      rw [gp_u_id rfl]
      exact b
    have L := c_soL hk (Q := Q) (K := fun y8 m9 => Q y8 m9) 3 0 ν (by omega) a ⟨c_so C k, e1⟩ h
    have e2 : gp_bt (gp_sb C k) 0 = 0 := rfl
    rw [e2, nI_0] at L
    exact L
/-- who waits at moment t, room v -/
def gp_w0 (C : gp_C) (k v t : Nat) : Nat := a_wt (gp_s (c_Pr C k v) (t + 1)) 0
def gp_w1 (C : gp_C) (k v t : Nat) : Nat := a_wt (gp_s (c_Pr C k v) (t + 1)) 1
theorem e128 (a : Nat) : (128 : Int32) * nI a = nI (128 * a) := pk_mul 128 a
theorem e24 (a : Nat) : (24 : Int32) * nI a = nI (24 * a) := pk_mul 24 a
set_option maxHeartbeats 4000000 in
theorem m_r52 {P : gp_P} (hw : gp_wf P) {v : Nat} (hv : v < 10) {x1 x2 x3 : Int32} {Q : Int32 → gk_St → Prop} {K : Int32 → Int32 → Int32 → Int32 → gk_St → Prop} : ∀ (i j : Nat) (μ : gk_St), j + i = 24 → gp_mrec P 24 μ → (∀ t, t < j → μ 129 (24 * v + t) = nI (128 * a_wt (gp_s P (t + 1)) 0 + a_wt (gp_s P (t + 1)) 1)) → (∀ ν, (∀ t, t < 24 → ν 129 (24 * v + t) = nI (128 * a_wt (gp_s P (t + 1)) 0 + a_wt (gp_s P (t + 1)) 1)) → (∀ c, c ≠ 129 → ν c = μ c) → (∀ x, (x < 24 * v ∨ 24 * v + 24 ≤ x) → ν 129 x = μ 129 x) → K x1 x2 x3 (nI v) ν) → w_X8_roomsBy_l52 Q K 101 (i + 1) x1 x2 x3 (nI v) (nI j) μ := by
  intro i
  induction i with
  | zero =>
    intro j μ hj hr hs h
    have e : j = 24 := by omega
    subst e
    unfold w_X8_roomsBy_l52
    rw [if_pos (show (24 : Int32) ≤ nI 24 by decide)]
    exact h μ hs (fun _ _ => rfl) (fun _ _ => rfl)
  | succ i ih =>
    intro j μ hj hr hs h
    obtain ⟨q1, q2, q3, q4, q5⟩ := hr j (by omega)
    unfold w_X8_roomsBy_l52
    rw [if_neg (show ¬ (24 : Int32) ≤ nI j from fun q => absurd ((nI_leI (a := 24) (by omega) (by omega)).mp q) (by omega)), e2c, nI_1, e24, nI_add, rf_101_31, rf_101_41, kc (k := 2 * j) (by omega), kc (k := 2 * j + 1) (by omega), kc (k := 24 * v + j) (by omega), q1, q2, e128, nI_add]
    refine ⟨vi (n := 48) (by omega) ln_120 (by omega), vi (n := 48) (by omega) ln_120 (by omega), vi (n := 240) (by omega) ln_129 (by omega), ?_⟩
    intro m7 e7 v8 e8
    rw [e8, nI_1]
    have f1 : ∀ c, c ≠ 129 → m7 c = μ c := fun c a => by rw [e7, gk_up_n a]
    have g1 : m7 129 = upd (μ 129) (24 * v + j) (nI (128 * a_wt (gp_s P (j + 1)) 0 + a_wt (gp_s P (j + 1)) 1)) := by rw [e7, gk_up_s]
    refine ih (j + 1) m7 (by omega) (gp_mrec_f (fun c a b => f1 c (by omega)) hr) (fun t ht => ?_) (fun ν r1 r2 r3 => h ν r1 (fun c a => (r2 c a).trans (f1 c a)) (fun x hx => (r3 x hx).trans (by rw [g1, upd_n (by omega)])))
    rw [g1]
    by_cases e : t = j
    · subst e
      rw [upd_s]
    · rw [upd_n (by omega)]
      exact hs t (by omega)
set_option maxHeartbeats 4000000 in
theorem m_roL {C : gp_C} {k : Nat} (hk : k < c_nc C) {x2 : Int32} {Q : Int32 → gk_St → Prop} {K : Int32 → Int32 → Int32 → gk_St → Prop} : ∀ (i j : Nat) (μ : gk_St), j + i = 10 → 0 < j → gp_K C μ → (∃ q, gp_mc (c_nc C) (c_pl C) (c_so C) (gp_u (c_ro C) k q) (c_D C) (c_pc C) (fun _ => true) μ) → (∀ u, 0 < u → u < j → ∀ t, t < 24 → μ 129 (24 * u + t) = nI (128 * gp_w0 C k u t + gp_w1 C k u t)) → (∀ ν, gp_f6 106 k μ ν → (∀ u, 0 < u → u < 10 → ∀ t, t < 24 → ν 129 (24 * u + t) = nI (128 * gp_w0 C k u t + gp_w1 C k u t)) → K (nI k) x2 (gp_bt (gp_rb C k) 10) ν) → w_X8_roomsBy_l16 Q K 101 (i + 1) (nI k) x2 (gp_bt (gp_rb C k) j) (nI j) μ := by
  have hn6 := c_nc6 (C := C)
  intro i
  induction i with
  | zero =>
    intro j μ hj h0 hK hp hs h
    have e : j = 10 := by omega
    subst e
    unfold w_X8_roomsBy_l16
    rw [if_pos (show (10 : Int32) ≤ nI 10 by decide)]
    exact h μ gp_f6_rf hs
  | succ i ih =>
    intro j μ hj h0 hK ⟨q, hp⟩ hs h
    have ihj := ih (j + 1)
    rw [gp_bt_s (v := j), gp_rb_1 h0] at ihj
    unfold w_X8_roomsBy_l16
    rw [if_neg (show ¬ (10 : Int32) ≤ nI j from fun q => absurd ((nI_leI (a := 10) (by omega) (by omega)).mp q) (by omega)), rf_101_5, kc (k := k) (by omega)]
    refine ⟨vi (n := 7) (by omega) ln_106 (by omega), ?_⟩
    intro m3 e3
    have hp3 := mu_ro hp e3
    rw [gp_u_u] at hp3
    have F3 : gp_f6 106 k μ m3 := by rw [e3]; exact gp_f6_up (Or.inr (Or.inr rfl))
    have hK3 := gp_f6_K (Or.inr (Or.inr rfl)) F3 hK
    refine m_seen hK3 (c_Pr_wf hK.1 (by omega)) hp3 (fun ν a b c => ?_)
    have F4 := gp_f6_tr F3 (gp_f5_f6 (Or.inr (Or.inr rfl)) (gp_f3_f5 c))
    have h129 : ν 129 = μ 129 := by rw [c.1 129 (by omega) (by omega), e3, gk_up_n (by omega)]
    have fin : ∀ bb : Int32, (∀ ξ, gp_f6 106 k μ ξ → gp_mc (c_nc C) (c_pl C) (c_so C) (gp_u (c_ro C) k j) (c_D C) (c_pc C) (fun _ => true) ξ → (∀ u, 0 < u → u < j + 1 → ∀ t, t < 24 → ξ 129 (24 * u + t) = nI (128 * gp_w0 C k u t + gp_w1 C k u t)) → w_X8_roomsBy_l16 Q K 101 (i + 1) (nI k) x2 bb (nI (j + 1)) ξ) → (∃ n52 : Nat, w_X8_roomsBy_l52 Q (fun y9 y10 y11 y12 m13 => (∀ v14 : Int32, v14 = y12 + 1 → w_X8_roomsBy_l16 Q K 101 (i + 1) y9 y10 y11 v14 m13)) 101 n52 (nI k) x2 bb (nI j) 0 ν) := by
      intro bb hbb
      refine ⟨25, ?_⟩
      refine m_r52 (c_Pr_wf hK.1 (k := k) (v := j) (by omega)) (v := j) (by omega) 24 0 ν (by omega) a.2.2 (fun t ht => absurd ht (Nat.not_lt_zero t)) (fun ξ r1 r2 r3 => ?_)
      intro v e
      rw [e, nI_1]
      have F5 : gp_f6 106 k μ ξ := gp_f6_tr F4 ⟨fun c p q r s t u => r2 c t, fun j p q => by rw [r2 101 (by omega)], fun j p => by rw [r2 106 (by omega)]⟩
      refine hbb ξ F5 ?_ (fun u u1 u2 t ht => ?_)
      · unfold gp_mc
        rw [r2 101 (by omega), r2 104 (by omega), r2 105 (by omega), r2 106 (by omega), r2 107 (by omega), r2 108 (by omega), r2 109 (by omega), r2 111 (by omega), r2 112 (by omega), r2 113 (by omega), r2 114 (by omega)]
        exact b
      · by_cases z : u = j
        · rw [z]
          exact r1 t ht
        · rw [r3 (24 * u + t) (by omega), h129]
          exact hs u u1 (by omega) t ht
    unfold w_X8_roomsBy_j47
    cases g : gp_sn C (c_Pr C k j) with
    | false =>
      rw [g, if_neg (by decide)] at ihj
      have e1 : gp_bi (gp_sn C (gp_mk (c_nc C) (c_pl C) (c_so C) (gp_u (c_ro C) k j) (c_D C) (c_pc C) (fun _ => true))) = 0 := nI_b.mpr g
      rw [if_pos e1]
      intro v6 e6
      rw [e6, Int32.or_zero]
      exact fin _ (fun ξ F5 b5 s5 => ihj ξ (by omega) (by omega) (gp_f6_K (Or.inr (Or.inr rfl)) F5 hK) ⟨j, b5⟩ s5 (fun θ F6 s6 => h θ (gp_f6_tr F5 F6) s6))
    | true =>
      rw [g, if_pos rfl] at ihj
      have e1 : gp_bi (gp_sn C (gp_mk (c_nc C) (c_pl C) (c_so C) (gp_u (c_ro C) k j) (c_D C) (c_pc C) (fun _ => true))) = 1 := gp_bi1 g
      rw [e1, if_neg i1n0]
      intro v6 e6
      rw [e6]
      exact fin _ (fun ξ F5 b5 s5 => ihj ξ (by omega) (by omega) (gp_f6_K (Or.inr (Or.inr rfl)) F5 hK) ⟨j, b5⟩ s5 (fun θ F6 s6 => h θ (gp_f6_tr F5 F6) s6))
theorem m_ro {C : gp_C} {μ : gk_St} (hK : gp_K C μ) {k : Nat} (hk : k < c_nc C) {Q : Int32 → gk_St → Prop} (h : ∀ ν, gp_K C ν → gp_rd (c_tn C) (c_tb C) ν → (∀ u, 0 < u → u < 10 → ∀ t, t < 24 → ν 129 (24 * u + t) = nI (128 * gp_w0 C k u t + gp_w1 C k u t)) → Q (gp_bt (gp_rb C k) 10) ν) : w_X8_roomsBy 101 (nI k) μ Q := by
  have hn6 := c_nc6 (C := C)
  unfold w_X8_roomsBy
  refine s_mastC hK (fun ν a b c d e => ?_)
  rw [rf_101_5, kc (k := k) (by omega)]
  refine ⟨vi (n := 7) (by omega) ln_106 (by omega), ?_⟩
  intro v2 e2
  refine ⟨9 + 1, ?_⟩
  have L := m_roL hk (x2 := v2) (Q := Q) (K := fun y15 y16 y17 m18 => (vp_in y15 (gk_ln 106) ∧ (∀ m19 : gk_St, m19 = gk_up m18 106 y15.toNatClampNeg y16 → Q y17 m19))) 9 1 ν (by omega) (by omega) a ⟨c_ro C k, by rw [gp_u_id rfl]; exact c⟩ (fun u u1 u2 => absurd u1 (by omega)) (fun ξ f s => by
    rw [kc (k := k) (by omega)]
    refine ⟨vi (n := 7) (by omega) ln_106 (by omega), ?_⟩
    intro m18 e18
    have F : gp_f5 ν m18 := gp_f6_f5 (gp_f6_tr f (by rw [e18]; exact gp_f6_up (Or.inr (Or.inr rfl)))) (by rw [e18, gk_up_s, upd_s, e2])
    exact h m18 (gp_K_fM (gp_f5_fM F) a) (gp_rd_f5 F b) (by rw [e18, gk_up_n (by omega)]; exact s))
  rw [gp_rb_0] at L
  exact L
set_option maxHeartbeats 4000000 in
theorem m_soL {C : gp_C} {k : Nat} (hk : k < c_nc C) {x2 : Int32} {Q : Int32 → gk_St → Prop} {K : Int32 → Int32 → Int32 → gk_St → Prop} : ∀ (i j : Nat) (μ : gk_St), j + i = 3 → gp_K C μ → (∃ q, gp_mc (c_nc C) (c_pl C) (gp_u (c_so C) k q) (c_ro C) (c_D C) (c_pc C) (fun _ => true) μ) → (∀ ν, gp_f6 105 k μ ν → K (nI k) x2 (gp_bt (gp_sb C k) 3) ν) → w_X8_sortsBy_l16 Q K 101 (i + 1) (nI k) x2 (gp_bt (gp_sb C k) j) (nI j) μ := by
  have hn6 := c_nc6 (C := C)
  intro i
  induction i with
  | zero =>
    intro j μ hj hK hp h
    have e : j = 3 := by omega
    subst e
    unfold w_X8_sortsBy_l16
    rw [if_pos (show (3 : Int32) ≤ nI 3 by decide)]
    exact h μ gp_f6_rf
  | succ i ih =>
    intro j μ hj hK ⟨q, hp⟩ h
    have ihj := ih (j + 1)
    rw [gp_bt_s (v := j)] at ihj
    have hg : gp_sb C k j = gp_sn C (c_Ps C k j) := rfl
    rw [hg] at ihj
    unfold w_X8_sortsBy_l16
    rw [if_neg (show ¬ (3 : Int32) ≤ nI j from fun q => absurd ((nI_leI (a := 3) (by omega) (by omega)).mp q) (by omega)), rf_101_4, kc (k := k) (by omega)]
    refine ⟨vi (n := 7) (by omega) ln_105 (by omega), ?_⟩
    intro m3 e3
    have hp3 := mu_so hp e3
    rw [gp_u_u] at hp3
    have F3 : gp_f6 105 k μ m3 := by rw [e3]; exact gp_f6_up (Or.inr (Or.inl rfl))
    have hK3 := gp_f6_K (Or.inr (Or.inl rfl)) F3 hK
    refine m_seen hK3 (c_Ps_wf hK.1 (by omega)) hp3 (fun ν a b c => ?_)
    have F4 := gp_f6_tr F3 (gp_f5_f6 (Or.inr (Or.inl rfl)) (gp_f3_f5 c))
    have hK4 := gp_f6_K (Or.inr (Or.inl rfl)) F4 hK
    unfold w_X8_sortsBy_j46
    cases g : gp_sn C (c_Ps C k j) with
    | false =>
      rw [g, if_neg (by decide)] at ihj
      have e1 : gp_bi (gp_sn C (gp_mk (c_nc C) (c_pl C) (gp_u (c_so C) k j) (c_ro C) (c_D C) (c_pc C) (fun _ => true))) = 0 := nI_b.mpr g
      rw [if_pos e1]
      intro v6 e6 v7 e7
      rw [e7, nI_1, e6, Int32.or_zero]
      exact ihj ν (by omega) hK4 ⟨j, b⟩ (fun θ F6 => h θ (gp_f6_tr F4 F6))
    | true =>
      rw [g, if_pos rfl] at ihj
      have e1 : gp_bi (gp_sn C (gp_mk (c_nc C) (c_pl C) (gp_u (c_so C) k j) (c_ro C) (c_D C) (c_pc C) (fun _ => true))) = 1 := gp_bi1 g
      rw [e1, if_neg i1n0]
      intro v6 e6 v7 e7
      rw [e7, nI_1, e6]
      exact ihj ν (by omega) hK4 ⟨j, b⟩ (fun θ F6 => h θ (gp_f6_tr F4 F6))
theorem m_so {C : gp_C} {μ : gk_St} (hK : gp_K C μ) {k : Nat} (hk : k < c_nc C) {Q : Int32 → gk_St → Prop} (h : ∀ ν, gp_K C ν → gp_rd (c_tn C) (c_tb C) ν → Q (gp_bt (gp_sb C k) 3) ν) : w_X8_sortsBy 101 (nI k) μ Q := by
  have hn6 := c_nc6 (C := C)
  unfold w_X8_sortsBy
  refine s_mastC hK (fun ν a b c d e => ?_)
  rw [rf_101_4, kc (k := k) (by omega)]
  refine ⟨vi (n := 7) (by omega) ln_105 (by omega), ?_⟩
  intro v2 e2
  refine ⟨3 + 1, ?_⟩
  have L := m_soL hk (x2 := v2) (Q := Q) (K := fun y8 y9 y10 m11 => (vp_in y8 (gk_ln 105) ∧ (∀ m12 : gk_St, m12 = gk_up m11 105 y8.toNatClampNeg y9 → Q y10 m12))) 3 0 ν (by omega) a ⟨c_so C k, by rw [gp_u_id rfl]; exact c⟩ (fun ξ f => by
    rw [kc (k := k) (by omega)]
    refine ⟨vi (n := 7) (by omega) ln_105 (by omega), ?_⟩
    intro m18 e18
    have F : gp_f5 ν m18 := gp_f6_f5 (gp_f6_tr f (by rw [e18]; exact gp_f6_up (Or.inr (Or.inl rfl)))) (by rw [e18, gk_up_s, upd_s, e2])
    exact h m18 (gp_K_fM (gp_f5_fM F) a) (gp_rd_f5 F b))
  have e3 : gp_bt (gp_sb C k) 0 = 0 := rfl
  rw [e3, nI_0] at L
  exact L
/-! ask -/
def gp_cn (f : Nat → Bool) : Nat → Nat
  | 0 => 0
  | b + 1 => if f b = true then gp_cn f b + 1 else gp_cn f b
def gp_mm (g : Nat → Nat) : Nat → Nat
  | 0 => 0
  | a + 1 => max (gp_mm g a) (g a)
theorem gp_cn_le {f : Nat → Bool} : ∀ n, gp_cn f n ≤ n
  | 0 => Nat.le_refl 0
  | n + 1 => by
    have := gp_cn_le (f := f) n
    unfold gp_cn
    split <;> omega
theorem gp_mm_le {g : Nat → Nat} {b : Nat} (h : ∀ i, g i ≤ b) : ∀ n, gp_mm g n ≤ b
  | 0 => Nat.zero_le b
  | n + 1 => by
    have h1 := gp_mm_le h n
    have h2 := h n
    unfold gp_mm
    omega
def gp_al (C : gp_C) (k t a b : Nat) : Bool := gp_sn C (c_Pr C k a) && gp_sn C (c_Pr C k b) && (gp_w0 C k a t == gp_w0 C k b t && gp_w1 C k a t == gp_w1 C k b t)
def gp_ac (C : gp_C) (k t a : Nat) : Nat → Nat := gp_cn (fun b => gp_al C k t a (b + 1))
def gp_am (C : gp_C) (k t : Nat) : Nat → Nat := gp_mm (fun a => gp_ac C k t (a + 1) 9)
theorem gp_am_le {C : gp_C} {k t n : Nat} : gp_am C k t n ≤ 9 := gp_mm_le (fun i => gp_cn_le 9) n
/-- the class's keys -/
def gp_ck (C : gp_C) (k u t : Nat) : Int32 := if gp_sn C (c_Pr C k u) = true then nI (gp_w0 C k u t * 109 + gp_w1 C k u t) else -1
def gp_cb (C : gp_C) (k n : Nat) (μ : gk_St) : Prop := ∀ u, 0 < u → u < n → ∀ t, t < 24 → μ (91 + u) t = gp_ck C k u t
theorem gp_w_le {C : gp_C} (hC : gp_cw C) {k u t : Nat} (hu : u ≤ 9) (ht : t < 24) : gp_w0 C k u t ≤ 108 ∧ gp_w1 C k u t ≤ 108 := ⟨gp_wt108 (c_Pr_wf hC hu) ht (by omega), gp_wt108 (c_Pr_wf hC hu) ht (by omega)⟩
theorem rw90 {u : Nat} (hu : u < 10) : gk_rw 90 u = 91 + u ∧ gk_ln (91 + u) = 24 := by
  rcases (show u = 0 ∨ u = 1 ∨ u = 2 ∨ u = 3 ∨ u = 4 ∨ u = 5 ∨ u = 6 ∨ u = 7 ∨ u = 8 ∨ u = 9 by omega) with z | z | z | z | z | z | z | z | z | z <;> subst z
  · exact ⟨rw_90_0, ln_91⟩
  · exact ⟨rw_90_1, ln_92⟩
  · exact ⟨rw_90_2, ln_93⟩
  · exact ⟨rw_90_3, ln_94⟩
  · exact ⟨rw_90_4, ln_95⟩
  · exact ⟨rw_90_5, ln_96⟩
  · exact ⟨rw_90_6, ln_97⟩
  · exact ⟨rw_90_7, ln_98⟩
  · exact ⟨rw_90_8, ln_99⟩
  · exact ⟨rw_90_9, ln_100⟩
theorem s_ckey {P : gp_P} {μ : gk_St} (hr : gp_rec P 66 24 μ) {t : Nat} (ht : t < 24) {Q : Int32 → gk_St → Prop} (h : Q (nI (a_wt (gp_s P (t + 1)) 0 * 109 + a_wt (gp_s P (t + 1)) 1)) μ) : w_X2_crowdKey 66 (nI t) μ Q := by
  have q2 : μ 82 t = nI (a_wt (gp_s P (t + 1)) 0) := (hr t ht).2.1
  have q3 : μ 83 t = nI (a_wt (gp_s P (t + 1)) 1) := (hr t ht).2.2.1
  have e109 : nI (a_wt (gp_s P (t + 1)) 0) * 109 = nI (a_wt (gp_s P (t + 1)) 0 * 109) := pk_mul _ 109
  unfold w_X2_crowdKey
  rw [rf_66_2, z0c, z1c, rw_81_0, rw_81_1, kc (k := t) (by omega), q2, q3, e109, nI_add]
  exact ⟨vr (k := 0) (n := 2) (by omega) rl_81 (by omega), vi (n := 24) (by omega) ln_82 (by omega), vr (k := 1) (n := 2) (by omega) rl_81 (by omega), vi (n := 24) (by omega) ln_83 (by omega), h⟩
set_option maxHeartbeats 4000000 in
theorem c_n30 {C : gp_C} {k u : Nat} (hu : u < 10) {x1 : Int32} {Q : gk_St → Prop} {K : Int32 → Int32 → gk_St → Prop} : ∀ (i j : Nat) (μ : gk_St), j + i = 24 → gp_rec (c_Pr C k u) 66 24 μ → (∀ t, t < j → μ (91 + u) t = gp_ck C k u t) → (∀ ν, (∀ t, t < 24 → ν (91 + u) t = gp_ck C k u t) → (∀ c, c ≠ 91 + u → ν c = μ c) → K x1 (nI u) ν) → w_X7_noteCrowdsByRoom_l30 Q K 0 (i + 1) x1 (nI u) (gp_bi (gp_sn C (c_Pr C k u))) (nI j) μ := by
  intro i
  induction i with
  | zero =>
    intro j μ hj hr hs h
    have e : j = 24 := by omega
    subst e
    unfold w_X7_noteCrowdsByRoom_l30
    rw [if_pos (show (24 : Int32) ≤ nI 24 by decide)]
    exact h μ hs (fun _ _ => rfl)
  | succ i ih =>
    intro j μ hj hr hs h
    have fin : ∀ m : gk_St, m = gk_up μ (91 + u) j (gp_ck C k u j) → ∀ v : Int32, v = nI j + 1 → w_X7_noteCrowdsByRoom_l30 Q K 0 (i + 1) x1 (nI u) (gp_bi (gp_sn C (c_Pr C k u))) v m := by
      intro m em v e
      rw [e, nI_1]
      have f1 : ∀ c, c ≠ 91 + u → m c = μ c := fun c a => by rw [em, gk_up_n a]
      refine ih (j + 1) m (by omega) ?_ (fun t ht => ?_) (fun ν r1 r2 => h ν r1 (fun c a => (r2 c a).trans (f1 c a)))
      · intro t ht
        have hn6 : p_nc (c_Pr C k u) ≤ 6 := c_nc6
        obtain ⟨q1, q2, q3, q4⟩ := hr t ht
        refine ⟨fun kk hkk => ?_, ?_, ?_, ?_⟩
        · rw [f1 (66 + 2 + kk) (by omega), f1 (66 + 9 + kk) (by omega)]
          exact q1 kk hkk
        · rw [f1 (66 + 16) (by omega)]
          exact q2
        · rw [f1 (66 + 17) (by omega)]
          exact q3
        · rw [f1 (66 + 18) (by omega)]
          exact q4
      · rw [em, gk_up_s]
        by_cases z : t = j
        · subst z
          rw [upd_s]
        · rw [upd_n z]
          exact hs t (by omega)
    unfold w_X7_noteCrowdsByRoom_l30
    rw [if_neg (show ¬ (24 : Int32) ≤ nI j from fun q => absurd ((nI_leI (a := 24) (by omega) (by omega)).mp q) (by omega)), rf_0_14, rf_0_13, kc (k := u) (by omega), kc (k := j) (by omega), (rw90 hu).1]
    refine ⟨vr (n := 10) (by omega) rl_90 (by omega), ?_⟩
    cases g : gp_sn C (c_Pr C k u) with
    | false =>
      rw [if_pos (show gp_bi false = 0 from rfl)]
      refine ⟨vi (n := 24) (by omega) (rw90 hu).2 (by omega), ?_⟩
      intro m6 e6 v7 e7
      rw [g] at fin
      refine fin m6 ?_ v7 e7
      rw [e6]
      unfold gp_ck
      rw [g, if_neg (by decide)]
    | true =>
      rw [if_neg (show ¬ gp_bi true = 0 by decide)]
      refine s_ckey hr (by omega) ⟨vi (n := 24) (by omega) (rw90 hu).2 (by omega), ?_⟩
      intro m6 e6 v7 e7
      rw [g] at fin
      refine fin m6 ?_ v7 e7
      rw [e6]
      unfold gp_ck
      rw [g, if_pos rfl]
      rfl
set_option maxHeartbeats 4000000 in
theorem c_n6 {C : gp_C} {k : Nat} (hk : k < c_nc C) {Q K : gk_St → Prop} : ∀ (i j : Nat) (μ : gk_St), j + i = 10 → 0 < j → gp_K C μ → (∃ q, gp_pla (c_Pr C k q) μ) → gp_cb C k j μ → (∀ ν, gp_K C ν → gp_cb C k 10 ν → K ν) → w_X7_noteCrowdsByRoom_l6 Q K 0 (i + 1) (nI k) (nI j) μ := by
  have hn6 := c_nc6 (C := C)
  intro i
  induction i with
  | zero =>
    intro j μ hj h0 hK hp hb h
    have e : j = 10 := by omega
    subst e
    unfold w_X7_noteCrowdsByRoom_l6
    rw [if_pos (show (9 : Int32) < nI 10 by decide)]
    exact h μ hK hb
  | succ i ih =>
    intro j μ hj h0 hK ⟨q, hp⟩ hb h
    unfold w_X7_noteCrowdsByRoom_l6
    rw [if_neg (show ¬ (9 : Int32) < nI j from fun q => absurd ((nI_ltI (a := 9) (by omega) (by omega)).mp q) (by omega)), rf_0_11, rf_31_3, kc (k := k) (by omega)]
    refine ⟨vi (n := 6) (by omega) ln_34 (by omega), ?_⟩
    intro m2 e2
    have hp2 : gp_pla (c_Pr C k j) m2 := by
      have := up_ro hp e2
      rw [gp_u_u] at this
      exact this
    have hK2 : gp_K C m2 := gp_K_fC (fun c a => by rw [e2, gk_up_n (by omega)]) hK
    refine s_seen hK2 (c_Pr_wf hK.1 (by omega)) hp2 (fun ξ a2 b2 c2 d2 => ?_)
    refine ⟨25, ?_⟩
    refine c_n30 (C := C) (k := k) (u := j) (by omega) 24 0 ξ (by omega) c2 (fun t ht => absurd ht (Nat.not_lt_zero t)) (fun ν r1 r2 => ?_)
    intro v e
    rw [e, nI_1]
    refine ih (j + 1) ν (by omega) (by omega) (gp_K_fC (fun c a => r2 c (by omega)) a2) ⟨j, gp_pla_kept b2 (fun c p q => r2 c (by omega))⟩ (fun u u1 u2 t ht => ?_) h
    by_cases z : u = j
    · rw [z]
      exact r1 t ht
    · rw [r2 (91 + u) (by omega), d2 (91 + u) (by omega), e2, gk_up_n (by omega)]
      exact hb u u1 (by omega) t ht
theorem gp_key {a b c d : Nat} (hb : b ≤ 108) (hd : d ≤ 108) : a * 109 + b = c * 109 + d ↔ a = c ∧ b = d := by omega
set_option maxHeartbeats 4000000 in
theorem c_a26 {C : gp_C} (hC : gp_cw C) {k t a : Nat} (ht : t < 24) (ha0 : 0 < a) (ha : a < 10) {μ : gk_St} (hb : gp_cb C k 10 μ) {x2 x3 : Int32} {Q : Int32 → gk_St → Prop} {K : Int32 → Int32 → Int32 → Int32 → gk_St → Prop} (h : K (nI t) x2 x3 (nI (gp_ac C k t a 9)) μ) : ∀ (i j : Nat), j + i = 9 → w_X7_mostAlike_l26 Q K 0 (i + 1) (nI t) x2 x3 (gp_ck C k a t) (nI (gp_ac C k t a j)) (nI (j + 1)) μ := by
  intro i
  induction i with
  | zero =>
    intro j hj
    have e : j = 9 := by omega
    subst e
    unfold w_X7_mostAlike_l26
    rw [if_pos (show (9 : Int32) < nI (9 + 1) by decide)]
    exact h
  | succ i ih =>
    intro j hj
    have ihj := ih (j + 1) (by omega)
    have hs : gp_ac C k t a (j + 1) = if gp_al C k t a (j + 1) = true then gp_ac C k t a j + 1 else gp_ac C k t a j := rfl
    rw [hs] at ihj
    have wa := gp_w_le hC (k := k) (u := a) (t := t) (by omega) ht
    have wb := gp_w_le hC (k := k) (u := j + 1) (t := t) (by omega) ht
    unfold w_X7_mostAlike_l26
    rw [if_neg (show ¬ (9 : Int32) < nI (j + 1) from fun q => absurd ((nI_ltI (a := 9) (by omega) (by omega)).mp q) (by omega)), rf_0_14, kc (k := j + 1) (by omega), kc (k := t) (by omega), (rw90 (u := j + 1) (by omega)).1, hb (j + 1) (by omega) (by omega) t ht]
    cases ga : gp_sn C (c_Pr C k a) with
    | false =>
      have eck : gp_ck C k a t = -1 := by
        unfold gp_ck
        rw [ga, if_neg (by decide)]
      have eal : gp_al C k t a (j + 1) = false := by
        unfold gp_al
        rw [ga, Bool.false_and, Bool.false_and]
      rw [eal, if_neg (by decide)] at ihj
      rw [if_pos eck]
      intro v e
      rw [e, nI_1]
      exact ihj
    | true =>
      have eck : gp_ck C k a t = nI (gp_w0 C k a t * 109 + gp_w1 C k a t) := by
        unfold gp_ck
        rw [ga, if_pos rfl]
      rw [if_neg (by rw [eck]; intro q; have := nI_pos (n := gp_w0 C k a t * 109 + gp_w1 C k a t) (by omega); rw [q] at this; exact this (by decide))]
      refine ⟨vr (n := 10) (by omega) rl_90 (by omega), vi (n := 24) (by omega) (rw90 (u := j + 1) (by omega)).2 (by omega), ?_⟩
      cases gb : gp_sn C (c_Pr C k (j + 1)) with
      | false =>
        have ecb : gp_ck C k (j + 1) t = -1 := by
          unfold gp_ck
          rw [gb, if_neg (by decide)]
        have eal : gp_al C k t a (j + 1) = false := by
          unfold gp_al
          rw [gb, Bool.and_false, Bool.false_and]
        rw [eal, if_neg (by decide)] at ihj
        rw [ecb, if_neg (by rw [eck]; intro q; have := nI_pos (n := gp_w0 C k a t * 109 + gp_w1 C k a t) (by omega); rw [← q] at this; exact this (by decide))]
        intro v e
        rw [e, nI_1]
        exact ihj
      | true =>
        have ecb : gp_ck C k (j + 1) t = nI (gp_w0 C k (j + 1) t * 109 + gp_w1 C k (j + 1) t) := by
          unfold gp_ck
          rw [gb, if_pos rfl]
        have eal : gp_al C k t a (j + 1) = (gp_w0 C k a t == gp_w0 C k (j + 1) t && gp_w1 C k a t == gp_w1 C k (j + 1) t) := by
          unfold gp_al
          rw [ga, gb]
          rfl
        rw [eal] at ihj
        rw [ecb, eck]
        rw [eck] at ihj
        by_cases c : gp_w0 C k a t = gp_w0 C k (j + 1) t ∧ gp_w1 C k a t = gp_w1 C k (j + 1) t
        · rw [if_pos (show (gp_w0 C k a t == gp_w0 C k (j + 1) t && gp_w1 C k a t == gp_w1 C k (j + 1) t) = true by simp [c.1, c.2])] at ihj
          rw [if_pos (by rw [c.1, c.2])]
          intro v6 e6 v7 e7
          rw [e7, nI_1, e6, nI_1]
          exact ihj
        · rw [if_neg (show ¬ (gp_w0 C k a t == gp_w0 C k (j + 1) t && gp_w1 C k a t == gp_w1 C k (j + 1) t) = true by simpa using c)] at ihj
          rw [if_neg (fun q => c (by
            have := (nI_eq (by omega) (by omega)).mp q
            have := (gp_key (by omega) (by omega)).mp this
            exact ⟨this.1.symm, this.2.symm⟩))]
          intro v e
          rw [e, nI_1]
          exact ihj
theorem nI_mx {a b : Nat} (ha : a < 10000) (hb : b < 10000) : gk_mx (nI a) (nI b) = nI (max a b) := by
  unfold gk_mx
  by_cases h : a < b
  · rw [if_pos ((nI_ltI (by omega) (by omega)).mpr h), show max a b = b by omega]
  · rw [if_neg (fun q => h ((nI_ltI (by omega) (by omega)).mp q)), show max a b = a by omega]
set_option maxHeartbeats 4000000 in
theorem c_a4 {C : gp_C} (hC : gp_cw C) {k t : Nat} (ht : t < 24) {μ : gk_St} (hb : gp_cb C k 10 μ) {Q : Int32 → gk_St → Prop} {K : Int32 → gk_St → Prop} (h : K (nI (gp_am C k t 9)) μ) : ∀ (i j : Nat), j + i = 9 → w_X7_mostAlike_l4 Q K 0 (i + 1) (nI t) (nI (gp_am C k t j)) (nI (j + 1)) μ := by
  intro i
  induction i with
  | zero =>
    intro j hj
    have e : j = 9 := by omega
    subst e
    unfold w_X7_mostAlike_l4
    rw [if_pos (show (9 : Int32) < nI (9 + 1) by decide)]
    exact h
  | succ i ih =>
    intro j hj
    have ihj := ih (j + 1) (by omega)
    have hs : gp_am C k t (j + 1) = max (gp_am C k t j) (gp_ac C k t (j + 1) 9) := rfl
    have h1 := gp_am_le (C := C) (k := k) (t := t) (n := j)
    have h2 : gp_ac C k t (j + 1) 9 ≤ 9 := gp_cn_le 9
    rw [hs] at ihj
    unfold w_X7_mostAlike_l4
    rw [if_neg (show ¬ (9 : Int32) < nI (j + 1) from fun q => absurd ((nI_ltI (a := 9) (by omega) (by omega)).mp q) (by omega)), rf_0_14, kc (k := j + 1) (by omega), kc (k := t) (by omega), (rw90 (u := j + 1) (by omega)).1, hb (j + 1) (by omega) (by omega) t ht]
    refine ⟨vr (n := 10) (by omega) rl_90 (by omega), vi (n := 24) (by omega) (rw90 (u := j + 1) (by omega)).2 (by omega), ?_⟩
    intro v2 e2
    subst e2
    refine ⟨10, ?_⟩
    refine c_a26 hC ht (by omega) (by omega) hb ?_ 9 0 (by omega)
    intro v13 e13 v14 e14
    rw [e14, nI_1, e13, nI_mx (by omega) (by omega)]
    exact ihj
theorem c_al {C : gp_C} (hC : gp_cw C) {k t : Nat} (ht : t < 24) {μ : gk_St} (hb : gp_cb C k 10 μ) {Q : Int32 → gk_St → Prop} (h : Q (nI (gp_am C k t 9)) μ) : w_X7_mostAlike 0 (nI t) μ Q := ⟨10, c_a4 hC ht hb h 9 0 (by omega)⟩
def gp_as (f : Nat → Nat) : Nat → Nat × Nat
  | 0 => (0, f 0)
  | t + 1 => if (gp_as f t).2 ≤ f (t + 1) then gp_as f t else (t + 1, f (t + 1))
theorem gp_as_le {f : Nat → Nat} {b : Nat} (h : ∀ i, f i ≤ b) : ∀ n, (gp_as f n).2 ≤ b ∧ (gp_as f n).1 ≤ n
  | 0 => ⟨h 0, Nat.le_refl 0⟩
  | n + 1 => by
    have h1 := gp_as_le h n
    unfold gp_as
    split
    · exact ⟨h1.1, Nat.le_succ_of_le h1.2⟩
    · exact ⟨h _, Nat.le_refl _⟩
def gp_aq (C : gp_C) (k : Nat) : Nat → Nat × Nat := gp_as (fun t => gp_am C k t 9)
theorem gp_aq_s {C : gp_C} {k j : Nat} : gp_aq C k (j + 1) = if (gp_aq C k j).2 ≤ gp_am C k (j + 1) 9 then gp_aq C k j else (j + 1, gp_am C k (j + 1) 9) := rfl
def v_as (C : gp_C) (k : Nat) : Int32 := nI (gp_aq C k 23).1
