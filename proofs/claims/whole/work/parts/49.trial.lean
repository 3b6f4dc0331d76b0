/-! trials: what else might have been -/
theorem gp_u_u {β : Type} {f : Nat → β} {k : Nat} {x y : β} : gp_u (gp_u f k x) k y = gp_u f k y := by
  funext j
  unfold gp_u
  split <;> rfl
theorem gp_fr_fC {μ ν : gk_St} (h : gp_fr 66 μ ν) : gp_fC μ ν := fun c a => h c (by omega)
theorem s_trial {C : gp_C} {μ : gk_St} (hK : gp_K C μ) {P : gp_P} (hw : gp_wf P) (hp : gp_pla P μ) {Q : gk_St → Prop} (h : ∀ ν, gp_K C ν → gp_pla P ν → gp_rs P 66 (gp_s P 24) ν → gp_rec P 66 24 ν → gp_fr 66 μ ν → Q ν) : w_X2_run 66 31 23 μ Q :=
  s_run_66 hw (last := 23) (by omega) hp (fun ν a b c => h ν (gp_K_fC (gp_fr_fC c) hK) (gp_fr_pla (Or.inr rfl) c hp) a b c)
theorem up_pl {nc : Nat} {pl so ro : Nat → Nat} {D : gp_D} {pc : Nat → Nat} {kp : Nat → Bool} {μ m : gk_St} {k p : Nat} (h : gp_pla (gp_mk nc pl so ro D pc kp) μ) (e : m = gk_up μ 32 k (nI p)) : gp_pla (gp_mk nc (gp_u pl k p) so ro D pc kp) m := by
  have f1 : ∀ c, c ≠ 32 → m c = μ c := fun c a => by rw [e, gk_up_n a]
  have g1 : m 32 = upd (μ 32) k (nI p) := by rw [e, gk_up_s]
  refine ⟨?_, fun j hj => ⟨?_, ?_⟩, ?_, ?_⟩
  · rw [f1 31 (by omega)]
    exact h.1
  · rw [g1]
    exact upd_nI (fun i hi => (h.2.1 i hi).1) j hj
  · rw [f1 33 (by omega), f1 34 (by omega)]
    exact (h.2.1 j hj).2
  · rw [f1 35 (by omega)]
    exact h.2.2.1
  · rw [f1 37 (by omega), f1 38 (by omega), f1 39 (by omega), f1 40 (by omega), f1 41 (by omega)]
    exact h.2.2.2
theorem up_so {nc : Nat} {pl so ro : Nat → Nat} {D : gp_D} {pc : Nat → Nat} {kp : Nat → Bool} {μ m : gk_St} {k p : Nat} (h : gp_pla (gp_mk nc pl so ro D pc kp) μ) (e : m = gk_up μ 33 k (nI p)) : gp_pla (gp_mk nc pl (gp_u so k p) ro D pc kp) m := by
  have f1 : ∀ c, c ≠ 33 → m c = μ c := fun c a => by rw [e, gk_up_n a]
  have g1 : m 33 = upd (μ 33) k (nI p) := by rw [e, gk_up_s]
  refine ⟨?_, fun j hj => ⟨?_, ?_, ?_⟩, ?_, ?_⟩
  · rw [f1 31 (by omega)]
    exact h.1
  · rw [f1 32 (by omega)]
    exact (h.2.1 j hj).1
  · rw [g1]
    exact upd_nI (fun i hi => (h.2.1 i hi).2.1) j hj
  · rw [f1 34 (by omega)]
    exact (h.2.1 j hj).2.2
  · rw [f1 35 (by omega)]
    exact h.2.2.1
  · rw [f1 37 (by omega), f1 38 (by omega), f1 39 (by omega), f1 40 (by omega), f1 41 (by omega)]
    exact h.2.2.2
theorem up_ro {nc : Nat} {pl so ro : Nat → Nat} {D : gp_D} {pc : Nat → Nat} {kp : Nat → Bool} {μ m : gk_St} {k p : Nat} (h : gp_pla (gp_mk nc pl so ro D pc kp) μ) (e : m = gk_up μ 34 k (nI p)) : gp_pla (gp_mk nc pl so (gp_u ro k p) D pc kp) m := by
  have f1 : ∀ c, c ≠ 34 → m c = μ c := fun c a => by rw [e, gk_up_n a]
  have g1 : m 34 = upd (μ 34) k (nI p) := by rw [e, gk_up_s]
  refine ⟨?_, fun j hj => ⟨?_, ?_, ?_⟩, ?_, ?_⟩
  · rw [f1 31 (by omega)]
    exact h.1
  · rw [f1 32 (by omega)]
    exact (h.2.1 j hj).1
  · rw [f1 33 (by omega)]
    exact (h.2.1 j hj).2.1
  · rw [g1]
    exact upd_nI (fun i hi => (h.2.1 i hi).2.2) j hj
  · rw [f1 35 (by omega)]
    exact h.2.2.1
  · rw [f1 37 (by omega), f1 38 (by omega), f1 39 (by omega), f1 40 (by omega), f1 41 (by omega)]
    exact h.2.2.2
theorem up_pc {nc : Nat} {pl so ro : Nat → Nat} {D : gp_D} {pc : Nat → Nat} {kp : Nat → Bool} {μ m : gk_St} {k p : Nat} (h : gp_pla (gp_mk nc pl so ro D pc kp) μ) (e : m = gk_up μ 39 k (nI p)) : gp_pla (gp_mk nc pl so ro D (gp_u pc k p) kp) m := by
  have f1 : ∀ c, c ≠ 39 → m c = μ c := fun c a => by rw [e, gk_up_n a]
  have g1 : m 39 = upd (μ 39) k (nI p) := by rw [e, gk_up_s]
  refine ⟨?_, fun j hj => ?_, ?_, fun t ht => ⟨?_, ?_, ?_, ?_⟩⟩
  · rw [f1 31 (by omega)]
    exact h.1
  · rw [f1 32 (by omega), f1 33 (by omega), f1 34 (by omega)]
    exact h.2.1 j hj
  · rw [f1 35 (by omega)]
    exact h.2.2.1
  · rw [f1 37 (by omega)]
    exact (h.2.2.2 t ht).1
  · rw [f1 38 (by omega)]
    exact (h.2.2.2 t ht).2.1
  · rw [g1]
    exact upd_nI (fun i hi => (h.2.2.2 i hi).2.2.1) t ht
  · rw [f1 40 (by omega), f1 41 (by omega)]
    exact (h.2.2.2 t ht).2.2.2
/-- the reference's -/
theorem mu_pl {nc : Nat} {pl so ro : Nat → Nat} {D : gp_D} {pc : Nat → Nat} {kp : Nat → Bool} {μ m : gk_St} {k p : Nat} (h : gp_mc nc pl so ro D pc kp μ) (e : m = gk_up μ 104 k (nI p)) : gp_mc nc (gp_u pl k p) so ro D pc kp m := by
  have f1 : ∀ c, c ≠ 104 → m c = μ c := fun c a => by rw [e, gk_up_n a]
  have g1 : m 104 = upd (μ 104) k (nI p) := by rw [e, gk_up_s]
  unfold gp_mc
  rw [f1 101 (by omega), f1 105 (by omega), f1 106 (by omega), f1 107 (by omega), f1 108 (by omega), f1 109 (by omega), f1 111 (by omega), f1 112 (by omega), f1 113 (by omega), f1 114 (by omega)]
  refine ⟨h.1, fun j hj => ⟨?_, (h.2.1 j hj).2⟩, h.2.2⟩
  rw [g1]
  exact upd_nI (fun i hi => (h.2.1 i hi).1) j hj
theorem mu_so {nc : Nat} {pl so ro : Nat → Nat} {D : gp_D} {pc : Nat → Nat} {kp : Nat → Bool} {μ m : gk_St} {k p : Nat} (h : gp_mc nc pl so ro D pc kp μ) (e : m = gk_up μ 105 k (nI p)) : gp_mc nc pl (gp_u so k p) ro D pc kp m := by
  have f1 : ∀ c, c ≠ 105 → m c = μ c := fun c a => by rw [e, gk_up_n a]
  have g1 : m 105 = upd (μ 105) k (nI p) := by rw [e, gk_up_s]
  unfold gp_mc
  rw [f1 101 (by omega), f1 104 (by omega), f1 106 (by omega), f1 107 (by omega), f1 108 (by omega), f1 109 (by omega), f1 111 (by omega), f1 112 (by omega), f1 113 (by omega), f1 114 (by omega)]
  refine ⟨h.1, fun j hj => ⟨(h.2.1 j hj).1, ?_, (h.2.1 j hj).2.2⟩, h.2.2⟩
  rw [g1]
  exact upd_nI (fun i hi => (h.2.1 i hi).2.1) j hj
theorem mu_ro {nc : Nat} {pl so ro : Nat → Nat} {D : gp_D} {pc : Nat → Nat} {kp : Nat → Bool} {μ m : gk_St} {k p : Nat} (h : gp_mc nc pl so ro D pc kp μ) (e : m = gk_up μ 106 k (nI p)) : gp_mc nc pl so (gp_u ro k p) D pc kp m := by
  have f1 : ∀ c, c ≠ 106 → m c = μ c := fun c a => by rw [e, gk_up_n a]
  have g1 : m 106 = upd (μ 106) k (nI p) := by rw [e, gk_up_s]
  unfold gp_mc
  rw [f1 101 (by omega), f1 104 (by omega), f1 105 (by omega), f1 107 (by omega), f1 108 (by omega), f1 109 (by omega), f1 111 (by omega), f1 112 (by omega), f1 113 (by omega), f1 114 (by omega)]
  refine ⟨h.1, fun j hj => ⟨(h.2.1 j hj).1, (h.2.1 j hj).2.1, ?_⟩, h.2.2⟩
  rw [g1]
  exact upd_nI (fun i hi => (h.2.1 i hi).2.2) j hj
theorem mu_pc {nc : Nat} {pl so ro : Nat → Nat} {D : gp_D} {pc : Nat → Nat} {kp : Nat → Bool} {μ m : gk_St} {k p : Nat} (h : gp_mc nc pl so ro D pc kp μ) (e : m = gk_up μ 114 k (nI p)) : gp_mc nc pl so ro D (gp_u pc k p) kp m := by
  have f1 : ∀ c, c ≠ 114 → m c = μ c := fun c a => by rw [e, gk_up_n a]
  have g1 : m 114 = upd (μ 114) k (nI p) := by rw [e, gk_up_s]
  unfold gp_mc
  rw [f1 101 (by omega), f1 104 (by omega), f1 105 (by omega), f1 106 (by omega), f1 107 (by omega), f1 108 (by omega), f1 109 (by omega), f1 111 (by omega), f1 112 (by omega), f1 113 (by omega)]
  refine ⟨h.1, h.2.1, h.2.2.1, h.2.2.2.1, fun t ht => ?_, h.2.2.2.2.2⟩
  rw [g1]
  exact upd_nI (fun i hi => h.2.2.2.2.1 i hi) t ht
theorem mu_kp {nc : Nat} {pl so ro : Nat → Nat} {D : gp_D} {pc : Nat → Nat} {kp kp' : Nat → Bool} {μ m : gk_St} {x : Int32} (h : gp_mc nc pl so ro D pc kp μ) (e : m = gk_up μ 101 17 x) (hx : ∀ i, i < d_ne D → bt x i = !kp' i) : gp_mc nc pl so ro D pc kp' m := by
  have f1 : ∀ c, c ≠ 101 → m c = μ c := fun c a => by rw [e, gk_up_n a]
  have f2 : ∀ j, j ≠ 17 → m 101 j = μ 101 j := fun j a => by rw [e, gk_up_s, upd_n a]
  have g1 : m 101 17 = x := by rw [e, gk_up_s, upd_s]
  unfold gp_mc
  rw [f2 2 (by omega), f2 6 (by omega), f2 12 (by omega), g1, f1 104 (by omega), f1 105 (by omega), f1 106 (by omega), f1 107 (by omega), f1 108 (by omega), f1 109 (by omega), f1 111 (by omega), f1 112 (by omega), f1 113 (by omega), f1 114 (by omega)]
  exact ⟨h.1, h.2.1, h.2.2.1, h.2.2.2.1, h.2.2.2.2.1, h.2.2.2.2.2.1, h.2.2.2.2.2.2.1, hx⟩
/-- frames of the reference's trials -/
def gp_f5 (μ ν : gk_St) : Prop := (∀ c, c ≠ 101 → c ≠ 114 → c ≠ 125 → c ≠ 129 → (c < 115 ∨ 124 < c) → ν c = μ c) ∧ ∀ j, j ≠ 17 → (j < 18 ∨ 30 < j) → ν 101 j = μ 101 j
theorem gp_f5_rf {μ : gk_St} : gp_f5 μ μ := ⟨fun _ _ _ _ _ _ => rfl, fun _ _ _ => rfl⟩
theorem gp_f5_tr {μ ν ξ : gk_St} (h1 : gp_f5 μ ν) (h2 : gp_f5 ν ξ) : gp_f5 μ ξ := ⟨fun c a b d e f => (h2.1 c a b d e f).trans (h1.1 c a b d e f), fun j a b => (h2.2 j a b).trans (h1.2 j a b)⟩
theorem gp_f3_f5 {μ ν : gk_St} (h : gp_f3 μ ν) : gp_f5 μ ν := ⟨fun c a b d e f => h.1 c a f, fun j a b => h.2 j b⟩
theorem gp_f5_up {μ : gk_St} {a i : Nat} {x : Int32} (ha : a = 114 ∨ a = 125 ∨ a = 129) : gp_f5 μ (gk_up μ a i x) := ⟨fun c p q r s t => gk_up_n (by omega), fun j p q => by rw [gk_up_n (by omega)]⟩
theorem gp_f5_17 {μ : gk_St} {x : Int32} : gp_f5 μ (gk_up μ 101 17 x) := ⟨fun c p q r s t => gk_up_n (by omega), fun j p q => by rw [gk_up_s, upd_n p]⟩
theorem gp_f5_fM {μ ν : gk_St} (h : gp_f5 μ ν) : gp_fM μ ν := ⟨fun c a => h.1 c (by omega) (by omega) (by omega) (by omega) (by omega), fun j a => h.2 j (by omega) (by omega)⟩
theorem gp_rd_f5 {tn : Nat → Nat} {tb : Nat → Nat → Nat} {μ ν : gk_St} (h : gp_f5 μ ν) (hr : gp_rd tn tb μ) : gp_rd tn tb ν := by
  unfold gp_rd gp_rp
  rw [h.2 2 (by omega) (by omega), h.2 6 (by omega) (by omega), h.2 10 (by omega) (by omega), h.1 104 (by omega) (by omega) (by omega) (by omega) (by omega), h.1 105 (by omega) (by omega) (by omega) (by omega) (by omega), h.1 106 (by omega) (by omega) (by omega) (by omega) (by omega), h.1 107 (by omega) (by omega) (by omega) (by omega) (by omega), h.1 108 (by omega) (by omega) (by omega) (by omega) (by omega), h.1 109 (by omega) (by omega) (by omega) (by omega) (by omega), h.1 110 (by omega) (by omega) (by omega) (by omega) (by omega)]
  exact hr
/-- cell a may differ at k -/
def gp_f6 (a k : Nat) (μ ν : gk_St) : Prop := (∀ c, c ≠ a → c ≠ 101 → c ≠ 114 → c ≠ 125 → c ≠ 129 → (c < 115 ∨ 124 < c) → ν c = μ c) ∧ (∀ j, j ≠ 17 → (j < 18 ∨ 30 < j) → ν 101 j = μ 101 j) ∧ ∀ j, j ≠ k → ν a j = μ a j
theorem gp_f6_rf {a k : Nat} {μ : gk_St} : gp_f6 a k μ μ := ⟨fun _ _ _ _ _ _ _ => rfl, fun _ _ _ => rfl, fun _ _ => rfl⟩
theorem gp_f6_tr {a k : Nat} {μ ν ξ : gk_St} (h1 : gp_f6 a k μ ν) (h2 : gp_f6 a k ν ξ) : gp_f6 a k μ ξ := ⟨fun c p q r s t u => (h2.1 c p q r s t u).trans (h1.1 c p q r s t u), fun j p q => (h2.2.1 j p q).trans (h1.2.1 j p q), fun j p => (h2.2.2 j p).trans (h1.2.2 j p)⟩
theorem gp_f5_f6 {a k : Nat} (ha : a = 104 ∨ a = 105 ∨ a = 106) {μ ν : gk_St} (h : gp_f5 μ ν) : gp_f6 a k μ ν := ⟨fun c p q r s t u => h.1 c q r s t u, h.2, fun j p => by rw [h.1 a (by omega) (by omega) (by omega) (by omega) (by omega)]⟩
theorem gp_f6_up {a k : Nat} (ha : a = 104 ∨ a = 105 ∨ a = 106) {μ : gk_St} {x : Int32} : gp_f6 a k μ (gk_up μ a k x) := ⟨fun c p q r s t u => gk_up_n p, fun j p q => by rw [gk_up_n (by omega)], fun j p => by rw [gk_up_s, upd_n p]⟩
theorem gp_f6_f5 {a k : Nat} {μ ν : gk_St} (h : gp_f6 a k μ ν) (e : ν a k = μ a k) : gp_f5 μ ν := by
  refine ⟨fun c p q r s t => ?_, h.2.1⟩
  by_cases z : c = a
  · subst z
    funext j
    by_cases y : j = k
    · rw [y]
      exact e
    · exact h.2.2 j y
  · exact h.1 c z p q r s t
theorem gp_f6_K {C : gp_C} {a k : Nat} (ha : a = 104 ∨ a = 105 ∨ a = 106) {μ ν : gk_St} (h : gp_f6 a k μ ν) (hK : gp_K C μ) : gp_K C ν := gp_K_fM ⟨fun c p => h.1 c (by omega) (by omega) (by omega) (by omega) (by omega) (by omega), fun j p => h.2.1 j (by omega) (by omega)⟩ hK
/-- the reference runs -/
theorem m_run {nc : Nat} {pl so ro : Nat → Nat} {D : gp_D} {pc : Nat → Nat} {kp : Nat → Bool} (hD : gp_dw D) (hw : gp_wf (gp_mk nc pl so ro D pc kp)) {μ : gk_St} (hm : gp_mc nc pl so ro D pc kp μ) {Q : gk_St → Prop} (h : ∀ ν, gp_mrun (gp_mk nc pl so ro D pc kp) ν → gp_mc nc pl so ro D pc kp ν → gp_f3 μ ν → Q ν) : w_X8_runs 101 μ Q :=
  s_mruns hD rfl hw hm (fun ν a b c d => h ν ⟨a, b, c⟩ (gp_mc_f3 d hm) d)
/-- the best of some: ok says which are tried -/
def gp_bm (ok : Nat → Bool) (ov : Nat → Int32) : Nat → Int32 × Int32
  | 0 => (-1, -1)
  | p + 1 => if ok p = true then (if ov p ≤ (gp_bm ok ov p).2 then gp_bm ok ov p else (nI p, ov p)) else gp_bm ok ov p
def gp_w2 (x : Int32 × Int32) (w : Nat) : Int32 := if w = 0 then x.1 else x.2
/-! pace -/
def c_Pp (C : gp_C) (t v : Nat) : gp_P := gp_mk (c_nc C) (c_pl C) (c_so C) (c_ro C) (c_D C) (gp_u (c_pc C) t v) (fun _ => true)
theorem c_Pp_wf {C : gp_C} (hC : gp_cw C) {t v : Nat} (hv : v ≤ 3) : gp_wf (c_Pp C t v) := gp_wf_mk (c_dw hC) c_nc6 (fun _ hk => c_car hk) (fun x _ => by
  by_cases e : x = t
  · rw [e, gp_us]
    exact hv
  · rw [gp_un e]
    exact c_pc3)
def v_pc (C : gp_C) (t w : Nat) : Int32 := gp_w2 (gp_bm (fun _ => true) (fun v => nI (gp_over (c_Pp C t v))) 4) w
set_option maxHeartbeats 4000000 in
theorem c_paL {C : gp_C} {t : Nat} (ht : t < 24) {x2 : Int32} {Q : Int32 → gk_St → Prop} {K : Int32 → Int32 → Int32 → gk_St → Prop} : ∀ (i j : Nat) (μ : gk_St), j + i = 4 → gp_K C μ → (∃ q, gp_pla (c_Pp C t q) μ) → (∀ ν, gp_K C ν → K x2 (gp_bm (fun _ => true) (fun v => nI (gp_over (c_Pp C t v))) 4).1 (gp_bm (fun _ => true) (fun v => nI (gp_over (c_Pp C t v))) 4).2 ν) → w_X7_pace_l31 Q K 0 (i + 1) (nI t) x2 (gp_bm (fun _ => true) (fun v => nI (gp_over (c_Pp C t v))) j).1 (gp_bm (fun _ => true) (fun v => nI (gp_over (c_Pp C t v))) j).2 (nI j) μ := by
  intro i
  induction i with
  | zero =>
    intro j μ hj hK hp h
    have e : j = 4 := by omega
    subst e
    unfold w_X7_pace_l31
    rw [if_pos (show (3 : Int32) < nI 4 by decide)]
    exact h μ hK
  | succ i ih =>
    intro j μ hj hK ⟨q, hp⟩ h
    have ihj := ih (j + 1)
    have hs : gp_bm (fun _ => true) (fun v => nI (gp_over (c_Pp C t v))) (j + 1) = if nI (gp_over (c_Pp C t j)) ≤ (gp_bm (fun _ => true) (fun v => nI (gp_over (c_Pp C t v))) j).2 then gp_bm (fun _ => true) (fun v => nI (gp_over (c_Pp C t v))) j else (nI j, nI (gp_over (c_Pp C t j))) := rfl
    unfold w_X7_pace_l31
    rw [if_neg (show ¬ (3 : Int32) < nI j from fun q => absurd ((nI_ltI (a := 3) (by omega) (by omega)).mp q) (by omega)), rf_0_11, rf_31_6, kc (k := t) (by omega)]
    refine ⟨vi (n := 24) (by omega) ln_39 (by omega), ?_⟩
    intro m6 e6
    have hp6 : gp_pla (c_Pp C t j) m6 := by
      have := up_pc hp e6
      rw [gp_u_u] at this
      exact this
    have hK6 : gp_K C m6 := gp_K_fC (fun c a => by rw [e6, gk_up_n (by omega)]) hK
    rw [rf_0_13]
    refine s_trial hK6 (c_Pp_wf hK.1 (by omega)) hp6 (fun ν a b c d f => ?_)
    refine s_allOver_66 c ?_
    by_cases z : nI (gp_over (c_Pp C t j)) ≤ (gp_bm (fun _ => true) (fun v => nI (gp_over (c_Pp C t v))) j).2
    · rw [if_pos z]
      rw [hs, if_pos z] at ihj
      intro v e
      rw [e, nI_1]
      exact ihj ν (by omega) a ⟨j, b⟩ h
    · rw [if_neg z]
      rw [hs, if_neg z] at ihj
      refine s_allOver_66 c ?_
      intro v e
      rw [e, nI_1]
      exact ihj ν (by omega) a ⟨j, b⟩ h
theorem c_pa {C : gp_C} {μ : gk_St} (hK : gp_K C μ) {t w : Nat} (ht : t < 24) (hw : w < 2) {Q : Int32 → gk_St → Prop} (h : ∀ ν, gp_K C ν → Q (v_pc C t w) ν) : w_X7_pace 0 (nI t) (nI w) μ Q := by
  unfold w_X7_pace
  refine s_mom_y ht ?_
  rw [if_neg i1n0]
  refine s_wi (m := 1) (by omega) (by omega) ?_
  rw [if_neg i1n0]
  refine s_plan hK (fun ν a b c d => ?_)
  refine ⟨5, ?_⟩
  refine c_paL ht 4 0 ν (by omega) a ⟨c_pc C t, ?_⟩ (fun ξ hK => ?_)
  · unfold c_Pp
    rw [gp_u_id rfl]
    exact b
  · refine gp_c2 hw (fun z => ?_) (fun z => ?_) <;> subst z <;> exact h ξ hK
set_option maxHeartbeats 4000000 in
theorem m_paL {C : gp_C} (hC : gp_cw C) {t : Nat} (ht : t < 24) {x2 : Int32} {Q : Int32 → gk_St → Prop} {K : Int32 → Int32 → Int32 → gk_St → Prop} : ∀ (i j : Nat) (μ : gk_St), j + i = 4 → (∃ q, gp_mc (c_nc C) (c_pl C) (c_so C) (c_ro C) (c_D C) (gp_u (c_pc C) t q) (fun _ => true) μ) → (∀ ν, gp_f5 μ ν → K x2 (gp_bm (fun _ => true) (fun v => nI (gp_over (c_Pp C t v))) 4).1 (gp_bm (fun _ => true) (fun v => nI (gp_over (c_Pp C t v))) 4).2 ν) → w_X8_paceOf_l12 Q K 101 (i + 1) (nI t) x2 (gp_bm (fun _ => true) (fun v => nI (gp_over (c_Pp C t v))) j).1 (gp_bm (fun _ => true) (fun v => nI (gp_over (c_Pp C t v))) j).2 (nI j) μ := by
  intro i
  induction i with
  | zero =>
    intro j μ hj hp h
    have e : j = 4 := by omega
    subst e
    unfold w_X8_paceOf_l12
    rw [if_pos (show (4 : Int32) ≤ nI 4 by decide)]
    exact h μ gp_f5_rf
  | succ i ih =>
    intro j μ hj ⟨q, hp⟩ h
    have ihj := ih (j + 1)
    have hs : gp_bm (fun _ => true) (fun v => nI (gp_over (c_Pp C t v))) (j + 1) = if nI (gp_over (c_Pp C t j)) ≤ (gp_bm (fun _ => true) (fun v => nI (gp_over (c_Pp C t v))) j).2 then gp_bm (fun _ => true) (fun v => nI (gp_over (c_Pp C t v))) j else (nI j, nI (gp_over (c_Pp C t j))) := rfl
    unfold w_X8_paceOf_l12
    rw [if_neg (show ¬ (4 : Int32) ≤ nI j from fun q => absurd ((nI_leI (a := 4) (by omega) (by omega)).mp q) (by omega)), rf_101_16, kc (k := t) (by omega)]
    refine ⟨vi (n := 24) (by omega) ln_114 (by omega), ?_⟩
    intro m2 e2
    have hp2 := mu_pc hp e2
    rw [gp_u_u] at hp2
    have F2 : gp_f5 μ m2 := by rw [e2]; exact gp_f5_up (Or.inl rfl)
    refine m_run (c_dw hC) (c_Pp_wf hC (by omega)) hp2 (fun ν a b c => ?_)
    have F3 := gp_f5_tr F2 (gp_f3_f5 c)
    refine m_bothOver a ?_
    show (if nI (gp_over (c_Pp C t j)) ≤ _ then _ else _)
    by_cases z : nI (gp_over (c_Pp C t j)) ≤ (gp_bm (fun _ => true) (fun v => nI (gp_over (c_Pp C t v))) j).2
    · rw [if_pos z]
      rw [hs, if_pos z] at ihj
      unfold w_X8_paceOf_j49
      show (if nI (gp_over (c_Pp C t j)) ≤ _ then _ else _)
      rw [if_pos z]
      intro v e
      rw [e, nI_1]
      exact ihj ν (by omega) ⟨j, b⟩ (fun ξ f => h ξ (gp_f5_tr F3 f))
    · rw [if_neg z]
      rw [hs, if_neg z] at ihj
      unfold w_X8_paceOf_j49
      show (if nI (gp_over (c_Pp C t j)) ≤ _ then _ else _)
      rw [if_neg z]
      intro v e
      rw [e, nI_1]
      exact ihj ν (by omega) ⟨j, b⟩ (fun ξ f => h ξ (gp_f5_tr F3 f))
theorem m_pa {C : gp_C} {μ : gk_St} (hK : gp_K C μ) {t w : Nat} (ht : t < 24) (hw : w < 2) {Q : Int32 → gk_St → Prop} (h : ∀ ν, gp_K C ν → gp_rd (c_tn C) (c_tb C) ν → Q (v_pc C t w) ν) : w_X8_paceOf 101 (nI t) (nI w) μ Q := by
  unfold w_X8_paceOf
  refine s_mastC hK (fun ν a b c d e => ?_)
  refine ⟨5, ?_⟩
  refine m_paL hK.1 ht 4 0 ν (by omega) ⟨c_pc C t, by rw [gp_u_id rfl]; exact c⟩ (fun ξ f => ?_)
  refine gp_c2 hw (fun z => ?_) (fun z => ?_) <;> subst z <;> exact h ξ (gp_K_fM (gp_f5_fM f) a) (gp_rd_f5 f b)
