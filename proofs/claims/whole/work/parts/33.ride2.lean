theorem upd_nI {f : Nat → Int32} {g : Nat → Nat} {n k x : Nat} (h : ∀ j, j < n → f j = nI (g j)) : ∀ j, j < n → upd f k (nI x) j = nI (gp_u g k x j) := by
  intro j hj
  unfold upd gp_u
  split
  · rfl
  · exact h j hj
theorem gp_u_id {f : Nat → Nat} {k x : Nat} (h : x = f k) : gp_u f k x = f := by
  funext j
  unfold gp_u
  split
  · rename_i e
    rw [e, h]
  · rfl
/-- all get out (the first moment and car apart) -/
def gp_lo (B : gp_A) (k st : Nat) : gp_A := (a_pl B, gp_u (a_in B) k 0, gp_u (a_ou B) k (a_ou B k + a_in B k), a_wt B, gp_u (a_ov B) st (a_ov B st + a_in B k), a_us B, a_fm B, a_fc B)
def gp_fst (B : gp_A) (m c : Int32) : gp_A := (a_pl B, a_in B, a_ou B, a_wt B, a_ov B, a_us B, m, c)
theorem gp_letOut_0 {A : gp_A} {k st t : Nat} (h : ¬ (0 < a_in A k ∧ a_fm A = -1)) : gp_letOut t A k st = gp_lo A k st := by
  unfold gp_letOut gp_lo
  rw [if_neg h, if_neg h]
theorem gp_letOut_1 {A : gp_A} {k st t : Nat} (h : 0 < a_in A k ∧ a_fm A = -1) : gp_letOut t A k st = gp_lo (gp_fst A (nI t) (nI k)) k st := by
  unfold gp_letOut
  rw [if_pos h, if_pos h]
  rfl
theorem nI_le0 {n : Nat} (h : n < 10000) : nI n ≤ 0 ↔ n = 0 := (nI_leI (b := 0) (by omega) (by omega)).trans (by omega)
theorem nI_mn {a b : Nat} (ha : a < 10000) (hb : b < 10000) : gk_mn (nI a) (nI b) = nI (min a b) := by
  unfold gk_mn
  by_cases h : b < a
  · rw [if_pos ((nI_ltI (by omega) (by omega)).mpr h)]
    congr 1
    omega
  · rw [if_neg (fun q => h ((nI_ltI (by omega) (by omega)).mp q))]
    congr 1
    omega
set_option maxHeartbeats 4000000 in
theorem s_j27_42 {P : gp_P} (hw : gp_wf P) {A : gp_A} {μ : gk_St} (hs : gp_rs P 42 A μ) {k st : Nat} (hk : k < p_nc P) (hst : st < 2) {Q : gk_St → Prop} (h : ∀ ν, gp_rs P 42 (gp_lo A k st) ν → gp_fs 42 μ ν → Q ν) : w_X2_letOut_j27 Q 42 (nI k) (nI st) μ := by
  have hk6 : k < 6 := Nat.lt_of_lt_of_le hk hw.1
  unfold w_X2_letOut_j27
  rw [rf_42_8, rf_42_5, rf_42_6, kc (k := k) (by omega), kc (k := st) (by omega)]
  refine ⟨vi hst ln_65 (by omega), vi hk6 ln_62 (by omega), vi hst ln_65 (by omega), ?_⟩
  intro m1 e1
  refine ⟨vi hk6 ln_63 (by omega), vi hk6 ln_62 (by omega), vi hk6 ln_63 (by omega), ?_⟩
  intro m2 e2
  refine ⟨vi hk6 ln_62 (by omega), ?_⟩
  intro m3 e3
  have a1 := (hs.2.1 k hk).2.1
  have a2 := (hs.2.1 k hk).2.2
  have a3 := (hs.2.2.1 st hst).2
  have e20 : m3 62 = upd (μ 62) k (nI 0) := by rw [e3, e2, e1]; simp [gk_up, nI_0]
  have e21 : m3 63 = upd (μ 63) k (nI (a_ou A k + a_in A k)) := by rw [e3, e2, e1]; simp [gk_up, ← nI_add, ← a1, ← a2]
  have e23 : m3 65 = upd (μ 65) st (nI (a_ov A st + a_in A k)) := by rw [e3, e2, e1]; simp [gk_up, ← nI_add, ← a1, ← a3]
  have eo : ∀ c, c ≠ 62 → c ≠ 63 → c ≠ 65 → m3 c = μ c := fun c c1 c2 c3 => by rw [e3, e2, e1]; simp [gk_up, c1, c2, c3]
  refine h m3 ⟨?_, fun j hj => ⟨?_, ?_, ?_⟩, fun s hs2 => ⟨?_, ?_⟩, ?_, ?_, ?_⟩ (fun c c1 c2 => eo c (by omega) (by omega) (by omega))
  · rw [eo 42 (by omega) (by omega) (by omega)]
    exact hs.1
  · show m3 61 j = _
    rw [eo 61 (by omega) (by omega) (by omega)]
    exact (hs.2.1 j hj).1
  · show m3 62 j = _
    rw [e20]
    exact upd_nI (fun i hi => (hs.2.1 i hi).2.1) j hj
  · show m3 63 j = _
    rw [e21]
    exact upd_nI (fun i hi => (hs.2.1 i hi).2.2) j hj
  · show m3 64 s = _
    rw [eo 64 (by omega) (by omega) (by omega)]
    exact (hs.2.2.1 s hs2).1
  · show m3 65 s = _
    rw [e23]
    exact upd_nI (fun i hi => (hs.2.2.1 i hi).2) s hs2
  · rw [eo 42 (by omega) (by omega) (by omega)]
    exact hs.2.2.2.1
  · rw [eo 42 (by omega) (by omega) (by omega)]
    exact hs.2.2.2.2.1
  · rw [eo 42 (by omega) (by omega) (by omega)]
    exact hs.2.2.2.2.2
set_option maxHeartbeats 4000000 in
theorem s_letOut_42 {P : gp_P} (hw : gp_wf P) {A : gp_A} {μ : gk_St} (hs : gp_rs P 42 A μ) (hm : gp_sm P A) {k st t : Nat} (hk : k < p_nc P) (hst : st < 2) {Q : gk_St → Prop} (h : ∀ ν, gp_rs P 42 (gp_letOut t A k st) ν → gp_fs 42 μ ν → Q ν) : w_X2_letOut 42 (nI k) (nI st) (nI t) μ Q := by
  have hk6 : k < 6 := Nat.lt_of_lt_of_le hk hw.1
  have hin := (hm.2 k hk).1
  have a1 : μ 62 k = nI (a_in A k) := (hs.2.1 k hk).2.1
  unfold w_X2_letOut
  rw [rf_42_5, kc (k := k) (by omega), a1]
  refine ⟨vi hk6 ln_62 (by omega), ?_⟩
  by_cases c : a_in A k = 0
  · rw [if_pos ((nI_le0 (by omega)).mpr c)]
    rw [gp_letOut_0 (by omega)] at h
    exact s_j27_42 hw hs hk hst h
  · rw [if_neg (fun q => c ((nI_le0 (by omega)).mp q)), hs.2.2.2.2.1]
    by_cases f : a_fm A = -1
    · rw [if_pos f]
      rw [gp_letOut_1 ⟨by omega, f⟩] at h
      intro m4 e4 m5 e5
      have e11 : m5 42 11 = nI t := by rw [e5, e4]; simp [gk_up, upd]
      have e12 : m5 42 12 = nI k := by rw [e5, e4]; simp [gk_up, upd]
      have eq : ∀ j, j ≠ 11 → j ≠ 12 → m5 42 j = μ 42 j := fun j c1 c2 => by rw [e5, e4]; simp [gk_up, upd, c1, c2]
      have eo : ∀ c, c ≠ 42 → m5 c = μ c := fun c c1 => by rw [e5, e4]; simp [gk_up, c1]
      refine s_j27_42 hw (A := gp_fst A (nI t) (nI k)) ⟨?_, fun j hj => ?_, fun s hs2 => ?_, ?_, e11, e12⟩ hk hst (fun ν h1 h2 => h ν h1 (fun c c1 c2 => (h2 c c1 c2).trans (eo c c1)))
      · rw [eq 9 (by omega) (by omega)]
        exact hs.1
      · rw [eo (42 + 19) (by omega), eo (42 + 20) (by omega), eo (42 + 21) (by omega)]
        exact hs.2.1 j hj
      · rw [eo (42 + 22) (by omega), eo (42 + 23) (by omega)]
        exact hs.2.2.1 s hs2
      · rw [eq 10 (by omega) (by omega)]
        exact hs.2.2.2.1
    · rw [if_neg f]
      rw [gp_letOut_0 (fun q => f q.2)] at h
      exact s_j27_42 hw hs hk hst h
set_option maxHeartbeats 4000000 in
theorem s_letIn_42 {P : gp_P} (hw : gp_wf P) {A : gp_A} {μ : gk_St} (hs : gp_rs P 42 A μ) (hm : gp_sm P A) {k st room : Nat} (hk : k < p_nc P) (hst : st < 2) (hro : room < 1000) {Q : gk_St → Prop} (h : ∀ ν, gp_rs P 42 (gp_letIn A k st room) ν → gp_fs 42 μ ν → Q ν) : w_X2_letIn 42 (nI k) (nI st) (nI room) μ Q := by
  have hk6 : k < 6 := Nat.lt_of_lt_of_le hk hw.1
  have hwt := hm.1 st hst
  have a1 : μ 62 k = nI (a_in A k) := (hs.2.1 k hk).2.1
  have a2 : μ 64 st = nI (a_wt A st) := (hs.2.2.1 st hst).1
  unfold w_X2_letIn
  rw [rf_42_7, rf_42_5, kc (k := k) (by omega), kc (k := st) (by omega)]
  refine ⟨vi hst ln_64 (by omega), ?_⟩
  intro v1 e1
  rw [a2, nI_mn (by omega) (by omega)] at e1
  subst e1
  by_cases c : min (a_wt A st) room = 0
  · rw [if_pos ((nI_le0 (by omega)).mpr c)]
    refine h μ ?_ gp_fs_rf
    have e9 : gp_letIn A k st room = A := by
      unfold gp_letIn
      rw [if_neg (by omega), gp_u_id (by omega), gp_u_id (by omega)]
      rfl
    rw [e9]
    exact hs
  · rw [if_neg (fun q => c ((nI_le0 (by omega)).mp q))]
    refine ⟨vi hst ln_64 (by omega), vi hst ln_64 (by omega), ?_⟩
    intro m2 e2
    refine ⟨vi hk6 ln_62 (by omega), vi hk6 ln_62 (by omega), ?_⟩
    intro m3 e3 m4 e4
    have e20 : m4 62 = upd (μ 62) k (nI (a_in A k + min (a_wt A st) room)) := by rw [e4, e3, e2]; simp [gk_up, ← nI_add, ← a1]
    have e22 : m4 64 = upd (μ 64) st (nI (a_wt A st - min (a_wt A st) room)) := by rw [e4, e3, e2, ← pk_sub (by omega), ← a2]; simp [gk_up]
    have e10 : m4 42 10 = a_us A ||| ((1 : Int32) <<< (nI k &&& 31)) := by rw [e4, e3, e2, ← hs.2.2.2.1]; simp [gk_up, upd]
    have eq : ∀ j, j ≠ 10 → m4 42 j = μ 42 j := fun j c1 => by rw [e4, e3, e2]; simp [gk_up, upd, c1]
    have eo : ∀ c, c ≠ 42 → c ≠ 62 → c ≠ 64 → m4 c = μ c := fun c c1 c2 c3 => by rw [e4, e3, e2]; simp [gk_up, c1, c2, c3]
    refine h m4 ⟨?_, fun j hj => ⟨?_, ?_, ?_⟩, fun s hs2 => ⟨?_, ?_⟩, ?_, ?_, ?_⟩ (fun c c1 c2 => eo c c1 (by omega) (by omega))
    · rw [eq 9 (by omega)]
      exact hs.1
    · show m4 61 j = _
      rw [eo 61 (by omega) (by omega) (by omega)]
      exact (hs.2.1 j hj).1
    · show m4 62 j = _
      rw [e20]
      exact upd_nI (fun i hi => (hs.2.1 i hi).2.1) j hj
    · show m4 63 j = _
      rw [eo 63 (by omega) (by omega) (by omega)]
      exact (hs.2.1 j hj).2.2
    · show m4 64 s = _
      rw [e22]
      exact upd_nI (fun i hi => (hs.2.2.1 i hi).1) s hs2
    · show m4 65 s = _
      rw [eo 65 (by omega) (by omega) (by omega)]
      exact (hs.2.2.1 s hs2).2
    · rw [e10]
      show _ = if 0 < min (a_wt A st) room then _ else _
      rw [if_pos (by omega)]
    · rw [eq 11 (by omega)]
      exact hs.2.2.2.2.1
    · rw [eq 12 (by omega)]
      exact hs.2.2.2.2.2
set_option maxHeartbeats 4000000 in
theorem s_j27_66 {P : gp_P} (hw : gp_wf P) {A : gp_A} {μ : gk_St} (hs : gp_rs P 66 A μ) {k st : Nat} (hk : k < p_nc P) (hst : st < 2) {Q : gk_St → Prop} (h : ∀ ν, gp_rs P 66 (gp_lo A k st) ν → gp_fs 66 μ ν → Q ν) : w_X2_letOut_j27 Q 66 (nI k) (nI st) μ := by
  have hk6 : k < 6 := Nat.lt_of_lt_of_le hk hw.1
  unfold w_X2_letOut_j27
  rw [rf_66_8, rf_66_5, rf_66_6, kc (k := k) (by omega), kc (k := st) (by omega)]
  refine ⟨vi hst ln_89 (by omega), vi hk6 ln_86 (by omega), vi hst ln_89 (by omega), ?_⟩
  intro m1 e1
  refine ⟨vi hk6 ln_87 (by omega), vi hk6 ln_86 (by omega), vi hk6 ln_87 (by omega), ?_⟩
  intro m2 e2
  refine ⟨vi hk6 ln_86 (by omega), ?_⟩
  intro m3 e3
  have a1 := (hs.2.1 k hk).2.1
  have a2 := (hs.2.1 k hk).2.2
  have a3 := (hs.2.2.1 st hst).2
  have e20 : m3 86 = upd (μ 86) k (nI 0) := by rw [e3, e2, e1]; simp [gk_up, nI_0]
  have e21 : m3 87 = upd (μ 87) k (nI (a_ou A k + a_in A k)) := by rw [e3, e2, e1]; simp [gk_up, ← nI_add, ← a1, ← a2]
  have e23 : m3 89 = upd (μ 89) st (nI (a_ov A st + a_in A k)) := by rw [e3, e2, e1]; simp [gk_up, ← nI_add, ← a1, ← a3]
  have eo : ∀ c, c ≠ 86 → c ≠ 87 → c ≠ 89 → m3 c = μ c := fun c c1 c2 c3 => by rw [e3, e2, e1]; simp [gk_up, c1, c2, c3]
  refine h m3 ⟨?_, fun j hj => ⟨?_, ?_, ?_⟩, fun s hs2 => ⟨?_, ?_⟩, ?_, ?_, ?_⟩ (fun c c1 c2 => eo c (by omega) (by omega) (by omega))
  · rw [eo 66 (by omega) (by omega) (by omega)]
    exact hs.1
  · show m3 85 j = _
    rw [eo 85 (by omega) (by omega) (by omega)]
    exact (hs.2.1 j hj).1
  · show m3 86 j = _
    rw [e20]
    exact upd_nI (fun i hi => (hs.2.1 i hi).2.1) j hj
  · show m3 87 j = _
    rw [e21]
    exact upd_nI (fun i hi => (hs.2.1 i hi).2.2) j hj
  · show m3 88 s = _
    rw [eo 88 (by omega) (by omega) (by omega)]
    exact (hs.2.2.1 s hs2).1
  · show m3 89 s = _
    rw [e23]
    exact upd_nI (fun i hi => (hs.2.2.1 i hi).2) s hs2
  · rw [eo 66 (by omega) (by omega) (by omega)]
    exact hs.2.2.2.1
  · rw [eo 66 (by omega) (by omega) (by omega)]
    exact hs.2.2.2.2.1
  · rw [eo 66 (by omega) (by omega) (by omega)]
    exact hs.2.2.2.2.2
set_option maxHeartbeats 4000000 in
theorem s_letOut_66 {P : gp_P} (hw : gp_wf P) {A : gp_A} {μ : gk_St} (hs : gp_rs P 66 A μ) (hm : gp_sm P A) {k st t : Nat} (hk : k < p_nc P) (hst : st < 2) {Q : gk_St → Prop} (h : ∀ ν, gp_rs P 66 (gp_letOut t A k st) ν → gp_fs 66 μ ν → Q ν) : w_X2_letOut 66 (nI k) (nI st) (nI t) μ Q := by
  have hk6 : k < 6 := Nat.lt_of_lt_of_le hk hw.1
  have hin := (hm.2 k hk).1
  have a1 : μ 86 k = nI (a_in A k) := (hs.2.1 k hk).2.1
  unfold w_X2_letOut
  rw [rf_66_5, kc (k := k) (by omega), a1]
  refine ⟨vi hk6 ln_86 (by omega), ?_⟩
  by_cases c : a_in A k = 0
  · rw [if_pos ((nI_le0 (by omega)).mpr c)]
    rw [gp_letOut_0 (by omega)] at h
    exact s_j27_66 hw hs hk hst h
  · rw [if_neg (fun q => c ((nI_le0 (by omega)).mp q)), hs.2.2.2.2.1]
    by_cases f : a_fm A = -1
    · rw [if_pos f]
      rw [gp_letOut_1 ⟨by omega, f⟩] at h
      intro m4 e4 m5 e5
      have e11 : m5 66 11 = nI t := by rw [e5, e4]; simp [gk_up, upd]
      have e12 : m5 66 12 = nI k := by rw [e5, e4]; simp [gk_up, upd]
      have eq : ∀ j, j ≠ 11 → j ≠ 12 → m5 66 j = μ 66 j := fun j c1 c2 => by rw [e5, e4]; simp [gk_up, upd, c1, c2]
      have eo : ∀ c, c ≠ 66 → m5 c = μ c := fun c c1 => by rw [e5, e4]; simp [gk_up, c1]
      refine s_j27_66 hw (A := gp_fst A (nI t) (nI k)) ⟨?_, fun j hj => ?_, fun s hs2 => ?_, ?_, e11, e12⟩ hk hst (fun ν h1 h2 => h ν h1 (fun c c1 c2 => (h2 c c1 c2).trans (eo c c1)))
      · rw [eq 9 (by omega) (by omega)]
        exact hs.1
      · rw [eo (66 + 19) (by omega), eo (66 + 20) (by omega), eo (66 + 21) (by omega)]
        exact hs.2.1 j hj
      · rw [eo (66 + 22) (by omega), eo (66 + 23) (by omega)]
        exact hs.2.2.1 s hs2
      · rw [eq 10 (by omega) (by omega)]
        exact hs.2.2.2.1
    · rw [if_neg f]
      rw [gp_letOut_0 (fun q => f q.2)] at h
      exact s_j27_66 hw hs hk hst h
set_option maxHeartbeats 4000000 in
theorem s_letIn_66 {P : gp_P} (hw : gp_wf P) {A : gp_A} {μ : gk_St} (hs : gp_rs P 66 A μ) (hm : gp_sm P A) {k st room : Nat} (hk : k < p_nc P) (hst : st < 2) (hro : room < 1000) {Q : gk_St → Prop} (h : ∀ ν, gp_rs P 66 (gp_letIn A k st room) ν → gp_fs 66 μ ν → Q ν) : w_X2_letIn 66 (nI k) (nI st) (nI room) μ Q := by
  have hk6 : k < 6 := Nat.lt_of_lt_of_le hk hw.1
  have hwt := hm.1 st hst
  have a1 : μ 86 k = nI (a_in A k) := (hs.2.1 k hk).2.1
  have a2 : μ 88 st = nI (a_wt A st) := (hs.2.2.1 st hst).1
  unfold w_X2_letIn
  rw [rf_66_7, rf_66_5, kc (k := k) (by omega), kc (k := st) (by omega)]
  refine ⟨vi hst ln_88 (by omega), ?_⟩
  intro v1 e1
  rw [a2, nI_mn (by omega) (by omega)] at e1
  subst e1
  by_cases c : min (a_wt A st) room = 0
  · rw [if_pos ((nI_le0 (by omega)).mpr c)]
    refine h μ ?_ gp_fs_rf
    have e9 : gp_letIn A k st room = A := by
      unfold gp_letIn
      rw [if_neg (by omega), gp_u_id (by omega), gp_u_id (by omega)]
      rfl
    rw [e9]
    exact hs
  · rw [if_neg (fun q => c ((nI_le0 (by omega)).mp q))]
    refine ⟨vi hst ln_88 (by omega), vi hst ln_88 (by omega), ?_⟩
    intro m2 e2
    refine ⟨vi hk6 ln_86 (by omega), vi hk6 ln_86 (by omega), ?_⟩
    intro m3 e3 m4 e4
    have e20 : m4 86 = upd (μ 86) k (nI (a_in A k + min (a_wt A st) room)) := by rw [e4, e3, e2]; simp [gk_up, ← nI_add, ← a1]
    have e22 : m4 88 = upd (μ 88) st (nI (a_wt A st - min (a_wt A st) room)) := by rw [e4, e3, e2, ← pk_sub (by omega), ← a2]; simp [gk_up]
    have e10 : m4 66 10 = a_us A ||| ((1 : Int32) <<< (nI k &&& 31)) := by rw [e4, e3, e2, ← hs.2.2.2.1]; simp [gk_up, upd]
    have eq : ∀ j, j ≠ 10 → m4 66 j = μ 66 j := fun j c1 => by rw [e4, e3, e2]; simp [gk_up, upd, c1]
    have eo : ∀ c, c ≠ 66 → c ≠ 86 → c ≠ 88 → m4 c = μ c := fun c c1 c2 c3 => by rw [e4, e3, e2]; simp [gk_up, c1, c2, c3]
    refine h m4 ⟨?_, fun j hj => ⟨?_, ?_, ?_⟩, fun s hs2 => ⟨?_, ?_⟩, ?_, ?_, ?_⟩ (fun c c1 c2 => eo c c1 (by omega) (by omega))
    · rw [eq 9 (by omega)]
      exact hs.1
    · show m4 85 j = _
      rw [eo 85 (by omega) (by omega) (by omega)]
      exact (hs.2.1 j hj).1
    · show m4 86 j = _
      rw [e20]
      exact upd_nI (fun i hi => (hs.2.1 i hi).2.1) j hj
    · show m4 87 j = _
      rw [eo 87 (by omega) (by omega) (by omega)]
      exact (hs.2.1 j hj).2.2
    · show m4 88 s = _
      rw [e22]
      exact upd_nI (fun i hi => (hs.2.2.1 i hi).1) s hs2
    · show m4 89 s = _
      rw [eo 89 (by omega) (by omega) (by omega)]
      exact (hs.2.2.1 s hs2).2
    · rw [e10]
      show _ = if 0 < min (a_wt A st) room then _ else _
      rw [if_pos (by omega)]
    · rw [eq 11 (by omega)]
      exact hs.2.2.2.2.1
    · rw [eq 12 (by omega)]
      exact hs.2.2.2.2.2
