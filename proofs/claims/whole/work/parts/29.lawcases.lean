def ok_type (Inv : gk_St → Prop) : Prop := ∀ (μ : gk_St) (x1 x2 : Int32), Inv μ → w_X7_type 0 x1 x2 μ (fun r1 m1 => w_X8_type 101 x1 x2 m1 (fun r2 m2 => r1 = r2 ∧ Inv m2))
def ok_wipe (Inv : gk_St → Prop) : Prop := ∀ (μ : gk_St) (x1 : Int32), Inv μ → w_X7_wipe 0 x1 μ (fun r1 m1 => w_X8_wipe 101 x1 m1 (fun r2 m2 => r1 = r2 ∧ Inv m2))
def ok_undo (Inv : gk_St → Prop) : Prop := ∀ (μ : gk_St) (x1 : Int32), Inv μ → w_X7_undo 0 x1 μ (fun r1 m1 => w_X8_undo 101 x1 m1 (fun r2 m2 => r1 = r2 ∧ Inv m2))
def ok_fault (Inv : gk_St → Prop) : Prop := ∀ (μ : gk_St) (x1 : Int32), Inv μ → w_X7_fault 0 x1 μ (fun r1 m1 => w_X8_fault 101 x1 m1 (fun r2 m2 => r1 = r2 ∧ Inv m2))
def ok_car (Inv : gk_St → Prop) : Prop := ∀ (μ : gk_St) (x1 x2 : Int32), Inv μ → w_X7_car 0 x1 x2 μ (fun r1 m1 => w_X8_car 101 x1 x2 m1 (fun r2 m2 => r1 = r2 ∧ Inv m2))
def ok_coming (Inv : gk_St → Prop) : Prop := ∀ (μ : gk_St) (x1 x2 : Int32), Inv μ → w_X7_coming 0 x1 x2 μ (fun r1 m1 => w_X8_coming 101 x1 x2 m1 (fun r2 m2 => r1 = r2 ∧ Inv m2))
def ok_speed (Inv : gk_St → Prop) : Prop := ∀ (μ : gk_St) (x1 : Int32), Inv μ → w_X7_speed 0 x1 μ (fun r1 m1 => w_X8_speed 101 x1 m1 (fun r2 m2 => r1 = r2 ∧ Inv m2))
def ok_event (Inv : gk_St → Prop) : Prop := ∀ (μ : gk_St) (x1 x2 x3 : Int32), Inv μ → w_X7_event 0 x1 x2 x3 μ (fun r1 m1 => w_X8_event 101 x1 x2 x3 m1 (fun r2 m2 => r1 = r2 ∧ Inv m2))
def ok_back (Inv : gk_St → Prop) : Prop := ∀ (μ : gk_St), Inv μ → w_X7_back 0  μ (fun r1 m1 => w_X8_back 101  m1 (fun r2 m2 => r1 = r2 ∧ Inv m2))
def ok_read (Inv : gk_St → Prop) : Prop := ∀ (μ : gk_St) (x1 : Int32), Inv μ → w_X7_read 0 x1 μ (fun r1 m1 => w_X8_read 101 x1 m1 (fun r2 m2 => r1 = r2 ∧ Inv m2))
def ok_at (Inv : gk_St → Prop) : Prop := ∀ (μ : gk_St) (x1 x2 x3 : Int32), Inv μ → w_X7_at 0 x1 x2 x3 μ (fun r1 m1 => w_X8_at 101 x1 x2 x3 m1 (fun r2 m2 => r1 = r2 ∧ Inv m2))
def ok_waits (Inv : gk_St → Prop) : Prop := ∀ (μ : gk_St) (x1 x2 : Int32), Inv μ → w_X7_waits 0 x1 x2 μ (fun r1 m1 => w_X8_waits 101 x1 x2 m1 (fun r2 m2 => r1 = r2 ∧ Inv m2))
def ok_over (Inv : gk_St → Prop) : Prop := ∀ (μ : gk_St) (x1 : Int32), Inv μ → w_X7_over 0 x1 μ (fun r1 m1 => w_X8_over 101 x1 m1 (fun r2 m2 => r1 = r2 ∧ Inv m2))
def ok_sum (Inv : gk_St → Prop) : Prop := ∀ (μ : gk_St), Inv μ → w_X7_sum 0  μ (fun r1 m1 => w_X8_sum 101  m1 (fun r2 m2 => r1 = r2 ∧ Inv m2))
def ok_crowd (Inv : gk_St → Prop) : Prop := ∀ (μ : gk_St) (x1 x2 : Int32), Inv μ → w_X7_crowd 0 x1 x2 μ (fun r1 m1 => w_X8_crowd 101 x1 x2 m1 (fun r2 m2 => r1 = r2 ∧ Inv m2))
def ok_first (Inv : gk_St → Prop) : Prop := ∀ (μ : gk_St) (x1 : Int32), Inv μ → w_X7_first 0 x1 μ (fun r1 m1 => w_X8_first 101 x1 m1 (fun r2 m2 => r1 = r2 ∧ Inv m2))
def ok_carried (Inv : gk_St → Prop) : Prop := ∀ (μ : gk_St) (x1 : Int32), Inv μ → w_X7_carried 0 x1 μ (fun r1 m1 => w_X8_carried 101 x1 m1 (fun r2 m2 => r1 = r2 ∧ Inv m2))
def ok_idle (Inv : gk_St → Prop) : Prop := ∀ (μ : gk_St), Inv μ → w_X7_idle 0  μ (fun r1 m1 => w_X8_idle 101  m1 (fun r2 m2 => r1 = r2 ∧ Inv m2))
def ok_left (Inv : gk_St → Prop) : Prop := ∀ (μ : gk_St), Inv μ → w_X7_left 0  μ (fun r1 m1 => w_X8_left 101  m1 (fun r2 m2 => r1 = r2 ∧ Inv m2))
def ok_hang (Inv : gk_St → Prop) : Prop := ∀ (μ : gk_St) (x1 x2 : Int32), Inv μ → w_X7_hang 0 x1 x2 μ (fun r1 m1 => w_X8_hang 101 x1 x2 m1 (fun r2 m2 => r1 = r2 ∧ Inv m2))
def ok_pace (Inv : gk_St → Prop) : Prop := ∀ (μ : gk_St) (x1 x2 : Int32), Inv μ → w_X7_pace 0 x1 x2 μ (fun r1 m1 => w_X8_pace 101 x1 x2 m1 (fun r2 m2 => r1 = r2 ∧ Inv m2))
def ok_cheap (Inv : gk_St → Prop) : Prop := ∀ (μ : gk_St) (x1 x2 : Int32), Inv μ → w_X7_cheap 0 x1 x2 μ (fun r1 m1 => w_X8_cheap 101 x1 x2 m1 (fun r2 m2 => r1 = r2 ∧ Inv m2))
def ok_spare (Inv : gk_St → Prop) : Prop := ∀ (μ : gk_St) (x1 : Int32), Inv μ → w_X7_spare 0 x1 μ (fun r1 m1 => w_X8_spare 101 x1 m1 (fun r2 m2 => r1 = r2 ∧ Inv m2))
def ok_seen (Inv : gk_St → Prop) : Prop := ∀ (μ : gk_St) (x1 x2 x3 : Int32), Inv μ → w_X7_seen 0 x1 x2 x3 μ (fun r1 m1 => w_X8_seen 101 x1 x2 x3 m1 (fun r2 m2 => r1 = r2 ∧ Inv m2))
def ok_forget (Inv : gk_St → Prop) : Prop := ∀ (μ : gk_St), Inv μ → w_X7_forget 0  μ (fun r1 m1 => w_X8_forget 101  m1 (fun r2 m2 => r1 = r2 ∧ Inv m2))
def ok_never (Inv : gk_St → Prop) : Prop := ∀ (μ : gk_St), Inv μ → w_X7_never 0  μ (fun r1 m1 => w_X8_never 101  m1 (fun r2 m2 => r1 = r2 ∧ Inv m2))
def ok_was (Inv : gk_St → Prop) : Prop := ∀ (μ : gk_St) (x1 x2 : Int32), Inv μ → w_X7_was 0 x1 x2 μ (fun r1 m1 => w_X8_was 101 x1 x2 m1 (fun r2 m2 => r1 = r2 ∧ Inv m2))
def ok_ask (Inv : gk_St → Prop) : Prop := ∀ (μ : gk_St) (x1 : Int32), Inv μ → w_X7_ask 0 x1 μ (fun r1 m1 => w_X8_ask 101 x1 m1 (fun r2 m2 => r1 = r2 ∧ Inv m2))
def ok_chance (Inv : gk_St → Prop) : Prop := ∀ (μ : gk_St) (x1 x2 x3 : Int32), Inv μ → w_X7_chance 0 x1 x2 x3 μ (fun r1 m1 => w_X8_chance 101 x1 x2 x3 m1 (fun r2 m2 => r1 = r2 ∧ Inv m2))
def ok_years (Inv : gk_St → Prop) : Prop := ∀ (μ : gk_St) (x1 x2 x3 : Int32), Inv μ → w_X7_years 0 x1 x2 x3 μ (fun r1 m1 => w_X8_years 101 x1 x2 x3 m1 (fun r2 m2 => r1 = r2 ∧ Inv m2))
def ok_sheet (Inv : gk_St → Prop) : Prop := ∀ (μ : gk_St) (x1 x2 x3 : Int32), Inv μ → w_X7_sheet 0 x1 x2 x3 μ (fun r1 m1 => w_X8_sheet 101 x1 x2 x3 m1 (fun r2 m2 => r1 = r2 ∧ Inv m2))
def ok_lose (Inv : gk_St → Prop) : Prop := ∀ (μ : gk_St) (x1 : Int32), Inv μ → w_X7_lose 0 x1 μ (fun r1 m1 => w_X8_lose 101 x1 m1 (fun r2 m2 => r1 = r2 ∧ Inv m2))
def ok_put (Inv : gk_St → Prop) : Prop := ∀ (μ : gk_St) (x1 x2 x3 x4 : Int32), Inv μ → w_X7_put 0 x1 x2 x3 x4 μ (fun r1 m1 => w_X8_put 101 x1 x2 x3 x4 m1 (fun r2 m2 => r1 = r2 ∧ Inv m2))
def ok_get (Inv : gk_St → Prop) : Prop := ∀ (μ : gk_St) (x1 x2 x3 : Int32), Inv μ → w_X7_get 0 x1 x2 x3 μ (fun r1 m1 => w_X8_get 101 x1 x2 x3 m1 (fun r2 m2 => r1 = r2 ∧ Inv m2))
def ok_copy (Inv : gk_St → Prop) : Prop := ∀ (μ : gk_St) (x1 x2 x3 x4 x5 : Int32), Inv μ → w_X7_copy 0 x1 x2 x3 x4 x5 μ (fun r1 m1 => w_X8_copy 101 x1 x2 x3 x4 x5 m1 (fun r2 m2 => r1 = r2 ∧ Inv m2))
def ok_write (Inv : gk_St → Prop) : Prop := ∀ (μ : gk_St) (x1 x2 : Int32), Inv μ → w_X7_write 0 x1 x2 μ (fun r1 m1 => w_X8_write 101 x1 x2 m1 (fun r2 m2 => r1 = r2 ∧ Inv m2))
def ok_count (Inv : gk_St → Prop) : Prop := ∀ (μ : gk_St) (x1 : Int32), Inv μ → w_X7_count 0 x1 μ (fun r1 m1 => w_X8_count 101 x1 m1 (fun r2 m2 => r1 = r2 ∧ Inv m2))
def ok_digest (Inv : gk_St → Prop) : Prop := ∀ (μ : gk_St), Inv μ → w_X7_digest 0  μ (fun r1 m1 => w_X8_digest 101  m1 (fun r2 m2 => r1 = r2 ∧ Inv m2))
def ok_all (Inv : gk_St → Prop) : Prop := ok_type Inv ∧ ok_wipe Inv ∧ ok_undo Inv ∧ ok_fault Inv ∧ ok_car Inv ∧ ok_coming Inv ∧ ok_speed Inv ∧ ok_event Inv ∧ ok_back Inv ∧ ok_read Inv ∧ ok_at Inv ∧ ok_waits Inv ∧ ok_over Inv ∧ ok_sum Inv ∧ ok_crowd Inv ∧ ok_first Inv ∧ ok_carried Inv ∧ ok_idle Inv ∧ ok_left Inv ∧ ok_hang Inv ∧ ok_pace Inv ∧ ok_cheap Inv ∧ ok_spare Inv ∧ ok_seen Inv ∧ ok_forget Inv ∧ ok_never Inv ∧ ok_was Inv ∧ ok_ask Inv ∧ ok_chance Inv ∧ ok_years Inv ∧ ok_sheet Inv ∧ ok_lose Inv ∧ ok_put Inv ∧ ok_get Inv ∧ ok_copy Inv ∧ ok_write Inv ∧ ok_count Inv ∧ ok_digest Inv
theorem gl_in {j k L : Nat} {x : Int32} (hx : x = nI j) (hk : k < 6) (hj : j + 6 ≤ L) (hL : L ≤ 3072) : vp_in (x + nI k) L := by
  rw [hx, nI_add]
  exact vp_in_nI (by omega) (by omega)
theorem gl_in0 {j L : Nat} {x : Int32} (hx : x = nI j) (hj : j + 6 ≤ L) (hL : L ≤ 3072) : vp_in x L := by
  rw [hx]
  exact vp_in_nI (by omega) (by omega)
theorem gl_cmp (x : Int64) : lg_cmp x x = 0 := by
  unfold lg_cmp
  simp
set_option maxRecDepth 100000 in
set_option maxHeartbeats 4000000 in
theorem la_type {Inv : gk_St → Prop} {L : Nat} {xs : Nat → Int32} {μ : gk_St} {i : Int32} {j : Nat} (hi : i = nI j) (hj : j + 6 ≤ L) (hL : L ≤ 3072) (ok : ok_type Inv) (hI : Inv μ) (k : ∀ m : gk_St, Inv m → GL L xs 1316 [(0, .ref 2000), (1, .ref 0), (2, .ref 101), (3, .int i)] [] m) : GL L xs 200 [(0, .ref 2000), (1, .ref 0), (2, .ref 101), (3, .int i)] [] μ := by
  have h := ok μ (xs (i + nI 1).toNatClampNeg) (xs (i + nI 2).toNatClampNeg) hI
  refine gl_aload_n 1 dL_law_200 rfl rfl ?_
  refine gl_aload_n 0 dL_law_201 rfl rfl ?_
  refine gl_iload_n 3 dL_law_202 rfl rfl ?_
  refine gl_iconst (v := nI 1) dL_law_203 (by decide) ?_
  refine gl_iadd dL_law_204 ?_
  refine gl_sld dL_law_205 (gl_in hi (k := 1) (by decide) hj hL) ?_
  refine gl_aload_n 0 dL_law_206 rfl rfl ?_
  refine gl_iload_n 3 dL_law_207 rfl rfl ?_
  refine gl_iconst (v := nI 2) dL_law_208 (by decide) ?_
  refine gl_iadd dL_law_209 ?_
  refine gl_sld dL_law_210 (gl_in hi (k := 2) (by decide) hj hL) ?_
  refine gl_callV (ci := 7) (d' := 10) [.int (xs (i + nI 1).toNatClampNeg), .int (xs (i + nI 2).toNatClampNeg)] dL_law_211 cw_RL_13 ki_X7_type ks_X7_type rfl (by decide) rfl rfl (Nat.le_of_ble_eq_true rfl) (by decide) (k_X7_type rfl h) (gl_ki (fun r1 m1 h => ?_))
  refine gl_aload_n 2 dL_law_214 rfl rfl ?_
  refine gl_aload_n 0 dL_law_215 rfl rfl ?_
  refine gl_iload_n 3 dL_law_216 rfl rfl ?_
  refine gl_iconst (v := nI 1) dL_law_217 (by decide) ?_
  refine gl_iadd dL_law_218 ?_
  refine gl_sld dL_law_219 (gl_in hi (k := 1) (by decide) hj hL) ?_
  refine gl_aload_n 0 dL_law_220 rfl rfl ?_
  refine gl_iload_n 3 dL_law_221 rfl rfl ?_
  refine gl_iconst (v := nI 2) dL_law_222 (by decide) ?_
  refine gl_iadd dL_law_223 ?_
  refine gl_sld dL_law_224 (gl_in hi (k := 2) (by decide) hj hL) ?_
  refine gl_callV (ci := 8) (d' := 2) [.int (xs (i + nI 1).toNatClampNeg), .int (xs (i + nI 2).toNatClampNeg)] dL_law_225 cw_RL_17 ki_X8_type ks_X8_type rfl (by decide) rfl rfl (Nat.le_of_ble_eq_true rfl) (by decide) (k_X8_type rfl h) (gl_ki (fun r2 m2 h => ?_))
  obtain ⟨e9, h⟩ := h
  refine gl_icmp_eq 1316 dL_law_228 (by decide) (fun _ => k _ h) (fun c9 => absurd e9 c9)
set_option maxRecDepth 100000 in
set_option maxHeartbeats 4000000 in
theorem la_wipe {Inv : gk_St → Prop} {L : Nat} {xs : Nat → Int32} {μ : gk_St} {i : Int32} {j : Nat} (hi : i = nI j) (hj : j + 6 ≤ L) (hL : L ≤ 3072) (ok : ok_wipe Inv) (hI : Inv μ) (k : ∀ m : gk_St, Inv m → GL L xs 1316 [(0, .ref 2000), (1, .ref 0), (2, .ref 101), (3, .int i)] [] m) : GL L xs 233 [(0, .ref 2000), (1, .ref 0), (2, .ref 101), (3, .int i)] [] μ := by
  have h := ok μ (xs (i + nI 1).toNatClampNeg) hI
  refine gl_aload_n 1 dL_law_233 rfl rfl ?_
  refine gl_aload_n 0 dL_law_234 rfl rfl ?_
  refine gl_iload_n 3 dL_law_235 rfl rfl ?_
  refine gl_iconst (v := nI 1) dL_law_236 (by decide) ?_
  refine gl_iadd dL_law_237 ?_
  refine gl_sld dL_law_238 (gl_in hi (k := 1) (by decide) hj hL) ?_
  refine gl_callV (ci := 7) (d' := 10) [.int (xs (i + nI 1).toNatClampNeg)] dL_law_239 cw_RL_18 ki_X7_wipe ks_X7_wipe rfl (by decide) rfl rfl (Nat.le_of_ble_eq_true rfl) (by decide) (k_X7_wipe rfl h) (gl_ki (fun r1 m1 h => ?_))
  refine gl_aload_n 2 dL_law_242 rfl rfl ?_
  refine gl_aload_n 0 dL_law_243 rfl rfl ?_
  refine gl_iload_n 3 dL_law_244 rfl rfl ?_
  refine gl_iconst (v := nI 1) dL_law_245 (by decide) ?_
  refine gl_iadd dL_law_246 ?_
  refine gl_sld dL_law_247 (gl_in hi (k := 1) (by decide) hj hL) ?_
  refine gl_callV (ci := 8) (d' := 2) [.int (xs (i + nI 1).toNatClampNeg)] dL_law_248 cw_RL_22 ki_X8_wipe ks_X8_wipe rfl (by decide) rfl rfl (Nat.le_of_ble_eq_true rfl) (by decide) (k_X8_wipe rfl h) (gl_ki (fun r2 m2 h => ?_))
  obtain ⟨e9, h⟩ := h
  refine gl_icmp_eq 1316 dL_law_251 (by decide) (fun _ => k _ h) (fun c9 => absurd e9 c9)
set_option maxRecDepth 100000 in
set_option maxHeartbeats 4000000 in
theorem la_undo {Inv : gk_St → Prop} {L : Nat} {xs : Nat → Int32} {μ : gk_St} {i : Int32} {j : Nat} (hi : i = nI j) (hj : j + 6 ≤ L) (hL : L ≤ 3072) (ok : ok_undo Inv) (hI : Inv μ) (k : ∀ m : gk_St, Inv m → GL L xs 1316 [(0, .ref 2000), (1, .ref 0), (2, .ref 101), (3, .int i)] [] m) : GL L xs 256 [(0, .ref 2000), (1, .ref 0), (2, .ref 101), (3, .int i)] [] μ := by
  have h := ok μ (xs (i + nI 1).toNatClampNeg) hI
  refine gl_aload_n 1 dL_law_256 rfl rfl ?_
  refine gl_aload_n 0 dL_law_257 rfl rfl ?_
  refine gl_iload_n 3 dL_law_258 rfl rfl ?_
  refine gl_iconst (v := nI 1) dL_law_259 (by decide) ?_
  refine gl_iadd dL_law_260 ?_
  refine gl_sld dL_law_261 (gl_in hi (k := 1) (by decide) hj hL) ?_
  refine gl_callV (ci := 7) (d' := 10) [.int (xs (i + nI 1).toNatClampNeg)] dL_law_262 cw_RL_23 ki_X7_undo ks_X7_undo rfl (by decide) rfl rfl (Nat.le_of_ble_eq_true rfl) (by decide) (k_X7_undo rfl h) (gl_ki (fun r1 m1 h => ?_))
  refine gl_aload_n 2 dL_law_265 rfl rfl ?_
  refine gl_aload_n 0 dL_law_266 rfl rfl ?_
  refine gl_iload_n 3 dL_law_267 rfl rfl ?_
  refine gl_iconst (v := nI 1) dL_law_268 (by decide) ?_
  refine gl_iadd dL_law_269 ?_
  refine gl_sld dL_law_270 (gl_in hi (k := 1) (by decide) hj hL) ?_
  refine gl_callV (ci := 8) (d' := 2) [.int (xs (i + nI 1).toNatClampNeg)] dL_law_271 cw_RL_26 ki_X8_undo ks_X8_undo rfl (by decide) rfl rfl (Nat.le_of_ble_eq_true rfl) (by decide) (k_X8_undo rfl h) (gl_ki (fun r2 m2 h => ?_))
  obtain ⟨e9, h⟩ := h
  refine gl_icmp_eq 1316 dL_law_274 (by decide) (fun _ => k _ h) (fun c9 => absurd e9 c9)
set_option maxRecDepth 100000 in
set_option maxHeartbeats 4000000 in
theorem la_fault {Inv : gk_St → Prop} {L : Nat} {xs : Nat → Int32} {μ : gk_St} {i : Int32} {j : Nat} (hi : i = nI j) (hj : j + 6 ≤ L) (hL : L ≤ 3072) (ok : ok_fault Inv) (hI : Inv μ) (k : ∀ m : gk_St, Inv m → GL L xs 1316 [(0, .ref 2000), (1, .ref 0), (2, .ref 101), (3, .int i)] [] m) : GL L xs 279 [(0, .ref 2000), (1, .ref 0), (2, .ref 101), (3, .int i)] [] μ := by
  have h := ok μ (xs (i + nI 1).toNatClampNeg) hI
  refine gl_aload_n 1 dL_law_279 rfl rfl ?_
  refine gl_aload_n 0 dL_law_280 rfl rfl ?_
  refine gl_iload_n 3 dL_law_281 rfl rfl ?_
  refine gl_iconst (v := nI 1) dL_law_282 (by decide) ?_
  refine gl_iadd dL_law_283 ?_
  refine gl_sld dL_law_284 (gl_in hi (k := 1) (by decide) hj hL) ?_
  refine gl_callV (ci := 7) (d' := 0) [.int (xs (i + nI 1).toNatClampNeg)] dL_law_285 cw_RL_27 ki_X7_fault ks_X7_fault rfl (by decide) rfl rfl (Nat.le_of_ble_eq_true rfl) (by decide) (k_X7_fault rfl h) (gl_ki (fun r1 m1 h => ?_))
  refine gl_aload_n 2 dL_law_288 rfl rfl ?_
  refine gl_aload_n 0 dL_law_289 rfl rfl ?_
  refine gl_iload_n 3 dL_law_290 rfl rfl ?_
  refine gl_iconst (v := nI 1) dL_law_291 (by decide) ?_
  refine gl_iadd dL_law_292 ?_
  refine gl_sld dL_law_293 (gl_in hi (k := 1) (by decide) hj hL) ?_
  refine gl_callV (ci := 8) (d' := 5) [.int (xs (i + nI 1).toNatClampNeg)] dL_law_294 cw_RL_30 ki_X8_fault ks_X8_fault rfl (by decide) rfl rfl (Nat.le_of_ble_eq_true rfl) (by decide) (k_X8_fault rfl h) (gl_ki (fun r2 m2 h => ?_))
  obtain ⟨e9, h⟩ := h
  refine gl_icmp_eq 1316 dL_law_297 (by decide) (fun _ => k _ h) (fun c9 => absurd e9 c9)
set_option maxRecDepth 100000 in
set_option maxHeartbeats 4000000 in
theorem la_car {Inv : gk_St → Prop} {L : Nat} {xs : Nat → Int32} {μ : gk_St} {i : Int32} {j : Nat} (hi : i = nI j) (hj : j + 6 ≤ L) (hL : L ≤ 3072) (ok : ok_car Inv) (hI : Inv μ) (k : ∀ m : gk_St, Inv m → GL L xs 1316 [(0, .ref 2000), (1, .ref 0), (2, .ref 101), (3, .int i)] [] m) : GL L xs 302 [(0, .ref 2000), (1, .ref 0), (2, .ref 101), (3, .int i)] [] μ := by
  have h := ok μ (xs (i + nI 1).toNatClampNeg) (xs (i + nI 2).toNatClampNeg) hI
  refine gl_aload_n 1 dL_law_302 rfl rfl ?_
  refine gl_aload_n 0 dL_law_303 rfl rfl ?_
  refine gl_iload_n 3 dL_law_304 rfl rfl ?_
  refine gl_iconst (v := nI 1) dL_law_305 (by decide) ?_
  refine gl_iadd dL_law_306 ?_
  refine gl_sld dL_law_307 (gl_in hi (k := 1) (by decide) hj hL) ?_
  refine gl_aload_n 0 dL_law_308 rfl rfl ?_
  refine gl_iload_n 3 dL_law_309 rfl rfl ?_
  refine gl_iconst (v := nI 2) dL_law_310 (by decide) ?_
  refine gl_iadd dL_law_311 ?_
  refine gl_sld dL_law_312 (gl_in hi (k := 2) (by decide) hj hL) ?_
  refine gl_callV (ci := 7) (d' := 2) [.int (xs (i + nI 1).toNatClampNeg), .int (xs (i + nI 2).toNatClampNeg)] dL_law_313 cw_RL_31 ki_X7_car ks_X7_car rfl (by decide) rfl rfl (Nat.le_of_ble_eq_true rfl) (by decide) (k_X7_car rfl h) (gl_ki (fun r1 m1 h => ?_))
  refine gl_aload_n 2 dL_law_316 rfl rfl ?_
  refine gl_aload_n 0 dL_law_317 rfl rfl ?_
  refine gl_iload_n 3 dL_law_318 rfl rfl ?_
  refine gl_iconst (v := nI 1) dL_law_319 (by decide) ?_
  refine gl_iadd dL_law_320 ?_
  refine gl_sld dL_law_321 (gl_in hi (k := 1) (by decide) hj hL) ?_
  refine gl_aload_n 0 dL_law_322 rfl rfl ?_
  refine gl_iload_n 3 dL_law_323 rfl rfl ?_
  refine gl_iconst (v := nI 2) dL_law_324 (by decide) ?_
  refine gl_iadd dL_law_325 ?_
  refine gl_sld dL_law_326 (gl_in hi (k := 2) (by decide) hj hL) ?_
  refine gl_callV (ci := 8) (d' := 7) [.int (xs (i + nI 1).toNatClampNeg), .int (xs (i + nI 2).toNatClampNeg)] dL_law_327 cw_RL_34 ki_X8_car ks_X8_car rfl (by decide) rfl rfl (Nat.le_of_ble_eq_true rfl) (by decide) (k_X8_car rfl h) (gl_ki (fun r2 m2 h => ?_))
  obtain ⟨e9, h⟩ := h
  refine gl_icmp_eq 1316 dL_law_330 (by decide) (fun _ => k _ h) (fun c9 => absurd e9 c9)
set_option maxRecDepth 100000 in
set_option maxHeartbeats 4000000 in
theorem la_coming {Inv : gk_St → Prop} {L : Nat} {xs : Nat → Int32} {μ : gk_St} {i : Int32} {j : Nat} (hi : i = nI j) (hj : j + 6 ≤ L) (hL : L ≤ 3072) (ok : ok_coming Inv) (hI : Inv μ) (k : ∀ m : gk_St, Inv m → GL L xs 1316 [(0, .ref 2000), (1, .ref 0), (2, .ref 101), (3, .int i)] [] m) : GL L xs 335 [(0, .ref 2000), (1, .ref 0), (2, .ref 101), (3, .int i)] [] μ := by
  have h := ok μ (xs (i + nI 1).toNatClampNeg) (xs (i + nI 2).toNatClampNeg) hI
  refine gl_aload_n 1 dL_law_335 rfl rfl ?_
  refine gl_aload_n 0 dL_law_336 rfl rfl ?_
  refine gl_iload_n 3 dL_law_337 rfl rfl ?_
  refine gl_iconst (v := nI 1) dL_law_338 (by decide) ?_
  refine gl_iadd dL_law_339 ?_
  refine gl_sld dL_law_340 (gl_in hi (k := 1) (by decide) hj hL) ?_
  refine gl_aload_n 0 dL_law_341 rfl rfl ?_
  refine gl_iload_n 3 dL_law_342 rfl rfl ?_
  refine gl_iconst (v := nI 2) dL_law_343 (by decide) ?_
  refine gl_iadd dL_law_344 ?_
  refine gl_sld dL_law_345 (gl_in hi (k := 2) (by decide) hj hL) ?_
  refine gl_callV (ci := 7) (d' := 1) [.int (xs (i + nI 1).toNatClampNeg), .int (xs (i + nI 2).toNatClampNeg)] dL_law_346 cw_RL_35 ki_X7_coming ks_X7_coming rfl (by decide) rfl rfl (Nat.le_of_ble_eq_true rfl) (by decide) (k_X7_coming rfl h) (gl_ki (fun r1 m1 h => ?_))
  refine gl_aload_n 2 dL_law_349 rfl rfl ?_
  refine gl_aload_n 0 dL_law_350 rfl rfl ?_
  refine gl_iload_n 3 dL_law_351 rfl rfl ?_
  refine gl_iconst (v := nI 1) dL_law_352 (by decide) ?_
  refine gl_iadd dL_law_353 ?_
  refine gl_sld dL_law_354 (gl_in hi (k := 1) (by decide) hj hL) ?_
  refine gl_aload_n 0 dL_law_355 rfl rfl ?_
  refine gl_iload_n 3 dL_law_356 rfl rfl ?_
  refine gl_iconst (v := nI 2) dL_law_357 (by decide) ?_
  refine gl_iadd dL_law_358 ?_
  refine gl_sld dL_law_359 (gl_in hi (k := 2) (by decide) hj hL) ?_
  refine gl_callV (ci := 8) (d' := 7) [.int (xs (i + nI 1).toNatClampNeg), .int (xs (i + nI 2).toNatClampNeg)] dL_law_360 cw_RL_38 ki_X8_coming ks_X8_coming rfl (by decide) rfl rfl (Nat.le_of_ble_eq_true rfl) (by decide) (k_X8_coming rfl h) (gl_ki (fun r2 m2 h => ?_))
  obtain ⟨e9, h⟩ := h
  refine gl_icmp_eq 1316 dL_law_363 (by decide) (fun _ => k _ h) (fun c9 => absurd e9 c9)
set_option maxRecDepth 100000 in
set_option maxHeartbeats 4000000 in
theorem la_speed {Inv : gk_St → Prop} {L : Nat} {xs : Nat → Int32} {μ : gk_St} {i : Int32} {j : Nat} (hi : i = nI j) (hj : j + 6 ≤ L) (hL : L ≤ 3072) (ok : ok_speed Inv) (hI : Inv μ) (k : ∀ m : gk_St, Inv m → GL L xs 1316 [(0, .ref 2000), (1, .ref 0), (2, .ref 101), (3, .int i)] [] m) : GL L xs 368 [(0, .ref 2000), (1, .ref 0), (2, .ref 101), (3, .int i)] [] μ := by
  have h := ok μ (xs (i + nI 1).toNatClampNeg) hI
  refine gl_aload_n 1 dL_law_368 rfl rfl ?_
  refine gl_aload_n 0 dL_law_369 rfl rfl ?_
  refine gl_iload_n 3 dL_law_370 rfl rfl ?_
  refine gl_iconst (v := nI 1) dL_law_371 (by decide) ?_
  refine gl_iadd dL_law_372 ?_
  refine gl_sld dL_law_373 (gl_in hi (k := 1) (by decide) hj hL) ?_
  refine gl_callV (ci := 7) (d' := 2) [.int (xs (i + nI 1).toNatClampNeg)] dL_law_374 cw_RL_39 ki_X7_speed ks_X7_speed rfl (by decide) rfl rfl (Nat.le_of_ble_eq_true rfl) (by decide) (k_X7_speed rfl h) (gl_ki (fun r1 m1 h => ?_))
  refine gl_aload_n 2 dL_law_377 rfl rfl ?_
  refine gl_aload_n 0 dL_law_378 rfl rfl ?_
  refine gl_iload_n 3 dL_law_379 rfl rfl ?_
  refine gl_iconst (v := nI 1) dL_law_380 (by decide) ?_
  refine gl_iadd dL_law_381 ?_
  refine gl_sld dL_law_382 (gl_in hi (k := 1) (by decide) hj hL) ?_
  refine gl_callV (ci := 8) (d' := 7) [.int (xs (i + nI 1).toNatClampNeg)] dL_law_383 cw_RL_42 ki_X8_speed ks_X8_speed rfl (by decide) rfl rfl (Nat.le_of_ble_eq_true rfl) (by decide) (k_X8_speed rfl h) (gl_ki (fun r2 m2 h => ?_))
  obtain ⟨e9, h⟩ := h
  refine gl_icmp_eq 1316 dL_law_386 (by decide) (fun _ => k _ h) (fun c9 => absurd e9 c9)
set_option maxRecDepth 100000 in
set_option maxHeartbeats 4000000 in
theorem la_event {Inv : gk_St → Prop} {L : Nat} {xs : Nat → Int32} {μ : gk_St} {i : Int32} {j : Nat} (hi : i = nI j) (hj : j + 6 ≤ L) (hL : L ≤ 3072) (ok : ok_event Inv) (hI : Inv μ) (k : ∀ m : gk_St, Inv m → GL L xs 1316 [(0, .ref 2000), (1, .ref 0), (2, .ref 101), (3, .int i)] [] m) : GL L xs 391 [(0, .ref 2000), (1, .ref 0), (2, .ref 101), (3, .int i)] [] μ := by
  have h := ok μ (xs (i + nI 1).toNatClampNeg) (xs (i + nI 2).toNatClampNeg) (xs (i + nI 3).toNatClampNeg) hI
  refine gl_aload_n 1 dL_law_391 rfl rfl ?_
  refine gl_aload_n 0 dL_law_392 rfl rfl ?_
  refine gl_iload_n 3 dL_law_393 rfl rfl ?_
  refine gl_iconst (v := nI 1) dL_law_394 (by decide) ?_
  refine gl_iadd dL_law_395 ?_
  refine gl_sld dL_law_396 (gl_in hi (k := 1) (by decide) hj hL) ?_
  refine gl_aload_n 0 dL_law_397 rfl rfl ?_
  refine gl_iload_n 3 dL_law_398 rfl rfl ?_
  refine gl_iconst (v := nI 2) dL_law_399 (by decide) ?_
  refine gl_iadd dL_law_400 ?_
  refine gl_sld dL_law_401 (gl_in hi (k := 2) (by decide) hj hL) ?_
  refine gl_aload_n 0 dL_law_402 rfl rfl ?_
  refine gl_iload_n 3 dL_law_403 rfl rfl ?_
  refine gl_iconst (v := nI 3) dL_law_404 (by decide) ?_
  refine gl_iadd dL_law_405 ?_
  refine gl_sld dL_law_406 (gl_in hi (k := 3) (by decide) hj hL) ?_
  refine gl_callV (ci := 7) (d' := 3) [.int (xs (i + nI 1).toNatClampNeg), .int (xs (i + nI 2).toNatClampNeg), .int (xs (i + nI 3).toNatClampNeg)] dL_law_407 cw_RL_43 ki_X7_event ks_X7_event rfl (by decide) rfl rfl (Nat.le_of_ble_eq_true rfl) (by decide) (k_X7_event rfl h) (gl_ki (fun r1 m1 h => ?_))
  refine gl_aload_n 2 dL_law_410 rfl rfl ?_
  refine gl_aload_n 0 dL_law_411 rfl rfl ?_
  refine gl_iload_n 3 dL_law_412 rfl rfl ?_
  refine gl_iconst (v := nI 1) dL_law_413 (by decide) ?_
  refine gl_iadd dL_law_414 ?_
  refine gl_sld dL_law_415 (gl_in hi (k := 1) (by decide) hj hL) ?_
  refine gl_aload_n 0 dL_law_416 rfl rfl ?_
  refine gl_iload_n 3 dL_law_417 rfl rfl ?_
  refine gl_iconst (v := nI 2) dL_law_418 (by decide) ?_
  refine gl_iadd dL_law_419 ?_
  refine gl_sld dL_law_420 (gl_in hi (k := 2) (by decide) hj hL) ?_
  refine gl_aload_n 0 dL_law_421 rfl rfl ?_
  refine gl_iload_n 3 dL_law_422 rfl rfl ?_
  refine gl_iconst (v := nI 3) dL_law_423 (by decide) ?_
  refine gl_iadd dL_law_424 ?_
  refine gl_sld dL_law_425 (gl_in hi (k := 3) (by decide) hj hL) ?_
  refine gl_callV (ci := 8) (d' := 2) [.int (xs (i + nI 1).toNatClampNeg), .int (xs (i + nI 2).toNatClampNeg), .int (xs (i + nI 3).toNatClampNeg)] dL_law_426 cw_RL_47 ki_X8_event ks_X8_event rfl (by decide) rfl rfl (Nat.le_of_ble_eq_true rfl) (by decide) (k_X8_event rfl h) (gl_ki (fun r2 m2 h => ?_))
  obtain ⟨e9, h⟩ := h
  refine gl_icmp_eq 1316 dL_law_429 (by decide) (fun _ => k _ h) (fun c9 => absurd e9 c9)
set_option maxRecDepth 100000 in
set_option maxHeartbeats 4000000 in
theorem la_back {Inv : gk_St → Prop} {L : Nat} {xs : Nat → Int32} {μ : gk_St} {i : Int32} {j : Nat} (hi : i = nI j) (hj : j + 6 ≤ L) (hL : L ≤ 3072) (ok : ok_back Inv) (hI : Inv μ) (k : ∀ m : gk_St, Inv m → GL L xs 1316 [(0, .ref 2000), (1, .ref 0), (2, .ref 101), (3, .int i)] [] m) : GL L xs 434 [(0, .ref 2000), (1, .ref 0), (2, .ref 101), (3, .int i)] [] μ := by
  have h := ok μ  hI
  refine gl_aload_n 1 dL_law_434 rfl rfl ?_
  refine gl_callV (ci := 7) (d' := 0) [] dL_law_435 cw_RL_48 ki_X7_back ks_X7_back rfl (by decide) rfl rfl (Nat.le_of_ble_eq_true rfl) (by decide) (k_X7_back rfl h) (gl_ki (fun r1 m1 h => ?_))
  refine gl_aload_n 2 dL_law_438 rfl rfl ?_
  refine gl_callV (ci := 8) (d' := 0) [] dL_law_439 cw_RL_52 ki_X8_back ks_X8_back rfl (by decide) rfl rfl (Nat.le_of_ble_eq_true rfl) (by decide) (k_X8_back rfl h) (gl_ki (fun r2 m2 h => ?_))
  obtain ⟨e9, h⟩ := h
  refine gl_icmp_eq 1316 dL_law_442 (by decide) (fun _ => k _ h) (fun c9 => absurd e9 c9)
set_option maxRecDepth 100000 in
set_option maxHeartbeats 4000000 in
theorem la_read {Inv : gk_St → Prop} {L : Nat} {xs : Nat → Int32} {μ : gk_St} {i : Int32} {j : Nat} (hi : i = nI j) (hj : j + 6 ≤ L) (hL : L ≤ 3072) (ok : ok_read Inv) (hI : Inv μ) (k : ∀ m : gk_St, Inv m → GL L xs 1316 [(0, .ref 2000), (1, .ref 0), (2, .ref 101), (3, .int i)] [] m) : GL L xs 447 [(0, .ref 2000), (1, .ref 0), (2, .ref 101), (3, .int i)] [] μ := by
  have h := ok μ (xs (i + nI 1).toNatClampNeg) hI
  refine gl_aload_n 1 dL_law_447 rfl rfl ?_
  refine gl_aload_n 0 dL_law_448 rfl rfl ?_
  refine gl_iload_n 3 dL_law_449 rfl rfl ?_
  refine gl_iconst (v := nI 1) dL_law_450 (by decide) ?_
  refine gl_iadd dL_law_451 ?_
  refine gl_sld dL_law_452 (gl_in hi (k := 1) (by decide) hj hL) ?_
  refine gl_callV (ci := 7) (d' := 4) [.int (xs (i + nI 1).toNatClampNeg)] dL_law_453 cw_RL_53 ki_X7_read ks_X7_read rfl (by decide) rfl rfl (Nat.le_of_ble_eq_true rfl) (by decide) (k_X7_read rfl h) (gl_ki (fun r1 m1 h => ?_))
  refine gl_aload_n 2 dL_law_456 rfl rfl ?_
  refine gl_aload_n 0 dL_law_457 rfl rfl ?_
  refine gl_iload_n 3 dL_law_458 rfl rfl ?_
  refine gl_iconst (v := nI 1) dL_law_459 (by decide) ?_
  refine gl_iadd dL_law_460 ?_
  refine gl_sld dL_law_461 (gl_in hi (k := 1) (by decide) hj hL) ?_
  refine gl_callV (ci := 8) (d' := 3) [.int (xs (i + nI 1).toNatClampNeg)] dL_law_462 cw_RL_56 ki_X8_read ks_X8_read rfl (by decide) rfl rfl (Nat.le_of_ble_eq_true rfl) (by decide) (k_X8_read rfl h) (gl_ki (fun r2 m2 h => ?_))
  obtain ⟨e9, h⟩ := h
  refine gl_icmp_eq 1316 dL_law_465 (by decide) (fun _ => k _ h) (fun c9 => absurd e9 c9)
set_option maxRecDepth 100000 in
set_option maxHeartbeats 4000000 in
theorem la_at {Inv : gk_St → Prop} {L : Nat} {xs : Nat → Int32} {μ : gk_St} {i : Int32} {j : Nat} (hi : i = nI j) (hj : j + 6 ≤ L) (hL : L ≤ 3072) (ok : ok_at Inv) (hI : Inv μ) (k : ∀ m : gk_St, Inv m → GL L xs 1316 [(0, .ref 2000), (1, .ref 0), (2, .ref 101), (3, .int i)] [] m) : GL L xs 470 [(0, .ref 2000), (1, .ref 0), (2, .ref 101), (3, .int i)] [] μ := by
  have h := ok μ (xs (i + nI 1).toNatClampNeg) (xs (i + nI 2).toNatClampNeg) (xs (i + nI 3).toNatClampNeg) hI
  refine gl_aload_n 1 dL_law_470 rfl rfl ?_
  refine gl_aload_n 0 dL_law_471 rfl rfl ?_
  refine gl_iload_n 3 dL_law_472 rfl rfl ?_
  refine gl_iconst (v := nI 1) dL_law_473 (by decide) ?_
  refine gl_iadd dL_law_474 ?_
  refine gl_sld dL_law_475 (gl_in hi (k := 1) (by decide) hj hL) ?_
  refine gl_aload_n 0 dL_law_476 rfl rfl ?_
  refine gl_iload_n 3 dL_law_477 rfl rfl ?_
  refine gl_iconst (v := nI 2) dL_law_478 (by decide) ?_
  refine gl_iadd dL_law_479 ?_
  refine gl_sld dL_law_480 (gl_in hi (k := 2) (by decide) hj hL) ?_
  refine gl_aload_n 0 dL_law_481 rfl rfl ?_
  refine gl_iload_n 3 dL_law_482 rfl rfl ?_
  refine gl_iconst (v := nI 3) dL_law_483 (by decide) ?_
  refine gl_iadd dL_law_484 ?_
  refine gl_sld dL_law_485 (gl_in hi (k := 3) (by decide) hj hL) ?_
  refine gl_callV (ci := 7) (d' := 5) [.int (xs (i + nI 1).toNatClampNeg), .int (xs (i + nI 2).toNatClampNeg), .int (xs (i + nI 3).toNatClampNeg)] dL_law_486 cw_RL_57 ki_X7_at ks_X7_at rfl (by decide) rfl rfl (Nat.le_of_ble_eq_true rfl) (by decide) (k_X7_at rfl h) (gl_ki (fun r1 m1 h => ?_))
  refine gl_aload_n 2 dL_law_489 rfl rfl ?_
  refine gl_aload_n 0 dL_law_490 rfl rfl ?_
  refine gl_iload_n 3 dL_law_491 rfl rfl ?_
  refine gl_iconst (v := nI 1) dL_law_492 (by decide) ?_
  refine gl_iadd dL_law_493 ?_
  refine gl_sld dL_law_494 (gl_in hi (k := 1) (by decide) hj hL) ?_
  refine gl_aload_n 0 dL_law_495 rfl rfl ?_
  refine gl_iload_n 3 dL_law_496 rfl rfl ?_
  refine gl_iconst (v := nI 2) dL_law_497 (by decide) ?_
  refine gl_iadd dL_law_498 ?_
  refine gl_sld dL_law_499 (gl_in hi (k := 2) (by decide) hj hL) ?_
  refine gl_aload_n 0 dL_law_500 rfl rfl ?_
  refine gl_iload_n 3 dL_law_501 rfl rfl ?_
  refine gl_iconst (v := nI 3) dL_law_502 (by decide) ?_
  refine gl_iadd dL_law_503 ?_
  refine gl_sld dL_law_504 (gl_in hi (k := 3) (by decide) hj hL) ?_
  refine gl_callV (ci := 8) (d' := 9) [.int (xs (i + nI 1).toNatClampNeg), .int (xs (i + nI 2).toNatClampNeg), .int (xs (i + nI 3).toNatClampNeg)] dL_law_505 cw_RL_60 ki_X8_at ks_X8_at rfl (by decide) rfl rfl (Nat.le_of_ble_eq_true rfl) (by decide) (k_X8_at rfl h) (gl_ki (fun r2 m2 h => ?_))
  obtain ⟨e9, h⟩ := h
  refine gl_icmp_eq 1316 dL_law_508 (by decide) (fun _ => k _ h) (fun c9 => absurd e9 c9)
set_option maxRecDepth 100000 in
set_option maxHeartbeats 4000000 in
theorem la_waits {Inv : gk_St → Prop} {L : Nat} {xs : Nat → Int32} {μ : gk_St} {i : Int32} {j : Nat} (hi : i = nI j) (hj : j + 6 ≤ L) (hL : L ≤ 3072) (ok : ok_waits Inv) (hI : Inv μ) (k : ∀ m : gk_St, Inv m → GL L xs 1316 [(0, .ref 2000), (1, .ref 0), (2, .ref 101), (3, .int i)] [] m) : GL L xs 513 [(0, .ref 2000), (1, .ref 0), (2, .ref 101), (3, .int i)] [] μ := by
  have h := ok μ (xs (i + nI 1).toNatClampNeg) (xs (i + nI 2).toNatClampNeg) hI
  refine gl_aload_n 1 dL_law_513 rfl rfl ?_
  refine gl_aload_n 0 dL_law_514 rfl rfl ?_
  refine gl_iload_n 3 dL_law_515 rfl rfl ?_
  refine gl_iconst (v := nI 1) dL_law_516 (by decide) ?_
  refine gl_iadd dL_law_517 ?_
  refine gl_sld dL_law_518 (gl_in hi (k := 1) (by decide) hj hL) ?_
  refine gl_aload_n 0 dL_law_519 rfl rfl ?_
  refine gl_iload_n 3 dL_law_520 rfl rfl ?_
  refine gl_iconst (v := nI 2) dL_law_521 (by decide) ?_
  refine gl_iadd dL_law_522 ?_
  refine gl_sld dL_law_523 (gl_in hi (k := 2) (by decide) hj hL) ?_
  refine gl_callV (ci := 7) (d' := 5) [.int (xs (i + nI 1).toNatClampNeg), .int (xs (i + nI 2).toNatClampNeg)] dL_law_524 cw_RL_61 ki_X7_waits ks_X7_waits rfl (by decide) rfl rfl (Nat.le_of_ble_eq_true rfl) (by decide) (k_X7_waits rfl h) (gl_ki (fun r1 m1 h => ?_))
  refine gl_aload_n 2 dL_law_527 rfl rfl ?_
  refine gl_aload_n 0 dL_law_528 rfl rfl ?_
  refine gl_iload_n 3 dL_law_529 rfl rfl ?_
  refine gl_iconst (v := nI 1) dL_law_530 (by decide) ?_
  refine gl_iadd dL_law_531 ?_
  refine gl_sld dL_law_532 (gl_in hi (k := 1) (by decide) hj hL) ?_
  refine gl_aload_n 0 dL_law_533 rfl rfl ?_
  refine gl_iload_n 3 dL_law_534 rfl rfl ?_
  refine gl_iconst (v := nI 2) dL_law_535 (by decide) ?_
  refine gl_iadd dL_law_536 ?_
  refine gl_sld dL_law_537 (gl_in hi (k := 2) (by decide) hj hL) ?_
  refine gl_callV (ci := 8) (d' := 9) [.int (xs (i + nI 1).toNatClampNeg), .int (xs (i + nI 2).toNatClampNeg)] dL_law_538 cw_RL_64 ki_X8_waits ks_X8_waits rfl (by decide) rfl rfl (Nat.le_of_ble_eq_true rfl) (by decide) (k_X8_waits rfl h) (gl_ki (fun r2 m2 h => ?_))
  obtain ⟨e9, h⟩ := h
  refine gl_icmp_eq 1316 dL_law_541 (by decide) (fun _ => k _ h) (fun c9 => absurd e9 c9)
set_option maxRecDepth 100000 in
set_option maxHeartbeats 4000000 in
theorem la_over {Inv : gk_St → Prop} {L : Nat} {xs : Nat → Int32} {μ : gk_St} {i : Int32} {j : Nat} (hi : i = nI j) (hj : j + 6 ≤ L) (hL : L ≤ 3072) (ok : ok_over Inv) (hI : Inv μ) (k : ∀ m : gk_St, Inv m → GL L xs 1316 [(0, .ref 2000), (1, .ref 0), (2, .ref 101), (3, .int i)] [] m) : GL L xs 546 [(0, .ref 2000), (1, .ref 0), (2, .ref 101), (3, .int i)] [] μ := by
  have h := ok μ (xs (i + nI 1).toNatClampNeg) hI
  refine gl_aload_n 1 dL_law_546 rfl rfl ?_
  refine gl_aload_n 0 dL_law_547 rfl rfl ?_
  refine gl_iload_n 3 dL_law_548 rfl rfl ?_
  refine gl_iconst (v := nI 1) dL_law_549 (by decide) ?_
  refine gl_iadd dL_law_550 ?_
  refine gl_sld dL_law_551 (gl_in hi (k := 1) (by decide) hj hL) ?_
  refine gl_callV (ci := 7) (d' := 5) [.int (xs (i + nI 1).toNatClampNeg)] dL_law_552 cw_RL_65 ki_X7_over ks_X7_over rfl (by decide) rfl rfl (Nat.le_of_ble_eq_true rfl) (by decide) (k_X7_over rfl h) (gl_ki (fun r1 m1 h => ?_))
  refine gl_aload_n 2 dL_law_555 rfl rfl ?_
  refine gl_aload_n 0 dL_law_556 rfl rfl ?_
  refine gl_iload_n 3 dL_law_557 rfl rfl ?_
  refine gl_iconst (v := nI 1) dL_law_558 (by decide) ?_
  refine gl_iadd dL_law_559 ?_
  refine gl_sld dL_law_560 (gl_in hi (k := 1) (by decide) hj hL) ?_
  refine gl_callV (ci := 8) (d' := 9) [.int (xs (i + nI 1).toNatClampNeg)] dL_law_561 cw_RL_68 ki_X8_over ks_X8_over rfl (by decide) rfl rfl (Nat.le_of_ble_eq_true rfl) (by decide) (k_X8_over rfl h) (gl_ki (fun r2 m2 h => ?_))
  obtain ⟨e9, h⟩ := h
  refine gl_icmp_eq 1316 dL_law_564 (by decide) (fun _ => k _ h) (fun c9 => absurd e9 c9)
set_option maxRecDepth 100000 in
set_option maxHeartbeats 4000000 in
theorem la_sum {Inv : gk_St → Prop} {L : Nat} {xs : Nat → Int32} {μ : gk_St} {i : Int32} {j : Nat} (hi : i = nI j) (hj : j + 6 ≤ L) (hL : L ≤ 3072) (ok : ok_sum Inv) (hI : Inv μ) (k : ∀ m : gk_St, Inv m → GL L xs 1316 [(0, .ref 2000), (1, .ref 0), (2, .ref 101), (3, .int i)] [] m) : GL L xs 569 [(0, .ref 2000), (1, .ref 0), (2, .ref 101), (3, .int i)] [] μ := by
  have h := ok μ  hI
  refine gl_aload_n 1 dL_law_569 rfl rfl ?_
  refine gl_callV (ci := 7) (d' := 5) [] dL_law_570 cw_RL_69 ki_X7_sum ks_X7_sum rfl (by decide) rfl rfl (Nat.le_of_ble_eq_true rfl) (by decide) (k_X7_sum rfl h) (gl_ki (fun r1 m1 h => ?_))
  refine gl_aload_n 2 dL_law_573 rfl rfl ?_
  refine gl_callV (ci := 8) (d' := 9) [] dL_law_574 cw_RL_72 ki_X8_sum ks_X8_sum rfl (by decide) rfl rfl (Nat.le_of_ble_eq_true rfl) (by decide) (k_X8_sum rfl h) (gl_ki (fun r2 m2 h => ?_))
  obtain ⟨e9, h⟩ := h
  refine gl_icmp_eq 1316 dL_law_577 (by decide) (fun _ => k _ h) (fun c9 => absurd e9 c9)
set_option maxRecDepth 100000 in
set_option maxHeartbeats 4000000 in
theorem la_crowd {Inv : gk_St → Prop} {L : Nat} {xs : Nat → Int32} {μ : gk_St} {i : Int32} {j : Nat} (hi : i = nI j) (hj : j + 6 ≤ L) (hL : L ≤ 3072) (ok : ok_crowd Inv) (hI : Inv μ) (k : ∀ m : gk_St, Inv m → GL L xs 1316 [(0, .ref 2000), (1, .ref 0), (2, .ref 101), (3, .int i)] [] m) : GL L xs 582 [(0, .ref 2000), (1, .ref 0), (2, .ref 101), (3, .int i)] [] μ := by
  have h := ok μ (xs (i + nI 1).toNatClampNeg) (xs (i + nI 2).toNatClampNeg) hI
  refine gl_aload_n 1 dL_law_582 rfl rfl ?_
  refine gl_aload_n 0 dL_law_583 rfl rfl ?_
  refine gl_iload_n 3 dL_law_584 rfl rfl ?_
  refine gl_iconst (v := nI 1) dL_law_585 (by decide) ?_
  refine gl_iadd dL_law_586 ?_
  refine gl_sld dL_law_587 (gl_in hi (k := 1) (by decide) hj hL) ?_
  refine gl_aload_n 0 dL_law_588 rfl rfl ?_
  refine gl_iload_n 3 dL_law_589 rfl rfl ?_
  refine gl_iconst (v := nI 2) dL_law_590 (by decide) ?_
  refine gl_iadd dL_law_591 ?_
  refine gl_sld dL_law_592 (gl_in hi (k := 2) (by decide) hj hL) ?_
  refine gl_callV (ci := 7) (d' := 5) [.int (xs (i + nI 1).toNatClampNeg), .int (xs (i + nI 2).toNatClampNeg)] dL_law_593 cw_RL_73 ki_X7_crowd ks_X7_crowd rfl (by decide) rfl rfl (Nat.le_of_ble_eq_true rfl) (by decide) (k_X7_crowd rfl h) (gl_ki (fun r1 m1 h => ?_))
  refine gl_aload_n 2 dL_law_596 rfl rfl ?_
  refine gl_aload_n 0 dL_law_597 rfl rfl ?_
  refine gl_iload_n 3 dL_law_598 rfl rfl ?_
  refine gl_iconst (v := nI 1) dL_law_599 (by decide) ?_
  refine gl_iadd dL_law_600 ?_
  refine gl_sld dL_law_601 (gl_in hi (k := 1) (by decide) hj hL) ?_
  refine gl_aload_n 0 dL_law_602 rfl rfl ?_
  refine gl_iload_n 3 dL_law_603 rfl rfl ?_
  refine gl_iconst (v := nI 2) dL_law_604 (by decide) ?_
  refine gl_iadd dL_law_605 ?_
  refine gl_sld dL_law_606 (gl_in hi (k := 2) (by decide) hj hL) ?_
  refine gl_callV (ci := 8) (d' := 9) [.int (xs (i + nI 1).toNatClampNeg), .int (xs (i + nI 2).toNatClampNeg)] dL_law_607 cw_RL_76 ki_X8_crowd ks_X8_crowd rfl (by decide) rfl rfl (Nat.le_of_ble_eq_true rfl) (by decide) (k_X8_crowd rfl h) (gl_ki (fun r2 m2 h => ?_))
  obtain ⟨e9, h⟩ := h
  refine gl_icmp_eq 1316 dL_law_610 (by decide) (fun _ => k _ h) (fun c9 => absurd e9 c9)
set_option maxRecDepth 100000 in
set_option maxHeartbeats 4000000 in
theorem la_first {Inv : gk_St → Prop} {L : Nat} {xs : Nat → Int32} {μ : gk_St} {i : Int32} {j : Nat} (hi : i = nI j) (hj : j + 6 ≤ L) (hL : L ≤ 3072) (ok : ok_first Inv) (hI : Inv μ) (k : ∀ m : gk_St, Inv m → GL L xs 1316 [(0, .ref 2000), (1, .ref 0), (2, .ref 101), (3, .int i)] [] m) : GL L xs 615 [(0, .ref 2000), (1, .ref 0), (2, .ref 101), (3, .int i)] [] μ := by
  have h := ok μ (xs (i + nI 1).toNatClampNeg) hI
  refine gl_aload_n 1 dL_law_615 rfl rfl ?_
  refine gl_aload_n 0 dL_law_616 rfl rfl ?_
  refine gl_iload_n 3 dL_law_617 rfl rfl ?_
  refine gl_iconst (v := nI 1) dL_law_618 (by decide) ?_
  refine gl_iadd dL_law_619 ?_
  refine gl_sld dL_law_620 (gl_in hi (k := 1) (by decide) hj hL) ?_
  refine gl_callV (ci := 7) (d' := 5) [.int (xs (i + nI 1).toNatClampNeg)] dL_law_621 cw_RL_77 ki_X7_first ks_X7_first rfl (by decide) rfl rfl (Nat.le_of_ble_eq_true rfl) (by decide) (k_X7_first rfl h) (gl_ki (fun r1 m1 h => ?_))
  refine gl_aload_n 2 dL_law_624 rfl rfl ?_
  refine gl_aload_n 0 dL_law_625 rfl rfl ?_
  refine gl_iload_n 3 dL_law_626 rfl rfl ?_
  refine gl_iconst (v := nI 1) dL_law_627 (by decide) ?_
  refine gl_iadd dL_law_628 ?_
  refine gl_sld dL_law_629 (gl_in hi (k := 1) (by decide) hj hL) ?_
  refine gl_callV (ci := 8) (d' := 9) [.int (xs (i + nI 1).toNatClampNeg)] dL_law_630 cw_RL_80 ki_X8_first ks_X8_first rfl (by decide) rfl rfl (Nat.le_of_ble_eq_true rfl) (by decide) (k_X8_first rfl h) (gl_ki (fun r2 m2 h => ?_))
  obtain ⟨e9, h⟩ := h
  refine gl_icmp_eq 1316 dL_law_633 (by decide) (fun _ => k _ h) (fun c9 => absurd e9 c9)
set_option maxRecDepth 100000 in
set_option maxHeartbeats 4000000 in
theorem la_carried {Inv : gk_St → Prop} {L : Nat} {xs : Nat → Int32} {μ : gk_St} {i : Int32} {j : Nat} (hi : i = nI j) (hj : j + 6 ≤ L) (hL : L ≤ 3072) (ok : ok_carried Inv) (hI : Inv μ) (k : ∀ m : gk_St, Inv m → GL L xs 1316 [(0, .ref 2000), (1, .ref 0), (2, .ref 101), (3, .int i)] [] m) : GL L xs 638 [(0, .ref 2000), (1, .ref 0), (2, .ref 101), (3, .int i)] [] μ := by
  have h := ok μ (xs (i + nI 1).toNatClampNeg) hI
  refine gl_aload_n 1 dL_law_638 rfl rfl ?_
  refine gl_aload_n 0 dL_law_639 rfl rfl ?_
  refine gl_iload_n 3 dL_law_640 rfl rfl ?_
  refine gl_iconst (v := nI 1) dL_law_641 (by decide) ?_
  refine gl_iadd dL_law_642 ?_
  refine gl_sld dL_law_643 (gl_in hi (k := 1) (by decide) hj hL) ?_
  refine gl_callV (ci := 7) (d' := 5) [.int (xs (i + nI 1).toNatClampNeg)] dL_law_644 cw_RL_81 ki_X7_carried ks_X7_carried rfl (by decide) rfl rfl (Nat.le_of_ble_eq_true rfl) (by decide) (k_X7_carried rfl h) (gl_ki (fun r1 m1 h => ?_))
  refine gl_aload_n 2 dL_law_647 rfl rfl ?_
  refine gl_aload_n 0 dL_law_648 rfl rfl ?_
  refine gl_iload_n 3 dL_law_649 rfl rfl ?_
  refine gl_iconst (v := nI 1) dL_law_650 (by decide) ?_
  refine gl_iadd dL_law_651 ?_
  refine gl_sld dL_law_652 (gl_in hi (k := 1) (by decide) hj hL) ?_
  refine gl_callV (ci := 8) (d' := 9) [.int (xs (i + nI 1).toNatClampNeg)] dL_law_653 cw_RL_84 ki_X8_carried ks_X8_carried rfl (by decide) rfl rfl (Nat.le_of_ble_eq_true rfl) (by decide) (k_X8_carried rfl h) (gl_ki (fun r2 m2 h => ?_))
  obtain ⟨e9, h⟩ := h
  refine gl_icmp_eq 1316 dL_law_656 (by decide) (fun _ => k _ h) (fun c9 => absurd e9 c9)
set_option maxRecDepth 100000 in
set_option maxHeartbeats 4000000 in
theorem la_idle {Inv : gk_St → Prop} {L : Nat} {xs : Nat → Int32} {μ : gk_St} {i : Int32} {j : Nat} (hi : i = nI j) (hj : j + 6 ≤ L) (hL : L ≤ 3072) (ok : ok_idle Inv) (hI : Inv μ) (k : ∀ m : gk_St, Inv m → GL L xs 1316 [(0, .ref 2000), (1, .ref 0), (2, .ref 101), (3, .int i)] [] m) : GL L xs 661 [(0, .ref 2000), (1, .ref 0), (2, .ref 101), (3, .int i)] [] μ := by
  have h := ok μ  hI
  refine gl_aload_n 1 dL_law_661 rfl rfl ?_
  refine gl_callV (ci := 7) (d' := 5) [] dL_law_662 cw_RL_85 ki_X7_idle ks_X7_idle rfl (by decide) rfl rfl (Nat.le_of_ble_eq_true rfl) (by decide) (k_X7_idle rfl h) (gl_ki (fun r1 m1 h => ?_))
  refine gl_aload_n 2 dL_law_665 rfl rfl ?_
  refine gl_callV (ci := 8) (d' := 9) [] dL_law_666 cw_RL_88 ki_X8_idle ks_X8_idle rfl (by decide) rfl rfl (Nat.le_of_ble_eq_true rfl) (by decide) (k_X8_idle rfl h) (gl_ki (fun r2 m2 h => ?_))
  obtain ⟨e9, h⟩ := h
  refine gl_icmp_eq 1316 dL_law_669 (by decide) (fun _ => k _ h) (fun c9 => absurd e9 c9)
set_option maxRecDepth 100000 in
set_option maxHeartbeats 4000000 in
theorem la_left {Inv : gk_St → Prop} {L : Nat} {xs : Nat → Int32} {μ : gk_St} {i : Int32} {j : Nat} (hi : i = nI j) (hj : j + 6 ≤ L) (hL : L ≤ 3072) (ok : ok_left Inv) (hI : Inv μ) (k : ∀ m : gk_St, Inv m → GL L xs 1316 [(0, .ref 2000), (1, .ref 0), (2, .ref 101), (3, .int i)] [] m) : GL L xs 674 [(0, .ref 2000), (1, .ref 0), (2, .ref 101), (3, .int i)] [] μ := by
  have h := ok μ  hI
  refine gl_aload_n 1 dL_law_674 rfl rfl ?_
  refine gl_callV (ci := 7) (d' := 5) [] dL_law_675 cw_RL_89 ki_X7_left ks_X7_left rfl (by decide) rfl rfl (Nat.le_of_ble_eq_true rfl) (by decide) (k_X7_left rfl h) (gl_ki (fun r1 m1 h => ?_))
  refine gl_aload_n 2 dL_law_678 rfl rfl ?_
  refine gl_callV (ci := 8) (d' := 9) [] dL_law_679 cw_RL_92 ki_X8_left ks_X8_left rfl (by decide) rfl rfl (Nat.le_of_ble_eq_true rfl) (by decide) (k_X8_left rfl h) (gl_ki (fun r2 m2 h => ?_))
  obtain ⟨e9, h⟩ := h
  refine gl_icmp_eq 1316 dL_law_682 (by decide) (fun _ => k _ h) (fun c9 => absurd e9 c9)
set_option maxRecDepth 100000 in
set_option maxHeartbeats 4000000 in
theorem la_hang {Inv : gk_St → Prop} {L : Nat} {xs : Nat → Int32} {μ : gk_St} {i : Int32} {j : Nat} (hi : i = nI j) (hj : j + 6 ≤ L) (hL : L ≤ 3072) (ok : ok_hang Inv) (hI : Inv μ) (k : ∀ m : gk_St, Inv m → GL L xs 1316 [(0, .ref 2000), (1, .ref 0), (2, .ref 101), (3, .int i)] [] m) : GL L xs 687 [(0, .ref 2000), (1, .ref 0), (2, .ref 101), (3, .int i)] [] μ := by
  have h := ok μ (xs (i + nI 1).toNatClampNeg) (xs (i + nI 2).toNatClampNeg) hI
  refine gl_aload_n 1 dL_law_687 rfl rfl ?_
  refine gl_aload_n 0 dL_law_688 rfl rfl ?_
  refine gl_iload_n 3 dL_law_689 rfl rfl ?_
  refine gl_iconst (v := nI 1) dL_law_690 (by decide) ?_
  refine gl_iadd dL_law_691 ?_
  refine gl_sld dL_law_692 (gl_in hi (k := 1) (by decide) hj hL) ?_
  refine gl_aload_n 0 dL_law_693 rfl rfl ?_
  refine gl_iload_n 3 dL_law_694 rfl rfl ?_
  refine gl_iconst (v := nI 2) dL_law_695 (by decide) ?_
  refine gl_iadd dL_law_696 ?_
  refine gl_sld dL_law_697 (gl_in hi (k := 2) (by decide) hj hL) ?_
  refine gl_callV (ci := 7) (d' := 4) [.int (xs (i + nI 1).toNatClampNeg), .int (xs (i + nI 2).toNatClampNeg)] dL_law_698 cw_RL_93 ki_X7_hang ks_X7_hang rfl (by decide) rfl rfl (Nat.le_of_ble_eq_true rfl) (by decide) (k_X7_hang rfl h) (gl_ki (fun r1 m1 h => ?_))
  refine gl_aload_n 2 dL_law_701 rfl rfl ?_
  refine gl_aload_n 0 dL_law_702 rfl rfl ?_
  refine gl_iload_n 3 dL_law_703 rfl rfl ?_
  refine gl_iconst (v := nI 1) dL_law_704 (by decide) ?_
  refine gl_iadd dL_law_705 ?_
  refine gl_sld dL_law_706 (gl_in hi (k := 1) (by decide) hj hL) ?_
  refine gl_aload_n 0 dL_law_707 rfl rfl ?_
  refine gl_iload_n 3 dL_law_708 rfl rfl ?_
  refine gl_iconst (v := nI 2) dL_law_709 (by decide) ?_
  refine gl_iadd dL_law_710 ?_
  refine gl_sld dL_law_711 (gl_in hi (k := 2) (by decide) hj hL) ?_
  refine gl_callV (ci := 8) (d' := 8) [.int (xs (i + nI 1).toNatClampNeg), .int (xs (i + nI 2).toNatClampNeg)] dL_law_712 cw_RL_96 ki_X8_hang ks_X8_hang rfl (by decide) rfl rfl (Nat.le_of_ble_eq_true rfl) (by decide) (k_X8_hang rfl h) (gl_ki (fun r2 m2 h => ?_))
  obtain ⟨e9, h⟩ := h
  refine gl_icmp_eq 1316 dL_law_715 (by decide) (fun _ => k _ h) (fun c9 => absurd e9 c9)
set_option maxRecDepth 100000 in
set_option maxHeartbeats 4000000 in
theorem la_pace {Inv : gk_St → Prop} {L : Nat} {xs : Nat → Int32} {μ : gk_St} {i : Int32} {j : Nat} (hi : i = nI j) (hj : j + 6 ≤ L) (hL : L ≤ 3072) (ok : ok_pace Inv) (hI : Inv μ) (k : ∀ m : gk_St, Inv m → GL L xs 1316 [(0, .ref 2000), (1, .ref 0), (2, .ref 101), (3, .int i)] [] m) : GL L xs 720 [(0, .ref 2000), (1, .ref 0), (2, .ref 101), (3, .int i)] [] μ := by
  have h := ok μ (xs (i + nI 1).toNatClampNeg) (xs (i + nI 2).toNatClampNeg) hI
  refine gl_aload_n 1 dL_law_720 rfl rfl ?_
  refine gl_aload_n 0 dL_law_721 rfl rfl ?_
  refine gl_iload_n 3 dL_law_722 rfl rfl ?_
  refine gl_iconst (v := nI 1) dL_law_723 (by decide) ?_
  refine gl_iadd dL_law_724 ?_
  refine gl_sld dL_law_725 (gl_in hi (k := 1) (by decide) hj hL) ?_
  refine gl_aload_n 0 dL_law_726 rfl rfl ?_
  refine gl_iload_n 3 dL_law_727 rfl rfl ?_
  refine gl_iconst (v := nI 2) dL_law_728 (by decide) ?_
  refine gl_iadd dL_law_729 ?_
  refine gl_sld dL_law_730 (gl_in hi (k := 2) (by decide) hj hL) ?_
  refine gl_callV (ci := 7) (d' := 4) [.int (xs (i + nI 1).toNatClampNeg), .int (xs (i + nI 2).toNatClampNeg)] dL_law_731 cw_RL_97 ki_X7_pace ks_X7_pace rfl (by decide) rfl rfl (Nat.le_of_ble_eq_true rfl) (by decide) (k_X7_pace rfl h) (gl_ki (fun r1 m1 h => ?_))
  refine gl_aload_n 2 dL_law_734 rfl rfl ?_
  refine gl_aload_n 0 dL_law_735 rfl rfl ?_
  refine gl_iload_n 3 dL_law_736 rfl rfl ?_
  refine gl_iconst (v := nI 1) dL_law_737 (by decide) ?_
  refine gl_iadd dL_law_738 ?_
  refine gl_sld dL_law_739 (gl_in hi (k := 1) (by decide) hj hL) ?_
  refine gl_aload_n 0 dL_law_740 rfl rfl ?_
  refine gl_iload_n 3 dL_law_741 rfl rfl ?_
  refine gl_iconst (v := nI 2) dL_law_742 (by decide) ?_
  refine gl_iadd dL_law_743 ?_
  refine gl_sld dL_law_744 (gl_in hi (k := 2) (by decide) hj hL) ?_
  refine gl_callV (ci := 8) (d' := 8) [.int (xs (i + nI 1).toNatClampNeg), .int (xs (i + nI 2).toNatClampNeg)] dL_law_745 cw_RL_100 ki_X8_pace ks_X8_pace rfl (by decide) rfl rfl (Nat.le_of_ble_eq_true rfl) (by decide) (k_X8_pace rfl h) (gl_ki (fun r2 m2 h => ?_))
  obtain ⟨e9, h⟩ := h
  refine gl_icmp_eq 1316 dL_law_748 (by decide) (fun _ => k _ h) (fun c9 => absurd e9 c9)
set_option maxRecDepth 100000 in
set_option maxHeartbeats 4000000 in
theorem la_cheap {Inv : gk_St → Prop} {L : Nat} {xs : Nat → Int32} {μ : gk_St} {i : Int32} {j : Nat} (hi : i = nI j) (hj : j + 6 ≤ L) (hL : L ≤ 3072) (ok : ok_cheap Inv) (hI : Inv μ) (k : ∀ m : gk_St, Inv m → GL L xs 1316 [(0, .ref 2000), (1, .ref 0), (2, .ref 101), (3, .int i)] [] m) : GL L xs 753 [(0, .ref 2000), (1, .ref 0), (2, .ref 101), (3, .int i)] [] μ := by
  have h := ok μ (xs (i + nI 1).toNatClampNeg) (xs (i + nI 2).toNatClampNeg) hI
  refine gl_aload_n 1 dL_law_753 rfl rfl ?_
  refine gl_aload_n 0 dL_law_754 rfl rfl ?_
  refine gl_iload_n 3 dL_law_755 rfl rfl ?_
  refine gl_iconst (v := nI 1) dL_law_756 (by decide) ?_
  refine gl_iadd dL_law_757 ?_
  refine gl_sld dL_law_758 (gl_in hi (k := 1) (by decide) hj hL) ?_
  refine gl_aload_n 0 dL_law_759 rfl rfl ?_
  refine gl_iload_n 3 dL_law_760 rfl rfl ?_
  refine gl_iconst (v := nI 2) dL_law_761 (by decide) ?_
  refine gl_iadd dL_law_762 ?_
  refine gl_sld dL_law_763 (gl_in hi (k := 2) (by decide) hj hL) ?_
  refine gl_callV (ci := 7) (d' := 4) [.int (xs (i + nI 1).toNatClampNeg), .int (xs (i + nI 2).toNatClampNeg)] dL_law_764 cw_RL_101 ki_X7_cheap ks_X7_cheap rfl (by decide) rfl rfl (Nat.le_of_ble_eq_true rfl) (by decide) (k_X7_cheap rfl h) (gl_ki (fun r1 m1 h => ?_))
  refine gl_aload_n 2 dL_law_767 rfl rfl ?_
  refine gl_aload_n 0 dL_law_768 rfl rfl ?_
  refine gl_iload_n 3 dL_law_769 rfl rfl ?_
  refine gl_iconst (v := nI 1) dL_law_770 (by decide) ?_
  refine gl_iadd dL_law_771 ?_
  refine gl_sld dL_law_772 (gl_in hi (k := 1) (by decide) hj hL) ?_
  refine gl_aload_n 0 dL_law_773 rfl rfl ?_
  refine gl_iload_n 3 dL_law_774 rfl rfl ?_
  refine gl_iconst (v := nI 2) dL_law_775 (by decide) ?_
  refine gl_iadd dL_law_776 ?_
  refine gl_sld dL_law_777 (gl_in hi (k := 2) (by decide) hj hL) ?_
  refine gl_callV (ci := 8) (d' := 8) [.int (xs (i + nI 1).toNatClampNeg), .int (xs (i + nI 2).toNatClampNeg)] dL_law_778 cw_RL_104 ki_X8_cheap ks_X8_cheap rfl (by decide) rfl rfl (Nat.le_of_ble_eq_true rfl) (by decide) (k_X8_cheap rfl h) (gl_ki (fun r2 m2 h => ?_))
  obtain ⟨e9, h⟩ := h
  refine gl_icmp_eq 1316 dL_law_781 (by decide) (fun _ => k _ h) (fun c9 => absurd e9 c9)
set_option maxRecDepth 100000 in
set_option maxHeartbeats 4000000 in
theorem la_spare {Inv : gk_St → Prop} {L : Nat} {xs : Nat → Int32} {μ : gk_St} {i : Int32} {j : Nat} (hi : i = nI j) (hj : j + 6 ≤ L) (hL : L ≤ 3072) (ok : ok_spare Inv) (hI : Inv μ) (k : ∀ m : gk_St, Inv m → GL L xs 1316 [(0, .ref 2000), (1, .ref 0), (2, .ref 101), (3, .int i)] [] m) : GL L xs 786 [(0, .ref 2000), (1, .ref 0), (2, .ref 101), (3, .int i)] [] μ := by
  have h := ok μ (xs (i + nI 1).toNatClampNeg) hI
  refine gl_aload_n 1 dL_law_786 rfl rfl ?_
  refine gl_aload_n 0 dL_law_787 rfl rfl ?_
  refine gl_iload_n 3 dL_law_788 rfl rfl ?_
  refine gl_iconst (v := nI 1) dL_law_789 (by decide) ?_
  refine gl_iadd dL_law_790 ?_
  refine gl_sld dL_law_791 (gl_in hi (k := 1) (by decide) hj hL) ?_
  refine gl_callV (ci := 7) (d' := 6) [.int (xs (i + nI 1).toNatClampNeg)] dL_law_792 cw_RL_105 ki_X7_spare ks_X7_spare rfl (by decide) rfl rfl (Nat.le_of_ble_eq_true rfl) (by decide) (k_X7_spare rfl h) (gl_ki (fun r1 m1 h => ?_))
  refine gl_aload_n 2 dL_law_795 rfl rfl ?_
  refine gl_aload_n 0 dL_law_796 rfl rfl ?_
  refine gl_iload_n 3 dL_law_797 rfl rfl ?_
  refine gl_iconst (v := nI 1) dL_law_798 (by decide) ?_
  refine gl_iadd dL_law_799 ?_
  refine gl_sld dL_law_800 (gl_in hi (k := 1) (by decide) hj hL) ?_
  refine gl_callV (ci := 8) (d' := 8) [.int (xs (i + nI 1).toNatClampNeg)] dL_law_801 cw_RL_108 ki_X8_spare ks_X8_spare rfl (by decide) rfl rfl (Nat.le_of_ble_eq_true rfl) (by decide) (k_X8_spare rfl h) (gl_ki (fun r2 m2 h => ?_))
  obtain ⟨e9, h⟩ := h
  refine gl_icmp_eq 1316 dL_law_804 (by decide) (fun _ => k _ h) (fun c9 => absurd e9 c9)
set_option maxRecDepth 100000 in
set_option maxHeartbeats 4000000 in
theorem la_seen {Inv : gk_St → Prop} {L : Nat} {xs : Nat → Int32} {μ : gk_St} {i : Int32} {j : Nat} (hi : i = nI j) (hj : j + 6 ≤ L) (hL : L ≤ 3072) (ok : ok_seen Inv) (hI : Inv μ) (k : ∀ m : gk_St, Inv m → GL L xs 1316 [(0, .ref 2000), (1, .ref 0), (2, .ref 101), (3, .int i)] [] m) : GL L xs 809 [(0, .ref 2000), (1, .ref 0), (2, .ref 101), (3, .int i)] [] μ := by
  have h := ok μ (xs (i + nI 1).toNatClampNeg) (xs (i + nI 2).toNatClampNeg) (xs (i + nI 3).toNatClampNeg) hI
  refine gl_aload_n 1 dL_law_809 rfl rfl ?_
  refine gl_aload_n 0 dL_law_810 rfl rfl ?_
  refine gl_iload_n 3 dL_law_811 rfl rfl ?_
  refine gl_iconst (v := nI 1) dL_law_812 (by decide) ?_
  refine gl_iadd dL_law_813 ?_
  refine gl_sld dL_law_814 (gl_in hi (k := 1) (by decide) hj hL) ?_
  refine gl_aload_n 0 dL_law_815 rfl rfl ?_
  refine gl_iload_n 3 dL_law_816 rfl rfl ?_
  refine gl_iconst (v := nI 2) dL_law_817 (by decide) ?_
  refine gl_iadd dL_law_818 ?_
  refine gl_sld dL_law_819 (gl_in hi (k := 2) (by decide) hj hL) ?_
  refine gl_aload_n 0 dL_law_820 rfl rfl ?_
  refine gl_iload_n 3 dL_law_821 rfl rfl ?_
  refine gl_iconst (v := nI 3) dL_law_822 (by decide) ?_
  refine gl_iadd dL_law_823 ?_
  refine gl_sld dL_law_824 (gl_in hi (k := 3) (by decide) hj hL) ?_
  refine gl_callV (ci := 7) (d' := 2) [.int (xs (i + nI 1).toNatClampNeg), .int (xs (i + nI 2).toNatClampNeg), .int (xs (i + nI 3).toNatClampNeg)] dL_law_825 cw_RL_109 ki_X7_seen ks_X7_seen rfl (by decide) rfl rfl (Nat.le_of_ble_eq_true rfl) (by decide) (k_X7_seen rfl h) (gl_ki (fun r1 m1 h => ?_))
  refine gl_aload_n 2 dL_law_828 rfl rfl ?_
  refine gl_aload_n 0 dL_law_829 rfl rfl ?_
  refine gl_iload_n 3 dL_law_830 rfl rfl ?_
  refine gl_iconst (v := nI 1) dL_law_831 (by decide) ?_
  refine gl_iadd dL_law_832 ?_
  refine gl_sld dL_law_833 (gl_in hi (k := 1) (by decide) hj hL) ?_
  refine gl_aload_n 0 dL_law_834 rfl rfl ?_
  refine gl_iload_n 3 dL_law_835 rfl rfl ?_
  refine gl_iconst (v := nI 2) dL_law_836 (by decide) ?_
  refine gl_iadd dL_law_837 ?_
  refine gl_sld dL_law_838 (gl_in hi (k := 2) (by decide) hj hL) ?_
  refine gl_aload_n 0 dL_law_839 rfl rfl ?_
  refine gl_iload_n 3 dL_law_840 rfl rfl ?_
  refine gl_iconst (v := nI 3) dL_law_841 (by decide) ?_
  refine gl_iadd dL_law_842 ?_
  refine gl_sld dL_law_843 (gl_in hi (k := 3) (by decide) hj hL) ?_
  refine gl_callV (ci := 8) (d' := 2) [.int (xs (i + nI 1).toNatClampNeg), .int (xs (i + nI 2).toNatClampNeg), .int (xs (i + nI 3).toNatClampNeg)] dL_law_844 cw_RL_112 ki_X8_seen ks_X8_seen rfl (by decide) rfl rfl (Nat.le_of_ble_eq_true rfl) (by decide) (k_X8_seen rfl h) (gl_ki (fun r2 m2 h => ?_))
  obtain ⟨e9, h⟩ := h
  refine gl_icmp_eq 1316 dL_law_847 (by decide) (fun _ => k _ h) (fun c9 => absurd e9 c9)
set_option maxRecDepth 100000 in
set_option maxHeartbeats 4000000 in
theorem la_forget {Inv : gk_St → Prop} {L : Nat} {xs : Nat → Int32} {μ : gk_St} {i : Int32} {j : Nat} (hi : i = nI j) (hj : j + 6 ≤ L) (hL : L ≤ 3072) (ok : ok_forget Inv) (hI : Inv μ) (k : ∀ m : gk_St, Inv m → GL L xs 1316 [(0, .ref 2000), (1, .ref 0), (2, .ref 101), (3, .int i)] [] m) : GL L xs 852 [(0, .ref 2000), (1, .ref 0), (2, .ref 101), (3, .int i)] [] μ := by
  have h := ok μ  hI
  refine gl_aload_n 1 dL_law_852 rfl rfl ?_
  refine gl_callV (ci := 7) (d' := 0) [] dL_law_853 cw_RL_113 ki_X7_forget ks_X7_forget rfl (by decide) rfl rfl (Nat.le_of_ble_eq_true rfl) (by decide) (k_X7_forget rfl h) (gl_ki (fun r1 m1 h => ?_))
  refine gl_aload_n 2 dL_law_856 rfl rfl ?_
  refine gl_callV (ci := 8) (d' := 0) [] dL_law_857 cw_RL_116 ki_X8_forget ks_X8_forget rfl (by decide) rfl rfl (Nat.le_of_ble_eq_true rfl) (by decide) (k_X8_forget rfl h) (gl_ki (fun r2 m2 h => ?_))
  obtain ⟨e9, h⟩ := h
  refine gl_icmp_eq 1316 dL_law_860 (by decide) (fun _ => k _ h) (fun c9 => absurd e9 c9)
set_option maxRecDepth 100000 in
set_option maxHeartbeats 4000000 in
theorem la_never {Inv : gk_St → Prop} {L : Nat} {xs : Nat → Int32} {μ : gk_St} {i : Int32} {j : Nat} (hi : i = nI j) (hj : j + 6 ≤ L) (hL : L ≤ 3072) (ok : ok_never Inv) (hI : Inv μ) (k : ∀ m : gk_St, Inv m → GL L xs 1316 [(0, .ref 2000), (1, .ref 0), (2, .ref 101), (3, .int i)] [] m) : GL L xs 865 [(0, .ref 2000), (1, .ref 0), (2, .ref 101), (3, .int i)] [] μ := by
  have h := ok μ  hI
  refine gl_aload_n 1 dL_law_865 rfl rfl ?_
  refine gl_callV (ci := 7) (d' := 5) [] dL_law_866 cw_RL_117 ki_X7_never ks_X7_never rfl (by decide) rfl rfl (Nat.le_of_ble_eq_true rfl) (by decide) (k_X7_never rfl h) (gl_ki (fun r1 m1 h => ?_))
  refine gl_aload_n 2 dL_law_869 rfl rfl ?_
  refine gl_callV (ci := 8) (d' := 8) [] dL_law_870 cw_RL_120 ki_X8_never ks_X8_never rfl (by decide) rfl rfl (Nat.le_of_ble_eq_true rfl) (by decide) (k_X8_never rfl h) (gl_ki (fun r2 m2 h => ?_))
  obtain ⟨e9, h⟩ := h
  refine gl_icmp_eq 1316 dL_law_873 (by decide) (fun _ => k _ h) (fun c9 => absurd e9 c9)
set_option maxRecDepth 100000 in
set_option maxHeartbeats 4000000 in
theorem la_was {Inv : gk_St → Prop} {L : Nat} {xs : Nat → Int32} {μ : gk_St} {i : Int32} {j : Nat} (hi : i = nI j) (hj : j + 6 ≤ L) (hL : L ≤ 3072) (ok : ok_was Inv) (hI : Inv μ) (k : ∀ m : gk_St, Inv m → GL L xs 1316 [(0, .ref 2000), (1, .ref 0), (2, .ref 101), (3, .int i)] [] m) : GL L xs 878 [(0, .ref 2000), (1, .ref 0), (2, .ref 101), (3, .int i)] [] μ := by
  have h := ok μ (xs (i + nI 1).toNatClampNeg) (xs (i + nI 2).toNatClampNeg) hI
  refine gl_aload_n 1 dL_law_878 rfl rfl ?_
  refine gl_aload_n 0 dL_law_879 rfl rfl ?_
  refine gl_iload_n 3 dL_law_880 rfl rfl ?_
  refine gl_iconst (v := nI 1) dL_law_881 (by decide) ?_
  refine gl_iadd dL_law_882 ?_
  refine gl_sld dL_law_883 (gl_in hi (k := 1) (by decide) hj hL) ?_
  refine gl_aload_n 0 dL_law_884 rfl rfl ?_
  refine gl_iload_n 3 dL_law_885 rfl rfl ?_
  refine gl_iconst (v := nI 2) dL_law_886 (by decide) ?_
  refine gl_iadd dL_law_887 ?_
  refine gl_sld dL_law_888 (gl_in hi (k := 2) (by decide) hj hL) ?_
  refine gl_callV (ci := 7) (d' := 6) [.int (xs (i + nI 1).toNatClampNeg), .int (xs (i + nI 2).toNatClampNeg)] dL_law_889 cw_RL_121 ki_X7_was ks_X7_was rfl (by decide) rfl rfl (Nat.le_of_ble_eq_true rfl) (by decide) (k_X7_was rfl h) (gl_ki (fun r1 m1 h => ?_))
  refine gl_aload_n 2 dL_law_892 rfl rfl ?_
  refine gl_aload_n 0 dL_law_893 rfl rfl ?_
  refine gl_iload_n 3 dL_law_894 rfl rfl ?_
  refine gl_iconst (v := nI 1) dL_law_895 (by decide) ?_
  refine gl_iadd dL_law_896 ?_
  refine gl_sld dL_law_897 (gl_in hi (k := 1) (by decide) hj hL) ?_
  refine gl_aload_n 0 dL_law_898 rfl rfl ?_
  refine gl_iload_n 3 dL_law_899 rfl rfl ?_
  refine gl_iconst (v := nI 2) dL_law_900 (by decide) ?_
  refine gl_iadd dL_law_901 ?_
  refine gl_sld dL_law_902 (gl_in hi (k := 2) (by decide) hj hL) ?_
  refine gl_callV (ci := 8) (d' := 8) [.int (xs (i + nI 1).toNatClampNeg), .int (xs (i + nI 2).toNatClampNeg)] dL_law_903 cw_RL_124 ki_X8_was ks_X8_was rfl (by decide) rfl rfl (Nat.le_of_ble_eq_true rfl) (by decide) (k_X8_was rfl h) (gl_ki (fun r2 m2 h => ?_))
  obtain ⟨e9, h⟩ := h
  refine gl_icmp_eq 1316 dL_law_906 (by decide) (fun _ => k _ h) (fun c9 => absurd e9 c9)
set_option maxRecDepth 100000 in
set_option maxHeartbeats 4000000 in
theorem la_ask {Inv : gk_St → Prop} {L : Nat} {xs : Nat → Int32} {μ : gk_St} {i : Int32} {j : Nat} (hi : i = nI j) (hj : j + 6 ≤ L) (hL : L ≤ 3072) (ok : ok_ask Inv) (hI : Inv μ) (k : ∀ m : gk_St, Inv m → GL L xs 1316 [(0, .ref 2000), (1, .ref 0), (2, .ref 101), (3, .int i)] [] m) : GL L xs 911 [(0, .ref 2000), (1, .ref 0), (2, .ref 101), (3, .int i)] [] μ := by
  have h := ok μ (xs (i + nI 1).toNatClampNeg) hI
  refine gl_aload_n 1 dL_law_911 rfl rfl ?_
  refine gl_aload_n 0 dL_law_912 rfl rfl ?_
  refine gl_iload_n 3 dL_law_913 rfl rfl ?_
  refine gl_iconst (v := nI 1) dL_law_914 (by decide) ?_
  refine gl_iadd dL_law_915 ?_
  refine gl_sld dL_law_916 (gl_in hi (k := 1) (by decide) hj hL) ?_
  refine gl_callV (ci := 7) (d' := 6) [.int (xs (i + nI 1).toNatClampNeg)] dL_law_917 cw_RL_125 ki_X7_ask ks_X7_ask rfl (by decide) rfl rfl (Nat.le_of_ble_eq_true rfl) (by decide) (k_X7_ask rfl h) (gl_ki (fun r1 m1 h => ?_))
  refine gl_aload_n 2 dL_law_920 rfl rfl ?_
  refine gl_aload_n 0 dL_law_921 rfl rfl ?_
  refine gl_iload_n 3 dL_law_922 rfl rfl ?_
  refine gl_iconst (v := nI 1) dL_law_923 (by decide) ?_
  refine gl_iadd dL_law_924 ?_
  refine gl_sld dL_law_925 (gl_in hi (k := 1) (by decide) hj hL) ?_
  refine gl_callV (ci := 8) (d' := 9) [.int (xs (i + nI 1).toNatClampNeg)] dL_law_926 cw_RL_128 ki_X8_ask ks_X8_ask rfl (by decide) rfl rfl (Nat.le_of_ble_eq_true rfl) (by decide) (k_X8_ask rfl h) (gl_ki (fun r2 m2 h => ?_))
  obtain ⟨e9, h⟩ := h
  refine gl_icmp_eq 1316 dL_law_929 (by decide) (fun _ => k _ h) (fun c9 => absurd e9 c9)
set_option maxRecDepth 100000 in
set_option maxHeartbeats 4000000 in
theorem la_chance {Inv : gk_St → Prop} {L : Nat} {xs : Nat → Int32} {μ : gk_St} {i : Int32} {j : Nat} (hi : i = nI j) (hj : j + 6 ≤ L) (hL : L ≤ 3072) (ok : ok_chance Inv) (hI : Inv μ) (k : ∀ m : gk_St, Inv m → GL L xs 1316 [(0, .ref 2000), (1, .ref 0), (2, .ref 101), (3, .int i)] [] m) : GL L xs 934 [(0, .ref 2000), (1, .ref 0), (2, .ref 101), (3, .int i)] [] μ := by
  have h := ok μ (xs (i + nI 1).toNatClampNeg) (xs (i + nI 2).toNatClampNeg) (xs (i + nI 3).toNatClampNeg) hI
  refine gl_aload_n 1 dL_law_934 rfl rfl ?_
  refine gl_aload_n 0 dL_law_935 rfl rfl ?_
  refine gl_iload_n 3 dL_law_936 rfl rfl ?_
  refine gl_iconst (v := nI 1) dL_law_937 (by decide) ?_
  refine gl_iadd dL_law_938 ?_
  refine gl_sld dL_law_939 (gl_in hi (k := 1) (by decide) hj hL) ?_
  refine gl_aload_n 0 dL_law_940 rfl rfl ?_
  refine gl_iload_n 3 dL_law_941 rfl rfl ?_
  refine gl_iconst (v := nI 2) dL_law_942 (by decide) ?_
  refine gl_iadd dL_law_943 ?_
  refine gl_sld dL_law_944 (gl_in hi (k := 2) (by decide) hj hL) ?_
  refine gl_aload_n 0 dL_law_945 rfl rfl ?_
  refine gl_iload_n 3 dL_law_946 rfl rfl ?_
  refine gl_iconst (v := nI 3) dL_law_947 (by decide) ?_
  refine gl_iadd dL_law_948 ?_
  refine gl_sld dL_law_949 (gl_in hi (k := 3) (by decide) hj hL) ?_
  refine gl_callV (ci := 7) (d' := 5) [.int (xs (i + nI 1).toNatClampNeg), .int (xs (i + nI 2).toNatClampNeg), .int (xs (i + nI 3).toNatClampNeg)] dL_law_950 cw_RL_129 ki_X7_chance ks_X7_chance rfl (by decide) rfl rfl (Nat.le_of_ble_eq_true rfl) (by decide) (k_X7_chance rfl h) (gl_kl (fun r1 m1 h => ?_))
  refine gl_aload_n 2 dL_law_953 rfl rfl ?_
  refine gl_aload_n 0 dL_law_954 rfl rfl ?_
  refine gl_iload_n 3 dL_law_955 rfl rfl ?_
  refine gl_iconst (v := nI 1) dL_law_956 (by decide) ?_
  refine gl_iadd dL_law_957 ?_
  refine gl_sld dL_law_958 (gl_in hi (k := 1) (by decide) hj hL) ?_
  refine gl_aload_n 0 dL_law_959 rfl rfl ?_
  refine gl_iload_n 3 dL_law_960 rfl rfl ?_
  refine gl_iconst (v := nI 2) dL_law_961 (by decide) ?_
  refine gl_iadd dL_law_962 ?_
  refine gl_sld dL_law_963 (gl_in hi (k := 2) (by decide) hj hL) ?_
  refine gl_aload_n 0 dL_law_964 rfl rfl ?_
  refine gl_iload_n 3 dL_law_965 rfl rfl ?_
  refine gl_iconst (v := nI 3) dL_law_966 (by decide) ?_
  refine gl_iadd dL_law_967 ?_
  refine gl_sld dL_law_968 (gl_in hi (k := 3) (by decide) hj hL) ?_
  refine gl_callV (ci := 8) (d' := 8) [.int (xs (i + nI 1).toNatClampNeg), .int (xs (i + nI 2).toNatClampNeg), .int (xs (i + nI 3).toNatClampNeg)] dL_law_969 cw_RL_133 ki_X8_chance ks_X8_chance rfl (by decide) rfl rfl (Nat.le_of_ble_eq_true rfl) (by decide) (k_X8_chance rfl h) (gl_kl (fun r2 m2 h => ?_))
  refine gl_lcmp dL_law_972 ?_
  obtain ⟨e9, h⟩ := h
  refine gl_if_eq 1316 dL_law_973 (by decide) (fun _ => k _ h) (fun c9 => absurd (by rw [e9]; exact gl_cmp _) c9)
set_option maxRecDepth 100000 in
set_option maxHeartbeats 4000000 in
theorem la_years {Inv : gk_St → Prop} {L : Nat} {xs : Nat → Int32} {μ : gk_St} {i : Int32} {j : Nat} (hi : i = nI j) (hj : j + 6 ≤ L) (hL : L ≤ 3072) (ok : ok_years Inv) (hI : Inv μ) (k : ∀ m : gk_St, Inv m → GL L xs 1316 [(0, .ref 2000), (1, .ref 0), (2, .ref 101), (3, .int i)] [] m) : GL L xs 978 [(0, .ref 2000), (1, .ref 0), (2, .ref 101), (3, .int i)] [] μ := by
  have h := ok μ (xs (i + nI 1).toNatClampNeg) (xs (i + nI 2).toNatClampNeg) (xs (i + nI 3).toNatClampNeg) hI
  refine gl_aload_n 1 dL_law_978 rfl rfl ?_
  refine gl_aload_n 0 dL_law_979 rfl rfl ?_
  refine gl_iload_n 3 dL_law_980 rfl rfl ?_
  refine gl_iconst (v := nI 1) dL_law_981 (by decide) ?_
  refine gl_iadd dL_law_982 ?_
  refine gl_sld dL_law_983 (gl_in hi (k := 1) (by decide) hj hL) ?_
  refine gl_aload_n 0 dL_law_984 rfl rfl ?_
  refine gl_iload_n 3 dL_law_985 rfl rfl ?_
  refine gl_iconst (v := nI 2) dL_law_986 (by decide) ?_
  refine gl_iadd dL_law_987 ?_
  refine gl_sld dL_law_988 (gl_in hi (k := 2) (by decide) hj hL) ?_
  refine gl_aload_n 0 dL_law_989 rfl rfl ?_
  refine gl_iload_n 3 dL_law_990 rfl rfl ?_
  refine gl_iconst (v := nI 3) dL_law_991 (by decide) ?_
  refine gl_iadd dL_law_992 ?_
  refine gl_sld dL_law_993 (gl_in hi (k := 3) (by decide) hj hL) ?_
  refine gl_callV (ci := 7) (d' := 4) [.int (xs (i + nI 1).toNatClampNeg), .int (xs (i + nI 2).toNatClampNeg), .int (xs (i + nI 3).toNatClampNeg)] dL_law_994 cw_RL_134 ki_X7_years ks_X7_years rfl (by decide) rfl rfl (Nat.le_of_ble_eq_true rfl) (by decide) (k_X7_years rfl h) (gl_ki (fun r1 m1 h => ?_))
  refine gl_aload_n 2 dL_law_997 rfl rfl ?_
  refine gl_aload_n 0 dL_law_998 rfl rfl ?_
  refine gl_iload_n 3 dL_law_999 rfl rfl ?_
  refine gl_iconst (v := nI 1) dL_law_1000 (by decide) ?_
  refine gl_iadd dL_law_1001 ?_
  refine gl_sld dL_law_1002 (gl_in hi (k := 1) (by decide) hj hL) ?_
  refine gl_aload_n 0 dL_law_1003 rfl rfl ?_
  refine gl_iload_n 3 dL_law_1004 rfl rfl ?_
  refine gl_iconst (v := nI 2) dL_law_1005 (by decide) ?_
  refine gl_iadd dL_law_1006 ?_
  refine gl_sld dL_law_1007 (gl_in hi (k := 2) (by decide) hj hL) ?_
  refine gl_aload_n 0 dL_law_1008 rfl rfl ?_
  refine gl_iload_n 3 dL_law_1009 rfl rfl ?_
  refine gl_iconst (v := nI 3) dL_law_1010 (by decide) ?_
  refine gl_iadd dL_law_1011 ?_
  refine gl_sld dL_law_1012 (gl_in hi (k := 3) (by decide) hj hL) ?_
  refine gl_callV (ci := 8) (d' := 8) [.int (xs (i + nI 1).toNatClampNeg), .int (xs (i + nI 2).toNatClampNeg), .int (xs (i + nI 3).toNatClampNeg)] dL_law_1013 cw_RL_137 ki_X8_years ks_X8_years rfl (by decide) rfl rfl (Nat.le_of_ble_eq_true rfl) (by decide) (k_X8_years rfl h) (gl_ki (fun r2 m2 h => ?_))
  obtain ⟨e9, h⟩ := h
  refine gl_icmp_eq 1316 dL_law_1016 (by decide) (fun _ => k _ h) (fun c9 => absurd e9 c9)
set_option maxRecDepth 100000 in
set_option maxHeartbeats 4000000 in
theorem la_sheet {Inv : gk_St → Prop} {L : Nat} {xs : Nat → Int32} {μ : gk_St} {i : Int32} {j : Nat} (hi : i = nI j) (hj : j + 6 ≤ L) (hL : L ≤ 3072) (ok : ok_sheet Inv) (hI : Inv μ) (k : ∀ m : gk_St, Inv m → GL L xs 1316 [(0, .ref 2000), (1, .ref 0), (2, .ref 101), (3, .int i)] [] m) : GL L xs 1021 [(0, .ref 2000), (1, .ref 0), (2, .ref 101), (3, .int i)] [] μ := by
  have h := ok μ (xs (i + nI 1).toNatClampNeg) (xs (i + nI 2).toNatClampNeg) (xs (i + nI 3).toNatClampNeg) hI
  refine gl_aload_n 1 dL_law_1021 rfl rfl ?_
  refine gl_aload_n 0 dL_law_1022 rfl rfl ?_
  refine gl_iload_n 3 dL_law_1023 rfl rfl ?_
  refine gl_iconst (v := nI 1) dL_law_1024 (by decide) ?_
  refine gl_iadd dL_law_1025 ?_
  refine gl_sld dL_law_1026 (gl_in hi (k := 1) (by decide) hj hL) ?_
  refine gl_aload_n 0 dL_law_1027 rfl rfl ?_
  refine gl_iload_n 3 dL_law_1028 rfl rfl ?_
  refine gl_iconst (v := nI 2) dL_law_1029 (by decide) ?_
  refine gl_iadd dL_law_1030 ?_
  refine gl_sld dL_law_1031 (gl_in hi (k := 2) (by decide) hj hL) ?_
  refine gl_aload_n 0 dL_law_1032 rfl rfl ?_
  refine gl_iload_n 3 dL_law_1033 rfl rfl ?_
  refine gl_iconst (v := nI 3) dL_law_1034 (by decide) ?_
  refine gl_iadd dL_law_1035 ?_
  refine gl_sld dL_law_1036 (gl_in hi (k := 3) (by decide) hj hL) ?_
  refine gl_callV (ci := 7) (d' := 2) [.int (xs (i + nI 1).toNatClampNeg), .int (xs (i + nI 2).toNatClampNeg), .int (xs (i + nI 3).toNatClampNeg)] dL_law_1037 cw_RL_138 ki_X7_sheet ks_X7_sheet rfl (by decide) rfl rfl (Nat.le_of_ble_eq_true rfl) (by decide) (k_X7_sheet rfl h) (gl_ki (fun r1 m1 h => ?_))
  refine gl_aload_n 2 dL_law_1040 rfl rfl ?_
  refine gl_aload_n 0 dL_law_1041 rfl rfl ?_
  refine gl_iload_n 3 dL_law_1042 rfl rfl ?_
  refine gl_iconst (v := nI 1) dL_law_1043 (by decide) ?_
  refine gl_iadd dL_law_1044 ?_
  refine gl_sld dL_law_1045 (gl_in hi (k := 1) (by decide) hj hL) ?_
  refine gl_aload_n 0 dL_law_1046 rfl rfl ?_
  refine gl_iload_n 3 dL_law_1047 rfl rfl ?_
  refine gl_iconst (v := nI 2) dL_law_1048 (by decide) ?_
  refine gl_iadd dL_law_1049 ?_
  refine gl_sld dL_law_1050 (gl_in hi (k := 2) (by decide) hj hL) ?_
  refine gl_aload_n 0 dL_law_1051 rfl rfl ?_
  refine gl_iload_n 3 dL_law_1052 rfl rfl ?_
  refine gl_iconst (v := nI 3) dL_law_1053 (by decide) ?_
  refine gl_iadd dL_law_1054 ?_
  refine gl_sld dL_law_1055 (gl_in hi (k := 3) (by decide) hj hL) ?_
  refine gl_callV (ci := 8) (d' := 2) [.int (xs (i + nI 1).toNatClampNeg), .int (xs (i + nI 2).toNatClampNeg), .int (xs (i + nI 3).toNatClampNeg)] dL_law_1056 cw_RL_141 ki_X8_sheet ks_X8_sheet rfl (by decide) rfl rfl (Nat.le_of_ble_eq_true rfl) (by decide) (k_X8_sheet rfl h) (gl_ki (fun r2 m2 h => ?_))
  obtain ⟨e9, h⟩ := h
  refine gl_icmp_eq 1316 dL_law_1059 (by decide) (fun _ => k _ h) (fun c9 => absurd e9 c9)
set_option maxRecDepth 100000 in
set_option maxHeartbeats 4000000 in
theorem la_lose {Inv : gk_St → Prop} {L : Nat} {xs : Nat → Int32} {μ : gk_St} {i : Int32} {j : Nat} (hi : i = nI j) (hj : j + 6 ≤ L) (hL : L ≤ 3072) (ok : ok_lose Inv) (hI : Inv μ) (k : ∀ m : gk_St, Inv m → GL L xs 1316 [(0, .ref 2000), (1, .ref 0), (2, .ref 101), (3, .int i)] [] m) : GL L xs 1064 [(0, .ref 2000), (1, .ref 0), (2, .ref 101), (3, .int i)] [] μ := by
  have h := ok μ (xs (i + nI 1).toNatClampNeg) hI
  refine gl_aload_n 1 dL_law_1064 rfl rfl ?_
  refine gl_aload_n 0 dL_law_1065 rfl rfl ?_
  refine gl_iload_n 3 dL_law_1066 rfl rfl ?_
  refine gl_iconst (v := nI 1) dL_law_1067 (by decide) ?_
  refine gl_iadd dL_law_1068 ?_
  refine gl_sld dL_law_1069 (gl_in hi (k := 1) (by decide) hj hL) ?_
  refine gl_callV (ci := 7) (d' := 1) [.int (xs (i + nI 1).toNatClampNeg)] dL_law_1070 cw_RL_142 ki_X7_lose ks_X7_lose rfl (by decide) rfl rfl (Nat.le_of_ble_eq_true rfl) (by decide) (k_X7_lose rfl h) (gl_ki (fun r1 m1 h => ?_))
  refine gl_aload_n 2 dL_law_1073 rfl rfl ?_
  refine gl_aload_n 0 dL_law_1074 rfl rfl ?_
  refine gl_iload_n 3 dL_law_1075 rfl rfl ?_
  refine gl_iconst (v := nI 1) dL_law_1076 (by decide) ?_
  refine gl_iadd dL_law_1077 ?_
  refine gl_sld dL_law_1078 (gl_in hi (k := 1) (by decide) hj hL) ?_
  refine gl_callV (ci := 8) (d' := 2) [.int (xs (i + nI 1).toNatClampNeg)] dL_law_1079 cw_RL_145 ki_X8_lose ks_X8_lose rfl (by decide) rfl rfl (Nat.le_of_ble_eq_true rfl) (by decide) (k_X8_lose rfl h) (gl_ki (fun r2 m2 h => ?_))
  obtain ⟨e9, h⟩ := h
  refine gl_icmp_eq 1316 dL_law_1082 (by decide) (fun _ => k _ h) (fun c9 => absurd e9 c9)
set_option maxRecDepth 100000 in
set_option maxHeartbeats 4000000 in
theorem la_put {Inv : gk_St → Prop} {L : Nat} {xs : Nat → Int32} {μ : gk_St} {i : Int32} {j : Nat} (hi : i = nI j) (hj : j + 6 ≤ L) (hL : L ≤ 3072) (ok : ok_put Inv) (hI : Inv μ) (k : ∀ m : gk_St, Inv m → GL L xs 1316 [(0, .ref 2000), (1, .ref 0), (2, .ref 101), (3, .int i)] [] m) : GL L xs 1087 [(0, .ref 2000), (1, .ref 0), (2, .ref 101), (3, .int i)] [] μ := by
  have h := ok μ (xs (i + nI 1).toNatClampNeg) (xs (i + nI 2).toNatClampNeg) (xs (i + nI 3).toNatClampNeg) (xs (i + nI 4).toNatClampNeg) hI
  refine gl_aload_n 1 dL_law_1087 rfl rfl ?_
  refine gl_aload_n 0 dL_law_1088 rfl rfl ?_
  refine gl_iload_n 3 dL_law_1089 rfl rfl ?_
  refine gl_iconst (v := nI 1) dL_law_1090 (by decide) ?_
  refine gl_iadd dL_law_1091 ?_
  refine gl_sld dL_law_1092 (gl_in hi (k := 1) (by decide) hj hL) ?_
  refine gl_aload_n 0 dL_law_1093 rfl rfl ?_
  refine gl_iload_n 3 dL_law_1094 rfl rfl ?_
  refine gl_iconst (v := nI 2) dL_law_1095 (by decide) ?_
  refine gl_iadd dL_law_1096 ?_
  refine gl_sld dL_law_1097 (gl_in hi (k := 2) (by decide) hj hL) ?_
  refine gl_aload_n 0 dL_law_1098 rfl rfl ?_
  refine gl_iload_n 3 dL_law_1099 rfl rfl ?_
  refine gl_iconst (v := nI 3) dL_law_1100 (by decide) ?_
  refine gl_iadd dL_law_1101 ?_
  refine gl_sld dL_law_1102 (gl_in hi (k := 3) (by decide) hj hL) ?_
  refine gl_aload_n 0 dL_law_1103 rfl rfl ?_
  refine gl_iload_n 3 dL_law_1104 rfl rfl ?_
  refine gl_iconst (v := nI 4) dL_law_1105 (by decide) ?_
  refine gl_iadd dL_law_1106 ?_
  refine gl_sld dL_law_1107 (gl_in hi (k := 4) (by decide) hj hL) ?_
  refine gl_callV (ci := 7) (d' := 2) [.int (xs (i + nI 1).toNatClampNeg), .int (xs (i + nI 2).toNatClampNeg), .int (xs (i + nI 3).toNatClampNeg), .int (xs (i + nI 4).toNatClampNeg)] dL_law_1108 cw_RL_146 ki_X7_put ks_X7_put rfl (by decide) rfl rfl (Nat.le_of_ble_eq_true rfl) (by decide) (k_X7_put rfl h) (gl_ki (fun r1 m1 h => ?_))
  refine gl_aload_n 2 dL_law_1111 rfl rfl ?_
  refine gl_aload_n 0 dL_law_1112 rfl rfl ?_
  refine gl_iload_n 3 dL_law_1113 rfl rfl ?_
  refine gl_iconst (v := nI 1) dL_law_1114 (by decide) ?_
  refine gl_iadd dL_law_1115 ?_
  refine gl_sld dL_law_1116 (gl_in hi (k := 1) (by decide) hj hL) ?_
  refine gl_aload_n 0 dL_law_1117 rfl rfl ?_
  refine gl_iload_n 3 dL_law_1118 rfl rfl ?_
  refine gl_iconst (v := nI 2) dL_law_1119 (by decide) ?_
  refine gl_iadd dL_law_1120 ?_
  refine gl_sld dL_law_1121 (gl_in hi (k := 2) (by decide) hj hL) ?_
  refine gl_aload_n 0 dL_law_1122 rfl rfl ?_
  refine gl_iload_n 3 dL_law_1123 rfl rfl ?_
  refine gl_iconst (v := nI 3) dL_law_1124 (by decide) ?_
  refine gl_iadd dL_law_1125 ?_
  refine gl_sld dL_law_1126 (gl_in hi (k := 3) (by decide) hj hL) ?_
  refine gl_aload_n 0 dL_law_1127 rfl rfl ?_
  refine gl_iload_n 3 dL_law_1128 rfl rfl ?_
  refine gl_iconst (v := nI 4) dL_law_1129 (by decide) ?_
  refine gl_iadd dL_law_1130 ?_
  refine gl_sld dL_law_1131 (gl_in hi (k := 4) (by decide) hj hL) ?_
  refine gl_callV (ci := 8) (d' := 2) [.int (xs (i + nI 1).toNatClampNeg), .int (xs (i + nI 2).toNatClampNeg), .int (xs (i + nI 3).toNatClampNeg), .int (xs (i + nI 4).toNatClampNeg)] dL_law_1132 cw_RL_150 ki_X8_put ks_X8_put rfl (by decide) rfl rfl (Nat.le_of_ble_eq_true rfl) (by decide) (k_X8_put rfl h) (gl_ki (fun r2 m2 h => ?_))
  obtain ⟨e9, h⟩ := h
  refine gl_icmp_eq 1316 dL_law_1135 (by decide) (fun _ => k _ h) (fun c9 => absurd e9 c9)
set_option maxRecDepth 100000 in
set_option maxHeartbeats 4000000 in
theorem la_get {Inv : gk_St → Prop} {L : Nat} {xs : Nat → Int32} {μ : gk_St} {i : Int32} {j : Nat} (hi : i = nI j) (hj : j + 6 ≤ L) (hL : L ≤ 3072) (ok : ok_get Inv) (hI : Inv μ) (k : ∀ m : gk_St, Inv m → GL L xs 1316 [(0, .ref 2000), (1, .ref 0), (2, .ref 101), (3, .int i)] [] m) : GL L xs 1140 [(0, .ref 2000), (1, .ref 0), (2, .ref 101), (3, .int i)] [] μ := by
  have h := ok μ (xs (i + nI 1).toNatClampNeg) (xs (i + nI 2).toNatClampNeg) (xs (i + nI 3).toNatClampNeg) hI
  refine gl_aload_n 1 dL_law_1140 rfl rfl ?_
  refine gl_aload_n 0 dL_law_1141 rfl rfl ?_
  refine gl_iload_n 3 dL_law_1142 rfl rfl ?_
  refine gl_iconst (v := nI 1) dL_law_1143 (by decide) ?_
  refine gl_iadd dL_law_1144 ?_
  refine gl_sld dL_law_1145 (gl_in hi (k := 1) (by decide) hj hL) ?_
  refine gl_aload_n 0 dL_law_1146 rfl rfl ?_
  refine gl_iload_n 3 dL_law_1147 rfl rfl ?_
  refine gl_iconst (v := nI 2) dL_law_1148 (by decide) ?_
  refine gl_iadd dL_law_1149 ?_
  refine gl_sld dL_law_1150 (gl_in hi (k := 2) (by decide) hj hL) ?_
  refine gl_aload_n 0 dL_law_1151 rfl rfl ?_
  refine gl_iload_n 3 dL_law_1152 rfl rfl ?_
  refine gl_iconst (v := nI 3) dL_law_1153 (by decide) ?_
  refine gl_iadd dL_law_1154 ?_
  refine gl_sld dL_law_1155 (gl_in hi (k := 3) (by decide) hj hL) ?_
  refine gl_callV (ci := 7) (d' := 2) [.int (xs (i + nI 1).toNatClampNeg), .int (xs (i + nI 2).toNatClampNeg), .int (xs (i + nI 3).toNatClampNeg)] dL_law_1156 cw_RL_151 ki_X7_get ks_X7_get rfl (by decide) rfl rfl (Nat.le_of_ble_eq_true rfl) (by decide) (k_X7_get rfl h) (gl_ki (fun r1 m1 h => ?_))
  refine gl_aload_n 2 dL_law_1159 rfl rfl ?_
  refine gl_aload_n 0 dL_law_1160 rfl rfl ?_
  refine gl_iload_n 3 dL_law_1161 rfl rfl ?_
  refine gl_iconst (v := nI 1) dL_law_1162 (by decide) ?_
  refine gl_iadd dL_law_1163 ?_
  refine gl_sld dL_law_1164 (gl_in hi (k := 1) (by decide) hj hL) ?_
  refine gl_aload_n 0 dL_law_1165 rfl rfl ?_
  refine gl_iload_n 3 dL_law_1166 rfl rfl ?_
  refine gl_iconst (v := nI 2) dL_law_1167 (by decide) ?_
  refine gl_iadd dL_law_1168 ?_
  refine gl_sld dL_law_1169 (gl_in hi (k := 2) (by decide) hj hL) ?_
  refine gl_aload_n 0 dL_law_1170 rfl rfl ?_
  refine gl_iload_n 3 dL_law_1171 rfl rfl ?_
  refine gl_iconst (v := nI 3) dL_law_1172 (by decide) ?_
  refine gl_iadd dL_law_1173 ?_
  refine gl_sld dL_law_1174 (gl_in hi (k := 3) (by decide) hj hL) ?_
  refine gl_callV (ci := 8) (d' := 2) [.int (xs (i + nI 1).toNatClampNeg), .int (xs (i + nI 2).toNatClampNeg), .int (xs (i + nI 3).toNatClampNeg)] dL_law_1175 cw_RL_154 ki_X8_get ks_X8_get rfl (by decide) rfl rfl (Nat.le_of_ble_eq_true rfl) (by decide) (k_X8_get rfl h) (gl_ki (fun r2 m2 h => ?_))
  obtain ⟨e9, h⟩ := h
  refine gl_icmp_eq 1316 dL_law_1178 (by decide) (fun _ => k _ h) (fun c9 => absurd e9 c9)
set_option maxRecDepth 100000 in
set_option maxHeartbeats 4000000 in
theorem la_copy {Inv : gk_St → Prop} {L : Nat} {xs : Nat → Int32} {μ : gk_St} {i : Int32} {j : Nat} (hi : i = nI j) (hj : j + 6 ≤ L) (hL : L ≤ 3072) (ok : ok_copy Inv) (hI : Inv μ) (k : ∀ m : gk_St, Inv m → GL L xs 1316 [(0, .ref 2000), (1, .ref 0), (2, .ref 101), (3, .int i)] [] m) : GL L xs 1183 [(0, .ref 2000), (1, .ref 0), (2, .ref 101), (3, .int i)] [] μ := by
  have h := ok μ (xs (i + nI 1).toNatClampNeg) (xs (i + nI 2).toNatClampNeg) (xs (i + nI 3).toNatClampNeg) (xs (i + nI 4).toNatClampNeg) (xs (i + nI 5).toNatClampNeg) hI
  refine gl_aload_n 1 dL_law_1183 rfl rfl ?_
  refine gl_aload_n 0 dL_law_1184 rfl rfl ?_
  refine gl_iload_n 3 dL_law_1185 rfl rfl ?_
  refine gl_iconst (v := nI 1) dL_law_1186 (by decide) ?_
  refine gl_iadd dL_law_1187 ?_
  refine gl_sld dL_law_1188 (gl_in hi (k := 1) (by decide) hj hL) ?_
  refine gl_aload_n 0 dL_law_1189 rfl rfl ?_
  refine gl_iload_n 3 dL_law_1190 rfl rfl ?_
  refine gl_iconst (v := nI 2) dL_law_1191 (by decide) ?_
  refine gl_iadd dL_law_1192 ?_
  refine gl_sld dL_law_1193 (gl_in hi (k := 2) (by decide) hj hL) ?_
  refine gl_aload_n 0 dL_law_1194 rfl rfl ?_
  refine gl_iload_n 3 dL_law_1195 rfl rfl ?_
  refine gl_iconst (v := nI 3) dL_law_1196 (by decide) ?_
  refine gl_iadd dL_law_1197 ?_
  refine gl_sld dL_law_1198 (gl_in hi (k := 3) (by decide) hj hL) ?_
  refine gl_aload_n 0 dL_law_1199 rfl rfl ?_
  refine gl_iload_n 3 dL_law_1200 rfl rfl ?_
  refine gl_iconst (v := nI 4) dL_law_1201 (by decide) ?_
  refine gl_iadd dL_law_1202 ?_
  refine gl_sld dL_law_1203 (gl_in hi (k := 4) (by decide) hj hL) ?_
  refine gl_aload_n 0 dL_law_1204 rfl rfl ?_
  refine gl_iload_n 3 dL_law_1205 rfl rfl ?_
  refine gl_iconst (v := nI 5) dL_law_1206 (by decide) ?_
  refine gl_iadd dL_law_1207 ?_
  refine gl_sld dL_law_1208 (gl_in hi (k := 5) (by decide) hj hL) ?_
  refine gl_callV (ci := 7) (d' := 1) [.int (xs (i + nI 1).toNatClampNeg), .int (xs (i + nI 2).toNatClampNeg), .int (xs (i + nI 3).toNatClampNeg), .int (xs (i + nI 4).toNatClampNeg), .int (xs (i + nI 5).toNatClampNeg)] dL_law_1209 cw_RL_155 ki_X7_copy ks_X7_copy rfl (by decide) rfl rfl (Nat.le_of_ble_eq_true rfl) (by decide) (k_X7_copy rfl h) (gl_ki (fun r1 m1 h => ?_))
  refine gl_aload_n 2 dL_law_1212 rfl rfl ?_
  refine gl_aload_n 0 dL_law_1213 rfl rfl ?_
  refine gl_iload_n 3 dL_law_1214 rfl rfl ?_
  refine gl_iconst (v := nI 1) dL_law_1215 (by decide) ?_
  refine gl_iadd dL_law_1216 ?_
  refine gl_sld dL_law_1217 (gl_in hi (k := 1) (by decide) hj hL) ?_
  refine gl_aload_n 0 dL_law_1218 rfl rfl ?_
  refine gl_iload_n 3 dL_law_1219 rfl rfl ?_
  refine gl_iconst (v := nI 2) dL_law_1220 (by decide) ?_
  refine gl_iadd dL_law_1221 ?_
  refine gl_sld dL_law_1222 (gl_in hi (k := 2) (by decide) hj hL) ?_
  refine gl_aload_n 0 dL_law_1223 rfl rfl ?_
  refine gl_iload_n 3 dL_law_1224 rfl rfl ?_
  refine gl_iconst (v := nI 3) dL_law_1225 (by decide) ?_
  refine gl_iadd dL_law_1226 ?_
  refine gl_sld dL_law_1227 (gl_in hi (k := 3) (by decide) hj hL) ?_
  refine gl_aload_n 0 dL_law_1228 rfl rfl ?_
  refine gl_iload_n 3 dL_law_1229 rfl rfl ?_
  refine gl_iconst (v := nI 4) dL_law_1230 (by decide) ?_
  refine gl_iadd dL_law_1231 ?_
  refine gl_sld dL_law_1232 (gl_in hi (k := 4) (by decide) hj hL) ?_
  refine gl_aload_n 0 dL_law_1233 rfl rfl ?_
  refine gl_iload_n 3 dL_law_1234 rfl rfl ?_
  refine gl_iconst (v := nI 5) dL_law_1235 (by decide) ?_
  refine gl_iadd dL_law_1236 ?_
  refine gl_sld dL_law_1237 (gl_in hi (k := 5) (by decide) hj hL) ?_
  refine gl_callV (ci := 8) (d' := 2) [.int (xs (i + nI 1).toNatClampNeg), .int (xs (i + nI 2).toNatClampNeg), .int (xs (i + nI 3).toNatClampNeg), .int (xs (i + nI 4).toNatClampNeg), .int (xs (i + nI 5).toNatClampNeg)] dL_law_1238 cw_RL_159 ki_X8_copy ks_X8_copy rfl (by decide) rfl rfl (Nat.le_of_ble_eq_true rfl) (by decide) (k_X8_copy rfl h) (gl_ki (fun r2 m2 h => ?_))
  obtain ⟨e9, h⟩ := h
  refine gl_icmp_eq 1316 dL_law_1241 (by decide) (fun _ => k _ h) (fun c9 => absurd e9 c9)
set_option maxRecDepth 100000 in
set_option maxHeartbeats 4000000 in
theorem la_write {Inv : gk_St → Prop} {L : Nat} {xs : Nat → Int32} {μ : gk_St} {i : Int32} {j : Nat} (hi : i = nI j) (hj : j + 6 ≤ L) (hL : L ≤ 3072) (ok : ok_write Inv) (hI : Inv μ) (k : ∀ m : gk_St, Inv m → GL L xs 1316 [(0, .ref 2000), (1, .ref 0), (2, .ref 101), (3, .int i)] [] m) : GL L xs 1246 [(0, .ref 2000), (1, .ref 0), (2, .ref 101), (3, .int i)] [] μ := by
  have h := ok μ (xs (i + nI 1).toNatClampNeg) (xs (i + nI 2).toNatClampNeg) hI
  refine gl_aload_n 1 dL_law_1246 rfl rfl ?_
  refine gl_aload_n 0 dL_law_1247 rfl rfl ?_
  refine gl_iload_n 3 dL_law_1248 rfl rfl ?_
  refine gl_iconst (v := nI 1) dL_law_1249 (by decide) ?_
  refine gl_iadd dL_law_1250 ?_
  refine gl_sld dL_law_1251 (gl_in hi (k := 1) (by decide) hj hL) ?_
  refine gl_aload_n 0 dL_law_1252 rfl rfl ?_
  refine gl_iload_n 3 dL_law_1253 rfl rfl ?_
  refine gl_iconst (v := nI 2) dL_law_1254 (by decide) ?_
  refine gl_iadd dL_law_1255 ?_
  refine gl_sld dL_law_1256 (gl_in hi (k := 2) (by decide) hj hL) ?_
  refine gl_callV (ci := 7) (d' := 5) [.int (xs (i + nI 1).toNatClampNeg), .int (xs (i + nI 2).toNatClampNeg)] dL_law_1257 cw_RL_160 ki_X7_write ks_X7_write rfl (by decide) rfl rfl (Nat.le_of_ble_eq_true rfl) (by decide) (k_X7_write rfl h) (gl_ki (fun r1 m1 h => ?_))
  refine gl_aload_n 2 dL_law_1260 rfl rfl ?_
  refine gl_aload_n 0 dL_law_1261 rfl rfl ?_
  refine gl_iload_n 3 dL_law_1262 rfl rfl ?_
  refine gl_iconst (v := nI 1) dL_law_1263 (by decide) ?_
  refine gl_iadd dL_law_1264 ?_
  refine gl_sld dL_law_1265 (gl_in hi (k := 1) (by decide) hj hL) ?_
  refine gl_aload_n 0 dL_law_1266 rfl rfl ?_
  refine gl_iload_n 3 dL_law_1267 rfl rfl ?_
  refine gl_iconst (v := nI 2) dL_law_1268 (by decide) ?_
  refine gl_iadd dL_law_1269 ?_
  refine gl_sld dL_law_1270 (gl_in hi (k := 2) (by decide) hj hL) ?_
  refine gl_callV (ci := 8) (d' := 8) [.int (xs (i + nI 1).toNatClampNeg), .int (xs (i + nI 2).toNatClampNeg)] dL_law_1271 cw_RL_163 ki_X8_write ks_X8_write rfl (by decide) rfl rfl (Nat.le_of_ble_eq_true rfl) (by decide) (k_X8_write rfl h) (gl_ki (fun r2 m2 h => ?_))
  obtain ⟨e9, h⟩ := h
  refine gl_icmp_eq 1316 dL_law_1274 (by decide) (fun _ => k _ h) (fun c9 => absurd e9 c9)
set_option maxRecDepth 100000 in
set_option maxHeartbeats 4000000 in
theorem la_count {Inv : gk_St → Prop} {L : Nat} {xs : Nat → Int32} {μ : gk_St} {i : Int32} {j : Nat} (hi : i = nI j) (hj : j + 6 ≤ L) (hL : L ≤ 3072) (ok : ok_count Inv) (hI : Inv μ) (k : ∀ m : gk_St, Inv m → GL L xs 1316 [(0, .ref 2000), (1, .ref 0), (2, .ref 101), (3, .int i)] [] m) : GL L xs 1279 [(0, .ref 2000), (1, .ref 0), (2, .ref 101), (3, .int i)] [] μ := by
  have h := ok μ (xs (i + nI 1).toNatClampNeg) hI
  refine gl_aload_n 1 dL_law_1279 rfl rfl ?_
  refine gl_aload_n 0 dL_law_1280 rfl rfl ?_
  refine gl_iload_n 3 dL_law_1281 rfl rfl ?_
  refine gl_iconst (v := nI 1) dL_law_1282 (by decide) ?_
  refine gl_iadd dL_law_1283 ?_
  refine gl_sld dL_law_1284 (gl_in hi (k := 1) (by decide) hj hL) ?_
  refine gl_callV (ci := 7) (d' := 0) [.int (xs (i + nI 1).toNatClampNeg)] dL_law_1285 cw_RL_164 ki_X7_count ks_X7_count rfl (by decide) rfl rfl (Nat.le_of_ble_eq_true rfl) (by decide) (k_X7_count rfl h) (gl_ki (fun r1 m1 h => ?_))
  refine gl_aload_n 2 dL_law_1288 rfl rfl ?_
  refine gl_aload_n 0 dL_law_1289 rfl rfl ?_
  refine gl_iload_n 3 dL_law_1290 rfl rfl ?_
  refine gl_iconst (v := nI 1) dL_law_1291 (by decide) ?_
  refine gl_iadd dL_law_1292 ?_
  refine gl_sld dL_law_1293 (gl_in hi (k := 1) (by decide) hj hL) ?_
  refine gl_callV (ci := 8) (d' := 7) [.int (xs (i + nI 1).toNatClampNeg)] dL_law_1294 cw_RL_167 ki_X8_count ks_X8_count rfl (by decide) rfl rfl (Nat.le_of_ble_eq_true rfl) (by decide) (k_X8_count rfl h) (gl_ki (fun r2 m2 h => ?_))
  obtain ⟨e9, h⟩ := h
  refine gl_icmp_eq 1316 dL_law_1297 (by decide) (fun _ => k _ h) (fun c9 => absurd e9 c9)
set_option maxRecDepth 100000 in
set_option maxHeartbeats 4000000 in
theorem la_digest {Inv : gk_St → Prop} {L : Nat} {xs : Nat → Int32} {μ : gk_St} {i : Int32} {j : Nat} (hi : i = nI j) (hj : j + 6 ≤ L) (hL : L ≤ 3072) (ok : ok_digest Inv) (hI : Inv μ) (k : ∀ m : gk_St, Inv m → GL L xs 1316 [(0, .ref 2000), (1, .ref 0), (2, .ref 101), (3, .int i)] [] m) : GL L xs 1302 [(0, .ref 2000), (1, .ref 0), (2, .ref 101), (3, .int i)] [] μ := by
  have h := ok μ  hI
  refine gl_aload_n 1 dL_law_1302 rfl rfl ?_
  refine gl_callV (ci := 7) (d' := 7) [] dL_law_1303 cw_RL_168 ki_X7_digest ks_X7_digest rfl (by decide) rfl rfl (Nat.le_of_ble_eq_true rfl) (by decide) (k_X7_digest rfl h) (gl_kl (fun r1 m1 h => ?_))
  refine gl_aload_n 2 dL_law_1306 rfl rfl ?_
  refine gl_callV (ci := 8) (d' := 11) [] dL_law_1307 cw_RL_172 ki_X8_digest ks_X8_digest rfl (by decide) rfl rfl (Nat.le_of_ble_eq_true rfl) (by decide) (k_X8_digest rfl h) (gl_kl (fun r2 m2 h => ?_))
  refine gl_lcmp dL_law_1310 ?_
  obtain ⟨e9, h⟩ := h
  refine gl_if_eq 1316 dL_law_1311 (by decide) (fun _ => k _ h) (fun c9 => absurd (by rw [e9]; exact gl_cmp _) c9)
