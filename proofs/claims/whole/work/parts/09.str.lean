def w_J0_isLatin1_aae02 (this : Nat) (μ : gk_St) (Q : Int32 → gk_St → Prop) : Prop := (if (1 : Int32) = 0 then Q 0 μ else (if (0 : Int32) = 0 then Q 1 μ else Q 0 μ))
set_option maxRecDepth 100000 in
set_option maxHeartbeats 4000000 in
theorem k_J0_isLatin1_aae02 {this : Nat} {μ : gk_St} {Q : Int32 → gk_St → Prop} (h_this : gk_isS this) (h : w_J0_isLatin1_aae02 this μ Q) : gk_CT yJ0_isLatin1_aae02 cJ0_isLatin1_aae02 1 (some .boolean) 0 [.ref this] μ (gk_Qi Q) := by
  unfold w_J0_isLatin1_aae02 at h
  refine gk_enter (by decide) (Nat.le_of_ble_eq_true rfl) ?_
  show Go RJ0 cJ0_isLatin1_aae02 1 (some .boolean) 0 0 [(0, .ref this)] [] μ (gk_Qi Q)
  refine go_getsCS dJ0_isLatin1_aae02_0 sl_RJ0_38 ?_
  refine go_if_eq 17 dJ0_isLatin1_aae02_3 (by decide) (fun c => ?_) (fun c => ?_)
  · replace h := gk_ip h c
    refine go_iconst (v := 0) dJ0_isLatin1_aae02_17 (by decide) ?_
    exact go_zret dJ0_isLatin1_aae02_18 (Or.inl rfl) ⟨_, rfl, h⟩
  · replace h := gk_in h c
    refine go_aload_n 0 dJ0_isLatin1_aae02_6 rfl rfl ?_
    refine go_getSc dJ0_isLatin1_aae02_7 sl_RJ0_15 h_this ?_
    refine go_if_ne 17 dJ0_isLatin1_aae02_10 (by decide) (fun c => ?_) (fun c => ?_)
    · replace h := gk_in h c
      refine go_iconst (v := 0) dJ0_isLatin1_aae02_17 (by decide) ?_
      exact go_zret dJ0_isLatin1_aae02_18 (Or.inl rfl) ⟨_, rfl, h⟩
    · replace h := gk_ip h c
      refine go_iconst (v := 1) dJ0_isLatin1_aae02_13 (by decide) ?_
      refine go_goto 18 dJ0_isLatin1_aae02_14 (by decide) ?_
      exact go_zret dJ0_isLatin1_aae02_18 (Or.inr rfl) ⟨_, rfl, h⟩
def w_J0_coder_7d493 (this : Nat) (μ : gk_St) (Q : Int32 → gk_St → Prop) : Prop := (if (1 : Int32) = 0 then Q 1 μ else Q 0 μ)
set_option maxRecDepth 100000 in
set_option maxHeartbeats 4000000 in
theorem k_J0_coder_7d493 {this : Nat} {μ : gk_St} {Q : Int32 → gk_St → Prop} (h_this : gk_isS this) (h : w_J0_coder_7d493 this μ Q) : gk_CT yJ0_coder_7d493 cJ0_coder_7d493 1 (some .byte) 0 [.ref this] μ (gk_Qi Q) := by
  unfold w_J0_coder_7d493 at h
  refine gk_enter (by decide) (Nat.le_of_ble_eq_true rfl) ?_
  show Go RJ0 cJ0_coder_7d493 1 (some .byte) 0 0 [(0, .ref this)] [] μ (gk_Qi Q)
  refine go_getsCS dJ0_coder_7d493_0 sl_RJ0_38 ?_
  refine go_if_eq 13 dJ0_coder_7d493_3 (by decide) (fun c => ?_) (fun c => ?_)
  · replace h := gk_ip h c
    refine go_iconst (v := 1) dJ0_coder_7d493_13 (by decide) ?_
    exact go_bret dJ0_coder_7d493_14 rfl ⟨_, rfl, h⟩
  · replace h := gk_in h c
    refine go_aload_n 0 dJ0_coder_7d493_6 rfl rfl ?_
    refine go_getSc dJ0_coder_7d493_7 sl_RJ0_15 h_this ?_
    refine go_goto 14 dJ0_coder_7d493_10 (by decide) ?_
    exact go_bret dJ0_coder_7d493_14 rfl ⟨_, rfl, h⟩
def w_J0_length_8abf5 (this : Nat) (μ : gk_St) (Q : Int32 → gk_St → Prop) : Prop := w_J0_coder_7d493 this μ (fun r2 m1 => Q ((Int32.ofNat (gk_sl (this + 10))) >>> (r2 &&& 31)) m1)
set_option maxRecDepth 100000 in
set_option maxHeartbeats 4000000 in
theorem k_J0_length_8abf5 {this : Nat} {μ : gk_St} {Q : Int32 → gk_St → Prop} (h_this : gk_isS this) (h : w_J0_length_8abf5 this μ Q) : gk_CT yJ0_length_8abf5 cJ0_length_8abf5 1 (some .int) 1 [.ref this] μ (gk_Qi Q) := by
  unfold w_J0_length_8abf5 at h
  refine gk_enter (by decide) (Nat.le_of_ble_eq_true rfl) ?_
  show Go RJ0 cJ0_length_8abf5 1 (some .int) 1 0 [(0, .ref this)] [] μ (gk_Qi Q)
  refine go_aload_n 0 dJ0_length_8abf5_0 rfl rfl ?_
  refine go_getSv dJ0_length_8abf5_1 sl_RJ0_9 h_this ?_
  refine go_alenS dJ0_length_8abf5_4 (gk_isSV h_this) ?_
  refine go_aload_n 0 dJ0_length_8abf5_5 rfl rfl ?_
  refine go_callVS (d' := 0) [] dJ0_length_8abf5_6 cw_RJ0_335 ki_J0_coder_7d493 ks_J0_coder_7d493 rfl h_this rfl (Nat.le_of_ble_eq_true rfl) (by decide) (k_J0_coder_7d493 h_this h) (gk_ki (fun r2 m1 h => ?_))
  refine go_ishr dJ0_length_8abf5_9 ?_
  exact go_iret dJ0_length_8abf5_10 ⟨_, rfl, h⟩
def w_J1_canEncode_9a6ad (x0 : Int32) (μ : gk_St) (Q : Int32 → gk_St → Prop) : Prop := (if x0 < 0 then Q 0 μ else (if 255 < x0 then Q 0 μ else Q 1 μ))
set_option maxRecDepth 100000 in
set_option maxHeartbeats 4000000 in
theorem k_J1_canEncode_9a6ad {x0 : Int32} {μ : gk_St} {Q : Int32 → gk_St → Prop} (h : w_J1_canEncode_9a6ad x0 μ Q) : gk_CT yJ1_canEncode_9a6ad cJ1_canEncode_9a6ad 1 (some .boolean) 0 [.int x0] μ (gk_Qi Q) := by
  unfold w_J1_canEncode_9a6ad at h
  refine gk_enter (by decide) (Nat.le_of_ble_eq_true rfl) ?_
  show Go RJ1 cJ1_canEncode_9a6ad 1 (some .boolean) 0 0 [(0, .int x0)] [] μ (gk_Qi Q)
  refine go_iload_n 0 dJ1_canEncode_9a6ad_0 rfl rfl ?_
  refine go_if_lt 15 dJ1_canEncode_9a6ad_1 (by decide) (fun c => ?_) (fun c => ?_)
  · replace h := gk_ip h c
    refine go_iconst (v := 0) dJ1_canEncode_9a6ad_15 (by decide) ?_
    exact go_zret dJ1_canEncode_9a6ad_16 (Or.inl rfl) ⟨_, rfl, h⟩
  · replace h := gk_in h c
    refine go_iload_n 0 dJ1_canEncode_9a6ad_4 rfl rfl ?_
    refine go_sipush (v := 255) dJ1_canEncode_9a6ad_5 (by decide) ?_
    refine go_icmp_gt 15 dJ1_canEncode_9a6ad_8 (by decide) (fun c => ?_) (fun c => ?_)
    · replace h := gk_ip h c
      refine go_iconst (v := 0) dJ1_canEncode_9a6ad_15 (by decide) ?_
      exact go_zret dJ1_canEncode_9a6ad_16 (Or.inl rfl) ⟨_, rfl, h⟩
    · replace h := gk_in h c
      refine go_iconst (v := 1) dJ1_canEncode_9a6ad_11 (by decide) ?_
      refine go_goto 16 dJ1_canEncode_9a6ad_12 (by decide) ?_
      exact go_zret dJ1_canEncode_9a6ad_16 (Or.inr rfl) ⟨_, rfl, h⟩
def w_J1_indexOfChar_4cfef_l7 (Q : Int32 → gk_St → Prop) (K : gk_St → Prop) (a0 : Nat) : Nat → Int32 → Int32 → Int32 → gk_St → Prop
  | 0, _, _, _, _ => False
  | n + 1, x3, x4, x5, μ => (if x3 ≤ x5 then K  μ else (vp_in x5 (gk_sl a0) ∧ (if (gk_sb a0 x5.toNatClampNeg) = x4 then Q x5 μ else (∀ v2 : Int32, v2 = x5 + 1 → w_J1_indexOfChar_4cfef_l7 Q K a0 n x3 x4 v2 μ))))
set_option maxRecDepth 100000 in
set_option maxHeartbeats 4000000 in
theorem k_J1_indexOfChar_4cfef_l7 {Q : Int32 → gk_St → Prop} {K : gk_St → Prop} {a0 : Nat} (h_a0 : gk_isV a0) (hK : ∀ (em : gk_St), K  em → Go RJ1 cJ1_indexOfChar_4cfef 6 (some .int) 0 31 [] [] em (gk_Qi Q)) : ∀ (n : Nat) (x3 : Int32) (x4 : Int32) (x5 : Int32) (μ : gk_St), w_J1_indexOfChar_4cfef_l7 Q K a0 n x3 x4 x5 μ → Go RJ1 cJ1_indexOfChar_4cfef 6 (some .int) 0 7 [(0, .ref a0), (3, .int x3), (4, .int x4), (5, .int x5)] [] μ (gk_Qi Q) := by
  intro n
  induction n with
  | zero =>
    intro x3 x4 x5 μ h
    exact False.elim h
  | succ n ih =>
    intro x3 x4 x5 μ h
    unfold w_J1_indexOfChar_4cfef_l7 at h
    refine go_iload 3 dJ1_indexOfChar_4cfef_7 rfl ?_
    refine go_iload_n 1 dJ1_indexOfChar_4cfef_9 rfl rfl ?_
    refine go_icmp_ge 31 dJ1_indexOfChar_4cfef_10 (by decide) (fun c => ?_) (fun c => ?_)
    · replace h := gk_ip h c
      refine go_lv [] rfl ?_
      exact hK  _ h
    · replace h := gk_in h c
      refine go_aload_n 0 dJ1_indexOfChar_4cfef_13 rfl rfl ?_
      refine go_iload 3 dJ1_indexOfChar_4cfef_14 rfl ?_
      refine go_baloadS dJ1_indexOfChar_4cfef_16 h_a0 h.1 ?_
      replace h := h.2
      refine go_iload 2 dJ1_indexOfChar_4cfef_17 rfl ?_
      refine go_icmp_ne 25 dJ1_indexOfChar_4cfef_19 (by decide) (fun c => ?_) (fun c => ?_)
      · replace h := gk_in h c
        refine gb_iinc (w := 1) 3 (fun v2 => [(5, .int v2), (0, .ref a0), (3, .int x3), (4, .int x4)]) dJ1_indexOfChar_4cfef_25 rfl (by decide) (by decide) (fun _ => rfl) (fun v2 e => ?_)
        replace h := h v2 e
        refine go_goto 7 dJ1_indexOfChar_4cfef_28 (by decide) ?_
        refine go_lv [1, 2, 3, 0] rfl ?_
        exact ih _ _ _ _ h
      · replace h := gk_ip h c
        refine go_iload 3 dJ1_indexOfChar_4cfef_22 rfl ?_
        exact go_iret dJ1_indexOfChar_4cfef_24 ⟨_, rfl, h⟩
def w_J1_indexOfChar_4cfef (a0 : Nat) (x1 : Int32) (x2 : Int32) (x3 : Int32) (μ : gk_St) (Q : Int32 → gk_St → Prop) : Prop := (∀ v1 : Int32, v1 = (x1).toInt8.toInt32 → (∃ n7 : Nat, w_J1_indexOfChar_4cfef_l7 Q (fun m3 => Q (-1) m3) a0 n7 x3 v1 x2 μ))
set_option maxRecDepth 100000 in
set_option maxHeartbeats 4000000 in
theorem k_J1_indexOfChar_4cfef {a0 : Nat} {x1 : Int32} {x2 : Int32} {x3 : Int32} {μ : gk_St} {Q : Int32 → gk_St → Prop} (h_a0 : gk_isV a0) (h : w_J1_indexOfChar_4cfef a0 x1 x2 x3 μ Q) : gk_CT yJ1_indexOfChar_4cfef cJ1_indexOfChar_4cfef 6 (some .int) 0 [.ref a0, .int x1, .int x2, .int x3] μ (gk_Qi Q) := by
  unfold w_J1_indexOfChar_4cfef at h
  refine gk_enter (by decide) (Nat.le_of_ble_eq_true rfl) ?_
  show Go RJ1 cJ1_indexOfChar_4cfef 6 (some .int) 0 0 [(0, .ref a0), (1, .int x1), (2, .int x2), (3, .int x3)] [] μ (gk_Qi Q)
  refine go_iload_n 1 dJ1_indexOfChar_4cfef_0 rfl rfl ?_
  refine go_i2b dJ1_indexOfChar_4cfef_1 ?_
  refine gb_istore (fun v1 => [(4, .int v1), (0, .ref a0), (1, .int x1), (2, .int x2), (3, .int x3)]) dJ1_indexOfChar_4cfef_2 (by decide) (fun _ => rfl) (fun v1 e => ?_)
  replace h := h v1 e
  refine go_iload_n 3 dJ1_indexOfChar_4cfef_4 rfl rfl ?_
  refine go_istore [(5, .int x2), (4, .int v1), (0, .ref a0), (1, .int x1), (2, .int x2), (3, .int x3)] dJ1_indexOfChar_4cfef_5 (by decide) rfl ?_
  refine go_lv [2, 5, 1, 0] rfl ?_
  obtain ⟨n7, h⟩ := h
  refine k_J1_indexOfChar_4cfef_l7 h_a0 (fun m3 h => ?_) n7 _ _ _ _ h
  refine go_iconst (v := (-1)) dJ1_indexOfChar_4cfef_31 (by decide) ?_
  exact go_iret dJ1_indexOfChar_4cfef_32 ⟨_, rfl, h⟩
def w_J1_indexOf_4cfef (a0 : Nat) (x1 : Int32) (x2 : Int32) (x3 : Int32) (μ : gk_St) (Q : Int32 → gk_St → Prop) : Prop := w_J1_canEncode_9a6ad x1 μ (fun r2 m1 => (if r2 = 0 then Q (-1) m1 else (∀ v3 : Int32, v3 = (gk_mx x2 0) → (∀ v4 : Int32, v4 = (gk_mn x3 (Int32.ofNat (gk_sl a0))) → (if v3 < v4 then w_J1_indexOfChar_4cfef a0 x1 v3 v4 m1 (fun r6 m5 => Q r6 m5) else Q (-1) m1)))))
set_option maxRecDepth 100000 in
set_option maxHeartbeats 4000000 in
theorem k_J1_indexOf_4cfef {a0 : Nat} {x1 : Int32} {x2 : Int32} {x3 : Int32} {μ : gk_St} {Q : Int32 → gk_St → Prop} (h_a0 : gk_isV a0) (h : w_J1_indexOf_4cfef a0 x1 x2 x3 μ Q) : gk_CT yJ1_indexOf_4cfef cJ1_indexOf_4cfef 4 (some .int) 1 [.ref a0, .int x1, .int x2, .int x3] μ (gk_Qi Q) := by
  unfold w_J1_indexOf_4cfef at h
  refine gk_enter (by decide) (Nat.le_of_ble_eq_true rfl) ?_
  show Go RJ1 cJ1_indexOf_4cfef 4 (some .int) 1 0 [(0, .ref a0), (1, .int x1), (2, .int x2), (3, .int x3)] [] μ (gk_Qi Q)
  refine go_iload_n 1 dJ1_indexOf_4cfef_0 rfl rfl ?_
  refine go_callS (d' := 0) [.int x1] dJ1_indexOf_4cfef_1 cw_RJ1_88 kt_J1_canEncode_9a6ad rfl (Nat.le_of_ble_eq_true rfl) (by decide) (k_J1_canEncode_9a6ad h) (gk_ki (fun r2 m1 h => ?_))
  refine go_if_ne 9 dJ1_indexOf_4cfef_4 (by decide) (fun c => ?_) (fun c => ?_)
  · replace h := gk_in h c
    refine go_iload_n 2 dJ1_indexOf_4cfef_9 rfl rfl ?_
    refine go_iconst (v := 0) dJ1_indexOf_4cfef_10 (by decide) ?_
    refine gb_mmax dJ1_indexOf_4cfef_11 mw_RJ1_92 mt_max mi_Math mc_max (Nat.le_of_ble_eq_true rfl) (by decide) ?_
    refine gb_istore_n (fun v3 => [(2, .int v3), (0, .ref a0), (1, .int x1), (3, .int x3)]) dJ1_indexOf_4cfef_14 rfl (by decide) (fun _ => rfl) (fun v3 e => ?_)
    replace h := h v3 e
    refine go_iload_n 3 dJ1_indexOf_4cfef_15 rfl rfl ?_
    refine go_aload_n 1 dJ1_indexOf_4cfef_16 rfl rfl ?_
    refine go_alenS dJ1_indexOf_4cfef_17 h_a0 ?_
    refine gb_mmin dJ1_indexOf_4cfef_18 mw_RJ1_38 mt_min mi_Math mc_min (Nat.le_of_ble_eq_true rfl) (by decide) ?_
    refine gb_istore_n (fun v4 => [(3, .int v4), (2, .int v3), (0, .ref a0), (1, .int x1)]) dJ1_indexOf_4cfef_21 rfl (by decide) (fun _ => rfl) (fun v4 e => ?_)
    replace h := h v4 e
    refine go_iload_n 1 dJ1_indexOf_4cfef_22 rfl rfl ?_
    refine go_iload_n 0 dJ1_indexOf_4cfef_23 rfl rfl ?_
    refine go_icmp_lt 29 dJ1_indexOf_4cfef_24 (by decide) (fun c => ?_) (fun c => ?_)
    · replace h := gk_ip h c
      refine go_aload_n 2 dJ1_indexOf_4cfef_29 rfl rfl ?_
      refine go_iload_n 3 dJ1_indexOf_4cfef_30 rfl rfl ?_
      refine go_iload_n 1 dJ1_indexOf_4cfef_31 rfl rfl ?_
      refine go_iload_n 0 dJ1_indexOf_4cfef_32 rfl rfl ?_
      refine go_callS (d' := 0) [.ref a0, .int x1, .int v3, .int v4] dJ1_indexOf_4cfef_33 cw_RJ1_95 kt_J1_indexOfChar_4cfef rfl (Nat.le_of_ble_eq_true rfl) (by decide) (k_J1_indexOfChar_4cfef h_a0 h) (gk_ki (fun r6 m5 h => ?_))
      exact go_iret dJ1_indexOf_4cfef_36 ⟨_, rfl, h⟩
    · replace h := gk_in h c
      refine go_iconst (v := (-1)) dJ1_indexOf_4cfef_27 (by decide) ?_
      exact go_iret dJ1_indexOf_4cfef_28 ⟨_, rfl, h⟩
  · replace h := gk_ip h c
    refine go_iconst (v := (-1)) dJ1_indexOf_4cfef_7 (by decide) ?_
    exact go_iret dJ1_indexOf_4cfef_8 ⟨_, rfl, h⟩
def w_J0_indexOf_7cf53 (this : Nat) (x1 : Int32) (x2 : Int32) (μ : gk_St) (Q : Int32 → gk_St → Prop) : Prop := w_J0_isLatin1_aae02 this μ (fun r2 m1 => (if r2 = 0 then w_J0_length_8abf5 this m1 (fun r4 m3 => False) else w_J0_length_8abf5 this m1 (fun r6 m5 => w_J1_indexOf_4cfef (this + 10) x1 x2 r6 m5 (fun r8 m7 => Q r8 m7))))
set_option maxRecDepth 100000 in
set_option maxHeartbeats 4000000 in
theorem k_J0_indexOf_7cf53 {this : Nat} {x1 : Int32} {x2 : Int32} {μ : gk_St} {Q : Int32 → gk_St → Prop} (h_this : gk_isS this) (h : w_J0_indexOf_7cf53 this x1 x2 μ Q) : gk_CT yJ0_indexOf_7cf53 cJ0_indexOf_7cf53 3 (some .int) 2 [.ref this, .int x1, .int x2] μ (gk_Qi Q) := by
  unfold w_J0_indexOf_7cf53 at h
  refine gk_enter (by decide) (Nat.le_of_ble_eq_true rfl) ?_
  show Go RJ0 cJ0_indexOf_7cf53 3 (some .int) 2 0 [(0, .ref this), (1, .int x1), (2, .int x2)] [] μ (gk_Qi Q)
  refine go_aload_n 0 dJ0_indexOf_7cf53_0 rfl rfl ?_
  refine go_callVS (d' := 0) [] dJ0_indexOf_7cf53_1 cw_RJ0_492 ki_J0_isLatin1_aae02 ks_J0_isLatin1_aae02 rfl h_this rfl (Nat.le_of_ble_eq_true rfl) (by decide) (k_J0_isLatin1_aae02 h_this h) (gk_ki (fun r2 m1 h => ?_))
  refine go_if_eq 23 dJ0_indexOf_7cf53_4 (by decide) (fun c => ?_) (fun c => ?_)
  · replace h := gk_ip h c
    refine go_aload_n 0 dJ0_indexOf_7cf53_23 rfl rfl ?_
    refine go_getSv dJ0_indexOf_7cf53_24 sl_RJ0_9 h_this ?_
    refine go_iload_n 1 dJ0_indexOf_7cf53_27 rfl rfl ?_
    refine go_iload_n 2 dJ0_indexOf_7cf53_28 rfl rfl ?_
    refine go_aload_n 0 dJ0_indexOf_7cf53_29 rfl rfl ?_
    refine go_callVS (d' := 1) [] dJ0_indexOf_7cf53_30 cw_RJ0_505 ki_J0_length_8abf5 ks_J0_length_8abf5 rfl h_this rfl (Nat.le_of_ble_eq_true rfl) (by decide) (k_J0_length_8abf5 h_this h) (gk_ki (fun r4 m3 h => ?_))
    exact h.elim
  · replace h := gk_in h c
    refine go_aload_n 0 dJ0_indexOf_7cf53_7 rfl rfl ?_
    refine go_getSv dJ0_indexOf_7cf53_8 sl_RJ0_9 h_this ?_
    refine go_iload_n 1 dJ0_indexOf_7cf53_11 rfl rfl ?_
    refine go_iload_n 2 dJ0_indexOf_7cf53_12 rfl rfl ?_
    refine go_aload_n 0 dJ0_indexOf_7cf53_13 rfl rfl ?_
    refine go_callVS (d' := 1) [] dJ0_indexOf_7cf53_14 cw_RJ0_505 ki_J0_length_8abf5 ks_J0_length_8abf5 rfl h_this rfl (Nat.le_of_ble_eq_true rfl) (by decide) (k_J0_length_8abf5 h_this h) (gk_ki (fun r6 m5 h => ?_))
    refine go_callS (d' := 1) [.ref (this + 10), .int x1, .int x2, .int r6] dJ0_indexOf_7cf53_17 cw_RJ0_637 kt_J1_indexOf_4cfef rfl (Nat.le_of_ble_eq_true rfl) (by decide) (k_J1_indexOf_4cfef (gk_isSV h_this) h) (gk_ki (fun r8 m7 h => ?_))
    refine go_goto 36 dJ0_indexOf_7cf53_20 (by decide) ?_
    exact go_iret dJ0_indexOf_7cf53_36 ⟨_, rfl, h⟩
def w_J0_indexOf_0f7a4 (this : Nat) (x1 : Int32) (μ : gk_St) (Q : Int32 → gk_St → Prop) : Prop := w_J0_indexOf_7cf53 this x1 0 μ (fun r2 m1 => Q r2 m1)
set_option maxRecDepth 100000 in
set_option maxHeartbeats 4000000 in
theorem k_J0_indexOf_0f7a4 {this : Nat} {x1 : Int32} {μ : gk_St} {Q : Int32 → gk_St → Prop} (h_this : gk_isS this) (h : w_J0_indexOf_0f7a4 this x1 μ Q) : gk_CT yJ0_indexOf_0f7a4 cJ0_indexOf_0f7a4 2 (some .int) 3 [.ref this, .int x1] μ (gk_Qi Q) := by
  unfold w_J0_indexOf_0f7a4 at h
  refine gk_enter (by decide) (Nat.le_of_ble_eq_true rfl) ?_
  show Go RJ0 cJ0_indexOf_0f7a4 2 (some .int) 3 0 [(0, .ref this), (1, .int x1)] [] μ (gk_Qi Q)
  refine go_aload_n 0 dJ0_indexOf_0f7a4_0 rfl rfl ?_
  refine go_iload_n 1 dJ0_indexOf_0f7a4_1 rfl rfl ?_
  refine go_iconst (v := 0) dJ0_indexOf_0f7a4_2 (by decide) ?_
  refine go_callVS (d' := 2) [.int x1, .int 0] dJ0_indexOf_0f7a4_3 cw_RJ0_633 ki_J0_indexOf_7cf53 ks_J0_indexOf_7cf53 rfl h_this rfl (Nat.le_of_ble_eq_true rfl) (by decide) (k_J0_indexOf_7cf53 h_this h) (gk_ki (fun r2 m1 h => ?_))
  exact go_iret dJ0_indexOf_0f7a4_6 ⟨_, rfl, h⟩
/-! String.indexOf(int) of one of the two texts -/
theorem gk_l7 {Q : Int32 → gk_St → Prop} {K : gk_St → Prop} {a n : Nat} {x3 x4 x5 : Int32} {μ : gk_St} (h1 : ¬ x3 ≤ x5) (h2 : vp_in x5 (gk_sl a)) (h3 : gk_sb a x5.toNatClampNeg = x4 → Q x5 μ) (h4 : ¬ gk_sb a x5.toNatClampNeg = x4 → w_J1_indexOfChar_4cfef_l7 Q K a n x3 x4 (x5 + 1) μ) : w_J1_indexOfChar_4cfef_l7 Q K a (n + 1) x3 x4 x5 μ := by
  unfold w_J1_indexOfChar_4cfef_l7
  rw [if_neg h1]
  refine ⟨h2, ?_⟩
  by_cases c : gk_sb a x5.toNatClampNeg = x4
  · rw [if_pos c]
    exact h3 c
  · rw [if_neg c]
    intro v e
    subst e
    exact h4 c
theorem gk_l7e {Q : Int32 → gk_St → Prop} {K : gk_St → Prop} {a n : Nat} {x3 x4 x5 : Int32} {μ : gk_St} (h1 : x3 ≤ x5) (h2 : K μ) : w_J1_indexOfChar_4cfef_l7 Q K a (n + 1) x3 x4 x5 μ := by
  unfold w_J1_indexOfChar_4cfef_l7
  rw [if_pos h1]
  exact h2
theorem gk_lat : ∀ n, n < 256 → (((nI n).toInt8.toInt32 = 111 ↔ nI n = 111) ∧ ((nI n).toInt8.toInt32 = 115 ↔ nI n = 115) ∧ ((nI n).toInt8.toInt32 = 103 ↔ nI n = 103) ∧ ((nI n).toInt8.toInt32 = 98 ↔ nI n = 98) ∧ ((nI n).toInt8.toInt32 = 116 ↔ nI n = 116)) := by decide +kernel
theorem gk_lat' {x : Int32} (h0 : ¬ x < 0) (h1 : ¬ 255 < x) : ((x.toInt8.toInt32 = 111 ↔ x = 111) ∧ (x.toInt8.toInt32 = 115 ↔ x = 115) ∧ (x.toInt8.toInt32 = 103 ↔ x = 103) ∧ (x.toInt8.toInt32 = 98 ↔ x = 98) ∧ (x.toInt8.toInt32 = 116 ↔ x = 116)) := by
  obtain ⟨j, hj, rfl⟩ := nI_of2 (M := 255) (n := 255) (by decide) h0 (Int32.not_lt.mp h1)
  exact gk_lat j (by omega)
theorem gk_lat1 {Q : Int32 → gk_St → Prop} {x : Int32} {μ : gk_St} (h0 : ¬ x < 0) (h1 : ¬ 255 < x) (h : Q (gk_ix 1000 x) μ) : w_J1_indexOfChar_4cfef 1010 x 0 3 μ Q := by
  obtain ⟨e1, e2, e3, -, -⟩ := gk_lat' h0 h1
  unfold gk_ix at h
  rw [if_pos rfl] at h
  unfold w_J1_indexOfChar_4cfef
  intro v e
  subst e
  refine ⟨4, ?_⟩
  refine gk_l7 (n := 3) (by decide) (by unfold vp_in; decide) (fun c => ?_) (fun c => ?_)
  · have c : x = 111 := e1.mp c.symm
    rw [if_pos c] at h
    exact h
  · have c : ¬ x = 111 := fun q => c (e1.mpr q).symm
    rw [if_neg c] at h
    refine gk_l7 (n := 2) (by decide) (by unfold vp_in; decide) (fun c => ?_) (fun c => ?_)
    · have c : x = 115 := e2.mp c.symm
      rw [if_pos c] at h
      exact h
    · have c : ¬ x = 115 := fun q => c (e2.mpr q).symm
      rw [if_neg c] at h
      refine gk_l7 (n := 1) (by decide) (by unfold vp_in; decide) (fun c => ?_) (fun c => ?_)
      · have c : x = 103 := e3.mp c.symm
        rw [if_pos c] at h
        exact h
      · have c : ¬ x = 103 := fun q => c (e3.mpr q).symm
        rw [if_neg c] at h
        exact gk_l7e (n := 0) (by decide) h
theorem gk_lat2 {Q : Int32 → gk_St → Prop} {x : Int32} {μ : gk_St} (h0 : ¬ x < 0) (h1 : ¬ 255 < x) (h : Q (gk_ix 1001 x) μ) : w_J1_indexOfChar_4cfef 1011 x 0 2 μ Q := by
  obtain ⟨-, -, -, e1, e2⟩ := gk_lat' h0 h1
  unfold gk_ix at h
  rw [if_neg (by decide)] at h
  unfold w_J1_indexOfChar_4cfef
  intro v e
  subst e
  refine ⟨3, ?_⟩
  refine gk_l7 (n := 2) (by decide) (by unfold vp_in; decide) (fun c => ?_) (fun c => ?_)
  · have c : x = 98 := e1.mp c.symm
    rw [if_pos c] at h
    exact h
  · have c : ¬ x = 98 := fun q => c (e1.mpr q).symm
    rw [if_neg c] at h
    refine gk_l7 (n := 1) (by decide) (by unfold vp_in; decide) (fun c => ?_) (fun c => ?_)
    · have c : x = 116 := e2.mp c.symm
      rw [if_pos c] at h
      exact h
    · have c : ¬ x = 116 := fun q => c (e2.mpr q).symm
      rw [if_neg c] at h
      exact gk_l7e (n := 0) (by decide) h
theorem gk_ix_out {t : Nat} {x : Int32} (h : x < 0 ∨ 255 < x) : gk_ix t x = -1 := by
  have n : ∀ k : Int32, ¬ (k < 0 ∨ 255 < k) → ¬ x = k := fun k hk e => hk (e ▸ h)
  unfold gk_ix
  rw [if_neg (n 111 (by decide)), if_neg (n 115 (by decide)), if_neg (n 103 (by decide)), if_neg (n 98 (by decide)), if_neg (n 116 (by decide))]
  split <;> rfl
theorem gk_ixof {t : Nat} {x : Int32} {μ : gk_St} {Q : Int32 → gk_St → Prop} (ht : gk_isS t) (h : Q (gk_ix t x) μ) : w_J0_indexOf_0f7a4 t x μ Q := by
  unfold w_J0_indexOf_0f7a4 w_J0_indexOf_7cf53 w_J0_isLatin1_aae02
  rw [if_neg (by decide), if_pos rfl]
  dsimp only
  rw [if_neg (by decide)]
  unfold w_J0_length_8abf5 w_J0_coder_7d493
  rw [if_neg (by decide)]
  dsimp only
  unfold w_J1_indexOf_4cfef w_J1_canEncode_9a6ad
  by_cases h0 : x < 0
  · rw [if_pos h0]
    dsimp only
    rw [if_pos rfl]
    rw [gk_ix_out (Or.inl h0)] at h
    exact h
  · rw [if_neg h0]
    by_cases h1 : 255 < x
    · rw [if_pos h1]
      dsimp only
      rw [if_pos rfl]
      rw [gk_ix_out (Or.inr h1)] at h
      exact h
    · rw [if_neg h1]
      dsimp only
      rw [if_neg (by decide)]
      intro v3 e3 v4 e4
      rcases ht with rfl | rfl
      · have e3 : v3 = 0 := e3.trans (by decide)
        have e4 : v4 = 3 := e4.trans (by decide)
        subst e3
        subst e4
        rw [if_pos (by decide)]
        exact gk_lat1 h0 h1 h
      · have e3 : v3 = 0 := e3.trans (by decide)
        have e4 : v4 = 2 := e4.trans (by decide)
        subst e3
        subst e4
        rw [if_pos (by decide)]
        exact gk_lat2 h0 h1 h
theorem go_ixof {own : String} {cc : ByteArray} {mL : Nat} {ret : Option FieldType} {d pc : Nat} {lv : List (Nat × Value)} {rest : List Value} {μ : gk_St} {Q : Option Value → gk_St → Prop} {idx t : Nat} {x : Int32} (hd : decode cc pc = .ok (.invokevirtual idx, 3)) (hw : gk_cw own idx yJ0_indexOf_0f7a4 cJ0_indexOf_0f7a4 2 (some .int) 1) (ht : gk_isS t) (hr : (rest.map fun v => v.category).sum ≤ 8) (hdd : 6 ≤ d) (k : Go own cc mL ret d (pc + 3) lv (.int (gk_ix t x) :: rest) μ Q) : Go own cc mL ret d pc lv (.int x :: .ref t :: rest) μ Q :=
  go_callVS (d' := 3) [.int x] hd hw ki_J0_indexOf_0f7a4 ks_J0_indexOf_0f7a4 rfl ht rfl hr (by omega) (k_J0_indexOf_0f7a4 (Q := fun r m => r = gk_ix t x ∧ m = μ) ht (gk_ixof ht ⟨rfl, rfl⟩)) (gk_ki (fun v m h => by
    obtain ⟨rfl, rfl⟩ := h
    exact k))
