def w_X8_digest_l6 (Q : Int64 → gk_St → Prop) (K : Int64 → gk_St → Prop) (this : Nat) : Nat → Int64 → Int32 → gk_St → Prop
  | 0, _, _, _ => False
  | n + 1, x1, x3, μ => (if 8 ≤ x3 then K x1 μ else w_X8_count this x3 μ (fun r2 m1 => (∀ v3 : Int64, v3 = (((31 : Int64) * x1) + (Int32.toInt64 r2)) → (∀ v4 : Int32, v4 = x3 + 1 → w_X8_digest_l6 Q K this n v3 v4 m1))))
set_option maxRecDepth 100000 in
set_option maxHeartbeats 4000000 in
theorem k_X8_digest_l6 {Q : Int64 → gk_St → Prop} {K : Int64 → gk_St → Prop} {this : Nat} (h_this : gk_isO this 8) (hK : ∀ (e1 : Int64) (em : gk_St), K e1 em → Go RX8 cX8_digest 5 (some .long) 11 31 [(0, .ref this), (1, .long e1)] [] em (gk_Ql Q)) : ∀ (n : Nat) (x1 : Int64) (x3 : Int32) (μ : gk_St), w_X8_digest_l6 Q K this n x1 x3 μ → Go RX8 cX8_digest 5 (some .long) 11 6 [(0, .ref this), (1, .long x1), (3, .int x3)] [] μ (gk_Ql Q) := by
  intro n
  induction n with
  | zero =>
    intro x1 x3 μ h
    exact False.elim h
  | succ n ih =>
    intro x1 x3 μ h
    unfold w_X8_digest_l6 at h
    refine go_iload_n 2 dX8_digest_6 rfl rfl ?_
    refine go_bipush (v := 8) dX8_digest_7 (by decide) ?_
    refine go_icmp_ge 31 dX8_digest_9 (by decide) (fun c => ?_) (fun c => ?_)
    · replace h := gk_ip h c
      refine go_lv [0, 1] rfl ?_
      exact hK _ _ h
    · replace h := gk_in h c
      refine go_ldc2_w dX8_digest_12 ct_RX8_359 ?_
      refine go_lload_n 1 dX8_digest_15 rfl rfl ?_
      refine go_lmul dX8_digest_16 ?_
      refine go_aload_n 0 dX8_digest_17 rfl rfl ?_
      refine go_iload_n 2 dX8_digest_18 rfl rfl ?_
      refine go_callV (ci := 8) (d' := 7) [.int x3] dX8_digest_19 cw_RX8_367 ki_X8_count ks_X8_count rfl (by decide) h_this rfl (Nat.le_of_ble_eq_true rfl) (by decide) (k_X8_count h_this h) (gk_ki (fun r2 m1 h => ?_))
      refine go_i2l dX8_digest_22 ?_
      refine go_ladd dX8_digest_23 ?_
      refine gb_lstore_n (fun v3 => [(1, .long v3), (0, .ref this), (3, .int x3)]) dX8_digest_24 rfl (by decide) (fun _ => rfl) (fun v3 e => ?_)
      replace h := h v3 e
      refine gb_iinc (w := 1) 2 (fun v4 => [(3, .int v4), (1, .long v3), (0, .ref this)]) dX8_digest_25 rfl (by decide) (by decide) (fun _ => rfl) (fun v4 e => ?_)
      replace h := h v4 e
      refine go_goto 6 dX8_digest_28 (by decide) ?_
      refine go_lv [2, 1, 0] rfl ?_
      exact ih _ _ _ h
def w_X8_digest_l33 (Q : Int64 → gk_St → Prop) (K : Int64 → gk_St → Prop) (this : Nat) : Nat → Int64 → Int32 → gk_St → Prop
  | 0, _, _, _ => False
  | n + 1, x1, x3, μ => (if 3 ≤ x3 then K x1 μ else w_X8_faultOf this x3 μ (fun r8 m7 => (∀ v9 : Int64, v9 = (((31 : Int64) * x1) + (Int32.toInt64 r8)) → (∀ v10 : Int32, v10 = x3 + 1 → w_X8_digest_l33 Q K this n v9 v10 m7))))
set_option maxRecDepth 100000 in
set_option maxHeartbeats 4000000 in
theorem k_X8_digest_l33 {Q : Int64 → gk_St → Prop} {K : Int64 → gk_St → Prop} {this : Nat} (h_this : gk_isO this 8) (hK : ∀ (e1 : Int64) (em : gk_St), K e1 em → Go RX8 cX8_digest 5 (some .long) 11 57 [(0, .ref this), (1, .long e1)] [] em (gk_Ql Q)) : ∀ (n : Nat) (x1 : Int64) (x3 : Int32) (μ : gk_St), w_X8_digest_l33 Q K this n x1 x3 μ → Go RX8 cX8_digest 5 (some .long) 11 33 [(0, .ref this), (1, .long x1), (3, .int x3)] [] μ (gk_Ql Q) := by
  intro n
  induction n with
  | zero =>
    intro x1 x3 μ h
    exact False.elim h
  | succ n ih =>
    intro x1 x3 μ h
    unfold w_X8_digest_l33 at h
    refine go_iload_n 2 dX8_digest_33 rfl rfl ?_
    refine go_iconst (v := 3) dX8_digest_34 (by decide) ?_
    refine go_icmp_ge 57 dX8_digest_35 (by decide) (fun c => ?_) (fun c => ?_)
    · replace h := gk_ip h c
      refine go_lv [0, 1] rfl ?_
      exact hK _ _ h
    · replace h := gk_in h c
      refine go_ldc2_w dX8_digest_38 ct_RX8_359 ?_
      refine go_lload_n 1 dX8_digest_41 rfl rfl ?_
      refine go_lmul dX8_digest_42 ?_
      refine go_aload_n 0 dX8_digest_43 rfl rfl ?_
      refine go_iload_n 2 dX8_digest_44 rfl rfl ?_
      refine go_callV (ci := 8) (d' := 4) [.int x3] dX8_digest_45 cw_RX8_158 ki_X8_faultOf ks_X8_faultOf rfl (by decide) h_this rfl (Nat.le_of_ble_eq_true rfl) (by decide) (k_X8_faultOf h_this h) (gk_ki (fun r8 m7 h => ?_))
      refine go_i2l dX8_digest_48 ?_
      refine go_ladd dX8_digest_49 ?_
      refine gb_lstore_n (fun v9 => [(1, .long v9), (0, .ref this), (3, .int x3)]) dX8_digest_50 rfl (by decide) (fun _ => rfl) (fun v9 e => ?_)
      replace h := h v9 e
      refine gb_iinc (w := 1) 2 (fun v10 => [(3, .int v10), (1, .long v9), (0, .ref this)]) dX8_digest_51 rfl (by decide) (by decide) (fun _ => rfl) (fun v10 e => ?_)
      replace h := h v10 e
      refine go_goto 33 dX8_digest_54 (by decide) ?_
      refine go_lv [2, 1, 0] rfl ?_
      exact ih _ _ _ h
def w_X8_digest_l68 (Q : Int64 → gk_St → Prop) (K : Int64 → Int32 → gk_St → Prop) (this : Nat) : Nat → Int64 → Int32 → Int32 → gk_St → Prop
  | 0, _, _, _, _ => False
  | n + 1, x1, x3, x4, μ => (if 3 ≤ x4 then K x1 x3 μ else w_X8_comingOf this x3 x4 μ (fun r14 m13 => (∀ v15 : Int64, v15 = (((31 : Int64) * x1) + (Int32.toInt64 r14)) → (∀ v16 : Int32, v16 = x4 + 1 → w_X8_digest_l68 Q K this n v15 x3 v16 m13))))
set_option maxRecDepth 100000 in
set_option maxHeartbeats 4000000 in
theorem k_X8_digest_l68 {Q : Int64 → gk_St → Prop} {K : Int64 → Int32 → gk_St → Prop} {this : Nat} (h_this : gk_isO this 8) (hK : ∀ (e1 : Int64) (e3 : Int32) (em : gk_St), K e1 e3 em → Go RX8 cX8_digest 5 (some .long) 11 95 [(0, .ref this), (1, .long e1), (3, .int e3)] [] em (gk_Ql Q)) : ∀ (n : Nat) (x1 : Int64) (x3 : Int32) (x4 : Int32) (μ : gk_St), w_X8_digest_l68 Q K this n x1 x3 x4 μ → Go RX8 cX8_digest 5 (some .long) 11 68 [(0, .ref this), (1, .long x1), (3, .int x3), (4, .int x4)] [] μ (gk_Ql Q) := by
  intro n
  induction n with
  | zero =>
    intro x1 x3 x4 μ h
    exact False.elim h
  | succ n ih =>
    intro x1 x3 x4 μ h
    unfold w_X8_digest_l68 at h
    refine go_iload 3 dX8_digest_68 rfl ?_
    refine go_iconst (v := 3) dX8_digest_70 (by decide) ?_
    refine go_icmp_ge 95 dX8_digest_71 (by decide) (fun c => ?_) (fun c => ?_)
    · replace h := gk_ip h c
      refine go_lv [0, 1, 2] rfl ?_
      exact hK _ _ _ h
    · replace h := gk_in h c
      refine go_ldc2_w dX8_digest_74 ct_RX8_359 ?_
      refine go_lload_n 1 dX8_digest_77 rfl rfl ?_
      refine go_lmul dX8_digest_78 ?_
      refine go_aload_n 0 dX8_digest_79 rfl rfl ?_
      refine go_iload_n 2 dX8_digest_80 rfl rfl ?_
      refine go_iload 3 dX8_digest_81 rfl ?_
      refine go_callV (ci := 8) (d' := 6) [.int x3, .int x4] dX8_digest_83 cw_RX8_173 ki_X8_comingOf ks_X8_comingOf rfl (by decide) h_this rfl (Nat.le_of_ble_eq_true rfl) (by decide) (k_X8_comingOf h_this h) (gk_ki (fun r14 m13 h => ?_))
      refine go_i2l dX8_digest_86 ?_
      refine go_ladd dX8_digest_87 ?_
      refine gb_lstore_n (fun v15 => [(1, .long v15), (0, .ref this), (3, .int x3), (4, .int x4)]) dX8_digest_88 rfl (by decide) (fun _ => rfl) (fun v15 e => ?_)
      replace h := h v15 e
      refine gb_iinc (w := 1) 3 (fun v16 => [(4, .int v16), (1, .long v15), (0, .ref this), (3, .int x3)]) dX8_digest_89 rfl (by decide) (by decide) (fun _ => rfl) (fun v16 e => ?_)
      replace h := h v16 e
      refine go_goto 68 dX8_digest_92 (by decide) ?_
      refine go_lv [2, 1, 3, 0] rfl ?_
      exact ih _ _ _ _ h
def w_X8_digest_l59 (Q : Int64 → gk_St → Prop) (K : Int64 → gk_St → Prop) (this : Nat) : Nat → Int64 → Int32 → gk_St → Prop
  | 0, _, _, _ => False
  | n + 1, x1, x3, μ => (if 12 ≤ x3 then K x1 μ else (∃ n68 : Nat, w_X8_digest_l68 Q (fun y17 y18 m19 => (∀ v20 : Int32, v20 = y18 + 1 → w_X8_digest_l59 Q K this n y17 v20 m19)) this n68 x1 x3 0 μ))
set_option maxRecDepth 100000 in
set_option maxHeartbeats 4000000 in
theorem k_X8_digest_l59 {Q : Int64 → gk_St → Prop} {K : Int64 → gk_St → Prop} {this : Nat} (h_this : gk_isO this 8) (hK : ∀ (e1 : Int64) (em : gk_St), K e1 em → Go RX8 cX8_digest 5 (some .long) 11 101 [(0, .ref this), (1, .long e1)] [] em (gk_Ql Q)) : ∀ (n : Nat) (x1 : Int64) (x3 : Int32) (μ : gk_St), w_X8_digest_l59 Q K this n x1 x3 μ → Go RX8 cX8_digest 5 (some .long) 11 59 [(0, .ref this), (1, .long x1), (3, .int x3)] [] μ (gk_Ql Q) := by
  intro n
  induction n with
  | zero =>
    intro x1 x3 μ h
    exact False.elim h
  | succ n ih =>
    intro x1 x3 μ h
    unfold w_X8_digest_l59 at h
    refine go_iload_n 2 dX8_digest_59 rfl rfl ?_
    refine go_bipush (v := 12) dX8_digest_60 (by decide) ?_
    refine go_icmp_ge 101 dX8_digest_62 (by decide) (fun c => ?_) (fun c => ?_)
    · replace h := gk_ip h c
      refine go_lv [0, 1] rfl ?_
      exact hK _ _ h
    · replace h := gk_in h c
      refine go_iconst (v := 0) dX8_digest_65 (by decide) ?_
      refine go_istore [(4, .int 0), (0, .ref this), (1, .long x1), (3, .int x3)] dX8_digest_66 (by decide) rfl ?_
      refine go_lv [1, 2, 3, 0] rfl ?_
      obtain ⟨n68, h⟩ := h
      refine k_X8_digest_l68 h_this (fun y17 y18 m19 h => ?_) n68 _ _ _ _ h
      refine gb_iinc (w := 1) 2 (fun v20 => [(3, .int v20), (0, .ref this), (1, .long y17)]) dX8_digest_95 rfl (by decide) (by decide) (fun _ => rfl) (fun v20 e => ?_)
      replace h := h v20 e
      refine go_goto 59 dX8_digest_98 (by decide) ?_
      refine go_lv [1, 2, 0] rfl ?_
      exact ih _ _ _ h
def w_X8_digest_l103 (Q : Int64 → gk_St → Prop) (K : Int64 → gk_St → Prop) (this : Nat) : Nat → Int64 → Int32 → gk_St → Prop
  | 0, _, _, _ => False
  | n + 1, x1, x3, μ => (if 24 ≤ x3 then K x1 μ else w_X8_momentDigest this x1 x3 μ (fun r24 m23 => (∀ v25 : Int32, v25 = x3 + 1 → w_X8_digest_l103 Q K this n r24 v25 m23)))
set_option maxRecDepth 100000 in
set_option maxHeartbeats 4000000 in
theorem k_X8_digest_l103 {Q : Int64 → gk_St → Prop} {K : Int64 → gk_St → Prop} {this : Nat} (h_this : gk_isO this 8) (hK : ∀ (e1 : Int64) (em : gk_St), K e1 em → Go RX8 cX8_digest 5 (some .long) 11 122 [(0, .ref this), (1, .long e1)] [] em (gk_Ql Q)) : ∀ (n : Nat) (x1 : Int64) (x3 : Int32) (μ : gk_St), w_X8_digest_l103 Q K this n x1 x3 μ → Go RX8 cX8_digest 5 (some .long) 11 103 [(0, .ref this), (1, .long x1), (3, .int x3)] [] μ (gk_Ql Q) := by
  intro n
  induction n with
  | zero =>
    intro x1 x3 μ h
    exact False.elim h
  | succ n ih =>
    intro x1 x3 μ h
    unfold w_X8_digest_l103 at h
    refine go_iload_n 2 dX8_digest_103 rfl rfl ?_
    refine go_bipush (v := 24) dX8_digest_104 (by decide) ?_
    refine go_icmp_ge 122 dX8_digest_106 (by decide) (fun c => ?_) (fun c => ?_)
    · replace h := gk_ip h c
      refine go_lv [0, 1] rfl ?_
      exact hK _ _ h
    · replace h := gk_in h c
      refine go_aload_n 0 dX8_digest_109 rfl rfl ?_
      refine go_lload_n 1 dX8_digest_110 rfl rfl ?_
      refine go_iload_n 2 dX8_digest_111 rfl rfl ?_
      refine go_callV (ci := 8) (d' := 9) [.long x1, .int x3] dX8_digest_112 cw_RX8_370 ki_X8_momentDigest ks_X8_momentDigest rfl (by decide) h_this rfl (Nat.le_of_ble_eq_true rfl) (by decide) (k_X8_momentDigest h_this h) (gk_kl (fun r24 m23 h => ?_))
      refine go_lstore_n [(1, .long r24), (0, .ref this), (3, .int x3)] dX8_digest_115 rfl (by decide) rfl ?_
      refine gb_iinc (w := 1) 2 (fun v25 => [(3, .int v25), (1, .long r24), (0, .ref this)]) dX8_digest_116 rfl (by decide) (by decide) (fun _ => rfl) (fun v25 e => ?_)
      replace h := h v25 e
      refine go_goto 103 dX8_digest_119 (by decide) ?_
      refine go_lv [2, 1, 0] rfl ?_
      exact ih _ _ _ h
def w_X8_digest_l124 (Q : Int64 → gk_St → Prop) (K : Int64 → gk_St → Prop) (this : Nat) : Nat → Int64 → Int32 → gk_St → Prop
  | 0, _, _, _ => False
  | n + 1, x1, x3, μ => (if (μ this 2) ≤ x3 then K x1 μ else w_X8_carDigest this x1 x3 μ (fun r29 m28 => (∀ v30 : Int32, v30 = x3 + 1 → w_X8_digest_l124 Q K this n r29 v30 m28)))
set_option maxRecDepth 100000 in
set_option maxHeartbeats 4000000 in
theorem k_X8_digest_l124 {Q : Int64 → gk_St → Prop} {K : Int64 → gk_St → Prop} {this : Nat} (h_this : gk_isO this 8) (hK : ∀ (e1 : Int64) (em : gk_St), K e1 em → Go RX8 cX8_digest 5 (some .long) 11 145 [(0, .ref this), (1, .long e1)] [] em (gk_Ql Q)) : ∀ (n : Nat) (x1 : Int64) (x3 : Int32) (μ : gk_St), w_X8_digest_l124 Q K this n x1 x3 μ → Go RX8 cX8_digest 5 (some .long) 11 124 [(0, .ref this), (1, .long x1), (3, .int x3)] [] μ (gk_Ql Q) := by
  intro n
  induction n with
  | zero =>
    intro x1 x3 μ h
    exact False.elim h
  | succ n ih =>
    intro x1 x3 μ h
    unfold w_X8_digest_l124 at h
    refine go_iload_n 2 dX8_digest_124 rfl rfl ?_
    refine go_aload_n 0 dX8_digest_125 rfl rfl ?_
    refine go_getI dX8_digest_126 fl_RX8_135 h_this (nf_8_2 h_this) ?_
    refine go_icmp_ge 145 dX8_digest_129 (by decide) (fun c => ?_) (fun c => ?_)
    · replace h := gk_ip h c
      refine go_lv [0, 1] rfl ?_
      exact hK _ _ h
    · replace h := gk_in h c
      refine go_aload_n 0 dX8_digest_132 rfl rfl ?_
      refine go_lload_n 1 dX8_digest_133 rfl rfl ?_
      refine go_iload_n 2 dX8_digest_134 rfl rfl ?_
      refine go_callV (ci := 8) (d' := 10) [.long x1, .int x3] dX8_digest_135 cw_RX8_374 ki_X8_carDigest ks_X8_carDigest rfl (by decide) h_this rfl (Nat.le_of_ble_eq_true rfl) (by decide) (k_X8_carDigest h_this h) (gk_kl (fun r29 m28 h => ?_))
      refine go_lstore_n [(1, .long r29), (0, .ref this), (3, .int x3)] dX8_digest_138 rfl (by decide) rfl ?_
      refine gb_iinc (w := 1) 2 (fun v30 => [(3, .int v30), (1, .long r29), (0, .ref this)]) dX8_digest_139 rfl (by decide) (by decide) (fun _ => rfl) (fun v30 e => ?_)
      replace h := h v30 e
      refine go_goto 124 dX8_digest_142 (by decide) ?_
      refine go_lv [2, 1, 0] rfl ?_
      exact ih _ _ _ h
def w_X8_digest_l147 (Q : Int64 → gk_St → Prop) (K : Int64 → gk_St → Prop) (this : Nat) : Nat → Int64 → Int32 → gk_St → Prop
  | 0, _, _, _ => False
  | n + 1, x1, x3, μ => (if 2 ≤ x3 then K x1 μ else w_X8_overOf this x3 μ (fun r34 m33 => (∀ v35 : Int64, v35 = (((31 : Int64) * x1) + (Int32.toInt64 r34)) → w_X8_crowdOf this x3 0 m33 (fun r37 m36 => (∀ v38 : Int64, v38 = (((31 : Int64) * v35) + (Int32.toInt64 r37)) → w_X8_crowdOf this x3 1 m36 (fun r40 m39 => (∀ v41 : Int64, v41 = (((31 : Int64) * v38) + (Int32.toInt64 r40)) → (∀ v42 : Int32, v42 = x3 + 1 → w_X8_digest_l147 Q K this n v41 v42 m39))))))))
set_option maxRecDepth 100000 in
set_option maxHeartbeats 4000000 in
theorem k_X8_digest_l147 {Q : Int64 → gk_St → Prop} {K : Int64 → gk_St → Prop} {this : Nat} (h_this : gk_isO this 8) (hK : ∀ (e1 : Int64) (em : gk_St), K e1 em → Go RX8 cX8_digest 5 (some .long) 11 199 [(0, .ref this), (1, .long e1)] [] em (gk_Ql Q)) : ∀ (n : Nat) (x1 : Int64) (x3 : Int32) (μ : gk_St), w_X8_digest_l147 Q K this n x1 x3 μ → Go RX8 cX8_digest 5 (some .long) 11 147 [(0, .ref this), (1, .long x1), (3, .int x3)] [] μ (gk_Ql Q) := by
  intro n
  induction n with
  | zero =>
    intro x1 x3 μ h
    exact False.elim h
  | succ n ih =>
    intro x1 x3 μ h
    unfold w_X8_digest_l147 at h
    refine go_iload_n 2 dX8_digest_147 rfl rfl ?_
    refine go_iconst (v := 2) dX8_digest_148 (by decide) ?_
    refine go_icmp_ge 199 dX8_digest_149 (by decide) (fun c => ?_) (fun c => ?_)
    · replace h := gk_ip h c
      refine go_lv [0, 1] rfl ?_
      exact hK _ _ h
    · replace h := gk_in h c
      refine go_ldc2_w dX8_digest_152 ct_RX8_359 ?_
      refine go_lload_n 1 dX8_digest_155 rfl rfl ?_
      refine go_lmul dX8_digest_156 ?_
      refine go_aload_n 0 dX8_digest_157 rfl rfl ?_
      refine go_iload_n 2 dX8_digest_158 rfl rfl ?_
      refine go_callV (ci := 8) (d' := 8) [.int x3] dX8_digest_159 cw_RX8_262 ki_X8_overOf ks_X8_overOf rfl (by decide) h_this rfl (Nat.le_of_ble_eq_true rfl) (by decide) (k_X8_overOf h_this h) (gk_ki (fun r34 m33 h => ?_))
      refine go_i2l dX8_digest_162 ?_
      refine go_ladd dX8_digest_163 ?_
      refine gb_lstore_n (fun v35 => [(1, .long v35), (0, .ref this), (3, .int x3)]) dX8_digest_164 rfl (by decide) (fun _ => rfl) (fun v35 e => ?_)
      replace h := h v35 e
      refine go_ldc2_w dX8_digest_165 ct_RX8_359 ?_
      refine go_lload_n 0 dX8_digest_168 rfl rfl ?_
      refine go_lmul dX8_digest_169 ?_
      refine go_aload_n 1 dX8_digest_170 rfl rfl ?_
      refine go_iload_n 2 dX8_digest_171 rfl rfl ?_
      refine go_iconst (v := 0) dX8_digest_172 (by decide) ?_
      refine go_callV (ci := 8) (d' := 8) [.int x3, .int 0] dX8_digest_173 cw_RX8_268 ki_X8_crowdOf ks_X8_crowdOf rfl (by decide) h_this rfl (Nat.le_of_ble_eq_true rfl) (by decide) (k_X8_crowdOf h_this h) (gk_ki (fun r37 m36 h => ?_))
      refine go_i2l dX8_digest_176 ?_
      refine go_ladd dX8_digest_177 ?_
      refine gb_lstore_n (fun v38 => [(1, .long v38), (0, .ref this), (3, .int x3)]) dX8_digest_178 rfl (by decide) (fun _ => rfl) (fun v38 e => ?_)
      replace h := h v38 e
      refine go_ldc2_w dX8_digest_179 ct_RX8_359 ?_
      refine go_lload_n 0 dX8_digest_182 rfl rfl ?_
      refine go_lmul dX8_digest_183 ?_
      refine go_aload_n 1 dX8_digest_184 rfl rfl ?_
      refine go_iload_n 2 dX8_digest_185 rfl rfl ?_
      refine go_iconst (v := 1) dX8_digest_186 (by decide) ?_
      refine go_callV (ci := 8) (d' := 8) [.int x3, .int 1] dX8_digest_187 cw_RX8_268 ki_X8_crowdOf ks_X8_crowdOf rfl (by decide) h_this rfl (Nat.le_of_ble_eq_true rfl) (by decide) (k_X8_crowdOf h_this h) (gk_ki (fun r40 m39 h => ?_))
      refine go_i2l dX8_digest_190 ?_
      refine go_ladd dX8_digest_191 ?_
      refine gb_lstore_n (fun v41 => [(1, .long v41), (0, .ref this), (3, .int x3)]) dX8_digest_192 rfl (by decide) (fun _ => rfl) (fun v41 e => ?_)
      replace h := h v41 e
      refine gb_iinc (w := 1) 2 (fun v42 => [(3, .int v42), (1, .long v41), (0, .ref this)]) dX8_digest_193 rfl (by decide) (by decide) (fun _ => rfl) (fun v42 e => ?_)
      replace h := h v42 e
      refine go_goto 147 dX8_digest_196 (by decide) ?_
      refine go_lv [2, 1, 0] rfl ?_
      exact ih _ _ _ h
def w_X8_digest (this : Nat) (μ : gk_St) (Q : Int64 → gk_St → Prop) : Prop := (∃ n6 : Nat, w_X8_digest_l6 Q (fun y5 m6 => (∃ n33 : Nat, w_X8_digest_l33 Q (fun y11 m12 => (∃ n59 : Nat, w_X8_digest_l59 Q (fun y21 m22 => (∃ n103 : Nat, w_X8_digest_l103 Q (fun y26 m27 => (∃ n124 : Nat, w_X8_digest_l124 Q (fun y31 m32 => (∃ n147 : Nat, w_X8_digest_l147 Q (fun y43 m44 => w_X8_sumOf this m44 (fun r46 m45 => (∀ v47 : Int64, v47 = (((31 : Int64) * y43) + (Int32.toInt64 r46)) → w_X8_firstOf this 0 m45 (fun r49 m48 => (∀ v50 : Int64, v50 = (((31 : Int64) * v47) + (Int32.toInt64 r49)) → w_X8_firstOf this 1 m48 (fun r52 m51 => (∀ v53 : Int64, v53 = (((31 : Int64) * v50) + (Int32.toInt64 r52)) → w_X8_idleOf this m51 (fun r55 m54 => (∀ v56 : Int64, v56 = (((31 : Int64) * v53) + (Int32.toInt64 r55)) → w_X8_leftOf this m54 (fun r58 m57 => (∀ v59 : Int64, v59 = (((31 : Int64) * v56) + (Int32.toInt64 r58)) → w_X8_paceOf this 8 0 m57 (fun r61 m60 => (∀ v62 : Int64, v62 = (((31 : Int64) * v59) + (Int32.toInt64 r61)) → w_X8_paceOf this 8 1 m60 (fun r64 m63 => (∀ v65 : Int64, v65 = (((31 : Int64) * v62) + (Int32.toInt64 r64)) → w_X8_cheapOf this 8 0 m63 (fun r67 m66 => (∀ v68 : Int64, v68 = (((31 : Int64) * v65) + (Int32.toInt64 r67)) → w_X8_cheapOf this 8 1 m66 (fun r70 m69 => (∀ v71 : Int64, v71 = (((31 : Int64) * v68) + (Int32.toInt64 r70)) → w_X8_chanceOf this 5 17 0 m69 (fun r73 m72 => (∀ v74 : Int64, v74 = (((31 : Int64) * v71) + r73) → w_X8_chanceOf this 5 17 1 m72 (fun r76 m75 => (∀ v77 : Int64, v77 = (((31 : Int64) * v74) + r76) → w_X8_spareBy this m75 (fun r79 m78 => (∀ v80 : Int64, v80 = (((31 : Int64) * v77) + (Int32.toInt64 r79)) → w_X8_ofRow this r79 0 m78 (fun r82 m81 => (∀ v83 : Int64, v83 = (((31 : Int64) * v80) + (Int32.toInt64 r82)) → w_X8_neverNow this m81 (fun r85 m84 => (∀ v86 : Int64, v86 = (((31 : Int64) * v83) + (Int32.toInt64 r85)) → w_X8_yearsOf this 7 18 0 m84 (fun r88 m87 => (∀ v89 : Int64, v89 = (((31 : Int64) * v86) + (Int32.toInt64 r88)) → w_X8_yearsOf this 7 18 1 m87 (fun r91 m90 => Q (((31 : Int64) * v89) + (Int32.toInt64 r91)) m90)))))))))))))))))))))))))))))))) this n147 y31 0 m32)) this n124 y26 0 m27)) this n103 y21 0 m22)) this n59 y11 0 m12)) this n33 y5 0 m6)) this n6 17 0 μ)
set_option maxRecDepth 100000 in
set_option maxHeartbeats 4000000 in
theorem k_X8_digest {this : Nat} {μ : gk_St} {Q : Int64 → gk_St → Prop} (h_this : gk_isO this 8) (h : w_X8_digest this μ Q) : gk_CT yX8_digest cX8_digest 5 (some .long) 11 [.ref this] μ (gk_Ql Q) := by
  unfold w_X8_digest at h
  refine gk_enter (by decide) (Nat.le_of_ble_eq_true rfl) ?_
  show Go RX8 cX8_digest 5 (some .long) 11 0 [(0, .ref this)] [] μ (gk_Ql Q)
  refine go_ldc2_w dX8_digest_0 ct_RX8_365 ?_
  refine go_lstore_n [(1, .long 17), (0, .ref this)] dX8_digest_3 rfl (by decide) rfl ?_
  refine go_iconst (v := 0) dX8_digest_4 (by decide) ?_
  refine go_istore_n [(3, .int 0), (1, .long 17), (0, .ref this)] dX8_digest_5 rfl (by decide) rfl ?_
  refine go_lv [2, 1, 0] rfl ?_
  obtain ⟨n6, h⟩ := h
  refine k_X8_digest_l6 h_this (fun y5 m6 h => ?_) n6 _ _ _ h
  refine go_iconst (v := 0) dX8_digest_31 (by decide) ?_
  refine go_istore_n [(3, .int 0), (0, .ref this), (1, .long y5)] dX8_digest_32 rfl (by decide) rfl ?_
  refine go_lv [1, 2, 0] rfl ?_
  obtain ⟨n33, h⟩ := h
  refine k_X8_digest_l33 h_this (fun y11 m12 h => ?_) n33 _ _ _ h
  refine go_iconst (v := 0) dX8_digest_57 (by decide) ?_
  refine go_istore_n [(3, .int 0), (0, .ref this), (1, .long y11)] dX8_digest_58 rfl (by decide) rfl ?_
  refine go_lv [1, 2, 0] rfl ?_
  obtain ⟨n59, h⟩ := h
  refine k_X8_digest_l59 h_this (fun y21 m22 h => ?_) n59 _ _ _ h
  refine go_iconst (v := 0) dX8_digest_101 (by decide) ?_
  refine go_istore_n [(3, .int 0), (0, .ref this), (1, .long y21)] dX8_digest_102 rfl (by decide) rfl ?_
  refine go_lv [1, 2, 0] rfl ?_
  obtain ⟨n103, h⟩ := h
  refine k_X8_digest_l103 h_this (fun y26 m27 h => ?_) n103 _ _ _ h
  refine go_iconst (v := 0) dX8_digest_122 (by decide) ?_
  refine go_istore_n [(3, .int 0), (0, .ref this), (1, .long y26)] dX8_digest_123 rfl (by decide) rfl ?_
  refine go_lv [1, 2, 0] rfl ?_
  obtain ⟨n124, h⟩ := h
  refine k_X8_digest_l124 h_this (fun y31 m32 h => ?_) n124 _ _ _ h
  refine go_iconst (v := 0) dX8_digest_145 (by decide) ?_
  refine go_istore_n [(3, .int 0), (0, .ref this), (1, .long y31)] dX8_digest_146 rfl (by decide) rfl ?_
  refine go_lv [1, 2, 0] rfl ?_
  obtain ⟨n147, h⟩ := h
  refine k_X8_digest_l147 h_this (fun y43 m44 h => ?_) n147 _ _ _ h
  refine go_ldc2_w dX8_digest_199 ct_RX8_359 ?_
  refine go_lload_n 1 dX8_digest_202 rfl rfl ?_
  refine go_lmul dX8_digest_203 ?_
  refine go_aload_n 0 dX8_digest_204 rfl rfl ?_
  refine go_callV (ci := 8) (d' := 8) [] dX8_digest_205 cw_RX8_265 ki_X8_sumOf ks_X8_sumOf rfl (by decide) h_this rfl (Nat.le_of_ble_eq_true rfl) (by decide) (k_X8_sumOf h_this h) (gk_ki (fun r46 m45 h => ?_))
  refine go_i2l dX8_digest_208 ?_
  refine go_ladd dX8_digest_209 ?_
  refine gb_lstore_n (fun v47 => [(1, .long v47), (0, .ref this)]) dX8_digest_210 rfl (by decide) (fun _ => rfl) (fun v47 e => ?_)
  replace h := h v47 e
  refine go_ldc2_w dX8_digest_211 ct_RX8_359 ?_
  refine go_lload_n 0 dX8_digest_214 rfl rfl ?_
  refine go_lmul dX8_digest_215 ?_
  refine go_aload_n 1 dX8_digest_216 rfl rfl ?_
  refine go_iconst (v := 0) dX8_digest_217 (by decide) ?_
  refine go_callV (ci := 8) (d' := 8) [.int 0] dX8_digest_218 cw_RX8_271 ki_X8_firstOf ks_X8_firstOf rfl (by decide) h_this rfl (Nat.le_of_ble_eq_true rfl) (by decide) (k_X8_firstOf h_this h) (gk_ki (fun r49 m48 h => ?_))
  refine go_i2l dX8_digest_221 ?_
  refine go_ladd dX8_digest_222 ?_
  refine gb_lstore_n (fun v50 => [(1, .long v50), (0, .ref this)]) dX8_digest_223 rfl (by decide) (fun _ => rfl) (fun v50 e => ?_)
  replace h := h v50 e
  refine go_ldc2_w dX8_digest_224 ct_RX8_359 ?_
  refine go_lload_n 0 dX8_digest_227 rfl rfl ?_
  refine go_lmul dX8_digest_228 ?_
  refine go_aload_n 1 dX8_digest_229 rfl rfl ?_
  refine go_iconst (v := 1) dX8_digest_230 (by decide) ?_
  refine go_callV (ci := 8) (d' := 8) [.int 1] dX8_digest_231 cw_RX8_271 ki_X8_firstOf ks_X8_firstOf rfl (by decide) h_this rfl (Nat.le_of_ble_eq_true rfl) (by decide) (k_X8_firstOf h_this h) (gk_ki (fun r52 m51 h => ?_))
  refine go_i2l dX8_digest_234 ?_
  refine go_ladd dX8_digest_235 ?_
  refine gb_lstore_n (fun v53 => [(1, .long v53), (0, .ref this)]) dX8_digest_236 rfl (by decide) (fun _ => rfl) (fun v53 e => ?_)
  replace h := h v53 e
  refine go_ldc2_w dX8_digest_237 ct_RX8_359 ?_
  refine go_lload_n 0 dX8_digest_240 rfl rfl ?_
  refine go_lmul dX8_digest_241 ?_
  refine go_aload_n 1 dX8_digest_242 rfl rfl ?_
  refine go_callV (ci := 8) (d' := 8) [] dX8_digest_243 cw_RX8_277 ki_X8_idleOf ks_X8_idleOf rfl (by decide) h_this rfl (Nat.le_of_ble_eq_true rfl) (by decide) (k_X8_idleOf h_this h) (gk_ki (fun r55 m54 h => ?_))
  refine go_i2l dX8_digest_246 ?_
  refine go_ladd dX8_digest_247 ?_
  refine gb_lstore_n (fun v56 => [(1, .long v56), (0, .ref this)]) dX8_digest_248 rfl (by decide) (fun _ => rfl) (fun v56 e => ?_)
  replace h := h v56 e
  refine go_ldc2_w dX8_digest_249 ct_RX8_359 ?_
  refine go_lload_n 0 dX8_digest_252 rfl rfl ?_
  refine go_lmul dX8_digest_253 ?_
  refine go_aload_n 1 dX8_digest_254 rfl rfl ?_
  refine go_callV (ci := 8) (d' := 8) [] dX8_digest_255 cw_RX8_283 ki_X8_leftOf ks_X8_leftOf rfl (by decide) h_this rfl (Nat.le_of_ble_eq_true rfl) (by decide) (k_X8_leftOf h_this h) (gk_ki (fun r58 m57 h => ?_))
  refine go_i2l dX8_digest_258 ?_
  refine go_ladd dX8_digest_259 ?_
  refine gb_lstore_n (fun v59 => [(1, .long v59), (0, .ref this)]) dX8_digest_260 rfl (by decide) (fun _ => rfl) (fun v59 e => ?_)
  replace h := h v59 e
  refine go_ldc2_w dX8_digest_261 ct_RX8_359 ?_
  refine go_lload_n 0 dX8_digest_264 rfl rfl ?_
  refine go_lmul dX8_digest_265 ?_
  refine go_aload_n 1 dX8_digest_266 rfl rfl ?_
  refine go_bipush (v := 8) dX8_digest_267 (by decide) ?_
  refine go_iconst (v := 0) dX8_digest_269 (by decide) ?_
  refine go_callV (ci := 8) (d' := 7) [.int 8, .int 0] dX8_digest_270 cw_RX8_295 ki_X8_paceOf ks_X8_paceOf rfl (by decide) h_this rfl (Nat.le_of_ble_eq_true rfl) (by decide) (k_X8_paceOf h_this h) (gk_ki (fun r61 m60 h => ?_))
  refine go_i2l dX8_digest_273 ?_
  refine go_ladd dX8_digest_274 ?_
  refine gb_lstore_n (fun v62 => [(1, .long v62), (0, .ref this)]) dX8_digest_275 rfl (by decide) (fun _ => rfl) (fun v62 e => ?_)
  replace h := h v62 e
  refine go_ldc2_w dX8_digest_276 ct_RX8_359 ?_
  refine go_lload_n 0 dX8_digest_279 rfl rfl ?_
  refine go_lmul dX8_digest_280 ?_
  refine go_aload_n 1 dX8_digest_281 rfl rfl ?_
  refine go_bipush (v := 8) dX8_digest_282 (by decide) ?_
  refine go_iconst (v := 1) dX8_digest_284 (by decide) ?_
  refine go_callV (ci := 8) (d' := 7) [.int 8, .int 1] dX8_digest_285 cw_RX8_295 ki_X8_paceOf ks_X8_paceOf rfl (by decide) h_this rfl (Nat.le_of_ble_eq_true rfl) (by decide) (k_X8_paceOf h_this h) (gk_ki (fun r64 m63 h => ?_))
  refine go_i2l dX8_digest_288 ?_
  refine go_ladd dX8_digest_289 ?_
  refine gb_lstore_n (fun v65 => [(1, .long v65), (0, .ref this)]) dX8_digest_290 rfl (by decide) (fun _ => rfl) (fun v65 e => ?_)
  replace h := h v65 e
  refine go_ldc2_w dX8_digest_291 ct_RX8_359 ?_
  refine go_lload_n 0 dX8_digest_294 rfl rfl ?_
  refine go_lmul dX8_digest_295 ?_
  refine go_aload_n 1 dX8_digest_296 rfl rfl ?_
  refine go_bipush (v := 8) dX8_digest_297 (by decide) ?_
  refine go_iconst (v := 0) dX8_digest_299 (by decide) ?_
  refine go_callV (ci := 8) (d' := 7) [.int 8, .int 0] dX8_digest_300 cw_RX8_298 ki_X8_cheapOf ks_X8_cheapOf rfl (by decide) h_this rfl (Nat.le_of_ble_eq_true rfl) (by decide) (k_X8_cheapOf h_this h) (gk_ki (fun r67 m66 h => ?_))
  refine go_i2l dX8_digest_303 ?_
  refine go_ladd dX8_digest_304 ?_
  refine gb_lstore_n (fun v68 => [(1, .long v68), (0, .ref this)]) dX8_digest_305 rfl (by decide) (fun _ => rfl) (fun v68 e => ?_)
  replace h := h v68 e
  refine go_ldc2_w dX8_digest_306 ct_RX8_359 ?_
  refine go_lload_n 0 dX8_digest_309 rfl rfl ?_
  refine go_lmul dX8_digest_310 ?_
  refine go_aload_n 1 dX8_digest_311 rfl rfl ?_
  refine go_bipush (v := 8) dX8_digest_312 (by decide) ?_
  refine go_iconst (v := 1) dX8_digest_314 (by decide) ?_
  refine go_callV (ci := 8) (d' := 7) [.int 8, .int 1] dX8_digest_315 cw_RX8_298 ki_X8_cheapOf ks_X8_cheapOf rfl (by decide) h_this rfl (Nat.le_of_ble_eq_true rfl) (by decide) (k_X8_cheapOf h_this h) (gk_ki (fun r70 m69 h => ?_))
  refine go_i2l dX8_digest_318 ?_
  refine go_ladd dX8_digest_319 ?_
  refine gb_lstore_n (fun v71 => [(1, .long v71), (0, .ref this)]) dX8_digest_320 rfl (by decide) (fun _ => rfl) (fun v71 e => ?_)
  replace h := h v71 e
  refine go_ldc2_w dX8_digest_321 ct_RX8_359 ?_
  refine go_lload_n 0 dX8_digest_324 rfl rfl ?_
  refine go_lmul dX8_digest_325 ?_
  refine go_aload_n 1 dX8_digest_326 rfl rfl ?_
  refine go_iconst (v := 5) dX8_digest_327 (by decide) ?_
  refine go_bipush (v := 17) dX8_digest_328 (by decide) ?_
  refine go_iconst (v := 0) dX8_digest_330 (by decide) ?_
  refine go_callV (ci := 8) (d' := 7) [.int 5, .int 17, .int 0] dX8_digest_331 cw_RX8_333 ki_X8_chanceOf ks_X8_chanceOf rfl (by decide) h_this rfl (Nat.le_of_ble_eq_true rfl) (by decide) (k_X8_chanceOf h_this h) (gk_kl (fun r73 m72 h => ?_))
  refine go_ladd dX8_digest_334 ?_
  refine gb_lstore_n (fun v74 => [(1, .long v74), (0, .ref this)]) dX8_digest_335 rfl (by decide) (fun _ => rfl) (fun v74 e => ?_)
  replace h := h v74 e
  refine go_ldc2_w dX8_digest_336 ct_RX8_359 ?_
  refine go_lload_n 0 dX8_digest_339 rfl rfl ?_
  refine go_lmul dX8_digest_340 ?_
  refine go_aload_n 1 dX8_digest_341 rfl rfl ?_
  refine go_iconst (v := 5) dX8_digest_342 (by decide) ?_
  refine go_bipush (v := 17) dX8_digest_343 (by decide) ?_
  refine go_iconst (v := 1) dX8_digest_345 (by decide) ?_
  refine go_callV (ci := 8) (d' := 7) [.int 5, .int 17, .int 1] dX8_digest_346 cw_RX8_333 ki_X8_chanceOf ks_X8_chanceOf rfl (by decide) h_this rfl (Nat.le_of_ble_eq_true rfl) (by decide) (k_X8_chanceOf h_this h) (gk_kl (fun r76 m75 h => ?_))
  refine go_ladd dX8_digest_349 ?_
  refine gb_lstore_n (fun v77 => [(1, .long v77), (0, .ref this)]) dX8_digest_350 rfl (by decide) (fun _ => rfl) (fun v77 e => ?_)
  replace h := h v77 e
  refine go_aload_n 1 dX8_digest_351 rfl rfl ?_
  refine go_callV (ci := 8) (d' := 7) [] dX8_digest_352 cw_RX8_304 ki_X8_spareBy ks_X8_spareBy rfl (by decide) h_this rfl (Nat.le_of_ble_eq_true rfl) (by decide) (k_X8_spareBy h_this h) (gk_ki (fun r79 m78 h => ?_))
  refine go_istore_n [(3, .int r79), (1, .long v77), (0, .ref this)] dX8_digest_355 rfl (by decide) rfl ?_
  refine go_ldc2_w dX8_digest_356 ct_RX8_359 ?_
  refine go_lload_n 1 dX8_digest_359 rfl rfl ?_
  refine go_lmul dX8_digest_360 ?_
  refine go_iload_n 0 dX8_digest_361 rfl rfl ?_
  refine go_i2l dX8_digest_362 ?_
  refine go_ladd dX8_digest_363 ?_
  refine gb_lstore_n (fun v80 => [(1, .long v80), (3, .int r79), (0, .ref this)]) dX8_digest_364 rfl (by decide) (fun _ => rfl) (fun v80 e => ?_)
  replace h := h v80 e
  refine go_ldc2_w dX8_digest_365 ct_RX8_359 ?_
  refine go_lload_n 0 dX8_digest_368 rfl rfl ?_
  refine go_lmul dX8_digest_369 ?_
  refine go_aload_n 2 dX8_digest_370 rfl rfl ?_
  refine go_iload_n 1 dX8_digest_371 rfl rfl ?_
  refine go_iconst (v := 0) dX8_digest_372 (by decide) ?_
  refine go_callV (ci := 8) (d' := 0) [.int r79, .int 0] dX8_digest_373 cw_RX8_307 ki_X8_ofRow ks_X8_ofRow rfl (by decide) h_this rfl (Nat.le_of_ble_eq_true rfl) (by decide) (k_X8_ofRow h_this h) (gk_ki (fun r82 m81 h => ?_))
  refine go_i2l dX8_digest_376 ?_
  refine go_ladd dX8_digest_377 ?_
  refine gb_lstore_n (fun v83 => [(1, .long v83), (3, .int r79), (0, .ref this)]) dX8_digest_378 rfl (by decide) (fun _ => rfl) (fun v83 e => ?_)
  replace h := h v83 e
  refine go_ldc2_w dX8_digest_379 ct_RX8_359 ?_
  refine go_lload_n 0 dX8_digest_382 rfl rfl ?_
  refine go_lmul dX8_digest_383 ?_
  refine go_aload_n 2 dX8_digest_384 rfl rfl ?_
  refine go_callV (ci := 8) (d' := 7) [] dX8_digest_385 cw_RX8_317 ki_X8_neverNow ks_X8_neverNow rfl (by decide) h_this rfl (Nat.le_of_ble_eq_true rfl) (by decide) (k_X8_neverNow h_this h) (gk_ki (fun r85 m84 h => ?_))
  refine go_i2l dX8_digest_388 ?_
  refine go_ladd dX8_digest_389 ?_
  refine gb_lstore_n (fun v86 => [(1, .long v86), (3, .int r79), (0, .ref this)]) dX8_digest_390 rfl (by decide) (fun _ => rfl) (fun v86 e => ?_)
  replace h := h v86 e
  refine go_ldc2_w dX8_digest_391 ct_RX8_359 ?_
  refine go_lload_n 0 dX8_digest_394 rfl rfl ?_
  refine go_lmul dX8_digest_395 ?_
  refine go_aload_n 2 dX8_digest_396 rfl rfl ?_
  refine go_bipush (v := 7) dX8_digest_397 (by decide) ?_
  refine go_bipush (v := 18) dX8_digest_399 (by decide) ?_
  refine go_iconst (v := 0) dX8_digest_401 (by decide) ?_
  refine go_callV (ci := 8) (d' := 7) [.int 7, .int 18, .int 0] dX8_digest_402 cw_RX8_342 ki_X8_yearsOf ks_X8_yearsOf rfl (by decide) h_this rfl (Nat.le_of_ble_eq_true rfl) (by decide) (k_X8_yearsOf h_this h) (gk_ki (fun r88 m87 h => ?_))
  refine go_i2l dX8_digest_405 ?_
  refine go_ladd dX8_digest_406 ?_
  refine gb_lstore_n (fun v89 => [(1, .long v89), (3, .int r79), (0, .ref this)]) dX8_digest_407 rfl (by decide) (fun _ => rfl) (fun v89 e => ?_)
  replace h := h v89 e
  refine go_ldc2_w dX8_digest_408 ct_RX8_359 ?_
  refine go_lload_n 0 dX8_digest_411 rfl rfl ?_
  refine go_lmul dX8_digest_412 ?_
  refine go_aload_n 2 dX8_digest_413 rfl rfl ?_
  refine go_bipush (v := 7) dX8_digest_414 (by decide) ?_
  refine go_bipush (v := 18) dX8_digest_416 (by decide) ?_
  refine go_iconst (v := 1) dX8_digest_418 (by decide) ?_
  refine go_callV (ci := 8) (d' := 7) [.int 7, .int 18, .int 1] dX8_digest_419 cw_RX8_342 ki_X8_yearsOf ks_X8_yearsOf rfl (by decide) h_this rfl (Nat.le_of_ble_eq_true rfl) (by decide) (k_X8_yearsOf h_this h) (gk_ki (fun r91 m90 h => ?_))
  refine go_i2l dX8_digest_422 ?_
  refine go_ladd dX8_digest_423 ?_
  exact go_lret dX8_digest_424 ⟨_, rfl, h⟩
