def w_X8_chanceOf_j58 (Q : Int64 → gk_St → Prop) (K : Int32 → Int32 → Int32 → Int64 → Int32 → Int64 → gk_St → Prop) (C : Int32 → Int32 → Int32 → Int64 → Int32 → Int64 → Int32 → gk_St → Prop) (this : Nat) (x1 : Int32) (x2 : Int32) (x3 : Int32) (x4 : Int64) (x6 : Int32) (x9 : Int32) (s0 : Int64) (s1 : Int64) (μ : gk_St) : Prop := (∀ v4 : Int64, v4 = (s1 * s0) → (∀ v5 : Int32, v5 = x9 + 1 → C x1 x2 x3 x4 x6 v4 v5 μ))
set_option maxRecDepth 100000 in
set_option maxHeartbeats 4000000 in
theorem k_X8_chanceOf_j58 {Q : Int64 → gk_St → Prop} {K : Int32 → Int32 → Int32 → Int64 → Int32 → Int64 → gk_St → Prop} {C : Int32 → Int32 → Int32 → Int64 → Int32 → Int64 → Int32 → gk_St → Prop} {this : Nat} {x1 : Int32} {x2 : Int32} {x3 : Int32} {x4 : Int64} {x6 : Int32} {x9 : Int32} {s0 : Int64} {s1 : Int64} {μ : gk_St} (h_this : gk_isO this 8) (hK : ∀ (e1 : Int32) (e2 : Int32) (e3 : Int32) (e4 : Int64) (e6 : Int32) (e7 : Int64) (em : gk_St), K e1 e2 e3 e4 e6 e7 em → Go RX8 cX8_chanceOf 10 (some .long) 7 67 [(0, .ref this), (1, .int e1), (2, .int e2), (3, .int e3), (4, .long e4), (6, .int e6), (7, .long e7)] [] em (gk_Ql Q)) (hC : ∀ (c1 : Int32) (c2 : Int32) (c3 : Int32) (c4 : Int64) (c6 : Int32) (c7 : Int64) (c9 : Int32) (cm : gk_St), C c1 c2 c3 c4 c6 c7 c9 cm → Go RX8 cX8_chanceOf 10 (some .long) 7 27 [(0, .ref this), (1, .int c1), (2, .int c2), (3, .int c3), (4, .long c4), (6, .int c6), (7, .long c7), (9, .int c9)] [] cm (gk_Ql Q)) (h : w_X8_chanceOf_j58 Q K C this x1 x2 x3 x4 x6 x9 s0 s1 μ) : Go RX8 cX8_chanceOf 10 (some .long) 7 58 [(0, .ref this), (1, .int x1), (2, .int x2), (3, .int x3), (4, .long x4), (6, .int x6), (9, .int x9)] [.long s0, .long s1] μ (gk_Ql Q) := by
  unfold w_X8_chanceOf_j58 at h
  refine go_lmul dX8_chanceOf_58 ?_
  refine gb_lstore (fun v4 => [(7, .long v4), (0, .ref this), (1, .int x1), (2, .int x2), (3, .int x3), (4, .long x4), (6, .int x6), (9, .int x9)]) dX8_chanceOf_59 (by decide) (fun _ => rfl) (fun v4 e => ?_)
  replace h := h v4 e
  refine gb_iinc (w := 1) 7 (fun v5 => [(9, .int v5), (7, .long v4), (0, .ref this), (1, .int x1), (2, .int x2), (3, .int x3), (4, .long x4), (6, .int x6)]) dX8_chanceOf_61 rfl (by decide) (by decide) (fun _ => rfl) (fun v5 e => ?_)
  replace h := h v5 e
  refine go_goto 27 dX8_chanceOf_64 (by decide) ?_
  refine go_lv [2, 3, 4, 5, 6, 7, 1, 0] rfl ?_
  exact hC _ _ _ _ _ _ _ _ h
def w_X8_chanceOf_l27 (Q : Int64 → gk_St → Prop) (K : Int32 → Int32 → Int32 → Int64 → Int32 → Int64 → gk_St → Prop) (this : Nat) : Nat → Int32 → Int32 → Int32 → Int64 → Int32 → Int64 → Int32 → gk_St → Prop
  | 0, _, _, _, _, _, _, _, _ => False
  | n + 1, x1, x2, x3, x4, x6, x7, x9, μ => (if (μ this 12) ≤ x9 then K x1 x2 x3 x4 x6 x7 μ else w_X8_isIn x6 x9 μ (fun r3 m2 => (if r3 = 0 then w_X8_chanceOf_j58 Q K (fun c_x1 c_x2 c_x3 c_x4 c_x6 c_x7 c_x9 cm => w_X8_chanceOf_l27 Q K this n c_x1 c_x2 c_x3 c_x4 c_x6 c_x7 c_x9 cm) this x1 x2 x3 x4 x6 x9 (Int32.toInt64 x1) x7 m2 else w_X8_chanceOf_j58 Q K (fun c_x1 c_x2 c_x3 c_x4 c_x6 c_x7 c_x9 cm => w_X8_chanceOf_l27 Q K this n c_x1 c_x2 c_x3 c_x4 c_x6 c_x7 c_x9 cm) this x1 x2 x3 x4 x6 x9 (Int32.toInt64 ((16 : Int32) - x1)) x7 m2)))
set_option maxRecDepth 100000 in
set_option maxHeartbeats 4000000 in
theorem k_X8_chanceOf_l27 {Q : Int64 → gk_St → Prop} {K : Int32 → Int32 → Int32 → Int64 → Int32 → Int64 → gk_St → Prop} {this : Nat} (h_this : gk_isO this 8) (hK : ∀ (e1 : Int32) (e2 : Int32) (e3 : Int32) (e4 : Int64) (e6 : Int32) (e7 : Int64) (em : gk_St), K e1 e2 e3 e4 e6 e7 em → Go RX8 cX8_chanceOf 10 (some .long) 7 67 [(0, .ref this), (1, .int e1), (2, .int e2), (3, .int e3), (4, .long e4), (6, .int e6), (7, .long e7)] [] em (gk_Ql Q)) : ∀ (n : Nat) (x1 : Int32) (x2 : Int32) (x3 : Int32) (x4 : Int64) (x6 : Int32) (x7 : Int64) (x9 : Int32) (μ : gk_St), w_X8_chanceOf_l27 Q K this n x1 x2 x3 x4 x6 x7 x9 μ → Go RX8 cX8_chanceOf 10 (some .long) 7 27 [(0, .ref this), (1, .int x1), (2, .int x2), (3, .int x3), (4, .long x4), (6, .int x6), (7, .long x7), (9, .int x9)] [] μ (gk_Ql Q) := by
  intro n
  induction n with
  | zero =>
    intro x1 x2 x3 x4 x6 x7 x9 μ h
    exact False.elim h
  | succ n ih =>
    intro x1 x2 x3 x4 x6 x7 x9 μ h
    unfold w_X8_chanceOf_l27 at h
    refine go_iload 7 dX8_chanceOf_27 rfl ?_
    refine go_aload_n 0 dX8_chanceOf_29 rfl rfl ?_
    refine go_getI dX8_chanceOf_30 fl_RX8_179 h_this (nf_8_12 h_this) ?_
    refine go_icmp_ge 67 dX8_chanceOf_33 (by decide) (fun c => ?_) (fun c => ?_)
    · replace h := gk_ip h c
      refine go_lv [0, 1, 2, 3, 4, 5, 6] rfl ?_
      exact hK _ _ _ _ _ _ _ h
    · replace h := gk_in h c
      refine go_lload 6 dX8_chanceOf_36 rfl ?_
      refine go_iload 5 dX8_chanceOf_38 rfl ?_
      refine go_iload 7 dX8_chanceOf_40 rfl ?_
      refine go_callS (d' := 0) [.int x6, .int x9] dX8_chanceOf_42 cw_RX8_202 kt_X8_isIn rfl (Nat.le_of_ble_eq_true rfl) (by decide) (k_X8_isIn h) (gk_ki (fun r3 m2 h => ?_))
      refine go_if_eq 56 dX8_chanceOf_45 (by decide) (fun c => ?_) (fun c => ?_)
      · replace h := gk_ip h c
        refine go_iload_n 1 dX8_chanceOf_56 rfl rfl ?_
        refine go_i2l dX8_chanceOf_57 ?_
        refine go_lv [0, 1, 2, 3, 4, 5, 7] rfl ?_
        exact k_X8_chanceOf_j58 h_this hK (fun _ _ _ _ _ _ _ _ h => ih _ _ _ _ _ _ _ _ h) h
      · replace h := gk_in h c
        refine go_bipush (v := 16) dX8_chanceOf_48 (by decide) ?_
        refine go_iload_n 1 dX8_chanceOf_50 rfl rfl ?_
        refine go_isub dX8_chanceOf_51 ?_
        refine go_i2l dX8_chanceOf_52 ?_
        refine go_goto 58 dX8_chanceOf_53 (by decide) ?_
        refine go_lv [0, 1, 2, 3, 4, 5, 7] rfl ?_
        exact k_X8_chanceOf_j58 h_this hK (fun _ _ _ _ _ _ _ _ h => ih _ _ _ _ _ _ _ _ h) h
def w_X8_chanceOf_j114 (Q : Int64 → gk_St → Prop) (K : Int32 → Int64 → gk_St → Prop) (C : Int32 → Int32 → Int32 → Int64 → Int32 → gk_St → Prop) (this : Nat) (x1 : Int32) (x2 : Int32) (x3 : Int32) (x6 : Int32) (s0 : Int64) (s1 : Int64) (μ : gk_St) : Prop := (∀ v16 : Int64, v16 = (s1 + s0) → (∀ v17 : Int32, v17 = x6 + 1 → C x1 x2 x3 v16 v17 μ))
set_option maxRecDepth 100000 in
set_option maxHeartbeats 4000000 in
theorem k_X8_chanceOf_j114 {Q : Int64 → gk_St → Prop} {K : Int32 → Int64 → gk_St → Prop} {C : Int32 → Int32 → Int32 → Int64 → Int32 → gk_St → Prop} {this : Nat} {x1 : Int32} {x2 : Int32} {x3 : Int32} {x6 : Int32} {s0 : Int64} {s1 : Int64} {μ : gk_St} (h_this : gk_isO this 8) (hK : ∀ (e3 : Int32) (e4 : Int64) (em : gk_St), K e3 e4 em → Go RX8 cX8_chanceOf 10 (some .long) 7 123 [(0, .ref this), (3, .int e3), (4, .long e4)] [] em (gk_Ql Q)) (hC : ∀ (c1 : Int32) (c2 : Int32) (c3 : Int32) (c4 : Int64) (c6 : Int32) (cm : gk_St), C c1 c2 c3 c4 c6 cm → Go RX8 cX8_chanceOf 10 (some .long) 7 10 [(0, .ref this), (1, .int c1), (2, .int c2), (3, .int c3), (4, .long c4), (6, .int c6)] [] cm (gk_Ql Q)) (h : w_X8_chanceOf_j114 Q K C this x1 x2 x3 x6 s0 s1 μ) : Go RX8 cX8_chanceOf 10 (some .long) 7 114 [(0, .ref this), (1, .int x1), (2, .int x2), (3, .int x3), (6, .int x6)] [.long s0, .long s1] μ (gk_Ql Q) := by
  unfold w_X8_chanceOf_j114 at h
  refine go_ladd dX8_chanceOf_114 ?_
  refine gb_lstore (fun v16 => [(4, .long v16), (0, .ref this), (1, .int x1), (2, .int x2), (3, .int x3), (6, .int x6)]) dX8_chanceOf_115 (by decide) (fun _ => rfl) (fun v16 e => ?_)
  replace h := h v16 e
  refine gb_iinc (w := 1) 5 (fun v17 => [(6, .int v17), (4, .long v16), (0, .ref this), (1, .int x1), (2, .int x2), (3, .int x3)]) dX8_chanceOf_117 rfl (by decide) (by decide) (fun _ => rfl) (fun v17 e => ?_)
  replace h := h v17 e
  refine go_goto 10 dX8_chanceOf_120 (by decide) ?_
  refine go_lv [2, 3, 4, 5, 1, 0] rfl ?_
  exact hC _ _ _ _ _ _ h
def w_X8_chanceOf_l10 (Q : Int64 → gk_St → Prop) (K : Int32 → Int64 → gk_St → Prop) (this : Nat) : Nat → Int32 → Int32 → Int32 → Int64 → Int32 → gk_St → Prop
  | 0, _, _, _, _, _, _ => False
  | n + 1, x1, x2, x3, x4, x6, μ => (if ((1 : Int32) <<< ((μ this 12) &&& 31)) ≤ x6 then K x3 x4 μ else (∃ n27 : Nat, w_X8_chanceOf_l27 Q (fun y6 y7 y8 y9 y10 y11 m12 => (if (lg_cmp y11 0) ≤ 0 then (∀ v13 : Int32, v13 = y10 + 1 → w_X8_chanceOf_l10 Q K this n y6 y7 y8 y9 v13 m12) else (∀ m14 : gk_St, m14 = gk_up m12 this 17 y10 → w_X8_runs this m14 (fun m15 => (vp_in ((2 : Int32) * y7) (gk_ln (gk_rf this 31)) ∧ (vp_in (((2 : Int32) * y7) + 1) (gk_ln (gk_rf this 31)) ∧ (if ((m15 (gk_rf this 31) (Int32.toNatClampNeg ((2 : Int32) * y7))) + (m15 (gk_rf this 31) (Int32.toNatClampNeg (((2 : Int32) * y7) + 1)))) = 0 then w_X8_chanceOf_j114 Q K (fun c_x1 c_x2 c_x3 c_x4 c_x6 cm => w_X8_chanceOf_l10 Q K this n c_x1 c_x2 c_x3 c_x4 c_x6 cm) this y6 y7 y8 y10 y11 y9 m15 else w_X8_chanceOf_j114 Q K (fun c_x1 c_x2 c_x3 c_x4 c_x6 cm => w_X8_chanceOf_l10 Q K this n c_x1 c_x2 c_x3 c_x4 c_x6 cm) this y6 y7 y8 y10 0 y9 m15))))))) this n27 x1 x2 x3 x4 x6 1 0 μ))
set_option maxRecDepth 100000 in
set_option maxHeartbeats 4000000 in
theorem k_X8_chanceOf_l10 {Q : Int64 → gk_St → Prop} {K : Int32 → Int64 → gk_St → Prop} {this : Nat} (h_this : gk_isO this 8) (hK : ∀ (e3 : Int32) (e4 : Int64) (em : gk_St), K e3 e4 em → Go RX8 cX8_chanceOf 10 (some .long) 7 123 [(0, .ref this), (3, .int e3), (4, .long e4)] [] em (gk_Ql Q)) : ∀ (n : Nat) (x1 : Int32) (x2 : Int32) (x3 : Int32) (x4 : Int64) (x6 : Int32) (μ : gk_St), w_X8_chanceOf_l10 Q K this n x1 x2 x3 x4 x6 μ → Go RX8 cX8_chanceOf 10 (some .long) 7 10 [(0, .ref this), (1, .int x1), (2, .int x2), (3, .int x3), (4, .long x4), (6, .int x6)] [] μ (gk_Ql Q) := by
  intro n
  induction n with
  | zero =>
    intro x1 x2 x3 x4 x6 μ h
    exact False.elim h
  | succ n ih =>
    intro x1 x2 x3 x4 x6 μ h
    unfold w_X8_chanceOf_l10 at h
    refine go_iload 5 dX8_chanceOf_10 rfl ?_
    refine go_iconst (v := 1) dX8_chanceOf_12 (by decide) ?_
    refine go_aload_n 0 dX8_chanceOf_13 rfl rfl ?_
    refine go_getI dX8_chanceOf_14 fl_RX8_179 h_this (nf_8_12 h_this) ?_
    refine go_ishl dX8_chanceOf_17 ?_
    refine go_icmp_ge 123 dX8_chanceOf_18 (by decide) (fun c => ?_) (fun c => ?_)
    · replace h := gk_ip h c
      refine go_lv [0, 3, 4] rfl ?_
      exact hK _ _ _ h
    · replace h := gk_in h c
      refine go_lconst (v := 1) dX8_chanceOf_21 (by decide) ?_
      refine go_lstore [(7, .long 1), (0, .ref this), (1, .int x1), (2, .int x2), (3, .int x3), (4, .long x4), (6, .int x6)] dX8_chanceOf_22 (by decide) rfl ?_
      refine go_iconst (v := 0) dX8_chanceOf_24 (by decide) ?_
      refine go_istore [(9, .int 0), (7, .long 1), (0, .ref this), (1, .int x1), (2, .int x2), (3, .int x3), (4, .long x4), (6, .int x6)] dX8_chanceOf_25 (by decide) rfl ?_
      refine go_lv [2, 3, 4, 5, 6, 7, 1, 0] rfl ?_
      obtain ⟨n27, h⟩ := h
      refine k_X8_chanceOf_l27 h_this (fun y6 y7 y8 y9 y10 y11 m12 h => ?_) n27 _ _ _ _ _ _ _ _ h
      refine go_lload 6 dX8_chanceOf_67 rfl ?_
      refine go_lconst (v := 0) dX8_chanceOf_69 (by decide) ?_
      refine go_lcmp dX8_chanceOf_70 ?_
      refine go_if_le 117 dX8_chanceOf_71 (by decide) (fun c => ?_) (fun c => ?_)
      · replace h := gk_ip h c
        refine gb_iinc (w := 1) 5 (fun v13 => [(6, .int v13), (0, .ref this), (1, .int y6), (2, .int y7), (3, .int y8), (4, .long y9), (7, .long y11)]) dX8_chanceOf_117 rfl (by decide) (by decide) (fun _ => rfl) (fun v13 e => ?_)
        replace h := h v13 e
        refine go_goto 10 dX8_chanceOf_120 (by decide) ?_
        refine go_lv [1, 2, 3, 4, 5, 0] rfl ?_
        exact ih _ _ _ _ _ _ h
      · replace h := gk_in h c
        refine go_aload_n 0 dX8_chanceOf_74 rfl rfl ?_
        refine go_iload 5 dX8_chanceOf_75 rfl ?_
        refine gb_putI dX8_chanceOf_77 fp_RX8_192 h_this (nf_8_17 h_this) (fun m14 e => ?_)
        replace h := h m14 e
        refine go_aload_n 0 dX8_chanceOf_80 rfl rfl ?_
        refine go_callV (ci := 8) (d' := 3) [] dX8_chanceOf_81 cw_RX8_247 ki_X8_runs ks_X8_runs rfl (by decide) h_this rfl (Nat.le_of_ble_eq_true rfl) (by decide) (k_X8_runs h_this h) (gk_kv (fun m15 h => ?_))
        refine go_lload 4 dX8_chanceOf_84 rfl ?_
        refine go_aload_n 0 dX8_chanceOf_86 rfl rfl ?_
        refine go_getR dX8_chanceOf_87 fl_RX8_64 h_this (rr_8_31 h_this) ?_
        refine go_iconst (v := 2) dX8_chanceOf_90 (by decide) ?_
        refine go_iload_n 2 dX8_chanceOf_91 rfl rfl ?_
        refine go_imul dX8_chanceOf_92 ?_
        refine go_iaload dX8_chanceOf_93 (rt_8_31 h_this) h.1 ?_
        replace h := h.2
        refine go_aload_n 0 dX8_chanceOf_94 rfl rfl ?_
        refine go_getR dX8_chanceOf_95 fl_RX8_64 h_this (rr_8_31 h_this) ?_
        refine go_iconst (v := 2) dX8_chanceOf_98 (by decide) ?_
        refine go_iload_n 2 dX8_chanceOf_99 rfl rfl ?_
        refine go_imul dX8_chanceOf_100 ?_
        refine go_iconst (v := 1) dX8_chanceOf_101 (by decide) ?_
        refine go_iadd dX8_chanceOf_102 ?_
        refine go_iaload dX8_chanceOf_103 (rt_8_31 h_this) h.1 ?_
        replace h := h.2
        refine go_iadd dX8_chanceOf_104 ?_
        refine go_if_ne 113 dX8_chanceOf_105 (by decide) (fun c => ?_) (fun c => ?_)
        · replace h := gk_in h c
          refine go_lconst (v := 0) dX8_chanceOf_113 (by decide) ?_
          refine go_lv [0, 1, 2, 3, 5] rfl ?_
          exact k_X8_chanceOf_j114 h_this hK (fun _ _ _ _ _ _ h => ih _ _ _ _ _ _ h) h
        · replace h := gk_ip h c
          refine go_lload 6 dX8_chanceOf_108 rfl ?_
          refine go_goto 114 dX8_chanceOf_110 (by decide) ?_
          refine go_lv [0, 1, 2, 3, 5] rfl ?_
          exact k_X8_chanceOf_j114 h_this hK (fun _ _ _ _ _ _ h => ih _ _ _ _ _ _ h) h
def w_X8_chanceOf (this : Nat) (x1 : Int32) (x2 : Int32) (x3 : Int32) (μ : gk_St) (Q : Int64 → gk_St → Prop) : Prop := w_X8_asTold this μ (fun m1 => (∃ n10 : Nat, w_X8_chanceOf_l10 Q (fun y18 y19 m20 => w_X8_lowest y19 ((1 : Int64) <<< ((((4 : Int32) * (m20 this 12)) : Int32).toInt64 &&& 63)) y18 m20 (fun r22 m21 => Q r22 m21)) this n10 x1 x2 x3 0 0 m1))
set_option maxRecDepth 100000 in
set_option maxHeartbeats 4000000 in
theorem k_X8_chanceOf {this : Nat} {x1 : Int32} {x2 : Int32} {x3 : Int32} {μ : gk_St} {Q : Int64 → gk_St → Prop} (h_this : gk_isO this 8) (h : w_X8_chanceOf this x1 x2 x3 μ Q) : gk_CT yX8_chanceOf cX8_chanceOf 10 (some .long) 7 [.ref this, .int x1, .int x2, .int x3] μ (gk_Ql Q) := by
  unfold w_X8_chanceOf at h
  refine gk_enter (by decide) (Nat.le_of_ble_eq_true rfl) ?_
  show Go RX8 cX8_chanceOf 10 (some .long) 7 0 [(0, .ref this), (1, .int x1), (2, .int x2), (3, .int x3)] [] μ (gk_Ql Q)
  refine go_aload_n 0 dX8_chanceOf_0 rfl rfl ?_
  refine go_callV (ci := 8) (d' := 6) [] dX8_chanceOf_1 cw_RX8_244 ki_X8_asTold ks_X8_asTold rfl (by decide) h_this rfl (Nat.le_of_ble_eq_true rfl) (by decide) (k_X8_asTold h_this h) (gk_kv (fun m1 h => ?_))
  refine go_lconst (v := 0) dX8_chanceOf_4 (by decide) ?_
  refine go_lstore [(4, .long 0), (0, .ref this), (1, .int x1), (2, .int x2), (3, .int x3)] dX8_chanceOf_5 (by decide) rfl ?_
  refine go_iconst (v := 0) dX8_chanceOf_7 (by decide) ?_
  refine go_istore [(6, .int 0), (4, .long 0), (0, .ref this), (1, .int x1), (2, .int x2), (3, .int x3)] dX8_chanceOf_8 (by decide) rfl ?_
  refine go_lv [2, 3, 4, 5, 1, 0] rfl ?_
  obtain ⟨n10, h⟩ := h
  refine k_X8_chanceOf_l10 h_this (fun y18 y19 m20 h => ?_) n10 _ _ _ _ _ _ h
  refine go_lload 2 dX8_chanceOf_123 rfl ?_
  refine go_lconst (v := 1) dX8_chanceOf_125 (by decide) ?_
  refine go_iconst (v := 4) dX8_chanceOf_126 (by decide) ?_
  refine go_aload_n 0 dX8_chanceOf_127 rfl rfl ?_
  refine go_getI dX8_chanceOf_128 fl_RX8_179 h_this (nf_8_12 h_this) ?_
  refine go_imul dX8_chanceOf_131 ?_
  refine go_lshl dX8_chanceOf_132 ?_
  refine go_iload_n 1 dX8_chanceOf_133 rfl rfl ?_
  refine go_callS (d' := 0) [.long y19, .long ((1 : Int64) <<< ((((4 : Int32) * (m20 this 12)) : Int32).toInt64 &&& 63)), .int y18] dX8_chanceOf_134 cw_RX8_329 kt_X8_lowest rfl (Nat.le_of_ble_eq_true rfl) (by decide) (k_X8_lowest h) (gk_kl (fun r22 m21 h => ?_))
  exact go_lret dX8_chanceOf_137 ⟨_, rfl, h⟩
def w_X8_chance_j34 (Q : Int64 → gk_St → Prop) (μ : gk_St) : Prop := w_X8_no (-2) μ (fun r4 m3 => Q r4 m3)
set_option maxRecDepth 100000 in
set_option maxHeartbeats 4000000 in
theorem k_X8_chance_j34 {Q : Int64 → gk_St → Prop} {μ : gk_St} (h : w_X8_chance_j34 Q  μ) : Go RX8 cX8_chance 4 (some .long) 8 34 [] [] μ (gk_Ql Q) := by
  unfold w_X8_chance_j34 at h
  refine go_bipush (v := (-2)) dX8_chance_34 (by decide) ?_
  refine go_callS (d' := 0) [.int (-2)] dX8_chance_36 cw_RX8_337 kt_X8_no rfl (Nat.le_of_ble_eq_true rfl) (by decide) (k_X8_no h) (gk_kl (fun r4 m3 h => ?_))
  exact go_lret dX8_chance_39 ⟨_, rfl, h⟩
def w_X8_chance (this : Nat) (x1 : Int32) (x2 : Int32) (x3 : Int32) (μ : gk_St) (Q : Int64 → gk_St → Prop) : Prop := w_X8_in x1 0 16 μ (fun r2 m1 => (if r2 = 0 then w_X8_chance_j34 Q  m1 else w_X8_isMoment x2 m1 (fun r6 m5 => (if r6 = 0 then w_X8_chance_j34 Q  m5 else w_X8_isTwo x3 m5 (fun r8 m7 => (if r8 = 0 then w_X8_chance_j34 Q  m7 else w_X8_chanceOf this x1 x2 x3 m7 (fun r10 m9 => Q r10 m9)))))))
set_option maxRecDepth 100000 in
set_option maxHeartbeats 4000000 in
theorem k_X8_chance {this : Nat} {x1 : Int32} {x2 : Int32} {x3 : Int32} {μ : gk_St} {Q : Int64 → gk_St → Prop} (h_this : gk_isO this 8) (h : w_X8_chance this x1 x2 x3 μ Q) : gk_CT yX8_chance cX8_chance 4 (some .long) 8 [.ref this, .int x1, .int x2, .int x3] μ (gk_Ql Q) := by
  unfold w_X8_chance at h
  refine gk_enter (by decide) (Nat.le_of_ble_eq_true rfl) ?_
  show Go RX8 cX8_chance 4 (some .long) 8 0 [(0, .ref this), (1, .int x1), (2, .int x2), (3, .int x3)] [] μ (gk_Ql Q)
  refine go_iload_n 1 dX8_chance_0 rfl rfl ?_
  refine go_iconst (v := 0) dX8_chance_1 (by decide) ?_
  refine go_bipush (v := 16) dX8_chance_2 (by decide) ?_
  refine go_callS (d' := 0) [.int x1, .int 0, .int 16] dX8_chance_4 cw_RX8_112 kt_X8_in rfl (Nat.le_of_ble_eq_true rfl) (by decide) (k_X8_in h) (gk_ki (fun r2 m1 h => ?_))
  refine go_if_eq 34 dX8_chance_7 (by decide) (fun c => ?_) (fun c => ?_)
  · replace h := gk_ip h c
    refine go_lv [] rfl ?_
    exact k_X8_chance_j34 h
  · replace h := gk_in h c
    refine go_iload_n 2 dX8_chance_10 rfl rfl ?_
    refine go_callS (d' := 1) [.int x2] dX8_chance_11 cw_RX8_132 kt_X8_isMoment rfl (Nat.le_of_ble_eq_true rfl) (by decide) (k_X8_isMoment h) (gk_ki (fun r6 m5 h => ?_))
    refine go_if_eq 34 dX8_chance_14 (by decide) (fun c => ?_) (fun c => ?_)
    · replace h := gk_ip h c
      refine go_lv [] rfl ?_
      exact k_X8_chance_j34 h
    · replace h := gk_in h c
      refine go_iload_n 3 dX8_chance_17 rfl rfl ?_
      refine go_callS (d' := 1) [.int x3] dX8_chance_18 cw_RX8_253 kt_X8_isTwo rfl (Nat.le_of_ble_eq_true rfl) (by decide) (k_X8_isTwo h) (gk_ki (fun r8 m7 h => ?_))
      refine go_if_eq 34 dX8_chance_21 (by decide) (fun c => ?_) (fun c => ?_)
      · replace h := gk_ip h c
        refine go_lv [] rfl ?_
        exact k_X8_chance_j34 h
      · replace h := gk_in h c
        refine go_aload_n 0 dX8_chance_24 rfl rfl ?_
        refine go_iload_n 1 dX8_chance_25 rfl rfl ?_
        refine go_iload_n 2 dX8_chance_26 rfl rfl ?_
        refine go_iload_n 3 dX8_chance_27 rfl rfl ?_
        refine go_callV (ci := 8) (d' := 7) [.int x1, .int x2, .int x3] dX8_chance_28 cw_RX8_333 ki_X8_chanceOf ks_X8_chanceOf rfl (by decide) h_this rfl (Nat.le_of_ble_eq_true rfl) (by decide) (k_X8_chanceOf h_this h) (gk_kl (fun r10 m9 h => ?_))
        refine go_goto 39 dX8_chance_31 (by decide) ?_
        exact go_lret dX8_chance_39 ⟨_, rfl, h⟩
def w_X8_yearsOf_j38 (Q : Int32 → gk_St → Prop) (K : Int32 → gk_St → Prop) (C : Int32 → Int32 → Int32 → Int32 → gk_St → Prop) (this : Nat) (x2 : Int32) (x3 : Int32) (x5 : Int32) (s0 : Int32) (μ : gk_St) : Prop := (if x2 ≤ x5 then (vp_in x5 (gk_ln (gk_rf this 16)) ∧ (∀ m2 : gk_St, m2 = gk_up μ (gk_rf this 16) x5.toNatClampNeg 1 → (∀ v3 : Int32, v3 = x5 + 1 → C x2 x3 s0 v3 m2))) else (vp_in x5 (gk_ln (gk_rf this 16)) ∧ (∀ m4 : gk_St, m4 = gk_up μ (gk_rf this 16) x5.toNatClampNeg (gk_md (gk_us s0 16) 4) → (∀ v5 : Int32, v5 = x5 + 1 → C x2 x3 s0 v5 m4))))
set_option maxRecDepth 100000 in
set_option maxHeartbeats 4000000 in
theorem k_X8_yearsOf_j38 {Q : Int32 → gk_St → Prop} {K : Int32 → gk_St → Prop} {C : Int32 → Int32 → Int32 → Int32 → gk_St → Prop} {this : Nat} {x2 : Int32} {x3 : Int32} {x5 : Int32} {s0 : Int32} {μ : gk_St} (h_this : gk_isO this 8) (hK : ∀ (e3 : Int32) (em : gk_St), K e3 em → Go RX8 cX8_yearsOf 6 (some .int) 7 70 [(0, .ref this), (3, .int e3)] [] em (gk_Qi Q)) (hC : ∀ (c2 : Int32) (c3 : Int32) (c4 : Int32) (c5 : Int32) (cm : gk_St), C c2 c3 c4 c5 cm → Go RX8 cX8_yearsOf 6 (some .int) 7 10 [(0, .ref this), (2, .int c2), (3, .int c3), (4, .int c4), (5, .int c5)] [] cm (gk_Qi Q)) (h : w_X8_yearsOf_j38 Q K C this x2 x3 x5 s0 μ) : Go RX8 cX8_yearsOf 6 (some .int) 7 38 [(0, .ref this), (2, .int x2), (3, .int x3), (5, .int x5)] [.int s0] μ (gk_Qi Q) := by
  unfold w_X8_yearsOf_j38 at h
  refine go_istore [(4, .int s0), (0, .ref this), (2, .int x2), (3, .int x3), (5, .int x5)] dX8_yearsOf_38 (by decide) rfl ?_
  refine go_aload_n 1 dX8_yearsOf_40 rfl rfl ?_
  refine go_getR dX8_yearsOf_41 fl_RX8_46 h_this (rr_8_16 h_this) ?_
  refine go_iload 4 dX8_yearsOf_44 rfl ?_
  refine go_iload 4 dX8_yearsOf_46 rfl ?_
  refine go_iload_n 2 dX8_yearsOf_48 rfl rfl ?_
  refine go_icmp_ge 62 dX8_yearsOf_49 (by decide) (fun c => ?_) (fun c => ?_)
  · replace h := gk_ip h c
    refine go_iconst (v := 1) dX8_yearsOf_62 (by decide) ?_
    refine gb_iastore dX8_yearsOf_63 (rt_8_16 h_this) h.1 (fun m2 e => ?_)
    replace h := h.2 m2 e
    refine gb_iinc (w := 1) 4 (fun v3 => [(5, .int v3), (4, .int s0), (0, .ref this), (2, .int x2), (3, .int x3)]) dX8_yearsOf_64 rfl (by decide) (by decide) (fun _ => rfl) (fun v3 e => ?_)
    replace h := h v3 e
    refine go_goto 10 dX8_yearsOf_67 (by decide) ?_
    refine go_lv [2, 3, 4, 1, 0] rfl ?_
    exact hC _ _ _ _ _ h
  · replace h := gk_in h c
    refine go_iload 0 dX8_yearsOf_52 rfl ?_
    refine go_bipush (v := 16) dX8_yearsOf_54 (by decide) ?_
    refine gb_iushr dX8_yearsOf_56 ?_
    refine go_iconst (v := 4) dX8_yearsOf_57 (by decide) ?_
    refine gb_irem dX8_yearsOf_58 (by decide) ?_
    refine go_goto 63 dX8_yearsOf_59 (by decide) ?_
    refine gb_iastore dX8_yearsOf_63 (rt_8_16 h_this) h.1 (fun m4 e => ?_)
    replace h := h.2 m4 e
    refine gb_iinc (w := 1) 4 (fun v5 => [(5, .int v5), (4, .int s0), (0, .ref this), (2, .int x2), (3, .int x3)]) dX8_yearsOf_64 rfl (by decide) (by decide) (fun _ => rfl) (fun v5 e => ?_)
    replace h := h v5 e
    refine go_goto 10 dX8_yearsOf_67 (by decide) ?_
    refine go_lv [2, 3, 4, 1, 0] rfl ?_
    exact hC _ _ _ _ _ h
def w_X8_yearsOf_l10 (Q : Int32 → gk_St → Prop) (K : Int32 → gk_St → Prop) (this : Nat) : Nat → Int32 → Int32 → Int32 → Int32 → gk_St → Prop
  | 0, _, _, _, _, _ => False
  | n + 1, x2, x3, x4, x5, μ => (if 24 ≤ x5 then K x3 μ else (if x2 ≤ x5 then w_X8_yearsOf_j38 Q K (fun c_x2 c_x3 c_x4 c_x5 cm => w_X8_yearsOf_l10 Q K this n c_x2 c_x3 c_x4 c_x5 cm) this x2 x3 x5 x4 μ else w_X8_yearsOf_j38 Q K (fun c_x2 c_x3 c_x4 c_x5 cm => w_X8_yearsOf_l10 Q K this n c_x2 c_x3 c_x4 c_x5 cm) this x2 x3 x5 (((1103515245 : Int32) * x4) + 12345) μ))
set_option maxRecDepth 100000 in
set_option maxHeartbeats 4000000 in
theorem k_X8_yearsOf_l10 {Q : Int32 → gk_St → Prop} {K : Int32 → gk_St → Prop} {this : Nat} (h_this : gk_isO this 8) (hK : ∀ (e3 : Int32) (em : gk_St), K e3 em → Go RX8 cX8_yearsOf 6 (some .int) 7 70 [(0, .ref this), (3, .int e3)] [] em (gk_Qi Q)) : ∀ (n : Nat) (x2 : Int32) (x3 : Int32) (x4 : Int32) (x5 : Int32) (μ : gk_St), w_X8_yearsOf_l10 Q K this n x2 x3 x4 x5 μ → Go RX8 cX8_yearsOf 6 (some .int) 7 10 [(0, .ref this), (2, .int x2), (3, .int x3), (4, .int x4), (5, .int x5)] [] μ (gk_Qi Q) := by
  intro n
  induction n with
  | zero =>
    intro x2 x3 x4 x5 μ h
    exact False.elim h
  | succ n ih =>
    intro x2 x3 x4 x5 μ h
    unfold w_X8_yearsOf_l10 at h
    refine go_iload 4 dX8_yearsOf_10 rfl ?_
    refine go_bipush (v := 24) dX8_yearsOf_12 (by decide) ?_
    refine go_icmp_ge 70 dX8_yearsOf_14 (by decide) (fun c => ?_) (fun c => ?_)
    · replace h := gk_ip h c
      refine go_lv [0, 2] rfl ?_
      exact hK _ _ h
    · replace h := gk_in h c
      refine go_iload 4 dX8_yearsOf_17 rfl ?_
      refine go_iload_n 1 dX8_yearsOf_19 rfl rfl ?_
      refine go_icmp_ge 36 dX8_yearsOf_20 (by decide) (fun c => ?_) (fun c => ?_)
      · replace h := gk_ip h c
        refine go_iload 3 dX8_yearsOf_36 rfl ?_
        refine go_lv [0, 1, 2, 4] rfl ?_
        exact k_X8_yearsOf_j38 h_this hK (fun _ _ _ _ _ h => ih _ _ _ _ _ h) h
      · replace h := gk_in h c
        refine go_ldc_w dX8_yearsOf_23 ct_RX8_341 ?_
        refine go_iload 3 dX8_yearsOf_26 rfl ?_
        refine go_imul dX8_yearsOf_28 ?_
        refine go_sipush (v := 12345) dX8_yearsOf_29 (by decide) ?_
        refine go_iadd dX8_yearsOf_32 ?_
        refine go_goto 38 dX8_yearsOf_33 (by decide) ?_
        refine go_lv [0, 1, 2, 4] rfl ?_
        exact k_X8_yearsOf_j38 h_this hK (fun _ _ _ _ _ h => ih _ _ _ _ _ h) h
def w_X8_yearsOf (this : Nat) (x1 : Int32) (x2 : Int32) (x3 : Int32) (μ : gk_St) (Q : Int32 → gk_St → Prop) : Prop := w_X8_asTold this μ (fun m1 => (∃ n10 : Nat, w_X8_yearsOf_l10 Q (fun y6 m7 => w_X8_runs this m7 (fun m8 => (if y6 = 0 then w_X8_bothOver this m8 (fun r10 m9 => Q r10 m9) else Q (m8 this 28) m8))) this n10 x2 x3 x1 0 m1))
set_option maxRecDepth 100000 in
set_option maxHeartbeats 4000000 in
theorem k_X8_yearsOf {this : Nat} {x1 : Int32} {x2 : Int32} {x3 : Int32} {μ : gk_St} {Q : Int32 → gk_St → Prop} (h_this : gk_isO this 8) (h : w_X8_yearsOf this x1 x2 x3 μ Q) : gk_CT yX8_yearsOf cX8_yearsOf 6 (some .int) 7 [.ref this, .int x1, .int x2, .int x3] μ (gk_Qi Q) := by
  unfold w_X8_yearsOf at h
  refine gk_enter (by decide) (Nat.le_of_ble_eq_true rfl) ?_
  show Go RX8 cX8_yearsOf 6 (some .int) 7 0 [(0, .ref this), (1, .int x1), (2, .int x2), (3, .int x3)] [] μ (gk_Qi Q)
  refine go_aload_n 0 dX8_yearsOf_0 rfl rfl ?_
  refine go_callV (ci := 8) (d' := 6) [] dX8_yearsOf_1 cw_RX8_244 ki_X8_asTold ks_X8_asTold rfl (by decide) h_this rfl (Nat.le_of_ble_eq_true rfl) (by decide) (k_X8_asTold h_this h) (gk_kv (fun m1 h => ?_))
  refine go_iload_n 1 dX8_yearsOf_4 rfl rfl ?_
  refine go_istore [(4, .int x1), (0, .ref this), (1, .int x1), (2, .int x2), (3, .int x3)] dX8_yearsOf_5 (by decide) rfl ?_
  refine go_iconst (v := 0) dX8_yearsOf_7 (by decide) ?_
  refine go_istore [(5, .int 0), (4, .int x1), (0, .ref this), (1, .int x1), (2, .int x2), (3, .int x3)] dX8_yearsOf_8 (by decide) rfl ?_
  refine go_lv [2, 4, 5, 1, 0] rfl ?_
  obtain ⟨n10, h⟩ := h
  refine k_X8_yearsOf_l10 h_this (fun y6 m7 h => ?_) n10 _ _ _ _ _ h
  refine go_aload_n 0 dX8_yearsOf_70 rfl rfl ?_
  refine go_callV (ci := 8) (d' := 3) [] dX8_yearsOf_71 cw_RX8_247 ki_X8_runs ks_X8_runs rfl (by decide) h_this rfl (Nat.le_of_ble_eq_true rfl) (by decide) (k_X8_runs h_this h) (gk_kv (fun m8 h => ?_))
  refine go_iload_n 1 dX8_yearsOf_74 rfl rfl ?_
  refine go_if_ne 85 dX8_yearsOf_75 (by decide) (fun c => ?_) (fun c => ?_)
  · replace h := gk_in h c
    refine go_aload_n 0 dX8_yearsOf_85 rfl rfl ?_
    refine go_getI dX8_yearsOf_86 fl_RX8_238 h_this (nf_8_28 h_this) ?_
    exact go_iret dX8_yearsOf_89 ⟨_, rfl, h⟩
  · replace h := gk_ip h c
    refine go_aload_n 0 dX8_yearsOf_78 rfl rfl ?_
    refine go_callV (ci := 8) (d' := 0) [] dX8_yearsOf_79 cw_RX8_289 ki_X8_bothOver ks_X8_bothOver rfl (by decide) h_this rfl (Nat.le_of_ble_eq_true rfl) (by decide) (k_X8_bothOver h_this h) (gk_ki (fun r10 m9 h => ?_))
    refine go_goto 89 dX8_yearsOf_82 (by decide) ?_
    exact go_iret dX8_yearsOf_89 ⟨_, rfl, h⟩
def w_X8_years (this : Nat) (x1 : Int32) (x2 : Int32) (x3 : Int32) (μ : gk_St) (Q : Int32 → gk_St → Prop) : Prop := w_X8_in x2 0 24 μ (fun r2 m1 => (if r2 = 0 then Q (-2) m1 else w_X8_isTwo x3 m1 (fun r4 m3 => (if r4 = 0 then Q (-2) m3 else w_X8_yearsOf this x1 x2 x3 m3 (fun r6 m5 => Q r6 m5)))))
set_option maxRecDepth 100000 in
set_option maxHeartbeats 4000000 in
theorem k_X8_years {this : Nat} {x1 : Int32} {x2 : Int32} {x3 : Int32} {μ : gk_St} {Q : Int32 → gk_St → Prop} (h_this : gk_isO this 8) (h : w_X8_years this x1 x2 x3 μ Q) : gk_CT yX8_years cX8_years 4 (some .int) 8 [.ref this, .int x1, .int x2, .int x3] μ (gk_Qi Q) := by
  unfold w_X8_years at h
  refine gk_enter (by decide) (Nat.le_of_ble_eq_true rfl) ?_
  show Go RX8 cX8_years 4 (some .int) 8 0 [(0, .ref this), (1, .int x1), (2, .int x2), (3, .int x3)] [] μ (gk_Qi Q)
  refine go_iload_n 2 dX8_years_0 rfl rfl ?_
  refine go_iconst (v := 0) dX8_years_1 (by decide) ?_
  refine go_bipush (v := 24) dX8_years_2 (by decide) ?_
  refine go_callS (d' := 0) [.int x2, .int 0, .int 24] dX8_years_4 cw_RX8_112 kt_X8_in rfl (Nat.le_of_ble_eq_true rfl) (by decide) (k_X8_in h) (gk_ki (fun r2 m1 h => ?_))
  refine go_if_eq 27 dX8_years_7 (by decide) (fun c => ?_) (fun c => ?_)
  · replace h := gk_ip h c
    refine go_bipush (v := (-2)) dX8_years_27 (by decide) ?_
    exact go_iret dX8_years_29 ⟨_, rfl, h⟩
  · replace h := gk_in h c
    refine go_iload_n 3 dX8_years_10 rfl rfl ?_
    refine go_callS (d' := 1) [.int x3] dX8_years_11 cw_RX8_253 kt_X8_isTwo rfl (Nat.le_of_ble_eq_true rfl) (by decide) (k_X8_isTwo h) (gk_ki (fun r4 m3 h => ?_))
    refine go_if_eq 27 dX8_years_14 (by decide) (fun c => ?_) (fun c => ?_)
    · replace h := gk_ip h c
      refine go_bipush (v := (-2)) dX8_years_27 (by decide) ?_
      exact go_iret dX8_years_29 ⟨_, rfl, h⟩
    · replace h := gk_in h c
      refine go_aload_n 0 dX8_years_17 rfl rfl ?_
      refine go_iload_n 1 dX8_years_18 rfl rfl ?_
      refine go_iload_n 2 dX8_years_19 rfl rfl ?_
      refine go_iload_n 3 dX8_years_20 rfl rfl ?_
      refine go_callV (ci := 8) (d' := 7) [.int x1, .int x2, .int x3] dX8_years_21 cw_RX8_342 ki_X8_yearsOf ks_X8_yearsOf rfl (by decide) h_this rfl (Nat.le_of_ble_eq_true rfl) (by decide) (k_X8_yearsOf h_this h) (gk_ki (fun r6 m5 h => ?_))
      refine go_goto 29 dX8_years_24 (by decide) ?_
      exact go_iret dX8_years_29 ⟨_, rfl, h⟩
def w_X8_sheet_l59 (Q : Int32 → gk_St → Prop) (K : Int32 → gk_St → Prop) (this : Nat) : Nat → Int32 → Int32 → Int32 → gk_St → Prop
  | 0, _, _, _, _ => False
  | n + 1, x1, x3, x4, μ => (if 60 ≤ x4 then K x3 μ else (vp_in (((60 : Int32) * x1) + x4) (gk_ln (gk_rf this 45)) ∧ (∀ m8 : gk_St, m8 = gk_up μ (gk_rf this 45) (Int32.toNatClampNeg (((60 : Int32) * x1) + x4)) 0 → (∀ v9 : Int32, v9 = x4 + 1 → w_X8_sheet_l59 Q K this n x1 x3 v9 m8))))
set_option maxRecDepth 100000 in
set_option maxHeartbeats 4000000 in
theorem k_X8_sheet_l59 {Q : Int32 → gk_St → Prop} {K : Int32 → gk_St → Prop} {this : Nat} (h_this : gk_isO this 8) (hK : ∀ (e3 : Int32) (em : gk_St), K e3 em → Go RX8 cX8_sheet 5 (some .int) 2 85 [(3, .int e3)] [] em (gk_Qi Q)) : ∀ (n : Nat) (x1 : Int32) (x3 : Int32) (x4 : Int32) (μ : gk_St), w_X8_sheet_l59 Q K this n x1 x3 x4 μ → Go RX8 cX8_sheet 5 (some .int) 2 59 [(0, .ref this), (1, .int x1), (3, .int x3), (4, .int x4)] [] μ (gk_Qi Q) := by
  intro n
  induction n with
  | zero =>
    intro x1 x3 x4 μ h
    exact False.elim h
  | succ n ih =>
    intro x1 x3 x4 μ h
    unfold w_X8_sheet_l59 at h
    refine go_iload 3 dX8_sheet_59 rfl ?_
    refine go_bipush (v := 60) dX8_sheet_61 (by decide) ?_
    refine go_icmp_ge 85 dX8_sheet_63 (by decide) (fun c => ?_) (fun c => ?_)
    · replace h := gk_ip h c
      refine go_lv [2] rfl ?_
      exact hK _ _ h
    · replace h := gk_in h c
      refine go_aload_n 0 dX8_sheet_66 rfl rfl ?_
      refine go_getR dX8_sheet_67 fl_RX8_104 h_this (rr_8_45 h_this) ?_
      refine go_bipush (v := 60) dX8_sheet_70 (by decide) ?_
      refine go_iload_n 1 dX8_sheet_72 rfl rfl ?_
      refine go_imul dX8_sheet_73 ?_
      refine go_iload 3 dX8_sheet_74 rfl ?_
      refine go_iadd dX8_sheet_76 ?_
      refine go_iconst (v := 0) dX8_sheet_77 (by decide) ?_
      refine gb_iastore dX8_sheet_78 (rt_8_45 h_this) h.1 (fun m8 e => ?_)
      replace h := h.2 m8 e
      refine gb_iinc (w := 1) 3 (fun v9 => [(4, .int v9), (0, .ref this), (1, .int x1), (3, .int x3)]) dX8_sheet_79 rfl (by decide) (by decide) (fun _ => rfl) (fun v9 e => ?_)
      replace h := h v9 e
      refine go_goto 59 dX8_sheet_82 (by decide) ?_
      refine go_lv [1, 2, 3, 0] rfl ?_
      exact ih _ _ _ _ h
def w_X8_sheet (this : Nat) (x1 : Int32) (x2 : Int32) (x3 : Int32) (μ : gk_St) (Q : Int32 → gk_St → Prop) : Prop := w_X8_isSheet x1 μ (fun r2 m1 => (if r2 = 0 then Q (-2) m1 else w_X8_in x2 0 2 m1 (fun r4 m3 => (if r4 = 0 then Q (-2) m3 else (if x3 ≤ 60 then (if 0 ≤ x3 then (vp_in x1 (gk_ln (gk_rf this 42)) ∧ (∀ m5 : gk_St, m5 = gk_up m3 (gk_rf this 42) x1.toNatClampNeg 1 → (vp_in x1 (gk_ln (gk_rf this 43)) ∧ (∀ m6 : gk_St, m6 = gk_up m5 (gk_rf this 43) x1.toNatClampNeg x2 → (vp_in x1 (gk_ln (gk_rf this 44)) ∧ (∀ m7 : gk_St, m7 = gk_up m6 (gk_rf this 44) x1.toNatClampNeg x3 → (∃ n59 : Nat, w_X8_sheet_l59 Q (fun y10 m11 => Q y10 m11) this n59 x1 x3 0 m7))))))) else w_X8_meets this 5 m3 (fun r13 m12 => Q r13 m12)) else Q (-2) m3)))))
set_option maxRecDepth 100000 in
set_option maxHeartbeats 4000000 in
theorem k_X8_sheet {this : Nat} {x1 : Int32} {x2 : Int32} {x3 : Int32} {μ : gk_St} {Q : Int32 → gk_St → Prop} (h_this : gk_isO this 8) (h : w_X8_sheet this x1 x2 x3 μ Q) : gk_CT yX8_sheet cX8_sheet 5 (some .int) 2 [.ref this, .int x1, .int x2, .int x3] μ (gk_Qi Q) := by
  unfold w_X8_sheet at h
  refine gk_enter (by decide) (Nat.le_of_ble_eq_true rfl) ?_
  show Go RX8 cX8_sheet 5 (some .int) 2 0 [(0, .ref this), (1, .int x1), (2, .int x2), (3, .int x3)] [] μ (gk_Qi Q)
  refine go_iload_n 1 dX8_sheet_0 rfl rfl ?_
  refine go_callS (d' := 1) [.int x1] dX8_sheet_1 cw_RX8_182 kt_X8_isSheet rfl (Nat.le_of_ble_eq_true rfl) (by decide) (k_X8_isSheet h) (gk_ki (fun r2 m1 h => ?_))
  refine go_if_eq 22 dX8_sheet_4 (by decide) (fun c => ?_) (fun c => ?_)
  · replace h := gk_ip h c
    refine go_bipush (v := (-2)) dX8_sheet_22 (by decide) ?_
    exact go_iret dX8_sheet_24 ⟨_, rfl, h⟩
  · replace h := gk_in h c
    refine go_iload_n 2 dX8_sheet_7 rfl rfl ?_
    refine go_iconst (v := 0) dX8_sheet_8 (by decide) ?_
    refine go_iconst (v := 2) dX8_sheet_9 (by decide) ?_
    refine go_callS (d' := 0) [.int x2, .int 0, .int 2] dX8_sheet_10 cw_RX8_112 kt_X8_in rfl (Nat.le_of_ble_eq_true rfl) (by decide) (k_X8_in h) (gk_ki (fun r4 m3 h => ?_))
    refine go_if_eq 22 dX8_sheet_13 (by decide) (fun c => ?_) (fun c => ?_)
    · replace h := gk_ip h c
      refine go_bipush (v := (-2)) dX8_sheet_22 (by decide) ?_
      exact go_iret dX8_sheet_24 ⟨_, rfl, h⟩
    · replace h := gk_in h c
      refine go_iload_n 3 dX8_sheet_16 rfl rfl ?_
      refine go_bipush (v := 60) dX8_sheet_17 (by decide) ?_
      refine go_icmp_le 25 dX8_sheet_19 (by decide) (fun c => ?_) (fun c => ?_)
      · replace h := gk_ip h c
        refine go_iload_n 3 dX8_sheet_25 rfl rfl ?_
        refine go_if_ge 35 dX8_sheet_26 (by decide) (fun c => ?_) (fun c => ?_)
        · replace h := gk_ip h c
          refine go_aload_n 0 dX8_sheet_35 rfl rfl ?_
          refine go_getR dX8_sheet_36 fl_RX8_94 h_this (rr_8_42 h_this) ?_
          refine go_iload_n 1 dX8_sheet_39 rfl rfl ?_
          refine go_iconst (v := 1) dX8_sheet_40 (by decide) ?_
          refine gb_bastore dX8_sheet_41 (rt_8_42 h_this) h.1 (Or.inr rfl) (fun m5 e => ?_)
          replace h := h.2 m5 e
          refine go_aload_n 0 dX8_sheet_42 rfl rfl ?_
          refine go_getR dX8_sheet_43 fl_RX8_98 h_this (rr_8_43 h_this) ?_
          refine go_iload_n 1 dX8_sheet_46 rfl rfl ?_
          refine go_iload_n 2 dX8_sheet_47 rfl rfl ?_
          refine gb_iastore dX8_sheet_48 (rt_8_43 h_this) h.1 (fun m6 e => ?_)
          replace h := h.2 m6 e
          refine go_aload_n 0 dX8_sheet_49 rfl rfl ?_
          refine go_getR dX8_sheet_50 fl_RX8_101 h_this (rr_8_44 h_this) ?_
          refine go_iload_n 1 dX8_sheet_53 rfl rfl ?_
          refine go_iload_n 3 dX8_sheet_54 rfl rfl ?_
          refine gb_iastore dX8_sheet_55 (rt_8_44 h_this) h.1 (fun m7 e => ?_)
          replace h := h.2 m7 e
          refine go_iconst (v := 0) dX8_sheet_56 (by decide) ?_
          refine go_istore [(4, .int 0), (0, .ref this), (1, .int x1), (2, .int x2), (3, .int x3)] dX8_sheet_57 (by decide) rfl ?_
          refine go_lv [1, 2, 4, 0] rfl ?_
          obtain ⟨n59, h⟩ := h
          refine k_X8_sheet_l59 h_this (fun y10 m11 h => ?_) n59 _ _ _ _ h
          refine go_iload_n 0 dX8_sheet_85 rfl rfl ?_
          exact go_iret dX8_sheet_86 ⟨_, rfl, h⟩
        · replace h := gk_in h c
          refine go_aload_n 0 dX8_sheet_29 rfl rfl ?_
          refine go_iconst (v := 5) dX8_sheet_30 (by decide) ?_
          refine go_callV (ci := 8) (d' := 0) [.int 5] dX8_sheet_31 cw_RX8_185 ki_X8_meets ks_X8_meets rfl (by decide) h_this rfl (Nat.le_of_ble_eq_true rfl) (by decide) (k_X8_meets h_this h) (gk_ki (fun r13 m12 h => ?_))
          exact go_iret dX8_sheet_34 ⟨_, rfl, h⟩
      · replace h := gk_in h c
        refine go_bipush (v := (-2)) dX8_sheet_22 (by decide) ?_
        exact go_iret dX8_sheet_24 ⟨_, rfl, h⟩
def w_X8_lose (this : Nat) (x1 : Int32) (μ : gk_St) (Q : Int32 → gk_St → Prop) : Prop := w_X8_isSheet x1 μ (fun r2 m1 => (if r2 = 0 then Q (-2) m1 else (vp_in x1 (gk_ln (gk_rf this 42)) ∧ (if (m1 (gk_rf this 42) x1.toNatClampNeg) = 0 then w_X8_meets this 1 m1 (fun r5 m4 => Q r5 m4) else (vp_in x1 (gk_ln (gk_rf this 42)) ∧ (∀ m3 : gk_St, m3 = gk_up m1 (gk_rf this 42) x1.toNatClampNeg 0 → (vp_in x1 (gk_ln (gk_rf this 44)) ∧ Q (m3 (gk_rf this 44) x1.toNatClampNeg) m3)))))))
set_option maxRecDepth 100000 in
set_option maxHeartbeats 4000000 in
theorem k_X8_lose {this : Nat} {x1 : Int32} {μ : gk_St} {Q : Int32 → gk_St → Prop} (h_this : gk_isO this 8) (h : w_X8_lose this x1 μ Q) : gk_CT yX8_lose cX8_lose 2 (some .int) 2 [.ref this, .int x1] μ (gk_Qi Q) := by
  unfold w_X8_lose at h
  refine gk_enter (by decide) (Nat.le_of_ble_eq_true rfl) ?_
  show Go RX8 cX8_lose 2 (some .int) 2 0 [(0, .ref this), (1, .int x1)] [] μ (gk_Qi Q)
  refine go_iload_n 1 dX8_lose_0 rfl rfl ?_
  refine go_callS (d' := 1) [.int x1] dX8_lose_1 cw_RX8_182 kt_X8_isSheet rfl (Nat.le_of_ble_eq_true rfl) (by decide) (k_X8_isSheet h) (gk_ki (fun r2 m1 h => ?_))
  refine go_if_ne 10 dX8_lose_4 (by decide) (fun c => ?_) (fun c => ?_)
  · replace h := gk_in h c
    refine go_aload_n 0 dX8_lose_10 rfl rfl ?_
    refine go_getR dX8_lose_11 fl_RX8_94 h_this (rr_8_42 h_this) ?_
    refine go_iload_n 1 dX8_lose_14 rfl rfl ?_
    refine go_baload dX8_lose_15 (rt_8_42 h_this) h.1 ?_
    replace h := h.2
    refine go_if_ne 25 dX8_lose_16 (by decide) (fun c => ?_) (fun c => ?_)
    · replace h := gk_in h c
      refine go_aload_n 0 dX8_lose_25 rfl rfl ?_
      refine go_getR dX8_lose_26 fl_RX8_94 h_this (rr_8_42 h_this) ?_
      refine go_iload_n 1 dX8_lose_29 rfl rfl ?_
      refine go_iconst (v := 0) dX8_lose_30 (by decide) ?_
      refine gb_bastore dX8_lose_31 (rt_8_42 h_this) h.1 (Or.inl rfl) (fun m3 e => ?_)
      replace h := h.2 m3 e
      refine go_aload_n 0 dX8_lose_32 rfl rfl ?_
      refine go_getR dX8_lose_33 fl_RX8_101 h_this (rr_8_44 h_this) ?_
      refine go_iload_n 1 dX8_lose_36 rfl rfl ?_
      refine go_iaload dX8_lose_37 (rt_8_44 h_this) h.1 ?_
      replace h := h.2
      exact go_iret dX8_lose_38 ⟨_, rfl, h⟩
    · replace h := gk_ip h c
      refine go_aload_n 0 dX8_lose_19 rfl rfl ?_
      refine go_iconst (v := 1) dX8_lose_20 (by decide) ?_
      refine go_callV (ci := 8) (d' := 0) [.int 1] dX8_lose_21 cw_RX8_185 ki_X8_meets ks_X8_meets rfl (by decide) h_this rfl (Nat.le_of_ble_eq_true rfl) (by decide) (k_X8_meets h_this h) (gk_ki (fun r5 m4 h => ?_))
      exact go_iret dX8_lose_24 ⟨_, rfl, h⟩
  · replace h := gk_ip h c
    refine go_bipush (v := (-2)) dX8_lose_7 (by decide) ?_
    exact go_iret dX8_lose_9 ⟨_, rfl, h⟩
def w_X8_lacks (this : Nat) (x1 : Int32) (x2 : Int32) (x3 : Int32) (μ : gk_St) (Q : Int32 → gk_St → Prop) : Prop := (vp_in x1 (gk_ln (gk_rf this 42)) ∧ (if (μ (gk_rf this 42) x1.toNatClampNeg) = 0 then Q 1 μ else (vp_in x1 (gk_ln (gk_rf this 43)) ∧ (if (μ (gk_rf this 43) x1.toNatClampNeg) = x2 then (vp_in x1 (gk_ln (gk_rf this 44)) ∧ w_X8_in x3 0 ((μ (gk_rf this 44) x1.toNatClampNeg) - 1) μ (fun r2 m1 => (if r2 = 0 then Q 2 m1 else Q 0 m1))) else Q 3 μ))))
set_option maxRecDepth 100000 in
set_option maxHeartbeats 4000000 in
theorem k_X8_lacks {this : Nat} {x1 : Int32} {x2 : Int32} {x3 : Int32} {μ : gk_St} {Q : Int32 → gk_St → Prop} (h_this : gk_isO this 8) (h : w_X8_lacks this x1 x2 x3 μ Q) : gk_CT yX8_lacks cX8_lacks 4 (some .int) 1 [.ref this, .int x1, .int x2, .int x3] μ (gk_Qi Q) := by
  unfold w_X8_lacks at h
  refine gk_enter (by decide) (Nat.le_of_ble_eq_true rfl) ?_
  show Go RX8 cX8_lacks 4 (some .int) 1 0 [(0, .ref this), (1, .int x1), (2, .int x2), (3, .int x3)] [] μ (gk_Qi Q)
  refine go_aload_n 0 dX8_lacks_0 rfl rfl ?_
  refine go_getR dX8_lacks_1 fl_RX8_94 h_this (rr_8_42 h_this) ?_
  refine go_iload_n 1 dX8_lacks_4 rfl rfl ?_
  refine go_baload dX8_lacks_5 (rt_8_42 h_this) h.1 ?_
  replace h := h.2
  refine go_if_ne 13 dX8_lacks_6 (by decide) (fun c => ?_) (fun c => ?_)
  · replace h := gk_in h c
    refine go_aload_n 0 dX8_lacks_13 rfl rfl ?_
    refine go_getR dX8_lacks_14 fl_RX8_98 h_this (rr_8_43 h_this) ?_
    refine go_iload_n 1 dX8_lacks_17 rfl rfl ?_
    refine go_iaload dX8_lacks_18 (rt_8_43 h_this) h.1 ?_
    replace h := h.2
    refine go_iload_n 2 dX8_lacks_19 rfl rfl ?_
    refine go_icmp_eq 27 dX8_lacks_20 (by decide) (fun c => ?_) (fun c => ?_)
    · replace h := gk_ip h c
      refine go_iload_n 3 dX8_lacks_27 rfl rfl ?_
      refine go_iconst (v := 0) dX8_lacks_28 (by decide) ?_
      refine go_aload_n 0 dX8_lacks_29 rfl rfl ?_
      refine go_getR dX8_lacks_30 fl_RX8_101 h_this (rr_8_44 h_this) ?_
      refine go_iload_n 1 dX8_lacks_33 rfl rfl ?_
      refine go_iaload dX8_lacks_34 (rt_8_44 h_this) h.1 ?_
      replace h := h.2
      refine go_iconst (v := 1) dX8_lacks_35 (by decide) ?_
      refine go_isub dX8_lacks_36 ?_
      refine go_callS (d' := 0) [.int x3, .int 0, .int ((μ (gk_rf this 44) x1.toNatClampNeg) - 1)] dX8_lacks_37 cw_RX8_112 kt_X8_in rfl (Nat.le_of_ble_eq_true rfl) (by decide) (k_X8_in h) (gk_ki (fun r2 m1 h => ?_))
      refine go_if_eq 47 dX8_lacks_40 (by decide) (fun c => ?_) (fun c => ?_)
      · replace h := gk_ip h c
        refine go_iconst (v := 2) dX8_lacks_47 (by decide) ?_
        exact go_iret dX8_lacks_48 ⟨_, rfl, h⟩
      · replace h := gk_in h c
        refine go_iconst (v := 0) dX8_lacks_43 (by decide) ?_
        refine go_goto 48 dX8_lacks_44 (by decide) ?_
        exact go_iret dX8_lacks_48 ⟨_, rfl, h⟩
    · replace h := gk_in h c
      refine go_iconst (v := 3) dX8_lacks_23 (by decide) ?_
      refine go_goto 48 dX8_lacks_24 (by decide) ?_
      exact go_iret dX8_lacks_48 ⟨_, rfl, h⟩
  · replace h := gk_ip h c
    refine go_iconst (v := 1) dX8_lacks_9 (by decide) ?_
    refine go_goto 48 dX8_lacks_10 (by decide) ?_
    exact go_iret dX8_lacks_48 ⟨_, rfl, h⟩
def w_X8_keep (this : Nat) (x1 : Int32) (x2 : Int32) (x3 : Int32) (μ : gk_St) (Q : gk_St → Prop) : Prop := (vp_in x1 (gk_ln (gk_rf this 43)) ∧ (if (μ (gk_rf this 43) x1.toNatClampNeg) = 0 then (vp_in (((60 : Int32) * x1) + x2) (gk_ln (gk_rf this 45)) ∧ (∀ m3 : gk_St, m3 = gk_up μ (gk_rf this 45) (Int32.toNatClampNeg (((60 : Int32) * x1) + x2)) ((x3).toInt8.toInt32) → Q m3)) else (vp_in x1 (gk_ln (gk_rf this 43)) ∧ (if (μ (gk_rf this 43) x1.toNatClampNeg) = 1 then (vp_in (((60 : Int32) * x1) + x2) (gk_ln (gk_rf this 45)) ∧ (∀ m2 : gk_St, m2 = gk_up μ (gk_rf this 45) (Int32.toNatClampNeg (((60 : Int32) * x1) + x2)) ((x3).toInt16.toInt32) → Q m2)) else (vp_in (((60 : Int32) * x1) + x2) (gk_ln (gk_rf this 45)) ∧ (∀ m1 : gk_St, m1 = gk_up μ (gk_rf this 45) (Int32.toNatClampNeg (((60 : Int32) * x1) + x2)) x3 → Q m1))))))
set_option maxRecDepth 100000 in
set_option maxHeartbeats 4000000 in
theorem k_X8_keep {this : Nat} {x1 : Int32} {x2 : Int32} {x3 : Int32} {μ : gk_St} {Q : gk_St → Prop} (h_this : gk_isO this 8) (h : w_X8_keep this x1 x2 x3 μ Q) : gk_CT yX8_keep cX8_keep 4 none 0 [.ref this, .int x1, .int x2, .int x3] μ (gk_Qv Q) := by
  unfold w_X8_keep at h
  refine gk_enter (by decide) (Nat.le_of_ble_eq_true rfl) ?_
  show Go RX8 cX8_keep 4 none 0 0 [(0, .ref this), (1, .int x1), (2, .int x2), (3, .int x3)] [] μ (gk_Qv Q)
  refine go_aload_n 0 dX8_keep_0 rfl rfl ?_
  refine go_getR dX8_keep_1 fl_RX8_104 h_this (rr_8_45 h_this) ?_
  refine go_bipush (v := 60) dX8_keep_4 (by decide) ?_
  refine go_iload_n 1 dX8_keep_6 rfl rfl ?_
  refine go_imul dX8_keep_7 ?_
  refine go_iload_n 2 dX8_keep_8 rfl rfl ?_
  refine go_iadd dX8_keep_9 ?_
  refine go_aload_n 0 dX8_keep_10 rfl rfl ?_
  refine go_getR dX8_keep_11 fl_RX8_98 h_this (rr_8_43 h_this) ?_
  refine go_iload_n 1 dX8_keep_14 rfl rfl ?_
  refine go_iaload dX8_keep_15 (rt_8_43 h_this) h.1 ?_
  replace h := h.2
  refine go_if_ne 24 dX8_keep_16 (by decide) (fun c => ?_) (fun c => ?_)
  · replace h := gk_in h c
    refine go_aload_n 0 dX8_keep_24 rfl rfl ?_
    refine go_getR dX8_keep_25 fl_RX8_98 h_this (rr_8_43 h_this) ?_
    refine go_iload_n 1 dX8_keep_28 rfl rfl ?_
    refine go_iaload dX8_keep_29 (rt_8_43 h_this) h.1 ?_
    replace h := h.2
    refine go_iconst (v := 1) dX8_keep_30 (by decide) ?_
    refine go_icmp_ne 39 dX8_keep_31 (by decide) (fun c => ?_) (fun c => ?_)
    · replace h := gk_in h c
      refine go_iload_n 3 dX8_keep_39 rfl rfl ?_
      refine gb_iastore dX8_keep_40 (rt_8_45 h_this) h.1 (fun m1 e => ?_)
      replace h := h.2 m1 e
      exact go_vret dX8_keep_41 ⟨rfl, h⟩
    · replace h := gk_ip h c
      refine go_iload_n 3 dX8_keep_34 rfl rfl ?_
      refine go_i2s dX8_keep_35 ?_
      refine go_goto 40 dX8_keep_36 (by decide) ?_
      refine gb_iastore dX8_keep_40 (rt_8_45 h_this) h.1 (fun m2 e => ?_)
      replace h := h.2 m2 e
      exact go_vret dX8_keep_41 ⟨rfl, h⟩
  · replace h := gk_ip h c
    refine go_iload_n 3 dX8_keep_19 rfl rfl ?_
    refine go_i2b dX8_keep_20 ?_
    refine go_goto 40 dX8_keep_21 (by decide) ?_
    refine gb_iastore dX8_keep_40 (rt_8_45 h_this) h.1 (fun m3 e => ?_)
    replace h := h.2 m3 e
    exact go_vret dX8_keep_41 ⟨rfl, h⟩
def w_X8_put (this : Nat) (x1 : Int32) (x2 : Int32) (x3 : Int32) (x4 : Int32) (μ : gk_St) (Q : Int32 → gk_St → Prop) : Prop := w_X8_isSheet x1 μ (fun r2 m1 => (if r2 = 0 then Q (-2) m1 else w_X8_in x2 0 2 m1 (fun r4 m3 => (if r4 = 0 then Q (-2) m3 else w_X8_lacks this x1 x2 x3 m3 (fun r6 m5 => (if r6 ≤ 0 then w_X8_keep this x1 x3 x4 m5 (fun m7 => Q 1 m7) else w_X8_meets this r6 m5 (fun r9 m8 => Q r9 m8)))))))
set_option maxRecDepth 100000 in
set_option maxHeartbeats 4000000 in
theorem k_X8_put {this : Nat} {x1 : Int32} {x2 : Int32} {x3 : Int32} {x4 : Int32} {μ : gk_St} {Q : Int32 → gk_St → Prop} (h_this : gk_isO this 8) (h : w_X8_put this x1 x2 x3 x4 μ Q) : gk_CT yX8_put cX8_put 6 (some .int) 2 [.ref this, .int x1, .int x2, .int x3, .int x4] μ (gk_Qi Q) := by
  unfold w_X8_put at h
  refine gk_enter (by decide) (Nat.le_of_ble_eq_true rfl) ?_
  show Go RX8 cX8_put 6 (some .int) 2 0 [(0, .ref this), (1, .int x1), (2, .int x2), (3, .int x3), (4, .int x4)] [] μ (gk_Qi Q)
  refine go_iload_n 1 dX8_put_0 rfl rfl ?_
  refine go_callS (d' := 1) [.int x1] dX8_put_1 cw_RX8_182 kt_X8_isSheet rfl (Nat.le_of_ble_eq_true rfl) (by decide) (k_X8_isSheet h) (gk_ki (fun r2 m1 h => ?_))
  refine go_if_eq 16 dX8_put_4 (by decide) (fun c => ?_) (fun c => ?_)
  · replace h := gk_ip h c
    refine go_bipush (v := (-2)) dX8_put_16 (by decide) ?_
    exact go_iret dX8_put_18 ⟨_, rfl, h⟩
  · replace h := gk_in h c
    refine go_iload_n 2 dX8_put_7 rfl rfl ?_
    refine go_iconst (v := 0) dX8_put_8 (by decide) ?_
    refine go_iconst (v := 2) dX8_put_9 (by decide) ?_
    refine go_callS (d' := 0) [.int x2, .int 0, .int 2] dX8_put_10 cw_RX8_112 kt_X8_in rfl (Nat.le_of_ble_eq_true rfl) (by decide) (k_X8_in h) (gk_ki (fun r4 m3 h => ?_))
    refine go_if_ne 19 dX8_put_13 (by decide) (fun c => ?_) (fun c => ?_)
    · replace h := gk_in h c
      refine go_aload_n 0 dX8_put_19 rfl rfl ?_
      refine go_iload_n 1 dX8_put_20 rfl rfl ?_
      refine go_iload_n 2 dX8_put_21 rfl rfl ?_
      refine go_iload_n 3 dX8_put_22 rfl rfl ?_
      refine go_callV (ci := 8) (d' := 1) [.int x1, .int x2, .int x3] dX8_put_23 cw_RX8_348 ki_X8_lacks ks_X8_lacks rfl (by decide) h_this rfl (Nat.le_of_ble_eq_true rfl) (by decide) (k_X8_lacks h_this h) (gk_ki (fun r6 m5 h => ?_))
      refine go_istore [(5, .int r6), (0, .ref this), (1, .int x1), (2, .int x2), (3, .int x3), (4, .int x4)] dX8_put_26 (by decide) rfl ?_
      refine go_iload 0 dX8_put_28 rfl ?_
      refine go_if_le 40 dX8_put_30 (by decide) (fun c => ?_) (fun c => ?_)
      · replace h := gk_ip h c
        refine go_aload_n 1 dX8_put_40 rfl rfl ?_
        refine go_iload_n 2 dX8_put_41 rfl rfl ?_
        refine go_iload_n 4 dX8_put_42 rfl rfl ?_
        refine go_iload 5 dX8_put_43 rfl ?_
        refine go_callV (ci := 8) (d' := 0) [.int x1, .int x3, .int x4] dX8_put_45 cw_RX8_351 ki_X8_keep ks_X8_keep rfl (by decide) h_this rfl (Nat.le_of_ble_eq_true rfl) (by decide) (k_X8_keep h_this h) (gk_kv (fun m7 h => ?_))
        refine go_iconst (v := 1) dX8_put_48 (by decide) ?_
        exact go_iret dX8_put_49 ⟨_, rfl, h⟩
      · replace h := gk_in h c
        refine go_aload_n 1 dX8_put_33 rfl rfl ?_
        refine go_iload 0 dX8_put_34 rfl ?_
        refine go_callV (ci := 8) (d' := 0) [.int r6] dX8_put_36 cw_RX8_185 ki_X8_meets ks_X8_meets rfl (by decide) h_this rfl (Nat.le_of_ble_eq_true rfl) (by decide) (k_X8_meets h_this h) (gk_ki (fun r9 m8 h => ?_))
        exact go_iret dX8_put_39 ⟨_, rfl, h⟩
    · replace h := gk_ip h c
      refine go_bipush (v := (-2)) dX8_put_16 (by decide) ?_
      exact go_iret dX8_put_18 ⟨_, rfl, h⟩
def w_X8_get (this : Nat) (x1 : Int32) (x2 : Int32) (x3 : Int32) (μ : gk_St) (Q : Int32 → gk_St → Prop) : Prop := w_X8_isSheet x1 μ (fun r2 m1 => (if r2 = 0 then Q (-2147483648) m1 else w_X8_in x2 0 2 m1 (fun r4 m3 => (if r4 = 0 then Q (-2147483648) m3 else w_X8_lacks this x1 x2 x3 m3 (fun r6 m5 => (if r6 ≤ 0 then (vp_in (((60 : Int32) * x1) + x3) (gk_ln (gk_rf this 45)) ∧ Q (m5 (gk_rf this 45) (Int32.toNatClampNeg (((60 : Int32) * x1) + x3))) m5) else (∀ m7 : gk_St, m7 = gk_up m5 this 47 r6 → Q (-2147483648) m7)))))))
set_option maxRecDepth 100000 in
set_option maxHeartbeats 4000000 in
theorem k_X8_get {this : Nat} {x1 : Int32} {x2 : Int32} {x3 : Int32} {μ : gk_St} {Q : Int32 → gk_St → Prop} (h_this : gk_isO this 8) (h : w_X8_get this x1 x2 x3 μ Q) : gk_CT yX8_get cX8_get 5 (some .int) 2 [.ref this, .int x1, .int x2, .int x3] μ (gk_Qi Q) := by
  unfold w_X8_get at h
  refine gk_enter (by decide) (Nat.le_of_ble_eq_true rfl) ?_
  show Go RX8 cX8_get 5 (some .int) 2 0 [(0, .ref this), (1, .int x1), (2, .int x2), (3, .int x3)] [] μ (gk_Qi Q)
  refine go_iload_n 1 dX8_get_0 rfl rfl ?_
  refine go_callS (d' := 1) [.int x1] dX8_get_1 cw_RX8_182 kt_X8_isSheet rfl (Nat.le_of_ble_eq_true rfl) (by decide) (k_X8_isSheet h) (gk_ki (fun r2 m1 h => ?_))
  refine go_if_eq 16 dX8_get_4 (by decide) (fun c => ?_) (fun c => ?_)
  · replace h := gk_ip h c
    refine go_ldc_w dX8_get_16 ct_RX8_355 ?_
    exact go_iret dX8_get_19 ⟨_, rfl, h⟩
  · replace h := gk_in h c
    refine go_iload_n 2 dX8_get_7 rfl rfl ?_
    refine go_iconst (v := 0) dX8_get_8 (by decide) ?_
    refine go_iconst (v := 2) dX8_get_9 (by decide) ?_
    refine go_callS (d' := 0) [.int x2, .int 0, .int 2] dX8_get_10 cw_RX8_112 kt_X8_in rfl (Nat.le_of_ble_eq_true rfl) (by decide) (k_X8_in h) (gk_ki (fun r4 m3 h => ?_))
    refine go_if_ne 20 dX8_get_13 (by decide) (fun c => ?_) (fun c => ?_)
    · replace h := gk_in h c
      refine go_aload_n 0 dX8_get_20 rfl rfl ?_
      refine go_iload_n 1 dX8_get_21 rfl rfl ?_
      refine go_iload_n 2 dX8_get_22 rfl rfl ?_
      refine go_iload_n 3 dX8_get_23 rfl rfl ?_
      refine go_callV (ci := 8) (d' := 1) [.int x1, .int x2, .int x3] dX8_get_24 cw_RX8_348 ki_X8_lacks ks_X8_lacks rfl (by decide) h_this rfl (Nat.le_of_ble_eq_true rfl) (by decide) (k_X8_lacks h_this h) (gk_ki (fun r6 m5 h => ?_))
      refine go_istore [(4, .int r6), (0, .ref this), (1, .int x1), (2, .int x2), (3, .int x3)] dX8_get_27 (by decide) rfl ?_
      refine go_iload 0 dX8_get_29 rfl ?_
      refine go_if_le 44 dX8_get_31 (by decide) (fun c => ?_) (fun c => ?_)
      · replace h := gk_ip h c
        refine go_aload_n 1 dX8_get_44 rfl rfl ?_
        refine go_getR dX8_get_45 fl_RX8_104 h_this (rr_8_45 h_this) ?_
        refine go_bipush (v := 60) dX8_get_48 (by decide) ?_
        refine go_iload_n 2 dX8_get_50 rfl rfl ?_
        refine go_imul dX8_get_51 ?_
        refine go_iload_n 4 dX8_get_52 rfl rfl ?_
        refine go_iadd dX8_get_53 ?_
        refine go_iaload dX8_get_54 (rt_8_45 h_this) h.1 ?_
        replace h := h.2
        exact go_iret dX8_get_55 ⟨_, rfl, h⟩
      · replace h := gk_in h c
        refine go_aload_n 1 dX8_get_34 rfl rfl ?_
        refine go_iload 0 dX8_get_35 rfl ?_
        refine gb_putI dX8_get_37 fp_RX8_345 h_this (nf_8_47 h_this) (fun m7 e => ?_)
        replace h := h m7 e
        refine go_ldc_w dX8_get_40 ct_RX8_355 ?_
        exact go_iret dX8_get_43 ⟨_, rfl, h⟩
    · replace h := gk_ip h c
      refine go_ldc_w dX8_get_16 ct_RX8_355 ?_
      exact go_iret dX8_get_19 ⟨_, rfl, h⟩
def w_X8_copy_j35 (Q : Int32 → gk_St → Prop) (this : Nat) (μ : gk_St) : Prop := w_X8_meets this 1 μ (fun r6 m5 => Q r6 m5)
set_option maxRecDepth 100000 in
set_option maxHeartbeats 4000000 in
theorem k_X8_copy_j35 {Q : Int32 → gk_St → Prop} {this : Nat} {μ : gk_St} (h_this : gk_isO this 8) (h : w_X8_copy_j35 Q this μ) : Go RX8 cX8_copy 7 (some .int) 2 35 [(0, .ref this)] [] μ (gk_Qi Q) := by
  unfold w_X8_copy_j35 at h
  refine go_aload_n 0 dX8_copy_35 rfl rfl ?_
  refine go_iconst (v := 1) dX8_copy_36 (by decide) ?_
  refine go_callV (ci := 8) (d' := 0) [.int 1] dX8_copy_37 cw_RX8_185 ki_X8_meets ks_X8_meets rfl (by decide) h_this rfl (Nat.le_of_ble_eq_true rfl) (by decide) (k_X8_meets h_this h) (gk_ki (fun r6 m5 h => ?_))
  exact go_iret dX8_copy_40 ⟨_, rfl, h⟩
def w_X8_copy_j111 (Q : Int32 → gk_St → Prop) (this : Nat) (μ : gk_St) : Prop := w_X8_meets this 2 μ (fun r8 m7 => Q r8 m7)
set_option maxRecDepth 100000 in
set_option maxHeartbeats 4000000 in
theorem k_X8_copy_j111 {Q : Int32 → gk_St → Prop} {this : Nat} {μ : gk_St} (h_this : gk_isO this 8) (h : w_X8_copy_j111 Q this μ) : Go RX8 cX8_copy 7 (some .int) 2 111 [(0, .ref this)] [] μ (gk_Qi Q) := by
  unfold w_X8_copy_j111 at h
  refine go_aload_n 0 dX8_copy_111 rfl rfl ?_
  refine go_iconst (v := 2) dX8_copy_112 (by decide) ?_
  refine go_callV (ci := 8) (d' := 0) [.int 2] dX8_copy_113 cw_RX8_185 ki_X8_meets ks_X8_meets rfl (by decide) h_this rfl (Nat.le_of_ble_eq_true rfl) (by decide) (k_X8_meets h_this h) (gk_ki (fun r8 m7 h => ?_))
  exact go_iret dX8_copy_116 ⟨_, rfl, h⟩
def w_X8_copy_l120 (Q : Int32 → gk_St → Prop) (K : Int32 → Int32 → Int32 → gk_St → Prop) (this : Nat) : Nat → Int32 → Int32 → Int32 → Int32 → Int32 → Int32 → gk_St → Prop
  | 0, _, _, _, _, _, _, _ => False
  | n + 1, x1, x2, x3, x4, x5, x6, μ => (if x5 ≤ x6 then K x3 x4 x5 μ else (vp_in ((((60 : Int32) * x1) + x2) + x6) (gk_ln (gk_rf this 45)) ∧ (vp_in x6 (gk_ln (gk_rf this 46)) ∧ (∀ m9 : gk_St, m9 = gk_up μ (gk_rf this 46) x6.toNatClampNeg (μ (gk_rf this 45) (Int32.toNatClampNeg ((((60 : Int32) * x1) + x2) + x6))) → (∀ v10 : Int32, v10 = x6 + 1 → w_X8_copy_l120 Q K this n x1 x2 x3 x4 x5 v10 m9)))))
set_option maxRecDepth 100000 in
set_option maxHeartbeats 4000000 in
theorem k_X8_copy_l120 {Q : Int32 → gk_St → Prop} {K : Int32 → Int32 → Int32 → gk_St → Prop} {this : Nat} (h_this : gk_isO this 8) (hK : ∀ (e3 : Int32) (e4 : Int32) (e5 : Int32) (em : gk_St), K e3 e4 e5 em → Go RX8 cX8_copy 7 (some .int) 2 154 [(0, .ref this), (3, .int e3), (4, .int e4), (5, .int e5)] [] em (gk_Qi Q)) : ∀ (n : Nat) (x1 : Int32) (x2 : Int32) (x3 : Int32) (x4 : Int32) (x5 : Int32) (x6 : Int32) (μ : gk_St), w_X8_copy_l120 Q K this n x1 x2 x3 x4 x5 x6 μ → Go RX8 cX8_copy 7 (some .int) 2 120 [(0, .ref this), (1, .int x1), (2, .int x2), (3, .int x3), (4, .int x4), (5, .int x5), (6, .int x6)] [] μ (gk_Qi Q) := by
  intro n
  induction n with
  | zero =>
    intro x1 x2 x3 x4 x5 x6 μ h
    exact False.elim h
  | succ n ih =>
    intro x1 x2 x3 x4 x5 x6 μ h
    unfold w_X8_copy_l120 at h
    refine go_iload 6 dX8_copy_120 rfl ?_
    refine go_iload 5 dX8_copy_122 rfl ?_
    refine go_icmp_ge 154 dX8_copy_124 (by decide) (fun c => ?_) (fun c => ?_)
    · replace h := gk_ip h c
      refine go_lv [0, 3, 4, 5] rfl ?_
      exact hK _ _ _ _ h
    · replace h := gk_in h c
      refine go_aload_n 0 dX8_copy_127 rfl rfl ?_
      refine go_getR dX8_copy_128 fl_RX8_107 h_this (rr_8_46 h_this) ?_
      refine go_iload 6 dX8_copy_131 rfl ?_
      refine go_aload_n 0 dX8_copy_133 rfl rfl ?_
      refine go_getR dX8_copy_134 fl_RX8_104 h_this (rr_8_45 h_this) ?_
      refine go_bipush (v := 60) dX8_copy_137 (by decide) ?_
      refine go_iload_n 1 dX8_copy_139 rfl rfl ?_
      refine go_imul dX8_copy_140 ?_
      refine go_iload_n 2 dX8_copy_141 rfl rfl ?_
      refine go_iadd dX8_copy_142 ?_
      refine go_iload 6 dX8_copy_143 rfl ?_
      refine go_iadd dX8_copy_145 ?_
      refine go_iaload dX8_copy_146 (rt_8_45 h_this) h.1 ?_
      replace h := h.2
      refine gb_iastore dX8_copy_147 (rt_8_46 h_this) h.1 (fun m9 e => ?_)
      replace h := h.2 m9 e
      refine gb_iinc (w := 1) 6 (fun v10 => [(6, .int v10), (0, .ref this), (1, .int x1), (2, .int x2), (3, .int x3), (4, .int x4), (5, .int x5)]) dX8_copy_148 rfl (by decide) (by decide) (fun _ => rfl) (fun v10 e => ?_)
      replace h := h v10 e
      refine go_goto 120 dX8_copy_151 (by decide) ?_
      refine go_lv [1, 2, 3, 4, 5, 6, 0] rfl ?_
      exact ih _ _ _ _ _ _ _ h
def w_X8_copy_l157 (Q : Int32 → gk_St → Prop) (K : gk_St → Prop) (this : Nat) : Nat → Int32 → Int32 → Int32 → Int32 → gk_St → Prop
  | 0, _, _, _, _, _ => False
  | n + 1, x3, x4, x5, x6, μ => (if x5 ≤ x6 then K  μ else (vp_in x6 (gk_ln (gk_rf this 46)) ∧ (vp_in ((((60 : Int32) * x3) + x4) + x6) (gk_ln (gk_rf this 45)) ∧ (∀ m15 : gk_St, m15 = gk_up μ (gk_rf this 45) (Int32.toNatClampNeg ((((60 : Int32) * x3) + x4) + x6)) (μ (gk_rf this 46) x6.toNatClampNeg) → (∀ v16 : Int32, v16 = x6 + 1 → w_X8_copy_l157 Q K this n x3 x4 x5 v16 m15)))))
set_option maxRecDepth 100000 in
set_option maxHeartbeats 4000000 in
theorem k_X8_copy_l157 {Q : Int32 → gk_St → Prop} {K : gk_St → Prop} {this : Nat} (h_this : gk_isO this 8) (hK : ∀ (em : gk_St), K  em → Go RX8 cX8_copy 7 (some .int) 2 192 [] [] em (gk_Qi Q)) : ∀ (n : Nat) (x3 : Int32) (x4 : Int32) (x5 : Int32) (x6 : Int32) (μ : gk_St), w_X8_copy_l157 Q K this n x3 x4 x5 x6 μ → Go RX8 cX8_copy 7 (some .int) 2 157 [(0, .ref this), (3, .int x3), (4, .int x4), (5, .int x5), (6, .int x6)] [] μ (gk_Qi Q) := by
  intro n
  induction n with
  | zero =>
    intro x3 x4 x5 x6 μ h
    exact False.elim h
  | succ n ih =>
    intro x3 x4 x5 x6 μ h
    unfold w_X8_copy_l157 at h
    refine go_iload 4 dX8_copy_157 rfl ?_
    refine go_iload 3 dX8_copy_159 rfl ?_
    refine go_icmp_ge 192 dX8_copy_161 (by decide) (fun c => ?_) (fun c => ?_)
    · replace h := gk_ip h c
      refine go_lv [] rfl ?_
      exact hK  _ h
    · replace h := gk_in h c
      refine go_aload_n 0 dX8_copy_164 rfl rfl ?_
      refine go_getR dX8_copy_165 fl_RX8_104 h_this (rr_8_45 h_this) ?_
      refine go_bipush (v := 60) dX8_copy_168 (by decide) ?_
      refine go_iload_n 1 dX8_copy_170 rfl rfl ?_
      refine go_imul dX8_copy_171 ?_
      refine go_iload 2 dX8_copy_172 rfl ?_
      refine go_iadd dX8_copy_174 ?_
      refine go_iload 4 dX8_copy_175 rfl ?_
      refine go_iadd dX8_copy_177 ?_
      refine go_aload_n 0 dX8_copy_178 rfl rfl ?_
      refine go_getR dX8_copy_179 fl_RX8_107 h_this (rr_8_46 h_this) ?_
      refine go_iload 4 dX8_copy_182 rfl ?_
      refine go_iaload dX8_copy_184 (rt_8_46 h_this) h.1 ?_
      replace h := h.2
      refine gb_iastore dX8_copy_185 (rt_8_45 h_this) h.1 (fun m15 e => ?_)
      replace h := h.2 m15 e
      refine gb_iinc (w := 1) 4 (fun v16 => [(6, .int v16), (0, .ref this), (3, .int x3), (4, .int x4), (5, .int x5)]) dX8_copy_186 rfl (by decide) (by decide) (fun _ => rfl) (fun v16 e => ?_)
      replace h := h v16 e
      refine go_goto 157 dX8_copy_189 (by decide) ?_
      refine go_lv [1, 2, 3, 4, 0] rfl ?_
      exact ih _ _ _ _ _ h
def w_X8_copy (this : Nat) (x1 : Int32) (x2 : Int32) (x3 : Int32) (x4 : Int32) (x5 : Int32) (μ : gk_St) (Q : Int32 → gk_St → Prop) : Prop := w_X8_isSheet x1 μ (fun r2 m1 => (if r2 = 0 then Q (-2) m1 else w_X8_isSheet x3 m1 (fun r4 m3 => (if r4 = 0 then Q (-2) m3 else (vp_in x1 (gk_ln (gk_rf this 42)) ∧ (if (m3 (gk_rf this 42) x1.toNatClampNeg) = 0 then w_X8_copy_j35 Q this m3 else (vp_in x3 (gk_ln (gk_rf this 42)) ∧ (if (m3 (gk_rf this 42) x3.toNatClampNeg) = 0 then w_X8_copy_j35 Q this m3 else (vp_in x1 (gk_ln (gk_rf this 43)) ∧ (vp_in x3 (gk_ln (gk_rf this 43)) ∧ (if (m3 (gk_rf this 43) x1.toNatClampNeg) = (m3 (gk_rf this 43) x3.toNatClampNeg) then (if x2 < 0 then w_X8_copy_j111 Q this m3 else (if x4 < 0 then w_X8_copy_j111 Q this m3 else (if x5 < 0 then w_X8_copy_j111 Q this m3 else (vp_in x1 (gk_ln (gk_rf this 44)) ∧ (if 0 < (lg_cmp ((Int32.toInt64 x2) + (Int32.toInt64 x5)) (Int32.toInt64 (m3 (gk_rf this 44) x1.toNatClampNeg))) then w_X8_copy_j111 Q this m3 else (vp_in x3 (gk_ln (gk_rf this 44)) ∧ (if (lg_cmp ((Int32.toInt64 x4) + (Int32.toInt64 x5)) (Int32.toInt64 (m3 (gk_rf this 44) x3.toNatClampNeg))) ≤ 0 then (∃ n120 : Nat, w_X8_copy_l120 Q (fun y11 y12 y13 m14 => (∃ n157 : Nat, w_X8_copy_l157 Q (fun m17 => Q 1 m17) this n157 y11 y12 y13 0 m14)) this n120 x1 x2 x3 x4 x5 0 m3) else w_X8_copy_j111 Q this m3))))))) else w_X8_meets this 4 m3 (fun r19 m18 => Q r19 m18))))))))))))
set_option maxRecDepth 100000 in
set_option maxHeartbeats 4000000 in
theorem k_X8_copy {this : Nat} {x1 : Int32} {x2 : Int32} {x3 : Int32} {x4 : Int32} {x5 : Int32} {μ : gk_St} {Q : Int32 → gk_St → Prop} (h_this : gk_isO this 8) (h : w_X8_copy this x1 x2 x3 x4 x5 μ Q) : gk_CT yX8_copy cX8_copy 7 (some .int) 2 [.ref this, .int x1, .int x2, .int x3, .int x4, .int x5] μ (gk_Qi Q) := by
  unfold w_X8_copy at h
  refine gk_enter (by decide) (Nat.le_of_ble_eq_true rfl) ?_
  show Go RX8 cX8_copy 7 (some .int) 2 0 [(0, .ref this), (1, .int x1), (2, .int x2), (3, .int x3), (4, .int x4), (5, .int x5)] [] μ (gk_Qi Q)
  refine go_iload_n 1 dX8_copy_0 rfl rfl ?_
  refine go_callS (d' := 1) [.int x1] dX8_copy_1 cw_RX8_182 kt_X8_isSheet rfl (Nat.le_of_ble_eq_true rfl) (by decide) (k_X8_isSheet h) (gk_ki (fun r2 m1 h => ?_))
  refine go_if_eq 14 dX8_copy_4 (by decide) (fun c => ?_) (fun c => ?_)
  · replace h := gk_ip h c
    refine go_bipush (v := (-2)) dX8_copy_14 (by decide) ?_
    exact go_iret dX8_copy_16 ⟨_, rfl, h⟩
  · replace h := gk_in h c
    refine go_iload_n 3 dX8_copy_7 rfl rfl ?_
    refine go_callS (d' := 1) [.int x3] dX8_copy_8 cw_RX8_182 kt_X8_isSheet rfl (Nat.le_of_ble_eq_true rfl) (by decide) (k_X8_isSheet h) (gk_ki (fun r4 m3 h => ?_))
    refine go_if_ne 17 dX8_copy_11 (by decide) (fun c => ?_) (fun c => ?_)
    · replace h := gk_in h c
      refine go_aload_n 0 dX8_copy_17 rfl rfl ?_
      refine go_getR dX8_copy_18 fl_RX8_94 h_this (rr_8_42 h_this) ?_
      refine go_iload_n 1 dX8_copy_21 rfl rfl ?_
      refine go_baload dX8_copy_22 (rt_8_42 h_this) h.1 ?_
      replace h := h.2
      refine go_if_eq 35 dX8_copy_23 (by decide) (fun c => ?_) (fun c => ?_)
      · replace h := gk_ip h c
        refine go_lv [0] rfl ?_
        exact k_X8_copy_j35 h_this h
      · replace h := gk_in h c
        refine go_aload_n 0 dX8_copy_26 rfl rfl ?_
        refine go_getR dX8_copy_27 fl_RX8_94 h_this (rr_8_42 h_this) ?_
        refine go_iload_n 3 dX8_copy_30 rfl rfl ?_
        refine go_baload dX8_copy_31 (rt_8_42 h_this) h.1 ?_
        replace h := h.2
        refine go_if_ne 41 dX8_copy_32 (by decide) (fun c => ?_) (fun c => ?_)
        · replace h := gk_in h c
          refine go_aload_n 0 dX8_copy_41 rfl rfl ?_
          refine go_getR dX8_copy_42 fl_RX8_98 h_this (rr_8_43 h_this) ?_
          refine go_iload_n 1 dX8_copy_45 rfl rfl ?_
          refine go_iaload dX8_copy_46 (rt_8_43 h_this) h.1 ?_
          replace h := h.2
          refine go_aload_n 0 dX8_copy_47 rfl rfl ?_
          refine go_getR dX8_copy_48 fl_RX8_98 h_this (rr_8_43 h_this) ?_
          refine go_iload_n 3 dX8_copy_51 rfl rfl ?_
          refine go_iaload dX8_copy_52 (rt_8_43 h_this) h.1 ?_
          replace h := h.2
          refine go_icmp_eq 62 dX8_copy_53 (by decide) (fun c => ?_) (fun c => ?_)
          · replace h := gk_ip h c
            refine go_iload_n 2 dX8_copy_62 rfl rfl ?_
            refine go_if_lt 111 dX8_copy_63 (by decide) (fun c => ?_) (fun c => ?_)
            · replace h := gk_ip h c
              refine go_lv [0] rfl ?_
              exact k_X8_copy_j111 h_this h
            · replace h := gk_in h c
              refine go_iload 4 dX8_copy_66 rfl ?_
              refine go_if_lt 111 dX8_copy_68 (by decide) (fun c => ?_) (fun c => ?_)
              · replace h := gk_ip h c
                refine go_lv [0] rfl ?_
                exact k_X8_copy_j111 h_this h
              · replace h := gk_in h c
                refine go_iload 5 dX8_copy_71 rfl ?_
                refine go_if_lt 111 dX8_copy_73 (by decide) (fun c => ?_) (fun c => ?_)
                · replace h := gk_ip h c
                  refine go_lv [0] rfl ?_
                  exact k_X8_copy_j111 h_this h
                · replace h := gk_in h c
                  refine go_iload_n 2 dX8_copy_76 rfl rfl ?_
                  refine go_i2l dX8_copy_77 ?_
                  refine go_iload 5 dX8_copy_78 rfl ?_
                  refine go_i2l dX8_copy_80 ?_
                  refine go_ladd dX8_copy_81 ?_
                  refine go_aload_n 0 dX8_copy_82 rfl rfl ?_
                  refine go_getR dX8_copy_83 fl_RX8_101 h_this (rr_8_44 h_this) ?_
                  refine go_iload_n 1 dX8_copy_86 rfl rfl ?_
                  refine go_iaload dX8_copy_87 (rt_8_44 h_this) h.1 ?_
                  replace h := h.2
                  refine go_i2l dX8_copy_88 ?_
                  refine go_lcmp dX8_copy_89 ?_
                  refine go_if_gt 111 dX8_copy_90 (by decide) (fun c => ?_) (fun c => ?_)
                  · replace h := gk_ip h c
                    refine go_lv [0] rfl ?_
                    exact k_X8_copy_j111 h_this h
                  · replace h := gk_in h c
                    refine go_iload 4 dX8_copy_93 rfl ?_
                    refine go_i2l dX8_copy_95 ?_
                    refine go_iload 5 dX8_copy_96 rfl ?_
                    refine go_i2l dX8_copy_98 ?_
                    refine go_ladd dX8_copy_99 ?_
                    refine go_aload_n 0 dX8_copy_100 rfl rfl ?_
                    refine go_getR dX8_copy_101 fl_RX8_101 h_this (rr_8_44 h_this) ?_
                    refine go_iload_n 3 dX8_copy_104 rfl rfl ?_
                    refine go_iaload dX8_copy_105 (rt_8_44 h_this) h.1 ?_
                    replace h := h.2
                    refine go_i2l dX8_copy_106 ?_
                    refine go_lcmp dX8_copy_107 ?_
                    refine go_if_le 117 dX8_copy_108 (by decide) (fun c => ?_) (fun c => ?_)
                    · replace h := gk_ip h c
                      refine go_iconst (v := 0) dX8_copy_117 (by decide) ?_
                      refine go_istore [(6, .int 0), (0, .ref this), (1, .int x1), (2, .int x2), (3, .int x3), (4, .int x4), (5, .int x5)] dX8_copy_118 (by decide) rfl ?_
                      refine go_lv [1, 2, 3, 4, 5, 6, 0] rfl ?_
                      obtain ⟨n120, h⟩ := h
                      refine k_X8_copy_l120 h_this (fun y11 y12 y13 m14 h => ?_) n120 _ _ _ _ _ _ _ h
                      refine go_iconst (v := 0) dX8_copy_154 (by decide) ?_
                      refine go_istore [(6, .int 0), (0, .ref this), (3, .int y11), (4, .int y12), (5, .int y13)] dX8_copy_155 (by decide) rfl ?_
                      refine go_lv [1, 2, 3, 4, 0] rfl ?_
                      obtain ⟨n157, h⟩ := h
                      refine k_X8_copy_l157 h_this (fun m17 h => ?_) n157 _ _ _ _ _ h
                      refine go_iconst (v := 1) dX8_copy_192 (by decide) ?_
                      exact go_iret dX8_copy_193 ⟨_, rfl, h⟩
                    · replace h := gk_in h c
                      refine go_lv [0] rfl ?_
                      exact k_X8_copy_j111 h_this h
          · replace h := gk_in h c
            refine go_aload_n 0 dX8_copy_56 rfl rfl ?_
            refine go_iconst (v := 4) dX8_copy_57 (by decide) ?_
            refine go_callV (ci := 8) (d' := 0) [.int 4] dX8_copy_58 cw_RX8_185 ki_X8_meets ks_X8_meets rfl (by decide) h_this rfl (Nat.le_of_ble_eq_true rfl) (by decide) (k_X8_meets h_this h) (gk_ki (fun r19 m18 h => ?_))
            exact go_iret dX8_copy_61 ⟨_, rfl, h⟩
        · replace h := gk_ip h c
          refine go_lv [0] rfl ?_
          exact k_X8_copy_j35 h_this h
    · replace h := gk_ip h c
      refine go_bipush (v := (-2)) dX8_copy_14 (by decide) ?_
      exact go_iret dX8_copy_16 ⟨_, rfl, h⟩
def w_X8_write_l38 (Q : Int32 → gk_St → Prop) (K : Int32 → gk_St → Prop) (this : Nat) : Nat → Int32 → Int32 → Int32 → gk_St → Prop
  | 0, _, _, _, _ => False
  | n + 1, x1, x2, x3, μ => (vp_in x2 (gk_ln (gk_rf this 44)) ∧ (if (μ (gk_rf this 44) x2.toNatClampNeg) ≤ x3 then K x3 μ else (if 24 ≤ x3 then K x3 μ else (vp_in (((2 : Int32) * x3) + x1) (gk_ln (gk_rf this 31)) ∧ w_X8_keep this x2 x3 (μ (gk_rf this 31) (Int32.toNatClampNeg (((2 : Int32) * x3) + x1))) μ (fun m6 => (∀ v7 : Int32, v7 = x3 + 1 → w_X8_write_l38 Q K this n x1 x2 v7 m6))))))
set_option maxRecDepth 100000 in
set_option maxHeartbeats 4000000 in
theorem k_X8_write_l38 {Q : Int32 → gk_St → Prop} {K : Int32 → gk_St → Prop} {this : Nat} (h_this : gk_isO this 8) (hK : ∀ (e3 : Int32) (em : gk_St), K e3 em → Go RX8 cX8_write 4 (some .int) 8 76 [(3, .int e3)] [] em (gk_Qi Q)) : ∀ (n : Nat) (x1 : Int32) (x2 : Int32) (x3 : Int32) (μ : gk_St), w_X8_write_l38 Q K this n x1 x2 x3 μ → Go RX8 cX8_write 4 (some .int) 8 38 [(0, .ref this), (1, .int x1), (2, .int x2), (3, .int x3)] [] μ (gk_Qi Q) := by
  intro n
  induction n with
  | zero =>
    intro x1 x2 x3 μ h
    exact False.elim h
  | succ n ih =>
    intro x1 x2 x3 μ h
    unfold w_X8_write_l38 at h
    refine go_iload_n 3 dX8_write_38 rfl rfl ?_
    refine go_aload_n 0 dX8_write_39 rfl rfl ?_
    refine go_getR dX8_write_40 fl_RX8_101 h_this (rr_8_44 h_this) ?_
    refine go_iload_n 2 dX8_write_43 rfl rfl ?_
    refine go_iaload dX8_write_44 (rt_8_44 h_this) h.1 ?_
    replace h := h.2
    refine go_icmp_ge 76 dX8_write_45 (by decide) (fun c => ?_) (fun c => ?_)
    · replace h := gk_ip h c
      refine go_lv [3] rfl ?_
      exact hK _ _ h
    · replace h := gk_in h c
      refine go_iload_n 3 dX8_write_48 rfl rfl ?_
      refine go_bipush (v := 24) dX8_write_49 (by decide) ?_
      refine go_icmp_ge 76 dX8_write_51 (by decide) (fun c => ?_) (fun c => ?_)
      · replace h := gk_ip h c
        refine go_lv [3] rfl ?_
        exact hK _ _ h
      · replace h := gk_in h c
        refine go_aload_n 0 dX8_write_54 rfl rfl ?_
        refine go_iload_n 2 dX8_write_55 rfl rfl ?_
        refine go_iload_n 3 dX8_write_56 rfl rfl ?_
        refine go_aload_n 0 dX8_write_57 rfl rfl ?_
        refine go_getR dX8_write_58 fl_RX8_64 h_this (rr_8_31 h_this) ?_
        refine go_iconst (v := 2) dX8_write_61 (by decide) ?_
        refine go_iload_n 3 dX8_write_62 rfl rfl ?_
        refine go_imul dX8_write_63 ?_
        refine go_iload_n 1 dX8_write_64 rfl rfl ?_
        refine go_iadd dX8_write_65 ?_
        refine go_iaload dX8_write_66 (rt_8_31 h_this) h.1 ?_
        replace h := h.2
        refine go_callV (ci := 8) (d' := 0) [.int x2, .int x3, .int (μ (gk_rf this 31) (Int32.toNatClampNeg (((2 : Int32) * x3) + x1)))] dX8_write_67 cw_RX8_351 ki_X8_keep ks_X8_keep rfl (by decide) h_this rfl (Nat.le_of_ble_eq_true rfl) (by decide) (k_X8_keep h_this h) (gk_kv (fun m6 h => ?_))
        refine gb_iinc (w := 1) 3 (fun v7 => [(3, .int v7), (0, .ref this), (1, .int x1), (2, .int x2)]) dX8_write_70 rfl (by decide) (by decide) (fun _ => rfl) (fun v7 e => ?_)
        replace h := h v7 e
        refine go_goto 38 dX8_write_73 (by decide) ?_
        refine go_lv [1, 2, 3, 0] rfl ?_
        exact ih _ _ _ _ h
def w_X8_write (this : Nat) (x1 : Int32) (x2 : Int32) (μ : gk_St) (Q : Int32 → gk_St → Prop) : Prop := w_X8_isTwo x1 μ (fun r2 m1 => (if r2 = 0 then Q (-2) m1 else w_X8_isSheet x2 m1 (fun r4 m3 => (if r4 = 0 then Q (-2) m3 else (vp_in x2 (gk_ln (gk_rf this 42)) ∧ (if (m3 (gk_rf this 42) x2.toNatClampNeg) = 0 then w_X8_meets this 1 m3 (fun r11 m10 => Q r11 m10) else w_X8_runsTold this m3 (fun m5 => (∃ n38 : Nat, w_X8_write_l38 Q (fun y8 m9 => Q y8 m9) this n38 x1 x2 0 m5))))))))
set_option maxRecDepth 100000 in
set_option maxHeartbeats 4000000 in
theorem k_X8_write {this : Nat} {x1 : Int32} {x2 : Int32} {μ : gk_St} {Q : Int32 → gk_St → Prop} (h_this : gk_isO this 8) (h : w_X8_write this x1 x2 μ Q) : gk_CT yX8_write cX8_write 4 (some .int) 8 [.ref this, .int x1, .int x2] μ (gk_Qi Q) := by
  unfold w_X8_write at h
  refine gk_enter (by decide) (Nat.le_of_ble_eq_true rfl) ?_
  show Go RX8 cX8_write 4 (some .int) 8 0 [(0, .ref this), (1, .int x1), (2, .int x2)] [] μ (gk_Qi Q)
  refine go_iload_n 1 dX8_write_0 rfl rfl ?_
  refine go_callS (d' := 1) [.int x1] dX8_write_1 cw_RX8_253 kt_X8_isTwo rfl (Nat.le_of_ble_eq_true rfl) (by decide) (k_X8_isTwo h) (gk_ki (fun r2 m1 h => ?_))
  refine go_if_eq 14 dX8_write_4 (by decide) (fun c => ?_) (fun c => ?_)
  · replace h := gk_ip h c
    refine go_bipush (v := (-2)) dX8_write_14 (by decide) ?_
    exact go_iret dX8_write_16 ⟨_, rfl, h⟩
  · replace h := gk_in h c
    refine go_iload_n 2 dX8_write_7 rfl rfl ?_
    refine go_callS (d' := 1) [.int x2] dX8_write_8 cw_RX8_182 kt_X8_isSheet rfl (Nat.le_of_ble_eq_true rfl) (by decide) (k_X8_isSheet h) (gk_ki (fun r4 m3 h => ?_))
    refine go_if_ne 17 dX8_write_11 (by decide) (fun c => ?_) (fun c => ?_)
    · replace h := gk_in h c
      refine go_aload_n 0 dX8_write_17 rfl rfl ?_
      refine go_getR dX8_write_18 fl_RX8_94 h_this (rr_8_42 h_this) ?_
      refine go_iload_n 2 dX8_write_21 rfl rfl ?_
      refine go_baload dX8_write_22 (rt_8_42 h_this) h.1 ?_
      replace h := h.2
      refine go_if_ne 32 dX8_write_23 (by decide) (fun c => ?_) (fun c => ?_)
      · replace h := gk_in h c
        refine go_aload_n 0 dX8_write_32 rfl rfl ?_
        refine go_callV (ci := 8) (d' := 7) [] dX8_write_33 cw_RX8_250 ki_X8_runsTold ks_X8_runsTold rfl (by decide) h_this rfl (Nat.le_of_ble_eq_true rfl) (by decide) (k_X8_runsTold h_this h) (gk_kv (fun m5 h => ?_))
        refine go_iconst (v := 0) dX8_write_36 (by decide) ?_
        refine go_istore_n [(3, .int 0), (0, .ref this), (1, .int x1), (2, .int x2)] dX8_write_37 rfl (by decide) rfl ?_
        refine go_lv [1, 2, 3, 0] rfl ?_
        obtain ⟨n38, h⟩ := h
        refine k_X8_write_l38 h_this (fun y8 m9 h => ?_) n38 _ _ _ _ h
        refine go_iload_n 0 dX8_write_76 rfl rfl ?_
        exact go_iret dX8_write_77 ⟨_, rfl, h⟩
      · replace h := gk_ip h c
        refine go_aload_n 0 dX8_write_26 rfl rfl ?_
        refine go_iconst (v := 1) dX8_write_27 (by decide) ?_
        refine go_callV (ci := 8) (d' := 0) [.int 1] dX8_write_28 cw_RX8_185 ki_X8_meets ks_X8_meets rfl (by decide) h_this rfl (Nat.le_of_ble_eq_true rfl) (by decide) (k_X8_meets h_this h) (gk_ki (fun r11 m10 h => ?_))
        exact go_iret dX8_write_31 ⟨_, rfl, h⟩
    · replace h := gk_ip h c
      refine go_bipush (v := (-2)) dX8_write_14 (by decide) ?_
      exact go_iret dX8_write_16 ⟨_, rfl, h⟩
def w_X8_tellOf (this : Nat) (x1 : Int32) (μ : gk_St) (Q : Int32 → gk_St → Prop) : Prop := w_X8_reads this μ (fun m1 => (if x1 = 0 then Q (m1 this 2) m1 else (if x1 = 1 then Q (m1 this 6) m1 else Q (m1 this 10) m1)))
set_option maxRecDepth 100000 in
set_option maxHeartbeats 4000000 in
theorem k_X8_tellOf {this : Nat} {x1 : Int32} {μ : gk_St} {Q : Int32 → gk_St → Prop} (h_this : gk_isO this 8) (h : w_X8_tellOf this x1 μ Q) : gk_CT yX8_tellOf cX8_tellOf 2 (some .int) 6 [.ref this, .int x1] μ (gk_Qi Q) := by
  unfold w_X8_tellOf at h
  refine gk_enter (by decide) (Nat.le_of_ble_eq_true rfl) ?_
  show Go RX8 cX8_tellOf 2 (some .int) 6 0 [(0, .ref this), (1, .int x1)] [] μ (gk_Qi Q)
  refine go_aload_n 0 dX8_tellOf_0 rfl rfl ?_
  refine go_callV (ci := 8) (d' := 5) [] dX8_tellOf_1 cw_RX8_161 ki_X8_reads ks_X8_reads rfl (by decide) h_this rfl (Nat.le_of_ble_eq_true rfl) (by decide) (k_X8_reads h_this h) (gk_kv (fun m1 h => ?_))
  refine go_iload_n 1 dX8_tellOf_4 rfl rfl ?_
  refine go_if_ne 15 dX8_tellOf_5 (by decide) (fun c => ?_) (fun c => ?_)
  · replace h := gk_in h c
    refine go_iload_n 1 dX8_tellOf_15 rfl rfl ?_
    refine go_iconst (v := 1) dX8_tellOf_16 (by decide) ?_
    refine go_icmp_ne 27 dX8_tellOf_17 (by decide) (fun c => ?_) (fun c => ?_)
    · replace h := gk_in h c
      refine go_aload_n 0 dX8_tellOf_27 rfl rfl ?_
      refine go_getI dX8_tellOf_28 fl_RX8_148 h_this (nf_8_10 h_this) ?_
      exact go_iret dX8_tellOf_31 ⟨_, rfl, h⟩
    · replace h := gk_ip h c
      refine go_aload_n 0 dX8_tellOf_20 rfl rfl ?_
      refine go_getI dX8_tellOf_21 fl_RX8_139 h_this (nf_8_6 h_this) ?_
      refine go_goto 31 dX8_tellOf_24 (by decide) ?_
      exact go_iret dX8_tellOf_31 ⟨_, rfl, h⟩
  · replace h := gk_ip h c
    refine go_aload_n 0 dX8_tellOf_8 rfl rfl ?_
    refine go_getI dX8_tellOf_9 fl_RX8_135 h_this (nf_8_2 h_this) ?_
    refine go_goto 31 dX8_tellOf_12 (by decide) ?_
    exact go_iret dX8_tellOf_31 ⟨_, rfl, h⟩
def w_X8_count (this : Nat) (x1 : Int32) (μ : gk_St) (Q : Int32 → gk_St → Prop) : Prop := (if x1 = 0 then w_X8_tellOf this x1 μ (fun r2 m1 => Q r2 m1) else (if x1 = 1 then w_X8_tellOf this x1 μ (fun r4 m3 => Q r4 m3) else (if x1 = 2 then w_X8_tellOf this x1 μ (fun r6 m5 => Q r6 m5) else (if x1 = 3 then (vp_in (x1 - 3) (gk_ln (gk_rf this 0)) ∧ Q (μ (gk_rf this 0) (Int32.toNatClampNeg (x1 - 3))) μ) else (if x1 = 4 then (vp_in (x1 - 3) (gk_ln (gk_rf this 0)) ∧ Q (μ (gk_rf this 0) (Int32.toNatClampNeg (x1 - 3))) μ) else (if x1 = 5 then (vp_in (x1 - 3) (gk_ln (gk_rf this 0)) ∧ Q (μ (gk_rf this 0) (Int32.toNatClampNeg (x1 - 3))) μ) else (if x1 = 6 then Q (μ this 12) μ else (if x1 = 7 then Q (μ this 37) μ else (if x1 = 8 then Q (μ this 47) μ else Q (-2) μ)))))))))
set_option maxRecDepth 100000 in
set_option maxHeartbeats 4000000 in
theorem k_X8_count {this : Nat} {x1 : Int32} {μ : gk_St} {Q : Int32 → gk_St → Prop} (h_this : gk_isO this 8) (h : w_X8_count this x1 μ Q) : gk_CT yX8_count cX8_count 2 (some .int) 7 [.ref this, .int x1] μ (gk_Qi Q) := by
  unfold w_X8_count at h
  refine gk_enter (by decide) (Nat.le_of_ble_eq_true rfl) ?_
  show Go RX8 cX8_count 2 (some .int) 7 0 [(0, .ref this), (1, .int x1)] [] μ (gk_Qi Q)
  refine go_iload_n 1 dX8_count_0 rfl rfl ?_
  by_cases c : x1 = 0
  · replace h := gk_ip h c
    refine go_tableIn (k := 0) (off := 51) 52 dX8_count_1 c (by decide) (by decide) (by decide) (by decide) ?_
    refine go_aload_n 0 dX8_count_52 rfl rfl ?_
    refine go_iload_n 1 dX8_count_53 rfl rfl ?_
    refine go_callV (ci := 8) (d' := 6) [.int x1] dX8_count_54 cw_RX8_356 ki_X8_tellOf ks_X8_tellOf rfl (by decide) h_this rfl (Nat.le_of_ble_eq_true rfl) (by decide) (k_X8_tellOf h_this h) (gk_ki (fun r2 m1 h => ?_))
    exact go_iret dX8_count_57 ⟨_, rfl, h⟩
  replace h := gk_in h c
  have c0 := c
  clear c
  by_cases c : x1 = 1
  · replace h := gk_ip h c
    refine go_tableIn (k := 1) (off := 51) 52 dX8_count_1 c (by decide) (by decide) (by decide) (by decide) ?_
    refine go_aload_n 0 dX8_count_52 rfl rfl ?_
    refine go_iload_n 1 dX8_count_53 rfl rfl ?_
    refine go_callV (ci := 8) (d' := 6) [.int x1] dX8_count_54 cw_RX8_356 ki_X8_tellOf ks_X8_tellOf rfl (by decide) h_this rfl (Nat.le_of_ble_eq_true rfl) (by decide) (k_X8_tellOf h_this h) (gk_ki (fun r4 m3 h => ?_))
    exact go_iret dX8_count_57 ⟨_, rfl, h⟩
  replace h := gk_in h c
  have c1 := c
  clear c
  by_cases c : x1 = 2
  · replace h := gk_ip h c
    refine go_tableIn (k := 2) (off := 51) 52 dX8_count_1 c (by decide) (by decide) (by decide) (by decide) ?_
    refine go_aload_n 0 dX8_count_52 rfl rfl ?_
    refine go_iload_n 1 dX8_count_53 rfl rfl ?_
    refine go_callV (ci := 8) (d' := 6) [.int x1] dX8_count_54 cw_RX8_356 ki_X8_tellOf ks_X8_tellOf rfl (by decide) h_this rfl (Nat.le_of_ble_eq_true rfl) (by decide) (k_X8_tellOf h_this h) (gk_ki (fun r6 m5 h => ?_))
    exact go_iret dX8_count_57 ⟨_, rfl, h⟩
  replace h := gk_in h c
  have c2 := c
  clear c
  by_cases c : x1 = 3
  · replace h := gk_ip h c
    refine go_tableIn (k := 3) (off := 57) 58 dX8_count_1 c (by decide) (by decide) (by decide) (by decide) ?_
    refine go_aload_n 0 dX8_count_58 rfl rfl ?_
    refine go_getR dX8_count_59 fl_RX8_7 h_this (rr_8_0 h_this) ?_
    refine go_iload_n 1 dX8_count_62 rfl rfl ?_
    refine go_iconst (v := 3) dX8_count_63 (by decide) ?_
    refine go_isub dX8_count_64 ?_
    refine go_iaload dX8_count_65 (rt_8_0 h_this) h.1 ?_
    replace h := h.2
    exact go_iret dX8_count_66 ⟨_, rfl, h⟩
  replace h := gk_in h c
  have c3 := c
  clear c
  by_cases c : x1 = 4
  · replace h := gk_ip h c
    refine go_tableIn (k := 4) (off := 57) 58 dX8_count_1 c (by decide) (by decide) (by decide) (by decide) ?_
    refine go_aload_n 0 dX8_count_58 rfl rfl ?_
    refine go_getR dX8_count_59 fl_RX8_7 h_this (rr_8_0 h_this) ?_
    refine go_iload_n 1 dX8_count_62 rfl rfl ?_
    refine go_iconst (v := 3) dX8_count_63 (by decide) ?_
    refine go_isub dX8_count_64 ?_
    refine go_iaload dX8_count_65 (rt_8_0 h_this) h.1 ?_
    replace h := h.2
    exact go_iret dX8_count_66 ⟨_, rfl, h⟩
  replace h := gk_in h c
  have c4 := c
  clear c
  by_cases c : x1 = 5
  · replace h := gk_ip h c
    refine go_tableIn (k := 5) (off := 57) 58 dX8_count_1 c (by decide) (by decide) (by decide) (by decide) ?_
    refine go_aload_n 0 dX8_count_58 rfl rfl ?_
    refine go_getR dX8_count_59 fl_RX8_7 h_this (rr_8_0 h_this) ?_
    refine go_iload_n 1 dX8_count_62 rfl rfl ?_
    refine go_iconst (v := 3) dX8_count_63 (by decide) ?_
    refine go_isub dX8_count_64 ?_
    refine go_iaload dX8_count_65 (rt_8_0 h_this) h.1 ?_
    replace h := h.2
    exact go_iret dX8_count_66 ⟨_, rfl, h⟩
  replace h := gk_in h c
  have c5 := c
  clear c
  by_cases c : x1 = 6
  · replace h := gk_ip h c
    refine go_tableIn (k := 6) (off := 66) 67 dX8_count_1 c (by decide) (by decide) (by decide) (by decide) ?_
    refine go_aload_n 0 dX8_count_67 rfl rfl ?_
    refine go_getI dX8_count_68 fl_RX8_179 h_this (nf_8_12 h_this) ?_
    exact go_iret dX8_count_71 ⟨_, rfl, h⟩
  replace h := gk_in h c
  have c6 := c
  clear c
  by_cases c : x1 = 7
  · replace h := gk_ip h c
    refine go_tableIn (k := 7) (off := 71) 72 dX8_count_1 c (by decide) (by decide) (by decide) (by decide) ?_
    refine go_aload_n 0 dX8_count_72 rfl rfl ?_
    refine go_getI dX8_count_73 fl_RX8_310 h_this (nf_8_37 h_this) ?_
    exact go_iret dX8_count_76 ⟨_, rfl, h⟩
  replace h := gk_in h c
  have c7 := c
  clear c
  by_cases c : x1 = 8
  · replace h := gk_ip h c
    refine go_tableIn (k := 8) (off := 76) 77 dX8_count_1 c (by decide) (by decide) (by decide) (by decide) ?_
    refine go_aload_n 0 dX8_count_77 rfl rfl ?_
    refine go_getI dX8_count_78 fl_RX8_345 h_this (nf_8_47 h_this) ?_
    exact go_iret dX8_count_81 ⟨_, rfl, h⟩
  replace h := gk_in h c
  have c8 := c
  clear c
  have t0 := gk_neT (a := 0) (by decide) c0
  have t1 := gk_neT (a := 1) (by decide) c1
  have t2 := gk_neT (a := 2) (by decide) c2
  have t3 := gk_neT (a := 3) (by decide) c3
  have t4 := gk_neT (a := 4) (by decide) c4
  have t5 := gk_neT (a := 5) (by decide) c5
  have t6 := gk_neT (a := 6) (by decide) c6
  have t7 := gk_neT (a := 7) (by decide) c7
  have t8 := gk_neT (a := 8) (by decide) c8
  refine go_tableOut 82 dX8_count_1 (by omega) (by decide) ?_
  refine go_bipush (v := (-2)) dX8_count_82 (by decide) ?_
  exact go_iret dX8_count_84 ⟨_, rfl, h⟩
def w_X8_momentDigest_l17 (Q : Int64 → gk_St → Prop) (K : Int64 → gk_St → Prop) (this : Nat) : Nat → Int32 → Int64 → Int32 → gk_St → Prop
  | 0, _, _, _, _ => False
  | n + 1, x3, x4, x6, μ => (if 4 ≤ x6 then K x4 μ else w_X8_waitsOf this x3 x6 μ (fun r5 m4 => (∀ v6 : Int64, v6 = (((31 : Int64) * x4) + (Int32.toInt64 r5)) → (∀ v7 : Int32, v7 = x6 + 1 → w_X8_momentDigest_l17 Q K this n x3 v6 v7 m4))))
set_option maxRecDepth 100000 in
set_option maxHeartbeats 4000000 in
theorem k_X8_momentDigest_l17 {Q : Int64 → gk_St → Prop} {K : Int64 → gk_St → Prop} {this : Nat} (h_this : gk_isO this 8) (hK : ∀ (e4 : Int64) (em : gk_St), K e4 em → Go RX8 cX8_momentDigest 7 (some .long) 9 46 [(4, .long e4)] [] em (gk_Ql Q)) : ∀ (n : Nat) (x3 : Int32) (x4 : Int64) (x6 : Int32) (μ : gk_St), w_X8_momentDigest_l17 Q K this n x3 x4 x6 μ → Go RX8 cX8_momentDigest 7 (some .long) 9 17 [(0, .ref this), (3, .int x3), (4, .long x4), (6, .int x6)] [] μ (gk_Ql Q) := by
  intro n
  induction n with
  | zero =>
    intro x3 x4 x6 μ h
    exact False.elim h
  | succ n ih =>
    intro x3 x4 x6 μ h
    unfold w_X8_momentDigest_l17 at h
    refine go_iload 3 dX8_momentDigest_17 rfl ?_
    refine go_iconst (v := 4) dX8_momentDigest_19 (by decide) ?_
    refine go_icmp_ge 46 dX8_momentDigest_20 (by decide) (fun c => ?_) (fun c => ?_)
    · replace h := gk_ip h c
      refine go_lv [2] rfl ?_
      exact hK _ _ h
    · replace h := gk_in h c
      refine go_ldc2_w dX8_momentDigest_23 ct_RX8_359 ?_
      refine go_lload 2 dX8_momentDigest_26 rfl ?_
      refine go_lmul dX8_momentDigest_28 ?_
      refine go_aload_n 0 dX8_momentDigest_29 rfl rfl ?_
      refine go_iload_n 1 dX8_momentDigest_30 rfl rfl ?_
      refine go_iload 3 dX8_momentDigest_31 rfl ?_
      refine go_callV (ci := 8) (d' := 8) [.int x3, .int x6] dX8_momentDigest_33 cw_RX8_259 ki_X8_waitsOf ks_X8_waitsOf rfl (by decide) h_this rfl (Nat.le_of_ble_eq_true rfl) (by decide) (k_X8_waitsOf h_this h) (gk_ki (fun r5 m4 h => ?_))
      refine go_i2l dX8_momentDigest_36 ?_
      refine go_ladd dX8_momentDigest_37 ?_
      refine gb_lstore (fun v6 => [(4, .long v6), (0, .ref this), (3, .int x3), (6, .int x6)]) dX8_momentDigest_38 (by decide) (fun _ => rfl) (fun v6 e => ?_)
      replace h := h v6 e
      refine gb_iinc (w := 1) 3 (fun v7 => [(6, .int v7), (4, .long v6), (0, .ref this), (3, .int x3)]) dX8_momentDigest_40 rfl (by decide) (by decide) (fun _ => rfl) (fun v7 e => ?_)
      replace h := h v7 e
      refine go_goto 17 dX8_momentDigest_43 (by decide) ?_
      refine go_lv [2, 3, 1, 0] rfl ?_
      exact ih _ _ _ _ h
def w_X8_momentDigest (this : Nat) (x1 : Int64) (x3 : Int32) (μ : gk_St) (Q : Int64 → gk_St → Prop) : Prop := w_X8_speedOf this x3 μ (fun r2 m1 => (∀ v3 : Int64, v3 = (((31 : Int64) * x1) + (Int32.toInt64 r2)) → (∃ n17 : Nat, w_X8_momentDigest_l17 Q (fun y8 m9 => Q y8 m9) this n17 x3 v3 0 m1)))
set_option maxRecDepth 100000 in
set_option maxHeartbeats 4000000 in
theorem k_X8_momentDigest {this : Nat} {x1 : Int64} {x3 : Int32} {μ : gk_St} {Q : Int64 → gk_St → Prop} (h_this : gk_isO this 8) (h : w_X8_momentDigest this x1 x3 μ Q) : gk_CT yX8_momentDigest cX8_momentDigest 7 (some .long) 9 [.ref this, .long x1, .int x3] μ (gk_Ql Q) := by
  unfold w_X8_momentDigest at h
  refine gk_enter (by decide) (Nat.le_of_ble_eq_true rfl) ?_
  show Go RX8 cX8_momentDigest 7 (some .long) 9 0 [(0, .ref this), (1, .long x1), (3, .int x3)] [] μ (gk_Ql Q)
  refine go_ldc2_w dX8_momentDigest_0 ct_RX8_359 ?_
  refine go_lload_n 1 dX8_momentDigest_3 rfl rfl ?_
  refine go_lmul dX8_momentDigest_4 ?_
  refine go_aload_n 0 dX8_momentDigest_5 rfl rfl ?_
  refine go_iload_n 2 dX8_momentDigest_6 rfl rfl ?_
  refine go_callV (ci := 8) (d' := 6) [.int x3] dX8_momentDigest_7 cw_RX8_176 ki_X8_speedOf ks_X8_speedOf rfl (by decide) h_this rfl (Nat.le_of_ble_eq_true rfl) (by decide) (k_X8_speedOf h_this h) (gk_ki (fun r2 m1 h => ?_))
  refine go_i2l dX8_momentDigest_10 ?_
  refine go_ladd dX8_momentDigest_11 ?_
  refine gb_lstore (fun v3 => [(4, .long v3), (0, .ref this), (1, .long x1), (3, .int x3)]) dX8_momentDigest_12 (by decide) (fun _ => rfl) (fun v3 e => ?_)
  replace h := h v3 e
  refine go_iconst (v := 0) dX8_momentDigest_14 (by decide) ?_
  refine go_istore [(6, .int 0), (4, .long v3), (0, .ref this), (1, .long x1), (3, .int x3)] dX8_momentDigest_15 (by decide) rfl ?_
  refine go_lv [2, 4, 1, 0] rfl ?_
  obtain ⟨n17, h⟩ := h
  refine k_X8_momentDigest_l17 h_this (fun y8 m9 h => ?_) n17 _ _ _ _ h
  refine go_lload 0 dX8_momentDigest_46 rfl ?_
  exact go_lret dX8_momentDigest_48 ⟨_, rfl, h⟩
def w_X8_atDigest (this : Nat) (x1 : Int64) (x3 : Int32) (x4 : Int32) (μ : gk_St) (Q : Int64 → gk_St → Prop) : Prop := w_X8_atOf this x3 x4 0 μ (fun r2 m1 => (∀ v3 : Int64, v3 = (((31 : Int64) * x1) + (Int32.toInt64 r2)) → w_X8_atOf this x3 x4 1 m1 (fun r5 m4 => Q (((31 : Int64) * v3) + (Int32.toInt64 r5)) m4)))
set_option maxRecDepth 100000 in
set_option maxHeartbeats 4000000 in
theorem k_X8_atDigest {this : Nat} {x1 : Int64} {x3 : Int32} {x4 : Int32} {μ : gk_St} {Q : Int64 → gk_St → Prop} (h_this : gk_isO this 8) (h : w_X8_atDigest this x1 x3 x4 μ Q) : gk_CT yX8_atDigest cX8_atDigest 7 (some .long) 9 [.ref this, .long x1, .int x3, .int x4] μ (gk_Ql Q) := by
  unfold w_X8_atDigest at h
  refine gk_enter (by decide) (Nat.le_of_ble_eq_true rfl) ?_
  show Go RX8 cX8_atDigest 7 (some .long) 9 0 [(0, .ref this), (1, .long x1), (3, .int x3), (4, .int x4)] [] μ (gk_Ql Q)
  refine go_ldc2_w dX8_atDigest_0 ct_RX8_359 ?_
  refine go_lload_n 1 dX8_atDigest_3 rfl rfl ?_
  refine go_lmul dX8_atDigest_4 ?_
  refine go_aload_n 0 dX8_atDigest_5 rfl rfl ?_
  refine go_iload_n 2 dX8_atDigest_6 rfl rfl ?_
  refine go_iload 3 dX8_atDigest_7 rfl ?_
  refine go_iconst (v := 0) dX8_atDigest_9 (by decide) ?_
  refine go_callV (ci := 8) (d' := 8) [.int x3, .int x4, .int 0] dX8_atDigest_10 cw_RX8_256 ki_X8_atOf ks_X8_atOf rfl (by decide) h_this rfl (Nat.le_of_ble_eq_true rfl) (by decide) (k_X8_atOf h_this h) (gk_ki (fun r2 m1 h => ?_))
  refine go_i2l dX8_atDigest_13 ?_
  refine go_ladd dX8_atDigest_14 ?_
  refine gb_lstore (fun v3 => [(5, .long v3), (0, .ref this), (1, .long x1), (3, .int x3), (4, .int x4)]) dX8_atDigest_15 (by decide) (fun _ => rfl) (fun v3 e => ?_)
  replace h := h v3 e
  refine go_ldc2_w dX8_atDigest_17 ct_RX8_359 ?_
  refine go_lload 0 dX8_atDigest_20 rfl ?_
  refine go_lmul dX8_atDigest_22 ?_
  refine go_aload_n 1 dX8_atDigest_23 rfl rfl ?_
  refine go_iload_n 3 dX8_atDigest_24 rfl rfl ?_
  refine go_iload 4 dX8_atDigest_25 rfl ?_
  refine go_iconst (v := 1) dX8_atDigest_27 (by decide) ?_
  refine go_callV (ci := 8) (d' := 8) [.int x3, .int x4, .int 1] dX8_atDigest_28 cw_RX8_256 ki_X8_atOf ks_X8_atOf rfl (by decide) h_this rfl (Nat.le_of_ble_eq_true rfl) (by decide) (k_X8_atOf h_this h) (gk_ki (fun r5 m4 h => ?_))
  refine go_i2l dX8_atDigest_31 ?_
  refine go_ladd dX8_atDigest_32 ?_
  exact go_lret dX8_atDigest_33 ⟨_, rfl, h⟩
def w_X8_carDigest_l6 (Q : Int64 → gk_St → Prop) (K : Int32 → Int64 → gk_St → Prop) (this : Nat) : Nat → Int32 → Int64 → Int32 → gk_St → Prop
  | 0, _, _, _, _ => False
  | n + 1, x3, x4, x6, μ => (if 3 ≤ x6 then K x3 x4 μ else w_X8_carOf this x3 x6 μ (fun r2 m1 => (∀ v3 : Int64, v3 = (((31 : Int64) * x4) + (Int32.toInt64 r2)) → (∀ v4 : Int32, v4 = x6 + 1 → w_X8_carDigest_l6 Q K this n x3 v3 v4 m1))))
set_option maxRecDepth 100000 in
set_option maxHeartbeats 4000000 in
theorem k_X8_carDigest_l6 {Q : Int64 → gk_St → Prop} {K : Int32 → Int64 → gk_St → Prop} {this : Nat} (h_this : gk_isO this 8) (hK : ∀ (e3 : Int32) (e4 : Int64) (em : gk_St), K e3 e4 em → Go RX8 cX8_carDigest 7 (some .long) 10 35 [(0, .ref this), (3, .int e3), (4, .long e4)] [] em (gk_Ql Q)) : ∀ (n : Nat) (x3 : Int32) (x4 : Int64) (x6 : Int32) (μ : gk_St), w_X8_carDigest_l6 Q K this n x3 x4 x6 μ → Go RX8 cX8_carDigest 7 (some .long) 10 6 [(0, .ref this), (3, .int x3), (4, .long x4), (6, .int x6)] [] μ (gk_Ql Q) := by
  intro n
  induction n with
  | zero =>
    intro x3 x4 x6 μ h
    exact False.elim h
  | succ n ih =>
    intro x3 x4 x6 μ h
    unfold w_X8_carDigest_l6 at h
    refine go_iload 3 dX8_carDigest_6 rfl ?_
    refine go_iconst (v := 3) dX8_carDigest_8 (by decide) ?_
    refine go_icmp_ge 35 dX8_carDigest_9 (by decide) (fun c => ?_) (fun c => ?_)
    · replace h := gk_ip h c
      refine go_lv [0, 1, 2] rfl ?_
      exact hK _ _ _ h
    · replace h := gk_in h c
      refine go_ldc2_w dX8_carDigest_12 ct_RX8_359 ?_
      refine go_lload 2 dX8_carDigest_15 rfl ?_
      refine go_lmul dX8_carDigest_17 ?_
      refine go_aload_n 0 dX8_carDigest_18 rfl rfl ?_
      refine go_iload_n 1 dX8_carDigest_19 rfl rfl ?_
      refine go_iload 3 dX8_carDigest_20 rfl ?_
      refine go_callV (ci := 8) (d' := 0) [.int x3, .int x6] dX8_carDigest_22 cw_RX8_170 ki_X8_carOf ks_X8_carOf rfl (by decide) h_this rfl (Nat.le_of_ble_eq_true rfl) (by decide) (k_X8_carOf h_this h) (gk_ki (fun r2 m1 h => ?_))
      refine go_i2l dX8_carDigest_25 ?_
      refine go_ladd dX8_carDigest_26 ?_
      refine gb_lstore (fun v3 => [(4, .long v3), (0, .ref this), (3, .int x3), (6, .int x6)]) dX8_carDigest_27 (by decide) (fun _ => rfl) (fun v3 e => ?_)
      replace h := h v3 e
      refine gb_iinc (w := 1) 3 (fun v4 => [(6, .int v4), (4, .long v3), (0, .ref this), (3, .int x3)]) dX8_carDigest_29 rfl (by decide) (by decide) (fun _ => rfl) (fun v4 e => ?_)
      replace h := h v4 e
      refine go_goto 6 dX8_carDigest_32 (by decide) ?_
      refine go_lv [2, 3, 1, 0] rfl ?_
      exact ih _ _ _ _ h
def w_X8_carDigest (this : Nat) (x1 : Int64) (x3 : Int32) (μ : gk_St) (Q : Int64 → gk_St → Prop) : Prop := (∃ n6 : Nat, w_X8_carDigest_l6 Q (fun y5 y6 m7 => w_X8_atDigest this y6 0 y5 m7 (fun r9 m8 => w_X8_atDigest this r9 5 y5 m8 (fun r11 m10 => w_X8_atDigest this r11 12 y5 m10 (fun r13 m12 => w_X8_atDigest this r13 23 y5 m12 (fun r15 m14 => w_X8_carriedOf this y5 m14 (fun r17 m16 => (∀ v18 : Int64, v18 = (((31 : Int64) * r15) + (Int32.toInt64 r17)) → w_X8_hangOf this y5 0 m16 (fun r20 m19 => (∀ v21 : Int64, v21 = (((31 : Int64) * v18) + (Int32.toInt64 r20)) → w_X8_hangOf this y5 1 m19 (fun r23 m22 => (∀ v24 : Int64, v24 = (((31 : Int64) * v21) + (Int32.toInt64 r23)) → w_X8_roomsBy this y5 m22 (fun r26 m25 => (∀ v27 : Int64, v27 = (((31 : Int64) * v24) + (Int32.toInt64 r26)) → w_X8_sortsBy this y5 m25 (fun r29 m28 => (∀ v30 : Int64, v30 = (((31 : Int64) * v27) + (Int32.toInt64 r29)) → w_X8_askOf this y5 m28 (fun r32 m31 => Q (((31 : Int64) * v30) + (Int32.toInt64 r32)) m31)))))))))))))))) this n6 x3 x1 0 μ)
set_option maxRecDepth 100000 in
set_option maxHeartbeats 4000000 in
theorem k_X8_carDigest {this : Nat} {x1 : Int64} {x3 : Int32} {μ : gk_St} {Q : Int64 → gk_St → Prop} (h_this : gk_isO this 8) (h : w_X8_carDigest this x1 x3 μ Q) : gk_CT yX8_carDigest cX8_carDigest 7 (some .long) 10 [.ref this, .long x1, .int x3] μ (gk_Ql Q) := by
  unfold w_X8_carDigest at h
  refine gk_enter (by decide) (Nat.le_of_ble_eq_true rfl) ?_
  show Go RX8 cX8_carDigest 7 (some .long) 10 0 [(0, .ref this), (1, .long x1), (3, .int x3)] [] μ (gk_Ql Q)
  refine go_lload_n 1 dX8_carDigest_0 rfl rfl ?_
  refine go_lstore [(4, .long x1), (0, .ref this), (1, .long x1), (3, .int x3)] dX8_carDigest_1 (by decide) rfl ?_
  refine go_iconst (v := 0) dX8_carDigest_3 (by decide) ?_
  refine go_istore [(6, .int 0), (4, .long x1), (0, .ref this), (1, .long x1), (3, .int x3)] dX8_carDigest_4 (by decide) rfl ?_
  refine go_lv [2, 4, 1, 0] rfl ?_
  obtain ⟨n6, h⟩ := h
  refine k_X8_carDigest_l6 h_this (fun y5 y6 m7 h => ?_) n6 _ _ _ _ h
  refine go_aload_n 0 dX8_carDigest_35 rfl rfl ?_
  refine go_lload 2 dX8_carDigest_36 rfl ?_
  refine go_iconst (v := 0) dX8_carDigest_38 (by decide) ?_
  refine go_iload_n 1 dX8_carDigest_39 rfl rfl ?_
  refine go_callV (ci := 8) (d' := 9) [.long y6, .int 0, .int y5] dX8_carDigest_40 cw_RX8_361 ki_X8_atDigest ks_X8_atDigest rfl (by decide) h_this rfl (Nat.le_of_ble_eq_true rfl) (by decide) (k_X8_atDigest h_this h) (gk_kl (fun r9 m8 h => ?_))
  refine go_lstore [(4, .long r9), (0, .ref this), (3, .int y5)] dX8_carDigest_43 (by decide) rfl ?_
  refine go_aload_n 1 dX8_carDigest_45 rfl rfl ?_
  refine go_lload 0 dX8_carDigest_46 rfl ?_
  refine go_iconst (v := 5) dX8_carDigest_48 (by decide) ?_
  refine go_iload_n 2 dX8_carDigest_49 rfl rfl ?_
  refine go_callV (ci := 8) (d' := 9) [.long r9, .int 5, .int y5] dX8_carDigest_50 cw_RX8_361 ki_X8_atDigest ks_X8_atDigest rfl (by decide) h_this rfl (Nat.le_of_ble_eq_true rfl) (by decide) (k_X8_atDigest h_this h) (gk_kl (fun r11 m10 h => ?_))
  refine go_lstore [(4, .long r11), (0, .ref this), (3, .int y5)] dX8_carDigest_53 (by decide) rfl ?_
  refine go_aload_n 1 dX8_carDigest_55 rfl rfl ?_
  refine go_lload 0 dX8_carDigest_56 rfl ?_
  refine go_bipush (v := 12) dX8_carDigest_58 (by decide) ?_
  refine go_iload_n 2 dX8_carDigest_60 rfl rfl ?_
  refine go_callV (ci := 8) (d' := 9) [.long r11, .int 12, .int y5] dX8_carDigest_61 cw_RX8_361 ki_X8_atDigest ks_X8_atDigest rfl (by decide) h_this rfl (Nat.le_of_ble_eq_true rfl) (by decide) (k_X8_atDigest h_this h) (gk_kl (fun r13 m12 h => ?_))
  refine go_lstore [(4, .long r13), (0, .ref this), (3, .int y5)] dX8_carDigest_64 (by decide) rfl ?_
  refine go_aload_n 1 dX8_carDigest_66 rfl rfl ?_
  refine go_lload 0 dX8_carDigest_67 rfl ?_
  refine go_bipush (v := 23) dX8_carDigest_69 (by decide) ?_
  refine go_iload_n 2 dX8_carDigest_71 rfl rfl ?_
  refine go_callV (ci := 8) (d' := 9) [.long r13, .int 23, .int y5] dX8_carDigest_72 cw_RX8_361 ki_X8_atDigest ks_X8_atDigest rfl (by decide) h_this rfl (Nat.le_of_ble_eq_true rfl) (by decide) (k_X8_atDigest h_this h) (gk_kl (fun r15 m14 h => ?_))
  refine go_lstore [(4, .long r15), (0, .ref this), (3, .int y5)] dX8_carDigest_75 (by decide) rfl ?_
  refine go_ldc2_w dX8_carDigest_77 ct_RX8_359 ?_
  refine go_lload 0 dX8_carDigest_80 rfl ?_
  refine go_lmul dX8_carDigest_82 ?_
  refine go_aload_n 1 dX8_carDigest_83 rfl rfl ?_
  refine go_iload_n 2 dX8_carDigest_84 rfl rfl ?_
  refine go_callV (ci := 8) (d' := 8) [.int y5] dX8_carDigest_85 cw_RX8_274 ki_X8_carriedOf ks_X8_carriedOf rfl (by decide) h_this rfl (Nat.le_of_ble_eq_true rfl) (by decide) (k_X8_carriedOf h_this h) (gk_ki (fun r17 m16 h => ?_))
  refine go_i2l dX8_carDigest_88 ?_
  refine go_ladd dX8_carDigest_89 ?_
  refine gb_lstore (fun v18 => [(4, .long v18), (0, .ref this), (3, .int y5)]) dX8_carDigest_90 (by decide) (fun _ => rfl) (fun v18 e => ?_)
  replace h := h v18 e
  refine go_ldc2_w dX8_carDigest_92 ct_RX8_359 ?_
  refine go_lload 0 dX8_carDigest_95 rfl ?_
  refine go_lmul dX8_carDigest_97 ?_
  refine go_aload_n 1 dX8_carDigest_98 rfl rfl ?_
  refine go_iload_n 2 dX8_carDigest_99 rfl rfl ?_
  refine go_iconst (v := 0) dX8_carDigest_100 (by decide) ?_
  refine go_callV (ci := 8) (d' := 7) [.int y5, .int 0] dX8_carDigest_101 cw_RX8_292 ki_X8_hangOf ks_X8_hangOf rfl (by decide) h_this rfl (Nat.le_of_ble_eq_true rfl) (by decide) (k_X8_hangOf h_this h) (gk_ki (fun r20 m19 h => ?_))
  refine go_i2l dX8_carDigest_104 ?_
  refine go_ladd dX8_carDigest_105 ?_
  refine gb_lstore (fun v21 => [(4, .long v21), (0, .ref this), (3, .int y5)]) dX8_carDigest_106 (by decide) (fun _ => rfl) (fun v21 e => ?_)
  replace h := h v21 e
  refine go_ldc2_w dX8_carDigest_108 ct_RX8_359 ?_
  refine go_lload 0 dX8_carDigest_111 rfl ?_
  refine go_lmul dX8_carDigest_113 ?_
  refine go_aload_n 1 dX8_carDigest_114 rfl rfl ?_
  refine go_iload_n 2 dX8_carDigest_115 rfl rfl ?_
  refine go_iconst (v := 1) dX8_carDigest_116 (by decide) ?_
  refine go_callV (ci := 8) (d' := 7) [.int y5, .int 1] dX8_carDigest_117 cw_RX8_292 ki_X8_hangOf ks_X8_hangOf rfl (by decide) h_this rfl (Nat.le_of_ble_eq_true rfl) (by decide) (k_X8_hangOf h_this h) (gk_ki (fun r23 m22 h => ?_))
  refine go_i2l dX8_carDigest_120 ?_
  refine go_ladd dX8_carDigest_121 ?_
  refine gb_lstore (fun v24 => [(4, .long v24), (0, .ref this), (3, .int y5)]) dX8_carDigest_122 (by decide) (fun _ => rfl) (fun v24 e => ?_)
  replace h := h v24 e
  refine go_ldc2_w dX8_carDigest_124 ct_RX8_359 ?_
  refine go_lload 0 dX8_carDigest_127 rfl ?_
  refine go_lmul dX8_carDigest_129 ?_
  refine go_aload_n 1 dX8_carDigest_130 rfl rfl ?_
  refine go_iload_n 2 dX8_carDigest_131 rfl rfl ?_
  refine go_callV (ci := 8) (d' := 7) [.int y5] dX8_carDigest_132 cw_RX8_320 ki_X8_roomsBy ks_X8_roomsBy rfl (by decide) h_this rfl (Nat.le_of_ble_eq_true rfl) (by decide) (k_X8_roomsBy h_this h) (gk_ki (fun r26 m25 h => ?_))
  refine go_i2l dX8_carDigest_135 ?_
  refine go_ladd dX8_carDigest_136 ?_
  refine gb_lstore (fun v27 => [(4, .long v27), (0, .ref this), (3, .int y5)]) dX8_carDigest_137 (by decide) (fun _ => rfl) (fun v27 e => ?_)
  replace h := h v27 e
  refine go_ldc2_w dX8_carDigest_139 ct_RX8_359 ?_
  refine go_lload 0 dX8_carDigest_142 rfl ?_
  refine go_lmul dX8_carDigest_144 ?_
  refine go_aload_n 1 dX8_carDigest_145 rfl rfl ?_
  refine go_iload_n 2 dX8_carDigest_146 rfl rfl ?_
  refine go_callV (ci := 8) (d' := 7) [.int y5] dX8_carDigest_147 cw_RX8_323 ki_X8_sortsBy ks_X8_sortsBy rfl (by decide) h_this rfl (Nat.le_of_ble_eq_true rfl) (by decide) (k_X8_sortsBy h_this h) (gk_ki (fun r29 m28 h => ?_))
  refine go_i2l dX8_carDigest_150 ?_
  refine go_ladd dX8_carDigest_151 ?_
  refine gb_lstore (fun v30 => [(4, .long v30), (0, .ref this), (3, .int y5)]) dX8_carDigest_152 (by decide) (fun _ => rfl) (fun v30 e => ?_)
  replace h := h v30 e
  refine go_ldc2_w dX8_carDigest_154 ct_RX8_359 ?_
  refine go_lload 0 dX8_carDigest_157 rfl ?_
  refine go_lmul dX8_carDigest_159 ?_
  refine go_aload_n 1 dX8_carDigest_160 rfl rfl ?_
  refine go_iload_n 2 dX8_carDigest_161 rfl rfl ?_
  refine go_callV (ci := 8) (d' := 8) [.int y5] dX8_carDigest_162 cw_RX8_326 ki_X8_askOf ks_X8_askOf rfl (by decide) h_this rfl (Nat.le_of_ble_eq_true rfl) (by decide) (k_X8_askOf h_this h) (gk_ki (fun r32 m31 h => ?_))
  refine go_i2l dX8_carDigest_165 ?_
  refine go_ladd dX8_carDigest_166 ?_
  exact go_lret dX8_carDigest_167 ⟨_, rfl, h⟩
