def w_X7_digestTold_l5 (Q : Int64 → gk_St → Prop) (K : Int64 → gk_St → Prop) (this : Nat) : Nat → Int64 → Int32 → gk_St → Prop
  | 0, _, _, _ => False
  | n + 1, x3, x5, μ => (if 7 < x5 then K x3 μ else w_X7_count this x5 μ (fun r2 m1 => w_X7_mix x3 (Int32.toInt64 r2) m1 (fun r4 m3 => (∀ v5 : Int32, v5 = x5 + 1 → w_X7_digestTold_l5 Q K this n r4 v5 m3))))
set_option maxRecDepth 100000 in
set_option maxHeartbeats 4000000 in
theorem k_X7_digestTold_l5 {Q : Int64 → gk_St → Prop} {K : Int64 → gk_St → Prop} {this : Nat} (h_this : gk_isO this 7) (hK : ∀ (e3 : Int64) (em : gk_St), K e3 em → Go RX7 cX7_digestTold 7 (some .long) 6 30 [(0, .ref this), (3, .long e3)] [] em (gk_Ql Q)) : ∀ (n : Nat) (x3 : Int64) (x5 : Int32) (μ : gk_St), w_X7_digestTold_l5 Q K this n x3 x5 μ → Go RX7 cX7_digestTold 7 (some .long) 6 5 [(0, .ref this), (3, .long x3), (5, .int x5)] [] μ (gk_Ql Q) := by
  intro n
  induction n with
  | zero =>
    intro x3 x5 μ h
    exact False.elim h
  | succ n ih =>
    intro x3 x5 μ h
    unfold w_X7_digestTold_l5 at h
    refine go_iload 2 dX7_digestTold_5 rfl ?_
    refine go_bipush (v := 7) dX7_digestTold_7 (by decide) ?_
    refine go_icmp_gt 30 dX7_digestTold_9 (by decide) (fun c => ?_) (fun c => ?_)
    · replace h := gk_ip h c
      refine go_lv [0, 1] rfl ?_
      exact hK _ _ h
    · replace h := gk_in h c
      refine go_lload_n 1 dX7_digestTold_12 rfl rfl ?_
      refine go_aload_n 0 dX7_digestTold_13 rfl rfl ?_
      refine go_iload 2 dX7_digestTold_14 rfl ?_
      refine go_callV (ci := 7) (d' := 0) [.int x5] dX7_digestTold_16 cw_RX7_377 ki_X7_count ks_X7_count rfl (by decide) h_this rfl (Nat.le_of_ble_eq_true rfl) (by decide) (k_X7_count h_this h) (gk_ki (fun r2 m1 h => ?_))
      refine go_i2l dX7_digestTold_19 ?_
      refine go_callS (d' := 0) [.long x3, .long (Int32.toInt64 r2)] dX7_digestTold_20 cw_RX7_319 kt_X7_mix rfl (Nat.le_of_ble_eq_true rfl) (by decide) (k_X7_mix h) (gk_kl (fun r4 m3 h => ?_))
      refine go_lstore_n [(3, .long r4), (0, .ref this), (5, .int x5)] dX7_digestTold_23 rfl (by decide) rfl ?_
      refine gb_iinc (w := 1) 2 (fun v5 => [(5, .int v5), (3, .long r4), (0, .ref this)]) dX7_digestTold_24 rfl (by decide) (by decide) (fun _ => rfl) (fun v5 e => ?_)
      replace h := h v5 e
      refine go_goto 5 dX7_digestTold_27 (by decide) ?_
      refine go_lv [2, 1, 0] rfl ?_
      exact ih _ _ _ h
def w_X7_digestTold_l33 (Q : Int64 → gk_St → Prop) (K : Int64 → gk_St → Prop) (this : Nat) : Nat → Int64 → Int32 → gk_St → Prop
  | 0, _, _, _ => False
  | n + 1, x3, x5, μ => (if 2 < x5 then K x3 μ else w_X7_fault this x5 μ (fun r9 m8 => w_X7_mix x3 (Int32.toInt64 r9) m8 (fun r11 m10 => (∀ v12 : Int32, v12 = x5 + 1 → w_X7_digestTold_l33 Q K this n r11 v12 m10))))
set_option maxRecDepth 100000 in
set_option maxHeartbeats 4000000 in
theorem k_X7_digestTold_l33 {Q : Int64 → gk_St → Prop} {K : Int64 → gk_St → Prop} {this : Nat} (h_this : gk_isO this 7) (hK : ∀ (e3 : Int64) (em : gk_St), K e3 em → Go RX7 cX7_digestTold 7 (some .long) 6 57 [(0, .ref this), (3, .long e3)] [] em (gk_Ql Q)) : ∀ (n : Nat) (x3 : Int64) (x5 : Int32) (μ : gk_St), w_X7_digestTold_l33 Q K this n x3 x5 μ → Go RX7 cX7_digestTold 7 (some .long) 6 33 [(0, .ref this), (3, .long x3), (5, .int x5)] [] μ (gk_Ql Q) := by
  intro n
  induction n with
  | zero =>
    intro x3 x5 μ h
    exact False.elim h
  | succ n ih =>
    intro x3 x5 μ h
    unfold w_X7_digestTold_l33 at h
    refine go_iload 2 dX7_digestTold_33 rfl ?_
    refine go_iconst (v := 2) dX7_digestTold_35 (by decide) ?_
    refine go_icmp_gt 57 dX7_digestTold_36 (by decide) (fun c => ?_) (fun c => ?_)
    · replace h := gk_ip h c
      refine go_lv [0, 1] rfl ?_
      exact hK _ _ h
    · replace h := gk_in h c
      refine go_lload_n 1 dX7_digestTold_39 rfl rfl ?_
      refine go_aload_n 0 dX7_digestTold_40 rfl rfl ?_
      refine go_iload 2 dX7_digestTold_41 rfl ?_
      refine go_callV (ci := 7) (d' := 0) [.int x5] dX7_digestTold_43 cw_RX7_380 ki_X7_fault ks_X7_fault rfl (by decide) h_this rfl (Nat.le_of_ble_eq_true rfl) (by decide) (k_X7_fault h_this h) (gk_ki (fun r9 m8 h => ?_))
      refine go_i2l dX7_digestTold_46 ?_
      refine go_callS (d' := 0) [.long x3, .long (Int32.toInt64 r9)] dX7_digestTold_47 cw_RX7_319 kt_X7_mix rfl (Nat.le_of_ble_eq_true rfl) (by decide) (k_X7_mix h) (gk_kl (fun r11 m10 h => ?_))
      refine go_lstore_n [(3, .long r11), (0, .ref this), (5, .int x5)] dX7_digestTold_50 rfl (by decide) rfl ?_
      refine gb_iinc (w := 1) 2 (fun v12 => [(5, .int v12), (3, .long r11), (0, .ref this)]) dX7_digestTold_51 rfl (by decide) (by decide) (fun _ => rfl) (fun v12 e => ?_)
      replace h := h v12 e
      refine go_goto 33 dX7_digestTold_54 (by decide) ?_
      refine go_lv [2, 1, 0] rfl ?_
      exact ih _ _ _ h
def w_X7_digestTold_l70 (Q : Int64 → gk_St → Prop) (K : Int64 → Int32 → gk_St → Prop) (this : Nat) : Nat → Int64 → Int32 → Int32 → gk_St → Prop
  | 0, _, _, _, _ => False
  | n + 1, x3, x5, x6, μ => (if 2 < x6 then K x3 x5 μ else w_X7_coming this x5 x6 μ (fun r16 m15 => w_X7_mix x3 (Int32.toInt64 r16) m15 (fun r18 m17 => (∀ v19 : Int32, v19 = x6 + 1 → w_X7_digestTold_l70 Q K this n r18 x5 v19 m17))))
set_option maxRecDepth 100000 in
set_option maxHeartbeats 4000000 in
theorem k_X7_digestTold_l70 {Q : Int64 → gk_St → Prop} {K : Int64 → Int32 → gk_St → Prop} {this : Nat} (h_this : gk_isO this 7) (hK : ∀ (e3 : Int64) (e5 : Int32) (em : gk_St), K e3 e5 em → Go RX7 cX7_digestTold 7 (some .long) 6 96 [(0, .ref this), (3, .long e3), (5, .int e5)] [] em (gk_Ql Q)) : ∀ (n : Nat) (x3 : Int64) (x5 : Int32) (x6 : Int32) (μ : gk_St), w_X7_digestTold_l70 Q K this n x3 x5 x6 μ → Go RX7 cX7_digestTold 7 (some .long) 6 70 [(0, .ref this), (3, .long x3), (5, .int x5), (6, .int x6)] [] μ (gk_Ql Q) := by
  intro n
  induction n with
  | zero =>
    intro x3 x5 x6 μ h
    exact False.elim h
  | succ n ih =>
    intro x3 x5 x6 μ h
    unfold w_X7_digestTold_l70 at h
    refine go_iload 3 dX7_digestTold_70 rfl ?_
    refine go_iconst (v := 2) dX7_digestTold_72 (by decide) ?_
    refine go_icmp_gt 96 dX7_digestTold_73 (by decide) (fun c => ?_) (fun c => ?_)
    · replace h := gk_ip h c
      refine go_lv [0, 1, 2] rfl ?_
      exact hK _ _ _ h
    · replace h := gk_in h c
      refine go_lload_n 1 dX7_digestTold_76 rfl rfl ?_
      refine go_aload_n 0 dX7_digestTold_77 rfl rfl ?_
      refine go_iload 2 dX7_digestTold_78 rfl ?_
      refine go_iload 3 dX7_digestTold_80 rfl ?_
      refine go_callV (ci := 7) (d' := 1) [.int x5, .int x6] dX7_digestTold_82 cw_RX7_382 ki_X7_coming ks_X7_coming rfl (by decide) h_this rfl (Nat.le_of_ble_eq_true rfl) (by decide) (k_X7_coming h_this h) (gk_ki (fun r16 m15 h => ?_))
      refine go_i2l dX7_digestTold_85 ?_
      refine go_callS (d' := 0) [.long x3, .long (Int32.toInt64 r16)] dX7_digestTold_86 cw_RX7_319 kt_X7_mix rfl (Nat.le_of_ble_eq_true rfl) (by decide) (k_X7_mix h) (gk_kl (fun r18 m17 h => ?_))
      refine go_lstore_n [(3, .long r18), (0, .ref this), (5, .int x5), (6, .int x6)] dX7_digestTold_89 rfl (by decide) rfl ?_
      refine gb_iinc (w := 1) 3 (fun v19 => [(6, .int v19), (3, .long r18), (0, .ref this), (5, .int x5)]) dX7_digestTold_90 rfl (by decide) (by decide) (fun _ => rfl) (fun v19 e => ?_)
      replace h := h v19 e
      refine go_goto 70 dX7_digestTold_93 (by decide) ?_
      refine go_lv [2, 1, 3, 0] rfl ?_
      exact ih _ _ _ _ h
def w_X7_digestTold_l60 (Q : Int64 → gk_St → Prop) (K : Int64 → gk_St → Prop) (this : Nat) : Nat → Int64 → Int32 → gk_St → Prop
  | 0, _, _, _ => False
  | n + 1, x3, x5, μ => (if 12 ≤ x5 then K x3 μ else (∃ n70 : Nat, w_X7_digestTold_l70 Q (fun y20 y21 m22 => (∀ v23 : Int32, v23 = y21 + 1 → w_X7_digestTold_l60 Q K this n y20 v23 m22)) this n70 x3 x5 0 μ))
set_option maxRecDepth 100000 in
set_option maxHeartbeats 4000000 in
theorem k_X7_digestTold_l60 {Q : Int64 → gk_St → Prop} {K : Int64 → gk_St → Prop} {this : Nat} (h_this : gk_isO this 7) (hK : ∀ (e3 : Int64) (em : gk_St), K e3 em → Go RX7 cX7_digestTold 7 (some .long) 6 102 [(0, .ref this), (3, .long e3)] [] em (gk_Ql Q)) : ∀ (n : Nat) (x3 : Int64) (x5 : Int32) (μ : gk_St), w_X7_digestTold_l60 Q K this n x3 x5 μ → Go RX7 cX7_digestTold 7 (some .long) 6 60 [(0, .ref this), (3, .long x3), (5, .int x5)] [] μ (gk_Ql Q) := by
  intro n
  induction n with
  | zero =>
    intro x3 x5 μ h
    exact False.elim h
  | succ n ih =>
    intro x3 x5 μ h
    unfold w_X7_digestTold_l60 at h
    refine go_iload 2 dX7_digestTold_60 rfl ?_
    refine go_bipush (v := 12) dX7_digestTold_62 (by decide) ?_
    refine go_icmp_ge 102 dX7_digestTold_64 (by decide) (fun c => ?_) (fun c => ?_)
    · replace h := gk_ip h c
      refine go_lv [0, 1] rfl ?_
      exact hK _ _ h
    · replace h := gk_in h c
      refine go_iconst (v := 0) dX7_digestTold_67 (by decide) ?_
      refine go_istore [(6, .int 0), (0, .ref this), (3, .long x3), (5, .int x5)] dX7_digestTold_68 (by decide) rfl ?_
      refine go_lv [1, 2, 3, 0] rfl ?_
      obtain ⟨n70, h⟩ := h
      refine k_X7_digestTold_l70 h_this (fun y20 y21 m22 h => ?_) n70 _ _ _ _ h
      refine gb_iinc (w := 1) 2 (fun v23 => [(5, .int v23), (0, .ref this), (3, .long y20)]) dX7_digestTold_96 rfl (by decide) (by decide) (fun _ => rfl) (fun v23 e => ?_)
      replace h := h v23 e
      refine go_goto 60 dX7_digestTold_99 (by decide) ?_
      refine go_lv [1, 2, 0] rfl ?_
      exact ih _ _ _ h
def w_X7_digestTold_l127 (Q : Int64 → gk_St → Prop) (K : Int64 → Int32 → gk_St → Prop) (this : Nat) : Nat → Int64 → Int32 → Int32 → gk_St → Prop
  | 0, _, _, _, _ => False
  | n + 1, x3, x5, x6, μ => (if 3 < x6 then K x3 x5 μ else w_X7_waits this x5 x6 μ (fun r31 m30 => w_X7_mix x3 (Int32.toInt64 r31) m30 (fun r33 m32 => (∀ v34 : Int32, v34 = x6 + 1 → w_X7_digestTold_l127 Q K this n r33 x5 v34 m32))))
set_option maxRecDepth 100000 in
set_option maxHeartbeats 4000000 in
theorem k_X7_digestTold_l127 {Q : Int64 → gk_St → Prop} {K : Int64 → Int32 → gk_St → Prop} {this : Nat} (h_this : gk_isO this 7) (hK : ∀ (e3 : Int64) (e5 : Int32) (em : gk_St), K e3 e5 em → Go RX7 cX7_digestTold 7 (some .long) 6 153 [(0, .ref this), (3, .long e3), (5, .int e5)] [] em (gk_Ql Q)) : ∀ (n : Nat) (x3 : Int64) (x5 : Int32) (x6 : Int32) (μ : gk_St), w_X7_digestTold_l127 Q K this n x3 x5 x6 μ → Go RX7 cX7_digestTold 7 (some .long) 6 127 [(0, .ref this), (3, .long x3), (5, .int x5), (6, .int x6)] [] μ (gk_Ql Q) := by
  intro n
  induction n with
  | zero =>
    intro x3 x5 x6 μ h
    exact False.elim h
  | succ n ih =>
    intro x3 x5 x6 μ h
    unfold w_X7_digestTold_l127 at h
    refine go_iload 3 dX7_digestTold_127 rfl ?_
    refine go_iconst (v := 3) dX7_digestTold_129 (by decide) ?_
    refine go_icmp_gt 153 dX7_digestTold_130 (by decide) (fun c => ?_) (fun c => ?_)
    · replace h := gk_ip h c
      refine go_lv [0, 1, 2] rfl ?_
      exact hK _ _ _ h
    · replace h := gk_in h c
      refine go_lload_n 1 dX7_digestTold_133 rfl rfl ?_
      refine go_aload_n 0 dX7_digestTold_134 rfl rfl ?_
      refine go_iload 2 dX7_digestTold_135 rfl ?_
      refine go_iload 3 dX7_digestTold_137 rfl ?_
      refine go_callV (ci := 7) (d' := 5) [.int x5, .int x6] dX7_digestTold_139 cw_RX7_388 ki_X7_waits ks_X7_waits rfl (by decide) h_this rfl (Nat.le_of_ble_eq_true rfl) (by decide) (k_X7_waits h_this h) (gk_ki (fun r31 m30 h => ?_))
      refine go_i2l dX7_digestTold_142 ?_
      refine go_callS (d' := 0) [.long x3, .long (Int32.toInt64 r31)] dX7_digestTold_143 cw_RX7_319 kt_X7_mix rfl (Nat.le_of_ble_eq_true rfl) (by decide) (k_X7_mix h) (gk_kl (fun r33 m32 h => ?_))
      refine go_lstore_n [(3, .long r33), (0, .ref this), (5, .int x5), (6, .int x6)] dX7_digestTold_146 rfl (by decide) rfl ?_
      refine gb_iinc (w := 1) 3 (fun v34 => [(6, .int v34), (3, .long r33), (0, .ref this), (5, .int x5)]) dX7_digestTold_147 rfl (by decide) (by decide) (fun _ => rfl) (fun v34 e => ?_)
      replace h := h v34 e
      refine go_goto 127 dX7_digestTold_150 (by decide) ?_
      refine go_lv [2, 1, 3, 0] rfl ?_
      exact ih _ _ _ _ h
def w_X7_digestTold_l105 (Q : Int64 → gk_St → Prop) (K : Int64 → gk_St → Prop) (this : Nat) : Nat → Int64 → Int32 → gk_St → Prop
  | 0, _, _, _ => False
  | n + 1, x3, x5, μ => (if 24 ≤ x5 then K x3 μ else w_X7_speed this x5 μ (fun r27 m26 => w_X7_mix x3 (Int32.toInt64 r27) m26 (fun r29 m28 => (∃ n127 : Nat, w_X7_digestTold_l127 Q (fun y35 y36 m37 => (∀ v38 : Int32, v38 = y36 + 1 → w_X7_digestTold_l105 Q K this n y35 v38 m37)) this n127 r29 x5 0 m28))))
set_option maxRecDepth 100000 in
set_option maxHeartbeats 4000000 in
theorem k_X7_digestTold_l105 {Q : Int64 → gk_St → Prop} {K : Int64 → gk_St → Prop} {this : Nat} (h_this : gk_isO this 7) (hK : ∀ (e3 : Int64) (em : gk_St), K e3 em → Go RX7 cX7_digestTold 7 (some .long) 6 159 [(3, .long e3)] [] em (gk_Ql Q)) : ∀ (n : Nat) (x3 : Int64) (x5 : Int32) (μ : gk_St), w_X7_digestTold_l105 Q K this n x3 x5 μ → Go RX7 cX7_digestTold 7 (some .long) 6 105 [(0, .ref this), (3, .long x3), (5, .int x5)] [] μ (gk_Ql Q) := by
  intro n
  induction n with
  | zero =>
    intro x3 x5 μ h
    exact False.elim h
  | succ n ih =>
    intro x3 x5 μ h
    unfold w_X7_digestTold_l105 at h
    refine go_iload 2 dX7_digestTold_105 rfl ?_
    refine go_bipush (v := 24) dX7_digestTold_107 (by decide) ?_
    refine go_icmp_ge 159 dX7_digestTold_109 (by decide) (fun c => ?_) (fun c => ?_)
    · replace h := gk_ip h c
      refine go_lv [1] rfl ?_
      exact hK _ _ h
    · replace h := gk_in h c
      refine go_lload_n 1 dX7_digestTold_112 rfl rfl ?_
      refine go_aload_n 0 dX7_digestTold_113 rfl rfl ?_
      refine go_iload 2 dX7_digestTold_114 rfl ?_
      refine go_callV (ci := 7) (d' := 2) [.int x5] dX7_digestTold_116 cw_RX7_385 ki_X7_speed ks_X7_speed rfl (by decide) h_this rfl (Nat.le_of_ble_eq_true rfl) (by decide) (k_X7_speed h_this h) (gk_ki (fun r27 m26 h => ?_))
      refine go_i2l dX7_digestTold_119 ?_
      refine go_callS (d' := 0) [.long x3, .long (Int32.toInt64 r27)] dX7_digestTold_120 cw_RX7_319 kt_X7_mix rfl (Nat.le_of_ble_eq_true rfl) (by decide) (k_X7_mix h) (gk_kl (fun r29 m28 h => ?_))
      refine go_lstore_n [(3, .long r29), (0, .ref this), (5, .int x5)] dX7_digestTold_123 rfl (by decide) rfl ?_
      refine go_iconst (v := 0) dX7_digestTold_124 (by decide) ?_
      refine go_istore [(6, .int 0), (3, .long r29), (0, .ref this), (5, .int x5)] dX7_digestTold_125 (by decide) rfl ?_
      refine go_lv [2, 1, 3, 0] rfl ?_
      obtain ⟨n127, h⟩ := h
      refine k_X7_digestTold_l127 h_this (fun y35 y36 m37 h => ?_) n127 _ _ _ _ h
      refine gb_iinc (w := 1) 2 (fun v38 => [(5, .int v38), (0, .ref this), (3, .long y35)]) dX7_digestTold_153 rfl (by decide) (by decide) (fun _ => rfl) (fun v38 e => ?_)
      replace h := h v38 e
      refine go_goto 105 dX7_digestTold_156 (by decide) ?_
      refine go_lv [1, 2, 0] rfl ?_
      exact ih _ _ _ h
def w_X7_digestTold (this : Nat) (x1 : Int64) (μ : gk_St) (Q : Int64 → gk_St → Prop) : Prop := (∃ n5 : Nat, w_X7_digestTold_l5 Q (fun y6 m7 => (∃ n33 : Nat, w_X7_digestTold_l33 Q (fun y13 m14 => (∃ n60 : Nat, w_X7_digestTold_l60 Q (fun y24 m25 => (∃ n105 : Nat, w_X7_digestTold_l105 Q (fun y39 m40 => Q y39 m40) this n105 y24 0 m25)) this n60 y13 0 m14)) this n33 y6 0 m7)) this n5 x1 0 μ)
set_option maxRecDepth 100000 in
set_option maxHeartbeats 4000000 in
theorem k_X7_digestTold {this : Nat} {x1 : Int64} {μ : gk_St} {Q : Int64 → gk_St → Prop} (h_this : gk_isO this 7) (h : w_X7_digestTold this x1 μ Q) : gk_CT yX7_digestTold cX7_digestTold 7 (some .long) 6 [.ref this, .long x1] μ (gk_Ql Q) := by
  unfold w_X7_digestTold at h
  refine gk_enter (by decide) (Nat.le_of_ble_eq_true rfl) ?_
  show Go RX7 cX7_digestTold 7 (some .long) 6 0 [(0, .ref this), (1, .long x1)] [] μ (gk_Ql Q)
  refine go_lload_n 1 dX7_digestTold_0 rfl rfl ?_
  refine go_lstore_n [(3, .long x1), (0, .ref this), (1, .long x1)] dX7_digestTold_1 rfl (by decide) rfl ?_
  refine go_iconst (v := 0) dX7_digestTold_2 (by decide) ?_
  refine go_istore [(5, .int 0), (3, .long x1), (0, .ref this), (1, .long x1)] dX7_digestTold_3 (by decide) rfl ?_
  refine go_lv [2, 1, 0] rfl ?_
  obtain ⟨n5, h⟩ := h
  refine k_X7_digestTold_l5 h_this (fun y6 m7 h => ?_) n5 _ _ _ h
  refine go_iconst (v := 0) dX7_digestTold_30 (by decide) ?_
  refine go_istore [(5, .int 0), (0, .ref this), (3, .long y6)] dX7_digestTold_31 (by decide) rfl ?_
  refine go_lv [1, 2, 0] rfl ?_
  obtain ⟨n33, h⟩ := h
  refine k_X7_digestTold_l33 h_this (fun y13 m14 h => ?_) n33 _ _ _ h
  refine go_iconst (v := 0) dX7_digestTold_57 (by decide) ?_
  refine go_istore [(5, .int 0), (0, .ref this), (3, .long y13)] dX7_digestTold_58 (by decide) rfl ?_
  refine go_lv [1, 2, 0] rfl ?_
  obtain ⟨n60, h⟩ := h
  refine k_X7_digestTold_l60 h_this (fun y24 m25 h => ?_) n60 _ _ _ h
  refine go_iconst (v := 0) dX7_digestTold_102 (by decide) ?_
  refine go_istore [(5, .int 0), (0, .ref this), (3, .long y24)] dX7_digestTold_103 (by decide) rfl ?_
  refine go_lv [1, 2, 0] rfl ?_
  obtain ⟨n105, h⟩ := h
  refine k_X7_digestTold_l105 h_this (fun y39 m40 h => ?_) n105 _ _ _ h
  refine go_lload_n 0 dX7_digestTold_159 rfl rfl ?_
  exact go_lret dX7_digestTold_160 ⟨_, rfl, h⟩
def w_X7_digest_l24 (Q : Int64 → gk_St → Prop) (K : Int64 → Int32 → gk_St → Prop) (this : Nat) : Nat → Int64 → Int32 → Int32 → gk_St → Prop
  | 0, _, _, _, _ => False
  | n + 1, x1, x3, x4, μ => (if 2 < x4 then K x1 x3 μ else w_X7_car this x3 x4 μ (fun r4 m3 => w_X7_mix x1 (Int32.toInt64 r4) m3 (fun r6 m5 => (∀ v7 : Int32, v7 = x4 + 1 → w_X7_digest_l24 Q K this n r6 x3 v7 m5))))
set_option maxRecDepth 100000 in
set_option maxHeartbeats 4000000 in
theorem k_X7_digest_l24 {Q : Int64 → gk_St → Prop} {K : Int64 → Int32 → gk_St → Prop} {this : Nat} (h_this : gk_isO this 7) (hK : ∀ (e1 : Int64) (e3 : Int32) (em : gk_St), K e1 e3 em → Go RX7 cX7_digest 8 (some .long) 7 49 [(0, .ref this), (1, .long e1), (3, .int e3)] [] em (gk_Ql Q)) : ∀ (n : Nat) (x1 : Int64) (x3 : Int32) (x4 : Int32) (μ : gk_St), w_X7_digest_l24 Q K this n x1 x3 x4 μ → Go RX7 cX7_digest 8 (some .long) 7 24 [(0, .ref this), (1, .long x1), (3, .int x3), (4, .int x4)] [] μ (gk_Ql Q) := by
  intro n
  induction n with
  | zero =>
    intro x1 x3 x4 μ h
    exact False.elim h
  | succ n ih =>
    intro x1 x3 x4 μ h
    unfold w_X7_digest_l24 at h
    refine go_iload 3 dX7_digest_24 rfl ?_
    refine go_iconst (v := 2) dX7_digest_26 (by decide) ?_
    refine go_icmp_gt 49 dX7_digest_27 (by decide) (fun c => ?_) (fun c => ?_)
    · replace h := gk_ip h c
      refine go_lv [0, 1, 2] rfl ?_
      exact hK _ _ _ h
    · replace h := gk_in h c
      refine go_lload_n 1 dX7_digest_30 rfl rfl ?_
      refine go_aload_n 0 dX7_digest_31 rfl rfl ?_
      refine go_iload_n 2 dX7_digest_32 rfl rfl ?_
      refine go_iload 3 dX7_digest_33 rfl ?_
      refine go_callV (ci := 7) (d' := 2) [.int x3, .int x4] dX7_digest_35 cw_RX7_316 ki_X7_car ks_X7_car rfl (by decide) h_this rfl (Nat.le_of_ble_eq_true rfl) (by decide) (k_X7_car h_this h) (gk_ki (fun r4 m3 h => ?_))
      refine go_i2l dX7_digest_38 ?_
      refine go_callS (d' := 0) [.long x1, .long (Int32.toInt64 r4)] dX7_digest_39 cw_RX7_319 kt_X7_mix rfl (Nat.le_of_ble_eq_true rfl) (by decide) (k_X7_mix h) (gk_kl (fun r6 m5 h => ?_))
      refine go_lstore_n [(1, .long r6), (0, .ref this), (3, .int x3), (4, .int x4)] dX7_digest_42 rfl (by decide) rfl ?_
      refine gb_iinc (w := 1) 3 (fun v7 => [(4, .int v7), (1, .long r6), (0, .ref this), (3, .int x3)]) dX7_digest_43 rfl (by decide) (by decide) (fun _ => rfl) (fun v7 e => ?_)
      replace h := h v7 e
      refine go_goto 24 dX7_digest_46 (by decide) ?_
      refine go_lv [2, 1, 3, 0] rfl ?_
      exact ih _ _ _ _ h
def w_X7_digest_l62 (Q : Int64 → gk_St → Prop) (K : Int64 → Int32 → gk_St → Prop) (this : Nat) (a4 : Nat) : Nat → Int64 → Int32 → Int32 → Int32 → gk_St → Prop
  | 0, _, _, _, _, _ => False
  | n + 1, x1, x3, x5, x6, μ => (if x5 ≤ x6 then K x1 x3 μ else (vp_in x6 4 ∧ (∀ v11 : Int32, v11 = (gk_dm (x6).toNatClampNeg) → w_X7_at this v11 x3 0 μ (fun r13 m12 => w_X7_mix x1 (Int32.toInt64 r13) m12 (fun r15 m14 => w_X7_at this v11 x3 1 m14 (fun r17 m16 => w_X7_mix r15 (Int32.toInt64 r17) m16 (fun r19 m18 => (∀ v20 : Int32, v20 = x6 + 1 → w_X7_digest_l62 Q K this a4 n r19 x3 x5 v20 m18))))))))
set_option maxRecDepth 100000 in
set_option maxHeartbeats 4000000 in
theorem k_X7_digest_l62 {Q : Int64 → gk_St → Prop} {K : Int64 → Int32 → gk_St → Prop} {this a4 : Nat} (h_this : gk_isO this 7) (h_a4 : a4 = 1002) (hK : ∀ (e1 : Int64) (e3 : Int32) (em : gk_St), K e1 e3 em → Go RX7 cX7_digest 8 (some .long) 7 110 [(0, .ref this), (1, .long e1), (3, .int e3)] [] em (gk_Ql Q)) : ∀ (n : Nat) (x1 : Int64) (x3 : Int32) (x5 : Int32) (x6 : Int32) (μ : gk_St), w_X7_digest_l62 Q K this a4 n x1 x3 x5 x6 μ → Go RX7 cX7_digest 8 (some .long) 7 62 [(0, .ref this), (1, .long x1), (3, .int x3), (4, .ref a4), (5, .int x5), (6, .int x6)] [] μ (gk_Ql Q) := by
  intro n
  induction n with
  | zero =>
    intro x1 x3 x5 x6 μ h
    exact False.elim h
  | succ n ih =>
    intro x1 x3 x5 x6 μ h
    unfold w_X7_digest_l62 at h
    refine go_iload 5 dX7_digest_62 rfl ?_
    refine go_iload 4 dX7_digest_64 rfl ?_
    refine go_icmp_ge 110 dX7_digest_66 (by decide) (fun c => ?_) (fun c => ?_)
    · replace h := gk_ip h c
      refine go_lv [0, 1, 2] rfl ?_
      exact hK _ _ _ h
    · replace h := gk_in h c
      refine go_aload 3 dX7_digest_69 rfl ?_
      refine go_iload 5 dX7_digest_71 rfl ?_
      refine go_ialoadD dX7_digest_73 h_a4 h.1 ?_
      replace h := h.2
      refine gb_istore (fun v11 => [(7, .int v11), (0, .ref this), (1, .long x1), (3, .int x3), (4, .ref a4), (5, .int x5), (6, .int x6)]) dX7_digest_74 (by decide) (fun _ => rfl) (fun v11 e => ?_)
      replace h := h v11 e
      refine go_lload_n 2 dX7_digest_76 rfl rfl ?_
      refine go_aload_n 1 dX7_digest_77 rfl rfl ?_
      refine go_iload 0 dX7_digest_78 rfl ?_
      refine go_iload_n 3 dX7_digest_80 rfl rfl ?_
      refine go_iconst (v := 0) dX7_digest_81 (by decide) ?_
      refine go_callV (ci := 7) (d' := 5) [.int v11, .int x3, .int 0] dX7_digest_82 cw_RX7_326 ki_X7_at ks_X7_at rfl (by decide) h_this rfl (Nat.le_of_ble_eq_true rfl) (by decide) (k_X7_at h_this h) (gk_ki (fun r13 m12 h => ?_))
      refine go_i2l dX7_digest_85 ?_
      refine go_callS (d' := 0) [.long x1, .long (Int32.toInt64 r13)] dX7_digest_86 cw_RX7_319 kt_X7_mix rfl (Nat.le_of_ble_eq_true rfl) (by decide) (k_X7_mix h) (gk_kl (fun r15 m14 h => ?_))
      refine go_lstore_n [(1, .long r15), (7, .int v11), (0, .ref this), (3, .int x3), (4, .ref a4), (5, .int x5), (6, .int x6)] dX7_digest_89 rfl (by decide) rfl ?_
      refine go_lload_n 0 dX7_digest_90 rfl rfl ?_
      refine go_aload_n 2 dX7_digest_91 rfl rfl ?_
      refine go_iload 1 dX7_digest_92 rfl ?_
      refine go_iload_n 3 dX7_digest_94 rfl rfl ?_
      refine go_iconst (v := 1) dX7_digest_95 (by decide) ?_
      refine go_callV (ci := 7) (d' := 5) [.int v11, .int x3, .int 1] dX7_digest_96 cw_RX7_326 ki_X7_at ks_X7_at rfl (by decide) h_this rfl (Nat.le_of_ble_eq_true rfl) (by decide) (k_X7_at h_this h) (gk_ki (fun r17 m16 h => ?_))
      refine go_i2l dX7_digest_99 ?_
      refine go_callS (d' := 0) [.long r15, .long (Int32.toInt64 r17)] dX7_digest_100 cw_RX7_319 kt_X7_mix rfl (Nat.le_of_ble_eq_true rfl) (by decide) (k_X7_mix h) (gk_kl (fun r19 m18 h => ?_))
      refine go_lstore_n [(1, .long r19), (7, .int v11), (0, .ref this), (3, .int x3), (4, .ref a4), (5, .int x5), (6, .int x6)] dX7_digest_103 rfl (by decide) rfl ?_
      refine gb_iinc (w := 1) 6 (fun v20 => [(6, .int v20), (1, .long r19), (7, .int v11), (0, .ref this), (3, .int x3), (4, .ref a4), (5, .int x5)]) dX7_digest_104 rfl (by decide) (by decide) (fun _ => rfl) (fun v20 e => ?_)
      replace h := h v20 e
      refine go_goto 62 dX7_digest_107 (by decide) ?_
      refine go_lv [3, 1, 4, 5, 6, 0] rfl ?_
      exact ih _ _ _ _ _ h
def w_X7_digest_l10 (Q : Int64 → gk_St → Prop) (K : Int64 → gk_St → Prop) (this : Nat) : Nat → Int64 → Int32 → gk_St → Prop
  | 0, _, _, _ => False
  | n + 1, x1, x3, μ => (if (μ (gk_rf this 3) 6) ≤ x3 then K x1 μ else (∃ n24 : Nat, w_X7_digest_l24 Q (fun y8 y9 m10 => (∃ n62 : Nat, w_X7_digest_l62 Q (fun y21 y22 m23 => w_X7_carried this y22 m23 (fun r25 m24 => w_X7_mix y21 (Int32.toInt64 r25) m24 (fun r27 m26 => w_X7_hang this y22 0 m26 (fun r29 m28 => w_X7_mix r27 (Int32.toInt64 r29) m28 (fun r31 m30 => w_X7_hang this y22 1 m30 (fun r33 m32 => w_X7_mix r31 (Int32.toInt64 r33) m32 (fun r35 m34 => w_X7_was this y22 0 m34 (fun r37 m36 => w_X7_mix r35 (Int32.toInt64 r37) m36 (fun r39 m38 => w_X7_was this y22 1 m38 (fun r41 m40 => w_X7_mix r39 (Int32.toInt64 r41) m40 (fun r43 m42 => w_X7_ask this y22 m42 (fun r45 m44 => w_X7_mix r43 (Int32.toInt64 r45) m44 (fun r47 m46 => (∀ v48 : Int32, v48 = y22 + 1 → w_X7_digest_l10 Q K this n r47 v48 m46)))))))))))))) this 1002 n62 y8 y9 4 0 m10)) this n24 x1 x3 0 μ))
set_option maxRecDepth 100000 in
set_option maxHeartbeats 4000000 in
theorem k_X7_digest_l10 {Q : Int64 → gk_St → Prop} {K : Int64 → gk_St → Prop} {this : Nat} (h_this : gk_isO this 7) (hK : ∀ (e1 : Int64) (em : gk_St), K e1 em → Go RX7 cX7_digest 8 (some .long) 7 186 [(0, .ref this), (1, .long e1)] [] em (gk_Ql Q)) : ∀ (n : Nat) (x1 : Int64) (x3 : Int32) (μ : gk_St), w_X7_digest_l10 Q K this n x1 x3 μ → Go RX7 cX7_digest 8 (some .long) 7 10 [(0, .ref this), (1, .long x1), (3, .int x3)] [] μ (gk_Ql Q) := by
  intro n
  induction n with
  | zero =>
    intro x1 x3 μ h
    exact False.elim h
  | succ n ih =>
    intro x1 x3 μ h
    unfold w_X7_digest_l10 at h
    refine go_iload_n 2 dX7_digest_10 rfl rfl ?_
    refine go_aload_n 0 dX7_digest_11 rfl rfl ?_
    refine go_getR dX7_digest_12 fl_RX7_31 h_this (rr_7_3 h_this) ?_
    refine go_getI dX7_digest_15 fl_RX7_135 (rt_7_3 h_this) (nf_6_6 (rt_7_3 h_this)) ?_
    refine go_icmp_ge 186 dX7_digest_18 (by decide) (fun c => ?_) (fun c => ?_)
    · replace h := gk_ip h c
      refine go_lv [0, 1] rfl ?_
      exact hK _ _ h
    · replace h := gk_in h c
      refine go_iconst (v := 0) dX7_digest_21 (by decide) ?_
      refine go_istore [(4, .int 0), (0, .ref this), (1, .long x1), (3, .int x3)] dX7_digest_22 (by decide) rfl ?_
      refine go_lv [1, 2, 3, 0] rfl ?_
      obtain ⟨n24, h⟩ := h
      refine k_X7_digest_l24 h_this (fun y8 y9 m10 h => ?_) n24 _ _ _ _ h
      refine go_getsD dX7_digest_49 sl_RX7_323 ?_
      refine go_astore [(4, .ref 1002), (0, .ref this), (1, .long y8), (3, .int y9)] dX7_digest_52 (by decide) rfl ?_
      refine go_aload 0 dX7_digest_54 rfl ?_
      refine go_alenD dX7_digest_56 rfl ?_
      refine go_istore [(5, .int 4), (4, .ref 1002), (0, .ref this), (1, .long y8), (3, .int y9)] dX7_digest_57 (by decide) rfl ?_
      refine go_iconst (v := 0) dX7_digest_59 (by decide) ?_
      refine go_istore [(6, .int 0), (5, .int 4), (4, .ref 1002), (0, .ref this), (1, .long y8), (3, .int y9)] dX7_digest_60 (by decide) rfl ?_
      refine go_lv [3, 4, 5, 2, 1, 0] rfl ?_
      obtain ⟨n62, h⟩ := h
      refine k_X7_digest_l62 h_this rfl (fun y21 y22 m23 h => ?_) n62 _ _ _ _ _ h
      refine go_lload_n 1 dX7_digest_110 rfl rfl ?_
      refine go_aload_n 0 dX7_digest_111 rfl rfl ?_
      refine go_iload_n 2 dX7_digest_112 rfl rfl ?_
      refine go_callV (ci := 7) (d' := 5) [.int y22] dX7_digest_113 cw_RX7_329 ki_X7_carried ks_X7_carried rfl (by decide) h_this rfl (Nat.le_of_ble_eq_true rfl) (by decide) (k_X7_carried h_this h) (gk_ki (fun r25 m24 h => ?_))
      refine go_i2l dX7_digest_116 ?_
      refine go_callS (d' := 0) [.long y21, .long (Int32.toInt64 r25)] dX7_digest_117 cw_RX7_319 kt_X7_mix rfl (Nat.le_of_ble_eq_true rfl) (by decide) (k_X7_mix h) (gk_kl (fun r27 m26 h => ?_))
      refine go_lstore_n [(1, .long r27), (0, .ref this), (3, .int y22)] dX7_digest_120 rfl (by decide) rfl ?_
      refine go_lload_n 0 dX7_digest_121 rfl rfl ?_
      refine go_aload_n 1 dX7_digest_122 rfl rfl ?_
      refine go_iload_n 2 dX7_digest_123 rfl rfl ?_
      refine go_iconst (v := 0) dX7_digest_124 (by decide) ?_
      refine go_callV (ci := 7) (d' := 4) [.int y22, .int 0] dX7_digest_125 cw_RX7_332 ki_X7_hang ks_X7_hang rfl (by decide) h_this rfl (Nat.le_of_ble_eq_true rfl) (by decide) (k_X7_hang h_this h) (gk_ki (fun r29 m28 h => ?_))
      refine go_i2l dX7_digest_128 ?_
      refine go_callS (d' := 0) [.long r27, .long (Int32.toInt64 r29)] dX7_digest_129 cw_RX7_319 kt_X7_mix rfl (Nat.le_of_ble_eq_true rfl) (by decide) (k_X7_mix h) (gk_kl (fun r31 m30 h => ?_))
      refine go_lstore_n [(1, .long r31), (0, .ref this), (3, .int y22)] dX7_digest_132 rfl (by decide) rfl ?_
      refine go_lload_n 0 dX7_digest_133 rfl rfl ?_
      refine go_aload_n 1 dX7_digest_134 rfl rfl ?_
      refine go_iload_n 2 dX7_digest_135 rfl rfl ?_
      refine go_iconst (v := 1) dX7_digest_136 (by decide) ?_
      refine go_callV (ci := 7) (d' := 4) [.int y22, .int 1] dX7_digest_137 cw_RX7_332 ki_X7_hang ks_X7_hang rfl (by decide) h_this rfl (Nat.le_of_ble_eq_true rfl) (by decide) (k_X7_hang h_this h) (gk_ki (fun r33 m32 h => ?_))
      refine go_i2l dX7_digest_140 ?_
      refine go_callS (d' := 0) [.long r31, .long (Int32.toInt64 r33)] dX7_digest_141 cw_RX7_319 kt_X7_mix rfl (Nat.le_of_ble_eq_true rfl) (by decide) (k_X7_mix h) (gk_kl (fun r35 m34 h => ?_))
      refine go_lstore_n [(1, .long r35), (0, .ref this), (3, .int y22)] dX7_digest_144 rfl (by decide) rfl ?_
      refine go_lload_n 0 dX7_digest_145 rfl rfl ?_
      refine go_aload_n 1 dX7_digest_146 rfl rfl ?_
      refine go_iload_n 2 dX7_digest_147 rfl rfl ?_
      refine go_iconst (v := 0) dX7_digest_148 (by decide) ?_
      refine go_callV (ci := 7) (d' := 6) [.int y22, .int 0] dX7_digest_149 cw_RX7_335 ki_X7_was ks_X7_was rfl (by decide) h_this rfl (Nat.le_of_ble_eq_true rfl) (by decide) (k_X7_was h_this h) (gk_ki (fun r37 m36 h => ?_))
      refine go_i2l dX7_digest_152 ?_
      refine go_callS (d' := 0) [.long r35, .long (Int32.toInt64 r37)] dX7_digest_153 cw_RX7_319 kt_X7_mix rfl (Nat.le_of_ble_eq_true rfl) (by decide) (k_X7_mix h) (gk_kl (fun r39 m38 h => ?_))
      refine go_lstore_n [(1, .long r39), (0, .ref this), (3, .int y22)] dX7_digest_156 rfl (by decide) rfl ?_
      refine go_lload_n 0 dX7_digest_157 rfl rfl ?_
      refine go_aload_n 1 dX7_digest_158 rfl rfl ?_
      refine go_iload_n 2 dX7_digest_159 rfl rfl ?_
      refine go_iconst (v := 1) dX7_digest_160 (by decide) ?_
      refine go_callV (ci := 7) (d' := 6) [.int y22, .int 1] dX7_digest_161 cw_RX7_335 ki_X7_was ks_X7_was rfl (by decide) h_this rfl (Nat.le_of_ble_eq_true rfl) (by decide) (k_X7_was h_this h) (gk_ki (fun r41 m40 h => ?_))
      refine go_i2l dX7_digest_164 ?_
      refine go_callS (d' := 0) [.long r39, .long (Int32.toInt64 r41)] dX7_digest_165 cw_RX7_319 kt_X7_mix rfl (Nat.le_of_ble_eq_true rfl) (by decide) (k_X7_mix h) (gk_kl (fun r43 m42 h => ?_))
      refine go_lstore_n [(1, .long r43), (0, .ref this), (3, .int y22)] dX7_digest_168 rfl (by decide) rfl ?_
      refine go_lload_n 0 dX7_digest_169 rfl rfl ?_
      refine go_aload_n 1 dX7_digest_170 rfl rfl ?_
      refine go_iload_n 2 dX7_digest_171 rfl rfl ?_
      refine go_callV (ci := 7) (d' := 6) [.int y22] dX7_digest_172 cw_RX7_338 ki_X7_ask ks_X7_ask rfl (by decide) h_this rfl (Nat.le_of_ble_eq_true rfl) (by decide) (k_X7_ask h_this h) (gk_ki (fun r45 m44 h => ?_))
      refine go_i2l dX7_digest_175 ?_
      refine go_callS (d' := 0) [.long r43, .long (Int32.toInt64 r45)] dX7_digest_176 cw_RX7_319 kt_X7_mix rfl (Nat.le_of_ble_eq_true rfl) (by decide) (k_X7_mix h) (gk_kl (fun r47 m46 h => ?_))
      refine go_lstore_n [(1, .long r47), (0, .ref this), (3, .int y22)] dX7_digest_179 rfl (by decide) rfl ?_
      refine gb_iinc (w := 1) 2 (fun v48 => [(3, .int v48), (1, .long r47), (0, .ref this)]) dX7_digest_180 rfl (by decide) (by decide) (fun _ => rfl) (fun v48 e => ?_)
      replace h := h v48 e
      refine go_goto 10 dX7_digest_183 (by decide) ?_
      refine go_lv [2, 1, 0] rfl ?_
      exact ih _ _ _ h
def w_X7_digest_l188 (Q : Int64 → gk_St → Prop) (K : Int64 → gk_St → Prop) (this : Nat) : Nat → Int64 → Int32 → gk_St → Prop
  | 0, _, _, _ => False
  | n + 1, x1, x3, μ => (if 2 ≤ x3 then K x1 μ else w_X7_over this x3 μ (fun r52 m51 => w_X7_mix x1 (Int32.toInt64 r52) m51 (fun r54 m53 => w_X7_crowd this x3 0 m53 (fun r56 m55 => w_X7_mix r54 (Int32.toInt64 r56) m55 (fun r58 m57 => w_X7_crowd this x3 1 m57 (fun r60 m59 => w_X7_mix r58 (Int32.toInt64 r60) m59 (fun r62 m61 => (∀ v63 : Int32, v63 = x3 + 1 → w_X7_digest_l188 Q K this n r62 v63 m61))))))))
set_option maxRecDepth 100000 in
set_option maxHeartbeats 4000000 in
theorem k_X7_digest_l188 {Q : Int64 → gk_St → Prop} {K : Int64 → gk_St → Prop} {this : Nat} (h_this : gk_isO this 7) (hK : ∀ (e1 : Int64) (em : gk_St), K e1 em → Go RX7 cX7_digest 8 (some .long) 7 234 [(0, .ref this), (1, .long e1)] [] em (gk_Ql Q)) : ∀ (n : Nat) (x1 : Int64) (x3 : Int32) (μ : gk_St), w_X7_digest_l188 Q K this n x1 x3 μ → Go RX7 cX7_digest 8 (some .long) 7 188 [(0, .ref this), (1, .long x1), (3, .int x3)] [] μ (gk_Ql Q) := by
  intro n
  induction n with
  | zero =>
    intro x1 x3 μ h
    exact False.elim h
  | succ n ih =>
    intro x1 x3 μ h
    unfold w_X7_digest_l188 at h
    refine go_iload_n 2 dX7_digest_188 rfl rfl ?_
    refine go_iconst (v := 2) dX7_digest_189 (by decide) ?_
    refine go_icmp_ge 234 dX7_digest_190 (by decide) (fun c => ?_) (fun c => ?_)
    · replace h := gk_ip h c
      refine go_lv [0, 1] rfl ?_
      exact hK _ _ h
    · replace h := gk_in h c
      refine go_lload_n 1 dX7_digest_193 rfl rfl ?_
      refine go_aload_n 0 dX7_digest_194 rfl rfl ?_
      refine go_iload_n 2 dX7_digest_195 rfl rfl ?_
      refine go_callV (ci := 7) (d' := 5) [.int x3] dX7_digest_196 cw_RX7_341 ki_X7_over ks_X7_over rfl (by decide) h_this rfl (Nat.le_of_ble_eq_true rfl) (by decide) (k_X7_over h_this h) (gk_ki (fun r52 m51 h => ?_))
      refine go_i2l dX7_digest_199 ?_
      refine go_callS (d' := 0) [.long x1, .long (Int32.toInt64 r52)] dX7_digest_200 cw_RX7_319 kt_X7_mix rfl (Nat.le_of_ble_eq_true rfl) (by decide) (k_X7_mix h) (gk_kl (fun r54 m53 h => ?_))
      refine go_lstore_n [(1, .long r54), (0, .ref this), (3, .int x3)] dX7_digest_203 rfl (by decide) rfl ?_
      refine go_lload_n 0 dX7_digest_204 rfl rfl ?_
      refine go_aload_n 1 dX7_digest_205 rfl rfl ?_
      refine go_iload_n 2 dX7_digest_206 rfl rfl ?_
      refine go_iconst (v := 0) dX7_digest_207 (by decide) ?_
      refine go_callV (ci := 7) (d' := 5) [.int x3, .int 0] dX7_digest_208 cw_RX7_344 ki_X7_crowd ks_X7_crowd rfl (by decide) h_this rfl (Nat.le_of_ble_eq_true rfl) (by decide) (k_X7_crowd h_this h) (gk_ki (fun r56 m55 h => ?_))
      refine go_i2l dX7_digest_211 ?_
      refine go_callS (d' := 0) [.long r54, .long (Int32.toInt64 r56)] dX7_digest_212 cw_RX7_319 kt_X7_mix rfl (Nat.le_of_ble_eq_true rfl) (by decide) (k_X7_mix h) (gk_kl (fun r58 m57 h => ?_))
      refine go_lstore_n [(1, .long r58), (0, .ref this), (3, .int x3)] dX7_digest_215 rfl (by decide) rfl ?_
      refine go_lload_n 0 dX7_digest_216 rfl rfl ?_
      refine go_aload_n 1 dX7_digest_217 rfl rfl ?_
      refine go_iload_n 2 dX7_digest_218 rfl rfl ?_
      refine go_iconst (v := 1) dX7_digest_219 (by decide) ?_
      refine go_callV (ci := 7) (d' := 5) [.int x3, .int 1] dX7_digest_220 cw_RX7_344 ki_X7_crowd ks_X7_crowd rfl (by decide) h_this rfl (Nat.le_of_ble_eq_true rfl) (by decide) (k_X7_crowd h_this h) (gk_ki (fun r60 m59 h => ?_))
      refine go_i2l dX7_digest_223 ?_
      refine go_callS (d' := 0) [.long r58, .long (Int32.toInt64 r60)] dX7_digest_224 cw_RX7_319 kt_X7_mix rfl (Nat.le_of_ble_eq_true rfl) (by decide) (k_X7_mix h) (gk_kl (fun r62 m61 h => ?_))
      refine go_lstore_n [(1, .long r62), (0, .ref this), (3, .int x3)] dX7_digest_227 rfl (by decide) rfl ?_
      refine gb_iinc (w := 1) 2 (fun v63 => [(3, .int v63), (1, .long r62), (0, .ref this)]) dX7_digest_228 rfl (by decide) (by decide) (fun _ => rfl) (fun v63 e => ?_)
      replace h := h v63 e
      refine go_goto 188 dX7_digest_231 (by decide) ?_
      refine go_lv [2, 1, 0] rfl ?_
      exact ih _ _ _ h
def w_X7_digest (this : Nat) (μ : gk_St) (Q : Int64 → gk_St → Prop) : Prop := w_X7_digestTold this 17 μ (fun r2 m1 => (∃ n10 : Nat, w_X7_digest_l10 Q (fun y49 m50 => (∃ n188 : Nat, w_X7_digest_l188 Q (fun y64 m65 => w_X7_sum this m65 (fun r67 m66 => w_X7_mix y64 (Int32.toInt64 r67) m66 (fun r69 m68 => w_X7_first this 0 m68 (fun r71 m70 => w_X7_mix r69 (Int32.toInt64 r71) m70 (fun r73 m72 => w_X7_first this 1 m72 (fun r75 m74 => w_X7_mix r73 (Int32.toInt64 r75) m74 (fun r77 m76 => w_X7_idle this m76 (fun r79 m78 => w_X7_mix r77 (Int32.toInt64 r79) m78 (fun r81 m80 => w_X7_left this m80 (fun r83 m82 => w_X7_mix r81 (Int32.toInt64 r83) m82 (fun r85 m84 => w_X7_pace this 8 0 m84 (fun r87 m86 => w_X7_mix r85 (Int32.toInt64 r87) m86 (fun r89 m88 => w_X7_pace this 8 1 m88 (fun r91 m90 => w_X7_mix r89 (Int32.toInt64 r91) m90 (fun r93 m92 => w_X7_cheap this 8 0 m92 (fun r95 m94 => w_X7_mix r93 (Int32.toInt64 r95) m94 (fun r97 m96 => w_X7_cheap this 8 1 m96 (fun r99 m98 => w_X7_mix r97 (Int32.toInt64 r99) m98 (fun r101 m100 => w_X7_chance this 5 17 0 m100 (fun r103 m102 => w_X7_mix r101 r103 m102 (fun r105 m104 => w_X7_chance this 5 17 1 m104 (fun r107 m106 => w_X7_mix r105 r107 m106 (fun r109 m108 => w_X7_spare this (-1) m108 (fun r111 m110 => w_X7_mix r109 (Int32.toInt64 r111) m110 (fun r113 m112 => w_X7_spare this 0 m112 (fun r115 m114 => w_X7_mix r113 (Int32.toInt64 r115) m114 (fun r117 m116 => w_X7_never this m116 (fun r119 m118 => w_X7_mix r117 (Int32.toInt64 r119) m118 (fun r121 m120 => w_X7_years this 7 18 0 m120 (fun r123 m122 => w_X7_mix r121 (Int32.toInt64 r123) m122 (fun r125 m124 => w_X7_years this 7 18 1 m124 (fun r127 m126 => w_X7_mix r125 (Int32.toInt64 r127) m126 (fun r129 m128 => Q r129 m128))))))))))))))))))))))))))))))))) this n188 y49 0 m50)) this n10 r2 0 m1))
set_option maxRecDepth 100000 in
set_option maxHeartbeats 4000000 in
theorem k_X7_digest {this : Nat} {μ : gk_St} {Q : Int64 → gk_St → Prop} (h_this : gk_isO this 7) (h : w_X7_digest this μ Q) : gk_CT yX7_digest cX7_digest 8 (some .long) 7 [.ref this] μ (gk_Ql Q) := by
  unfold w_X7_digest at h
  refine gk_enter (by decide) (Nat.le_of_ble_eq_true rfl) ?_
  show Go RX7 cX7_digest 8 (some .long) 7 0 [(0, .ref this)] [] μ (gk_Ql Q)
  refine go_aload_n 0 dX7_digest_0 rfl rfl ?_
  refine go_ldc2_w dX7_digest_1 ct_RX7_310 ?_
  refine go_callV (ci := 7) (d' := 6) [.long 17] dX7_digest_4 cw_RX7_312 ki_X7_digestTold ks_X7_digestTold rfl (by decide) h_this rfl (Nat.le_of_ble_eq_true rfl) (by decide) (k_X7_digestTold h_this h) (gk_kl (fun r2 m1 h => ?_))
  refine go_lstore_n [(1, .long r2), (0, .ref this)] dX7_digest_7 rfl (by decide) rfl ?_
  refine go_iconst (v := 0) dX7_digest_8 (by decide) ?_
  refine go_istore_n [(3, .int 0), (1, .long r2), (0, .ref this)] dX7_digest_9 rfl (by decide) rfl ?_
  refine go_lv [2, 1, 0] rfl ?_
  obtain ⟨n10, h⟩ := h
  refine k_X7_digest_l10 h_this (fun y49 m50 h => ?_) n10 _ _ _ h
  refine go_iconst (v := 0) dX7_digest_186 (by decide) ?_
  refine go_istore_n [(3, .int 0), (0, .ref this), (1, .long y49)] dX7_digest_187 rfl (by decide) rfl ?_
  refine go_lv [1, 2, 0] rfl ?_
  obtain ⟨n188, h⟩ := h
  refine k_X7_digest_l188 h_this (fun y64 m65 h => ?_) n188 _ _ _ h
  refine go_lload_n 1 dX7_digest_234 rfl rfl ?_
  refine go_aload_n 0 dX7_digest_235 rfl rfl ?_
  refine go_callV (ci := 7) (d' := 5) [] dX7_digest_236 cw_RX7_347 ki_X7_sum ks_X7_sum rfl (by decide) h_this rfl (Nat.le_of_ble_eq_true rfl) (by decide) (k_X7_sum h_this h) (gk_ki (fun r67 m66 h => ?_))
  refine go_i2l dX7_digest_239 ?_
  refine go_callS (d' := 0) [.long y64, .long (Int32.toInt64 r67)] dX7_digest_240 cw_RX7_319 kt_X7_mix rfl (Nat.le_of_ble_eq_true rfl) (by decide) (k_X7_mix h) (gk_kl (fun r69 m68 h => ?_))
  refine go_lstore_n [(1, .long r69), (0, .ref this)] dX7_digest_243 rfl (by decide) rfl ?_
  refine go_lload_n 0 dX7_digest_244 rfl rfl ?_
  refine go_aload_n 1 dX7_digest_245 rfl rfl ?_
  refine go_iconst (v := 0) dX7_digest_246 (by decide) ?_
  refine go_callV (ci := 7) (d' := 5) [.int 0] dX7_digest_247 cw_RX7_350 ki_X7_first ks_X7_first rfl (by decide) h_this rfl (Nat.le_of_ble_eq_true rfl) (by decide) (k_X7_first h_this h) (gk_ki (fun r71 m70 h => ?_))
  refine go_i2l dX7_digest_250 ?_
  refine go_callS (d' := 0) [.long r69, .long (Int32.toInt64 r71)] dX7_digest_251 cw_RX7_319 kt_X7_mix rfl (Nat.le_of_ble_eq_true rfl) (by decide) (k_X7_mix h) (gk_kl (fun r73 m72 h => ?_))
  refine go_lstore_n [(1, .long r73), (0, .ref this)] dX7_digest_254 rfl (by decide) rfl ?_
  refine go_lload_n 0 dX7_digest_255 rfl rfl ?_
  refine go_aload_n 1 dX7_digest_256 rfl rfl ?_
  refine go_iconst (v := 1) dX7_digest_257 (by decide) ?_
  refine go_callV (ci := 7) (d' := 5) [.int 1] dX7_digest_258 cw_RX7_350 ki_X7_first ks_X7_first rfl (by decide) h_this rfl (Nat.le_of_ble_eq_true rfl) (by decide) (k_X7_first h_this h) (gk_ki (fun r75 m74 h => ?_))
  refine go_i2l dX7_digest_261 ?_
  refine go_callS (d' := 0) [.long r73, .long (Int32.toInt64 r75)] dX7_digest_262 cw_RX7_319 kt_X7_mix rfl (Nat.le_of_ble_eq_true rfl) (by decide) (k_X7_mix h) (gk_kl (fun r77 m76 h => ?_))
  refine go_lstore_n [(1, .long r77), (0, .ref this)] dX7_digest_265 rfl (by decide) rfl ?_
  refine go_lload_n 0 dX7_digest_266 rfl rfl ?_
  refine go_aload_n 1 dX7_digest_267 rfl rfl ?_
  refine go_callV (ci := 7) (d' := 5) [] dX7_digest_268 cw_RX7_353 ki_X7_idle ks_X7_idle rfl (by decide) h_this rfl (Nat.le_of_ble_eq_true rfl) (by decide) (k_X7_idle h_this h) (gk_ki (fun r79 m78 h => ?_))
  refine go_i2l dX7_digest_271 ?_
  refine go_callS (d' := 0) [.long r77, .long (Int32.toInt64 r79)] dX7_digest_272 cw_RX7_319 kt_X7_mix rfl (Nat.le_of_ble_eq_true rfl) (by decide) (k_X7_mix h) (gk_kl (fun r81 m80 h => ?_))
  refine go_lstore_n [(1, .long r81), (0, .ref this)] dX7_digest_275 rfl (by decide) rfl ?_
  refine go_lload_n 0 dX7_digest_276 rfl rfl ?_
  refine go_aload_n 1 dX7_digest_277 rfl rfl ?_
  refine go_callV (ci := 7) (d' := 5) [] dX7_digest_278 cw_RX7_356 ki_X7_left ks_X7_left rfl (by decide) h_this rfl (Nat.le_of_ble_eq_true rfl) (by decide) (k_X7_left h_this h) (gk_ki (fun r83 m82 h => ?_))
  refine go_i2l dX7_digest_281 ?_
  refine go_callS (d' := 0) [.long r81, .long (Int32.toInt64 r83)] dX7_digest_282 cw_RX7_319 kt_X7_mix rfl (Nat.le_of_ble_eq_true rfl) (by decide) (k_X7_mix h) (gk_kl (fun r85 m84 h => ?_))
  refine go_lstore_n [(1, .long r85), (0, .ref this)] dX7_digest_285 rfl (by decide) rfl ?_
  refine go_lload_n 0 dX7_digest_286 rfl rfl ?_
  refine go_aload_n 1 dX7_digest_287 rfl rfl ?_
  refine go_bipush (v := 8) dX7_digest_288 (by decide) ?_
  refine go_iconst (v := 0) dX7_digest_290 (by decide) ?_
  refine go_callV (ci := 7) (d' := 4) [.int 8, .int 0] dX7_digest_291 cw_RX7_359 ki_X7_pace ks_X7_pace rfl (by decide) h_this rfl (Nat.le_of_ble_eq_true rfl) (by decide) (k_X7_pace h_this h) (gk_ki (fun r87 m86 h => ?_))
  refine go_i2l dX7_digest_294 ?_
  refine go_callS (d' := 0) [.long r85, .long (Int32.toInt64 r87)] dX7_digest_295 cw_RX7_319 kt_X7_mix rfl (Nat.le_of_ble_eq_true rfl) (by decide) (k_X7_mix h) (gk_kl (fun r89 m88 h => ?_))
  refine go_lstore_n [(1, .long r89), (0, .ref this)] dX7_digest_298 rfl (by decide) rfl ?_
  refine go_lload_n 0 dX7_digest_299 rfl rfl ?_
  refine go_aload_n 1 dX7_digest_300 rfl rfl ?_
  refine go_bipush (v := 8) dX7_digest_301 (by decide) ?_
  refine go_iconst (v := 1) dX7_digest_303 (by decide) ?_
  refine go_callV (ci := 7) (d' := 4) [.int 8, .int 1] dX7_digest_304 cw_RX7_359 ki_X7_pace ks_X7_pace rfl (by decide) h_this rfl (Nat.le_of_ble_eq_true rfl) (by decide) (k_X7_pace h_this h) (gk_ki (fun r91 m90 h => ?_))
  refine go_i2l dX7_digest_307 ?_
  refine go_callS (d' := 0) [.long r89, .long (Int32.toInt64 r91)] dX7_digest_308 cw_RX7_319 kt_X7_mix rfl (Nat.le_of_ble_eq_true rfl) (by decide) (k_X7_mix h) (gk_kl (fun r93 m92 h => ?_))
  refine go_lstore_n [(1, .long r93), (0, .ref this)] dX7_digest_311 rfl (by decide) rfl ?_
  refine go_lload_n 0 dX7_digest_312 rfl rfl ?_
  refine go_aload_n 1 dX7_digest_313 rfl rfl ?_
  refine go_bipush (v := 8) dX7_digest_314 (by decide) ?_
  refine go_iconst (v := 0) dX7_digest_316 (by decide) ?_
  refine go_callV (ci := 7) (d' := 4) [.int 8, .int 0] dX7_digest_317 cw_RX7_361 ki_X7_cheap ks_X7_cheap rfl (by decide) h_this rfl (Nat.le_of_ble_eq_true rfl) (by decide) (k_X7_cheap h_this h) (gk_ki (fun r95 m94 h => ?_))
  refine go_i2l dX7_digest_320 ?_
  refine go_callS (d' := 0) [.long r93, .long (Int32.toInt64 r95)] dX7_digest_321 cw_RX7_319 kt_X7_mix rfl (Nat.le_of_ble_eq_true rfl) (by decide) (k_X7_mix h) (gk_kl (fun r97 m96 h => ?_))
  refine go_lstore_n [(1, .long r97), (0, .ref this)] dX7_digest_324 rfl (by decide) rfl ?_
  refine go_lload_n 0 dX7_digest_325 rfl rfl ?_
  refine go_aload_n 1 dX7_digest_326 rfl rfl ?_
  refine go_bipush (v := 8) dX7_digest_327 (by decide) ?_
  refine go_iconst (v := 1) dX7_digest_329 (by decide) ?_
  refine go_callV (ci := 7) (d' := 4) [.int 8, .int 1] dX7_digest_330 cw_RX7_361 ki_X7_cheap ks_X7_cheap rfl (by decide) h_this rfl (Nat.le_of_ble_eq_true rfl) (by decide) (k_X7_cheap h_this h) (gk_ki (fun r99 m98 h => ?_))
  refine go_i2l dX7_digest_333 ?_
  refine go_callS (d' := 0) [.long r97, .long (Int32.toInt64 r99)] dX7_digest_334 cw_RX7_319 kt_X7_mix rfl (Nat.le_of_ble_eq_true rfl) (by decide) (k_X7_mix h) (gk_kl (fun r101 m100 h => ?_))
  refine go_lstore_n [(1, .long r101), (0, .ref this)] dX7_digest_337 rfl (by decide) rfl ?_
  refine go_lload_n 0 dX7_digest_338 rfl rfl ?_
  refine go_aload_n 1 dX7_digest_339 rfl rfl ?_
  refine go_iconst (v := 5) dX7_digest_340 (by decide) ?_
  refine go_bipush (v := 17) dX7_digest_341 (by decide) ?_
  refine go_iconst (v := 0) dX7_digest_343 (by decide) ?_
  refine go_callV (ci := 7) (d' := 5) [.int 5, .int 17, .int 0] dX7_digest_344 cw_RX7_364 ki_X7_chance ks_X7_chance rfl (by decide) h_this rfl (Nat.le_of_ble_eq_true rfl) (by decide) (k_X7_chance h_this h) (gk_kl (fun r103 m102 h => ?_))
  refine go_callS (d' := 0) [.long r101, .long r103] dX7_digest_347 cw_RX7_319 kt_X7_mix rfl (Nat.le_of_ble_eq_true rfl) (by decide) (k_X7_mix h) (gk_kl (fun r105 m104 h => ?_))
  refine go_lstore_n [(1, .long r105), (0, .ref this)] dX7_digest_350 rfl (by decide) rfl ?_
  refine go_lload_n 0 dX7_digest_351 rfl rfl ?_
  refine go_aload_n 1 dX7_digest_352 rfl rfl ?_
  refine go_iconst (v := 5) dX7_digest_353 (by decide) ?_
  refine go_bipush (v := 17) dX7_digest_354 (by decide) ?_
  refine go_iconst (v := 1) dX7_digest_356 (by decide) ?_
  refine go_callV (ci := 7) (d' := 5) [.int 5, .int 17, .int 1] dX7_digest_357 cw_RX7_364 ki_X7_chance ks_X7_chance rfl (by decide) h_this rfl (Nat.le_of_ble_eq_true rfl) (by decide) (k_X7_chance h_this h) (gk_kl (fun r107 m106 h => ?_))
  refine go_callS (d' := 0) [.long r105, .long r107] dX7_digest_360 cw_RX7_319 kt_X7_mix rfl (Nat.le_of_ble_eq_true rfl) (by decide) (k_X7_mix h) (gk_kl (fun r109 m108 h => ?_))
  refine go_lstore_n [(1, .long r109), (0, .ref this)] dX7_digest_363 rfl (by decide) rfl ?_
  refine go_lload_n 0 dX7_digest_364 rfl rfl ?_
  refine go_aload_n 1 dX7_digest_365 rfl rfl ?_
  refine go_iconst (v := (-1)) dX7_digest_366 (by decide) ?_
  refine go_callV (ci := 7) (d' := 6) [.int (-1)] dX7_digest_367 cw_RX7_368 ki_X7_spare ks_X7_spare rfl (by decide) h_this rfl (Nat.le_of_ble_eq_true rfl) (by decide) (k_X7_spare h_this h) (gk_ki (fun r111 m110 h => ?_))
  refine go_i2l dX7_digest_370 ?_
  refine go_callS (d' := 0) [.long r109, .long (Int32.toInt64 r111)] dX7_digest_371 cw_RX7_319 kt_X7_mix rfl (Nat.le_of_ble_eq_true rfl) (by decide) (k_X7_mix h) (gk_kl (fun r113 m112 h => ?_))
  refine go_lstore_n [(1, .long r113), (0, .ref this)] dX7_digest_374 rfl (by decide) rfl ?_
  refine go_lload_n 0 dX7_digest_375 rfl rfl ?_
  refine go_aload_n 1 dX7_digest_376 rfl rfl ?_
  refine go_iconst (v := 0) dX7_digest_377 (by decide) ?_
  refine go_callV (ci := 7) (d' := 6) [.int 0] dX7_digest_378 cw_RX7_368 ki_X7_spare ks_X7_spare rfl (by decide) h_this rfl (Nat.le_of_ble_eq_true rfl) (by decide) (k_X7_spare h_this h) (gk_ki (fun r115 m114 h => ?_))
  refine go_i2l dX7_digest_381 ?_
  refine go_callS (d' := 0) [.long r113, .long (Int32.toInt64 r115)] dX7_digest_382 cw_RX7_319 kt_X7_mix rfl (Nat.le_of_ble_eq_true rfl) (by decide) (k_X7_mix h) (gk_kl (fun r117 m116 h => ?_))
  refine go_lstore_n [(1, .long r117), (0, .ref this)] dX7_digest_385 rfl (by decide) rfl ?_
  refine go_lload_n 0 dX7_digest_386 rfl rfl ?_
  refine go_aload_n 1 dX7_digest_387 rfl rfl ?_
  refine go_callV (ci := 7) (d' := 5) [] dX7_digest_388 cw_RX7_371 ki_X7_never ks_X7_never rfl (by decide) h_this rfl (Nat.le_of_ble_eq_true rfl) (by decide) (k_X7_never h_this h) (gk_ki (fun r119 m118 h => ?_))
  refine go_i2l dX7_digest_391 ?_
  refine go_callS (d' := 0) [.long r117, .long (Int32.toInt64 r119)] dX7_digest_392 cw_RX7_319 kt_X7_mix rfl (Nat.le_of_ble_eq_true rfl) (by decide) (k_X7_mix h) (gk_kl (fun r121 m120 h => ?_))
  refine go_lstore_n [(1, .long r121), (0, .ref this)] dX7_digest_395 rfl (by decide) rfl ?_
  refine go_lload_n 0 dX7_digest_396 rfl rfl ?_
  refine go_aload_n 1 dX7_digest_397 rfl rfl ?_
  refine go_bipush (v := 7) dX7_digest_398 (by decide) ?_
  refine go_bipush (v := 18) dX7_digest_400 (by decide) ?_
  refine go_iconst (v := 0) dX7_digest_402 (by decide) ?_
  refine go_callV (ci := 7) (d' := 4) [.int 7, .int 18, .int 0] dX7_digest_403 cw_RX7_374 ki_X7_years ks_X7_years rfl (by decide) h_this rfl (Nat.le_of_ble_eq_true rfl) (by decide) (k_X7_years h_this h) (gk_ki (fun r123 m122 h => ?_))
  refine go_i2l dX7_digest_406 ?_
  refine go_callS (d' := 0) [.long r121, .long (Int32.toInt64 r123)] dX7_digest_407 cw_RX7_319 kt_X7_mix rfl (Nat.le_of_ble_eq_true rfl) (by decide) (k_X7_mix h) (gk_kl (fun r125 m124 h => ?_))
  refine go_lstore_n [(1, .long r125), (0, .ref this)] dX7_digest_410 rfl (by decide) rfl ?_
  refine go_lload_n 0 dX7_digest_411 rfl rfl ?_
  refine go_aload_n 1 dX7_digest_412 rfl rfl ?_
  refine go_bipush (v := 7) dX7_digest_413 (by decide) ?_
  refine go_bipush (v := 18) dX7_digest_415 (by decide) ?_
  refine go_iconst (v := 1) dX7_digest_417 (by decide) ?_
  refine go_callV (ci := 7) (d' := 4) [.int 7, .int 18, .int 1] dX7_digest_418 cw_RX7_374 ki_X7_years ks_X7_years rfl (by decide) h_this rfl (Nat.le_of_ble_eq_true rfl) (by decide) (k_X7_years h_this h) (gk_ki (fun r127 m126 h => ?_))
  refine go_i2l dX7_digest_421 ?_
  refine go_callS (d' := 0) [.long r125, .long (Int32.toInt64 r127)] dX7_digest_422 cw_RX7_319 kt_X7_mix rfl (Nat.le_of_ble_eq_true rfl) (by decide) (k_X7_mix h) (gk_kl (fun r129 m128 h => ?_))
  exact go_lret dX7_digest_425 ⟨_, rfl, h⟩
def w_X8_in (x0 : Int32) (x1 : Int32) (x2 : Int32) (μ : gk_St) (Q : Int32 → gk_St → Prop) : Prop := (if x0 < x1 then Q 0 μ else (if x2 < x0 then Q 0 μ else Q 1 μ))
set_option maxRecDepth 100000 in
set_option maxHeartbeats 4000000 in
theorem k_X8_in {x0 : Int32} {x1 : Int32} {x2 : Int32} {μ : gk_St} {Q : Int32 → gk_St → Prop} (h : w_X8_in x0 x1 x2 μ Q) : gk_CT yX8_in cX8_in 3 (some .boolean) 0 [.int x0, .int x1, .int x2] μ (gk_Qi Q) := by
  unfold w_X8_in at h
  refine gk_enter (by decide) (Nat.le_of_ble_eq_true rfl) ?_
  show Go RX8 cX8_in 3 (some .boolean) 0 0 [(0, .int x0), (1, .int x1), (2, .int x2)] [] μ (gk_Qi Q)
  refine go_iload_n 0 dX8_in_0 rfl rfl ?_
  refine go_iload_n 1 dX8_in_1 rfl rfl ?_
  refine go_icmp_lt 14 dX8_in_2 (by decide) (fun c => ?_) (fun c => ?_)
  · replace h := gk_ip h c
    refine go_iconst (v := 0) dX8_in_14 (by decide) ?_
    exact go_zret dX8_in_15 (Or.inl rfl) ⟨_, rfl, h⟩
  · replace h := gk_in h c
    refine go_iload_n 0 dX8_in_5 rfl rfl ?_
    refine go_iload_n 2 dX8_in_6 rfl rfl ?_
    refine go_icmp_gt 14 dX8_in_7 (by decide) (fun c => ?_) (fun c => ?_)
    · replace h := gk_ip h c
      refine go_iconst (v := 0) dX8_in_14 (by decide) ?_
      exact go_zret dX8_in_15 (Or.inl rfl) ⟨_, rfl, h⟩
    · replace h := gk_in h c
      refine go_iconst (v := 1) dX8_in_10 (by decide) ?_
      refine go_goto 15 dX8_in_11 (by decide) ?_
      exact go_zret dX8_in_15 (Or.inr rfl) ⟨_, rfl, h⟩
def w_X8_isIn (x0 : Int32) (x1 : Int32) (μ : gk_St) (Q : Int32 → gk_St → Prop) : Prop := (if ((x0 >>> (x1 &&& 31)) &&& 1) = 1 then Q 1 μ else Q 0 μ)
set_option maxRecDepth 100000 in
set_option maxHeartbeats 4000000 in
theorem k_X8_isIn {x0 : Int32} {x1 : Int32} {μ : gk_St} {Q : Int32 → gk_St → Prop} (h : w_X8_isIn x0 x1 μ Q) : gk_CT yX8_isIn cX8_isIn 2 (some .boolean) 0 [.int x0, .int x1] μ (gk_Qi Q) := by
  unfold w_X8_isIn at h
  refine gk_enter (by decide) (Nat.le_of_ble_eq_true rfl) ?_
  show Go RX8 cX8_isIn 2 (some .boolean) 0 0 [(0, .int x0), (1, .int x1)] [] μ (gk_Qi Q)
  refine go_iload_n 0 dX8_isIn_0 rfl rfl ?_
  refine go_iload_n 1 dX8_isIn_1 rfl rfl ?_
  refine go_ishr dX8_isIn_2 ?_
  refine go_iconst (v := 1) dX8_isIn_3 (by decide) ?_
  refine go_iand dX8_isIn_4 ?_
  refine go_iconst (v := 1) dX8_isIn_5 (by decide) ?_
  refine go_icmp_ne 13 dX8_isIn_6 (by decide) (fun c => ?_) (fun c => ?_)
  · replace h := gk_in h c
    refine go_iconst (v := 0) dX8_isIn_13 (by decide) ?_
    exact go_zret dX8_isIn_14 (Or.inl rfl) ⟨_, rfl, h⟩
  · replace h := gk_ip h c
    refine go_iconst (v := 1) dX8_isIn_9 (by decide) ?_
    refine go_goto 14 dX8_isIn_10 (by decide) ?_
    exact go_zret dX8_isIn_14 (Or.inr rfl) ⟨_, rfl, h⟩
def w_X8_no (x0 : Int32) (μ : gk_St) (Q : Int64 → gk_St → Prop) : Prop := Q (((-9223372036854775808) : Int64) - (Int32.toInt64 x0)) μ
set_option maxRecDepth 100000 in
set_option maxHeartbeats 4000000 in
theorem k_X8_no {x0 : Int32} {μ : gk_St} {Q : Int64 → gk_St → Prop} (h : w_X8_no x0 μ Q) : gk_CT yX8_no cX8_no 1 (some .long) 0 [.int x0] μ (gk_Ql Q) := by
  unfold w_X8_no at h
  refine gk_enter (by decide) (Nat.le_of_ble_eq_true rfl) ?_
  show Go RX8 cX8_no 1 (some .long) 0 0 [(0, .int x0)] [] μ (gk_Ql Q)
  refine go_ldc2_w dX8_no_0 ct_RX8_110 ?_
  refine go_iload_n 0 dX8_no_3 rfl rfl ?_
  refine go_i2l dX8_no_4 ?_
  refine go_lsub dX8_no_5 ?_
  exact go_lret dX8_no_6 ⟨_, rfl, h⟩
def w_X8_lowest_l6 (Q : Int64 → gk_St → Prop) (K : Int64 → Int64 → Int32 → Int64 → gk_St → Prop) : Nat → Int64 → Int64 → Int32 → Int64 → Int64 → gk_St → Prop
  | 0, _, _, _, _, _, _ => False
  | n + 1, x0, x2, x4, x5, x7, μ => (if (lg_cmp x7 0) = 0 then K x0 x2 x4 x5 μ else (¬ x7 = 0 ∧ (∀ v1 : Int64, v1 = (gk_ml x5 x7) → w_X8_lowest_l6 Q K n x0 x2 x4 x7 v1 μ)))
set_option maxRecDepth 100000 in
set_option maxHeartbeats 4000000 in
theorem k_X8_lowest_l6 {Q : Int64 → gk_St → Prop} {K : Int64 → Int64 → Int32 → Int64 → gk_St → Prop} (hK : ∀ (e0 : Int64) (e2 : Int64) (e4 : Int32) (e5 : Int64) (em : gk_St), K e0 e2 e4 e5 em → Go RX8 cX8_lowest 11 (some .long) 0 31 [(0, .long e0), (2, .long e2), (4, .int e4), (5, .long e5)] [] em (gk_Ql Q)) : ∀ (n : Nat) (x0 : Int64) (x2 : Int64) (x4 : Int32) (x5 : Int64) (x7 : Int64) (μ : gk_St), w_X8_lowest_l6 Q K n x0 x2 x4 x5 x7 μ → Go RX8 cX8_lowest 11 (some .long) 0 6 [(0, .long x0), (2, .long x2), (4, .int x4), (5, .long x5), (7, .long x7)] [] μ (gk_Ql Q) := by
  intro n
  induction n with
  | zero =>
    intro x0 x2 x4 x5 x7 μ h
    exact False.elim h
  | succ n ih =>
    intro x0 x2 x4 x5 x7 μ h
    unfold w_X8_lowest_l6 at h
    refine go_lload 4 dX8_lowest_6 rfl ?_
    refine go_lconst (v := 0) dX8_lowest_8 (by decide) ?_
    refine go_lcmp dX8_lowest_9 ?_
    refine go_if_eq 31 dX8_lowest_10 (by decide) (fun c => ?_) (fun c => ?_)
    · replace h := gk_ip h c
      refine go_lv [0, 1, 2, 3] rfl ?_
      exact hK _ _ _ _ _ h
    · replace h := gk_in h c
      refine go_lload 3 dX8_lowest_13 rfl ?_
      refine go_lload 4 dX8_lowest_15 rfl ?_
      refine gb_lrem dX8_lowest_17 h.1 ?_
      replace h := h.2
      refine gb_lstore (fun v1 => [(9, .long v1), (0, .long x0), (2, .long x2), (4, .int x4), (5, .long x5), (7, .long x7)]) dX8_lowest_18 (by decide) (fun _ => rfl) (fun v1 e => ?_)
      replace h := h v1 e
      refine go_lload 5 dX8_lowest_20 rfl ?_
      refine go_lstore [(5, .long x7), (9, .long v1), (0, .long x0), (2, .long x2), (4, .int x4), (7, .long x7)] dX8_lowest_22 (by decide) rfl ?_
      refine go_lload 1 dX8_lowest_24 rfl ?_
      refine go_lstore [(7, .long v1), (5, .long x7), (9, .long v1), (0, .long x0), (2, .long x2), (4, .int x4)] dX8_lowest_26 (by decide) rfl ?_
      refine go_goto 6 dX8_lowest_28 (by decide) ?_
      refine go_lv [3, 4, 5, 1, 0] rfl ?_
      exact ih _ _ _ _ _ _ h
def w_X8_lowest (x0 : Int64) (x2 : Int64) (x4 : Int32) (μ : gk_St) (Q : Int64 → gk_St → Prop) : Prop := (∃ n6 : Nat, w_X8_lowest_l6 Q (fun y2 y3 y4 y5 m6 => (if y4 = 0 then (¬ y5 = 0 ∧ Q (y2 / y5) m6) else (¬ y5 = 0 ∧ Q (y3 / y5) m6))) n6 x0 x2 x4 x0 x2 μ)
set_option maxRecDepth 100000 in
set_option maxHeartbeats 4000000 in
theorem k_X8_lowest {x0 : Int64} {x2 : Int64} {x4 : Int32} {μ : gk_St} {Q : Int64 → gk_St → Prop} (h : w_X8_lowest x0 x2 x4 μ Q) : gk_CT yX8_lowest cX8_lowest 11 (some .long) 0 [.long x0, .long x2, .int x4] μ (gk_Ql Q) := by
  unfold w_X8_lowest at h
  refine gk_enter (by decide) (Nat.le_of_ble_eq_true rfl) ?_
  show Go RX8 cX8_lowest 11 (some .long) 0 0 [(0, .long x0), (2, .long x2), (4, .int x4)] [] μ (gk_Ql Q)
  refine go_lload_n 0 dX8_lowest_0 rfl rfl ?_
  refine go_lstore [(5, .long x0), (0, .long x0), (2, .long x2), (4, .int x4)] dX8_lowest_1 (by decide) rfl ?_
  refine go_lload_n 2 dX8_lowest_3 rfl rfl ?_
  refine go_lstore [(7, .long x2), (5, .long x0), (0, .long x0), (2, .long x2), (4, .int x4)] dX8_lowest_4 (by decide) rfl ?_
  refine go_lv [2, 3, 4, 1, 0] rfl ?_
  obtain ⟨n6, h⟩ := h
  refine k_X8_lowest_l6 (fun y2 y3 y4 y5 m6 h => ?_) n6 _ _ _ _ _ _ h
  refine go_iload 2 dX8_lowest_31 rfl ?_
  refine go_if_ne 43 dX8_lowest_33 (by decide) (fun c => ?_) (fun c => ?_)
  · replace h := gk_in h c
    refine go_lload_n 1 dX8_lowest_43 rfl rfl ?_
    refine go_lload 3 dX8_lowest_44 rfl ?_
    refine go_ldiv dX8_lowest_46 h.1 ?_
    replace h := h.2
    exact go_lret dX8_lowest_47 ⟨_, rfl, h⟩
  · replace h := gk_ip h c
    refine go_lload_n 0 dX8_lowest_36 rfl rfl ?_
    refine go_lload 3 dX8_lowest_37 rfl ?_
    refine go_ldiv dX8_lowest_39 h.1 ?_
    replace h := h.2
    refine go_goto 47 dX8_lowest_40 (by decide) ?_
    exact go_lret dX8_lowest_47 ⟨_, rfl, h⟩
def w_X8_isText (x0 : Int32) (μ : gk_St) (Q : Int32 → gk_St → Prop) : Prop := w_X8_in x0 0 2 μ (fun r2 m1 => (gk_b r2 ∧ Q r2 m1))
set_option maxRecDepth 100000 in
set_option maxHeartbeats 4000000 in
theorem k_X8_isText {x0 : Int32} {μ : gk_St} {Q : Int32 → gk_St → Prop} (h : w_X8_isText x0 μ Q) : gk_CT yX8_isText cX8_isText 1 (some .boolean) 1 [.int x0] μ (gk_Qi Q) := by
  unfold w_X8_isText at h
  refine gk_enter (by decide) (Nat.le_of_ble_eq_true rfl) ?_
  show Go RX8 cX8_isText 1 (some .boolean) 1 0 [(0, .int x0)] [] μ (gk_Qi Q)
  refine go_iload_n 0 dX8_isText_0 rfl rfl ?_
  refine go_iconst (v := 0) dX8_isText_1 (by decide) ?_
  refine go_iconst (v := 2) dX8_isText_2 (by decide) ?_
  refine go_callS (d' := 0) [.int x0, .int 0, .int 2] dX8_isText_3 cw_RX8_112 kt_X8_in rfl (Nat.le_of_ble_eq_true rfl) (by decide) (k_X8_in h) (gk_ki (fun r2 m1 h => ?_))
  exact go_zret dX8_isText_6 h.1 ⟨_, rfl, h.2⟩
def w_X8_isMoment (x0 : Int32) (μ : gk_St) (Q : Int32 → gk_St → Prop) : Prop := w_X8_in x0 0 23 μ (fun r2 m1 => (gk_b r2 ∧ Q r2 m1))
set_option maxRecDepth 100000 in
set_option maxHeartbeats 4000000 in
theorem k_X8_isMoment {x0 : Int32} {μ : gk_St} {Q : Int32 → gk_St → Prop} (h : w_X8_isMoment x0 μ Q) : gk_CT yX8_isMoment cX8_isMoment 1 (some .boolean) 1 [.int x0] μ (gk_Qi Q) := by
  unfold w_X8_isMoment at h
  refine gk_enter (by decide) (Nat.le_of_ble_eq_true rfl) ?_
  show Go RX8 cX8_isMoment 1 (some .boolean) 1 0 [(0, .int x0)] [] μ (gk_Qi Q)
  refine go_iload_n 0 dX8_isMoment_0 rfl rfl ?_
  refine go_iconst (v := 0) dX8_isMoment_1 (by decide) ?_
  refine go_bipush (v := 23) dX8_isMoment_2 (by decide) ?_
  refine go_callS (d' := 0) [.int x0, .int 0, .int 23] dX8_isMoment_4 cw_RX8_112 kt_X8_in rfl (Nat.le_of_ble_eq_true rfl) (by decide) (k_X8_in h) (gk_ki (fun r2 m1 h => ?_))
  exact go_zret dX8_isMoment_7 h.1 ⟨_, rfl, h.2⟩
def w_X8_isTwo (x0 : Int32) (μ : gk_St) (Q : Int32 → gk_St → Prop) : Prop := w_X8_in x0 0 1 μ (fun r2 m1 => (gk_b r2 ∧ Q r2 m1))
set_option maxRecDepth 100000 in
set_option maxHeartbeats 4000000 in
theorem k_X8_isTwo {x0 : Int32} {μ : gk_St} {Q : Int32 → gk_St → Prop} (h : w_X8_isTwo x0 μ Q) : gk_CT yX8_isTwo cX8_isTwo 1 (some .boolean) 1 [.int x0] μ (gk_Qi Q) := by
  unfold w_X8_isTwo at h
  refine gk_enter (by decide) (Nat.le_of_ble_eq_true rfl) ?_
  show Go RX8 cX8_isTwo 1 (some .boolean) 1 0 [(0, .int x0)] [] μ (gk_Qi Q)
  refine go_iload_n 0 dX8_isTwo_0 rfl rfl ?_
  refine go_iconst (v := 0) dX8_isTwo_1 (by decide) ?_
  refine go_iconst (v := 1) dX8_isTwo_2 (by decide) ?_
  refine go_callS (d' := 0) [.int x0, .int 0, .int 1] dX8_isTwo_3 cw_RX8_112 kt_X8_in rfl (Nat.le_of_ble_eq_true rfl) (by decide) (k_X8_in h) (gk_ki (fun r2 m1 h => ?_))
  exact go_zret dX8_isTwo_6 h.1 ⟨_, rfl, h.2⟩
def w_X8_isThree (x0 : Int32) (μ : gk_St) (Q : Int32 → gk_St → Prop) : Prop := w_X8_in x0 0 2 μ (fun r2 m1 => (gk_b r2 ∧ Q r2 m1))
set_option maxRecDepth 100000 in
set_option maxHeartbeats 4000000 in
theorem k_X8_isThree {x0 : Int32} {μ : gk_St} {Q : Int32 → gk_St → Prop} (h : w_X8_isThree x0 μ Q) : gk_CT yX8_isThree cX8_isThree 1 (some .boolean) 1 [.int x0] μ (gk_Qi Q) := by
  unfold w_X8_isThree at h
  refine gk_enter (by decide) (Nat.le_of_ble_eq_true rfl) ?_
  show Go RX8 cX8_isThree 1 (some .boolean) 1 0 [(0, .int x0)] [] μ (gk_Qi Q)
  refine go_iload_n 0 dX8_isThree_0 rfl rfl ?_
  refine go_iconst (v := 0) dX8_isThree_1 (by decide) ?_
  refine go_iconst (v := 2) dX8_isThree_2 (by decide) ?_
  refine go_callS (d' := 0) [.int x0, .int 0, .int 2] dX8_isThree_3 cw_RX8_112 kt_X8_in rfl (Nat.le_of_ble_eq_true rfl) (by decide) (k_X8_in h) (gk_ki (fun r2 m1 h => ?_))
  exact go_zret dX8_isThree_6 h.1 ⟨_, rfl, h.2⟩
def w_X8_roomOf (x0 : Int32) (μ : gk_St) (Q : Int32 → gk_St → Prop) : Prop := (if x0 = 0 then Q 23 μ else (if x0 = 1 then Q 47 μ else Q 24 μ))
set_option maxRecDepth 100000 in
set_option maxHeartbeats 4000000 in
theorem k_X8_roomOf {x0 : Int32} {μ : gk_St} {Q : Int32 → gk_St → Prop} (h : w_X8_roomOf x0 μ Q) : gk_CT yX8_roomOf cX8_roomOf 1 (some .int) 0 [.int x0] μ (gk_Qi Q) := by
  unfold w_X8_roomOf at h
  refine gk_enter (by decide) (Nat.le_of_ble_eq_true rfl) ?_
  show Go RX8 cX8_roomOf 1 (some .int) 0 0 [(0, .int x0)] [] μ (gk_Qi Q)
  refine go_iload_n 0 dX8_roomOf_0 rfl rfl ?_
  refine go_if_ne 9 dX8_roomOf_1 (by decide) (fun c => ?_) (fun c => ?_)
  · replace h := gk_in h c
    refine go_iload_n 0 dX8_roomOf_9 rfl rfl ?_
    refine go_iconst (v := 1) dX8_roomOf_10 (by decide) ?_
    refine go_icmp_ne 19 dX8_roomOf_11 (by decide) (fun c => ?_) (fun c => ?_)
    · replace h := gk_in h c
      refine go_bipush (v := 24) dX8_roomOf_19 (by decide) ?_
      exact go_iret dX8_roomOf_21 ⟨_, rfl, h⟩
    · replace h := gk_ip h c
      refine go_bipush (v := 47) dX8_roomOf_14 (by decide) ?_
      refine go_goto 21 dX8_roomOf_16 (by decide) ?_
      exact go_iret dX8_roomOf_21 ⟨_, rfl, h⟩
  · replace h := gk_ip h c
    refine go_bipush (v := 23) dX8_roomOf_4 (by decide) ?_
    refine go_goto 21 dX8_roomOf_6 (by decide) ?_
    exact go_iret dX8_roomOf_21 ⟨_, rfl, h⟩
def w_X8_type (this : Nat) (x1 : Int32) (x2 : Int32) (μ : gk_St) (Q : Int32 → gk_St → Prop) : Prop := w_X8_isText x1 μ (fun r2 m1 => (if r2 = 0 then Q (-2) m1 else w_X8_in x2 0 255 m1 (fun r4 m3 => (if r4 = 0 then Q (-2) m3 else (vp_in x1 (gk_ln (gk_rf this 0)) ∧ w_X8_roomOf x1 m3 (fun r6 m5 => (if (m3 (gk_rf this 0) x1.toNatClampNeg) = r6 then Q (-4) m5 else (vp_in x1 (gk_ln (gk_rf this 0)) ∧ (vp_in (((47 : Int32) * x1) + (m5 (gk_rf this 0) x1.toNatClampNeg)) (gk_ln (gk_rf this 1)) ∧ (∀ m7 : gk_St, m7 = gk_up m5 (gk_rf this 1) (Int32.toNatClampNeg (((47 : Int32) * x1) + (m5 (gk_rf this 0) x1.toNatClampNeg))) x2 → (vp_in x1 (gk_ln (gk_rf this 0)) ∧ (vp_in x1 (gk_ln (gk_rf this 0)) ∧ (∀ m8 : gk_St, m8 = gk_up m7 (gk_rf this 0) x1.toNatClampNeg ((m7 (gk_rf this 0) x1.toNatClampNeg) + 1) → (vp_in x1 (gk_ln (gk_rf this 0)) ∧ Q (m8 (gk_rf this 0) x1.toNatClampNeg) m8))))))))))))))
set_option maxRecDepth 100000 in
set_option maxHeartbeats 4000000 in
theorem k_X8_type {this : Nat} {x1 : Int32} {x2 : Int32} {μ : gk_St} {Q : Int32 → gk_St → Prop} (h_this : gk_isO this 8) (h : w_X8_type this x1 x2 μ Q) : gk_CT yX8_type cX8_type 3 (some .int) 2 [.ref this, .int x1, .int x2] μ (gk_Qi Q) := by
  unfold w_X8_type at h
  refine gk_enter (by decide) (Nat.le_of_ble_eq_true rfl) ?_
  show Go RX8 cX8_type 3 (some .int) 2 0 [(0, .ref this), (1, .int x1), (2, .int x2)] [] μ (gk_Qi Q)
  refine go_iload_n 1 dX8_type_0 rfl rfl ?_
  refine go_callS (d' := 1) [.int x1] dX8_type_1 cw_RX8_116 kt_X8_isText rfl (Nat.le_of_ble_eq_true rfl) (by decide) (k_X8_isText h) (gk_ki (fun r2 m1 h => ?_))
  refine go_if_eq 18 dX8_type_4 (by decide) (fun c => ?_) (fun c => ?_)
  · replace h := gk_ip h c
    refine go_bipush (v := (-2)) dX8_type_18 (by decide) ?_
    exact go_iret dX8_type_20 ⟨_, rfl, h⟩
  · replace h := gk_in h c
    refine go_iload_n 2 dX8_type_7 rfl rfl ?_
    refine go_iconst (v := 0) dX8_type_8 (by decide) ?_
    refine go_sipush (v := 255) dX8_type_9 (by decide) ?_
    refine go_callS (d' := 0) [.int x2, .int 0, .int 255] dX8_type_12 cw_RX8_112 kt_X8_in rfl (Nat.le_of_ble_eq_true rfl) (by decide) (k_X8_in h) (gk_ki (fun r4 m3 h => ?_))
    refine go_if_ne 21 dX8_type_15 (by decide) (fun c => ?_) (fun c => ?_)
    · replace h := gk_in h c
      refine go_aload_n 0 dX8_type_21 rfl rfl ?_
      refine go_getR dX8_type_22 fl_RX8_7 h_this (rr_8_0 h_this) ?_
      refine go_iload_n 1 dX8_type_25 rfl rfl ?_
      refine go_iaload dX8_type_26 (rt_8_0 h_this) h.1 ?_
      replace h := h.2
      refine go_iload_n 1 dX8_type_27 rfl rfl ?_
      refine go_callS (d' := 0) [.int x1] dX8_type_28 cw_RX8_120 kt_X8_roomOf rfl (Nat.le_of_ble_eq_true rfl) (by decide) (k_X8_roomOf h) (gk_ki (fun r6 m5 h => ?_))
      refine go_icmp_ne 37 dX8_type_31 (by decide) (fun c => ?_) (fun c => ?_)
      · replace h := gk_in h c
        refine go_aload_n 0 dX8_type_37 rfl rfl ?_
        refine go_getR dX8_type_38 fl_RX8_13 h_this (rr_8_1 h_this) ?_
        refine go_bipush (v := 47) dX8_type_41 (by decide) ?_
        refine go_iload_n 1 dX8_type_43 rfl rfl ?_
        refine go_imul dX8_type_44 ?_
        refine go_aload_n 0 dX8_type_45 rfl rfl ?_
        refine go_getR dX8_type_46 fl_RX8_7 h_this (rr_8_0 h_this) ?_
        refine go_iload_n 1 dX8_type_49 rfl rfl ?_
        refine go_iaload dX8_type_50 (rt_8_0 h_this) h.1 ?_
        replace h := h.2
        refine go_iadd dX8_type_51 ?_
        refine go_iload_n 2 dX8_type_52 rfl rfl ?_
        refine gb_iastore dX8_type_53 (rt_8_1 h_this) h.1 (fun m7 e => ?_)
        replace h := h.2 m7 e
        refine go_aload_n 0 dX8_type_54 rfl rfl ?_
        refine go_getR dX8_type_55 fl_RX8_7 h_this (rr_8_0 h_this) ?_
        refine go_iload_n 1 dX8_type_58 rfl rfl ?_
        refine go_dup2 dX8_type_59 rfl rfl ?_
        refine go_iaload dX8_type_60 (rt_8_0 h_this) h.1 ?_
        replace h := h.2
        refine go_iconst (v := 1) dX8_type_61 (by decide) ?_
        refine go_iadd dX8_type_62 ?_
        refine gb_iastore dX8_type_63 (rt_8_0 h_this) h.1 (fun m8 e => ?_)
        replace h := h.2 m8 e
        refine go_aload_n 0 dX8_type_64 rfl rfl ?_
        refine go_getR dX8_type_65 fl_RX8_7 h_this (rr_8_0 h_this) ?_
        refine go_iload_n 1 dX8_type_68 rfl rfl ?_
        refine go_iaload dX8_type_69 (rt_8_0 h_this) h.1 ?_
        replace h := h.2
        exact go_iret dX8_type_70 ⟨_, rfl, h⟩
      · replace h := gk_ip h c
        refine go_bipush (v := (-4)) dX8_type_34 (by decide) ?_
        exact go_iret dX8_type_36 ⟨_, rfl, h⟩
    · replace h := gk_ip h c
      refine go_bipush (v := (-2)) dX8_type_18 (by decide) ?_
      exact go_iret dX8_type_20 ⟨_, rfl, h⟩
def w_X8_wipe (this : Nat) (x1 : Int32) (μ : gk_St) (Q : Int32 → gk_St → Prop) : Prop := w_X8_isText x1 μ (fun r2 m1 => (if r2 = 0 then Q (-2) m1 else (vp_in x1 (gk_ln (gk_rf this 0)) ∧ (∀ v3 : Int32, v3 = (m1 (gk_rf this 0) x1.toNatClampNeg) → (vp_in x1 (gk_ln (gk_rf this 0)) ∧ (∀ m4 : gk_St, m4 = gk_up m1 (gk_rf this 0) x1.toNatClampNeg 0 → Q v3 m4))))))
set_option maxRecDepth 100000 in
set_option maxHeartbeats 4000000 in
theorem k_X8_wipe {this : Nat} {x1 : Int32} {μ : gk_St} {Q : Int32 → gk_St → Prop} (h_this : gk_isO this 8) (h : w_X8_wipe this x1 μ Q) : gk_CT yX8_wipe cX8_wipe 3 (some .int) 2 [.ref this, .int x1] μ (gk_Qi Q) := by
  unfold w_X8_wipe at h
  refine gk_enter (by decide) (Nat.le_of_ble_eq_true rfl) ?_
  show Go RX8 cX8_wipe 3 (some .int) 2 0 [(0, .ref this), (1, .int x1)] [] μ (gk_Qi Q)
  refine go_iload_n 1 dX8_wipe_0 rfl rfl ?_
  refine go_callS (d' := 1) [.int x1] dX8_wipe_1 cw_RX8_116 kt_X8_isText rfl (Nat.le_of_ble_eq_true rfl) (by decide) (k_X8_isText h) (gk_ki (fun r2 m1 h => ?_))
  refine go_if_ne 10 dX8_wipe_4 (by decide) (fun c => ?_) (fun c => ?_)
  · replace h := gk_in h c
    refine go_aload_n 0 dX8_wipe_10 rfl rfl ?_
    refine go_getR dX8_wipe_11 fl_RX8_7 h_this (rr_8_0 h_this) ?_
    refine go_iload_n 1 dX8_wipe_14 rfl rfl ?_
    refine go_iaload dX8_wipe_15 (rt_8_0 h_this) h.1 ?_
    replace h := h.2
    refine gb_istore_n (fun v3 => [(2, .int v3), (0, .ref this), (1, .int x1)]) dX8_wipe_16 rfl (by decide) (fun _ => rfl) (fun v3 e => ?_)
    replace h := h v3 e
    refine go_aload_n 1 dX8_wipe_17 rfl rfl ?_
    refine go_getR dX8_wipe_18 fl_RX8_7 h_this (rr_8_0 h_this) ?_
    refine go_iload_n 2 dX8_wipe_21 rfl rfl ?_
    refine go_iconst (v := 0) dX8_wipe_22 (by decide) ?_
    refine gb_iastore dX8_wipe_23 (rt_8_0 h_this) h.1 (fun m4 e => ?_)
    replace h := h.2 m4 e
    refine go_iload_n 0 dX8_wipe_24 rfl rfl ?_
    exact go_iret dX8_wipe_25 ⟨_, rfl, h⟩
  · replace h := gk_ip h c
    refine go_bipush (v := (-2)) dX8_wipe_7 (by decide) ?_
    exact go_iret dX8_wipe_9 ⟨_, rfl, h⟩
def w_X8_undo (this : Nat) (x1 : Int32) (μ : gk_St) (Q : Int32 → gk_St → Prop) : Prop := w_X8_isText x1 μ (fun r2 m1 => (if r2 = 0 then Q (-2) m1 else (vp_in x1 (gk_ln (gk_rf this 0)) ∧ (if (m1 (gk_rf this 0) x1.toNatClampNeg) = 0 then Q (-3) m1 else (vp_in x1 (gk_ln (gk_rf this 0)) ∧ (vp_in x1 (gk_ln (gk_rf this 0)) ∧ (∀ m3 : gk_St, m3 = gk_up m1 (gk_rf this 0) x1.toNatClampNeg ((m1 (gk_rf this 0) x1.toNatClampNeg) - 1) → (vp_in x1 (gk_ln (gk_rf this 0)) ∧ Q (m3 (gk_rf this 0) x1.toNatClampNeg) m3))))))))
set_option maxRecDepth 100000 in
set_option maxHeartbeats 4000000 in
theorem k_X8_undo {this : Nat} {x1 : Int32} {μ : gk_St} {Q : Int32 → gk_St → Prop} (h_this : gk_isO this 8) (h : w_X8_undo this x1 μ Q) : gk_CT yX8_undo cX8_undo 2 (some .int) 2 [.ref this, .int x1] μ (gk_Qi Q) := by
  unfold w_X8_undo at h
  refine gk_enter (by decide) (Nat.le_of_ble_eq_true rfl) ?_
  show Go RX8 cX8_undo 2 (some .int) 2 0 [(0, .ref this), (1, .int x1)] [] μ (gk_Qi Q)
  refine go_iload_n 1 dX8_undo_0 rfl rfl ?_
  refine go_callS (d' := 1) [.int x1] dX8_undo_1 cw_RX8_116 kt_X8_isText rfl (Nat.le_of_ble_eq_true rfl) (by decide) (k_X8_isText h) (gk_ki (fun r2 m1 h => ?_))
  refine go_if_ne 10 dX8_undo_4 (by decide) (fun c => ?_) (fun c => ?_)
  · replace h := gk_in h c
    refine go_aload_n 0 dX8_undo_10 rfl rfl ?_
    refine go_getR dX8_undo_11 fl_RX8_7 h_this (rr_8_0 h_this) ?_
    refine go_iload_n 1 dX8_undo_14 rfl rfl ?_
    refine go_iaload dX8_undo_15 (rt_8_0 h_this) h.1 ?_
    replace h := h.2
    refine go_if_ne 22 dX8_undo_16 (by decide) (fun c => ?_) (fun c => ?_)
    · replace h := gk_in h c
      refine go_aload_n 0 dX8_undo_22 rfl rfl ?_
      refine go_getR dX8_undo_23 fl_RX8_7 h_this (rr_8_0 h_this) ?_
      refine go_iload_n 1 dX8_undo_26 rfl rfl ?_
      refine go_dup2 dX8_undo_27 rfl rfl ?_
      refine go_iaload dX8_undo_28 (rt_8_0 h_this) h.1 ?_
      replace h := h.2
      refine go_iconst (v := 1) dX8_undo_29 (by decide) ?_
      refine go_isub dX8_undo_30 ?_
      refine gb_iastore dX8_undo_31 (rt_8_0 h_this) h.1 (fun m3 e => ?_)
      replace h := h.2 m3 e
      refine go_aload_n 0 dX8_undo_32 rfl rfl ?_
      refine go_getR dX8_undo_33 fl_RX8_7 h_this (rr_8_0 h_this) ?_
      refine go_iload_n 1 dX8_undo_36 rfl rfl ?_
      refine go_iaload dX8_undo_37 (rt_8_0 h_this) h.1 ?_
      replace h := h.2
      exact go_iret dX8_undo_38 ⟨_, rfl, h⟩
    · replace h := gk_ip h c
      refine go_bipush (v := (-3)) dX8_undo_19 (by decide) ?_
      exact go_iret dX8_undo_21 ⟨_, rfl, h⟩
  · replace h := gk_ip h c
    refine go_bipush (v := (-2)) dX8_undo_7 (by decide) ?_
    exact go_iret dX8_undo_9 ⟨_, rfl, h⟩
def w_X8_byteAt (this : Nat) (x1 : Int32) (x2 : Int32) (μ : gk_St) (Q : Int32 → gk_St → Prop) : Prop := (vp_in x1 (gk_ln (gk_rf this 0)) ∧ (if (μ (gk_rf this 0) x1.toNatClampNeg) ≤ x2 then Q (-1) μ else (vp_in (((47 : Int32) * x1) + x2) (gk_ln (gk_rf this 1)) ∧ Q (μ (gk_rf this 1) (Int32.toNatClampNeg (((47 : Int32) * x1) + x2))) μ)))
set_option maxRecDepth 100000 in
set_option maxHeartbeats 4000000 in
theorem k_X8_byteAt {this : Nat} {x1 : Int32} {x2 : Int32} {μ : gk_St} {Q : Int32 → gk_St → Prop} (h_this : gk_isO this 8) (h : w_X8_byteAt this x1 x2 μ Q) : gk_CT yX8_byteAt cX8_byteAt 3 (some .int) 0 [.ref this, .int x1, .int x2] μ (gk_Qi Q) := by
  unfold w_X8_byteAt at h
  refine gk_enter (by decide) (Nat.le_of_ble_eq_true rfl) ?_
  show Go RX8 cX8_byteAt 3 (some .int) 0 0 [(0, .ref this), (1, .int x1), (2, .int x2)] [] μ (gk_Qi Q)
  refine go_iload_n 2 dX8_byteAt_0 rfl rfl ?_
  refine go_aload_n 0 dX8_byteAt_1 rfl rfl ?_
  refine go_getR dX8_byteAt_2 fl_RX8_7 h_this (rr_8_0 h_this) ?_
  refine go_iload_n 1 dX8_byteAt_5 rfl rfl ?_
  refine go_iaload dX8_byteAt_6 (rt_8_0 h_this) h.1 ?_
  replace h := h.2
  refine go_icmp_ge 24 dX8_byteAt_7 (by decide) (fun c => ?_) (fun c => ?_)
  · replace h := gk_ip h c
    refine go_iconst (v := (-1)) dX8_byteAt_24 (by decide) ?_
    exact go_iret dX8_byteAt_25 ⟨_, rfl, h⟩
  · replace h := gk_in h c
    refine go_aload_n 0 dX8_byteAt_10 rfl rfl ?_
    refine go_getR dX8_byteAt_11 fl_RX8_13 h_this (rr_8_1 h_this) ?_
    refine go_bipush (v := 47) dX8_byteAt_14 (by decide) ?_
    refine go_iload_n 1 dX8_byteAt_16 rfl rfl ?_
    refine go_imul dX8_byteAt_17 ?_
    refine go_iload_n 2 dX8_byteAt_18 rfl rfl ?_
    refine go_iadd dX8_byteAt_19 ?_
    refine go_iaload dX8_byteAt_20 (rt_8_1 h_this) h.1 ?_
    replace h := h.2
    refine go_goto 25 dX8_byteAt_21 (by decide) ?_
    exact go_iret dX8_byteAt_25 ⟨_, rfl, h⟩
def w_X8_isTaken_j26 (Q : Int32 → gk_St → Prop) (K : Int32 → gk_St → Prop) (C : Int32 → Int32 → Int32 → Int32 → gk_St → Prop) (this : Nat) (x1 : Int32) (x2 : Int32) (x4 : Int32) (μ : gk_St) : Prop := (∀ v1 : Int32, v1 = x4 + 1 → C x1 x2 1 v1 μ)
set_option maxRecDepth 100000 in
set_option maxHeartbeats 4000000 in
theorem k_X8_isTaken_j26 {Q : Int32 → gk_St → Prop} {K : Int32 → gk_St → Prop} {C : Int32 → Int32 → Int32 → Int32 → gk_St → Prop} {this : Nat} {x1 : Int32} {x2 : Int32} {x4 : Int32} {μ : gk_St} (h_this : gk_isO this 8) (hK : ∀ (e3 : Int32) (em : gk_St), K e3 em → Go RX8 cX8_isTaken 5 (some .boolean) 0 38 [(3, .int e3)] [] em (gk_Qi Q)) (hC : ∀ (c1 : Int32) (c2 : Int32) (c3 : Int32) (c4 : Int32) (cm : gk_St), C c1 c2 c3 c4 cm → Go RX8 cX8_isTaken 5 (some .boolean) 0 5 [(0, .ref this), (1, .int c1), (2, .int c2), (3, .int c3), (4, .int c4)] [] cm (gk_Qi Q)) (h : w_X8_isTaken_j26 Q K C this x1 x2 x4 μ) : Go RX8 cX8_isTaken 5 (some .boolean) 0 26 [(0, .ref this), (1, .int x1), (2, .int x2), (4, .int x4)] [] μ (gk_Qi Q) := by
  unfold w_X8_isTaken_j26 at h
  refine go_iconst (v := 1) dX8_isTaken_26 (by decide) ?_
  refine go_goto 31 dX8_isTaken_27 (by decide) ?_
  refine go_istore_n [(3, .int 1), (0, .ref this), (1, .int x1), (2, .int x2), (4, .int x4)] dX8_isTaken_31 rfl (by decide) rfl ?_
  refine gb_iinc (w := 1) 4 (fun v1 => [(4, .int v1), (3, .int 1), (0, .ref this), (1, .int x1), (2, .int x2)]) dX8_isTaken_32 rfl (by decide) (by decide) (fun _ => rfl) (fun v1 e => ?_)
  replace h := h v1 e
  refine go_goto 5 dX8_isTaken_35 (by decide) ?_
  refine go_lv [2, 3, 4, 1, 0] rfl ?_
  exact hC _ _ _ _ _ h
def w_X8_isTaken_l5 (Q : Int32 → gk_St → Prop) (K : Int32 → gk_St → Prop) (this : Nat) : Nat → Int32 → Int32 → Int32 → Int32 → gk_St → Prop
  | 0, _, _, _, _, _ => False
  | n + 1, x1, x2, x3, x4, μ => (if x1 ≤ x4 then K x3 μ else (if x3 = 0 then (vp_in x4 (gk_ln (gk_rf this 3)) ∧ (if (μ (gk_rf this 3) x4.toNatClampNeg) = x2 then w_X8_isTaken_j26 Q K (fun c_x1 c_x2 c_x3 c_x4 cm => w_X8_isTaken_l5 Q K this n c_x1 c_x2 c_x3 c_x4 cm) this x1 x2 x4 μ else (∀ v2 : Int32, v2 = x4 + 1 → w_X8_isTaken_l5 Q K this n x1 x2 0 v2 μ))) else w_X8_isTaken_j26 Q K (fun c_x1 c_x2 c_x3 c_x4 cm => w_X8_isTaken_l5 Q K this n c_x1 c_x2 c_x3 c_x4 cm) this x1 x2 x4 μ))
set_option maxRecDepth 100000 in
set_option maxHeartbeats 4000000 in
theorem k_X8_isTaken_l5 {Q : Int32 → gk_St → Prop} {K : Int32 → gk_St → Prop} {this : Nat} (h_this : gk_isO this 8) (hK : ∀ (e3 : Int32) (em : gk_St), K e3 em → Go RX8 cX8_isTaken 5 (some .boolean) 0 38 [(3, .int e3)] [] em (gk_Qi Q)) : ∀ (n : Nat) (x1 : Int32) (x2 : Int32) (x3 : Int32) (x4 : Int32) (μ : gk_St), w_X8_isTaken_l5 Q K this n x1 x2 x3 x4 μ → Go RX8 cX8_isTaken 5 (some .boolean) 0 5 [(0, .ref this), (1, .int x1), (2, .int x2), (3, .int x3), (4, .int x4)] [] μ (gk_Qi Q) := by
  intro n
  induction n with
  | zero =>
    intro x1 x2 x3 x4 μ h
    exact False.elim h
  | succ n ih =>
    intro x1 x2 x3 x4 μ h
    unfold w_X8_isTaken_l5 at h
    refine go_iload 4 dX8_isTaken_5 rfl ?_
    refine go_iload_n 1 dX8_isTaken_7 rfl rfl ?_
    refine go_icmp_ge 38 dX8_isTaken_8 (by decide) (fun c => ?_) (fun c => ?_)
    · replace h := gk_ip h c
      refine go_lv [3] rfl ?_
      exact hK _ _ h
    · replace h := gk_in h c
      refine go_iload_n 3 dX8_isTaken_11 rfl rfl ?_
      refine go_if_ne 26 dX8_isTaken_12 (by decide) (fun c => ?_) (fun c => ?_)
      · replace h := gk_in h c
        refine go_lv [0, 1, 2, 4] rfl ?_
        exact k_X8_isTaken_j26 h_this hK (fun _ _ _ _ _ h => ih _ _ _ _ _ h) h
      · replace h := gk_ip h c
        refine go_aload_n 0 dX8_isTaken_15 rfl rfl ?_
        refine go_getR dX8_isTaken_16 fl_RX8_16 h_this (rr_8_3 h_this) ?_
        refine go_iload 4 dX8_isTaken_19 rfl ?_
        refine go_iaload dX8_isTaken_21 (rt_8_3 h_this) h.1 ?_
        replace h := h.2
        refine go_iload_n 2 dX8_isTaken_22 rfl rfl ?_
        refine go_icmp_ne 30 dX8_isTaken_23 (by decide) (fun c => ?_) (fun c => ?_)
        · replace h := gk_in h c
          refine go_iconst (v := 0) dX8_isTaken_30 (by decide) ?_
          refine go_istore_n [(3, .int 0), (0, .ref this), (1, .int x1), (2, .int x2), (4, .int x4)] dX8_isTaken_31 rfl (by decide) rfl ?_
          refine gb_iinc (w := 1) 4 (fun v2 => [(4, .int v2), (3, .int 0), (0, .ref this), (1, .int x1), (2, .int x2)]) dX8_isTaken_32 rfl (by decide) (by decide) (fun _ => rfl) (fun v2 e => ?_)
          replace h := h v2 e
          refine go_goto 5 dX8_isTaken_35 (by decide) ?_
          refine go_lv [2, 3, 4, 1, 0] rfl ?_
          exact ih _ _ _ _ _ h
        · replace h := gk_ip h c
          refine go_lv [0, 1, 2, 4] rfl ?_
          exact k_X8_isTaken_j26 h_this hK (fun _ _ _ _ _ h => ih _ _ _ _ _ h) h
def w_X8_isTaken (this : Nat) (x1 : Int32) (x2 : Int32) (μ : gk_St) (Q : Int32 → gk_St → Prop) : Prop := (∃ n5 : Nat, w_X8_isTaken_l5 Q (fun y3 m4 => (gk_b y3 ∧ Q y3 m4)) this n5 x1 x2 0 0 μ)
set_option maxRecDepth 100000 in
set_option maxHeartbeats 4000000 in
theorem k_X8_isTaken {this : Nat} {x1 : Int32} {x2 : Int32} {μ : gk_St} {Q : Int32 → gk_St → Prop} (h_this : gk_isO this 8) (h : w_X8_isTaken this x1 x2 μ Q) : gk_CT yX8_isTaken cX8_isTaken 5 (some .boolean) 0 [.ref this, .int x1, .int x2] μ (gk_Qi Q) := by
  unfold w_X8_isTaken at h
  refine gk_enter (by decide) (Nat.le_of_ble_eq_true rfl) ?_
  show Go RX8 cX8_isTaken 5 (some .boolean) 0 0 [(0, .ref this), (1, .int x1), (2, .int x2)] [] μ (gk_Qi Q)
  refine go_iconst (v := 0) dX8_isTaken_0 (by decide) ?_
  refine go_istore_n [(3, .int 0), (0, .ref this), (1, .int x1), (2, .int x2)] dX8_isTaken_1 rfl (by decide) rfl ?_
  refine go_iconst (v := 0) dX8_isTaken_2 (by decide) ?_
  refine go_istore [(4, .int 0), (3, .int 0), (0, .ref this), (1, .int x1), (2, .int x2)] dX8_isTaken_3 (by decide) rfl ?_
  refine go_lv [2, 3, 4, 1, 0] rfl ?_
  obtain ⟨n5, h⟩ := h
  refine k_X8_isTaken_l5 h_this (fun y3 m4 h => ?_) n5 _ _ _ _ _ h
  refine go_iload_n 0 dX8_isTaken_38 rfl rfl ?_
  exact go_zret dX8_isTaken_39 h.1 ⟨_, rfl, h.2⟩
def w_X8_readsCar_j54 (Q : Int32 → gk_St → Prop) (this : Nat) (x1 : Int32) (x2 : Int32) (x3 : Int32) (s0 : Int32) (μ : gk_St) : Prop := w_X8_byteAt this 0 (x2 + 2) μ (fun r7 m6 => (∀ v8 : Int32, v8 = (r7 - 48) → (if x1 = 6 then Q 0 m6 else w_X8_in x3 0 23 m6 (fun r10 m9 => (if r10 = 0 then Q 0 m9 else w_X8_isTaken this x1 x3 m9 (fun r12 m11 => (if r12 = 0 then (if s0 = (-1) then Q 1 m11 else w_X8_in v8 1 9 m11 (fun r14 m13 => (if r14 = 0 then Q 2 m13 else (vp_in x1 (gk_ln (gk_rf this 3)) ∧ (∀ m15 : gk_St, m15 = gk_up m13 (gk_rf this 3) x1.toNatClampNeg x3 → (vp_in x1 (gk_ln (gk_rf this 4)) ∧ (∀ m16 : gk_St, m16 = gk_up m15 (gk_rf this 4) x1.toNatClampNeg s0 → (vp_in x1 (gk_ln (gk_rf this 5)) ∧ (∀ m17 : gk_St, m17 = gk_up m16 (gk_rf this 5) x1.toNatClampNeg v8 → Q 3 m17))))))))) else Q 0 m11)))))))
set_option maxRecDepth 100000 in
set_option maxHeartbeats 4000000 in
theorem k_X8_readsCar_j54 {Q : Int32 → gk_St → Prop} {this : Nat} {x1 : Int32} {x2 : Int32} {x3 : Int32} {s0 : Int32} {μ : gk_St} (h_this : gk_isO this 8) (h : w_X8_readsCar_j54 Q this x1 x2 x3 s0 μ) : Go RX8 cX8_readsCar 7 (some .int) 1 54 [(0, .ref this), (1, .int x1), (2, .int x2), (3, .int x3)] [.int s0] μ (gk_Qi Q) := by
  unfold w_X8_readsCar_j54 at h
  refine go_istore [(5, .int s0), (0, .ref this), (1, .int x1), (2, .int x2), (3, .int x3)] dX8_readsCar_54 (by decide) rfl ?_
  refine go_aload_n 1 dX8_readsCar_56 rfl rfl ?_
  refine go_iconst (v := 0) dX8_readsCar_57 (by decide) ?_
  refine go_iload_n 3 dX8_readsCar_58 rfl rfl ?_
  refine go_iconst (v := 2) dX8_readsCar_59 (by decide) ?_
  refine go_iadd dX8_readsCar_60 ?_
  refine go_callV (ci := 8) (d' := 0) [.int 0, .int (x2 + 2)] dX8_readsCar_61 cw_RX8_124 ki_X8_byteAt ks_X8_byteAt rfl (by decide) h_this rfl (Nat.le_of_ble_eq_true rfl) (by decide) (k_X8_byteAt h_this h) (gk_ki (fun r7 m6 h => ?_))
  refine go_bipush (v := 48) dX8_readsCar_64 (by decide) ?_
  refine go_isub dX8_readsCar_66 ?_
  refine gb_istore (fun v8 => [(6, .int v8), (5, .int s0), (0, .ref this), (1, .int x1), (2, .int x2), (3, .int x3)]) dX8_readsCar_67 (by decide) (fun _ => rfl) (fun v8 e => ?_)
  replace h := h v8 e
  refine go_iload_n 3 dX8_readsCar_69 rfl rfl ?_
  refine go_bipush (v := 6) dX8_readsCar_70 (by decide) ?_
  refine go_icmp_eq 94 dX8_readsCar_72 (by decide) (fun c => ?_) (fun c => ?_)
  · replace h := gk_ip h c
    refine go_iconst (v := 0) dX8_readsCar_94 (by decide) ?_
    exact go_iret dX8_readsCar_95 ⟨_, rfl, h⟩
  · replace h := gk_in h c
    refine go_iload_n 5 dX8_readsCar_75 rfl rfl ?_
    refine go_iconst (v := 0) dX8_readsCar_76 (by decide) ?_
    refine go_bipush (v := 23) dX8_readsCar_77 (by decide) ?_
    refine go_callS (d' := 0) [.int x3, .int 0, .int 23] dX8_readsCar_79 cw_RX8_112 kt_X8_in rfl (Nat.le_of_ble_eq_true rfl) (by decide) (k_X8_in h) (gk_ki (fun r10 m9 h => ?_))
    refine go_if_eq 94 dX8_readsCar_82 (by decide) (fun c => ?_) (fun c => ?_)
    · replace h := gk_ip h c
      refine go_iconst (v := 0) dX8_readsCar_94 (by decide) ?_
      exact go_iret dX8_readsCar_95 ⟨_, rfl, h⟩
    · replace h := gk_in h c
      refine go_aload_n 2 dX8_readsCar_85 rfl rfl ?_
      refine go_iload_n 3 dX8_readsCar_86 rfl rfl ?_
      refine go_iload_n 5 dX8_readsCar_87 rfl rfl ?_
      refine go_callV (ci := 8) (d' := 0) [.int x1, .int x3] dX8_readsCar_88 cw_RX8_128 ki_X8_isTaken ks_X8_isTaken rfl (by decide) h_this rfl (Nat.le_of_ble_eq_true rfl) (by decide) (k_X8_isTaken h_this h) (gk_ki (fun r12 m11 h => ?_))
      refine go_if_eq 96 dX8_readsCar_91 (by decide) (fun c => ?_) (fun c => ?_)
      · replace h := gk_ip h c
        refine go_iload 1 dX8_readsCar_96 rfl ?_
        refine go_iconst (v := (-1)) dX8_readsCar_98 (by decide) ?_
        refine go_icmp_ne 104 dX8_readsCar_99 (by decide) (fun c => ?_) (fun c => ?_)
        · replace h := gk_in h c
          refine go_iload 0 dX8_readsCar_104 rfl ?_
          refine go_iconst (v := 1) dX8_readsCar_106 (by decide) ?_
          refine go_bipush (v := 9) dX8_readsCar_107 (by decide) ?_
          refine go_callS (d' := 0) [.int v8, .int 1, .int 9] dX8_readsCar_109 cw_RX8_112 kt_X8_in rfl (Nat.le_of_ble_eq_true rfl) (by decide) (k_X8_in h) (gk_ki (fun r14 m13 h => ?_))
          refine go_if_ne 117 dX8_readsCar_112 (by decide) (fun c => ?_) (fun c => ?_)
          · replace h := gk_in h c
            refine go_aload_n 2 dX8_readsCar_117 rfl rfl ?_
            refine go_getR dX8_readsCar_118 fl_RX8_16 h_this (rr_8_3 h_this) ?_
            refine go_iload_n 3 dX8_readsCar_121 rfl rfl ?_
            refine go_iload_n 5 dX8_readsCar_122 rfl rfl ?_
            refine gb_iastore dX8_readsCar_123 (rt_8_3 h_this) h.1 (fun m15 e => ?_)
            replace h := h.2 m15 e
            refine go_aload_n 2 dX8_readsCar_124 rfl rfl ?_
            refine go_getR dX8_readsCar_125 fl_RX8_19 h_this (rr_8_4 h_this) ?_
            refine go_iload_n 3 dX8_readsCar_128 rfl rfl ?_
            refine go_iload 1 dX8_readsCar_129 rfl ?_
            refine gb_iastore dX8_readsCar_131 (rt_8_4 h_this) h.1 (fun m16 e => ?_)
            replace h := h.2 m16 e
            refine go_aload_n 2 dX8_readsCar_132 rfl rfl ?_
            refine go_getR dX8_readsCar_133 fl_RX8_22 h_this (rr_8_5 h_this) ?_
            refine go_iload_n 3 dX8_readsCar_136 rfl rfl ?_
            refine go_iload 0 dX8_readsCar_137 rfl ?_
            refine gb_iastore dX8_readsCar_139 (rt_8_5 h_this) h.1 (fun m17 e => ?_)
            replace h := h.2 m17 e
            refine go_iconst (v := 3) dX8_readsCar_140 (by decide) ?_
            exact go_iret dX8_readsCar_141 ⟨_, rfl, h⟩
          · replace h := gk_ip h c
            refine go_iconst (v := 2) dX8_readsCar_115 (by decide) ?_
            exact go_iret dX8_readsCar_116 ⟨_, rfl, h⟩
        · replace h := gk_ip h c
          refine go_iconst (v := 1) dX8_readsCar_102 (by decide) ?_
          exact go_iret dX8_readsCar_103 ⟨_, rfl, h⟩
      · replace h := gk_in h c
        refine go_iconst (v := 0) dX8_readsCar_94 (by decide) ?_
        exact go_iret dX8_readsCar_95 ⟨_, rfl, h⟩
def w_X8_readsCar (this : Nat) (x1 : Int32) (x2 : Int32) (μ : gk_St) (Q : Int32 → gk_St → Prop) : Prop := w_X8_byteAt this 0 x2 μ (fun r2 m1 => (∀ v3 : Int32, v3 = (r2 - 97) → w_X8_byteAt this 0 (x2 + 1) m1 (fun r5 m4 => (if r5 = 111 then w_X8_readsCar_j54 Q this x1 x2 v3 0 m4 else (if r5 = 115 then w_X8_readsCar_j54 Q this x1 x2 v3 1 m4 else (if r5 = 103 then w_X8_readsCar_j54 Q this x1 x2 v3 2 m4 else w_X8_readsCar_j54 Q this x1 x2 v3 (-1) m4))))))
set_option maxRecDepth 100000 in
set_option maxHeartbeats 4000000 in
theorem k_X8_readsCar {this : Nat} {x1 : Int32} {x2 : Int32} {μ : gk_St} {Q : Int32 → gk_St → Prop} (h_this : gk_isO this 8) (h : w_X8_readsCar this x1 x2 μ Q) : gk_CT yX8_readsCar cX8_readsCar 7 (some .int) 1 [.ref this, .int x1, .int x2] μ (gk_Qi Q) := by
  unfold w_X8_readsCar at h
  refine gk_enter (by decide) (Nat.le_of_ble_eq_true rfl) ?_
  show Go RX8 cX8_readsCar 7 (some .int) 1 0 [(0, .ref this), (1, .int x1), (2, .int x2)] [] μ (gk_Qi Q)
  refine go_aload_n 0 dX8_readsCar_0 rfl rfl ?_
  refine go_iconst (v := 0) dX8_readsCar_1 (by decide) ?_
  refine go_iload_n 2 dX8_readsCar_2 rfl rfl ?_
  refine go_callV (ci := 8) (d' := 0) [.int 0, .int x2] dX8_readsCar_3 cw_RX8_124 ki_X8_byteAt ks_X8_byteAt rfl (by decide) h_this rfl (Nat.le_of_ble_eq_true rfl) (by decide) (k_X8_byteAt h_this h) (gk_ki (fun r2 m1 h => ?_))
  refine go_bipush (v := 97) dX8_readsCar_6 (by decide) ?_
  refine go_isub dX8_readsCar_8 ?_
  refine gb_istore_n (fun v3 => [(3, .int v3), (0, .ref this), (1, .int x1), (2, .int x2)]) dX8_readsCar_9 rfl (by decide) (fun _ => rfl) (fun v3 e => ?_)
  replace h := h v3 e
  refine go_aload_n 1 dX8_readsCar_10 rfl rfl ?_
  refine go_iconst (v := 0) dX8_readsCar_11 (by decide) ?_
  refine go_iload_n 3 dX8_readsCar_12 rfl rfl ?_
  refine go_iconst (v := 1) dX8_readsCar_13 (by decide) ?_
  refine go_iadd dX8_readsCar_14 ?_
  refine go_callV (ci := 8) (d' := 0) [.int 0, .int (x2 + 1)] dX8_readsCar_15 cw_RX8_124 ki_X8_byteAt ks_X8_byteAt rfl (by decide) h_this rfl (Nat.le_of_ble_eq_true rfl) (by decide) (k_X8_byteAt h_this h) (gk_ki (fun r5 m4 h => ?_))
  refine go_istore [(4, .int r5), (3, .int v3), (0, .ref this), (1, .int x1), (2, .int x2)] dX8_readsCar_18 (by decide) rfl ?_
  refine go_iload 0 dX8_readsCar_20 rfl ?_
  refine go_bipush (v := 111) dX8_readsCar_22 (by decide) ?_
  refine go_icmp_ne 31 dX8_readsCar_24 (by decide) (fun c => ?_) (fun c => ?_)
  · replace h := gk_in h c
    refine go_iload 0 dX8_readsCar_31 rfl ?_
    refine go_bipush (v := 115) dX8_readsCar_33 (by decide) ?_
    refine go_icmp_ne 42 dX8_readsCar_35 (by decide) (fun c => ?_) (fun c => ?_)
    · replace h := gk_in h c
      refine go_iload 0 dX8_readsCar_42 rfl ?_
      refine go_bipush (v := 103) dX8_readsCar_44 (by decide) ?_
      refine go_icmp_ne 53 dX8_readsCar_46 (by decide) (fun c => ?_) (fun c => ?_)
      · replace h := gk_in h c
        refine go_iconst (v := (-1)) dX8_readsCar_53 (by decide) ?_
        refine go_lv [2, 3, 4, 1] rfl ?_
        exact k_X8_readsCar_j54 h_this h
      · replace h := gk_ip h c
        refine go_iconst (v := 2) dX8_readsCar_49 (by decide) ?_
        refine go_goto 54 dX8_readsCar_50 (by decide) ?_
        refine go_lv [2, 3, 4, 1] rfl ?_
        exact k_X8_readsCar_j54 h_this h
    · replace h := gk_ip h c
      refine go_iconst (v := 1) dX8_readsCar_38 (by decide) ?_
      refine go_goto 54 dX8_readsCar_39 (by decide) ?_
      refine go_lv [2, 3, 4, 1] rfl ?_
      exact k_X8_readsCar_j54 h_this h
  · replace h := gk_ip h c
    refine go_iconst (v := 0) dX8_readsCar_27 (by decide) ?_
    refine go_goto 54 dX8_readsCar_28 (by decide) ?_
    refine go_lv [2, 3, 4, 1] rfl ?_
    exact k_X8_readsCar_j54 h_this h
def w_X8_readsComing_j101 (Q : Int32 → gk_St → Prop) (this : Nat) (s2 : Nat) (x1 : Int32) (x5 : Int32) (s0 : Int32) (s1 : Int32) (μ : gk_St) : Prop := (vp_in s1 (gk_ln s2) ∧ (∀ m14 : gk_St, m14 = gk_up μ s2 s1.toNatClampNeg s0 → (vp_in x1 (gk_ln (gk_rf this 9)) ∧ (∀ m15 : gk_St, m15 = gk_up m14 (gk_rf this 9) x1.toNatClampNeg x5 → Q 3 m15))))
set_option maxRecDepth 100000 in
set_option maxHeartbeats 4000000 in
theorem k_X8_readsComing_j101 {Q : Int32 → gk_St → Prop} {this s2 : Nat} {x1 : Int32} {x5 : Int32} {s0 : Int32} {s1 : Int32} {μ : gk_St} (h_this : gk_isO this 8) (h_s2 : gk_isO s2 100) (h : w_X8_readsComing_j101 Q this s2 x1 x5 s0 s1 μ) : Go RX8 cX8_readsComing 6 (some .int) 2 101 [(0, .ref this), (1, .int x1), (5, .int x5)] [.int s0, .int s1, .ref s2] μ (gk_Qi Q) := by
  unfold w_X8_readsComing_j101 at h
  refine gb_iastore dX8_readsComing_101 h_s2 h.1 (fun m14 e => ?_)
  replace h := h.2 m14 e
  refine go_aload_n 0 dX8_readsComing_102 rfl rfl ?_
  refine go_getR dX8_readsComing_103 fl_RX8_31 h_this (rr_8_9 h_this) ?_
  refine go_iload_n 1 dX8_readsComing_106 rfl rfl ?_
  refine go_iload 2 dX8_readsComing_107 rfl ?_
  refine gb_iastore dX8_readsComing_109 (rt_8_9 h_this) h.1 (fun m15 e => ?_)
  replace h := h.2 m15 e
  refine go_iconst (v := 3) dX8_readsComing_110 (by decide) ?_
  exact go_iret dX8_readsComing_111 ⟨_, rfl, h⟩
def w_X8_readsComing_j64 (Q : Int32 → gk_St → Prop) (this : Nat) (x1 : Int32) (x3 : Int32) (x4 : Int32) (x5 : Int32) (μ : gk_St) : Prop := w_X8_in x5 1 9 μ (fun r12 m11 => (if r12 = 0 then Q 2 m11 else (vp_in x1 (gk_ln (gk_rf this 7)) ∧ (∀ m13 : gk_St, m13 = gk_up m11 (gk_rf this 7) x1.toNatClampNeg x3 → (if x4 = 98 then w_X8_readsComing_j101 Q this (gk_rf this 8) x1 x5 0 x1 m13 else w_X8_readsComing_j101 Q this (gk_rf this 8) x1 x5 1 x1 m13)))))
set_option maxRecDepth 100000 in
set_option maxHeartbeats 4000000 in
theorem k_X8_readsComing_j64 {Q : Int32 → gk_St → Prop} {this : Nat} {x1 : Int32} {x3 : Int32} {x4 : Int32} {x5 : Int32} {μ : gk_St} (h_this : gk_isO this 8) (h : w_X8_readsComing_j64 Q this x1 x3 x4 x5 μ) : Go RX8 cX8_readsComing 6 (some .int) 2 64 [(0, .ref this), (1, .int x1), (3, .int x3), (4, .int x4), (5, .int x5)] [] μ (gk_Qi Q) := by
  unfold w_X8_readsComing_j64 at h
  refine go_iload 4 dX8_readsComing_64 rfl ?_
  refine go_iconst (v := 1) dX8_readsComing_66 (by decide) ?_
  refine go_bipush (v := 9) dX8_readsComing_67 (by decide) ?_
  refine go_callS (d' := 0) [.int x5, .int 1, .int 9] dX8_readsComing_69 cw_RX8_112 kt_X8_in rfl (Nat.le_of_ble_eq_true rfl) (by decide) (k_X8_in h) (gk_ki (fun r12 m11 h => ?_))
  refine go_if_ne 77 dX8_readsComing_72 (by decide) (fun c => ?_) (fun c => ?_)
  · replace h := gk_in h c
    refine go_aload_n 0 dX8_readsComing_77 rfl rfl ?_
    refine go_getR dX8_readsComing_78 fl_RX8_25 h_this (rr_8_7 h_this) ?_
    refine go_iload_n 1 dX8_readsComing_81 rfl rfl ?_
    refine go_iload_n 2 dX8_readsComing_82 rfl rfl ?_
    refine gb_iastore dX8_readsComing_83 (rt_8_7 h_this) h.1 (fun m13 e => ?_)
    replace h := h.2 m13 e
    refine go_aload_n 0 dX8_readsComing_84 rfl rfl ?_
    refine go_getR dX8_readsComing_85 fl_RX8_28 h_this (rr_8_8 h_this) ?_
    refine go_iload_n 1 dX8_readsComing_88 rfl rfl ?_
    refine go_iload 3 dX8_readsComing_89 rfl ?_
    refine go_bipush (v := 98) dX8_readsComing_91 (by decide) ?_
    refine go_icmp_ne 100 dX8_readsComing_93 (by decide) (fun c => ?_) (fun c => ?_)
    · replace h := gk_in h c
      refine go_iconst (v := 1) dX8_readsComing_100 (by decide) ?_
      refine go_lv [0, 1, 4] rfl ?_
      exact k_X8_readsComing_j101 h_this (rt_8_8 h_this) h
    · replace h := gk_ip h c
      refine go_iconst (v := 0) dX8_readsComing_96 (by decide) ?_
      refine go_goto 101 dX8_readsComing_97 (by decide) ?_
      refine go_lv [0, 1, 4] rfl ?_
      exact k_X8_readsComing_j101 h_this (rt_8_8 h_this) h
  · replace h := gk_ip h c
    refine go_iconst (v := 2) dX8_readsComing_75 (by decide) ?_
    exact go_iret dX8_readsComing_76 ⟨_, rfl, h⟩
def w_X8_readsComing (this : Nat) (x1 : Int32) (x2 : Int32) (μ : gk_St) (Q : Int32 → gk_St → Prop) : Prop := w_X8_byteAt this 1 x2 μ (fun r2 m1 => (∀ v3 : Int32, v3 = (r2 - 97) → w_X8_byteAt this 1 (x2 + 1) m1 (fun r5 m4 => w_X8_byteAt this 1 (x2 + 2) m4 (fun r7 m6 => (∀ v8 : Int32, v8 = (r7 - 48) → (if x1 = 12 then Q 0 m6 else w_X8_isMoment v3 m6 (fun r10 m9 => (if r10 = 0 then Q 0 m9 else (if r5 = 98 then w_X8_readsComing_j64 Q this x1 v3 r5 v8 m9 else (if r5 = 116 then w_X8_readsComing_j64 Q this x1 v3 r5 v8 m9 else Q 1 m9))))))))))
set_option maxRecDepth 100000 in
set_option maxHeartbeats 4000000 in
theorem k_X8_readsComing {this : Nat} {x1 : Int32} {x2 : Int32} {μ : gk_St} {Q : Int32 → gk_St → Prop} (h_this : gk_isO this 8) (h : w_X8_readsComing this x1 x2 μ Q) : gk_CT yX8_readsComing cX8_readsComing 6 (some .int) 2 [.ref this, .int x1, .int x2] μ (gk_Qi Q) := by
  unfold w_X8_readsComing at h
  refine gk_enter (by decide) (Nat.le_of_ble_eq_true rfl) ?_
  show Go RX8 cX8_readsComing 6 (some .int) 2 0 [(0, .ref this), (1, .int x1), (2, .int x2)] [] μ (gk_Qi Q)
  refine go_aload_n 0 dX8_readsComing_0 rfl rfl ?_
  refine go_iconst (v := 1) dX8_readsComing_1 (by decide) ?_
  refine go_iload_n 2 dX8_readsComing_2 rfl rfl ?_
  refine go_callV (ci := 8) (d' := 0) [.int 1, .int x2] dX8_readsComing_3 cw_RX8_124 ki_X8_byteAt ks_X8_byteAt rfl (by decide) h_this rfl (Nat.le_of_ble_eq_true rfl) (by decide) (k_X8_byteAt h_this h) (gk_ki (fun r2 m1 h => ?_))
  refine go_bipush (v := 97) dX8_readsComing_6 (by decide) ?_
  refine go_isub dX8_readsComing_8 ?_
  refine gb_istore_n (fun v3 => [(3, .int v3), (0, .ref this), (1, .int x1), (2, .int x2)]) dX8_readsComing_9 rfl (by decide) (fun _ => rfl) (fun v3 e => ?_)
  replace h := h v3 e
  refine go_aload_n 1 dX8_readsComing_10 rfl rfl ?_
  refine go_iconst (v := 1) dX8_readsComing_11 (by decide) ?_
  refine go_iload_n 3 dX8_readsComing_12 rfl rfl ?_
  refine go_iconst (v := 1) dX8_readsComing_13 (by decide) ?_
  refine go_iadd dX8_readsComing_14 ?_
  refine go_callV (ci := 8) (d' := 0) [.int 1, .int (x2 + 1)] dX8_readsComing_15 cw_RX8_124 ki_X8_byteAt ks_X8_byteAt rfl (by decide) h_this rfl (Nat.le_of_ble_eq_true rfl) (by decide) (k_X8_byteAt h_this h) (gk_ki (fun r5 m4 h => ?_))
  refine go_istore [(4, .int r5), (3, .int v3), (0, .ref this), (1, .int x1), (2, .int x2)] dX8_readsComing_18 (by decide) rfl ?_
  refine go_aload_n 2 dX8_readsComing_20 rfl rfl ?_
  refine go_iconst (v := 1) dX8_readsComing_21 (by decide) ?_
  refine go_iload_n 4 dX8_readsComing_22 rfl rfl ?_
  refine go_iconst (v := 2) dX8_readsComing_23 (by decide) ?_
  refine go_iadd dX8_readsComing_24 ?_
  refine go_callV (ci := 8) (d' := 0) [.int 1, .int (x2 + 2)] dX8_readsComing_25 cw_RX8_124 ki_X8_byteAt ks_X8_byteAt rfl (by decide) h_this rfl (Nat.le_of_ble_eq_true rfl) (by decide) (k_X8_byteAt h_this h) (gk_ki (fun r7 m6 h => ?_))
  refine go_bipush (v := 48) dX8_readsComing_28 (by decide) ?_
  refine go_isub dX8_readsComing_30 ?_
  refine gb_istore (fun v8 => [(5, .int v8), (4, .int r5), (3, .int v3), (0, .ref this), (1, .int x1), (2, .int x2)]) dX8_readsComing_31 (by decide) (fun _ => rfl) (fun v8 e => ?_)
  replace h := h v8 e
  refine go_iload_n 4 dX8_readsComing_33 rfl rfl ?_
  refine go_bipush (v := 12) dX8_readsComing_34 (by decide) ?_
  refine go_icmp_eq 46 dX8_readsComing_36 (by decide) (fun c => ?_) (fun c => ?_)
  · replace h := gk_ip h c
    refine go_iconst (v := 0) dX8_readsComing_46 (by decide) ?_
    exact go_iret dX8_readsComing_47 ⟨_, rfl, h⟩
  · replace h := gk_in h c
    refine go_iload_n 2 dX8_readsComing_39 rfl rfl ?_
    refine go_callS (d' := 1) [.int v3] dX8_readsComing_40 cw_RX8_132 kt_X8_isMoment rfl (Nat.le_of_ble_eq_true rfl) (by decide) (k_X8_isMoment h) (gk_ki (fun r10 m9 h => ?_))
    refine go_if_ne 48 dX8_readsComing_43 (by decide) (fun c => ?_) (fun c => ?_)
    · replace h := gk_in h c
      refine go_iload 1 dX8_readsComing_48 rfl ?_
      refine go_bipush (v := 98) dX8_readsComing_50 (by decide) ?_
      refine go_icmp_eq 64 dX8_readsComing_52 (by decide) (fun c => ?_) (fun c => ?_)
      · replace h := gk_ip h c
        refine go_lv [3, 4, 2, 1, 0] rfl ?_
        exact k_X8_readsComing_j64 h_this h
      · replace h := gk_in h c
        refine go_iload 1 dX8_readsComing_55 rfl ?_
        refine go_bipush (v := 116) dX8_readsComing_57 (by decide) ?_
        refine go_icmp_eq 64 dX8_readsComing_59 (by decide) (fun c => ?_) (fun c => ?_)
        · replace h := gk_ip h c
          refine go_lv [3, 4, 2, 1, 0] rfl ?_
          exact k_X8_readsComing_j64 h_this h
        · replace h := gk_in h c
          refine go_iconst (v := 1) dX8_readsComing_62 (by decide) ?_
          exact go_iret dX8_readsComing_63 ⟨_, rfl, h⟩
    · replace h := gk_ip h c
      refine go_iconst (v := 0) dX8_readsComing_46 (by decide) ?_
      exact go_iret dX8_readsComing_47 ⟨_, rfl, h⟩
