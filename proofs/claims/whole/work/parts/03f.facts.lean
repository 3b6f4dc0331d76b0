set_option maxRecDepth 100000 in
theorem rr_0_0 {o : Nat} (h : gk_isO o 0) : gk_ref o 0 := by
  have h9 := gk_chk (P := fun o => !((gk_sk o).1 == 0) || ((gk_sk o).2[0]? == some (gk_rf o 0 + 1))) (by decide +kernel) (gk_isO_lt h (by omega))
  have h2 : (gk_sk o).1 = 0 := h
  simp only [h2, beq_self_eq_true, Bool.not_true, Bool.false_or, beq_iff_eq, Bool.and_eq_true, bne_iff_ne, ne_eq] at h9
  exact ⟨_, h9⟩
set_option maxRecDepth 100000 in
theorem rt_0_0 {o : Nat} (h : gk_isO o 0) : gk_isO (gk_rf o 0) 100 := by
  have h9 := gk_chk (P := fun o => !((gk_sk o).1 == 0) || ((gk_sk (gk_rf o 0)).1 == 100)) (by decide +kernel) (gk_isO_lt h (by omega))
  have h2 : (gk_sk o).1 = 0 := h
  simp only [h2, beq_self_eq_true, Bool.not_true, Bool.false_or, beq_iff_eq, Bool.and_eq_true, bne_iff_ne, ne_eq] at h9
  exact h9
set_option maxRecDepth 100000 in
theorem al_0_0 {o : Nat} (h : gk_isO o 0) : gk_ln (gk_rf o 0) = 8 := by
  have h9 := gk_chk (P := fun o => !((gk_sk o).1 == 0) || (gk_ln (gk_rf o 0) == 8)) (by decide +kernel) (gk_isO_lt h (by omega))
  have h2 : (gk_sk o).1 = 0 := h
  simp only [h2, beq_self_eq_true, Bool.not_true, Bool.false_or, beq_iff_eq, Bool.and_eq_true, bne_iff_ne, ne_eq] at h9
  exact h9
set_option maxRecDepth 100000 in
theorem rr_0_1 {o : Nat} (h : gk_isO o 0) : gk_ref o 1 := by
  have h9 := gk_chk (P := fun o => !((gk_sk o).1 == 0) || ((gk_sk o).2[1]? == some (gk_rf o 1 + 1))) (by decide +kernel) (gk_isO_lt h (by omega))
  have h2 : (gk_sk o).1 = 0 := h
  simp only [h2, beq_self_eq_true, Bool.not_true, Bool.false_or, beq_iff_eq, Bool.and_eq_true, bne_iff_ne, ne_eq] at h9
  exact ⟨_, h9⟩
set_option maxRecDepth 100000 in
theorem rt_0_1 {o : Nat} (h : gk_isO o 0) : gk_isO (gk_rf o 1) 100 := by
  have h9 := gk_chk (P := fun o => !((gk_sk o).1 == 0) || ((gk_sk (gk_rf o 1)).1 == 100)) (by decide +kernel) (gk_isO_lt h (by omega))
  have h2 : (gk_sk o).1 = 0 := h
  simp only [h2, beq_self_eq_true, Bool.not_true, Bool.false_or, beq_iff_eq, Bool.and_eq_true, bne_iff_ne, ne_eq] at h9
  exact h9
set_option maxRecDepth 100000 in
theorem al_0_1 {o : Nat} (h : gk_isO o 0) : gk_ln (gk_rf o 1) = 8 := by
  have h9 := gk_chk (P := fun o => !((gk_sk o).1 == 0) || (gk_ln (gk_rf o 1) == 8)) (by decide +kernel) (gk_isO_lt h (by omega))
  have h2 : (gk_sk o).1 = 0 := h
  simp only [h2, beq_self_eq_true, Bool.not_true, Bool.false_or, beq_iff_eq, Bool.and_eq_true, bne_iff_ne, ne_eq] at h9
  exact h9
set_option maxRecDepth 100000 in
theorem rr_0_2 {o : Nat} (h : gk_isO o 0) : gk_ref o 2 := by
  have h9 := gk_chk (P := fun o => !((gk_sk o).1 == 0) || ((gk_sk o).2[2]? == some (gk_rf o 2 + 1))) (by decide +kernel) (gk_isO_lt h (by omega))
  have h2 : (gk_sk o).1 = 0 := h
  simp only [h2, beq_self_eq_true, Bool.not_true, Bool.false_or, beq_iff_eq, Bool.and_eq_true, bne_iff_ne, ne_eq] at h9
  exact ⟨_, h9⟩
set_option maxRecDepth 100000 in
theorem rt_0_2 {o : Nat} (h : gk_isO o 0) : gk_isO (gk_rf o 2) 100 := by
  have h9 := gk_chk (P := fun o => !((gk_sk o).1 == 0) || ((gk_sk (gk_rf o 2)).1 == 100)) (by decide +kernel) (gk_isO_lt h (by omega))
  have h2 : (gk_sk o).1 = 0 := h
  simp only [h2, beq_self_eq_true, Bool.not_true, Bool.false_or, beq_iff_eq, Bool.and_eq_true, bne_iff_ne, ne_eq] at h9
  exact h9
set_option maxRecDepth 100000 in
theorem al_0_2 {o : Nat} (h : gk_isO o 0) : gk_ln (gk_rf o 2) = 8 := by
  have h9 := gk_chk (P := fun o => !((gk_sk o).1 == 0) || (gk_ln (gk_rf o 2) == 8)) (by decide +kernel) (gk_isO_lt h (by omega))
  have h2 : (gk_sk o).1 = 0 := h
  simp only [h2, beq_self_eq_true, Bool.not_true, Bool.false_or, beq_iff_eq, Bool.and_eq_true, bne_iff_ne, ne_eq] at h9
  exact h9
set_option maxRecDepth 100000 in
theorem nf_0_3 {o : Nat} (h : gk_isO o 0) : gk_num o 3 := by
  have h9 := gk_chk (P := fun o => !((gk_sk o).1 == 0) || ((gk_sk o).2[3]? == some 0)) (by decide +kernel) (gk_isO_lt h (by omega))
  have h2 : (gk_sk o).1 = 0 := h
  simp only [h2, beq_self_eq_true, Bool.not_true, Bool.false_or, beq_iff_eq, Bool.and_eq_true, bne_iff_ne, ne_eq] at h9
  exact h9
set_option maxRecDepth 100000 in
theorem nf_1_0 {o : Nat} (h : gk_isO o 1) : gk_num o 0 := by
  have h9 := gk_chk (P := fun o => !((gk_sk o).1 == 1) || ((gk_sk o).2[0]? == some 0)) (by decide +kernel) (gk_isO_lt h (by omega))
  have h2 : (gk_sk o).1 = 1 := h
  simp only [h2, beq_self_eq_true, Bool.not_true, Bool.false_or, beq_iff_eq, Bool.and_eq_true, bne_iff_ne, ne_eq] at h9
  exact h9
set_option maxRecDepth 100000 in
theorem rr_1_1 {o : Nat} (h : gk_isO o 1) : gk_ref o 1 := by
  have h9 := gk_chk (P := fun o => !((gk_sk o).1 == 1) || ((gk_sk o).2[1]? == some (gk_rf o 1 + 1))) (by decide +kernel) (gk_isO_lt h (by omega))
  have h2 : (gk_sk o).1 = 1 := h
  simp only [h2, beq_self_eq_true, Bool.not_true, Bool.false_or, beq_iff_eq, Bool.and_eq_true, bne_iff_ne, ne_eq] at h9
  exact ⟨_, h9⟩
set_option maxRecDepth 100000 in
theorem rt_1_1 {o : Nat} (h : gk_isO o 1) : gk_isO (gk_rf o 1) 100 := by
  have h9 := gk_chk (P := fun o => !((gk_sk o).1 == 1) || ((gk_sk (gk_rf o 1)).1 == 100)) (by decide +kernel) (gk_isO_lt h (by omega))
  have h2 : (gk_sk o).1 = 1 := h
  simp only [h2, beq_self_eq_true, Bool.not_true, Bool.false_or, beq_iff_eq, Bool.and_eq_true, bne_iff_ne, ne_eq] at h9
  exact h9
set_option maxRecDepth 100000 in
theorem al_1_1 {o : Nat} (h : gk_isO o 1) : gk_ln (gk_rf o 1) = 6 := by
  have h9 := gk_chk (P := fun o => !((gk_sk o).1 == 1) || (gk_ln (gk_rf o 1) == 6)) (by decide +kernel) (gk_isO_lt h (by omega))
  have h2 : (gk_sk o).1 = 1 := h
  simp only [h2, beq_self_eq_true, Bool.not_true, Bool.false_or, beq_iff_eq, Bool.and_eq_true, bne_iff_ne, ne_eq] at h9
  exact h9
set_option maxRecDepth 100000 in
theorem rr_1_2 {o : Nat} (h : gk_isO o 1) : gk_ref o 2 := by
  have h9 := gk_chk (P := fun o => !((gk_sk o).1 == 1) || ((gk_sk o).2[2]? == some (gk_rf o 2 + 1))) (by decide +kernel) (gk_isO_lt h (by omega))
  have h2 : (gk_sk o).1 = 1 := h
  simp only [h2, beq_self_eq_true, Bool.not_true, Bool.false_or, beq_iff_eq, Bool.and_eq_true, bne_iff_ne, ne_eq] at h9
  exact ⟨_, h9⟩
set_option maxRecDepth 100000 in
theorem rt_1_2 {o : Nat} (h : gk_isO o 1) : gk_isO (gk_rf o 2) 100 := by
  have h9 := gk_chk (P := fun o => !((gk_sk o).1 == 1) || ((gk_sk (gk_rf o 2)).1 == 100)) (by decide +kernel) (gk_isO_lt h (by omega))
  have h2 : (gk_sk o).1 = 1 := h
  simp only [h2, beq_self_eq_true, Bool.not_true, Bool.false_or, beq_iff_eq, Bool.and_eq_true, bne_iff_ne, ne_eq] at h9
  exact h9
set_option maxRecDepth 100000 in
theorem al_1_2 {o : Nat} (h : gk_isO o 1) : gk_ln (gk_rf o 2) = 6 := by
  have h9 := gk_chk (P := fun o => !((gk_sk o).1 == 1) || (gk_ln (gk_rf o 2) == 6)) (by decide +kernel) (gk_isO_lt h (by omega))
  have h2 : (gk_sk o).1 = 1 := h
  simp only [h2, beq_self_eq_true, Bool.not_true, Bool.false_or, beq_iff_eq, Bool.and_eq_true, bne_iff_ne, ne_eq] at h9
  exact h9
set_option maxRecDepth 100000 in
theorem rr_1_3 {o : Nat} (h : gk_isO o 1) : gk_ref o 3 := by
  have h9 := gk_chk (P := fun o => !((gk_sk o).1 == 1) || ((gk_sk o).2[3]? == some (gk_rf o 3 + 1))) (by decide +kernel) (gk_isO_lt h (by omega))
  have h2 : (gk_sk o).1 = 1 := h
  simp only [h2, beq_self_eq_true, Bool.not_true, Bool.false_or, beq_iff_eq, Bool.and_eq_true, bne_iff_ne, ne_eq] at h9
  exact ⟨_, h9⟩
set_option maxRecDepth 100000 in
theorem rt_1_3 {o : Nat} (h : gk_isO o 1) : gk_isO (gk_rf o 3) 100 := by
  have h9 := gk_chk (P := fun o => !((gk_sk o).1 == 1) || ((gk_sk (gk_rf o 3)).1 == 100)) (by decide +kernel) (gk_isO_lt h (by omega))
  have h2 : (gk_sk o).1 = 1 := h
  simp only [h2, beq_self_eq_true, Bool.not_true, Bool.false_or, beq_iff_eq, Bool.and_eq_true, bne_iff_ne, ne_eq] at h9
  exact h9
set_option maxRecDepth 100000 in
theorem al_1_3 {o : Nat} (h : gk_isO o 1) : gk_ln (gk_rf o 3) = 6 := by
  have h9 := gk_chk (P := fun o => !((gk_sk o).1 == 1) || (gk_ln (gk_rf o 3) == 6)) (by decide +kernel) (gk_isO_lt h (by omega))
  have h2 : (gk_sk o).1 = 1 := h
  simp only [h2, beq_self_eq_true, Bool.not_true, Bool.false_or, beq_iff_eq, Bool.and_eq_true, bne_iff_ne, ne_eq] at h9
  exact h9
set_option maxRecDepth 100000 in
theorem rr_1_4 {o : Nat} (h : gk_isO o 1) : gk_ref o 4 := by
  have h9 := gk_chk (P := fun o => !((gk_sk o).1 == 1) || ((gk_sk o).2[4]? == some (gk_rf o 4 + 1))) (by decide +kernel) (gk_isO_lt h (by omega))
  have h2 : (gk_sk o).1 = 1 := h
  simp only [h2, beq_self_eq_true, Bool.not_true, Bool.false_or, beq_iff_eq, Bool.and_eq_true, bne_iff_ne, ne_eq] at h9
  exact ⟨_, h9⟩
set_option maxRecDepth 100000 in
theorem rt_1_4 {o : Nat} (h : gk_isO o 1) : gk_isO (gk_rf o 4) 100 := by
  have h9 := gk_chk (P := fun o => !((gk_sk o).1 == 1) || ((gk_sk (gk_rf o 4)).1 == 100)) (by decide +kernel) (gk_isO_lt h (by omega))
  have h2 : (gk_sk o).1 = 1 := h
  simp only [h2, beq_self_eq_true, Bool.not_true, Bool.false_or, beq_iff_eq, Bool.and_eq_true, bne_iff_ne, ne_eq] at h9
  exact h9
set_option maxRecDepth 100000 in
theorem al_1_4 {o : Nat} (h : gk_isO o 1) : gk_ln (gk_rf o 4) = 6 := by
  have h9 := gk_chk (P := fun o => !((gk_sk o).1 == 1) || (gk_ln (gk_rf o 4) == 6)) (by decide +kernel) (gk_isO_lt h (by omega))
  have h2 : (gk_sk o).1 = 1 := h
  simp only [h2, beq_self_eq_true, Bool.not_true, Bool.false_or, beq_iff_eq, Bool.and_eq_true, bne_iff_ne, ne_eq] at h9
  exact h9
set_option maxRecDepth 100000 in
theorem rr_1_5 {o : Nat} (h : gk_isO o 1) : gk_ref o 5 := by
  have h9 := gk_chk (P := fun o => !((gk_sk o).1 == 1) || ((gk_sk o).2[5]? == some (gk_rf o 5 + 1))) (by decide +kernel) (gk_isO_lt h (by omega))
  have h2 : (gk_sk o).1 = 1 := h
  simp only [h2, beq_self_eq_true, Bool.not_true, Bool.false_or, beq_iff_eq, Bool.and_eq_true, bne_iff_ne, ne_eq] at h9
  exact ⟨_, h9⟩
set_option maxRecDepth 100000 in
theorem rt_1_5 {o : Nat} (h : gk_isO o 1) : gk_isO (gk_rf o 5) 102 := by
  have h9 := gk_chk (P := fun o => !((gk_sk o).1 == 1) || ((gk_sk (gk_rf o 5)).1 == 102)) (by decide +kernel) (gk_isO_lt h (by omega))
  have h2 : (gk_sk o).1 = 1 := h
  simp only [h2, beq_self_eq_true, Bool.not_true, Bool.false_or, beq_iff_eq, Bool.and_eq_true, bne_iff_ne, ne_eq] at h9
  exact h9
set_option maxRecDepth 100000 in
theorem al_1_5 {o : Nat} (h : gk_isO o 1) : gk_rl (gk_rf o 5) = 2 := by
  have h9 := gk_chk (P := fun o => !((gk_sk o).1 == 1) || (gk_rl (gk_rf o 5) == 2)) (by decide +kernel) (gk_isO_lt h (by omega))
  have h2 : (gk_sk o).1 = 1 := h
  simp only [h2, beq_self_eq_true, Bool.not_true, Bool.false_or, beq_iff_eq, Bool.and_eq_true, bne_iff_ne, ne_eq] at h9
  exact h9
set_option maxRecDepth 100000 in
theorem rr_1_6 {o : Nat} (h : gk_isO o 1) : gk_ref o 6 := by
  have h9 := gk_chk (P := fun o => !((gk_sk o).1 == 1) || ((gk_sk o).2[6]? == some (gk_rf o 6 + 1))) (by decide +kernel) (gk_isO_lt h (by omega))
  have h2 : (gk_sk o).1 = 1 := h
  simp only [h2, beq_self_eq_true, Bool.not_true, Bool.false_or, beq_iff_eq, Bool.and_eq_true, bne_iff_ne, ne_eq] at h9
  exact ⟨_, h9⟩
set_option maxRecDepth 100000 in
theorem rt_1_6 {o : Nat} (h : gk_isO o 1) : gk_isO (gk_rf o 6) 100 := by
  have h9 := gk_chk (P := fun o => !((gk_sk o).1 == 1) || ((gk_sk (gk_rf o 6)).1 == 100)) (by decide +kernel) (gk_isO_lt h (by omega))
  have h2 : (gk_sk o).1 = 1 := h
  simp only [h2, beq_self_eq_true, Bool.not_true, Bool.false_or, beq_iff_eq, Bool.and_eq_true, bne_iff_ne, ne_eq] at h9
  exact h9
set_option maxRecDepth 100000 in
theorem al_1_6 {o : Nat} (h : gk_isO o 1) : gk_ln (gk_rf o 6) = 24 := by
  have h9 := gk_chk (P := fun o => !((gk_sk o).1 == 1) || (gk_ln (gk_rf o 6) == 24)) (by decide +kernel) (gk_isO_lt h (by omega))
  have h2 : (gk_sk o).1 = 1 := h
  simp only [h2, beq_self_eq_true, Bool.not_true, Bool.false_or, beq_iff_eq, Bool.and_eq_true, bne_iff_ne, ne_eq] at h9
  exact h9
set_option maxRecDepth 100000 in
theorem rr_1_7 {o : Nat} (h : gk_isO o 1) : gk_ref o 7 := by
  have h9 := gk_chk (P := fun o => !((gk_sk o).1 == 1) || ((gk_sk o).2[7]? == some (gk_rf o 7 + 1))) (by decide +kernel) (gk_isO_lt h (by omega))
  have h2 : (gk_sk o).1 = 1 := h
  simp only [h2, beq_self_eq_true, Bool.not_true, Bool.false_or, beq_iff_eq, Bool.and_eq_true, bne_iff_ne, ne_eq] at h9
  exact ⟨_, h9⟩
set_option maxRecDepth 100000 in
theorem rt_1_7 {o : Nat} (h : gk_isO o 1) : gk_isO (gk_rf o 7) 101 := by
  have h9 := gk_chk (P := fun o => !((gk_sk o).1 == 1) || ((gk_sk (gk_rf o 7)).1 == 101)) (by decide +kernel) (gk_isO_lt h (by omega))
  have h2 : (gk_sk o).1 = 1 := h
  simp only [h2, beq_self_eq_true, Bool.not_true, Bool.false_or, beq_iff_eq, Bool.and_eq_true, bne_iff_ne, ne_eq] at h9
  exact h9
set_option maxRecDepth 100000 in
theorem al_1_7 {o : Nat} (h : gk_isO o 1) : gk_ln (gk_rf o 7) = 24 := by
  have h9 := gk_chk (P := fun o => !((gk_sk o).1 == 1) || (gk_ln (gk_rf o 7) == 24)) (by decide +kernel) (gk_isO_lt h (by omega))
  have h2 : (gk_sk o).1 = 1 := h
  simp only [h2, beq_self_eq_true, Bool.not_true, Bool.false_or, beq_iff_eq, Bool.and_eq_true, bne_iff_ne, ne_eq] at h9
  exact h9
set_option maxRecDepth 100000 in
theorem rr_1_8 {o : Nat} (h : gk_isO o 1) : gk_ref o 8 := by
  have h9 := gk_chk (P := fun o => !((gk_sk o).1 == 1) || ((gk_sk o).2[8]? == some (gk_rf o 8 + 1))) (by decide +kernel) (gk_isO_lt h (by omega))
  have h2 : (gk_sk o).1 = 1 := h
  simp only [h2, beq_self_eq_true, Bool.not_true, Bool.false_or, beq_iff_eq, Bool.and_eq_true, bne_iff_ne, ne_eq] at h9
  exact ⟨_, h9⟩
set_option maxRecDepth 100000 in
theorem rt_1_8 {o : Nat} (h : gk_isO o 1) : gk_isO (gk_rf o 8) 101 := by
  have h9 := gk_chk (P := fun o => !((gk_sk o).1 == 1) || ((gk_sk (gk_rf o 8)).1 == 101)) (by decide +kernel) (gk_isO_lt h (by omega))
  have h2 : (gk_sk o).1 = 1 := h
  simp only [h2, beq_self_eq_true, Bool.not_true, Bool.false_or, beq_iff_eq, Bool.and_eq_true, bne_iff_ne, ne_eq] at h9
  exact h9
set_option maxRecDepth 100000 in
theorem al_1_8 {o : Nat} (h : gk_isO o 1) : gk_ln (gk_rf o 8) = 24 := by
  have h9 := gk_chk (P := fun o => !((gk_sk o).1 == 1) || (gk_ln (gk_rf o 8) == 24)) (by decide +kernel) (gk_isO_lt h (by omega))
  have h2 : (gk_sk o).1 = 1 := h
  simp only [h2, beq_self_eq_true, Bool.not_true, Bool.false_or, beq_iff_eq, Bool.and_eq_true, bne_iff_ne, ne_eq] at h9
  exact h9
set_option maxRecDepth 100000 in
theorem rr_2_0 {o : Nat} (h : gk_isO o 2) : gk_ref o 0 := by
  have h9 := gk_chk (P := fun o => !((gk_sk o).1 == 2) || ((gk_sk o).2[0]? == some (gk_rf o 0 + 1))) (by decide +kernel) (gk_isO_lt h (by omega))
  have h2 : (gk_sk o).1 = 2 := h
  simp only [h2, beq_self_eq_true, Bool.not_true, Bool.false_or, beq_iff_eq, Bool.and_eq_true, bne_iff_ne, ne_eq] at h9
  exact ⟨_, h9⟩
set_option maxRecDepth 100000 in
theorem rt_2_0 {o : Nat} (h : gk_isO o 2) : gk_isO (gk_rf o 0) 102 := by
  have h9 := gk_chk (P := fun o => !((gk_sk o).1 == 2) || ((gk_sk (gk_rf o 0)).1 == 102)) (by decide +kernel) (gk_isO_lt h (by omega))
  have h2 : (gk_sk o).1 = 2 := h
  simp only [h2, beq_self_eq_true, Bool.not_true, Bool.false_or, beq_iff_eq, Bool.and_eq_true, bne_iff_ne, ne_eq] at h9
  exact h9
set_option maxRecDepth 100000 in
theorem al_2_0 {o : Nat} (h : gk_isO o 2) : gk_rl (gk_rf o 0) = 6 := by
  have h9 := gk_chk (P := fun o => !((gk_sk o).1 == 2) || (gk_rl (gk_rf o 0) == 6)) (by decide +kernel) (gk_isO_lt h (by omega))
  have h2 : (gk_sk o).1 = 2 := h
  simp only [h2, beq_self_eq_true, Bool.not_true, Bool.false_or, beq_iff_eq, Bool.and_eq_true, bne_iff_ne, ne_eq] at h9
  exact h9
set_option maxRecDepth 100000 in
theorem rr_2_1 {o : Nat} (h : gk_isO o 2) : gk_ref o 1 := by
  have h9 := gk_chk (P := fun o => !((gk_sk o).1 == 2) || ((gk_sk o).2[1]? == some (gk_rf o 1 + 1))) (by decide +kernel) (gk_isO_lt h (by omega))
  have h2 : (gk_sk o).1 = 2 := h
  simp only [h2, beq_self_eq_true, Bool.not_true, Bool.false_or, beq_iff_eq, Bool.and_eq_true, bne_iff_ne, ne_eq] at h9
  exact ⟨_, h9⟩
set_option maxRecDepth 100000 in
theorem rt_2_1 {o : Nat} (h : gk_isO o 2) : gk_isO (gk_rf o 1) 102 := by
  have h9 := gk_chk (P := fun o => !((gk_sk o).1 == 2) || ((gk_sk (gk_rf o 1)).1 == 102)) (by decide +kernel) (gk_isO_lt h (by omega))
  have h2 : (gk_sk o).1 = 2 := h
  simp only [h2, beq_self_eq_true, Bool.not_true, Bool.false_or, beq_iff_eq, Bool.and_eq_true, bne_iff_ne, ne_eq] at h9
  exact h9
set_option maxRecDepth 100000 in
theorem al_2_1 {o : Nat} (h : gk_isO o 2) : gk_rl (gk_rf o 1) = 6 := by
  have h9 := gk_chk (P := fun o => !((gk_sk o).1 == 2) || (gk_rl (gk_rf o 1) == 6)) (by decide +kernel) (gk_isO_lt h (by omega))
  have h2 : (gk_sk o).1 = 2 := h
  simp only [h2, beq_self_eq_true, Bool.not_true, Bool.false_or, beq_iff_eq, Bool.and_eq_true, bne_iff_ne, ne_eq] at h9
  exact h9
set_option maxRecDepth 100000 in
theorem rr_2_2 {o : Nat} (h : gk_isO o 2) : gk_ref o 2 := by
  have h9 := gk_chk (P := fun o => !((gk_sk o).1 == 2) || ((gk_sk o).2[2]? == some (gk_rf o 2 + 1))) (by decide +kernel) (gk_isO_lt h (by omega))
  have h2 : (gk_sk o).1 = 2 := h
  simp only [h2, beq_self_eq_true, Bool.not_true, Bool.false_or, beq_iff_eq, Bool.and_eq_true, bne_iff_ne, ne_eq] at h9
  exact ⟨_, h9⟩
set_option maxRecDepth 100000 in
theorem rt_2_2 {o : Nat} (h : gk_isO o 2) : gk_isO (gk_rf o 2) 102 := by
  have h9 := gk_chk (P := fun o => !((gk_sk o).1 == 2) || ((gk_sk (gk_rf o 2)).1 == 102)) (by decide +kernel) (gk_isO_lt h (by omega))
  have h2 : (gk_sk o).1 = 2 := h
  simp only [h2, beq_self_eq_true, Bool.not_true, Bool.false_or, beq_iff_eq, Bool.and_eq_true, bne_iff_ne, ne_eq] at h9
  exact h9
set_option maxRecDepth 100000 in
theorem al_2_2 {o : Nat} (h : gk_isO o 2) : gk_rl (gk_rf o 2) = 2 := by
  have h9 := gk_chk (P := fun o => !((gk_sk o).1 == 2) || (gk_rl (gk_rf o 2) == 2)) (by decide +kernel) (gk_isO_lt h (by omega))
  have h2 : (gk_sk o).1 = 2 := h
  simp only [h2, beq_self_eq_true, Bool.not_true, Bool.false_or, beq_iff_eq, Bool.and_eq_true, bne_iff_ne, ne_eq] at h9
  exact h9
set_option maxRecDepth 100000 in
theorem rr_2_3 {o : Nat} (h : gk_isO o 2) : gk_ref o 3 := by
  have h9 := gk_chk (P := fun o => !((gk_sk o).1 == 2) || ((gk_sk o).2[3]? == some (gk_rf o 3 + 1))) (by decide +kernel) (gk_isO_lt h (by omega))
  have h2 : (gk_sk o).1 = 2 := h
  simp only [h2, beq_self_eq_true, Bool.not_true, Bool.false_or, beq_iff_eq, Bool.and_eq_true, bne_iff_ne, ne_eq] at h9
  exact ⟨_, h9⟩
set_option maxRecDepth 100000 in
theorem rt_2_3 {o : Nat} (h : gk_isO o 2) : gk_isO (gk_rf o 3) 100 := by
  have h9 := gk_chk (P := fun o => !((gk_sk o).1 == 2) || ((gk_sk (gk_rf o 3)).1 == 100)) (by decide +kernel) (gk_isO_lt h (by omega))
  have h2 : (gk_sk o).1 = 2 := h
  simp only [h2, beq_self_eq_true, Bool.not_true, Bool.false_or, beq_iff_eq, Bool.and_eq_true, bne_iff_ne, ne_eq] at h9
  exact h9
set_option maxRecDepth 100000 in
theorem al_2_3 {o : Nat} (h : gk_isO o 2) : gk_ln (gk_rf o 3) = 24 := by
  have h9 := gk_chk (P := fun o => !((gk_sk o).1 == 2) || (gk_ln (gk_rf o 3) == 24)) (by decide +kernel) (gk_isO_lt h (by omega))
  have h2 : (gk_sk o).1 = 2 := h
  simp only [h2, beq_self_eq_true, Bool.not_true, Bool.false_or, beq_iff_eq, Bool.and_eq_true, bne_iff_ne, ne_eq] at h9
  exact h9
set_option maxRecDepth 100000 in
theorem rr_2_4 {o : Nat} (h : gk_isO o 2) : gk_ref o 4 := by
  have h9 := gk_chk (P := fun o => !((gk_sk o).1 == 2) || ((gk_sk o).2[4]? == some (gk_rf o 4 + 1))) (by decide +kernel) (gk_isO_lt h (by omega))
  have h2 : (gk_sk o).1 = 2 := h
  simp only [h2, beq_self_eq_true, Bool.not_true, Bool.false_or, beq_iff_eq, Bool.and_eq_true, bne_iff_ne, ne_eq] at h9
  exact ⟨_, h9⟩
set_option maxRecDepth 100000 in
theorem rt_2_4 {o : Nat} (h : gk_isO o 2) : gk_isO (gk_rf o 4) 100 := by
  have h9 := gk_chk (P := fun o => !((gk_sk o).1 == 2) || ((gk_sk (gk_rf o 4)).1 == 100)) (by decide +kernel) (gk_isO_lt h (by omega))
  have h2 : (gk_sk o).1 = 2 := h
  simp only [h2, beq_self_eq_true, Bool.not_true, Bool.false_or, beq_iff_eq, Bool.and_eq_true, bne_iff_ne, ne_eq] at h9
  exact h9
set_option maxRecDepth 100000 in
theorem al_2_4 {o : Nat} (h : gk_isO o 2) : gk_ln (gk_rf o 4) = 6 := by
  have h9 := gk_chk (P := fun o => !((gk_sk o).1 == 2) || (gk_ln (gk_rf o 4) == 6)) (by decide +kernel) (gk_isO_lt h (by omega))
  have h2 : (gk_sk o).1 = 2 := h
  simp only [h2, beq_self_eq_true, Bool.not_true, Bool.false_or, beq_iff_eq, Bool.and_eq_true, bne_iff_ne, ne_eq] at h9
  exact h9
set_option maxRecDepth 100000 in
theorem rr_2_5 {o : Nat} (h : gk_isO o 2) : gk_ref o 5 := by
  have h9 := gk_chk (P := fun o => !((gk_sk o).1 == 2) || ((gk_sk o).2[5]? == some (gk_rf o 5 + 1))) (by decide +kernel) (gk_isO_lt h (by omega))
  have h2 : (gk_sk o).1 = 2 := h
  simp only [h2, beq_self_eq_true, Bool.not_true, Bool.false_or, beq_iff_eq, Bool.and_eq_true, bne_iff_ne, ne_eq] at h9
  exact ⟨_, h9⟩
set_option maxRecDepth 100000 in
theorem rt_2_5 {o : Nat} (h : gk_isO o 2) : gk_isO (gk_rf o 5) 100 := by
  have h9 := gk_chk (P := fun o => !((gk_sk o).1 == 2) || ((gk_sk (gk_rf o 5)).1 == 100)) (by decide +kernel) (gk_isO_lt h (by omega))
  have h2 : (gk_sk o).1 = 2 := h
  simp only [h2, beq_self_eq_true, Bool.not_true, Bool.false_or, beq_iff_eq, Bool.and_eq_true, bne_iff_ne, ne_eq] at h9
  exact h9
set_option maxRecDepth 100000 in
theorem al_2_5 {o : Nat} (h : gk_isO o 2) : gk_ln (gk_rf o 5) = 6 := by
  have h9 := gk_chk (P := fun o => !((gk_sk o).1 == 2) || (gk_ln (gk_rf o 5) == 6)) (by decide +kernel) (gk_isO_lt h (by omega))
  have h2 : (gk_sk o).1 = 2 := h
  simp only [h2, beq_self_eq_true, Bool.not_true, Bool.false_or, beq_iff_eq, Bool.and_eq_true, bne_iff_ne, ne_eq] at h9
  exact h9
set_option maxRecDepth 100000 in
theorem rr_2_6 {o : Nat} (h : gk_isO o 2) : gk_ref o 6 := by
  have h9 := gk_chk (P := fun o => !((gk_sk o).1 == 2) || ((gk_sk o).2[6]? == some (gk_rf o 6 + 1))) (by decide +kernel) (gk_isO_lt h (by omega))
  have h2 : (gk_sk o).1 = 2 := h
  simp only [h2, beq_self_eq_true, Bool.not_true, Bool.false_or, beq_iff_eq, Bool.and_eq_true, bne_iff_ne, ne_eq] at h9
  exact ⟨_, h9⟩
set_option maxRecDepth 100000 in
theorem rt_2_6 {o : Nat} (h : gk_isO o 2) : gk_isO (gk_rf o 6) 100 := by
  have h9 := gk_chk (P := fun o => !((gk_sk o).1 == 2) || ((gk_sk (gk_rf o 6)).1 == 100)) (by decide +kernel) (gk_isO_lt h (by omega))
  have h2 : (gk_sk o).1 = 2 := h
  simp only [h2, beq_self_eq_true, Bool.not_true, Bool.false_or, beq_iff_eq, Bool.and_eq_true, bne_iff_ne, ne_eq] at h9
  exact h9
set_option maxRecDepth 100000 in
theorem al_2_6 {o : Nat} (h : gk_isO o 2) : gk_ln (gk_rf o 6) = 6 := by
  have h9 := gk_chk (P := fun o => !((gk_sk o).1 == 2) || (gk_ln (gk_rf o 6) == 6)) (by decide +kernel) (gk_isO_lt h (by omega))
  have h2 : (gk_sk o).1 = 2 := h
  simp only [h2, beq_self_eq_true, Bool.not_true, Bool.false_or, beq_iff_eq, Bool.and_eq_true, bne_iff_ne, ne_eq] at h9
  exact h9
set_option maxRecDepth 100000 in
theorem rr_2_7 {o : Nat} (h : gk_isO o 2) : gk_ref o 7 := by
  have h9 := gk_chk (P := fun o => !((gk_sk o).1 == 2) || ((gk_sk o).2[7]? == some (gk_rf o 7 + 1))) (by decide +kernel) (gk_isO_lt h (by omega))
  have h2 : (gk_sk o).1 = 2 := h
  simp only [h2, beq_self_eq_true, Bool.not_true, Bool.false_or, beq_iff_eq, Bool.and_eq_true, bne_iff_ne, ne_eq] at h9
  exact ⟨_, h9⟩
set_option maxRecDepth 100000 in
theorem rt_2_7 {o : Nat} (h : gk_isO o 2) : gk_isO (gk_rf o 7) 100 := by
  have h9 := gk_chk (P := fun o => !((gk_sk o).1 == 2) || ((gk_sk (gk_rf o 7)).1 == 100)) (by decide +kernel) (gk_isO_lt h (by omega))
  have h2 : (gk_sk o).1 = 2 := h
  simp only [h2, beq_self_eq_true, Bool.not_true, Bool.false_or, beq_iff_eq, Bool.and_eq_true, bne_iff_ne, ne_eq] at h9
  exact h9
set_option maxRecDepth 100000 in
theorem al_2_7 {o : Nat} (h : gk_isO o 2) : gk_ln (gk_rf o 7) = 2 := by
  have h9 := gk_chk (P := fun o => !((gk_sk o).1 == 2) || (gk_ln (gk_rf o 7) == 2)) (by decide +kernel) (gk_isO_lt h (by omega))
  have h2 : (gk_sk o).1 = 2 := h
  simp only [h2, beq_self_eq_true, Bool.not_true, Bool.false_or, beq_iff_eq, Bool.and_eq_true, bne_iff_ne, ne_eq] at h9
  exact h9
set_option maxRecDepth 100000 in
theorem rr_2_8 {o : Nat} (h : gk_isO o 2) : gk_ref o 8 := by
  have h9 := gk_chk (P := fun o => !((gk_sk o).1 == 2) || ((gk_sk o).2[8]? == some (gk_rf o 8 + 1))) (by decide +kernel) (gk_isO_lt h (by omega))
  have h2 : (gk_sk o).1 = 2 := h
  simp only [h2, beq_self_eq_true, Bool.not_true, Bool.false_or, beq_iff_eq, Bool.and_eq_true, bne_iff_ne, ne_eq] at h9
  exact ⟨_, h9⟩
set_option maxRecDepth 100000 in
theorem rt_2_8 {o : Nat} (h : gk_isO o 2) : gk_isO (gk_rf o 8) 100 := by
  have h9 := gk_chk (P := fun o => !((gk_sk o).1 == 2) || ((gk_sk (gk_rf o 8)).1 == 100)) (by decide +kernel) (gk_isO_lt h (by omega))
  have h2 : (gk_sk o).1 = 2 := h
  simp only [h2, beq_self_eq_true, Bool.not_true, Bool.false_or, beq_iff_eq, Bool.and_eq_true, bne_iff_ne, ne_eq] at h9
  exact h9
set_option maxRecDepth 100000 in
theorem al_2_8 {o : Nat} (h : gk_isO o 2) : gk_ln (gk_rf o 8) = 2 := by
  have h9 := gk_chk (P := fun o => !((gk_sk o).1 == 2) || (gk_ln (gk_rf o 8) == 2)) (by decide +kernel) (gk_isO_lt h (by omega))
  have h2 : (gk_sk o).1 = 2 := h
  simp only [h2, beq_self_eq_true, Bool.not_true, Bool.false_or, beq_iff_eq, Bool.and_eq_true, bne_iff_ne, ne_eq] at h9
  exact h9
set_option maxRecDepth 100000 in
theorem nf_2_9 {o : Nat} (h : gk_isO o 2) : gk_num o 9 := by
  have h9 := gk_chk (P := fun o => !((gk_sk o).1 == 2) || ((gk_sk o).2[9]? == some 0)) (by decide +kernel) (gk_isO_lt h (by omega))
  have h2 : (gk_sk o).1 = 2 := h
  simp only [h2, beq_self_eq_true, Bool.not_true, Bool.false_or, beq_iff_eq, Bool.and_eq_true, bne_iff_ne, ne_eq] at h9
  exact h9
set_option maxRecDepth 100000 in
theorem nf_2_10 {o : Nat} (h : gk_isO o 2) : gk_num o 10 := by
  have h9 := gk_chk (P := fun o => !((gk_sk o).1 == 2) || ((gk_sk o).2[10]? == some 0)) (by decide +kernel) (gk_isO_lt h (by omega))
  have h2 : (gk_sk o).1 = 2 := h
  simp only [h2, beq_self_eq_true, Bool.not_true, Bool.false_or, beq_iff_eq, Bool.and_eq_true, bne_iff_ne, ne_eq] at h9
  exact h9
set_option maxRecDepth 100000 in
theorem nf_2_11 {o : Nat} (h : gk_isO o 2) : gk_num o 11 := by
  have h9 := gk_chk (P := fun o => !((gk_sk o).1 == 2) || ((gk_sk o).2[11]? == some 0)) (by decide +kernel) (gk_isO_lt h (by omega))
  have h2 : (gk_sk o).1 = 2 := h
  simp only [h2, beq_self_eq_true, Bool.not_true, Bool.false_or, beq_iff_eq, Bool.and_eq_true, bne_iff_ne, ne_eq] at h9
  exact h9
set_option maxRecDepth 100000 in
theorem nf_2_12 {o : Nat} (h : gk_isO o 2) : gk_num o 12 := by
  have h9 := gk_chk (P := fun o => !((gk_sk o).1 == 2) || ((gk_sk o).2[12]? == some 0)) (by decide +kernel) (gk_isO_lt h (by omega))
  have h2 : (gk_sk o).1 = 2 := h
  simp only [h2, beq_self_eq_true, Bool.not_true, Bool.false_or, beq_iff_eq, Bool.and_eq_true, bne_iff_ne, ne_eq] at h9
  exact h9
set_option maxRecDepth 100000 in
theorem rr_3_0 {o : Nat} (h : gk_isO o 3) : gk_ref o 0 := by
  have h9 := gk_chk (P := fun o => !((gk_sk o).1 == 3) || ((gk_sk o).2[0]? == some (gk_rf o 0 + 1))) (by decide +kernel) (gk_isO_lt h (by omega))
  have h2 : (gk_sk o).1 = 3 := h
  simp only [h2, beq_self_eq_true, Bool.not_true, Bool.false_or, beq_iff_eq, Bool.and_eq_true, bne_iff_ne, ne_eq] at h9
  exact ⟨_, h9⟩
set_option maxRecDepth 100000 in
theorem rt_3_0 {o : Nat} (h : gk_isO o 3) : gk_isO (gk_rf o 0) 100 := by
  have h9 := gk_chk (P := fun o => !((gk_sk o).1 == 3) || ((gk_sk (gk_rf o 0)).1 == 100)) (by decide +kernel) (gk_isO_lt h (by omega))
  have h2 : (gk_sk o).1 = 3 := h
  simp only [h2, beq_self_eq_true, Bool.not_true, Bool.false_or, beq_iff_eq, Bool.and_eq_true, bne_iff_ne, ne_eq] at h9
  exact h9
set_option maxRecDepth 100000 in
theorem al_3_0 {o : Nat} (h : gk_isO o 3) : gk_ln (gk_rf o 0) = 60 := by
  have h9 := gk_chk (P := fun o => !((gk_sk o).1 == 3) || (gk_ln (gk_rf o 0) == 60)) (by decide +kernel) (gk_isO_lt h (by omega))
  have h2 : (gk_sk o).1 = 3 := h
  simp only [h2, beq_self_eq_true, Bool.not_true, Bool.false_or, beq_iff_eq, Bool.and_eq_true, bne_iff_ne, ne_eq] at h9
  exact h9
set_option maxRecDepth 100000 in
theorem nf_3_1 {o : Nat} (h : gk_isO o 3) : gk_num o 1 := by
  have h9 := gk_chk (P := fun o => !((gk_sk o).1 == 3) || ((gk_sk o).2[1]? == some 0)) (by decide +kernel) (gk_isO_lt h (by omega))
  have h2 : (gk_sk o).1 = 3 := h
  simp only [h2, beq_self_eq_true, Bool.not_true, Bool.false_or, beq_iff_eq, Bool.and_eq_true, bne_iff_ne, ne_eq] at h9
  exact h9
set_option maxRecDepth 100000 in
theorem nf_3_2 {o : Nat} (h : gk_isO o 3) : gk_num o 2 := by
  have h9 := gk_chk (P := fun o => !((gk_sk o).1 == 3) || ((gk_sk o).2[2]? == some 0)) (by decide +kernel) (gk_isO_lt h (by omega))
  have h2 : (gk_sk o).1 = 3 := h
  simp only [h2, beq_self_eq_true, Bool.not_true, Bool.false_or, beq_iff_eq, Bool.and_eq_true, bne_iff_ne, ne_eq] at h9
  exact h9
set_option maxRecDepth 100000 in
theorem nf_3_3 {o : Nat} (h : gk_isO o 3) : gk_num o 3 := by
  have h9 := gk_chk (P := fun o => !((gk_sk o).1 == 3) || ((gk_sk o).2[3]? == some 0)) (by decide +kernel) (gk_isO_lt h (by omega))
  have h2 : (gk_sk o).1 = 3 := h
  simp only [h2, beq_self_eq_true, Bool.not_true, Bool.false_or, beq_iff_eq, Bool.and_eq_true, bne_iff_ne, ne_eq] at h9
  exact h9
set_option maxRecDepth 100000 in
theorem rr_4_0 {o : Nat} (h : gk_isO o 4) : gk_ref o 0 := by
  have h9 := gk_chk (P := fun o => !((gk_sk o).1 == 4) || ((gk_sk o).2[0]? == some (gk_rf o 0 + 1))) (by decide +kernel) (gk_isO_lt h (by omega))
  have h2 : (gk_sk o).1 = 4 := h
  simp only [h2, beq_self_eq_true, Bool.not_true, Bool.false_or, beq_iff_eq, Bool.and_eq_true, bne_iff_ne, ne_eq] at h9
  exact ⟨_, h9⟩
set_option maxRecDepth 100000 in
theorem rt_4_0 {o : Nat} (h : gk_isO o 4) : gk_isO (gk_rf o 0) 100 := by
  have h9 := gk_chk (P := fun o => !((gk_sk o).1 == 4) || ((gk_sk (gk_rf o 0)).1 == 100)) (by decide +kernel) (gk_isO_lt h (by omega))
  have h2 : (gk_sk o).1 = 4 := h
  simp only [h2, beq_self_eq_true, Bool.not_true, Bool.false_or, beq_iff_eq, Bool.and_eq_true, bne_iff_ne, ne_eq] at h9
  exact h9
set_option maxRecDepth 100000 in
theorem al_4_0 {o : Nat} (h : gk_isO o 4) : gk_ln (gk_rf o 0) = 8 := by
  have h9 := gk_chk (P := fun o => !((gk_sk o).1 == 4) || (gk_ln (gk_rf o 0) == 8)) (by decide +kernel) (gk_isO_lt h (by omega))
  have h2 : (gk_sk o).1 = 4 := h
  simp only [h2, beq_self_eq_true, Bool.not_true, Bool.false_or, beq_iff_eq, Bool.and_eq_true, bne_iff_ne, ne_eq] at h9
  exact h9
set_option maxRecDepth 100000 in
theorem rr_4_1 {o : Nat} (h : gk_isO o 4) : gk_ref o 1 := by
  have h9 := gk_chk (P := fun o => !((gk_sk o).1 == 4) || ((gk_sk o).2[1]? == some (gk_rf o 1 + 1))) (by decide +kernel) (gk_isO_lt h (by omega))
  have h2 : (gk_sk o).1 = 4 := h
  simp only [h2, beq_self_eq_true, Bool.not_true, Bool.false_or, beq_iff_eq, Bool.and_eq_true, bne_iff_ne, ne_eq] at h9
  exact ⟨_, h9⟩
set_option maxRecDepth 100000 in
theorem rt_4_1 {o : Nat} (h : gk_isO o 4) : gk_isO (gk_rf o 1) 100 := by
  have h9 := gk_chk (P := fun o => !((gk_sk o).1 == 4) || ((gk_sk (gk_rf o 1)).1 == 100)) (by decide +kernel) (gk_isO_lt h (by omega))
  have h2 : (gk_sk o).1 = 4 := h
  simp only [h2, beq_self_eq_true, Bool.not_true, Bool.false_or, beq_iff_eq, Bool.and_eq_true, bne_iff_ne, ne_eq] at h9
  exact h9
set_option maxRecDepth 100000 in
theorem al_4_1 {o : Nat} (h : gk_isO o 4) : gk_ln (gk_rf o 1) = 8 := by
  have h9 := gk_chk (P := fun o => !((gk_sk o).1 == 4) || (gk_ln (gk_rf o 1) == 8)) (by decide +kernel) (gk_isO_lt h (by omega))
  have h2 : (gk_sk o).1 = 4 := h
  simp only [h2, beq_self_eq_true, Bool.not_true, Bool.false_or, beq_iff_eq, Bool.and_eq_true, bne_iff_ne, ne_eq] at h9
  exact h9
set_option maxRecDepth 100000 in
theorem rr_4_2 {o : Nat} (h : gk_isO o 4) : gk_ref o 2 := by
  have h9 := gk_chk (P := fun o => !((gk_sk o).1 == 4) || ((gk_sk o).2[2]? == some (gk_rf o 2 + 1))) (by decide +kernel) (gk_isO_lt h (by omega))
  have h2 : (gk_sk o).1 = 4 := h
  simp only [h2, beq_self_eq_true, Bool.not_true, Bool.false_or, beq_iff_eq, Bool.and_eq_true, bne_iff_ne, ne_eq] at h9
  exact ⟨_, h9⟩
set_option maxRecDepth 100000 in
theorem rt_4_2 {o : Nat} (h : gk_isO o 4) : gk_isO (gk_rf o 2) 100 := by
  have h9 := gk_chk (P := fun o => !((gk_sk o).1 == 4) || ((gk_sk (gk_rf o 2)).1 == 100)) (by decide +kernel) (gk_isO_lt h (by omega))
  have h2 : (gk_sk o).1 = 4 := h
  simp only [h2, beq_self_eq_true, Bool.not_true, Bool.false_or, beq_iff_eq, Bool.and_eq_true, bne_iff_ne, ne_eq] at h9
  exact h9
set_option maxRecDepth 100000 in
theorem al_4_2 {o : Nat} (h : gk_isO o 4) : gk_ln (gk_rf o 2) = 8 := by
  have h9 := gk_chk (P := fun o => !((gk_sk o).1 == 4) || (gk_ln (gk_rf o 2) == 8)) (by decide +kernel) (gk_isO_lt h (by omega))
  have h2 : (gk_sk o).1 = 4 := h
  simp only [h2, beq_self_eq_true, Bool.not_true, Bool.false_or, beq_iff_eq, Bool.and_eq_true, bne_iff_ne, ne_eq] at h9
  exact h9
set_option maxRecDepth 100000 in
theorem nf_4_3 {o : Nat} (h : gk_isO o 4) : gk_num o 3 := by
  have h9 := gk_chk (P := fun o => !((gk_sk o).1 == 4) || ((gk_sk o).2[3]? == some 0)) (by decide +kernel) (gk_isO_lt h (by omega))
  have h2 : (gk_sk o).1 = 4 := h
  simp only [h2, beq_self_eq_true, Bool.not_true, Bool.false_or, beq_iff_eq, Bool.and_eq_true, bne_iff_ne, ne_eq] at h9
  exact h9
set_option maxRecDepth 100000 in
theorem rr_5_0 {o : Nat} (h : gk_isO o 5) : gk_ref o 0 := by
  have h9 := gk_chk (P := fun o => !((gk_sk o).1 == 5) || ((gk_sk o).2[0]? == some (gk_rf o 0 + 1))) (by decide +kernel) (gk_isO_lt h (by omega))
  have h2 : (gk_sk o).1 = 5 := h
  simp only [h2, beq_self_eq_true, Bool.not_true, Bool.false_or, beq_iff_eq, Bool.and_eq_true, bne_iff_ne, ne_eq] at h9
  exact ⟨_, h9⟩
set_option maxRecDepth 100000 in
theorem rt_5_0 {o : Nat} (h : gk_isO o 5) : gk_isO (gk_rf o 0) 100 := by
  have h9 := gk_chk (P := fun o => !((gk_sk o).1 == 5) || ((gk_sk (gk_rf o 0)).1 == 100)) (by decide +kernel) (gk_isO_lt h (by omega))
  have h2 : (gk_sk o).1 = 5 := h
  simp only [h2, beq_self_eq_true, Bool.not_true, Bool.false_or, beq_iff_eq, Bool.and_eq_true, bne_iff_ne, ne_eq] at h9
  exact h9
set_option maxRecDepth 100000 in
theorem al_5_0 {o : Nat} (h : gk_isO o 5) : gk_ln (gk_rf o 0) = 47 := by
  have h9 := gk_chk (P := fun o => !((gk_sk o).1 == 5) || (gk_ln (gk_rf o 0) == 47)) (by decide +kernel) (gk_isO_lt h (by omega))
  have h2 : (gk_sk o).1 = 5 := h
  simp only [h2, beq_self_eq_true, Bool.not_true, Bool.false_or, beq_iff_eq, Bool.and_eq_true, bne_iff_ne, ne_eq] at h9
  exact h9
set_option maxRecDepth 100000 in
theorem nf_5_1 {o : Nat} (h : gk_isO o 5) : gk_num o 1 := by
  have h9 := gk_chk (P := fun o => !((gk_sk o).1 == 5) || ((gk_sk o).2[1]? == some 0)) (by decide +kernel) (gk_isO_lt h (by omega))
  have h2 : (gk_sk o).1 = 5 := h
  simp only [h2, beq_self_eq_true, Bool.not_true, Bool.false_or, beq_iff_eq, Bool.and_eq_true, bne_iff_ne, ne_eq] at h9
  exact h9
set_option maxRecDepth 100000 in
theorem nf_5_2 {o : Nat} (h : gk_isO o 5) : gk_num o 2 := by
  have h9 := gk_chk (P := fun o => !((gk_sk o).1 == 5) || ((gk_sk o).2[2]? == some 0)) (by decide +kernel) (gk_isO_lt h (by omega))
  have h2 : (gk_sk o).1 = 5 := h
  simp only [h2, beq_self_eq_true, Bool.not_true, Bool.false_or, beq_iff_eq, Bool.and_eq_true, bne_iff_ne, ne_eq] at h9
  exact h9
set_option maxRecDepth 100000 in
theorem rr_6_0 {o : Nat} (h : gk_isO o 6) : gk_ref o 0 := by
  have h9 := gk_chk (P := fun o => !((gk_sk o).1 == 6) || ((gk_sk o).2[0]? == some (gk_rf o 0 + 1))) (by decide +kernel) (gk_isO_lt h (by omega))
  have h2 : (gk_sk o).1 = 6 := h
  simp only [h2, beq_self_eq_true, Bool.not_true, Bool.false_or, beq_iff_eq, Bool.and_eq_true, bne_iff_ne, ne_eq] at h9
  exact ⟨_, h9⟩
set_option maxRecDepth 100000 in
theorem nf_6_1 {o : Nat} (h : gk_isO o 6) : gk_num o 1 := by
  have h9 := gk_chk (P := fun o => !((gk_sk o).1 == 6) || ((gk_sk o).2[1]? == some 0)) (by decide +kernel) (gk_isO_lt h (by omega))
  have h2 : (gk_sk o).1 = 6 := h
  simp only [h2, beq_self_eq_true, Bool.not_true, Bool.false_or, beq_iff_eq, Bool.and_eq_true, bne_iff_ne, ne_eq] at h9
  exact h9
set_option maxRecDepth 100000 in
theorem nf_6_2 {o : Nat} (h : gk_isO o 6) : gk_num o 2 := by
  have h9 := gk_chk (P := fun o => !((gk_sk o).1 == 6) || ((gk_sk o).2[2]? == some 0)) (by decide +kernel) (gk_isO_lt h (by omega))
  have h2 : (gk_sk o).1 = 6 := h
  simp only [h2, beq_self_eq_true, Bool.not_true, Bool.false_or, beq_iff_eq, Bool.and_eq_true, bne_iff_ne, ne_eq] at h9
  exact h9
set_option maxRecDepth 100000 in
theorem rr_6_3 {o : Nat} (h : gk_isO o 6) : gk_ref o 3 := by
  have h9 := gk_chk (P := fun o => !((gk_sk o).1 == 6) || ((gk_sk o).2[3]? == some (gk_rf o 3 + 1))) (by decide +kernel) (gk_isO_lt h (by omega))
  have h2 : (gk_sk o).1 = 6 := h
  simp only [h2, beq_self_eq_true, Bool.not_true, Bool.false_or, beq_iff_eq, Bool.and_eq_true, bne_iff_ne, ne_eq] at h9
  exact ⟨_, h9⟩
set_option maxRecDepth 100000 in
theorem rt_6_3 {o : Nat} (h : gk_isO o 6) : gk_isO (gk_rf o 3) 100 := by
  have h9 := gk_chk (P := fun o => !((gk_sk o).1 == 6) || ((gk_sk (gk_rf o 3)).1 == 100)) (by decide +kernel) (gk_isO_lt h (by omega))
  have h2 : (gk_sk o).1 = 6 := h
  simp only [h2, beq_self_eq_true, Bool.not_true, Bool.false_or, beq_iff_eq, Bool.and_eq_true, bne_iff_ne, ne_eq] at h9
  exact h9
set_option maxRecDepth 100000 in
theorem al_6_3 {o : Nat} (h : gk_isO o 6) : gk_ln (gk_rf o 3) = 12 := by
  have h9 := gk_chk (P := fun o => !((gk_sk o).1 == 6) || (gk_ln (gk_rf o 3) == 12)) (by decide +kernel) (gk_isO_lt h (by omega))
  have h2 : (gk_sk o).1 = 6 := h
  simp only [h2, beq_self_eq_true, Bool.not_true, Bool.false_or, beq_iff_eq, Bool.and_eq_true, bne_iff_ne, ne_eq] at h9
  exact h9
set_option maxRecDepth 100000 in
theorem rr_6_4 {o : Nat} (h : gk_isO o 6) : gk_ref o 4 := by
  have h9 := gk_chk (P := fun o => !((gk_sk o).1 == 6) || ((gk_sk o).2[4]? == some (gk_rf o 4 + 1))) (by decide +kernel) (gk_isO_lt h (by omega))
  have h2 : (gk_sk o).1 = 6 := h
  simp only [h2, beq_self_eq_true, Bool.not_true, Bool.false_or, beq_iff_eq, Bool.and_eq_true, bne_iff_ne, ne_eq] at h9
  exact ⟨_, h9⟩
set_option maxRecDepth 100000 in
theorem rt_6_4 {o : Nat} (h : gk_isO o 6) : gk_isO (gk_rf o 4) 100 := by
  have h9 := gk_chk (P := fun o => !((gk_sk o).1 == 6) || ((gk_sk (gk_rf o 4)).1 == 100)) (by decide +kernel) (gk_isO_lt h (by omega))
  have h2 : (gk_sk o).1 = 6 := h
  simp only [h2, beq_self_eq_true, Bool.not_true, Bool.false_or, beq_iff_eq, Bool.and_eq_true, bne_iff_ne, ne_eq] at h9
  exact h9
set_option maxRecDepth 100000 in
theorem al_6_4 {o : Nat} (h : gk_isO o 6) : gk_ln (gk_rf o 4) = 12 := by
  have h9 := gk_chk (P := fun o => !((gk_sk o).1 == 6) || (gk_ln (gk_rf o 4) == 12)) (by decide +kernel) (gk_isO_lt h (by omega))
  have h2 : (gk_sk o).1 = 6 := h
  simp only [h2, beq_self_eq_true, Bool.not_true, Bool.false_or, beq_iff_eq, Bool.and_eq_true, bne_iff_ne, ne_eq] at h9
  exact h9
set_option maxRecDepth 100000 in
theorem rr_6_5 {o : Nat} (h : gk_isO o 6) : gk_ref o 5 := by
  have h9 := gk_chk (P := fun o => !((gk_sk o).1 == 6) || ((gk_sk o).2[5]? == some (gk_rf o 5 + 1))) (by decide +kernel) (gk_isO_lt h (by omega))
  have h2 : (gk_sk o).1 = 6 := h
  simp only [h2, beq_self_eq_true, Bool.not_true, Bool.false_or, beq_iff_eq, Bool.and_eq_true, bne_iff_ne, ne_eq] at h9
  exact ⟨_, h9⟩
set_option maxRecDepth 100000 in
theorem rt_6_5 {o : Nat} (h : gk_isO o 6) : gk_isO (gk_rf o 5) 100 := by
  have h9 := gk_chk (P := fun o => !((gk_sk o).1 == 6) || ((gk_sk (gk_rf o 5)).1 == 100)) (by decide +kernel) (gk_isO_lt h (by omega))
  have h2 : (gk_sk o).1 = 6 := h
  simp only [h2, beq_self_eq_true, Bool.not_true, Bool.false_or, beq_iff_eq, Bool.and_eq_true, bne_iff_ne, ne_eq] at h9
  exact h9
set_option maxRecDepth 100000 in
theorem al_6_5 {o : Nat} (h : gk_isO o 6) : gk_ln (gk_rf o 5) = 12 := by
  have h9 := gk_chk (P := fun o => !((gk_sk o).1 == 6) || (gk_ln (gk_rf o 5) == 12)) (by decide +kernel) (gk_isO_lt h (by omega))
  have h2 : (gk_sk o).1 = 6 := h
  simp only [h2, beq_self_eq_true, Bool.not_true, Bool.false_or, beq_iff_eq, Bool.and_eq_true, bne_iff_ne, ne_eq] at h9
  exact h9
set_option maxRecDepth 100000 in
theorem nf_6_6 {o : Nat} (h : gk_isO o 6) : gk_num o 6 := by
  have h9 := gk_chk (P := fun o => !((gk_sk o).1 == 6) || ((gk_sk o).2[6]? == some 0)) (by decide +kernel) (gk_isO_lt h (by omega))
  have h2 : (gk_sk o).1 = 6 := h
  simp only [h2, beq_self_eq_true, Bool.not_true, Bool.false_or, beq_iff_eq, Bool.and_eq_true, bne_iff_ne, ne_eq] at h9
  exact h9
set_option maxRecDepth 100000 in
theorem nf_6_7 {o : Nat} (h : gk_isO o 6) : gk_num o 7 := by
  have h9 := gk_chk (P := fun o => !((gk_sk o).1 == 6) || ((gk_sk o).2[7]? == some 0)) (by decide +kernel) (gk_isO_lt h (by omega))
  have h2 : (gk_sk o).1 = 6 := h
  simp only [h2, beq_self_eq_true, Bool.not_true, Bool.false_or, beq_iff_eq, Bool.and_eq_true, bne_iff_ne, ne_eq] at h9
  exact h9
set_option maxRecDepth 100000 in
theorem rr_7_0 {o : Nat} (h : gk_isO o 7) : gk_ref o 0 := by
  have h9 := gk_chk (P := fun o => !((gk_sk o).1 == 7) || ((gk_sk o).2[0]? == some (gk_rf o 0 + 1))) (by decide +kernel) (gk_isO_lt h (by omega))
  have h2 : (gk_sk o).1 = 7 := h
  simp only [h2, beq_self_eq_true, Bool.not_true, Bool.false_or, beq_iff_eq, Bool.and_eq_true, bne_iff_ne, ne_eq] at h9
  exact ⟨_, h9⟩
set_option maxRecDepth 100000 in
theorem rt_7_0 {o : Nat} (h : gk_isO o 7) : gk_isO (gk_rf o 0) 5 := by
  have h9 := gk_chk (P := fun o => !((gk_sk o).1 == 7) || ((gk_sk (gk_rf o 0)).1 == 5)) (by decide +kernel) (gk_isO_lt h (by omega))
  have h2 : (gk_sk o).1 = 7 := h
  simp only [h2, beq_self_eq_true, Bool.not_true, Bool.false_or, beq_iff_eq, Bool.and_eq_true, bne_iff_ne, ne_eq] at h9
  exact h9
set_option maxRecDepth 100000 in
theorem rr_7_1 {o : Nat} (h : gk_isO o 7) : gk_ref o 1 := by
  have h9 := gk_chk (P := fun o => !((gk_sk o).1 == 7) || ((gk_sk o).2[1]? == some (gk_rf o 1 + 1))) (by decide +kernel) (gk_isO_lt h (by omega))
  have h2 : (gk_sk o).1 = 7 := h
  simp only [h2, beq_self_eq_true, Bool.not_true, Bool.false_or, beq_iff_eq, Bool.and_eq_true, bne_iff_ne, ne_eq] at h9
  exact ⟨_, h9⟩
set_option maxRecDepth 100000 in
theorem rt_7_1 {o : Nat} (h : gk_isO o 7) : gk_isO (gk_rf o 1) 5 := by
  have h9 := gk_chk (P := fun o => !((gk_sk o).1 == 7) || ((gk_sk (gk_rf o 1)).1 == 5)) (by decide +kernel) (gk_isO_lt h (by omega))
  have h2 : (gk_sk o).1 = 7 := h
  simp only [h2, beq_self_eq_true, Bool.not_true, Bool.false_or, beq_iff_eq, Bool.and_eq_true, bne_iff_ne, ne_eq] at h9
  exact h9
set_option maxRecDepth 100000 in
theorem rr_7_2 {o : Nat} (h : gk_isO o 7) : gk_ref o 2 := by
  have h9 := gk_chk (P := fun o => !((gk_sk o).1 == 7) || ((gk_sk o).2[2]? == some (gk_rf o 2 + 1))) (by decide +kernel) (gk_isO_lt h (by omega))
  have h2 : (gk_sk o).1 = 7 := h
  simp only [h2, beq_self_eq_true, Bool.not_true, Bool.false_or, beq_iff_eq, Bool.and_eq_true, bne_iff_ne, ne_eq] at h9
  exact ⟨_, h9⟩
set_option maxRecDepth 100000 in
theorem rt_7_2 {o : Nat} (h : gk_isO o 7) : gk_isO (gk_rf o 2) 5 := by
  have h9 := gk_chk (P := fun o => !((gk_sk o).1 == 7) || ((gk_sk (gk_rf o 2)).1 == 5)) (by decide +kernel) (gk_isO_lt h (by omega))
  have h2 : (gk_sk o).1 = 7 := h
  simp only [h2, beq_self_eq_true, Bool.not_true, Bool.false_or, beq_iff_eq, Bool.and_eq_true, bne_iff_ne, ne_eq] at h9
  exact h9
set_option maxRecDepth 100000 in
theorem rr_7_3 {o : Nat} (h : gk_isO o 7) : gk_ref o 3 := by
  have h9 := gk_chk (P := fun o => !((gk_sk o).1 == 7) || ((gk_sk o).2[3]? == some (gk_rf o 3 + 1))) (by decide +kernel) (gk_isO_lt h (by omega))
  have h2 : (gk_sk o).1 = 7 := h
  simp only [h2, beq_self_eq_true, Bool.not_true, Bool.false_or, beq_iff_eq, Bool.and_eq_true, bne_iff_ne, ne_eq] at h9
  exact ⟨_, h9⟩
set_option maxRecDepth 100000 in
theorem rt_7_3 {o : Nat} (h : gk_isO o 7) : gk_isO (gk_rf o 3) 6 := by
  have h9 := gk_chk (P := fun o => !((gk_sk o).1 == 7) || ((gk_sk (gk_rf o 3)).1 == 6)) (by decide +kernel) (gk_isO_lt h (by omega))
  have h2 : (gk_sk o).1 = 7 := h
  simp only [h2, beq_self_eq_true, Bool.not_true, Bool.false_or, beq_iff_eq, Bool.and_eq_true, bne_iff_ne, ne_eq] at h9
  exact h9
set_option maxRecDepth 100000 in
theorem rr_7_4 {o : Nat} (h : gk_isO o 7) : gk_ref o 4 := by
  have h9 := gk_chk (P := fun o => !((gk_sk o).1 == 7) || ((gk_sk o).2[4]? == some (gk_rf o 4 + 1))) (by decide +kernel) (gk_isO_lt h (by omega))
  have h2 : (gk_sk o).1 = 7 := h
  simp only [h2, beq_self_eq_true, Bool.not_true, Bool.false_or, beq_iff_eq, Bool.and_eq_true, bne_iff_ne, ne_eq] at h9
  exact ⟨_, h9⟩
set_option maxRecDepth 100000 in
theorem rt_7_4 {o : Nat} (h : gk_isO o 7) : gk_isO (gk_rf o 4) 6 := by
  have h9 := gk_chk (P := fun o => !((gk_sk o).1 == 7) || ((gk_sk (gk_rf o 4)).1 == 6)) (by decide +kernel) (gk_isO_lt h (by omega))
  have h2 : (gk_sk o).1 = 7 := h
  simp only [h2, beq_self_eq_true, Bool.not_true, Bool.false_or, beq_iff_eq, Bool.and_eq_true, bne_iff_ne, ne_eq] at h9
  exact h9
set_option maxRecDepth 100000 in
theorem rr_7_5 {o : Nat} (h : gk_isO o 7) : gk_ref o 5 := by
  have h9 := gk_chk (P := fun o => !((gk_sk o).1 == 7) || ((gk_sk o).2[5]? == some (gk_rf o 5 + 1))) (by decide +kernel) (gk_isO_lt h (by omega))
  have h2 : (gk_sk o).1 = 7 := h
  simp only [h2, beq_self_eq_true, Bool.not_true, Bool.false_or, beq_iff_eq, Bool.and_eq_true, bne_iff_ne, ne_eq] at h9
  exact ⟨_, h9⟩
set_option maxRecDepth 100000 in
theorem rt_7_5 {o : Nat} (h : gk_isO o 7) : gk_isO (gk_rf o 5) 0 := by
  have h9 := gk_chk (P := fun o => !((gk_sk o).1 == 7) || ((gk_sk (gk_rf o 5)).1 == 0)) (by decide +kernel) (gk_isO_lt h (by omega))
  have h2 : (gk_sk o).1 = 7 := h
  simp only [h2, beq_self_eq_true, Bool.not_true, Bool.false_or, beq_iff_eq, Bool.and_eq_true, bne_iff_ne, ne_eq] at h9
  exact h9
set_option maxRecDepth 100000 in
theorem rr_7_6 {o : Nat} (h : gk_isO o 7) : gk_ref o 6 := by
  have h9 := gk_chk (P := fun o => !((gk_sk o).1 == 7) || ((gk_sk o).2[6]? == some (gk_rf o 6 + 1))) (by decide +kernel) (gk_isO_lt h (by omega))
  have h2 : (gk_sk o).1 = 7 := h
  simp only [h2, beq_self_eq_true, Bool.not_true, Bool.false_or, beq_iff_eq, Bool.and_eq_true, bne_iff_ne, ne_eq] at h9
  exact ⟨_, h9⟩
set_option maxRecDepth 100000 in
theorem rt_7_6 {o : Nat} (h : gk_isO o 7) : gk_isO (gk_rf o 6) 4 := by
  have h9 := gk_chk (P := fun o => !((gk_sk o).1 == 7) || ((gk_sk (gk_rf o 6)).1 == 4)) (by decide +kernel) (gk_isO_lt h (by omega))
  have h2 : (gk_sk o).1 = 7 := h
  simp only [h2, beq_self_eq_true, Bool.not_true, Bool.false_or, beq_iff_eq, Bool.and_eq_true, bne_iff_ne, ne_eq] at h9
  exact h9
set_option maxRecDepth 100000 in
theorem rr_7_7 {o : Nat} (h : gk_isO o 7) : gk_ref o 7 := by
  have h9 := gk_chk (P := fun o => !((gk_sk o).1 == 7) || ((gk_sk o).2[7]? == some (gk_rf o 7 + 1))) (by decide +kernel) (gk_isO_lt h (by omega))
  have h2 : (gk_sk o).1 = 7 := h
  simp only [h2, beq_self_eq_true, Bool.not_true, Bool.false_or, beq_iff_eq, Bool.and_eq_true, bne_iff_ne, ne_eq] at h9
  exact ⟨_, h9⟩
set_option maxRecDepth 100000 in
theorem rt_7_7 {o : Nat} (h : gk_isO o 7) : gk_isO (gk_rf o 7) 3 := by
  have h9 := gk_chk (P := fun o => !((gk_sk o).1 == 7) || ((gk_sk (gk_rf o 7)).1 == 3)) (by decide +kernel) (gk_isO_lt h (by omega))
  have h2 : (gk_sk o).1 = 7 := h
  simp only [h2, beq_self_eq_true, Bool.not_true, Bool.false_or, beq_iff_eq, Bool.and_eq_true, bne_iff_ne, ne_eq] at h9
  exact h9
set_option maxRecDepth 100000 in
theorem rr_7_8 {o : Nat} (h : gk_isO o 7) : gk_ref o 8 := by
  have h9 := gk_chk (P := fun o => !((gk_sk o).1 == 7) || ((gk_sk o).2[8]? == some (gk_rf o 8 + 1))) (by decide +kernel) (gk_isO_lt h (by omega))
  have h2 : (gk_sk o).1 = 7 := h
  simp only [h2, beq_self_eq_true, Bool.not_true, Bool.false_or, beq_iff_eq, Bool.and_eq_true, bne_iff_ne, ne_eq] at h9
  exact ⟨_, h9⟩
set_option maxRecDepth 100000 in
theorem rt_7_8 {o : Nat} (h : gk_isO o 7) : gk_isO (gk_rf o 8) 3 := by
  have h9 := gk_chk (P := fun o => !((gk_sk o).1 == 7) || ((gk_sk (gk_rf o 8)).1 == 3)) (by decide +kernel) (gk_isO_lt h (by omega))
  have h2 : (gk_sk o).1 = 7 := h
  simp only [h2, beq_self_eq_true, Bool.not_true, Bool.false_or, beq_iff_eq, Bool.and_eq_true, bne_iff_ne, ne_eq] at h9
  exact h9
set_option maxRecDepth 100000 in
theorem rr_7_9 {o : Nat} (h : gk_isO o 7) : gk_ref o 9 := by
  have h9 := gk_chk (P := fun o => !((gk_sk o).1 == 7) || ((gk_sk o).2[9]? == some (gk_rf o 9 + 1))) (by decide +kernel) (gk_isO_lt h (by omega))
  have h2 : (gk_sk o).1 = 7 := h
  simp only [h2, beq_self_eq_true, Bool.not_true, Bool.false_or, beq_iff_eq, Bool.and_eq_true, bne_iff_ne, ne_eq] at h9
  exact ⟨_, h9⟩
set_option maxRecDepth 100000 in
theorem rt_7_9 {o : Nat} (h : gk_isO o 7) : gk_isO (gk_rf o 9) 3 := by
  have h9 := gk_chk (P := fun o => !((gk_sk o).1 == 7) || ((gk_sk (gk_rf o 9)).1 == 3)) (by decide +kernel) (gk_isO_lt h (by omega))
  have h2 : (gk_sk o).1 = 7 := h
  simp only [h2, beq_self_eq_true, Bool.not_true, Bool.false_or, beq_iff_eq, Bool.and_eq_true, bne_iff_ne, ne_eq] at h9
  exact h9
set_option maxRecDepth 100000 in
theorem rr_7_10 {o : Nat} (h : gk_isO o 7) : gk_ref o 10 := by
  have h9 := gk_chk (P := fun o => !((gk_sk o).1 == 7) || ((gk_sk o).2[10]? == some (gk_rf o 10 + 1))) (by decide +kernel) (gk_isO_lt h (by omega))
  have h2 : (gk_sk o).1 = 7 := h
  simp only [h2, beq_self_eq_true, Bool.not_true, Bool.false_or, beq_iff_eq, Bool.and_eq_true, bne_iff_ne, ne_eq] at h9
  exact ⟨_, h9⟩
set_option maxRecDepth 100000 in
theorem rt_7_10 {o : Nat} (h : gk_isO o 7) : gk_isO (gk_rf o 10) 3 := by
  have h9 := gk_chk (P := fun o => !((gk_sk o).1 == 7) || ((gk_sk (gk_rf o 10)).1 == 3)) (by decide +kernel) (gk_isO_lt h (by omega))
  have h2 : (gk_sk o).1 = 7 := h
  simp only [h2, beq_self_eq_true, Bool.not_true, Bool.false_or, beq_iff_eq, Bool.and_eq_true, bne_iff_ne, ne_eq] at h9
  exact h9
set_option maxRecDepth 100000 in
theorem rr_7_11 {o : Nat} (h : gk_isO o 7) : gk_ref o 11 := by
  have h9 := gk_chk (P := fun o => !((gk_sk o).1 == 7) || ((gk_sk o).2[11]? == some (gk_rf o 11 + 1))) (by decide +kernel) (gk_isO_lt h (by omega))
  have h2 : (gk_sk o).1 = 7 := h
  simp only [h2, beq_self_eq_true, Bool.not_true, Bool.false_or, beq_iff_eq, Bool.and_eq_true, bne_iff_ne, ne_eq] at h9
  exact ⟨_, h9⟩
set_option maxRecDepth 100000 in
theorem rt_7_11 {o : Nat} (h : gk_isO o 7) : gk_isO (gk_rf o 11) 1 := by
  have h9 := gk_chk (P := fun o => !((gk_sk o).1 == 7) || ((gk_sk (gk_rf o 11)).1 == 1)) (by decide +kernel) (gk_isO_lt h (by omega))
  have h2 : (gk_sk o).1 = 7 := h
  simp only [h2, beq_self_eq_true, Bool.not_true, Bool.false_or, beq_iff_eq, Bool.and_eq_true, bne_iff_ne, ne_eq] at h9
  exact h9
set_option maxRecDepth 100000 in
theorem rr_7_12 {o : Nat} (h : gk_isO o 7) : gk_ref o 12 := by
  have h9 := gk_chk (P := fun o => !((gk_sk o).1 == 7) || ((gk_sk o).2[12]? == some (gk_rf o 12 + 1))) (by decide +kernel) (gk_isO_lt h (by omega))
  have h2 : (gk_sk o).1 = 7 := h
  simp only [h2, beq_self_eq_true, Bool.not_true, Bool.false_or, beq_iff_eq, Bool.and_eq_true, bne_iff_ne, ne_eq] at h9
  exact ⟨_, h9⟩
set_option maxRecDepth 100000 in
theorem rt_7_12 {o : Nat} (h : gk_isO o 7) : gk_isO (gk_rf o 12) 2 := by
  have h9 := gk_chk (P := fun o => !((gk_sk o).1 == 7) || ((gk_sk (gk_rf o 12)).1 == 2)) (by decide +kernel) (gk_isO_lt h (by omega))
  have h2 : (gk_sk o).1 = 7 := h
  simp only [h2, beq_self_eq_true, Bool.not_true, Bool.false_or, beq_iff_eq, Bool.and_eq_true, bne_iff_ne, ne_eq] at h9
  exact h9
set_option maxRecDepth 100000 in
theorem rr_7_13 {o : Nat} (h : gk_isO o 7) : gk_ref o 13 := by
  have h9 := gk_chk (P := fun o => !((gk_sk o).1 == 7) || ((gk_sk o).2[13]? == some (gk_rf o 13 + 1))) (by decide +kernel) (gk_isO_lt h (by omega))
  have h2 : (gk_sk o).1 = 7 := h
  simp only [h2, beq_self_eq_true, Bool.not_true, Bool.false_or, beq_iff_eq, Bool.and_eq_true, bne_iff_ne, ne_eq] at h9
  exact ⟨_, h9⟩
set_option maxRecDepth 100000 in
theorem rt_7_13 {o : Nat} (h : gk_isO o 7) : gk_isO (gk_rf o 13) 2 := by
  have h9 := gk_chk (P := fun o => !((gk_sk o).1 == 7) || ((gk_sk (gk_rf o 13)).1 == 2)) (by decide +kernel) (gk_isO_lt h (by omega))
  have h2 : (gk_sk o).1 = 7 := h
  simp only [h2, beq_self_eq_true, Bool.not_true, Bool.false_or, beq_iff_eq, Bool.and_eq_true, bne_iff_ne, ne_eq] at h9
  exact h9
set_option maxRecDepth 100000 in
theorem rr_7_14 {o : Nat} (h : gk_isO o 7) : gk_ref o 14 := by
  have h9 := gk_chk (P := fun o => !((gk_sk o).1 == 7) || ((gk_sk o).2[14]? == some (gk_rf o 14 + 1))) (by decide +kernel) (gk_isO_lt h (by omega))
  have h2 : (gk_sk o).1 = 7 := h
  simp only [h2, beq_self_eq_true, Bool.not_true, Bool.false_or, beq_iff_eq, Bool.and_eq_true, bne_iff_ne, ne_eq] at h9
  exact ⟨_, h9⟩
set_option maxRecDepth 100000 in
theorem rt_7_14 {o : Nat} (h : gk_isO o 7) : gk_isO (gk_rf o 14) 102 := by
  have h9 := gk_chk (P := fun o => !((gk_sk o).1 == 7) || ((gk_sk (gk_rf o 14)).1 == 102)) (by decide +kernel) (gk_isO_lt h (by omega))
  have h2 : (gk_sk o).1 = 7 := h
  simp only [h2, beq_self_eq_true, Bool.not_true, Bool.false_or, beq_iff_eq, Bool.and_eq_true, bne_iff_ne, ne_eq] at h9
  exact h9
set_option maxRecDepth 100000 in
theorem al_7_14 {o : Nat} (h : gk_isO o 7) : gk_rl (gk_rf o 14) = 10 := by
  have h9 := gk_chk (P := fun o => !((gk_sk o).1 == 7) || (gk_rl (gk_rf o 14) == 10)) (by decide +kernel) (gk_isO_lt h (by omega))
  have h2 : (gk_sk o).1 = 7 := h
  simp only [h2, beq_self_eq_true, Bool.not_true, Bool.false_or, beq_iff_eq, Bool.and_eq_true, bne_iff_ne, ne_eq] at h9
  exact h9
set_option maxRecDepth 100000 in
theorem nf_7_15 {o : Nat} (h : gk_isO o 7) : gk_num o 15 := by
  have h9 := gk_chk (P := fun o => !((gk_sk o).1 == 7) || ((gk_sk o).2[15]? == some 0)) (by decide +kernel) (gk_isO_lt h (by omega))
  have h2 : (gk_sk o).1 = 7 := h
  simp only [h2, beq_self_eq_true, Bool.not_true, Bool.false_or, beq_iff_eq, Bool.and_eq_true, bne_iff_ne, ne_eq] at h9
  exact h9
set_option maxRecDepth 100000 in
theorem nf_7_16 {o : Nat} (h : gk_isO o 7) : gk_num o 16 := by
  have h9 := gk_chk (P := fun o => !((gk_sk o).1 == 7) || ((gk_sk o).2[16]? == some 0)) (by decide +kernel) (gk_isO_lt h (by omega))
  have h2 : (gk_sk o).1 = 7 := h
  simp only [h2, beq_self_eq_true, Bool.not_true, Bool.false_or, beq_iff_eq, Bool.and_eq_true, bne_iff_ne, ne_eq] at h9
  exact h9
set_option maxRecDepth 100000 in
theorem nf_7_17 {o : Nat} (h : gk_isO o 7) : gk_num o 17 := by
  have h9 := gk_chk (P := fun o => !((gk_sk o).1 == 7) || ((gk_sk o).2[17]? == some 0)) (by decide +kernel) (gk_isO_lt h (by omega))
  have h2 : (gk_sk o).1 = 7 := h
  simp only [h2, beq_self_eq_true, Bool.not_true, Bool.false_or, beq_iff_eq, Bool.and_eq_true, bne_iff_ne, ne_eq] at h9
  exact h9
set_option maxRecDepth 100000 in
theorem rr_8_0 {o : Nat} (h : gk_isO o 8) : gk_ref o 0 := by
  have h9 := gk_chk (P := fun o => !((gk_sk o).1 == 8) || ((gk_sk o).2[0]? == some (gk_rf o 0 + 1))) (by decide +kernel) (gk_isO_lt h (by omega))
  have h2 : (gk_sk o).1 = 8 := h
  simp only [h2, beq_self_eq_true, Bool.not_true, Bool.false_or, beq_iff_eq, Bool.and_eq_true, bne_iff_ne, ne_eq] at h9
  exact ⟨_, h9⟩
set_option maxRecDepth 100000 in
theorem rt_8_0 {o : Nat} (h : gk_isO o 8) : gk_isO (gk_rf o 0) 100 := by
  have h9 := gk_chk (P := fun o => !((gk_sk o).1 == 8) || ((gk_sk (gk_rf o 0)).1 == 100)) (by decide +kernel) (gk_isO_lt h (by omega))
  have h2 : (gk_sk o).1 = 8 := h
  simp only [h2, beq_self_eq_true, Bool.not_true, Bool.false_or, beq_iff_eq, Bool.and_eq_true, bne_iff_ne, ne_eq] at h9
  exact h9
set_option maxRecDepth 100000 in
theorem al_8_0 {o : Nat} (h : gk_isO o 8) : gk_ln (gk_rf o 0) = 3 := by
  have h9 := gk_chk (P := fun o => !((gk_sk o).1 == 8) || (gk_ln (gk_rf o 0) == 3)) (by decide +kernel) (gk_isO_lt h (by omega))
  have h2 : (gk_sk o).1 = 8 := h
  simp only [h2, beq_self_eq_true, Bool.not_true, Bool.false_or, beq_iff_eq, Bool.and_eq_true, bne_iff_ne, ne_eq] at h9
  exact h9
set_option maxRecDepth 100000 in
theorem rr_8_1 {o : Nat} (h : gk_isO o 8) : gk_ref o 1 := by
  have h9 := gk_chk (P := fun o => !((gk_sk o).1 == 8) || ((gk_sk o).2[1]? == some (gk_rf o 1 + 1))) (by decide +kernel) (gk_isO_lt h (by omega))
  have h2 : (gk_sk o).1 = 8 := h
  simp only [h2, beq_self_eq_true, Bool.not_true, Bool.false_or, beq_iff_eq, Bool.and_eq_true, bne_iff_ne, ne_eq] at h9
  exact ⟨_, h9⟩
set_option maxRecDepth 100000 in
theorem rt_8_1 {o : Nat} (h : gk_isO o 8) : gk_isO (gk_rf o 1) 100 := by
  have h9 := gk_chk (P := fun o => !((gk_sk o).1 == 8) || ((gk_sk (gk_rf o 1)).1 == 100)) (by decide +kernel) (gk_isO_lt h (by omega))
  have h2 : (gk_sk o).1 = 8 := h
  simp only [h2, beq_self_eq_true, Bool.not_true, Bool.false_or, beq_iff_eq, Bool.and_eq_true, bne_iff_ne, ne_eq] at h9
  exact h9
set_option maxRecDepth 100000 in
theorem al_8_1 {o : Nat} (h : gk_isO o 8) : gk_ln (gk_rf o 1) = 141 := by
  have h9 := gk_chk (P := fun o => !((gk_sk o).1 == 8) || (gk_ln (gk_rf o 1) == 141)) (by decide +kernel) (gk_isO_lt h (by omega))
  have h2 : (gk_sk o).1 = 8 := h
  simp only [h2, beq_self_eq_true, Bool.not_true, Bool.false_or, beq_iff_eq, Bool.and_eq_true, bne_iff_ne, ne_eq] at h9
  exact h9
set_option maxRecDepth 100000 in
theorem nf_8_2 {o : Nat} (h : gk_isO o 8) : gk_num o 2 := by
  have h9 := gk_chk (P := fun o => !((gk_sk o).1 == 8) || ((gk_sk o).2[2]? == some 0)) (by decide +kernel) (gk_isO_lt h (by omega))
  have h2 : (gk_sk o).1 = 8 := h
  simp only [h2, beq_self_eq_true, Bool.not_true, Bool.false_or, beq_iff_eq, Bool.and_eq_true, bne_iff_ne, ne_eq] at h9
  exact h9
set_option maxRecDepth 100000 in
theorem rr_8_3 {o : Nat} (h : gk_isO o 8) : gk_ref o 3 := by
  have h9 := gk_chk (P := fun o => !((gk_sk o).1 == 8) || ((gk_sk o).2[3]? == some (gk_rf o 3 + 1))) (by decide +kernel) (gk_isO_lt h (by omega))
  have h2 : (gk_sk o).1 = 8 := h
  simp only [h2, beq_self_eq_true, Bool.not_true, Bool.false_or, beq_iff_eq, Bool.and_eq_true, bne_iff_ne, ne_eq] at h9
  exact ⟨_, h9⟩
set_option maxRecDepth 100000 in
theorem rt_8_3 {o : Nat} (h : gk_isO o 8) : gk_isO (gk_rf o 3) 100 := by
  have h9 := gk_chk (P := fun o => !((gk_sk o).1 == 8) || ((gk_sk (gk_rf o 3)).1 == 100)) (by decide +kernel) (gk_isO_lt h (by omega))
  have h2 : (gk_sk o).1 = 8 := h
  simp only [h2, beq_self_eq_true, Bool.not_true, Bool.false_or, beq_iff_eq, Bool.and_eq_true, bne_iff_ne, ne_eq] at h9
  exact h9
set_option maxRecDepth 100000 in
theorem al_8_3 {o : Nat} (h : gk_isO o 8) : gk_ln (gk_rf o 3) = 7 := by
  have h9 := gk_chk (P := fun o => !((gk_sk o).1 == 8) || (gk_ln (gk_rf o 3) == 7)) (by decide +kernel) (gk_isO_lt h (by omega))
  have h2 : (gk_sk o).1 = 8 := h
  simp only [h2, beq_self_eq_true, Bool.not_true, Bool.false_or, beq_iff_eq, Bool.and_eq_true, bne_iff_ne, ne_eq] at h9
  exact h9
set_option maxRecDepth 100000 in
theorem rr_8_4 {o : Nat} (h : gk_isO o 8) : gk_ref o 4 := by
  have h9 := gk_chk (P := fun o => !((gk_sk o).1 == 8) || ((gk_sk o).2[4]? == some (gk_rf o 4 + 1))) (by decide +kernel) (gk_isO_lt h (by omega))
  have h2 : (gk_sk o).1 = 8 := h
  simp only [h2, beq_self_eq_true, Bool.not_true, Bool.false_or, beq_iff_eq, Bool.and_eq_true, bne_iff_ne, ne_eq] at h9
  exact ⟨_, h9⟩
set_option maxRecDepth 100000 in
theorem rt_8_4 {o : Nat} (h : gk_isO o 8) : gk_isO (gk_rf o 4) 100 := by
  have h9 := gk_chk (P := fun o => !((gk_sk o).1 == 8) || ((gk_sk (gk_rf o 4)).1 == 100)) (by decide +kernel) (gk_isO_lt h (by omega))
  have h2 : (gk_sk o).1 = 8 := h
  simp only [h2, beq_self_eq_true, Bool.not_true, Bool.false_or, beq_iff_eq, Bool.and_eq_true, bne_iff_ne, ne_eq] at h9
  exact h9
set_option maxRecDepth 100000 in
theorem al_8_4 {o : Nat} (h : gk_isO o 8) : gk_ln (gk_rf o 4) = 7 := by
  have h9 := gk_chk (P := fun o => !((gk_sk o).1 == 8) || (gk_ln (gk_rf o 4) == 7)) (by decide +kernel) (gk_isO_lt h (by omega))
  have h2 : (gk_sk o).1 = 8 := h
  simp only [h2, beq_self_eq_true, Bool.not_true, Bool.false_or, beq_iff_eq, Bool.and_eq_true, bne_iff_ne, ne_eq] at h9
  exact h9
set_option maxRecDepth 100000 in
theorem rr_8_5 {o : Nat} (h : gk_isO o 8) : gk_ref o 5 := by
  have h9 := gk_chk (P := fun o => !((gk_sk o).1 == 8) || ((gk_sk o).2[5]? == some (gk_rf o 5 + 1))) (by decide +kernel) (gk_isO_lt h (by omega))
  have h2 : (gk_sk o).1 = 8 := h
  simp only [h2, beq_self_eq_true, Bool.not_true, Bool.false_or, beq_iff_eq, Bool.and_eq_true, bne_iff_ne, ne_eq] at h9
  exact ⟨_, h9⟩
set_option maxRecDepth 100000 in
theorem rt_8_5 {o : Nat} (h : gk_isO o 8) : gk_isO (gk_rf o 5) 100 := by
  have h9 := gk_chk (P := fun o => !((gk_sk o).1 == 8) || ((gk_sk (gk_rf o 5)).1 == 100)) (by decide +kernel) (gk_isO_lt h (by omega))
  have h2 : (gk_sk o).1 = 8 := h
  simp only [h2, beq_self_eq_true, Bool.not_true, Bool.false_or, beq_iff_eq, Bool.and_eq_true, bne_iff_ne, ne_eq] at h9
  exact h9
set_option maxRecDepth 100000 in
theorem al_8_5 {o : Nat} (h : gk_isO o 8) : gk_ln (gk_rf o 5) = 7 := by
  have h9 := gk_chk (P := fun o => !((gk_sk o).1 == 8) || (gk_ln (gk_rf o 5) == 7)) (by decide +kernel) (gk_isO_lt h (by omega))
  have h2 : (gk_sk o).1 = 8 := h
  simp only [h2, beq_self_eq_true, Bool.not_true, Bool.false_or, beq_iff_eq, Bool.and_eq_true, bne_iff_ne, ne_eq] at h9
  exact h9
set_option maxRecDepth 100000 in
theorem nf_8_6 {o : Nat} (h : gk_isO o 8) : gk_num o 6 := by
  have h9 := gk_chk (P := fun o => !((gk_sk o).1 == 8) || ((gk_sk o).2[6]? == some 0)) (by decide +kernel) (gk_isO_lt h (by omega))
  have h2 : (gk_sk o).1 = 8 := h
  simp only [h2, beq_self_eq_true, Bool.not_true, Bool.false_or, beq_iff_eq, Bool.and_eq_true, bne_iff_ne, ne_eq] at h9
  exact h9
set_option maxRecDepth 100000 in
theorem rr_8_7 {o : Nat} (h : gk_isO o 8) : gk_ref o 7 := by
  have h9 := gk_chk (P := fun o => !((gk_sk o).1 == 8) || ((gk_sk o).2[7]? == some (gk_rf o 7 + 1))) (by decide +kernel) (gk_isO_lt h (by omega))
  have h2 : (gk_sk o).1 = 8 := h
  simp only [h2, beq_self_eq_true, Bool.not_true, Bool.false_or, beq_iff_eq, Bool.and_eq_true, bne_iff_ne, ne_eq] at h9
  exact ⟨_, h9⟩
set_option maxRecDepth 100000 in
theorem rt_8_7 {o : Nat} (h : gk_isO o 8) : gk_isO (gk_rf o 7) 100 := by
  have h9 := gk_chk (P := fun o => !((gk_sk o).1 == 8) || ((gk_sk (gk_rf o 7)).1 == 100)) (by decide +kernel) (gk_isO_lt h (by omega))
  have h2 : (gk_sk o).1 = 8 := h
  simp only [h2, beq_self_eq_true, Bool.not_true, Bool.false_or, beq_iff_eq, Bool.and_eq_true, bne_iff_ne, ne_eq] at h9
  exact h9
set_option maxRecDepth 100000 in
theorem al_8_7 {o : Nat} (h : gk_isO o 8) : gk_ln (gk_rf o 7) = 13 := by
  have h9 := gk_chk (P := fun o => !((gk_sk o).1 == 8) || (gk_ln (gk_rf o 7) == 13)) (by decide +kernel) (gk_isO_lt h (by omega))
  have h2 : (gk_sk o).1 = 8 := h
  simp only [h2, beq_self_eq_true, Bool.not_true, Bool.false_or, beq_iff_eq, Bool.and_eq_true, bne_iff_ne, ne_eq] at h9
  exact h9
set_option maxRecDepth 100000 in
theorem rr_8_8 {o : Nat} (h : gk_isO o 8) : gk_ref o 8 := by
  have h9 := gk_chk (P := fun o => !((gk_sk o).1 == 8) || ((gk_sk o).2[8]? == some (gk_rf o 8 + 1))) (by decide +kernel) (gk_isO_lt h (by omega))
  have h2 : (gk_sk o).1 = 8 := h
  simp only [h2, beq_self_eq_true, Bool.not_true, Bool.false_or, beq_iff_eq, Bool.and_eq_true, bne_iff_ne, ne_eq] at h9
  exact ⟨_, h9⟩
set_option maxRecDepth 100000 in
theorem rt_8_8 {o : Nat} (h : gk_isO o 8) : gk_isO (gk_rf o 8) 100 := by
  have h9 := gk_chk (P := fun o => !((gk_sk o).1 == 8) || ((gk_sk (gk_rf o 8)).1 == 100)) (by decide +kernel) (gk_isO_lt h (by omega))
  have h2 : (gk_sk o).1 = 8 := h
  simp only [h2, beq_self_eq_true, Bool.not_true, Bool.false_or, beq_iff_eq, Bool.and_eq_true, bne_iff_ne, ne_eq] at h9
  exact h9
set_option maxRecDepth 100000 in
theorem al_8_8 {o : Nat} (h : gk_isO o 8) : gk_ln (gk_rf o 8) = 13 := by
  have h9 := gk_chk (P := fun o => !((gk_sk o).1 == 8) || (gk_ln (gk_rf o 8) == 13)) (by decide +kernel) (gk_isO_lt h (by omega))
  have h2 : (gk_sk o).1 = 8 := h
  simp only [h2, beq_self_eq_true, Bool.not_true, Bool.false_or, beq_iff_eq, Bool.and_eq_true, bne_iff_ne, ne_eq] at h9
  exact h9
set_option maxRecDepth 100000 in
theorem rr_8_9 {o : Nat} (h : gk_isO o 8) : gk_ref o 9 := by
  have h9 := gk_chk (P := fun o => !((gk_sk o).1 == 8) || ((gk_sk o).2[9]? == some (gk_rf o 9 + 1))) (by decide +kernel) (gk_isO_lt h (by omega))
  have h2 : (gk_sk o).1 = 8 := h
  simp only [h2, beq_self_eq_true, Bool.not_true, Bool.false_or, beq_iff_eq, Bool.and_eq_true, bne_iff_ne, ne_eq] at h9
  exact ⟨_, h9⟩
set_option maxRecDepth 100000 in
theorem rt_8_9 {o : Nat} (h : gk_isO o 8) : gk_isO (gk_rf o 9) 100 := by
  have h9 := gk_chk (P := fun o => !((gk_sk o).1 == 8) || ((gk_sk (gk_rf o 9)).1 == 100)) (by decide +kernel) (gk_isO_lt h (by omega))
  have h2 : (gk_sk o).1 = 8 := h
  simp only [h2, beq_self_eq_true, Bool.not_true, Bool.false_or, beq_iff_eq, Bool.and_eq_true, bne_iff_ne, ne_eq] at h9
  exact h9
set_option maxRecDepth 100000 in
theorem al_8_9 {o : Nat} (h : gk_isO o 8) : gk_ln (gk_rf o 9) = 13 := by
  have h9 := gk_chk (P := fun o => !((gk_sk o).1 == 8) || (gk_ln (gk_rf o 9) == 13)) (by decide +kernel) (gk_isO_lt h (by omega))
  have h2 : (gk_sk o).1 = 8 := h
  simp only [h2, beq_self_eq_true, Bool.not_true, Bool.false_or, beq_iff_eq, Bool.and_eq_true, bne_iff_ne, ne_eq] at h9
  exact h9
set_option maxRecDepth 100000 in
theorem nf_8_10 {o : Nat} (h : gk_isO o 8) : gk_num o 10 := by
  have h9 := gk_chk (P := fun o => !((gk_sk o).1 == 8) || ((gk_sk o).2[10]? == some 0)) (by decide +kernel) (gk_isO_lt h (by omega))
  have h2 : (gk_sk o).1 = 8 := h
  simp only [h2, beq_self_eq_true, Bool.not_true, Bool.false_or, beq_iff_eq, Bool.and_eq_true, bne_iff_ne, ne_eq] at h9
  exact h9
set_option maxRecDepth 100000 in
theorem rr_8_11 {o : Nat} (h : gk_isO o 8) : gk_ref o 11 := by
  have h9 := gk_chk (P := fun o => !((gk_sk o).1 == 8) || ((gk_sk o).2[11]? == some (gk_rf o 11 + 1))) (by decide +kernel) (gk_isO_lt h (by omega))
  have h2 : (gk_sk o).1 = 8 := h
  simp only [h2, beq_self_eq_true, Bool.not_true, Bool.false_or, beq_iff_eq, Bool.and_eq_true, bne_iff_ne, ne_eq] at h9
  exact ⟨_, h9⟩
set_option maxRecDepth 100000 in
theorem rt_8_11 {o : Nat} (h : gk_isO o 8) : gk_isO (gk_rf o 11) 100 := by
  have h9 := gk_chk (P := fun o => !((gk_sk o).1 == 8) || ((gk_sk (gk_rf o 11)).1 == 100)) (by decide +kernel) (gk_isO_lt h (by omega))
  have h2 : (gk_sk o).1 = 8 := h
  simp only [h2, beq_self_eq_true, Bool.not_true, Bool.false_or, beq_iff_eq, Bool.and_eq_true, bne_iff_ne, ne_eq] at h9
  exact h9
set_option maxRecDepth 100000 in
theorem al_8_11 {o : Nat} (h : gk_isO o 8) : gk_ln (gk_rf o 11) = 24 := by
  have h9 := gk_chk (P := fun o => !((gk_sk o).1 == 8) || (gk_ln (gk_rf o 11) == 24)) (by decide +kernel) (gk_isO_lt h (by omega))
  have h2 : (gk_sk o).1 = 8 := h
  simp only [h2, beq_self_eq_true, Bool.not_true, Bool.false_or, beq_iff_eq, Bool.and_eq_true, bne_iff_ne, ne_eq] at h9
  exact h9
set_option maxRecDepth 100000 in
theorem nf_8_12 {o : Nat} (h : gk_isO o 8) : gk_num o 12 := by
  have h9 := gk_chk (P := fun o => !((gk_sk o).1 == 8) || ((gk_sk o).2[12]? == some 0)) (by decide +kernel) (gk_isO_lt h (by omega))
  have h2 : (gk_sk o).1 = 8 := h
  simp only [h2, beq_self_eq_true, Bool.not_true, Bool.false_or, beq_iff_eq, Bool.and_eq_true, bne_iff_ne, ne_eq] at h9
  exact h9
set_option maxRecDepth 100000 in
theorem rr_8_13 {o : Nat} (h : gk_isO o 8) : gk_ref o 13 := by
  have h9 := gk_chk (P := fun o => !((gk_sk o).1 == 8) || ((gk_sk o).2[13]? == some (gk_rf o 13 + 1))) (by decide +kernel) (gk_isO_lt h (by omega))
  have h2 : (gk_sk o).1 = 8 := h
  simp only [h2, beq_self_eq_true, Bool.not_true, Bool.false_or, beq_iff_eq, Bool.and_eq_true, bne_iff_ne, ne_eq] at h9
  exact ⟨_, h9⟩
set_option maxRecDepth 100000 in
theorem rt_8_13 {o : Nat} (h : gk_isO o 8) : gk_isO (gk_rf o 13) 100 := by
  have h9 := gk_chk (P := fun o => !((gk_sk o).1 == 8) || ((gk_sk (gk_rf o 13)).1 == 100)) (by decide +kernel) (gk_isO_lt h (by omega))
  have h2 : (gk_sk o).1 = 8 := h
  simp only [h2, beq_self_eq_true, Bool.not_true, Bool.false_or, beq_iff_eq, Bool.and_eq_true, bne_iff_ne, ne_eq] at h9
  exact h9
set_option maxRecDepth 100000 in
theorem al_8_13 {o : Nat} (h : gk_isO o 8) : gk_ln (gk_rf o 13) = 8 := by
  have h9 := gk_chk (P := fun o => !((gk_sk o).1 == 8) || (gk_ln (gk_rf o 13) == 8)) (by decide +kernel) (gk_isO_lt h (by omega))
  have h2 : (gk_sk o).1 = 8 := h
  simp only [h2, beq_self_eq_true, Bool.not_true, Bool.false_or, beq_iff_eq, Bool.and_eq_true, bne_iff_ne, ne_eq] at h9
  exact h9
set_option maxRecDepth 100000 in
theorem rr_8_14 {o : Nat} (h : gk_isO o 8) : gk_ref o 14 := by
  have h9 := gk_chk (P := fun o => !((gk_sk o).1 == 8) || ((gk_sk o).2[14]? == some (gk_rf o 14 + 1))) (by decide +kernel) (gk_isO_lt h (by omega))
  have h2 : (gk_sk o).1 = 8 := h
  simp only [h2, beq_self_eq_true, Bool.not_true, Bool.false_or, beq_iff_eq, Bool.and_eq_true, bne_iff_ne, ne_eq] at h9
  exact ⟨_, h9⟩
set_option maxRecDepth 100000 in
theorem rt_8_14 {o : Nat} (h : gk_isO o 8) : gk_isO (gk_rf o 14) 100 := by
  have h9 := gk_chk (P := fun o => !((gk_sk o).1 == 8) || ((gk_sk (gk_rf o 14)).1 == 100)) (by decide +kernel) (gk_isO_lt h (by omega))
  have h2 : (gk_sk o).1 = 8 := h
  simp only [h2, beq_self_eq_true, Bool.not_true, Bool.false_or, beq_iff_eq, Bool.and_eq_true, bne_iff_ne, ne_eq] at h9
  exact h9
set_option maxRecDepth 100000 in
theorem al_8_14 {o : Nat} (h : gk_isO o 8) : gk_ln (gk_rf o 14) = 8 := by
  have h9 := gk_chk (P := fun o => !((gk_sk o).1 == 8) || (gk_ln (gk_rf o 14) == 8)) (by decide +kernel) (gk_isO_lt h (by omega))
  have h2 : (gk_sk o).1 = 8 := h
  simp only [h2, beq_self_eq_true, Bool.not_true, Bool.false_or, beq_iff_eq, Bool.and_eq_true, bne_iff_ne, ne_eq] at h9
  exact h9
set_option maxRecDepth 100000 in
theorem rr_8_15 {o : Nat} (h : gk_isO o 8) : gk_ref o 15 := by
  have h9 := gk_chk (P := fun o => !((gk_sk o).1 == 8) || ((gk_sk o).2[15]? == some (gk_rf o 15 + 1))) (by decide +kernel) (gk_isO_lt h (by omega))
  have h2 : (gk_sk o).1 = 8 := h
  simp only [h2, beq_self_eq_true, Bool.not_true, Bool.false_or, beq_iff_eq, Bool.and_eq_true, bne_iff_ne, ne_eq] at h9
  exact ⟨_, h9⟩
set_option maxRecDepth 100000 in
theorem rt_8_15 {o : Nat} (h : gk_isO o 8) : gk_isO (gk_rf o 15) 100 := by
  have h9 := gk_chk (P := fun o => !((gk_sk o).1 == 8) || ((gk_sk (gk_rf o 15)).1 == 100)) (by decide +kernel) (gk_isO_lt h (by omega))
  have h2 : (gk_sk o).1 = 8 := h
  simp only [h2, beq_self_eq_true, Bool.not_true, Bool.false_or, beq_iff_eq, Bool.and_eq_true, bne_iff_ne, ne_eq] at h9
  exact h9
set_option maxRecDepth 100000 in
theorem al_8_15 {o : Nat} (h : gk_isO o 8) : gk_ln (gk_rf o 15) = 8 := by
  have h9 := gk_chk (P := fun o => !((gk_sk o).1 == 8) || (gk_ln (gk_rf o 15) == 8)) (by decide +kernel) (gk_isO_lt h (by omega))
  have h2 : (gk_sk o).1 = 8 := h
  simp only [h2, beq_self_eq_true, Bool.not_true, Bool.false_or, beq_iff_eq, Bool.and_eq_true, bne_iff_ne, ne_eq] at h9
  exact h9
set_option maxRecDepth 100000 in
theorem rr_8_16 {o : Nat} (h : gk_isO o 8) : gk_ref o 16 := by
  have h9 := gk_chk (P := fun o => !((gk_sk o).1 == 8) || ((gk_sk o).2[16]? == some (gk_rf o 16 + 1))) (by decide +kernel) (gk_isO_lt h (by omega))
  have h2 : (gk_sk o).1 = 8 := h
  simp only [h2, beq_self_eq_true, Bool.not_true, Bool.false_or, beq_iff_eq, Bool.and_eq_true, bne_iff_ne, ne_eq] at h9
  exact ⟨_, h9⟩
set_option maxRecDepth 100000 in
theorem rt_8_16 {o : Nat} (h : gk_isO o 8) : gk_isO (gk_rf o 16) 100 := by
  have h9 := gk_chk (P := fun o => !((gk_sk o).1 == 8) || ((gk_sk (gk_rf o 16)).1 == 100)) (by decide +kernel) (gk_isO_lt h (by omega))
  have h2 : (gk_sk o).1 = 8 := h
  simp only [h2, beq_self_eq_true, Bool.not_true, Bool.false_or, beq_iff_eq, Bool.and_eq_true, bne_iff_ne, ne_eq] at h9
  exact h9
set_option maxRecDepth 100000 in
theorem al_8_16 {o : Nat} (h : gk_isO o 8) : gk_ln (gk_rf o 16) = 24 := by
  have h9 := gk_chk (P := fun o => !((gk_sk o).1 == 8) || (gk_ln (gk_rf o 16) == 24)) (by decide +kernel) (gk_isO_lt h (by omega))
  have h2 : (gk_sk o).1 = 8 := h
  simp only [h2, beq_self_eq_true, Bool.not_true, Bool.false_or, beq_iff_eq, Bool.and_eq_true, bne_iff_ne, ne_eq] at h9
  exact h9
set_option maxRecDepth 100000 in
theorem nf_8_17 {o : Nat} (h : gk_isO o 8) : gk_num o 17 := by
  have h9 := gk_chk (P := fun o => !((gk_sk o).1 == 8) || ((gk_sk o).2[17]? == some 0)) (by decide +kernel) (gk_isO_lt h (by omega))
  have h2 : (gk_sk o).1 = 8 := h
  simp only [h2, beq_self_eq_true, Bool.not_true, Bool.false_or, beq_iff_eq, Bool.and_eq_true, bne_iff_ne, ne_eq] at h9
  exact h9
set_option maxRecDepth 100000 in
theorem nf_8_18 {o : Nat} (h : gk_isO o 8) : gk_num o 18 := by
  have h9 := gk_chk (P := fun o => !((gk_sk o).1 == 8) || ((gk_sk o).2[18]? == some 0)) (by decide +kernel) (gk_isO_lt h (by omega))
  have h2 : (gk_sk o).1 = 8 := h
  simp only [h2, beq_self_eq_true, Bool.not_true, Bool.false_or, beq_iff_eq, Bool.and_eq_true, bne_iff_ne, ne_eq] at h9
  exact h9
set_option maxRecDepth 100000 in
theorem nf_8_19 {o : Nat} (h : gk_isO o 8) : gk_num o 19 := by
  have h9 := gk_chk (P := fun o => !((gk_sk o).1 == 8) || ((gk_sk o).2[19]? == some 0)) (by decide +kernel) (gk_isO_lt h (by omega))
  have h2 : (gk_sk o).1 = 8 := h
  simp only [h2, beq_self_eq_true, Bool.not_true, Bool.false_or, beq_iff_eq, Bool.and_eq_true, bne_iff_ne, ne_eq] at h9
  exact h9
set_option maxRecDepth 100000 in
theorem nf_8_20 {o : Nat} (h : gk_isO o 8) : gk_num o 20 := by
  have h9 := gk_chk (P := fun o => !((gk_sk o).1 == 8) || ((gk_sk o).2[20]? == some 0)) (by decide +kernel) (gk_isO_lt h (by omega))
  have h2 : (gk_sk o).1 = 8 := h
  simp only [h2, beq_self_eq_true, Bool.not_true, Bool.false_or, beq_iff_eq, Bool.and_eq_true, bne_iff_ne, ne_eq] at h9
  exact h9
set_option maxRecDepth 100000 in
theorem rr_8_21 {o : Nat} (h : gk_isO o 8) : gk_ref o 21 := by
  have h9 := gk_chk (P := fun o => !((gk_sk o).1 == 8) || ((gk_sk o).2[21]? == some (gk_rf o 21 + 1))) (by decide +kernel) (gk_isO_lt h (by omega))
  have h2 : (gk_sk o).1 = 8 := h
  simp only [h2, beq_self_eq_true, Bool.not_true, Bool.false_or, beq_iff_eq, Bool.and_eq_true, bne_iff_ne, ne_eq] at h9
  exact ⟨_, h9⟩
set_option maxRecDepth 100000 in
theorem rt_8_21 {o : Nat} (h : gk_isO o 8) : gk_isO (gk_rf o 21) 100 := by
  have h9 := gk_chk (P := fun o => !((gk_sk o).1 == 8) || ((gk_sk (gk_rf o 21)).1 == 100)) (by decide +kernel) (gk_isO_lt h (by omega))
  have h2 : (gk_sk o).1 = 8 := h
  simp only [h2, beq_self_eq_true, Bool.not_true, Bool.false_or, beq_iff_eq, Bool.and_eq_true, bne_iff_ne, ne_eq] at h9
  exact h9
set_option maxRecDepth 100000 in
theorem al_8_21 {o : Nat} (h : gk_isO o 8) : gk_ln (gk_rf o 21) = 6 := by
  have h9 := gk_chk (P := fun o => !((gk_sk o).1 == 8) || (gk_ln (gk_rf o 21) == 6)) (by decide +kernel) (gk_isO_lt h (by omega))
  have h2 : (gk_sk o).1 = 8 := h
  simp only [h2, beq_self_eq_true, Bool.not_true, Bool.false_or, beq_iff_eq, Bool.and_eq_true, bne_iff_ne, ne_eq] at h9
  exact h9
set_option maxRecDepth 100000 in
theorem rr_8_22 {o : Nat} (h : gk_isO o 8) : gk_ref o 22 := by
  have h9 := gk_chk (P := fun o => !((gk_sk o).1 == 8) || ((gk_sk o).2[22]? == some (gk_rf o 22 + 1))) (by decide +kernel) (gk_isO_lt h (by omega))
  have h2 : (gk_sk o).1 = 8 := h
  simp only [h2, beq_self_eq_true, Bool.not_true, Bool.false_or, beq_iff_eq, Bool.and_eq_true, bne_iff_ne, ne_eq] at h9
  exact ⟨_, h9⟩
set_option maxRecDepth 100000 in
theorem rt_8_22 {o : Nat} (h : gk_isO o 8) : gk_isO (gk_rf o 22) 100 := by
  have h9 := gk_chk (P := fun o => !((gk_sk o).1 == 8) || ((gk_sk (gk_rf o 22)).1 == 100)) (by decide +kernel) (gk_isO_lt h (by omega))
  have h2 : (gk_sk o).1 = 8 := h
  simp only [h2, beq_self_eq_true, Bool.not_true, Bool.false_or, beq_iff_eq, Bool.and_eq_true, bne_iff_ne, ne_eq] at h9
  exact h9
set_option maxRecDepth 100000 in
theorem al_8_22 {o : Nat} (h : gk_isO o 8) : gk_ln (gk_rf o 22) = 6 := by
  have h9 := gk_chk (P := fun o => !((gk_sk o).1 == 8) || (gk_ln (gk_rf o 22) == 6)) (by decide +kernel) (gk_isO_lt h (by omega))
  have h2 : (gk_sk o).1 = 8 := h
  simp only [h2, beq_self_eq_true, Bool.not_true, Bool.false_or, beq_iff_eq, Bool.and_eq_true, bne_iff_ne, ne_eq] at h9
  exact h9
set_option maxRecDepth 100000 in
theorem rr_8_23 {o : Nat} (h : gk_isO o 8) : gk_ref o 23 := by
  have h9 := gk_chk (P := fun o => !((gk_sk o).1 == 8) || ((gk_sk o).2[23]? == some (gk_rf o 23 + 1))) (by decide +kernel) (gk_isO_lt h (by omega))
  have h2 : (gk_sk o).1 = 8 := h
  simp only [h2, beq_self_eq_true, Bool.not_true, Bool.false_or, beq_iff_eq, Bool.and_eq_true, bne_iff_ne, ne_eq] at h9
  exact ⟨_, h9⟩
set_option maxRecDepth 100000 in
theorem rt_8_23 {o : Nat} (h : gk_isO o 8) : gk_isO (gk_rf o 23) 100 := by
  have h9 := gk_chk (P := fun o => !((gk_sk o).1 == 8) || ((gk_sk (gk_rf o 23)).1 == 100)) (by decide +kernel) (gk_isO_lt h (by omega))
  have h2 : (gk_sk o).1 = 8 := h
  simp only [h2, beq_self_eq_true, Bool.not_true, Bool.false_or, beq_iff_eq, Bool.and_eq_true, bne_iff_ne, ne_eq] at h9
  exact h9
set_option maxRecDepth 100000 in
theorem al_8_23 {o : Nat} (h : gk_isO o 8) : gk_ln (gk_rf o 23) = 6 := by
  have h9 := gk_chk (P := fun o => !((gk_sk o).1 == 8) || (gk_ln (gk_rf o 23) == 6)) (by decide +kernel) (gk_isO_lt h (by omega))
  have h2 : (gk_sk o).1 = 8 := h
  simp only [h2, beq_self_eq_true, Bool.not_true, Bool.false_or, beq_iff_eq, Bool.and_eq_true, bne_iff_ne, ne_eq] at h9
  exact h9
set_option maxRecDepth 100000 in
theorem nf_8_24 {o : Nat} (h : gk_isO o 8) : gk_num o 24 := by
  have h9 := gk_chk (P := fun o => !((gk_sk o).1 == 8) || ((gk_sk o).2[24]? == some 0)) (by decide +kernel) (gk_isO_lt h (by omega))
  have h2 : (gk_sk o).1 = 8 := h
  simp only [h2, beq_self_eq_true, Bool.not_true, Bool.false_or, beq_iff_eq, Bool.and_eq_true, bne_iff_ne, ne_eq] at h9
  exact h9
set_option maxRecDepth 100000 in
theorem rr_8_25 {o : Nat} (h : gk_isO o 8) : gk_ref o 25 := by
  have h9 := gk_chk (P := fun o => !((gk_sk o).1 == 8) || ((gk_sk o).2[25]? == some (gk_rf o 25 + 1))) (by decide +kernel) (gk_isO_lt h (by omega))
  have h2 : (gk_sk o).1 = 8 := h
  simp only [h2, beq_self_eq_true, Bool.not_true, Bool.false_or, beq_iff_eq, Bool.and_eq_true, bne_iff_ne, ne_eq] at h9
  exact ⟨_, h9⟩
set_option maxRecDepth 100000 in
theorem rt_8_25 {o : Nat} (h : gk_isO o 8) : gk_isO (gk_rf o 25) 100 := by
  have h9 := gk_chk (P := fun o => !((gk_sk o).1 == 8) || ((gk_sk (gk_rf o 25)).1 == 100)) (by decide +kernel) (gk_isO_lt h (by omega))
  have h2 : (gk_sk o).1 = 8 := h
  simp only [h2, beq_self_eq_true, Bool.not_true, Bool.false_or, beq_iff_eq, Bool.and_eq_true, bne_iff_ne, ne_eq] at h9
  exact h9
set_option maxRecDepth 100000 in
theorem al_8_25 {o : Nat} (h : gk_isO o 8) : gk_ln (gk_rf o 25) = 2 := by
  have h9 := gk_chk (P := fun o => !((gk_sk o).1 == 8) || (gk_ln (gk_rf o 25) == 2)) (by decide +kernel) (gk_isO_lt h (by omega))
  have h2 : (gk_sk o).1 = 8 := h
  simp only [h2, beq_self_eq_true, Bool.not_true, Bool.false_or, beq_iff_eq, Bool.and_eq_true, bne_iff_ne, ne_eq] at h9
  exact h9
set_option maxRecDepth 100000 in
theorem rr_8_26 {o : Nat} (h : gk_isO o 8) : gk_ref o 26 := by
  have h9 := gk_chk (P := fun o => !((gk_sk o).1 == 8) || ((gk_sk o).2[26]? == some (gk_rf o 26 + 1))) (by decide +kernel) (gk_isO_lt h (by omega))
  have h2 : (gk_sk o).1 = 8 := h
  simp only [h2, beq_self_eq_true, Bool.not_true, Bool.false_or, beq_iff_eq, Bool.and_eq_true, bne_iff_ne, ne_eq] at h9
  exact ⟨_, h9⟩
set_option maxRecDepth 100000 in
theorem rt_8_26 {o : Nat} (h : gk_isO o 8) : gk_isO (gk_rf o 26) 100 := by
  have h9 := gk_chk (P := fun o => !((gk_sk o).1 == 8) || ((gk_sk (gk_rf o 26)).1 == 100)) (by decide +kernel) (gk_isO_lt h (by omega))
  have h2 : (gk_sk o).1 = 8 := h
  simp only [h2, beq_self_eq_true, Bool.not_true, Bool.false_or, beq_iff_eq, Bool.and_eq_true, bne_iff_ne, ne_eq] at h9
  exact h9
set_option maxRecDepth 100000 in
theorem al_8_26 {o : Nat} (h : gk_isO o 8) : gk_ln (gk_rf o 26) = 2 := by
  have h9 := gk_chk (P := fun o => !((gk_sk o).1 == 8) || (gk_ln (gk_rf o 26) == 2)) (by decide +kernel) (gk_isO_lt h (by omega))
  have h2 : (gk_sk o).1 = 8 := h
  simp only [h2, beq_self_eq_true, Bool.not_true, Bool.false_or, beq_iff_eq, Bool.and_eq_true, bne_iff_ne, ne_eq] at h9
  exact h9
set_option maxRecDepth 100000 in
theorem nf_8_27 {o : Nat} (h : gk_isO o 8) : gk_num o 27 := by
  have h9 := gk_chk (P := fun o => !((gk_sk o).1 == 8) || ((gk_sk o).2[27]? == some 0)) (by decide +kernel) (gk_isO_lt h (by omega))
  have h2 : (gk_sk o).1 = 8 := h
  simp only [h2, beq_self_eq_true, Bool.not_true, Bool.false_or, beq_iff_eq, Bool.and_eq_true, bne_iff_ne, ne_eq] at h9
  exact h9
set_option maxRecDepth 100000 in
theorem nf_8_28 {o : Nat} (h : gk_isO o 8) : gk_num o 28 := by
  have h9 := gk_chk (P := fun o => !((gk_sk o).1 == 8) || ((gk_sk o).2[28]? == some 0)) (by decide +kernel) (gk_isO_lt h (by omega))
  have h2 : (gk_sk o).1 = 8 := h
  simp only [h2, beq_self_eq_true, Bool.not_true, Bool.false_or, beq_iff_eq, Bool.and_eq_true, bne_iff_ne, ne_eq] at h9
  exact h9
set_option maxRecDepth 100000 in
theorem nf_8_29 {o : Nat} (h : gk_isO o 8) : gk_num o 29 := by
  have h9 := gk_chk (P := fun o => !((gk_sk o).1 == 8) || ((gk_sk o).2[29]? == some 0)) (by decide +kernel) (gk_isO_lt h (by omega))
  have h2 : (gk_sk o).1 = 8 := h
  simp only [h2, beq_self_eq_true, Bool.not_true, Bool.false_or, beq_iff_eq, Bool.and_eq_true, bne_iff_ne, ne_eq] at h9
  exact h9
set_option maxRecDepth 100000 in
theorem nf_8_30 {o : Nat} (h : gk_isO o 8) : gk_num o 30 := by
  have h9 := gk_chk (P := fun o => !((gk_sk o).1 == 8) || ((gk_sk o).2[30]? == some 0)) (by decide +kernel) (gk_isO_lt h (by omega))
  have h2 : (gk_sk o).1 = 8 := h
  simp only [h2, beq_self_eq_true, Bool.not_true, Bool.false_or, beq_iff_eq, Bool.and_eq_true, bne_iff_ne, ne_eq] at h9
  exact h9
set_option maxRecDepth 100000 in
theorem rr_8_31 {o : Nat} (h : gk_isO o 8) : gk_ref o 31 := by
  have h9 := gk_chk (P := fun o => !((gk_sk o).1 == 8) || ((gk_sk o).2[31]? == some (gk_rf o 31 + 1))) (by decide +kernel) (gk_isO_lt h (by omega))
  have h2 : (gk_sk o).1 = 8 := h
  simp only [h2, beq_self_eq_true, Bool.not_true, Bool.false_or, beq_iff_eq, Bool.and_eq_true, bne_iff_ne, ne_eq] at h9
  exact ⟨_, h9⟩
set_option maxRecDepth 100000 in
theorem rt_8_31 {o : Nat} (h : gk_isO o 8) : gk_isO (gk_rf o 31) 100 := by
  have h9 := gk_chk (P := fun o => !((gk_sk o).1 == 8) || ((gk_sk (gk_rf o 31)).1 == 100)) (by decide +kernel) (gk_isO_lt h (by omega))
  have h2 : (gk_sk o).1 = 8 := h
  simp only [h2, beq_self_eq_true, Bool.not_true, Bool.false_or, beq_iff_eq, Bool.and_eq_true, bne_iff_ne, ne_eq] at h9
  exact h9
set_option maxRecDepth 100000 in
theorem al_8_31 {o : Nat} (h : gk_isO o 8) : gk_ln (gk_rf o 31) = 48 := by
  have h9 := gk_chk (P := fun o => !((gk_sk o).1 == 8) || (gk_ln (gk_rf o 31) == 48)) (by decide +kernel) (gk_isO_lt h (by omega))
  have h2 : (gk_sk o).1 = 8 := h
  simp only [h2, beq_self_eq_true, Bool.not_true, Bool.false_or, beq_iff_eq, Bool.and_eq_true, bne_iff_ne, ne_eq] at h9
  exact h9
set_option maxRecDepth 100000 in
theorem rr_8_32 {o : Nat} (h : gk_isO o 8) : gk_ref o 32 := by
  have h9 := gk_chk (P := fun o => !((gk_sk o).1 == 8) || ((gk_sk o).2[32]? == some (gk_rf o 32 + 1))) (by decide +kernel) (gk_isO_lt h (by omega))
  have h2 : (gk_sk o).1 = 8 := h
  simp only [h2, beq_self_eq_true, Bool.not_true, Bool.false_or, beq_iff_eq, Bool.and_eq_true, bne_iff_ne, ne_eq] at h9
  exact ⟨_, h9⟩
set_option maxRecDepth 100000 in
theorem rt_8_32 {o : Nat} (h : gk_isO o 8) : gk_isO (gk_rf o 32) 100 := by
  have h9 := gk_chk (P := fun o => !((gk_sk o).1 == 8) || ((gk_sk (gk_rf o 32)).1 == 100)) (by decide +kernel) (gk_isO_lt h (by omega))
  have h2 : (gk_sk o).1 = 8 := h
  simp only [h2, beq_self_eq_true, Bool.not_true, Bool.false_or, beq_iff_eq, Bool.and_eq_true, bne_iff_ne, ne_eq] at h9
  exact h9
set_option maxRecDepth 100000 in
theorem al_8_32 {o : Nat} (h : gk_isO o 8) : gk_ln (gk_rf o 32) = 24 := by
  have h9 := gk_chk (P := fun o => !((gk_sk o).1 == 8) || (gk_ln (gk_rf o 32) == 24)) (by decide +kernel) (gk_isO_lt h (by omega))
  have h2 : (gk_sk o).1 = 8 := h
  simp only [h2, beq_self_eq_true, Bool.not_true, Bool.false_or, beq_iff_eq, Bool.and_eq_true, bne_iff_ne, ne_eq] at h9
  exact h9
set_option maxRecDepth 100000 in
theorem rr_8_33 {o : Nat} (h : gk_isO o 8) : gk_ref o 33 := by
  have h9 := gk_chk (P := fun o => !((gk_sk o).1 == 8) || ((gk_sk o).2[33]? == some (gk_rf o 33 + 1))) (by decide +kernel) (gk_isO_lt h (by omega))
  have h2 : (gk_sk o).1 = 8 := h
  simp only [h2, beq_self_eq_true, Bool.not_true, Bool.false_or, beq_iff_eq, Bool.and_eq_true, bne_iff_ne, ne_eq] at h9
  exact ⟨_, h9⟩
set_option maxRecDepth 100000 in
theorem rt_8_33 {o : Nat} (h : gk_isO o 8) : gk_isO (gk_rf o 33) 100 := by
  have h9 := gk_chk (P := fun o => !((gk_sk o).1 == 8) || ((gk_sk (gk_rf o 33)).1 == 100)) (by decide +kernel) (gk_isO_lt h (by omega))
  have h2 : (gk_sk o).1 = 8 := h
  simp only [h2, beq_self_eq_true, Bool.not_true, Bool.false_or, beq_iff_eq, Bool.and_eq_true, bne_iff_ne, ne_eq] at h9
  exact h9
set_option maxRecDepth 100000 in
theorem al_8_33 {o : Nat} (h : gk_isO o 8) : gk_ln (gk_rf o 33) = 24 := by
  have h9 := gk_chk (P := fun o => !((gk_sk o).1 == 8) || (gk_ln (gk_rf o 33) == 24)) (by decide +kernel) (gk_isO_lt h (by omega))
  have h2 : (gk_sk o).1 = 8 := h
  simp only [h2, beq_self_eq_true, Bool.not_true, Bool.false_or, beq_iff_eq, Bool.and_eq_true, bne_iff_ne, ne_eq] at h9
  exact h9
set_option maxRecDepth 100000 in
theorem rr_8_34 {o : Nat} (h : gk_isO o 8) : gk_ref o 34 := by
  have h9 := gk_chk (P := fun o => !((gk_sk o).1 == 8) || ((gk_sk o).2[34]? == some (gk_rf o 34 + 1))) (by decide +kernel) (gk_isO_lt h (by omega))
  have h2 : (gk_sk o).1 = 8 := h
  simp only [h2, beq_self_eq_true, Bool.not_true, Bool.false_or, beq_iff_eq, Bool.and_eq_true, bne_iff_ne, ne_eq] at h9
  exact ⟨_, h9⟩
set_option maxRecDepth 100000 in
theorem rt_8_34 {o : Nat} (h : gk_isO o 8) : gk_isO (gk_rf o 34) 100 := by
  have h9 := gk_chk (P := fun o => !((gk_sk o).1 == 8) || ((gk_sk (gk_rf o 34)).1 == 100)) (by decide +kernel) (gk_isO_lt h (by omega))
  have h2 : (gk_sk o).1 = 8 := h
  simp only [h2, beq_self_eq_true, Bool.not_true, Bool.false_or, beq_iff_eq, Bool.and_eq_true, bne_iff_ne, ne_eq] at h9
  exact h9
set_option maxRecDepth 100000 in
theorem al_8_34 {o : Nat} (h : gk_isO o 8) : gk_ln (gk_rf o 34) = 144 := by
  have h9 := gk_chk (P := fun o => !((gk_sk o).1 == 8) || (gk_ln (gk_rf o 34) == 144)) (by decide +kernel) (gk_isO_lt h (by omega))
  have h2 : (gk_sk o).1 = 8 := h
  simp only [h2, beq_self_eq_true, Bool.not_true, Bool.false_or, beq_iff_eq, Bool.and_eq_true, bne_iff_ne, ne_eq] at h9
  exact h9
set_option maxRecDepth 100000 in
theorem rr_8_35 {o : Nat} (h : gk_isO o 8) : gk_ref o 35 := by
  have h9 := gk_chk (P := fun o => !((gk_sk o).1 == 8) || ((gk_sk o).2[35]? == some (gk_rf o 35 + 1))) (by decide +kernel) (gk_isO_lt h (by omega))
  have h2 : (gk_sk o).1 = 8 := h
  simp only [h2, beq_self_eq_true, Bool.not_true, Bool.false_or, beq_iff_eq, Bool.and_eq_true, bne_iff_ne, ne_eq] at h9
  exact ⟨_, h9⟩
set_option maxRecDepth 100000 in
theorem rt_8_35 {o : Nat} (h : gk_isO o 8) : gk_isO (gk_rf o 35) 100 := by
  have h9 := gk_chk (P := fun o => !((gk_sk o).1 == 8) || ((gk_sk (gk_rf o 35)).1 == 100)) (by decide +kernel) (gk_isO_lt h (by omega))
  have h2 : (gk_sk o).1 = 8 := h
  simp only [h2, beq_self_eq_true, Bool.not_true, Bool.false_or, beq_iff_eq, Bool.and_eq_true, bne_iff_ne, ne_eq] at h9
  exact h9
set_option maxRecDepth 100000 in
theorem al_8_35 {o : Nat} (h : gk_isO o 8) : gk_ln (gk_rf o 35) = 144 := by
  have h9 := gk_chk (P := fun o => !((gk_sk o).1 == 8) || (gk_ln (gk_rf o 35) == 144)) (by decide +kernel) (gk_isO_lt h (by omega))
  have h2 : (gk_sk o).1 = 8 := h
  simp only [h2, beq_self_eq_true, Bool.not_true, Bool.false_or, beq_iff_eq, Bool.and_eq_true, bne_iff_ne, ne_eq] at h9
  exact h9
set_option maxRecDepth 100000 in
theorem rr_8_36 {o : Nat} (h : gk_isO o 8) : gk_ref o 36 := by
  have h9 := gk_chk (P := fun o => !((gk_sk o).1 == 8) || ((gk_sk o).2[36]? == some (gk_rf o 36 + 1))) (by decide +kernel) (gk_isO_lt h (by omega))
  have h2 : (gk_sk o).1 = 8 := h
  simp only [h2, beq_self_eq_true, Bool.not_true, Bool.false_or, beq_iff_eq, Bool.and_eq_true, bne_iff_ne, ne_eq] at h9
  exact ⟨_, h9⟩
set_option maxRecDepth 100000 in
theorem rt_8_36 {o : Nat} (h : gk_isO o 8) : gk_isO (gk_rf o 36) 100 := by
  have h9 := gk_chk (P := fun o => !((gk_sk o).1 == 8) || ((gk_sk (gk_rf o 36)).1 == 100)) (by decide +kernel) (gk_isO_lt h (by omega))
  have h2 : (gk_sk o).1 = 8 := h
  simp only [h2, beq_self_eq_true, Bool.not_true, Bool.false_or, beq_iff_eq, Bool.and_eq_true, bne_iff_ne, ne_eq] at h9
  exact h9
set_option maxRecDepth 100000 in
theorem al_8_36 {o : Nat} (h : gk_isO o 8) : gk_ln (gk_rf o 36) = 2 := by
  have h9 := gk_chk (P := fun o => !((gk_sk o).1 == 8) || (gk_ln (gk_rf o 36) == 2)) (by decide +kernel) (gk_isO_lt h (by omega))
  have h2 : (gk_sk o).1 = 8 := h
  simp only [h2, beq_self_eq_true, Bool.not_true, Bool.false_or, beq_iff_eq, Bool.and_eq_true, bne_iff_ne, ne_eq] at h9
  exact h9
set_option maxRecDepth 100000 in
theorem nf_8_37 {o : Nat} (h : gk_isO o 8) : gk_num o 37 := by
  have h9 := gk_chk (P := fun o => !((gk_sk o).1 == 8) || ((gk_sk o).2[37]? == some 0)) (by decide +kernel) (gk_isO_lt h (by omega))
  have h2 : (gk_sk o).1 = 8 := h
  simp only [h2, beq_self_eq_true, Bool.not_true, Bool.false_or, beq_iff_eq, Bool.and_eq_true, bne_iff_ne, ne_eq] at h9
  exact h9
set_option maxRecDepth 100000 in
theorem rr_8_38 {o : Nat} (h : gk_isO o 8) : gk_ref o 38 := by
  have h9 := gk_chk (P := fun o => !((gk_sk o).1 == 8) || ((gk_sk o).2[38]? == some (gk_rf o 38 + 1))) (by decide +kernel) (gk_isO_lt h (by omega))
  have h2 : (gk_sk o).1 = 8 := h
  simp only [h2, beq_self_eq_true, Bool.not_true, Bool.false_or, beq_iff_eq, Bool.and_eq_true, bne_iff_ne, ne_eq] at h9
  exact ⟨_, h9⟩
set_option maxRecDepth 100000 in
theorem rt_8_38 {o : Nat} (h : gk_isO o 8) : gk_isO (gk_rf o 38) 100 := by
  have h9 := gk_chk (P := fun o => !((gk_sk o).1 == 8) || ((gk_sk (gk_rf o 38)).1 == 100)) (by decide +kernel) (gk_isO_lt h (by omega))
  have h2 : (gk_sk o).1 = 8 := h
  simp only [h2, beq_self_eq_true, Bool.not_true, Bool.false_or, beq_iff_eq, Bool.and_eq_true, bne_iff_ne, ne_eq] at h9
  exact h9
set_option maxRecDepth 100000 in
theorem al_8_38 {o : Nat} (h : gk_isO o 8) : gk_ln (gk_rf o 38) = 8 := by
  have h9 := gk_chk (P := fun o => !((gk_sk o).1 == 8) || (gk_ln (gk_rf o 38) == 8)) (by decide +kernel) (gk_isO_lt h (by omega))
  have h2 : (gk_sk o).1 = 8 := h
  simp only [h2, beq_self_eq_true, Bool.not_true, Bool.false_or, beq_iff_eq, Bool.and_eq_true, bne_iff_ne, ne_eq] at h9
  exact h9
set_option maxRecDepth 100000 in
theorem rr_8_39 {o : Nat} (h : gk_isO o 8) : gk_ref o 39 := by
  have h9 := gk_chk (P := fun o => !((gk_sk o).1 == 8) || ((gk_sk o).2[39]? == some (gk_rf o 39 + 1))) (by decide +kernel) (gk_isO_lt h (by omega))
  have h2 : (gk_sk o).1 = 8 := h
  simp only [h2, beq_self_eq_true, Bool.not_true, Bool.false_or, beq_iff_eq, Bool.and_eq_true, bne_iff_ne, ne_eq] at h9
  exact ⟨_, h9⟩
set_option maxRecDepth 100000 in
theorem rt_8_39 {o : Nat} (h : gk_isO o 8) : gk_isO (gk_rf o 39) 100 := by
  have h9 := gk_chk (P := fun o => !((gk_sk o).1 == 8) || ((gk_sk (gk_rf o 39)).1 == 100)) (by decide +kernel) (gk_isO_lt h (by omega))
  have h2 : (gk_sk o).1 = 8 := h
  simp only [h2, beq_self_eq_true, Bool.not_true, Bool.false_or, beq_iff_eq, Bool.and_eq_true, bne_iff_ne, ne_eq] at h9
  exact h9
set_option maxRecDepth 100000 in
theorem al_8_39 {o : Nat} (h : gk_isO o 8) : gk_ln (gk_rf o 39) = 8 := by
  have h9 := gk_chk (P := fun o => !((gk_sk o).1 == 8) || (gk_ln (gk_rf o 39) == 8)) (by decide +kernel) (gk_isO_lt h (by omega))
  have h2 : (gk_sk o).1 = 8 := h
  simp only [h2, beq_self_eq_true, Bool.not_true, Bool.false_or, beq_iff_eq, Bool.and_eq_true, bne_iff_ne, ne_eq] at h9
  exact h9
set_option maxRecDepth 100000 in
theorem rr_8_40 {o : Nat} (h : gk_isO o 8) : gk_ref o 40 := by
  have h9 := gk_chk (P := fun o => !((gk_sk o).1 == 8) || ((gk_sk o).2[40]? == some (gk_rf o 40 + 1))) (by decide +kernel) (gk_isO_lt h (by omega))
  have h2 : (gk_sk o).1 = 8 := h
  simp only [h2, beq_self_eq_true, Bool.not_true, Bool.false_or, beq_iff_eq, Bool.and_eq_true, bne_iff_ne, ne_eq] at h9
  exact ⟨_, h9⟩
set_option maxRecDepth 100000 in
theorem rt_8_40 {o : Nat} (h : gk_isO o 8) : gk_isO (gk_rf o 40) 100 := by
  have h9 := gk_chk (P := fun o => !((gk_sk o).1 == 8) || ((gk_sk (gk_rf o 40)).1 == 100)) (by decide +kernel) (gk_isO_lt h (by omega))
  have h2 : (gk_sk o).1 = 8 := h
  simp only [h2, beq_self_eq_true, Bool.not_true, Bool.false_or, beq_iff_eq, Bool.and_eq_true, bne_iff_ne, ne_eq] at h9
  exact h9
set_option maxRecDepth 100000 in
theorem al_8_40 {o : Nat} (h : gk_isO o 8) : gk_ln (gk_rf o 40) = 8 := by
  have h9 := gk_chk (P := fun o => !((gk_sk o).1 == 8) || (gk_ln (gk_rf o 40) == 8)) (by decide +kernel) (gk_isO_lt h (by omega))
  have h2 : (gk_sk o).1 = 8 := h
  simp only [h2, beq_self_eq_true, Bool.not_true, Bool.false_or, beq_iff_eq, Bool.and_eq_true, bne_iff_ne, ne_eq] at h9
  exact h9
set_option maxRecDepth 100000 in
theorem rr_8_41 {o : Nat} (h : gk_isO o 8) : gk_ref o 41 := by
  have h9 := gk_chk (P := fun o => !((gk_sk o).1 == 8) || ((gk_sk o).2[41]? == some (gk_rf o 41 + 1))) (by decide +kernel) (gk_isO_lt h (by omega))
  have h2 : (gk_sk o).1 = 8 := h
  simp only [h2, beq_self_eq_true, Bool.not_true, Bool.false_or, beq_iff_eq, Bool.and_eq_true, bne_iff_ne, ne_eq] at h9
  exact ⟨_, h9⟩
set_option maxRecDepth 100000 in
theorem rt_8_41 {o : Nat} (h : gk_isO o 8) : gk_isO (gk_rf o 41) 100 := by
  have h9 := gk_chk (P := fun o => !((gk_sk o).1 == 8) || ((gk_sk (gk_rf o 41)).1 == 100)) (by decide +kernel) (gk_isO_lt h (by omega))
  have h2 : (gk_sk o).1 = 8 := h
  simp only [h2, beq_self_eq_true, Bool.not_true, Bool.false_or, beq_iff_eq, Bool.and_eq_true, bne_iff_ne, ne_eq] at h9
  exact h9
set_option maxRecDepth 100000 in
theorem al_8_41 {o : Nat} (h : gk_isO o 8) : gk_ln (gk_rf o 41) = 240 := by
  have h9 := gk_chk (P := fun o => !((gk_sk o).1 == 8) || (gk_ln (gk_rf o 41) == 240)) (by decide +kernel) (gk_isO_lt h (by omega))
  have h2 : (gk_sk o).1 = 8 := h
  simp only [h2, beq_self_eq_true, Bool.not_true, Bool.false_or, beq_iff_eq, Bool.and_eq_true, bne_iff_ne, ne_eq] at h9
  exact h9
set_option maxRecDepth 100000 in
theorem rr_8_42 {o : Nat} (h : gk_isO o 8) : gk_ref o 42 := by
  have h9 := gk_chk (P := fun o => !((gk_sk o).1 == 8) || ((gk_sk o).2[42]? == some (gk_rf o 42 + 1))) (by decide +kernel) (gk_isO_lt h (by omega))
  have h2 : (gk_sk o).1 = 8 := h
  simp only [h2, beq_self_eq_true, Bool.not_true, Bool.false_or, beq_iff_eq, Bool.and_eq_true, bne_iff_ne, ne_eq] at h9
  exact ⟨_, h9⟩
set_option maxRecDepth 100000 in
theorem rt_8_42 {o : Nat} (h : gk_isO o 8) : gk_isO (gk_rf o 42) 101 := by
  have h9 := gk_chk (P := fun o => !((gk_sk o).1 == 8) || ((gk_sk (gk_rf o 42)).1 == 101)) (by decide +kernel) (gk_isO_lt h (by omega))
  have h2 : (gk_sk o).1 = 8 := h
  simp only [h2, beq_self_eq_true, Bool.not_true, Bool.false_or, beq_iff_eq, Bool.and_eq_true, bne_iff_ne, ne_eq] at h9
  exact h9
set_option maxRecDepth 100000 in
theorem al_8_42 {o : Nat} (h : gk_isO o 8) : gk_ln (gk_rf o 42) = 4 := by
  have h9 := gk_chk (P := fun o => !((gk_sk o).1 == 8) || (gk_ln (gk_rf o 42) == 4)) (by decide +kernel) (gk_isO_lt h (by omega))
  have h2 : (gk_sk o).1 = 8 := h
  simp only [h2, beq_self_eq_true, Bool.not_true, Bool.false_or, beq_iff_eq, Bool.and_eq_true, bne_iff_ne, ne_eq] at h9
  exact h9
set_option maxRecDepth 100000 in
theorem rr_8_43 {o : Nat} (h : gk_isO o 8) : gk_ref o 43 := by
  have h9 := gk_chk (P := fun o => !((gk_sk o).1 == 8) || ((gk_sk o).2[43]? == some (gk_rf o 43 + 1))) (by decide +kernel) (gk_isO_lt h (by omega))
  have h2 : (gk_sk o).1 = 8 := h
  simp only [h2, beq_self_eq_true, Bool.not_true, Bool.false_or, beq_iff_eq, Bool.and_eq_true, bne_iff_ne, ne_eq] at h9
  exact ⟨_, h9⟩
set_option maxRecDepth 100000 in
theorem rt_8_43 {o : Nat} (h : gk_isO o 8) : gk_isO (gk_rf o 43) 100 := by
  have h9 := gk_chk (P := fun o => !((gk_sk o).1 == 8) || ((gk_sk (gk_rf o 43)).1 == 100)) (by decide +kernel) (gk_isO_lt h (by omega))
  have h2 : (gk_sk o).1 = 8 := h
  simp only [h2, beq_self_eq_true, Bool.not_true, Bool.false_or, beq_iff_eq, Bool.and_eq_true, bne_iff_ne, ne_eq] at h9
  exact h9
set_option maxRecDepth 100000 in
theorem al_8_43 {o : Nat} (h : gk_isO o 8) : gk_ln (gk_rf o 43) = 4 := by
  have h9 := gk_chk (P := fun o => !((gk_sk o).1 == 8) || (gk_ln (gk_rf o 43) == 4)) (by decide +kernel) (gk_isO_lt h (by omega))
  have h2 : (gk_sk o).1 = 8 := h
  simp only [h2, beq_self_eq_true, Bool.not_true, Bool.false_or, beq_iff_eq, Bool.and_eq_true, bne_iff_ne, ne_eq] at h9
  exact h9
set_option maxRecDepth 100000 in
theorem rr_8_44 {o : Nat} (h : gk_isO o 8) : gk_ref o 44 := by
  have h9 := gk_chk (P := fun o => !((gk_sk o).1 == 8) || ((gk_sk o).2[44]? == some (gk_rf o 44 + 1))) (by decide +kernel) (gk_isO_lt h (by omega))
  have h2 : (gk_sk o).1 = 8 := h
  simp only [h2, beq_self_eq_true, Bool.not_true, Bool.false_or, beq_iff_eq, Bool.and_eq_true, bne_iff_ne, ne_eq] at h9
  exact ⟨_, h9⟩
set_option maxRecDepth 100000 in
theorem rt_8_44 {o : Nat} (h : gk_isO o 8) : gk_isO (gk_rf o 44) 100 := by
  have h9 := gk_chk (P := fun o => !((gk_sk o).1 == 8) || ((gk_sk (gk_rf o 44)).1 == 100)) (by decide +kernel) (gk_isO_lt h (by omega))
  have h2 : (gk_sk o).1 = 8 := h
  simp only [h2, beq_self_eq_true, Bool.not_true, Bool.false_or, beq_iff_eq, Bool.and_eq_true, bne_iff_ne, ne_eq] at h9
  exact h9
set_option maxRecDepth 100000 in
theorem al_8_44 {o : Nat} (h : gk_isO o 8) : gk_ln (gk_rf o 44) = 4 := by
  have h9 := gk_chk (P := fun o => !((gk_sk o).1 == 8) || (gk_ln (gk_rf o 44) == 4)) (by decide +kernel) (gk_isO_lt h (by omega))
  have h2 : (gk_sk o).1 = 8 := h
  simp only [h2, beq_self_eq_true, Bool.not_true, Bool.false_or, beq_iff_eq, Bool.and_eq_true, bne_iff_ne, ne_eq] at h9
  exact h9
set_option maxRecDepth 100000 in
theorem rr_8_45 {o : Nat} (h : gk_isO o 8) : gk_ref o 45 := by
  have h9 := gk_chk (P := fun o => !((gk_sk o).1 == 8) || ((gk_sk o).2[45]? == some (gk_rf o 45 + 1))) (by decide +kernel) (gk_isO_lt h (by omega))
  have h2 : (gk_sk o).1 = 8 := h
  simp only [h2, beq_self_eq_true, Bool.not_true, Bool.false_or, beq_iff_eq, Bool.and_eq_true, bne_iff_ne, ne_eq] at h9
  exact ⟨_, h9⟩
set_option maxRecDepth 100000 in
theorem rt_8_45 {o : Nat} (h : gk_isO o 8) : gk_isO (gk_rf o 45) 100 := by
  have h9 := gk_chk (P := fun o => !((gk_sk o).1 == 8) || ((gk_sk (gk_rf o 45)).1 == 100)) (by decide +kernel) (gk_isO_lt h (by omega))
  have h2 : (gk_sk o).1 = 8 := h
  simp only [h2, beq_self_eq_true, Bool.not_true, Bool.false_or, beq_iff_eq, Bool.and_eq_true, bne_iff_ne, ne_eq] at h9
  exact h9
set_option maxRecDepth 100000 in
theorem al_8_45 {o : Nat} (h : gk_isO o 8) : gk_ln (gk_rf o 45) = 240 := by
  have h9 := gk_chk (P := fun o => !((gk_sk o).1 == 8) || (gk_ln (gk_rf o 45) == 240)) (by decide +kernel) (gk_isO_lt h (by omega))
  have h2 : (gk_sk o).1 = 8 := h
  simp only [h2, beq_self_eq_true, Bool.not_true, Bool.false_or, beq_iff_eq, Bool.and_eq_true, bne_iff_ne, ne_eq] at h9
  exact h9
set_option maxRecDepth 100000 in
theorem rr_8_46 {o : Nat} (h : gk_isO o 8) : gk_ref o 46 := by
  have h9 := gk_chk (P := fun o => !((gk_sk o).1 == 8) || ((gk_sk o).2[46]? == some (gk_rf o 46 + 1))) (by decide +kernel) (gk_isO_lt h (by omega))
  have h2 : (gk_sk o).1 = 8 := h
  simp only [h2, beq_self_eq_true, Bool.not_true, Bool.false_or, beq_iff_eq, Bool.and_eq_true, bne_iff_ne, ne_eq] at h9
  exact ⟨_, h9⟩
set_option maxRecDepth 100000 in
theorem rt_8_46 {o : Nat} (h : gk_isO o 8) : gk_isO (gk_rf o 46) 100 := by
  have h9 := gk_chk (P := fun o => !((gk_sk o).1 == 8) || ((gk_sk (gk_rf o 46)).1 == 100)) (by decide +kernel) (gk_isO_lt h (by omega))
  have h2 : (gk_sk o).1 = 8 := h
  simp only [h2, beq_self_eq_true, Bool.not_true, Bool.false_or, beq_iff_eq, Bool.and_eq_true, bne_iff_ne, ne_eq] at h9
  exact h9
set_option maxRecDepth 100000 in
theorem al_8_46 {o : Nat} (h : gk_isO o 8) : gk_ln (gk_rf o 46) = 60 := by
  have h9 := gk_chk (P := fun o => !((gk_sk o).1 == 8) || (gk_ln (gk_rf o 46) == 60)) (by decide +kernel) (gk_isO_lt h (by omega))
  have h2 : (gk_sk o).1 = 8 := h
  simp only [h2, beq_self_eq_true, Bool.not_true, Bool.false_or, beq_iff_eq, Bool.and_eq_true, bne_iff_ne, ne_eq] at h9
  exact h9
set_option maxRecDepth 100000 in
theorem nf_8_47 {o : Nat} (h : gk_isO o 8) : gk_num o 47 := by
  have h9 := gk_chk (P := fun o => !((gk_sk o).1 == 8) || ((gk_sk o).2[47]? == some 0)) (by decide +kernel) (gk_isO_lt h (by omega))
  have h2 : (gk_sk o).1 = 8 := h
  simp only [h2, beq_self_eq_true, Bool.not_true, Bool.false_or, beq_iff_eq, Bool.and_eq_true, bne_iff_ne, ne_eq] at h9
  exact h9
