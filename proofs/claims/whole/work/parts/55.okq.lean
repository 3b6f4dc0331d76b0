/-! hang, pace, cheap, was, ask, years: both sides -/
set_option maxHeartbeats 4000000 in
theorem k_ok_hang : ok_hang gp_Inv := by
  intro μ x1 x2 ⟨C, hK⟩
  rcases rgc x1 (c_nc C) (Nat.lt_of_le_of_lt c_nc6 (by omega)) with ⟨a0, h0, rfl⟩ | b0
  · rcases rg x2 1 (by omega) with ⟨a1, h1, rfl⟩ | b1
    · refine c_ha hK h0 (by omega) (fun ν hK => ?_)
      unfold w_X8_hang
      refine m_car_y hK h0 (fun ν hK hR => ?_)
      rw [if_neg i1n0]
      refine m_two_y (by omega) ?_
      rw [if_neg i1n0]
      exact m_ha hK h0 (by omega) (fun ν hK hR => ⟨rfl, C, hK⟩)
    · unfold w_X7_hang
      refine s_car_y hK.2.1.1 h0 ?_
      rw [if_neg i1n0]
      refine s_w_n b1 ?_
      rw [if_pos rfl]
      unfold w_X8_hang
      refine m_car_y hK h0 (fun ν hK hR => ?_)
      rw [if_neg i1n0]
      refine m_two_n b1 ?_
      rw [if_pos rfl]
      exact ⟨rfl, C, hK⟩
  · unfold w_X7_hang
    refine s_car_n hK.2.1.1 b0 ?_
    rw [if_pos rfl]
    unfold w_X8_hang
    refine m_car_n hK b0 (fun ν hK hR => ?_)
    rw [if_pos rfl]
    exact ⟨rfl, C, hK⟩
set_option maxHeartbeats 4000000 in
theorem k_ok_pace : ok_pace gp_Inv := by
  intro μ x1 x2 ⟨C, hK⟩
  rcases rg x1 23 (by omega) with ⟨a0, h0, rfl⟩ | b0
  · rcases rg x2 1 (by omega) with ⟨a1, h1, rfl⟩ | b1
    · refine c_pa hK (by omega) (by omega) (fun ν hK => ?_)
      unfold w_X8_pace
      refine m_mom_y (by omega) ?_
      rw [if_neg i1n0]
      refine m_two_y (by omega) ?_
      rw [if_neg i1n0]
      exact m_pa hK (by omega) (by omega) (fun ν hK hR => ⟨rfl, C, hK⟩)
    · unfold w_X7_pace
      refine s_mom_y (by omega) ?_
      rw [if_neg i1n0]
      refine s_w_n b1 ?_
      rw [if_pos rfl]
      unfold w_X8_pace
      refine m_mom_y (by omega) ?_
      rw [if_neg i1n0]
      refine m_two_n b1 ?_
      rw [if_pos rfl]
      exact ⟨rfl, C, hK⟩
  · unfold w_X7_pace
    refine s_mom_n b0 ?_
    rw [if_pos rfl]
    unfold w_X8_pace
    refine m_mom_n b0 ?_
    rw [if_pos rfl]
    exact ⟨rfl, C, hK⟩
set_option maxHeartbeats 4000000 in
theorem k_ok_cheap : ok_cheap gp_Inv := by
  intro μ x1 x2 ⟨C, hK⟩
  rcases rg x1 23 (by omega) with ⟨a0, h0, rfl⟩ | b0
  · rcases rg x2 1 (by omega) with ⟨a1, h1, rfl⟩ | b1
    · refine c_ch hK (by omega) (by omega) (fun ν hK => ?_)
      unfold w_X8_cheap
      refine m_mom_y (by omega) ?_
      rw [if_neg i1n0]
      refine m_two_y (by omega) ?_
      rw [if_neg i1n0]
      exact m_ch hK (by omega) (by omega) (fun ν hK hR => ⟨rfl, C, hK⟩)
    · unfold w_X7_cheap
      refine s_mom_y (by omega) ?_
      rw [if_neg i1n0]
      refine s_w_n b1 ?_
      rw [if_pos rfl]
      unfold w_X8_cheap
      refine m_mom_y (by omega) ?_
      rw [if_neg i1n0]
      refine m_two_n b1 ?_
      rw [if_pos rfl]
      exact ⟨rfl, C, hK⟩
  · unfold w_X7_cheap
    refine s_mom_n b0 ?_
    rw [if_pos rfl]
    unfold w_X8_cheap
    refine m_mom_n b0 ?_
    rw [if_pos rfl]
    exact ⟨rfl, C, hK⟩
set_option maxHeartbeats 4000000 in
theorem k_ok_ask : ok_ask gp_Inv := by
  intro μ x1 ⟨C, hK⟩
  rcases rgc x1 (c_nc C) (Nat.lt_of_le_of_lt c_nc6 (by omega)) with ⟨a0, h0, rfl⟩ | b0
  · refine c_ask hK h0 (fun ν hK => ?_)
    unfold w_X8_ask
    refine m_car_y hK h0 (fun ν hK hR => ?_)
    rw [if_neg i1n0]
    exact m_ask hK h0 (fun ν hK hR => ⟨rfl, C, hK⟩)
  · unfold w_X7_ask
    refine s_car_n hK.2.1.1 b0 ?_
    rw [if_pos rfl]
    unfold w_X8_ask
    refine m_car_n hK b0 (fun ν hK hR => ?_)
    rw [if_pos rfl]
    exact ⟨rfl, C, hK⟩
theorem m_was {C : gp_C} {μ : gk_St} (hK : gp_K C μ) {k w : Nat} (hk : k < c_nc C) (hw : w < 2) {Q : Int32 → gk_St → Prop} (h : ∀ ν, gp_K C ν → gp_rd (c_tn C) (c_tb C) ν → Q (v_was C k w) ν) : (if nI w = 0 then w_X8_roomsBy 101 (nI k) μ Q else w_X8_sortsBy 101 (nI k) μ Q) := by
  refine gp_c2 hw (fun z => ?_) (fun z => ?_)
  · subst z
    refine m_ro hK hk (fun ν a b _ => ?_)
    have e : v_was C k 0 = gp_bt (gp_rb C k) 10 := if_pos rfl
    rw [← e]
    exact h ν a b
  · subst z
    refine m_so hK hk (fun ν a b => ?_)
    have e : v_was C k 1 = gp_bt (gp_sb C k) 3 := if_neg (by omega)
    rw [← e]
    exact h ν a b
set_option maxHeartbeats 4000000 in
theorem k_ok_was : ok_was gp_Inv := by
  intro μ x1 x2 ⟨C, hK⟩
  rcases rgc x1 (c_nc C) (Nat.lt_of_le_of_lt c_nc6 (by omega)) with ⟨a0, h0, rfl⟩ | b0
  · rcases rg x2 1 (by omega) with ⟨a1, h1, rfl⟩ | b1
    · refine c_was hK h0 (by omega) (fun ν hK => ?_)
      unfold w_X8_was
      refine m_car_y hK h0 (fun ν hK hR => ?_)
      rw [if_neg i1n0]
      refine m_two_y (by omega) ?_
      rw [if_neg i1n0]
      exact m_was hK h0 (by omega) (fun ν hK hR => ⟨rfl, C, hK⟩)
    · unfold w_X7_was
      refine s_car_y hK.2.1.1 h0 ?_
      rw [if_neg i1n0]
      refine s_w_n b1 ?_
      rw [if_pos rfl]
      unfold w_X8_was
      refine m_car_y hK h0 (fun ν hK hR => ?_)
      rw [if_neg i1n0]
      refine m_two_n b1 ?_
      rw [if_pos rfl]
      exact ⟨rfl, C, hK⟩
  · unfold w_X7_was
    refine s_car_n hK.2.1.1 b0 ?_
    rw [if_pos rfl]
    unfold w_X8_was
    refine m_car_n hK b0 (fun ν hK hR => ?_)
    rw [if_pos rfl]
    exact ⟨rfl, C, hK⟩
set_option maxHeartbeats 4000000 in
theorem k_ok_years : ok_years gp_Inv := by
  intro μ x0 x1 x2 ⟨C, hK⟩
  rcases rg x1 24 (by omega) with ⟨a0, h0, rfl⟩ | b0
  · rcases rg x2 1 (by omega) with ⟨a1, h1, rfl⟩ | b1
    · refine c_ye hK (by omega) (by omega) (fun ν hK => ?_)
      unfold w_X8_years
      refine s_ii (m := 24) (by omega) h0 ?_
      rw [if_neg i1n0]
      refine m_two_y (by omega) ?_
      rw [if_neg i1n0]
      exact m_ye hK (by omega) (by omega) (fun ν hK hR => ⟨rfl, C, hK⟩)
    · unfold w_X7_years
      refine s_wi (m := 24) (by omega) h0 ?_
      rw [if_neg i1n0]
      refine s_w_n b1 ?_
      rw [if_pos rfl]
      unfold w_X8_years
      refine s_ii (m := 24) (by omega) h0 ?_
      rw [if_neg i1n0]
      refine m_two_n b1 ?_
      rw [if_pos rfl]
      exact ⟨rfl, C, hK⟩
  · unfold w_X7_years
    refine s_w_n b0 ?_
    rw [if_pos rfl]
    unfold w_X8_years
    refine s_in_n b0 ?_
    rw [if_pos rfl]
    exact ⟨rfl, C, hK⟩
