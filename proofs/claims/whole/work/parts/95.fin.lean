/-! the start, and all of it -/
def c_0 : gp_C := ((fun _ => 0, fun _ _ => 0), (0, fun _ => 0, fun _ => 0, fun _ => 0), (0, fun _ => 0, fun _ => 0, fun _ => 0), fun _ => true, fun _ => 0, fun _ => 0, fun _ _ => 0, 0)
theorem mu_e {k c : Nat} {a : List Nat} (h : gs_z[k]? = some (c, a, [])) (j : Nat) : gk_mu0 k j = 0 := by
  unfold gk_mu0
  rw [h]
  simp
theorem gp_start_kc : gp_kc c_0 gk_mu0 := by
  have hp0 : gp_pz 0 0 (fun _ => 0) = 0 := by decide
  have hp1 : gp_pz 1 0 (fun _ => 0) = 0 := by decide
  refine ⟨⟨fun x hx => ⟨?_, ?_, fun k hk => absurd hk (Nat.not_lt_zero k)⟩, ⟨by decide +kernel, by decide +kernel, ?_, Or.inl ⟨by decide +kernel, fun i hi => absurd hi (Nat.not_lt_zero i), Or.inl rfl⟩, fun k hk => ?_⟩, ⟨by decide +kernel, by decide +kernel, ?_, Or.inl ⟨by decide +kernel, fun i hi => absurd hi (Nat.not_lt_zero i), Or.inl rfl⟩, fun k hk => ?_⟩, Or.inl ⟨by decide +kernel, fun i hi => absurd hi (Nat.not_lt_zero i)⟩⟩, ⟨by decide +kernel, fun i hi => absurd hi (Nat.not_lt_zero i)⟩, ⟨by decide +kernel, fun i hi => absurd hi (Nat.not_lt_zero i)⟩, fun s hs => ?_, by decide +kernel, fun q => absurd q (by decide +kernel)⟩
  · rcases (show x = 0 ∨ x = 1 ∨ x = 2 by omega) with z | z | z <;> subst z <;> decide +kernel
  · rcases (show x = 0 ∨ x = 1 ∨ x = 2 by omega) with z | z | z <;> subst z <;> decide +kernel
  · show gk_mu0 7 6 = nI (gp_pz 0 0 (fun _ => 0))
    rw [hp0]
    decide +kernel
  · have hk' : k < gp_pz 0 0 (fun _ => 0) := hk
    rw [hp0] at hk'
    exact absurd hk' (Nat.not_lt_zero k)
  · show gk_mu0 11 6 = nI (gp_pz 1 0 (fun _ => 0))
    rw [hp1]
    decide +kernel
  · have hk' : k < gp_pz 1 0 (fun _ => 0) := hk
    rw [hp1] at hk'
    exact absurd hk' (Nat.not_lt_zero k)
  · rcases (show s = 0 ∨ s = 1 ∨ s = 2 ∨ s = 3 by omega) with z | z | z | z <;> subst z
    · exact ⟨by decide +kernel, by decide +kernel, by decide +kernel, fun i _ => mu_e (k := 24) rfl i⟩
    · exact ⟨by decide +kernel, by decide +kernel, by decide +kernel, fun i _ => mu_e (k := 26) rfl i⟩
    · exact ⟨by decide +kernel, by decide +kernel, by decide +kernel, fun i _ => mu_e (k := 28) rfl i⟩
    · exact ⟨by decide +kernel, by decide +kernel, by decide +kernel, fun i _ => mu_e (k := 30) rfl i⟩
theorem gp_start_km : gp_km c_0 gk_mu0 := by
  refine ⟨fun x hx => ⟨mu_e (k := 102) rfl x, Nat.zero_le _, fun k hk => absurd hk (Nat.not_lt_zero k)⟩, ⟨by decide +kernel, fun i hi => absurd hi (Nat.not_lt_zero i)⟩, ⟨by decide +kernel, fun i hi => absurd hi (Nat.not_lt_zero i)⟩, fun s hs => ⟨mu_e (k := 130) rfl s, mu_e (k := 131) rfl s, mu_e (k := 132) rfl s, fun i _ => mu_e (k := 133) rfl (60 * s + i)⟩, by decide +kernel⟩
theorem gp_start : gp_Inv gk_mu0 := by
  refine ⟨c_0, ⟨fun x hx => ⟨Nat.zero_le _, fun k hk => absurd hk (Nat.not_lt_zero k)⟩, ⟨Nat.zero_le _, fun i hi => absurd hi (Nat.not_lt_zero i)⟩, ⟨Nat.zero_le _, fun i hi => absurd hi (Nat.not_lt_zero i)⟩, fun s hs => Nat.zero_le _⟩, gp_start_kc, gp_start_km⟩
theorem gp_okk : ok_all gp_Inv := ⟨k_ok_type, k_ok_wipe, k_ok_undo, k_ok_fault, k_ok_car, k_ok_coming, k_ok_speed, k_ok_event, k_ok_back, k_ok_read, k_ok_at, k_ok_waits, k_ok_over, k_ok_sum, k_ok_crowd, k_ok_first, k_ok_carried, k_ok_idle, k_ok_left, k_ok_hang, k_ok_pace, k_ok_cheap, k_ok_spare, k_ok_seen, k_ok_forget, k_ok_never, k_ok_was, k_ok_ask, k_ok_chance, k_ok_years, k_ok_sheet, k_ok_lose, k_ok_put, k_ok_get, k_ok_copy, k_ok_write, k_ok_count, k_ok_digest⟩
