def gp_Inv (_ : gk_St) : Prop := True
theorem gp_ok : ok_all gp_Inv := sorry
theorem gp_start : gp_Inv gk_mu0 := trivial
