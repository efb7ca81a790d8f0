theorem ckco_301 : ck_CO ckcn_301 := sorry
theorem ckco_302 : ck_CO ckcn_302 := sorry
theorem ckco_305 : ck_CO ckcn_305 := sorry
theorem ckco_306 : ck_CO ckcn_306 := sorry
