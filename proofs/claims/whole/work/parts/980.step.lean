theorem inv_ini : INV ini := sorry
theorem inv_step : LSTEP INV := sorry
