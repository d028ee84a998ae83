/-! ===== the beginning and a step ===== -/
theorem ini_z {n : Nat} (k : Nat) (h1 : kd n ≠ 9) (h2 : kd n ≠ 7) (h3 : ¬ (kd n = 14 ∧ kd (n - 1) = 7)) (h4 : n ≠ 146) (h5 : n ≠ 235) (h6 : n ≠ 273) : ini n k = 0 := by
  unfold ini
  rw [if_neg (fun q => h1 q.1), if_neg (fun q => h2 q.1), if_neg h3, if_neg (fun q => h4 q.1), if_neg (fun q => h4 q.1), if_neg h5, if_neg (fun q => h6 q.1)]
theorem ini_2 (k : Nat) : ini 2 k = 0 := ini_z k (by decide +kernel) (by decide +kernel) (by decide +kernel) (by decide) (by decide) (by decide)
theorem ini_3 (k : Nat) : ini 3 k = 0 := ini_z k (by decide +kernel) (by decide +kernel) (by decide +kernel) (by decide) (by decide) (by decide)
theorem ini_142 (k : Nat) : ini 142 k = 0 := ini_z k (by decide +kernel) (by decide +kernel) (by decide +kernel) (by decide) (by decide) (by decide)
theorem ini_270 (k : Nat) : ini 270 k = 0 := ini_z k (by decide +kernel) (by decide +kernel) (by decide +kernel) (by decide) (by decide) (by decide)
theorem ini_271 (k : Nat) : ini 271 k = 0 := ini_z k (by decide +kernel) (by decide +kernel) (by decide +kernel) (by decide) (by decide) (by decide)
theorem ini_272 (k : Nat) : ini 272 k = 0 := ini_z k (by decide +kernel) (by decide +kernel) (by decide +kernel) (by decide) (by decide) (by decide)
theorem ini_274 (k : Nat) : ini 274 k = 0 := ini_z k (by decide +kernel) (by decide +kernel) (by decide +kernel) (by decide) (by decide) (by decide)
theorem ini_313 (k : Nat) : ini 313 k = 0 := ini_z k (by decide +kernel) (by decide +kernel) (by decide +kernel) (by decide) (by decide) (by decide)
theorem nlt0 {k : Nat} (hk : k < 2) {x : Int32} (hx : x = 0) (h : nI k < x) {P : Prop} : P := by
  rw [hx] at h
  exact absurd h (nI_pos (by omega))
theorem inv_ini : INV ini := by
  refine ⟨⟨⟨0, by omega, by decide +kernel, by decide +kernel⟩, fun i hi => ⟨?_, ?_⟩, by decide +kernel, by decide +kernel, fun j hj => ⟨0, by omega, ini_3 j, ini_274 _⟩, fun k hk h => nlt0 hk (ini_3 0) h, fun k hk h => nlt0 hk (ini_3 1) h, fun k hk h => nlt0 hk (ini_3 2) h, fun k hk h => nlt0 hk (ini_3 3) h⟩, fun j hj => ⟨?_, Or.inl (ini_142 j)⟩⟩
  · rw [show ini (1 + 1) i = 0 from ini_2 i]
    unfold isByt
    decide
  · rw [ini_270, show ini (1 + 1) i = 0 from ini_2 i]
  · rw [ini_313, ini_142]
theorem inv_step : LSTEP INV := ⟨fun a0 a1 a2 a3 a4 _ h => (p_feed a0 a1 a2 a3 a4).step h, fun a0 _ h => (p_end a0).step h, fun a0 a1 _ h => (p_text a0 a1).step h, fun a0 _ h => (p_fault a0).step h, fun a0 a1 _ h => (p_store a0 a1).step h, fun a0 a1 a2 _ h => (p_task a0 a1 a2).step h, fun a0 a1 a2 _ h => (p_deed a0 a1 a2).step h, fun a0 a1 a2 _ h => (p_stop a0 a1 a2).step h, fun a0 a1 a2 a3 a4 _ h => (p_state a0 a1 a2 a3 a4).step h, fun a0 a1 a2 a3 a4 _ h => (p_why a0 a1 a2 a3 a4).step h, fun a0 a1 a2 a3 _ h => (p_serial a0 a1 a2 a3).step h, fun a0 a1 a2 _ h => (p_fact a0 a1 a2).step h, fun a0 a1 a2 a3 a4 _ h => (p_fits a0 a1 a2 a3 a4).step h, fun a0 a1 a2 a3 a4 _ h => (p_drawn a0 a1 a2 a3 a4).step h, fun a0 a1 a2 _ h => (p_keys a0 a1 a2).step h, fun a0 a1 _ h => (p_free a0 a1).step h, fun a0 a1 a2 a3 _ h => (p_alone a0 a1 a2 a3).step h, fun a0 a1 _ h => (p_swaps a0 a1).step h, fun a0 a1 a2 a3 a4 _ h => (p_weave a0 a1 a2 a3 a4).step h, fun a0 a1 a2 _ h => (p_risk a0 a1 a2).step h, fun a0 a1 a2 a3 _ h => (p_after a0 a1 a2 a3).step h, fun a0 _ h => (p_count a0).step h, fun a0 _ h => (p_image a0).step h, fun a0 _ h => (p_again a0).step h⟩
