/-! ===== the easy calls: fault, count, end ===== -/
theorem cd_M {b : Mem} : frM b (st2 b 269 0 0) ∧ tM b (st2 b 269 0 0) := ⟨frM.st 0 0 (by omega), tM.st 0 0 (by omega)⟩
theorem p_fault (x : Int32) : PAIR (fX11_fault x) (fX12_fault x) := PAIR.q (fun a b hR => by
  obtain ⟨q1, q2, q3, q4, -⟩ := hR.1
  unfold fX11_fault fX12_fault
  rw [st2_nc b 0 0 0 (by decide), st2_nc b 0 0 0 (by decide), q3, q4]
  by_cases h : x = 0
  · rw [if_pos h, if_pos h]; exact ⟨_, _, _, rfl, rfl, frC.rf, cd_M.1, tC.rf, cd_M.2⟩
  · rw [if_neg h, if_neg h]
    by_cases h2 : x = 1
    · rw [if_pos h2, if_pos h2]; exact ⟨_, _, _, rfl, rfl, frC.rf, cd_M.1, tC.rf, cd_M.2⟩
    · rw [if_neg h2, if_neg h2]; exact ⟨_, _, _, rfl, rfl, frC.rf, cd_M.1, tC.rf, cd_M.2⟩)
theorem f_in (x l h : Int32) (σ : Mem) : fX12_in x l h σ = some (decide (¬ x < l ∧ ¬ h < x), σ) := by
  unfold fX12_in
  by_cases h1 : x < l
  · rw [if_pos h1]; simp [h1]
  · rw [if_neg h1]
    by_cases h2 : h < x
    · rw [if_pos h2]; simp [h2]
    · rw [if_neg h2]; simp [h1, h2]
theorem p_count (x : Int32) : PAIR (fX11_count x) (fX12_count x) := PAIR.q (fun a b hR => by
  obtain ⟨q1, q2, q3, q4, q5, -⟩ := hR.1
  unfold fX11_count fX12_count
  rw [f_in, bq]
  dsimp only
  rcases pk_ix x (n := 4) (by decide) with h | h | ⟨j, hj, rfl⟩
  · rw [if_pos h, if_neg (by simp [h])]; exact ⟨_, _, _, rfl, rfl, frC.rf, cd_M.1, tC.rf, cd_M.2⟩
  · have h4 : (4 : Int32) ≤ x := h
    have h3 : (3 : Int32) < x := Int32.lt_of_lt_of_le (by decide) h4
    have h0 : ¬ x < 0 := fun z => absurd (Int32.lt_of_lt_of_le z (Int32.le_trans (show (0 : Int32) ≤ 4 by decide) h4)) (Int32.lt_irrefl)
    rw [if_neg h0, if_pos h4, if_neg (by simp [h3])]; exact ⟨_, _, _, rfl, rfl, frC.rf, cd_M.1, tC.rf, cd_M.2⟩
  · obtain ⟨n, hn, e1, e2⟩ := q5 j hj
    have h0 : ¬ nI j < 0 := nI_pos (by omega)
    have h4 : ¬ (4 : Int32) ≤ nI j := nI_ge (a := j) (b := 4) hj (by decide)
    have h3 : ¬ (3 : Int32) < nI j := nI_nlt (a := 3) (b := j) (by omega) (by decide)
    rw [if_neg h0, if_neg h4, if_pos (by simp [h0, h3]), inb_nI hj (by decide), inb_nI (N := 16) (by omega) (by decide), gdT, gdT, cl_nI (by omega), st2_nc b 0 0 j (by decide), e1]
    rw [show 4 * 0 + j = j by omega] at e2
    rw [e2]
    exact ⟨_, _, _, rfl, rfl, frC.rf, cd_M.1, tC.rf, cd_M.2⟩)
