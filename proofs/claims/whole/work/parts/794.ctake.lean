/-! ===== text: lines taken, in the class ===== -/
theorem lf_nof {T : Nat → Nat} {n i w : Nat} {tm : Bool} (h : lft T n i w tm (0, 0) = (0, 0)) : tm = false ∧ nof T n i w := by
  have htm : tm = false := by
    cases tm
    · rfl
    · rw [lf_tm] at h; exact absurd (congrArg Prod.fst h) (by show ¬ 3 = 0; omega)
  rw [htm] at h
  have h1 : 1 ≤ nwd w → inR (tN T n (pj T n i 1)) (loW w) (hiW w) = true := fun z => by
    cases y : inR (tN T n (pj T n i 1)) (loW w) (hiW w)
    · rw [lf_1 z y] at h; exact absurd (congrArg Prod.fst h) (by show ¬ 2 = 0; omega)
    · rfl
  refine ⟨htm, h1, fun z => ?_⟩
  cases y : inR (tN T n (pj T n i 2)) (if w = 8 then tN T n (pj T n i 1) else 0) (h2W w)
  · rw [lf_2 h1 z y] at h; exact absurd (congrArg Prod.fst h) (by show ¬ 2 = 0; omega)
  · rfl
theorem nof1 {T : Nat → Nat} {n i w : Nat} (h : nof T n i w) (z : 1 ≤ nwd w) : loW w ≤ tN T n (pj T n i 1) ∧ tN T n (pj T n i 1) ≤ hiW w := of_decide_eq_true (h.1 z)
theorem nof2 {T : Nat → Nat} {n i w : Nat} (h : nof T n i w) (z : 2 ≤ nwd w) : (if w = 8 then tN T n (pj T n i 1) else 0) ≤ tN T n (pj T n i 2) ∧ tN T n (pj T n i 2) ≤ h2W w := of_decide_eq_true (h.2 z)
theorem ov_p {T : Nat → Nat} {n i w j : Nat} (h : j ≤ nwd w) : ov T n i w j = nI (tN T n (pj T n i j)) := if_pos h
theorem ov_n {T : Nat → Nat} {n i w j : Nat} (h : ¬ j ≤ nwd w) : ov T n i w j = -1 := if_neg h
theorem srow_n {w v1 v2 : Nat} {R : Nat → Int32} (h : w ≠ 2) (j : Nat) : srow w v1 v2 R j = if j = w then nI v1 else R j := if_neg h
theorem srow_2 {v1 v2 : Nat} {R : Nat → Int32} (j : Nat) : srow 2 v1 v2 R j = if j = 3 + v1 then nI v2 else if j = 2 then R 2 ||| ((1 : Int32) <<< (nI v1 &&& 31)) else R j := if_pos rfl
theorem c_takeS {T : Nat → Nat} {n i w p : Nat} {a : Mem} {R : Nat → Int32} (hw : w < 3) (hno : nof T n i w) (h : SRf (a p) (a (p + 1)) R) : ∃ a', fX7_take p (nI w) (ov T n i w 1) (ov T n i w 2) a = some a' ∧ SRf (a' p) (a' (p + 1)) (srow w (tN T n (pj T n i 1)) (tN T n (pj T n i 2)) R) ∧ ∀ m, m ≠ p → m ≠ p + 1 → a' m = a m := by
  obtain ⟨sp, wk, th, h1, h2, h3, h4, h5, h6, h7, h8, h9⟩ := h
  obtain ⟨q0, q1, q2, l0, l1, l2, u0, u1, u2, x2⟩ := store_w
  unfold fX7_take
  rcases (show w = 0 ∨ w = 1 ∨ w = 2 by omega) with rfl | rfl | rfl
  · have hin := nof1 hno (by omega)
    rw [l0, u0] at hin
    rw [if_pos (show nI 0 = 0 from rfl), ov_p (j := 1) (by omega)]
    generalize tN T n (pj T n i 1) = v1 at *
    refine ⟨_, rfl, ⟨v1, wk, th, hin, h2, h3, st2_eq _ _ _ _, ?_, ?_, ?_, ?_, fun k hk => ?_⟩, fun m m1 _ => st2_c _ _ m1⟩
    · rw [srow_n (by omega), if_pos rfl]
    · rw [st2_o _ _ (by omega)]; exact h6
    · rw [srow_n (by omega), if_neg (by omega)]; exact h7
    · rw [srow_n (by omega), if_neg (by omega)]; exact h8
    · have e : srow 0 v1 (tN T n (pj T n i 2)) R (3 + k) = R (3 + k) := by rw [srow_n (by omega), if_neg (by omega)]
      rw [e, st2_c _ _ (show ¬ p + 1 = p by omega)]; exact h9 k hk
  · have hin := nof1 hno (by omega)
    rw [l1, u1] at hin
    rw [if_neg (show ¬ nI 1 = 0 by decide), if_pos (show nI 1 = 1 from rfl), ov_p (j := 1) (by omega)]
    generalize tN T n (pj T n i 1) = v1 at *
    refine ⟨_, rfl, ⟨sp, v1, th, h1, hin, h3, ?_, ?_, st2_eq _ _ _ _, ?_, ?_, fun k hk => ?_⟩, fun m m1 _ => st2_c _ _ m1⟩
    · rw [st2_o _ _ (by omega)]; exact h4
    · rw [srow_n (by omega), if_neg (by omega)]; exact h5
    · rw [srow_n (by omega), if_pos rfl]
    · rw [srow_n (by omega), if_neg (by omega)]; exact h8
    · have e : srow 1 v1 (tN T n (pj T n i 2)) R (3 + k) = R (3 + k) := by rw [srow_n (by omega), if_neg (by omega)]
      rw [e, st2_c _ _ (show ¬ p + 1 = p by omega)]; exact h9 k hk
  · have hin := nof1 hno (by omega)
    have hin2 := (nof2 hno (by omega)).2
    rw [l2, u2] at hin
    rw [x2] at hin2
    rw [if_neg (show ¬ nI 2 = 0 by decide), if_neg (show ¬ nI 2 = 1 by decide), ov_p (j := 1) (by omega), ov_p (j := 2) (by omega)]
    generalize tN T n (pj T n i 1) = v1 at *
    generalize tN T n (pj T n i 2) = v2 at *
    rw [if_neg (nI_pos (show v1 < 2 ^ 31 by omega)), if_neg (show ¬ 10 ≤ nI v1 from fun q => absurd ((le_nn (a := 10) (by omega) (by omega)).mp q) (by omega)), inb_T (show v1 < 10 by omega) (by omega), gdT, nI_ck (by omega)]
    refine ⟨_, rfl, ⟨sp, wk, th ||| 2 ^ v1, h1, h2, or_lt h3 (by omega), ?_, ?_, ?_, ?_, ?_, fun k hk => ?_⟩, fun m _ m2 => st2_c _ _ m2⟩
    · rw [st2_c _ _ (show ¬ p = p + 1 by omega)]; exact h4
    · rw [srow_2, if_neg (by omega), if_neg (by omega)]; exact h5
    · rw [st2_c _ _ (show ¬ p = p + 1 by omega)]; exact h6
    · rw [srow_2, if_neg (by omega), if_neg (by omega)]; exact h7
    · rw [srow_2, if_neg (by omega), if_pos rfl, h8, sh1 (by omega), nI_or]
    · by_cases e : k = v1
      · subst e
        rw [if_pos (or_bit.mpr (Or.inr rfl))]
        exact ⟨v2, hin2, st2_eq _ _ _ _, by rw [srow_2, if_pos rfl]⟩
      · have er : srow 2 v1 v2 R (3 + k) = R (3 + k) := by rw [srow_2, if_neg (by omega), if_neg (by omega)]
        have et : (th ||| 2 ^ v1).testBit k = th.testBit k := by
          rw [Bool.eq_iff_iff, or_bit]
          exact ⟨fun q => q.elim id (fun z => absurd z e), Or.inl⟩
        rw [er, et, st2_o _ _ (show ¬ (p + 1 = p + 1 ∧ k = v1) from fun q => e q.2)]; exact h9 k hk
theorem c_takeD {T : Nat → Nat} {n i w p S : Nat} {a : Mem} {R R' : Nat → Int32} (hw : w = 17 ∨ w = 18) (hno : nof T n i w) (h : DRf (a p) (a (p + 1)) (a (p + 2)) R) (hS : R 0 = nI S) (h8 : S < 8) (e0 : R' 0 = nI (S + 1)) (e1 : R' (1 + 2 * S) = ov T n i w 1 ∧ R' (2 + 2 * S) = ov T n i w 2) (e2 : ∀ j, j ≠ 0 → ¬ (1 + 2 * S ≤ j ∧ j < 1 + 2 * S + 2) → R' j = R j) : ∃ a', fX1_take p (ov T n i w 1) (ov T n i w 2) a = some a' ∧ DRf (a' p) (a' (p + 1)) (a' (p + 2)) R' ∧ ∀ m, ¬ (p ≤ m ∧ m ≤ p + 2) → a' m = a m := by
  obtain ⟨S', h1, h2, h3, h4⟩ := h
  have eS : S' = S := (eq_nn (by omega) (by omega)).mp (h3.symm.trans hS)
  subst eS
  have hk : ∃ k, k ≤ 9 ∧ ov T n i w 1 = nI k := by
    have hN : nwd w = if w = 17 then 2 else 1 := by rcases hw with rfl | rfl <;> decide
    have hN1 : 1 ≤ nwd w := by rw [hN]; split <;> omega
    have hh : hiW w = 9 := by rcases hw with rfl | rfl <;> decide
    have := nof1 hno hN1
    exact ⟨_, by omega, ov_p hN1⟩
  have hv : ov T n i w 2 = -1 ∨ ∃ x, x ≤ 99 ∧ ov T n i w 2 = nI x := by
    rcases hw with rfl | rfl
    · have hN : nwd 17 = 2 := by decide
      have hh : h2W 17 = 99 := by decide
      have := (nof2 hno (by omega)).2
      exact Or.inr ⟨_, by omega, ov_p (by omega)⟩
    · exact Or.inl (ov_n (by decide))
  obtain ⟨k, k1, k2⟩ := hk
  generalize ov T n i w 1 = o1 at *
  generalize ov T n i w 2 = o2 at *
  unfold fX1_take
  rw [h2, if_neg (show ¬ 8 ≤ nI S' from fun q => absurd ((le_nn (a := 8) (by omega) (by omega)).mp q) (by omega)), inb_T h8 (by omega), gdT, st2_o _ _ (show ¬ (p = p + 1 ∧ 0 = Int32.toNatClampNeg (nI S')) by omega), h2, inb_T h8 (by omega), gdT, bq, nI_ck (by omega), st2_o _ _ (show ¬ (p = p + 2 ∧ 0 = S') by omega), st2_o _ _ (show ¬ (p = p + 1 ∧ 0 = S') by omega), h2, nI_1]
  refine ⟨_, rfl, ⟨S' + 1, by omega, st2_eq _ _ _ _, e0, fun j hj => ?_⟩, fun m hm => by rw [st2_c _ _ (by omega), st2_c _ _ (by omega), st2_c _ _ (by omega)]⟩
  by_cases e : j = S'
  · subst e
    refine ⟨k, k1, ?_, e1.1.trans k2, ?_, ?_⟩
    · rw [st2_o _ _ (by omega), st2_o _ _ (by omega), st2_eq]; exact k2
    · rw [st2_o _ _ (by omega), st2_eq]; exact e1.2
    · rw [st2_o _ _ (by omega), st2_eq]; exact hv
  · obtain ⟨k', g1, g2, g3, g4, g5⟩ := h4 j (by omega)
    refine ⟨k', g1, ?_, ?_, ?_, ?_⟩
    · rw [st2_o _ _ (by omega), st2_o _ _ (by omega), st2_o _ _ (by omega)]; exact g2
    · rw [e2 _ (by omega) (by omega)]; exact g3
    · rw [e2 _ (by omega) (by omega), st2_o _ _ (by omega), st2_o _ _ (by omega), st2_o _ _ (by omega)]; exact g4
    · rw [st2_o _ _ (by omega), st2_o _ _ (by omega), st2_o _ _ (by omega)]; exact g5
theorem c_takeP {T : Nat → Nat} {n i w p S : Nat} {a : Mem} {R R' : Nat → Int32} (w1 : 10 ≤ w) (w2 : w < 17) (hno : nof T n i w) (h : PRf (a p) (a (p + 1)) (a (p + 2)) (a (p + 3)) R) (hS : R 0 = nI S) (h8 : S < 40) (e0 : R' 0 = nI (S + 1)) (e1 : R' (1 + 3 * S) = nI (w - 10) ∧ R' (2 + 3 * S) = ov T n i w 1 ∧ R' (3 + 3 * S) = ov T n i w 2) (e2 : ∀ j, j ≠ 0 → ¬ (1 + 3 * S ≤ j ∧ j < 1 + 3 * S + 3) → R' j = R j) : ∃ a', fX4_take p (nI w) (ov T n i w 1) (ov T n i w 2) a = some a' ∧ PRf (a' p) (a' (p + 1)) (a' (p + 2)) (a' (p + 3)) R' ∧ ∀ m, ¬ (p ≤ m ∧ m ≤ p + 3) → a' m = a m := by
  obtain ⟨S', h1, h2, h3, h4⟩ := h
  have eS : S' = S := (eq_nn (by omega) (by omega)).mp (h3.symm.trans hS)
  subst eS
  obtain ⟨pN, pH⟩ := plan_w w w2 w1
  have hd : deedOK (w - 10) (ov T n i w 1) (ov T n i w 2) := by
    refine ⟨by omega, fun z => ov_n ?_, fun z => ?_, fun z => ov_n ?_, fun z => ?_⟩
    · rw [pN, if_pos (by omega)]; omega
    · have hN : 1 ≤ nwd w := by rw [pN, if_neg (by omega)]; split <;> omega
      have := nof1 hno hN
      have := pH (by omega)
      exact ⟨_, by omega, ov_p hN⟩
    · rw [pN]; split
      · omega
      · rw [if_pos (by omega)]; omega
    · have hN : 2 ≤ nwd w := by rw [pN, if_neg (by omega), if_neg (by omega)]; omega
      have hh : h2W w = 6 := by rw [show w = 16 by omega]; decide
      have := (nof2 hno hN).2
      exact ⟨_, by omega, ov_p hN⟩
  generalize ov T n i w 1 = o1 at *
  generalize ov T n i w 2 = o2 at *
  unfold fX4_take
  rw [h2, if_neg (show ¬ 40 ≤ nI S' from fun q => absurd ((le_nn (a := 40) (by omega) (by omega)).mp q) (by omega)), inb_T h8 (by omega), gdT, st2_o _ _ (show ¬ (p = p + 1 ∧ 0 = Int32.toNatClampNeg (nI S')) by omega), h2, inb_T h8 (by omega), gdT, bq, nI_ck (by omega), show (10 : Int32) = nI 10 from rfl, nI_sub w1]
  generalize hc : st2 (st2 a (p + 1) S' (nI (w - 10))) (p + 2) S' o1 = c
  have c0 : c p 0 = nI S' := by rw [← hc, st2_o _ _ (by omega), st2_o _ _ (by omega)]; exact h2
  rw [c0, inb_T h8 (by omega), gdT, nI_ck (by omega), st2_o _ _ (show ¬ (p = p + 3 ∧ 0 = S') by omega), c0, nI_1]
  refine ⟨_, rfl, ⟨S' + 1, by omega, st2_eq _ _ _ _, e0, fun j hj => ?_⟩, fun m hm => by rw [st2_c _ _ (by omega), st2_c _ _ (by omega), ← hc, st2_c _ _ (by omega), st2_c _ _ (by omega)]⟩
  rw [st2_o _ _ (show ¬ (p + 1 = p ∧ j = 0) by omega), st2_o _ _ (show ¬ (p + 1 = p + 3 ∧ j = S') by omega), st2_o _ _ (show ¬ (p + 2 = p ∧ j = 0) by omega), st2_o _ _ (show ¬ (p + 2 = p + 3 ∧ j = S') by omega), st2_o _ _ (show ¬ (p + 3 = p ∧ j = 0) by omega), ← hc, st2_o _ _ (show ¬ (p + 1 = p + 2 ∧ j = S') by omega)]
  by_cases e : j = S'
  · subst e
    rw [st2_eq, st2_eq, st2_eq]
    exact ⟨w - 10, hd, rfl, e1.1, e1.2.1, e1.2.2⟩
  · rw [st2_o _ _ (show ¬ (p + 1 = p + 1 ∧ j = S') by omega), st2_o _ _ (show ¬ (p + 2 = p + 2 ∧ j = S') by omega), st2_o _ _ (show ¬ (p + 3 = p + 3 ∧ j = S') by omega), st2_o _ _ (show ¬ (p + 2 = p + 1 ∧ j = S') by omega), st2_o _ _ (show ¬ (p + 3 = p + 2 ∧ j = S') by omega), st2_o _ _ (show ¬ (p + 3 = p + 1 ∧ j = S') by omega), e2 _ (by omega) (by omega), e2 _ (by omega) (by omega), e2 _ (by omega) (by omega)]
    exact h4 j (by omega)
