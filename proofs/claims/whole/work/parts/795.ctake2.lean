/-! ===== text: lines of tasks taken, in the class ===== -/
theorem c_takeT {p t : Nat} {a : Mem} {R R' : Nat → Int32} {x2 x3 : Int32} (h : BRf (a p) (a (p + 1)) (a (p + 2)) (a (p + 3)) (a (p + 4)) R) (h0 : R 0 = nI t) (h7 : t < 7) (hz : R (1 + 19 * t) = nI 0) (e0 : R' 0 = nI (t + 1)) (e2 : ∀ j, j ≠ 0 → R' j = R j) : ∃ a', fX8_take p (nI 9) x2 x3 a = some a' ∧ BRf (a' p) (a' (p + 1)) (a' (p + 2)) (a' (p + 3)) (a' (p + 4)) R' ∧ ∀ m, ¬ (p ≤ m ∧ m ≤ p + 4) → a' m = a m := by
  obtain ⟨T', h1, h2, h3, h4⟩ := h
  have eS : T' = t := (eq_nn (by omega) (by omega)).mp (h3.symm.trans h0)
  subst eS
  unfold fX8_take
  rw [if_pos (show nI 9 = 9 from rfl), h2, if_neg (show ¬ 7 ≤ nI T' from fun q => absurd ((le_nn (a := 7) (by omega) (by omega)).mp q) (by omega)), inb_T h7 (by omega), gdT, nI_ck (by omega), st2_o _ _ (show ¬ (p = p + 1 ∧ 0 = T') by omega), h2, nI_1]
  generalize hc : st2 (st2 a (p + 1) T' 0) p 0 (nI (T' + 1)) = c
  have c0 : c p 0 = nI (T' + 1) := by rw [← hc, st2_eq]
  have c1 : c (p + 1) T' = nI 0 := by rw [← hc, st2_o _ _ (by omega), st2_eq]; rfl
  have c1' : ∀ v, v ≠ T' → c (p + 1) v = a (p + 1) v := fun v hv => by rw [← hc, st2_o _ _ (by omega), st2_o _ _ (by omega)]
  have cm : ∀ m, m ≠ p → m ≠ p + 1 → c m = a m := fun m m1 m2 => by rw [← hc, st2_c _ _ m1, st2_c _ _ m2]
  refine ⟨c, rfl, ⟨T' + 1, by omega, c0, e0, fun v hv => ?_⟩, fun m hm => cm m (by omega) (by omega)⟩
  rw [cm (p + 2) (by omega) (by omega), cm (p + 3) (by omega) (by omega), cm (p + 4) (by omega) (by omega)]
  by_cases e : v = T'
  · rw [e]
    exact ⟨0, by omega, c1, by rw [e2 _ (by omega)]; exact hz, fun j hj => absurd hj (by omega)⟩
  · obtain ⟨S, g1, g2, g3, g4⟩ := h4 v (by omega)
    refine ⟨S, g1, by rw [c1' v e]; exact g2, by rw [e2 _ (by omega)]; exact g3, fun j hj => ?_⟩
    rw [e2 _ (by omega), e2 _ (by omega), e2 _ (by omega)]
    exact g4 j hj
theorem stepOK_w {T : Nat → Nat} {n i w : Nat} (w1 : 3 ≤ w) (w2 : w < 9) (hno : nof T n i w) : stepOK (w - 3) (tN T n (pj T n i 1)) (ov T n i w 2) ∧ ov T n i w 1 = nI (tN T n (pj T n i 1)) := by
  obtain ⟨sN, sl, sh, s2⟩ := step_w w w2 w1
  have hN1 : 1 ≤ nwd w := by rw [sN]; split <;> omega
  have k1 := nof1 hno hN1
  refine ⟨⟨by omega, by omega, fun z => ov_n ?_, fun z => ?_, fun z => ?_⟩, ov_p hN1⟩
  · rw [sN, if_pos (by omega)]; omega
  · have hN : 2 ≤ nwd w := by rw [sN, if_neg (by omega)]; omega
    have k2 := (nof2 hno hN).2
    have k3 := s2 (by omega)
    rw [if_neg (by omega)] at k3
    exact ⟨_, by omega, ov_p hN⟩
  · have hN : 2 ≤ nwd w := by rw [sN, if_neg (by omega)]; omega
    have k2 := nof2 hno hN
    have k3 := s2 (by omega)
    rw [if_pos (by omega)] at k3 k2
    exact ⟨_, k2.1, by omega, ov_p hN⟩
theorem c_takeK {T : Nat → Nat} {n i w p q S : Nat} {a : Mem} {R R' : Nat → Int32} (w1 : 3 ≤ w) (w2 : w < 9) (hno : nof T n i w) (h : BRf (a p) (a (p + 1)) (a (p + 2)) (a (p + 3)) (a (p + 4)) R) (h0 : R 0 = nI (q + 1)) (h7 : q < 7) (hS : R (1 + 19 * q) = nI S) (h6 : S < 6) (e0 : R' (1 + 19 * q) = nI (S + 1)) (e1 : R' (1 + 19 * q + 1 + 3 * S) = nI (w - 3) ∧ R' (1 + 19 * q + 2 + 3 * S) = ov T n i w 1 ∧ R' (1 + 19 * q + 3 + 3 * S) = ov T n i w 2) (e2 : ∀ j, j ≠ 1 + 19 * q → ¬ (1 + 19 * q + 1 + 3 * S ≤ j ∧ j ≤ 1 + 19 * q + 3 + 3 * S) → R' j = R j) : ∃ a', fX8_take p (nI w) (ov T n i w 1) (ov T n i w 2) a = some a' ∧ BRf (a' p) (a' (p + 1)) (a' (p + 2)) (a' (p + 3)) (a' (p + 4)) R' ∧ ∀ m, ¬ (p ≤ m ∧ m ≤ p + 4) → a' m = a m := by
  obtain ⟨T', h1, h2, h3, h4⟩ := h
  have eT : T' = q + 1 := (eq_nn (by omega) (by omega)).mp (h3.symm.trans h0)
  subst eT
  obtain ⟨S2, g1, g2, g3, g4⟩ := h4 q (by omega)
  have eS : S2 = S := (eq_nn (by omega) (by omega)).mp (g3.symm.trans hS)
  subst eS
  obtain ⟨hst, hk⟩ := stepOK_w w1 w2 hno
  have hq1 : nI (q + 1) - 1 = nI q := (vI_m (u := q + 1)).trans (vI_s q)
  have hy : nI q * 6 + nI S2 = nI (q * 6 + S2) := by rw [show (6 : Int32) = nI 6 from rfl, pk_mul, nI_add]
  have hw3 : nI w - 3 = nI (w - 3) := by rw [show (3 : Int32) = nI 3 from rfl, nI_sub w1]
  generalize tN T n (pj T n i 1) = v1 at *
  generalize ov T n i w 1 = o1 at *
  generalize ov T n i w 2 = o2 at *
  unfold fX8_take
  rw [if_neg (show ¬ nI w = 9 from lit_ne (m := 9) (by omega) (by omega) (by omega)), h2, hq1, if_neg (nI_pos (show q < 2 ^ 31 by omega)), inb_T h7 (by omega), gdT, nI_ck (show q < 2147483648 by omega), g2, if_pos (show nI S2 < 6 from (lt_nn (b := 6) (by omega) (by omega)).mpr h6), gdT, hy, bq, inb_T (show q * 6 + S2 < 42 by omega) (by omega), gdT, gdT, gdT, gdT, gdT, bq, nI_ck (show q * 6 + S2 < 2147483648 by omega), hw3]
  generalize hc : st2 (st2 (st2 a (p + 2) (q * 6 + S2) (nI (w - 3))) (p + 3) (q * 6 + S2) o1) (p + 4) (q * 6 + S2) o2 = c
  have c1 : ∀ m, m ≠ p + 2 → m ≠ p + 3 → m ≠ p + 4 → c m = a m := fun m m1 m2 m3 => by rw [← hc, st2_c _ _ m3, st2_c _ _ m2, st2_c _ _ m1]
  have c2 : c (p + 2) (q * 6 + S2) = nI (w - 3) := by rw [← hc, st2_o _ _ (by omega), st2_o _ _ (by omega), st2_eq]
  have c3 : c (p + 3) (q * 6 + S2) = o1 := by rw [← hc, st2_o _ _ (by omega), st2_eq]
  have c4 : c (p + 4) (q * 6 + S2) = o2 := by rw [← hc, st2_eq]
  have co : ∀ m j, j ≠ q * 6 + S2 → c m j = a m j := fun m j hj => by rw [← hc, st2_o _ _ (by omega), st2_o _ _ (by omega), st2_o _ _ (by omega)]
  rw [show c (p + 1) q = nI S2 by rw [c1 _ (by omega) (by omega) (by omega)]; exact g2, nI_1]
  generalize hd : st2 c (p + 1) q (nI (S2 + 1)) = d
  have d1 : d (p + 1) q = nI (S2 + 1) := by rw [← hd, st2_eq]
  have d1' : ∀ v, v ≠ q → d (p + 1) v = a (p + 1) v := fun v hv => by rw [← hd, st2_o _ _ (by omega), c1 _ (by omega) (by omega) (by omega)]
  have dm : ∀ m, m ≠ p + 1 → d m = c m := fun m m1 => by rw [← hd, st2_c _ _ m1]
  refine ⟨d, rfl, ⟨q + 1, h1, ?_, ?_, fun v hv => ?_⟩, fun m hm => by rw [dm m (by omega), c1 m (by omega) (by omega) (by omega)]⟩
  · rw [dm p (by omega), c1 p (by omega) (by omega) (by omega)]; exact h2
  · rw [e2 0 (by omega) (by omega)]; exact h3
  · rw [dm (p + 2) (by omega), dm (p + 3) (by omega), dm (p + 4) (by omega)]
    by_cases e : v = q
    · subst e
      refine ⟨S2 + 1, by omega, d1, e0, fun j hj => ?_⟩
      by_cases ej : j = S2
      · subst ej
        rw [show 6 * v + j = v * 6 + j by omega, c2, c3, c4, e1.1, e1.2.1, e1.2.2]
        exact ⟨w - 3, v1, hst, rfl, hk, rfl, hk, rfl⟩
      · rw [co _ _ (by omega), co _ _ (by omega), co _ _ (by omega), e2 _ (by omega) (by omega), e2 _ (by omega) (by omega), e2 _ (by omega) (by omega)]
        exact g4 j (by omega)
    · obtain ⟨S, k1, k2, k3, k4⟩ := h4 v hv
      refine ⟨S, k1, by rw [d1' v e]; exact k2, by rw [e2 _ (by omega) (by omega)]; exact k3, fun j hj => ?_⟩
      rw [co _ _ (by omega), co _ _ (by omega), co _ _ (by omega), e2 _ (by omega) (by omega), e2 _ (by omega) (by omega), e2 _ (by omega) (by omega)]
      exact k4 j hj
