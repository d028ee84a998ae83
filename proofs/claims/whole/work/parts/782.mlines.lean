/-! ===== text: one line after another, in the reference ===== -/
theorem m_itE {b : Mem} {T : Nat → Nat} {n i g : Nat} {x : Int32} (hM : MK b T n (pj T n i 0)) (h : tK T n (pj T n i 0) = 0) : lX12_allLines_2 x (g + 1) true b = some (true, b) := by
  rw [lX12_allLines_2, if_pos rfl, if_pos (by rw [hM.2.2.1, h]; rfl)]
/-- the head of a round -/
theorem m_itH {b : Mem} {T : Nat → Nat} {n i g : Nat} {x : Int32} (hM : MK b T n (pj T n i 0)) (h : tK T n (pj T n i 0) ≠ 0) : lX12_allLines_2 x (g + 1) true b = (fX12_lineOf x (cdM b) (nI (pj T n i 0)) (st2 b 269 21 1)).bind fun q5 => (if q5.1 = true then (if (q5.2 269 13) = 4 then (some (q5.1, q5.2)) else ((fX12_fails q5.2).bind fun q8 => some (q8.1, q8.2))) else (some (q5.1, q5.2)) : Option (Bool × Mem)).bind fun q10 => (if (q10.1) = true then ((fX12_token (q10.2)).bind fun q12 => some q12) else (some (q10.2)) : Option (Mem)).bind fun q14 => lX12_allLines_2 x g (q10.1) q14 := by
  have hk := tK_lt (T := T) (n := n) (p := pj T n i 0)
  have hq : ((if (b 269 13) = 2 then (some (lgJ (b 269 15) (b 269 1015))) else (some 0)) : Option Int64) = some (cdM b) := by
    unfold cdM wdM
    by_cases z : b 269 13 = 2
    · rw [if_pos z, if_pos z]
    · rw [if_neg z, if_neg z]
  rw [lX12_allLines_2, if_pos rfl, if_neg (by rw [hM.2.2.1]; exact ne0 h (by omega)), hq, bq, hM.2.1]
theorem m_itF {b b1 : Mem} {T : Nat → Nat} {n i g : Nat} {x : Int32} (hM : MK b T n (pj T n i 0)) (h : tK T n (pj T n i 0) ≠ 0) (hl : fX12_lineOf x (cdM b) (nI (pj T n i 0)) (st2 b 269 21 1) = some (false, b1)) : lX12_allLines_2 x (g + 2) true b = some (false, b1) := by
  rw [m_itH hM h, hl, bq]
  dsimp only
  rw [if_neg (by decide), bq]
  dsimp only
  rw [if_neg (by decide), bq, lX12_allLines_2, if_neg (by decide)]
theorem m_itM {b b1 : Mem} {T : Nat → Nat} {n i p g : Nat} {x : Int32} (hM : MK b T n (pj T n i 0)) (h : tK T n (pj T n i 0) ≠ 0) (hl : fX12_lineOf x (cdM b) (nI (pj T n i 0)) (st2 b 269 21 1) = some (true, b1)) (hM1 : MK b1 T n p) (h4 : tK T n p ≠ 4) : lX12_allLines_2 x (g + 2) true b = some (false, st2 b1 269 16 (nI p)) := by
  have hk := tK_lt (T := T) (n := n) (p := p)
  rw [m_itH hM h, hl, bq]
  dsimp only
  unfold fX12_fails
  rw [if_pos (show true = true from rfl), if_neg (show ¬ b1 269 13 = 4 by rw [hM1.2.2.1]; exact lit_ne (m := 4) h4 (by omega) (by omega)), bq, bq]
  dsimp only
  rw [if_neg (by decide), bq, lX12_allLines_2, if_neg (by decide), hM1.2.1]
theorem m_itT {b b1 : Mem} {T : Nat → Nat} {n i p g : Nat} {x : Int32} (oT : okT T) (hn : n ≤ 600) (hp : p ≤ n) (hM : MK b T n (pj T n i 0)) (h : tK T n (pj T n i 0) ≠ 0) (hl : fX12_lineOf x (cdM b) (nI (pj T n i 0)) (st2 b 269 21 1) = some (true, b1)) (hM1 : MK b1 T n p) (h4 : tK T n p = 4) : ∃ b2, lX12_allLines_2 x (g + 1) true b = lX12_allLines_2 x g true b2 ∧ MK b2 T n (pj T n (tE T n p) 0) ∧ frm jT b1 b2 := by
  obtain ⟨b2', t1, t2, t3⟩ := m_tok oT hn (tE_le hp).2.1 hM1.1
  refine ⟨b2', ?_, t2, t3⟩
  rw [m_itH hM h, hl, bq]
  dsimp only
  rw [if_pos (show true = true from rfl), if_pos (show b1 269 13 = 4 by rw [hM1.2.2.1, h4]; rfl), bq]
  dsimp only
  rw [if_pos (show true = true from rfl), t1, bq, bq]
/-! counters of the reference: tasks told, the task at work, lines -/
def CN (s : Nat) (b : Mem) (t u S : Nat) : Prop := (s = 1 → t ≤ 7 ∧ u ≤ 8 ∧ b 279 0 = nI t ∧ b 269 22 = nI u ∧ (1 ≤ u → u ≤ 7 → b 279 (1 + 19 * (u - 1)) = nI S ∧ S ≤ 6) ∧ ∀ v, v < 7 → ∃ R, R ≤ 6 ∧ b 279 (1 + 19 * v) = nI R) ∧ (s = 2 → b 279 0 = nI S ∧ S ≤ 40) ∧ (s = 3 → b 279 0 = nI S ∧ S ≤ 8)
/-- is the line one too many -/
def tmF (s w t u S : Nat) : Bool := if s = 0 then false else if s = 1 then (if w = 9 then !decide (t < 7) else tmS u S) else if s = 2 then !decide (S < 40) else !decide (S < 8)
theorem lineOf_0 {b : Mem} {c : Int64} {p : Int32} : fX12_lineOf (nI 0) c p b = fX12_storeLine c b := by
  unfold fX12_lineOf; rw [if_pos (show nI 0 = 0 from rfl)]; exact bse _
theorem lineOf_1 {b : Mem} {c : Int64} {p : Int32} : fX12_lineOf (nI 1) c p b = fX12_bookLine c p b := by
  unfold fX12_lineOf; rw [if_neg (by decide), if_pos (show nI 1 = 1 from rfl)]; exact bse _
theorem lineOf_2 {b : Mem} {c : Int64} {p : Int32} : fX12_lineOf (nI 2) c p b = fX12_planLine c p b := by
  unfold fX12_lineOf; rw [if_neg (by decide), if_neg (by decide), if_pos (show nI 2 = 2 from rfl)]; exact bse _
theorem lineOf_3 {b : Mem} {c : Int64} {p : Int32} : fX12_lineOf (nI 3) c p b = fX12_diaryLine c p b := by
  unfold fX12_lineOf; rw [if_neg (by decide), if_neg (by decide), if_neg (by decide)]; exact bse _
/-- a first token that is no word of the sort -/
theorem m_none {b : Mem} {T : Nat → Nat} {n s i : Nat} (oT : okT T) (hi : i ≤ n) (hM : MK b T n (pj T n i 0)) (hs : s < 4) (h : wrd T n s i = 0) : fX12_lineOf (nI s) (cdM b) (nI (pj T n i 0)) (st2 b 269 21 1) = some (false, st2 (st2 b 269 21 1) 269 16 (nI (pj T n i 0))) := by
  have hne := (m_code oT hi hM hs).2 h
  obtain ⟨v0, v1, v2, v3, v4, v5, v6, v7, v8, v9, v10, v11, v12, v13, v14, v15, v16, v17, v18⟩ := KW_v
  have e12 : (st2 b 269 21 1) 269 12 = nI (pj T n i 0) := by rw [st2_o _ _ (by omega)]; exact hM.2.1
  rcases (show s = 0 ∨ s = 1 ∨ s = 2 ∨ s = 3 by omega) with rfl | rfl | rfl | rfl
  · rw [lineOf_0]
    unfold fX12_storeLine fX12_fails
    rw [← v0, ← v1, ← v2, if_neg (hne 0 (by decide) (by decide)), if_neg (hne 1 (by decide) (by decide)), if_neg (hne 2 (by decide) (by decide)), bq, e12]
  · rw [lineOf_1]
    unfold fX12_bookLine fX12_fails fX12_stepBy
    rw [← v3, ← v4, ← v5, ← v6, ← v7, ← v8, ← v9, if_neg (hne 3 (by decide) (by decide)), if_neg (hne 4 (by decide) (by decide)), if_neg (hne 5 (by decide) (by decide)), if_neg (hne 6 (by decide) (by decide)), if_neg (hne 7 (by decide) (by decide)), if_neg (hne 8 (by decide) (by decide)), bq]
    dsimp only
    rw [if_neg (hne 9 (by decide) (by decide)), if_pos rfl, bq, e12]
  · rw [lineOf_2]
    unfold fX12_planLine fX12_fails fX12_deedBy
    rw [← v10, ← v11, ← v12, ← v13, ← v14, ← v15, ← v16, if_neg (hne 10 (by decide) (by decide)), if_neg (hne 11 (by decide) (by decide)), if_neg (hne 12 (by decide) (by decide)), if_neg (hne 13 (by decide) (by decide)), if_neg (hne 14 (by decide) (by decide)), if_neg (hne 15 (by decide) (by decide)), if_neg (hne 16 (by decide) (by decide)), bq]
    dsimp only
    rw [if_pos rfl, bq, e12]
  · rw [lineOf_3]
    unfold fX12_diaryLine fX12_fails
    rw [← v17, ← v18, if_neg (hne 17 (by decide) (by decide)), if_neg (hne 18 (by decide) (by decide)), bq, e12]
