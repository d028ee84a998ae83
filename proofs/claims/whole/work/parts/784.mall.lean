/-! ===== text: a line of any sort, in the reference ===== -/
/-- what a line makes of the row -/
def EF (T : Nat → Nat) (n i s w t u S : Nat) (b b1 : Mem) : Prop :=
  (s = 0 → nof T n i w → b1 279 = srow w (tN T n (pj T n i 1)) (tN T n (pj T n i 2)) (b 279)) ∧
  (s = 1 → w = 9 → b1 269 22 = nI (t + 1) ∧ b1 279 0 = nI (min 7 (t + 1)) ∧ ∀ j, j ≠ 0 → b1 279 j = b 279 j) ∧
  (s = 1 → w ≠ 9 → b1 269 22 = b 269 22 ∧ (¬ (1 ≤ u ∧ u ≤ 7) → b1 279 = b 279) ∧ (1 ≤ u → u ≤ 7 → b1 279 (1 + 19 * (u - 1)) = nI (min 6 (S + 1)) ∧ (S < 6 → b1 279 (1 + 19 * (u - 1) + 1 + 3 * S) = nI (w - 3) ∧ b1 279 (1 + 19 * (u - 1) + 2 + 3 * S) = ov T n i w 1 ∧ b1 279 (1 + 19 * (u - 1) + 3 + 3 * S) = ov T n i w 2) ∧ ∀ j, j ≠ 1 + 19 * (u - 1) → (S < 6 → ¬ (1 + 19 * (u - 1) + 1 + 3 * S ≤ j ∧ j ≤ 1 + 19 * (u - 1) + 3 + 3 * S)) → b1 279 j = b 279 j)) ∧
  (s = 2 → b1 279 0 = nI (min 40 (S + 1)) ∧ (S < 40 → b1 279 (1 + 3 * S) = nI (w - 10) ∧ b1 279 (2 + 3 * S) = ov T n i w 1 ∧ b1 279 (3 + 3 * S) = ov T n i w 2) ∧ ∀ j, j ≠ 0 → (S < 40 → ¬ (1 + 3 * S ≤ j ∧ j < 1 + 3 * S + 3)) → b1 279 j = b 279 j) ∧
  (s = 3 → b1 279 0 = nI (min 8 (S + 1)) ∧ (S < 8 → b1 279 (1 + 2 * S) = ov T n i w 1 ∧ b1 279 (2 + 2 * S) = ov T n i w 2) ∧ ∀ j, j ≠ 0 → (S < 8 → ¬ (1 + 2 * S ≤ j ∧ j < 1 + 2 * S + 2)) → b1 279 j = b 279 j)
theorem fr3.q {b b' : Mem} (h : fr3 b b') : fr4 b b' := h.2
theorem fr4.s {b b' : Mem} (h : fr4 (st2 b 269 21 1) b') : fr4 b b' := fun m m1 m2 m3 => by rw [h m m1 m2 m3, st2_c _ _ m1]
set_option maxHeartbeats 1000000 in
theorem m_line {b : Mem} {T : Nat → Nat} {n i s w t u S : Nat} {f : Nat × Nat} (oT : okT T) (hn : n ≤ 600) (hs : s < 4) (hi : i ≤ n) (hL : LB b T n i f) (hC : CN s b t u S) (hw : wrd T n s i = w + 1) :
    ((∀ j, 1 ≤ j → j ≤ nwd w → tK T n (pj T n i j) = 3) → ∃ b1, fX12_lineOf (nI s) (cdM b) (nI (pj T n i 0)) (st2 b 269 21 1) = some (true, b1) ∧ MK b1 T n (pj T n i (nwd w + 1)) ∧ FS b1 (lft T n i w (tmF s w t u S) f).1 (lft T n i w (tmF s w t u S) f).2 ∧ EF T n i s w t u S b b1 ∧ fr4 b b1) ∧
    (∀ j, 1 ≤ j → j ≤ nwd w → tK T n (pj T n i j) ≠ 3 → (∀ k, 1 ≤ k → k < j → tK T n (pj T n i k) = 3) → ∃ b', fX12_lineOf (nI s) (cdM b) (nI (pj T n i 0)) (st2 b 269 21 1) = some (false, b') ∧ b' 269 16 = nI (pj T n i j) ∧ fr4 b b') := by
  obtain ⟨k0, f1, f2, f3, -⟩ := wrd_lt hs hw
  rw [(m_code oT hi hL.1 hs).1 w hw]
  have hL' := hL.s
  have c9 : (st2 b 269 21 1) 279 = b 279 := st2_c _ _ (by omega)
  have c22 : (st2 b 269 21 1) 269 22 = b 269 22 := st2_o _ _ (by omega)
  obtain ⟨h1, h2, h3⟩ := hC
  rcases (show s = 0 ∨ s = 1 ∨ s = 2 ∨ s = 3 by omega) with rfl | rfl | rfl | rfl
  · have f2' : w < 3 := f2
    obtain ⟨g1, g2⟩ := m_store oT hn hi hL' (st2_eq _ _ _ _) f2' k0
    rw [lineOf_0]
    refine ⟨fun h => ?_, fun j j1 j2 j3 j4 => ?_⟩
    · obtain ⟨b1, r1, r2, r3, r4, r5⟩ := g1 h
      refine ⟨b1, r1, r2, r3, ⟨fun _ q => by rw [r4 q, c9], fun q => absurd q (by omega), fun q => absurd q (by omega), fun q => absurd q (by omega), fun q => absurd q (by omega)⟩, r5.q.s⟩
    · obtain ⟨b1, r1, r2, r3⟩ := g2 j j1 j2 j3 j4
      exact ⟨b1, r1, r2, r3.q.s⟩
  · have f1' : 3 ≤ w := f1
    have f2' : w < 10 := f2
    obtain ⟨d1, d2, d3, d4, d5, d6⟩ := h1 rfl
    rw [lineOf_1]
    by_cases z : w = 9
    · subst z
      obtain ⟨b1, r1, r2, r3, r4, r5, r6, r7⟩ := m_task oT hn hi hL' (show (st2 b 269 21 1) 279 0 = nI t by rw [c9]; exact d3) d1
      have hN : nwd 9 = 0 := by decide
      rw [hN]
      refine ⟨fun _ => ⟨b1, r1, r2, r3, ⟨fun q => absurd q (by omega), fun _ _ => ⟨r4, r5, fun j hj => by rw [r6 j hj, c9]⟩, fun _ q => absurd rfl q, fun q => absurd q (by omega), fun q => absurd q (by omega)⟩, r7.s⟩, fun j j1 j2 => absurd j2 (by omega)⟩
    · obtain ⟨g1, g2⟩ := m_step oT hn hi hL' (by rw [c22]; exact d4) d2 (by rw [c9]; exact d5) f1' (show w < 9 by omega) k0
      refine ⟨fun h => ?_, fun j j1 j2 j3 j4 => ?_⟩
      · obtain ⟨b1, r1, r2, r3, r4, r5, r6⟩ := g1 h
        rw [c9] at r4 r5
        have htm : tmF 1 w t u S = tmS u S := by unfold tmF; rw [if_neg (by omega), if_pos rfl, if_neg z]
        rw [htm]
        exact ⟨b1, r1, r2, r3, ⟨fun q => absurd q (by omega), fun _ q => absurd q z, fun _ _ => ⟨by rw [r6.1, c22], r4, r5⟩, fun q => absurd q (by omega), fun q => absurd q (by omega)⟩, r6.q.s⟩
      · obtain ⟨b1, r1, r2, r3⟩ := g2 j j1 j2 j3 j4
        exact ⟨b1, r1, r2, r3.q.s⟩
  · have f1' : 10 ≤ w := f1
    have f2' : w < 17 := f2
    obtain ⟨d1, d2⟩ := h2 rfl
    rw [lineOf_2]
    obtain ⟨g1, g2⟩ := m_plan oT hn hi hL' (by rw [c9]; exact d1) d2 f1' f2' k0
    refine ⟨fun h => ?_, fun j j1 j2 j3 j4 => ?_⟩
    · obtain ⟨b1, r1, r2, r3, r4, r5, r6, r7⟩ := g1 h
      rw [c9] at r6
      exact ⟨b1, r1, r2, r3, ⟨fun q => absurd q (by omega), fun q => absurd q (by omega), fun q => absurd q (by omega), fun _ => ⟨r4, r5, r6⟩, fun q => absurd q (by omega)⟩, r7.q.s⟩
    · obtain ⟨b1, r1, r2, r3⟩ := g2 j j1 j2 j3 j4
      exact ⟨b1, r1, r2, r3.q.s⟩
  · have f1' : 17 ≤ w := f1
    have f2' : w < 19 := f2
    obtain ⟨d1, d2⟩ := h3 rfl
    rw [lineOf_3]
    obtain ⟨g1, g2⟩ := m_diary oT hn hi hL' (by rw [c9]; exact d1) d2 (show w = 17 ∨ w = 18 by omega) k0
    refine ⟨fun h => ?_, fun j j1 j2 j3 j4 => ?_⟩
    · obtain ⟨b1, r1, r2, r3, r4, r5, r6, r7⟩ := g1 h
      rw [c9] at r6
      exact ⟨b1, r1, r2, r3, ⟨fun q => absurd q (by omega), fun q => absurd q (by omega), fun q => absurd q (by omega), fun q => absurd q (by omega), fun _ => ⟨r4, r5, r6⟩⟩, r7.q.s⟩
    · obtain ⟨b1, r1, r2, r3⟩ := g2 j j1 j2 j3 j4
      exact ⟨b1, r1, r2, r3.q.s⟩
/-- a text breaks off -/
theorem m_brk {b : Mem} {T : Nat → Nat} {n i s t u S pl g : Nat} {f : Nat × Nat} (oT : okT T) (hn : n ≤ 600) (hs : s < 4) (hi : i ≤ n) (hL : LB b T n i f) (hC : CN s b t u S) (hb : brk T n s i pl) :
    ∃ b', lX12_allLines_2 (nI s) (g + 2) true b = some (false, b') ∧ b' 269 16 = nI pl ∧ fr4 b b' := by
  rcases hb with ⟨k0, h0, rfl⟩ | ⟨w, hw, hb⟩
  · refine ⟨_, m_itF hL.1 k0 (m_none oT hi hL.1 hs h0), st2_eq _ _ _ _, fun m m1 _ _ => by rw [st2_c _ _ m1, st2_c _ _ m1]⟩
  · have k0 : tK T n (pj T n i 0) ≠ 0 := by rw [(wrd_lt hs hw).1]; omega
    obtain ⟨g1, g2⟩ := m_line oT hn hs hi hL hC hw
    rcases hb with ⟨a1, a2, rfl⟩ | ⟨a1, a2, a3, rfl⟩ | ⟨a1, a2, rfl⟩
    · obtain ⟨b', r1, r2, r3⟩ := g2 1 (by omega) a1 a2 (fun k k1 k2 => absurd k2 (by omega))
      exact ⟨b', m_itF hL.1 k0 r1, r2, r3⟩
    · obtain ⟨b', r1, r2, r3⟩ := g2 2 (by omega) (by omega) a3 (fun k k1 k2 => by rw [show k = 1 by omega]; exact a2)
      exact ⟨b', m_itF hL.1 k0 r1, r2, r3⟩
    · obtain ⟨b1, r1, r2, r3, r4, r5⟩ := g1 a1
      exact ⟨_, m_itM hL.1 k0 r1 r2 a2, st2_eq _ _ _ _, fun m m1 m2 m3 => by rw [st2_c _ _ m1]; exact r5 m m1 m2 m3⟩
