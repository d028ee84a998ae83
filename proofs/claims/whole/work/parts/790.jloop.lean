/-! ===== text: judged beside read ===== -/
def JC (s : Nat) (a b : Mem) (i t u S : Nat) : Prop := ∃ tt ll, a 143 11 = nI tt ∧ a 143 12 = nI ll ∧ tt ≤ 7 ∧ ll ≤ i ∧ (s = 1 → tt = t ∧ t = u ∧ ll = S ∧ S ≤ 6 ∧ ∀ v, u ≤ v → v < 7 → b 279 (1 + 19 * v) = nI 0) ∧ (s = 2 → ll = S) ∧ (s = 3 → ll = S)
theorem tm_eq {s w tt ll t u S : Nat} (hs : s < 4) (h1 : s = 1 → tt = t ∧ t = u ∧ ll = S ∧ S ≤ 6) (h7 : tt ≤ 7) (h2 : s = 2 → ll = S) (h3 : s = 3 → ll = S) : tmC s w tt ll = tmF s w t u S := by
  unfold tmC tmF tmS
  rcases (show s = 0 ∨ s = 1 ∨ s = 2 ∨ s = 3 by omega) with rfl | rfl | rfl | rfl
  · rw [if_neg (by omega), if_neg (by omega), if_neg (by omega), if_pos rfl]
  · obtain ⟨e1, e2, e3, e4⟩ := h1 rfl
    rw [if_pos rfl, if_neg (show ¬ 1 = 0 by omega), if_pos rfl]
    by_cases z : w = 9
    · rw [if_pos z, if_pos z]
      by_cases z2 : t < 7
      · rw [decide_eq_true z2, decide_eq_false (by omega)]; rfl
      · rw [decide_eq_false z2, decide_eq_true (by omega)]; rfl
    · rw [if_neg z, if_neg z]
      exact decide_eq_decide.mpr (by omega)
  · have := h2 rfl
    rw [if_neg (show ¬ 2 = 1 by omega), if_pos rfl, if_neg (show ¬ 2 = 0 by omega), if_neg (show ¬ 2 = 1 by omega), if_pos rfl]
    by_cases z2 : S < 40
    · rw [decide_eq_true z2, decide_eq_false (by omega)]; rfl
    · rw [decide_eq_false z2, decide_eq_true (by omega)]; rfl
  · have := h3 rfl
    rw [if_neg (show ¬ 3 = 1 by omega), if_neg (show ¬ 3 = 2 by omega), if_pos rfl, if_neg (show ¬ 3 = 0 by omega), if_neg (show ¬ 3 = 1 by omega), if_neg (show ¬ 3 = 2 by omega)]
    by_cases z2 : S < 8
    · rw [decide_eq_true z2, decide_eq_false (by omega)]; rfl
    · rw [decide_eq_false z2, decide_eq_true (by omega)]; rfl
theorem lft_n {T : Nat → Nat} {n i w : Nat} {tm : Bool} {f : Nat × Nat} (h : f.1 ≠ 0) : lft T n i w tm f = f := by
  have e : lf1 T n i w tm f = f := by
    unfold lf1
    rw [af_n h]
    by_cases z : 1 ≤ nwd w
    · rw [if_pos z, af_n h]
    · rw [if_neg z]
  unfold lft
  rw [e]
  by_cases z : 2 ≤ nwd w
  · rw [if_pos z, af_n h]
  · rw [if_neg z]
/-- the counters after a line -/
theorem CN_next {T : Nat → Nat} {n i s w t u S : Nat} {b b2 : Mem} (hs : s < 4) (hC : CN s b t u S) (hE : EF T n i s w t u S b b2) : ∃ t' u' S', CN s b2 t' u' S' ∧ (s = 1 → w = 9 → t < 7 → b 279 (1 + 19 * t) = nI 0 → t' = t + 1 ∧ u' = t + 1 ∧ S' = 0) ∧ (s = 1 → w ≠ 9 → t' = t ∧ u' = u ∧ S' = min 6 (S + 1)) ∧ (s = 2 → S' = min 40 (S + 1)) ∧ (s = 3 → S' = min 8 (S + 1)) := by
  obtain ⟨h1, h2, h3⟩ := hC
  obtain ⟨-, e2, e3, e4, e5⟩ := hE
  rcases (show s = 0 ∨ s = 1 ∨ s = 2 ∨ s = 3 by omega) with rfl | rfl | rfl | rfl
  · exact ⟨0, 0, 0, ⟨fun q => absurd q (by omega), fun q => absurd q (by omega), fun q => absurd q (by omega)⟩, fun q => absurd q (by omega), fun q => absurd q (by omega), fun q => absurd q (by omega), fun q => absurd q (by omega)⟩
  · obtain ⟨d1, d2, d3, d4, d5, d6⟩ := h1 rfl
    by_cases z : w = 9
    · obtain ⟨r1, r2, r3⟩ := e2 rfl z
      have hR : ∃ R, R ≤ 6 ∧ (t < 7 → b 279 (1 + 19 * t) = nI R) := by
        by_cases q : t < 7
        · obtain ⟨R, q1, q2⟩ := d6 t q; exact ⟨R, q1, fun _ => q2⟩
        · exact ⟨0, by omega, fun z => absurd z q⟩
      obtain ⟨R, q1, q2⟩ := hR
      refine ⟨min 7 (t + 1), t + 1, R, ⟨fun _ => ⟨by omega, by omega, r2, r1, fun _ y2 => ⟨by rw [r3 _ (by omega), Nat.add_sub_cancel]; exact q2 (by omega), q1⟩, fun v hv => ?_⟩, fun q => absurd q (by omega), fun q => absurd q (by omega)⟩, fun _ _ y1 y2 => ⟨by omega, rfl, ?_⟩, fun _ q => absurd z q, fun q => absurd q (by omega), fun q => absurd q (by omega)⟩
      · obtain ⟨R', y1, y2⟩ := d6 v hv
        exact ⟨R', y1, by rw [r3 _ (by omega)]; exact y2⟩
      · have := (q2 y1).symm.trans y2
        exact (eq_nn (by omega) (by omega)).mp this
    · obtain ⟨r1, r2, r3⟩ := e3 rfl z
      refine ⟨t, u, min 6 (S + 1), ⟨fun _ => ⟨d1, d2, ?_, by rw [r1]; exact d4, fun y1 y2 => ⟨(r3 y1 y2).1, by omega⟩, fun v hv => ?_⟩, fun q => absurd q (by omega), fun q => absurd q (by omega)⟩, fun _ q => absurd q z, fun _ _ => ⟨rfl, rfl, rfl⟩, fun q => absurd q (by omega), fun q => absurd q (by omega)⟩
      · by_cases y : 1 ≤ u ∧ u ≤ 7
        · rw [(r3 y.1 y.2).2.2 0 (by omega) (fun _ => by omega)]; exact d3
        · rw [r2 y]; exact d3
      · by_cases y : 1 ≤ u ∧ u ≤ 7
        · by_cases ev : v = u - 1
          · rw [ev]; exact ⟨_, by omega, (r3 y.1 y.2).1⟩
          · obtain ⟨R', y1, y2⟩ := d6 v hv
            have hS6 := (d5 y.1 y.2).2
            exact ⟨R', y1, by rw [(r3 y.1 y.2).2.2 _ (by omega) (fun _ => by omega)]; exact y2⟩
        · rw [r2 y]; exact d6 v hv
  · obtain ⟨d1, d2⟩ := h2 rfl
    exact ⟨0, 0, min 40 (S + 1), ⟨fun q => absurd q (by omega), fun _ => ⟨(e4 rfl).1, by omega⟩, fun q => absurd q (by omega)⟩, fun q => absurd q (by omega), fun q => absurd q (by omega), fun _ => rfl, fun q => absurd q (by omega)⟩
  · obtain ⟨d1, d2⟩ := h3 rfl
    exact ⟨0, 0, min 8 (S + 1), ⟨fun q => absurd q (by omega), fun q => absurd q (by omega), fun _ => ⟨(e5 rfl).1, by omega⟩⟩, fun q => absurd q (by omega), fun q => absurd q (by omega), fun q => absurd q (by omega), fun _ => rfl⟩
