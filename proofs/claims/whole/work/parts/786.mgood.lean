/-! ===== text: a good line, in the reference; judged, in the class ===== -/
theorem af_lt2 {c : Bool} {k x y : Nat} {f : Nat × Nat} (h : f.1 ≠ 0 → f.2 < y) (hxy : x < y) : (af c k x f).1 ≠ 0 → (af c k x f).2 < y := by
  unfold af
  by_cases z : c = true ∧ f.1 = 0
  · rw [if_pos z]; intro _; exact hxy
  · rw [if_neg z]; exact h
theorem pj_m {T : Nat → Nat} {n i N : Nat} (hi : i ≤ n) (h : ∀ j, j ≤ N → tK T n (pj T n i j) ≠ 0) : ∀ j, j ≤ N → pj T n i j < pj T n i (N + 1) := by
  induction N with
  | zero => intro j hj; rw [show j = 0 by omega]; exact pj_l hi 0 (h 0 (by omega))
  | succ N ih =>
    intro j hj
    have h1 := pj_l hi (N + 1) (h (N + 1) (by omega))
    by_cases e : j = N + 1
    · rw [e]; exact h1
    · have := ih (fun j hj => h j (by omega)) j (by omega)
      omega
theorem good_pl {T : Nat → Nat} {n i s w : Nat} (hs : s < 4) (hi : i ≤ n) (hg : good T n s i w) : (∀ j, j ≤ nwd w → pj T n i j < pj T n i (nwd w + 1)) ∧ pj T n i (nwd w + 1) < tE T n (pj T n i (nwd w + 1)) ∧ tE T n (pj T n i (nwd w + 1)) ≤ n := by
  obtain ⟨h1, h2, h3⟩ := hg
  have k0 := (wrd_lt hs h1).1
  have hle := pj_le (T := T) hi (nwd w + 1)
  refine ⟨pj_m hi (fun j hj => ?_), (pj_lt hi (show tK T n (pj T n i (nwd w + 1)) ≠ 0 by omega)).1, (tE_le hle).2.1⟩
  by_cases e : j = 0
  · rw [e, k0]; omega
  · rw [h2 j (by omega) hj]; omega
theorem lft_lt {T : Nat → Nat} {n i w : Nat} {tm : Bool} {f : Nat × Nat} {y : Nat} (hf : f.1 ≠ 0 → f.2 < y) (h : ∀ j, j ≤ nwd w → pj T n i j < y) : (lft T n i w tm f).1 ≠ 0 → (lft T n i w tm f).2 < y := by
  have h1 : (lf1 T n i w tm f).1 ≠ 0 → (lf1 T n i w tm f).2 < y := by
    unfold lf1
    by_cases z : 1 ≤ nwd w
    · rw [if_pos z]; exact af_lt2 (af_lt2 hf (h 0 (by omega))) (h 1 z)
    · rw [if_neg z]; exact af_lt2 hf (h 0 (by omega))
  unfold lft
  by_cases z : 2 ≤ nwd w
  · rw [if_pos z]; exact af_lt2 h1 (h 2 z)
  · rw [if_neg z]; exact h1
theorem EF.c {T : Nat → Nat} {n i s w t u S : Nat} {b b1 b2 : Mem} (h : EF T n i s w t u S b b1) (e : b2 279 = b1 279) (e2 : b2 269 22 = b1 269 22) : EF T n i s w t u S b b2 := by
  unfold EF at h ⊢
  rw [e, e2]
  exact h
theorem m_good {b : Mem} {T : Nat → Nat} {n i s w t u S g : Nat} {f : Nat × Nat} (oT : okT T) (hn : n ≤ 600) (hs : s < 4) (hi : i ≤ n) (hL : LB b T n i f) (hC : CN s b t u S) (hg : good T n s i w) :
    ∃ b2, lX12_allLines_2 (nI s) (g + 1) true b = lX12_allLines_2 (nI s) g true b2 ∧ LB b2 T n (tE T n (pj T n i (nwd w + 1))) (lft T n i w (tmF s w t u S) f) ∧ EF T n i s w t u S b b2 ∧ fr4 b b2 := by
  obtain ⟨p1, p2, p3⟩ := good_pl hs hi hg
  obtain ⟨hw, h2, h3⟩ := hg
  obtain ⟨b1, r1, r2, r3, r4, r5⟩ := (m_line oT hn hs hi hL hC hw).1 h2
  have k0 : tK T n (pj T n i 0) ≠ 0 := by rw [(wrd_lt hs hw).1]; omega
  obtain ⟨c, c1, c2, c3⟩ := m_itT (g := g) oT hn (pj_le hi _) hL.1 k0 r1 r2 h3
  have hnext : pj T n i (nwd w + 1) < pj T n (tE T n (pj T n i (nwd w + 1))) 0 := by
    have : tE T n (pj T n i (nwd w + 1)) ≤ tP T n (tE T n (pj T n i (nwd w + 1))) := (tP_le p3).1
    show _ < tP T n _
    omega
  refine ⟨c, c1, ⟨c2, r3.c (c3.1 17 (by unfold jT; omega)) (c3.1 18 (by unfold jT; omega)), fun q => ?_⟩, r4.c (c3.2 _ (by omega)) (c3.1 22 (by unfold jT; omega)), fun m m1 m2 m3 => by rw [c3.2 m m1]; exact r5 m m1 m2 m3⟩
  have := lft_lt (T := T) (n := n) (i := i) (w := w) (tm := tmF s w t u S) (f := f) (y := pj T n i (nwd w + 1)) (fun q => by have := hL.2.2 q; have := p1 0 (by omega); omega) p1 q
  omega
/-- is the line one too many, for the class -/
def tmC (s w tt ll : Nat) : Bool := if s = 1 then (if w = 9 then decide (7 < tt + 1) else decide (tt = 0 ∨ 6 < ll + 1)) else if s = 2 then decide (40 < ll + 1) else if s = 3 then decide (8 < ll + 1) else false
def ttC (s w tt : Nat) : Nat := if s = 1 ∧ w = 9 then tt + 1 else tt
def llC (s w ll : Nat) : Nat := if s = 1 ∧ w = 9 then 0 else ll + 1
def frJ2 (a a' : Mem) : Prop := (∀ j, ¬ (11 ≤ j ∧ j ≤ 14) → a' 143 j = a 143 j) ∧ ∀ m, m ≠ 143 → a' m = a m
theorem c_much {a : Mem} {s w tt ll : Nat} (hs : s < 4) (hw : w < 19) (h7 : a 143 7 = nI w) (h11 : a 143 11 = nI tt) (h12 : a 143 12 = nI ll) (ht : tt < 1000) (hl : ll < 1000) : ∃ a', fX5_isTooMuch (nI s) a = some (tmC s w tt ll, a') ∧ a' 143 11 = nI (ttC s w tt) ∧ a' 143 12 = nI (llC s w ll) ∧ (∀ j, j ≠ 11 → j ≠ 12 → a' 143 j = a 143 j) ∧ ∀ m, m ≠ 143 → a' m = a m := by
  have hj : ¬ (s = 1 ∧ w = 9) → ∃ a', jX5_isTooMuch_44 (nI s) a = some (tmC s w tt ll, a') ∧ a' 143 11 = nI (ttC s w tt) ∧ a' 143 12 = nI (llC s w ll) ∧ (∀ j, j ≠ 11 → j ≠ 12 → a' 143 j = a 143 j) ∧ ∀ m, m ≠ 143 → a' m = a m := fun hn => by
    unfold jX5_isTooMuch_44
    rw [h12, nI_1]
    generalize hc : st2 a 143 12 (nI (ll + 1)) = c
    have c11 : c 143 11 = nI tt := by rw [← hc, st2_o _ _ (by omega)]; exact h11
    have c12 : c 143 12 = nI (ll + 1) := by rw [← hc, st2_eq]
    refine ⟨c, ?_, by rw [show ttC s w tt = tt from if_neg hn]; exact c11, by rw [show llC s w ll = ll + 1 from if_neg hn]; exact c12, fun j _ j2 => by rw [← hc, st2_o _ _ (by omega)], fun m hm => by rw [← hc, st2_c _ _ hm]⟩
    have le : ∀ k, k < 1000 → (c 143 12 ≤ nI k ↔ ¬ k < ll + 1) := fun k hk => by rw [c12, le_nn (by omega) (by omega)]; omega
    have l6 := le 6 (by omega)
    have l40 := le 40 (by omega)
    have l8 := le 8 (by omega)
    unfold tmC
    rcases (show s = 0 ∨ s = 1 ∨ s = 2 ∨ s = 3 by omega) with rfl | rfl | rfl | rfl
    · rw [if_neg (by decide), if_neg (by decide), if_neg (by decide), if_neg (by omega), if_neg (by omega), if_neg (by omega)]
    · rw [if_pos (show nI 1 = 1 from rfl), if_pos rfl, if_neg (fun q => hn ⟨rfl, q⟩)]
      by_cases z : tt = 0
      · rw [if_pos (show c 143 11 = 0 by rw [c11, z]; rfl), decide_eq_true (Or.inl z)]
      · rw [if_neg (show ¬ c 143 11 = 0 by rw [c11]; exact ne0 z (by omega))]
        by_cases z2 : 6 < ll + 1
        · rw [if_neg (show ¬ c 143 12 ≤ 6 from fun q => l6.mp q z2), decide_eq_true (Or.inr z2)]
        · rw [if_pos (show c 143 12 ≤ 6 from l6.mpr z2), decide_eq_false (fun q => q.elim z z2)]
    · rw [if_neg (by decide), if_pos (show nI 2 = 2 from rfl), if_neg (show ¬ 2 = 1 by omega), if_pos rfl]
      by_cases z2 : 40 < ll + 1
      · rw [if_neg (show ¬ c 143 12 ≤ 40 from fun q => l40.mp q z2), decide_eq_true z2]
      · rw [if_pos (show c 143 12 ≤ 40 from l40.mpr z2), decide_eq_false z2]
    · rw [if_neg (by decide), if_neg (by decide), if_pos (show nI 3 = 3 from rfl), if_neg (show ¬ 3 = 1 by omega), if_neg (show ¬ 3 = 2 by omega), if_pos rfl]
      by_cases z2 : 8 < ll + 1
      · rw [if_neg (show ¬ c 143 12 ≤ 8 from fun q => l8.mp q z2), decide_eq_true z2]
      · rw [if_pos (show c 143 12 ≤ 8 from l8.mpr z2), decide_eq_false z2]
  unfold fX5_isTooMuch
  by_cases z1 : s = 1
  · rw [if_pos (show nI s = 1 by rw [z1]; rfl)]
    by_cases z9 : w = 9
    · rw [if_pos (show a 143 7 = 9 by rw [h7, z9]; rfl), h11, nI_1]
      generalize hc : st2 (st2 a 143 11 (nI (tt + 1))) 143 12 0 = c
      have c11 : c 143 11 = nI (tt + 1) := by rw [← hc, st2_o _ _ (by omega), st2_eq]
      have c12 : c 143 12 = nI 0 := by rw [← hc, st2_eq]; rfl
      refine ⟨c, ?_, by rw [show ttC s w tt = tt + 1 from if_pos ⟨z1, z9⟩]; exact c11, by rw [show llC s w ll = 0 from if_pos ⟨z1, z9⟩]; exact c12, fun j j1 j2 => by rw [← hc, st2_o _ _ (by omega), st2_o _ _ (by omega)], fun m hm => by rw [← hc, st2_c _ _ hm, st2_c _ _ hm]⟩
      have l7 : c 143 11 ≤ 7 ↔ ¬ 7 < tt + 1 := by rw [c11, show (7 : Int32) = nI 7 from rfl, le_nn (by omega) (by omega)]; omega
      have e : tmC s w tt ll = decide (7 < tt + 1) := by unfold tmC; rw [if_pos z1, if_pos z9]
      rw [e]
      by_cases z2 : 7 < tt + 1
      · rw [if_neg (fun q => l7.mp q z2), decide_eq_true z2]
      · rw [if_pos (l7.mpr z2), decide_eq_false z2]
    · rw [if_neg (show ¬ a 143 7 = 9 by rw [h7]; exact lit_ne (m := 9) z9 (by omega) (by omega))]
      exact hj (fun q => z9 q.2)
  · rw [if_neg (show ¬ nI s = 1 from lit_ne (m := 1) z1 (by omega) (by omega))]
    exact hj (fun q => z1 q.1)
