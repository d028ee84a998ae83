/-! ===== weave, risk ===== -/
theorem frX2.M {b b' : Mem} (h : frX2 b b') : frM b b' := fun n hn => h.2 n (by omega)
theorem frX2.t {b b' : Mem} (h : frX2 b b') : tM b b' := fun n hn => h.2 n (by omega)
def frWv (a a' : Mem) : Prop := ∀ m, ¬ (146 ≤ m ∧ m < 234) → m ≠ 266 → a' m = a m
theorem frWv.C {a a' : Mem} (h : frWv a a') : frC a a' := fun m hm => h m (by omega) (by omega)
theorem frWv.t {a a' : Mem} (h : frWv a a') : tC a a' := fun m h1 h2 => h m (by omega) (by omega)
theorem p_weave (x y z u v : Int32) : PAIR (fX11_weave x y z u v) (fX12_weave x y z u v) := PAIR.q (fun a b hR => by
  have e0 : ∀ n, n ≠ 269 → (st2 b 269 0 0) n = b n := fun n hn => by rw [st2_c _ _ hn]
  have f0 : f269 b (st2 b 269 0 0) := e0
  unfold fX11_weave fX12_weave
  rw [f_in, bq]
  dsimp only
  by_cases hx : ∃ k : Nat, k < 2 ∧ x = nI k ∧ nI k < a 3 0
  · obtain ⟨s, hs, rfl, hm⟩ := hx
    have g1 : fX9_has 1 0 (nI s) a = some (true, a) := (has_pos hR (s := 0) (by omega) hs hm).1
    rw [g1, bq]
    dsimp only
    rw [if_pos (show true = true from rfl)]
    by_cases hy : ∃ k : Nat, k < 2 ∧ y = nI k ∧ nI k < a 3 1
    · obtain ⟨n, hn, rfl, hm2⟩ := hy
      have g2 : fX9_has 1 1 (nI n) a = some (true, a) := (has_pos hR (s := 1) (by omega) hn hm2).1
      obtain ⟨B, gB, hC, hB⟩ := book_at hR hn hm2
      have o1 := gB.1
      obtain ⟨sp, wk, c, os, hS, hM⟩ := store_at hR hs hm
      have hE : EN a s sp wk c n B := ⟨hs, hn, os, gB, hS, hC⟩
      obtain ⟨b1, p1, p2, p3, p4, p5, p6⟩ := m_hand hR e0 hs hm hn hm2 hM os hB
      rw [g2, bq, p1, bq]
      dsimp only
      rw [if_pos (show true = true from rfl), if_pos (show true = true from rfl), inb_T hn (by omega), gdT, nI_ck (show n < 2147483648 by omega)]
      -- what is asked for
      have hwhat : (∃ k, k < 5 ∧ v = nI k) ∨ ((v < 0 ∨ ¬ v < 5) ∧ decide (¬ v < 0 ∧ ¬ (4 : Int32) < v) = false) := by
        by_cases v0' : v < 0
        · exact Or.inr ⟨Or.inl v0', decide_eq_false (fun q => q.1 v0')⟩
        · obtain ⟨k, hk, rfl⟩ := nI_of v0'
          by_cases k5 : k < 5
          · exact Or.inl ⟨k, k5, rfl⟩
          · exact Or.inr ⟨Or.inr (by rw [show (5 : Int32) = nI 5 from rfl, lt_nn (by omega) (by omega)]; exact k5), decide_eq_false (fun q => q.2 (by rw [show (4 : Int32) = nI 4 from rfl, lt_nn (by omega) (by omega)]; omega))⟩
      have no : ∀ a', frC a a' → tC a a' → ∀ q : Option (Int32 × Mem), (v < 0 ∨ ¬ v < 5) → ((if v < 0 then (some ((-1), a')) else (if v < 5 then q else (some ((-1), a')))) : Option (Int32 × Mem)) = some (-1, a') := fun a' _ _ q hq => by
        by_cases v0' : v < 0
        · rw [if_pos v0']
        · rw [if_neg v0', if_neg (hq.resolve_left v0')]
      rcases c_holds hC.1 o1 z with ⟨f2, f3⟩ | ⟨t, ht, rfl, f2⟩
      · rw [f2, m_noTask p2.2.1.2.1 o1 f3, bq, bq]
        by_cases hv : decide (¬ v < 0 ∧ ¬ (4 : Int32) < v) = true
        · rw [if_pos hv]
          exact ⟨_, _, _, rfl, rfl, frC.rf, p6, tC.rf, p5⟩
        · rw [if_neg hv]
          exact ⟨_, _, _, rfl, rfl, frC.rf, f0.M, tC.rf, f0.t⟩
      · rw [f2, m_isTask p2.2.1.2.1 o1 ht, bq, bq]
        dsimp only
        rw [if_pos (show true = true from rfl), if_pos (show true = true from rfl)]
        rcases c_holds hC.1 o1 u with ⟨f4, f5⟩ | ⟨w, hw, rfl, f4⟩
        · rw [f4, m_noTask p2.2.1.2.1 o1 f5, bq, bq]
          by_cases hv : decide (¬ v < 0 ∧ ¬ (4 : Int32) < v) = true
          · rw [if_pos hv]
            exact ⟨_, _, _, rfl, rfl, frC.rf, p6, tC.rf, p5⟩
          · rw [if_neg hv]
            exact ⟨_, _, _, rfl, rfl, frC.rf, f0.M, tC.rf, f0.t⟩
        · rw [f4, m_isTask p2.2.1.2.1 o1 hw, bq, bq]
          dsimp only
          rw [if_pos (show true = true from rfl), if_pos (show true = true from rfl)]
          rcases hwhat with ⟨k, hk, rfl⟩ | ⟨hv, hd⟩
          · obtain ⟨a1, q1, q2, q3⟩ := c_weaveAll hE ht hw
            obtain ⟨b2', r1, r2, r3⟩ := m_weaveAll hs hn os gB ht hw p2
            rw [if_neg (show ¬ nI k < 0 by rw [li0, lt_nn (by omega) (by omega)]; omega), if_pos (show nI k < 5 by rw [show (5 : Int32) = nI 5 from rfl, lt_nn (by omega) (by omega)]; exact hk), inb_T hs (by omega), gdT, nI_ck (show s < 2147483648 by omega), q1, bq, inb_T hk (by omega), gdT, nI_ck (show k < 2147483648 by omega), q2 k hk, decide_eq_true (show ¬ nI k < 0 ∧ ¬ (4 : Int32) < nI k from ⟨by rw [li0, lt_nn (by omega) (by omega)]; omega, by rw [show (4 : Int32) = nI 4 from rfl, lt_nn (by omega) (by omega)]; omega⟩), if_pos (show true = true from rfl), r1, bq]
            have w3 : frWv a a1 := q3
            have fbM : frM b b2' := p6.tr r3.M
            have fbt : tM b b2' := p5.tr r3.t
            have h0 := r2 0 (by omega)
            have h1 := r2 1 (by omega)
            have h2 := r2 2 (by omega)
            have h3 := r2 3 (by omega)
            have h4 := r2 4 (by omega)
            rcases (show k = 0 ∨ k = 1 ∨ k = 2 ∨ k = 3 ∨ k = 4 by omega) with rfl | rfl | rfl | rfl | rfl
            · rw [if_pos (show nI 0 = 0 from rfl)]
              exact ⟨_, _, _, rfl, by rw [← h0], w3.C, fbM, w3.t, fbt⟩
            · rw [if_neg (by decide), if_pos (show nI 1 = 1 from rfl)]
              exact ⟨_, _, _, rfl, by rw [← h1], w3.C, fbM, w3.t, fbt⟩
            · rw [if_neg (by decide), if_neg (by decide), if_pos (show nI 2 = 2 from rfl)]
              exact ⟨_, _, _, rfl, by rw [← h2], w3.C, fbM, w3.t, fbt⟩
            · rw [if_neg (by decide), if_neg (by decide), if_neg (by decide), if_pos (show nI 3 = 3 from rfl)]
              exact ⟨_, _, _, rfl, by rw [← h3], w3.C, fbM, w3.t, fbt⟩
            · rw [if_neg (by decide), if_neg (by decide), if_neg (by decide), if_neg (by decide)]
              exact ⟨_, _, _, rfl, by rw [← h4], w3.C, fbM, w3.t, fbt⟩
          · rw [no a frC.rf tC.rf _ hv, hd, if_neg (show ¬ false = true by decide)]
            exact ⟨_, _, _, rfl, rfl, frC.rf, f0.M, tC.rf, f0.t⟩
    · have g2 : fX9_has 1 1 y a = some (false, a) := (has_neg hR (s := 1) (by omega) hy).1
      rw [g2, bq, m_hand_no2 hR e0 hs hm hy, bq]
      have f1 : f269 b (st2 (st2 (st2 b 269 0 0) 269 23 (nI s)) 269 24 y) := fun n hn => by rw [st2_c _ _ hn, st2_c _ _ hn, st2_c _ _ hn]
      by_cases hv : decide (¬ v < 0 ∧ ¬ (4 : Int32) < v) = true
      · rw [if_pos hv]
        exact ⟨_, _, _, rfl, rfl, frC.rf, f1.M, tC.rf, f1.t⟩
      · rw [if_neg hv]
        exact ⟨_, _, _, rfl, rfl, frC.rf, f0.M, tC.rf, f0.t⟩
  · have g1 : fX9_has 1 0 x a = some (false, a) := (has_neg hR (s := 0) (by omega) hx).1
    rw [g1, bq, m_hand_no1 hR e0 hx, bq]
    have f1 : f269 b (st2 (st2 b 269 0 0) 269 23 x) := fun n hn => by rw [st2_c _ _ hn, st2_c _ _ hn]
    by_cases hv : decide (¬ v < 0 ∧ ¬ (4 : Int32) < v) = true
    · rw [if_pos hv]
      exact ⟨_, _, _, rfl, rfl, frC.rf, f1.M, tC.rf, f1.t⟩
    · rw [if_neg hv]
      exact ⟨_, _, _, rfl, rfl, frC.rf, f0.M, tC.rf, f0.t⟩)
theorem ri_loop {B : F2} {s sp wk n x : Nat} {c : Nat → Nat} (hs : s < 2) (hn : n < 2) (os : okS sp wk c) (gB : okB B) (hx : x < B 0 0) : ∀ k g j (acc : Int32) (a b : Mem), j + k = B 0 0 → k < g → EN a s sp wk c n B → HD b s sp wk c n B →
    ∃ r a' b', lX11_risk_59 (nI s) (nI x) (10 + 14 * n) g acc (nI j) a = some (r, a') ∧ lX12_risk_30 (nI x) g acc (nI j) b = some (r, b') ∧ frWv a a' ∧ frX2 b b' := by
  have o1 := gB.1
  intro k
  induction k with
  | zero =>
    intro g j acc a b h1 h2 hE hH
    obtain ⟨g, rfl⟩ : ∃ m, g = m + 1 := ⟨g - 1, by omega⟩
    refine ⟨acc, a, b, ?_, ?_, fun _ _ _ => rfl, fun _ _ => rfl, fun _ _ => rfl⟩
    · rw [lX11_risk_59, if_pos (by rw [show a (10 + 14 * n) 0 = nI (B 0 0) from hE.2.2.2.2.2.1, le_nn (by omega) (by omega)]; omega)]
    · rw [lX12_risk_30, if_pos (by rw [show b 269 27 = nI (B 0 0) from hH.2.1.2.1, le_nn (by omega) (by omega)]; omega)]
  | succ k ih =>
    intro g j acc a b h1 h2 hE hH
    obtain ⟨g, rfl⟩ : ∃ m, g = m + 1 := ⟨g - 1, by omega⟩
    obtain ⟨a1, q1, q2, q3⟩ := c_weaveAll hE hx (show j < B 0 0 by omega)
    obtain ⟨b1, r1, r2, r3⟩ := m_weaveAll hs hn os gB hx (show j < B 0 0 by omega) hH
    have w3 : frWv a a1 := q3
    have h86 : b1 269 86 = nI (wvn sp B c x j 2) := r2 2 (by omega)
    have hE1 : EN a1 s sp wk c n B := hE.fr (fun m hm => q3 m (by omega) (by omega))
    have hc1 : ∀ acc : Int32, lX11_risk_59 (nI s) (nI x) (10 + 14 * n) (g + 1) acc (nI j) a = ((if nI (wvn sp B c x j 2) ≤ 0 then (some acc) else (some (acc ||| ((1 : Int32) <<< (nI j &&& 31)))) : Option (Int32)).bind fun q18 => lX11_risk_59 (nI s) (nI x) (10 + 14 * n) g q18 (nI (j + 1)) a1) := fun acc => by
      rw [lX11_risk_59, if_neg (by rw [show a (10 + 14 * n) 0 = nI (B 0 0) from hE.2.2.2.2.2.1, le_nn (by omega) (by omega)]; omega), inb_T hs (by omega), gdT, nI_ck (show s < 2147483648 by omega), q1, bq, q2 2 (by omega), nI_1]
    have hc2 : ∀ acc : Int32, lX12_risk_30 (nI x) (g + 1) acc (nI j) b = ((if nI (wvn sp B c x j 2) ≤ 0 then (some 0) else (some ((1 : Int32) <<< (nI j &&& 31))) : Option (Int32)).bind fun q12 => lX12_risk_30 (nI x) g (acc ||| q12) (nI (j + 1)) b1) := fun acc => by
      rw [lX12_risk_30, if_neg (by rw [show b 269 27 = nI (B 0 0) from hH.2.1.2.1, le_nn (by omega) (by omega)]; omega), r1, bq, h86, nI_1]
    rw [hc1, hc2]
    by_cases hz : nI (wvn sp B c x j 2) ≤ 0
    · rw [if_pos hz, if_pos hz, bq, bq, show acc ||| (0 : Int32) = acc from Int32.or_zero]
      obtain ⟨r, a2, b2', u1, u2, u3, u4⟩ := ih g (j + 1) acc a1 b1 (by omega) (by omega) hE1 (hH.X2 r3)
      exact ⟨r, a2, b2', u1, u2, fun m m1 m2 => (u3 m m1 m2).trans (w3 m m1 m2), r3.tr u4⟩
    · rw [if_neg hz, if_neg hz, bq, bq]
      obtain ⟨r, a2, b2', u1, u2, u3, u4⟩ := ih g (j + 1) (acc ||| ((1 : Int32) <<< (nI j &&& 31))) a1 b1 (by omega) (by omega) hE1 (hH.X2 r3)
      exact ⟨r, a2, b2', u1, u2, fun m m1 m2 => (u3 m m1 m2).trans (w3 m m1 m2), r3.tr u4⟩
theorem p_risk (x y z : Int32) : PAIR (fX11_risk x y z) (fX12_risk x y z) := PAIR.q (fun a b hR => by
  have e0 : ∀ n, n ≠ 269 → (st2 b 269 0 0) n = b n := fun n hn => by rw [st2_c _ _ hn]
  unfold fX11_risk fX12_risk
  by_cases hx : ∃ k : Nat, k < 2 ∧ x = nI k ∧ nI k < a 3 0
  · obtain ⟨s, hs, rfl, hm⟩ := hx
    have g1 : fX9_has 1 0 (nI s) a = some (true, a) := (has_pos hR (s := 0) (by omega) hs hm).1
    rw [g1, bq]
    dsimp only
    rw [if_pos (show true = true from rfl)]
    by_cases hy : ∃ k : Nat, k < 2 ∧ y = nI k ∧ nI k < a 3 1
    · obtain ⟨n, hn, rfl, hm2⟩ := hy
      have g2 : fX9_has 1 1 (nI n) a = some (true, a) := (has_pos hR (s := 1) (by omega) hn hm2).1
      obtain ⟨B, gB, hC, hB⟩ := book_at hR hn hm2
      have o1 := gB.1
      obtain ⟨sp, wk, c, os, hS, hM⟩ := store_at hR hs hm
      have hE : EN a s sp wk c n B := ⟨hs, hn, os, gB, hS, hC⟩
      obtain ⟨b1, p1, p2, p3, p4, p5, p6⟩ := m_hand hR e0 hs hm hn hm2 hM os hB
      rw [g2, bq, p1, bq]
      dsimp only
      rw [if_pos (show true = true from rfl), if_pos (show true = true from rfl), inb_T hn (by omega), gdT, nI_ck (show n < 2147483648 by omega)]
      rcases c_holds hC.1 o1 z with ⟨f2, f3⟩ | ⟨t, ht, rfl, f2⟩
      · rw [f2, m_noTask p2.2.1.2.1 o1 f3, bq, bq]
        exact ⟨_, _, _, rfl, rfl, frC.rf, p6, tC.rf, p5⟩
      · rw [f2, m_isTask p2.2.1.2.1 o1 ht, bq, bq]
        dsimp only
        rw [if_pos (show true = true from rfl), if_pos (show true = true from rfl), gdT]
        obtain ⟨r, a2, b2', u1, u2, u3, u4⟩ := ri_loop hs hn os gB ht (B 0 0) FU 0 0 a b1 (by omega) (by show B 0 0 < 5000; omega) hE p2
        have u1' : lX11_risk_59 (nI s) (nI t) (10 + 14 * n) FU 0 0 a = some (r, a2) := u1
        have u2' : lX12_risk_30 (nI t) FU 0 0 b1 = some (r, b2') := u2
        rw [u1', bq, u2', bq]
        exact ⟨_, _, _, rfl, rfl, u3.C, p6.tr u4.M, u3.t, p5.tr u4.t⟩
    · have g2 : fX9_has 1 1 y a = some (false, a) := (has_neg hR (s := 1) (by omega) hy).1
      rw [g2, bq, m_hand_no2 hR e0 hs hm hy, bq]
      have f1 : f269 b (st2 (st2 (st2 b 269 0 0) 269 23 (nI s)) 269 24 y) := fun n hn => by rw [st2_c _ _ hn, st2_c _ _ hn, st2_c _ _ hn]
      exact ⟨_, _, _, rfl, rfl, frC.rf, f1.M, tC.rf, f1.t⟩
  · have g1 : fX9_has 1 0 x a = some (false, a) := (has_neg hR (s := 0) (by omega) hx).1
    rw [g1, bq, m_hand_no1 hR e0 hx, bq]
    have f1 : f269 b (st2 (st2 b 269 0 0) 269 23 x) := fun n hn => by rw [st2_c _ _ hn, st2_c _ _ hn]
    exact ⟨_, _, _, rfl, rfl, frC.rf, f1.M, tC.rf, f1.t⟩)
