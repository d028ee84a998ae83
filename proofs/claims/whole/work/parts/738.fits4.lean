/-! ===== fits: the call ===== -/
theorem diary_at {a b : Mem} (hR : RR a b) {k : Nat} (hk : k < 2) (hm : nI k < a 3 3) : ∃ D, okD D ∧ CDi (a (19 + 14 * k)) (a (19 + 14 * k + 1)) (a (19 + 14 * k + 2)) D ∧ MDi (fun i => b 278 (17 * k + i)) D := by
  have h := hR.1.2.2.2.2.2.2.2.2 k hk hm
  unfold DR at h
  rw [show 1 + 18 + 14 * k = 19 + 14 * k by omega, show 34 * 0 + 17 * k = 17 * k by omega] at h
  exact h.ab
theorem rcv_b {sp nw D f : Nat} {B M : F2} {c : Nat → Nat} (ok : okM sp nw D B M) (hc : ∀ k, c k ≤ 100) : ∀ k, k < 10 → rcv f c M 0 k ≤ 100 := fun k hk => by
  have ln := ok.2.2.2.2.2.1
  exact ((qB.oW (X := 5100) (f := f) (d := dur f M) (m := M 146 11) (M := M) (q := G0 c) (fun k hk => ⟨hc k, by show 0 ≤ 5100; omega⟩) (fun i hi _ => ⟨(ln i hi).2.2.2.1, (ln i hi).2.2.2.2.2.2.2.2.2.2.1⟩) _) k hk).1
theorem m_sure {b : Mem} {D : F2} {r : Nat → Nat → Nat} {x : Int32} {wk w : Nat} (h : FSt b (fts D r (2 ^ wk)) r x (2 ^ wk - 1)) (h26 : b 269 26 = nI wk) (h1 : 1 ≤ wk) (h4 : wk ≤ 4) (hw : w < 4) (hl : (fts D r (2 ^ wk)).length ≤ 16) : fX12_sure (nI w) b = some (if (fts D r (2 ^ wk)).length = 0 ∨ wk ≤ w then vI 0 else if 0 < wt w (fts D r (2 ^ wk)) ∧ wt w (fts D r (2 ^ wk)) < (fts D r (2 ^ wk)).length then vI 0 else if 0 < wt w (fts D r (2 ^ wk)) then vI 2 else vI 1, b) := by
  obtain ⟨e77, -, -, e80, e81, -⟩ := h
  unfold fX12_sure
  rw [e77]
  by_cases z : (fts D r (2 ^ wk)).length = 0
  · rw [if_pos (by rw [z]; rfl), if_pos (Or.inl z)]; rfl
  rw [if_neg (ne0 z (by omega))]
  have hi := m_isWorker (b := b) (nw := wk) (wv := w + 1) h26 h1 h4 (by omega)
  rw [vI_s] at hi
  rw [hi, bq]
  dsimp only
  by_cases zw : wk ≤ w
  · rw [decide_eq_false (by omega), if_neg (show ¬ false = true by decide), if_pos (Or.inr zw)]; rfl
  rw [decide_eq_true (by omega), if_pos rfl, if_neg (fun y => y.elim z zw), e80]
  obtain ⟨q1, q2, q3, q4⟩ := ev_wt (D := D) (r := r) (wk := wk) (w := w) (by omega) h4 (2 ^ wk) (Nat.le_refl _)
  have hwl : wt w (fts D r (2 ^ wk)) ≤ (fts D r (2 ^ wk)).length := wt_b _
  rw [f_has (by omega) (by omega), bq]
  dsimp only
  by_cases y1 : (acc (fun f s => s &&& f) (fts D r (2 ^ wk)) (2 ^ wk - 1)).testBit w = true
  · have := q1.mp y1
    rw [if_pos y1, if_neg (by omega), if_pos (by omega)]; rfl
  · have y1' : wt w (fts D r (2 ^ wk)) ≠ (fts D r (2 ^ wk)).length := fun t => y1 (q1.mpr t)
    rw [if_neg y1, e81, f_has (by omega) (by omega), bq]
    dsimp only
    by_cases y2 : (acc (fun f s => s ||| f) (fts D r (2 ^ wk)) 0).testBit w = true
    · have := q2.mp y2
      rw [if_pos y2, if_pos ⟨by omega, by omega⟩]; rfl
    · have y2' : ¬ 0 < wt w (fts D r (2 ^ wk)) := fun t => y2 (q2.mpr t)
      rw [if_neg y2, if_neg (fun t => y2' t.1), if_neg y2']; rfl
theorem st2_sw {b : Mem} {v : Int32} : st2 (st2 b 269 0 0) 269 76 v = st2 (st2 b 269 76 v) 269 0 0 := by
  funext m j
  rw [st2_g, st2_g, st2_g, st2_g]
  by_cases e : m = 269 ∧ j = 76
  · rw [if_pos e, if_neg (by omega), if_pos e]
  · rw [if_neg e]
    by_cases e2 : m = 269 ∧ j = 0
    · rw [if_pos e2, if_pos e2]
    · rw [if_neg e2, if_neg e2, if_neg e]
set_option maxHeartbeats 4000000 in
theorem p_fits (x y z d v : Int32) : PAIR (fX11_fits x y z d v) (fX12_fits x y z d v) := PAIR.q (fun a b hR => by
  unfold fX11_fits fX12_fits fX12_hasDiary
  have e0 : (st2 (st2 b 269 0 0) 269 76 d) 274 = b 274 := by rw [st2_c _ _ (by omega), st2_c _ _ (by omega)]
  have fb0 : frM b (st2 (st2 b 269 0 0) 269 76 d) := (frM.st _ _ (by omega)).tr (frM.st _ _ (by omega))
  have tb0 : tM b (st2 (st2 b 269 0 0) 269 76 d) := (tM.st _ _ (by omega)).tr (tM.st _ _ (by omega))
  by_cases hd : ∃ k : Nat, k < 2 ∧ d = nI k ∧ nI k < a 3 3
  · obtain ⟨w, hw, rfl, hm⟩ := hd
    have g1 : fX9_has 1 3 (nI w) a = some (true, a) := (has_pos hR (s := 3) (by omega) hw hm).1
    have i1 : fX12_is 3 (nI w) (st2 (st2 b 269 0 0) 269 76 (nI w)) = some (true, st2 (st2 b 269 0 0) 269 76 (nI w)) := (has_pos hR (s := 3) (by omega) hw hm).2 _ e0
    obtain ⟨D, gD, hCD, hMD⟩ := diary_at hR hw hm
    rw [g1, bq, i1, bq, bq]
    dsimp only
    rw [if_pos rfl, if_pos rfl, st2_sw]
    have tb1 : tM b (st2 b 269 76 (nI w)) := tM.st _ _ (by omega)
    have fb1 : frM b (st2 b 269 76 (nI w)) := frM.st _ _ (by omega)
    have hR1 : RR a (st2 b 269 76 (nI w)) := hR.cg tC.rf tb1
    rcases setup hR1 x y z with ⟨s, n, p, sp, wk, c, B, P, X, rfl, rfl, rfl, hs, hn, hp, os, gB, gP, ok, e12, hBP, hC, b1, l1, l2, l3, l4, l5, l6, l7, l8⟩ | ⟨hC, b1, l1, l6, l7⟩
    · obtain ⟨a1, c1, c2, c3⟩ := hC 40 (by omega)
      have c1' : fX11_play (nI s) (nI n) (nI p) 40 a = some (true, a1) := c1
      rw [c1', bq, l1, bq]
      dsimp only
      rw [if_pos rfl, if_pos rfl, inb_T hw (by omega), gdT, nI_ck (by omega)]
      have em : min 40 (P 0 0) = P 0 0 := by have := gP.1; omega
      rw [em] at c2
      have okR := (rn_ok (c := c) gB gP os.2.2 ok e12 (P 0 0) gP.1).1
      have hr : ∀ f k, f < 2 ^ wk → k < 10 → rcv f c (rnP sp B c P (P 0 0) X) 0 k ≤ 100 := fun f k _ hk => rcv_b okR os.2.2 k hk
      obtain ⟨b2, u1, u2, u3⟩ := m_findSets (x := v - 10) (D := D) l2 hs hn os gB gP ok e12 hBP hp l4 l5 hw gD (by rw [l8 76 (by omega), st2_eq]) (by rw [l6 278 (by omega), tb1 278 (by omega)]; exact hMD) hr
      obtain ⟨a2, w1, w2, w3, w4⟩ := c_sets c2 okR hw gD (by rw [c3 _ (by omega), c3 (19 + 14 * w + 1) (by omega), c3 (19 + 14 * w + 2) (by omega)]; exact hCD) hr
      have o1 := os.2.1
      have p16 : 2 ^ wk ≤ 16 := (Nat.pow_le_pow_right (by decide) o1.2 : 2 ^ wk ≤ 2 ^ 4)
      have hl := fts_len (D := D) (r := fun f => rcv f c (rnP sp B c P (P 0 0) X) 0) (2 ^ wk)
      have hlt : ∀ j, j < (fts D (fun f => rcv f c (rnP sp B c P (P 0 0) X) 0) (2 ^ wk)).length → gL (fts D (fun f => rcv f c (rnP sp B c P (P 0 0) X) 0) (2 ^ wk)) j < 2 ^ wk := fun j hj => fts_lt _ hj
      have h26 : b2 269 26 = nI wk := by rw [u3.1 26 (by omega)]; exact l2.2.2.2.1
      have e2 : a2 146 2 = nI wk := by rw [w4 146 (by omega), c2.1.e3, okR.1.2.2]
      have hsur : ∀ i, i < 4 → _ := fun i hi => m_sure (w := i) u2 h26 o1.1 o1.2 hi (by omega)
      have hask := m_askWhat u2 (by omega)
      have hS : SF a2 (fts D (fun f => rcv f c (rnP sp B c P (P 0 0) X) 0) (2 ^ wk)) (fun f => rcv f c (rnP sp B c P (P 0 0) X) 0) := ⟨w2, by omega, fun j hj => ⟨(w3 j hj).1, by have := hlt j hj; omega, (w3 j hj).2, fun k hk => hr _ k (hlt j hj) hk⟩⟩
      rw [w1, bq, u1, bq]
      generalize fts D (fun f => rcv f c (rnP sp B c P (P 0 0) X) 0) (2 ^ wk) = F at *
      have fa : frC a a2 := c3.C.tr (fun m hm => w4 m (by omega))
      have ta : tC a a2 := c3.t.tr (fun m m1 m2 => w4 m (by omega))
      have fb : frM b b2 := (fb1.tr l7).tr (fun m hm => u3.2 m (by omega))
      have tb : tM b b2 := (tb1.tr l6).tr (fun m hm => u3.2 m (by omega))
      have fin : ∀ r : Int32, ∃ (r' : Int32) (a' b' : Mem), (some (r, a2) : Option (Int32 × Mem)) = some (r', a') ∧ (some (r, b2) : Option (Int32 × Mem)) = some (r', b') ∧ frC a a' ∧ frM b b' ∧ tC a a' ∧ tM b b' := fun r => ⟨r, a2, b2, rfl, rfl, fa, fb, ta, tb⟩
      obtain ⟨f1, ⟨f2, f2'⟩, f3, -⟩ := u2
      by_cases v10 : v < 10
      · rw [if_pos v10, f_in, bq]
        dsimp only
        by_cases v36 : ¬ v < 3 ∧ ¬ (6 : Int32) < v
        · rw [decide_eq_true v36, if_pos rfl]
          obtain ⟨i, hi, rfl⟩ := nI_of (x := v) (fun q => v36.1 (Int32.lt_of_lt_of_le q (by decide)))
          have i1' := v36.1
          have i2' := v36.2
          rw [li3, lt_nn (by omega) (by omega)] at i1'
          rw [li6, lt_nn (by omega) (by omega)] at i2'
          have e3 : nI i - 3 = nI (i - 3) := nI_sub (b := 3) (by omega)
          rw [if_neg (ne0 (show i ≠ 0 by omega) (by omega)), if_neg (ne1 (show i ≠ 1 by omega) (by omega)), if_neg (ne2 (show i ≠ 2 by omega) (by omega)), if_neg v36.1, if_neg (show ¬ (7 : Int32) ≤ nI i by rw [li7, le_nn (by omega) (by omega)]; omega), e3, e2, hsur (i - 3) (by omega)]
          by_cases zw : wk ≤ i - 3
          · rw [if_pos (by rw [le_nn (by omega) (by omega)]; exact zw), if_pos (Or.inr zw)]; exact fin _
          · rw [if_neg (by rw [le_nn (by omega) (by omega)]; exact zw), c_sure hS (by omega)]
            have hor : (F.length = 0 ∨ wk ≤ i - 3) ↔ F.length = 0 := ⟨fun t => t.resolve_right zw, Or.inl⟩
            rw [ifc hor]; exact fin _
        · rw [decide_eq_false v36, if_neg (show ¬ false = true by decide)]
          by_cases v0' : v = 0
          · rw [if_pos v0', if_pos v0', w2, f1]; exact fin _
          rw [if_neg v0', if_neg v0']
          by_cases v1 : v = 1
          · rw [if_pos v1, if_pos v1, c_best hS, hask]; exact fin _
          rw [if_neg v1, if_neg v1]
          by_cases v2 : v = 2
          · rw [if_pos v2, if_pos v2, c_fewest hS, f3]; exact fin _
          rw [if_neg v2, if_neg v2]
          unfold jX11_fits_133
          by_cases v3 : v < 3
          · rw [if_pos v3, if_pos v10]; exact fin _
          · rw [if_neg v3, if_pos v10]
            by_cases v7 : (7 : Int32) ≤ v
            · rw [if_pos v7]; exact fin _
            · exfalso
              obtain ⟨i, hi, rfl⟩ := nI_of (x := v) (fun q => v3 (Int32.lt_of_lt_of_le q (by decide)))
              rw [li7, le_nn (by omega) (by omega)] at v7
              exact v36 ⟨v3, by rw [li6, lt_nn (by omega) (by omega)]; omega⟩
      · rw [if_neg v10]
        obtain ⟨i, hi, rfl⟩ := nI_of (x := v) (fun q => v10 (Int32.lt_of_lt_of_le q (by decide)))
        have v10' := v10
        rw [li10, lt_nn (by omega) (by omega)] at v10'
        have e10 : nI i - 10 = nI (i - 10) := nI_sub (b := 10) (by omega)
        unfold jX11_fits_133
        rw [if_neg (ne0 (show i ≠ 0 by omega) (by omega)), if_neg (ne1 (show i ≠ 1 by omega) (by omega)), if_neg (ne2 (show i ≠ 2 by omega) (by omega)), if_neg (show ¬ nI i < 3 by rw [li3, lt_nn (by omega) (by omega)]; omega), if_pos (show (7 : Int32) ≤ nI i by rw [li7, le_nn (by omega) (by omega)]; omega), if_neg v10, e10, w2]
        by_cases zi : i - 10 < F.length
        · rw [if_neg (by rw [le_nn (by omega) (by omega)]; omega), inb_T (show i - 10 < 16 by omega) (by omega), gdT, nI_ck (by omega), (w3 _ zi).1, f2 _ zi e10]; exact fin _
        · rw [if_pos (by rw [le_nn (by omega) (by omega)]; omega), f2' (fun j hj q => by
            rw [e10, eq_nn (by omega) (by omega)] at q
            omega)]; exact fin _
    · rw [hC, bq, l1, bq]
      exact ⟨_, _, _, rfl, rfl, frC.rf, fb1.tr l7, tC.rf, tb1.tr l6⟩
  · have g1 : fX9_has 1 3 d a = some (false, a) := (has_neg hR (s := 3) (by omega) hd).1
    have i1 : fX12_is 3 d (st2 (st2 b 269 0 0) 269 76 d) = some (false, st2 (st2 b 269 0 0) 269 76 d) := (has_neg hR (s := 3) (by omega) hd).2 _ e0
    rw [g1, bq, i1, bq, bq]
    exact ⟨_, _, _, rfl, rfl, frC.rf, fb0, tC.rf, tb0⟩)
