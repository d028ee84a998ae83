/-! ===== text: lines of deeds, in the reference ===== -/
theorem deedBy_w {b : Mem} : ∀ w, 10 ≤ w → w < 17 → fX12_deedBy (KW w) b = some (nI (w - 10), b) := by
  intro w h1 h2
  obtain ⟨-, -, -, -, -, -, -, -, -, -, e0, e1, e2, e3, e4, e5, e6, -⟩ := KW_v
  unfold fX12_deedBy
  rcases (show w = 10 ∨ w = 11 ∨ w = 12 ∨ w = 13 ∨ w = 14 ∨ w = 15 ∨ w = 16 by omega) with rfl | rfl | rfl | rfl | rfl | rfl | rfl
  · rw [e0, if_pos rfl]; rfl
  · rw [e1, if_neg (by decide), if_pos rfl]; rfl
  · rw [e2, if_neg (by decide), if_neg (by decide), if_pos rfl]; rfl
  · rw [e3, if_neg (by decide), if_neg (by decide), if_neg (by decide), if_pos rfl]; rfl
  · rw [e4, if_neg (by decide), if_neg (by decide), if_neg (by decide), if_neg (by decide), if_pos rfl]; rfl
  · rw [e5, if_neg (by decide), if_neg (by decide), if_neg (by decide), if_neg (by decide), if_neg (by decide), if_pos rfl]; rfl
  · rw [e6, if_neg (by decide), if_neg (by decide), if_neg (by decide), if_neg (by decide), if_neg (by decide), if_neg (by decide), if_pos rfl]; rfl
theorem plan_w : ∀ w, w < 17 → 10 ≤ w → (nwd w = if w ≤ 11 then 0 else if w ≤ 15 then 1 else 2) ∧ (12 ≤ w → loW w = 0 ∧ hiW w = 3) := by decide +kernel
/-- the row of a line of deeds is kept -/
theorem m_prow {e : Mem} {S : Nat} {kd : Nat} (h0 : e 279 0 = nI S) (hS : S ≤ 40) : ∃ g, ((fX12_keepRow 3 40 (st2 e 280 0 (nI kd))).bind fun q7 => some (true, q7)) = some (true, g) ∧ g 279 0 = nI (min 40 (S + 1)) ∧ (S < 40 → g 279 (1 + 3 * S) = nI kd ∧ g 279 (2 + 3 * S) = e 280 1 ∧ g 279 (3 + 3 * S) = e 280 2) ∧ (∀ j, j ≠ 0 → (S < 40 → ¬ (1 + 3 * S ≤ j ∧ j < 1 + 3 * S + 3)) → g 279 j = e 279 j) ∧ g 269 = e 269 ∧ ∀ m, m ≠ 279 → m ≠ 280 → g m = e m := by
  obtain ⟨g, g1, g2, g3, g4, g5⟩ := m_keepRow (b := st2 e 280 0 (nI kd)) (k := 3) (cap := 40) (by omega) (by omega) (by omega) (by rw [st2_o _ _ (by omega)]; exact h0) hS
  have g1' : fX12_keepRow 3 40 (st2 e 280 0 (nI kd)) = some g := g1
  rw [g1', bq]
  refine ⟨g, rfl, g2, fun q => ⟨?_, ?_, ?_⟩, fun j j1 j2 => by rw [g4 j j1 j2, st2_o _ _ (by omega)], by rw [g5 _ (by omega), st2_c _ _ (by omega)], fun m m1 m2 => by rw [g5 m m1, st2_c _ _ m2]⟩
  · have := g3 q 0 (by omega); rw [Nat.add_zero, st2_eq] at this; exact this
  · have := g3 q 1 (by omega); rw [st2_o _ _ (by omega)] at this; rw [show 2 + 3 * S = 1 + 3 * S + 1 by omega]; exact this
  · have := g3 q 2 (by omega); rw [st2_o _ _ (by omega)] at this; rw [show 3 + 3 * S = 1 + 3 * S + 2 by omega]; exact this
set_option maxHeartbeats 2000000 in
theorem m_plan {b : Mem} {T : Nat → Nat} {n i S w : Nat} {f : Nat × Nat} (oT : okT T) (hn : n ≤ 600) (hi : i ≤ n) (hL : LB b T n i f) (h0 : b 279 0 = nI S) (hS : S ≤ 40) (w1 : 10 ≤ w) (w2 : w < 17) (k0 : tK T n (pj T n i 0) = 2) :
    ((∀ j, 1 ≤ j → j ≤ nwd w → tK T n (pj T n i j) = 3) → ∃ b', fX12_planLine (KW w) (nI (pj T n i 0)) b = some (true, b') ∧ MK b' T n (pj T n i (nwd w + 1)) ∧ FS b' (lft T n i w (!decide (S < 40)) f).1 (lft T n i w (!decide (S < 40)) f).2 ∧ b' 279 0 = nI (min 40 (S + 1)) ∧ (S < 40 → b' 279 (1 + 3 * S) = nI (w - 10) ∧ b' 279 (2 + 3 * S) = ov T n i w 1 ∧ b' 279 (3 + 3 * S) = ov T n i w 2) ∧ (∀ j, j ≠ 0 → (S < 40 → ¬ (1 + 3 * S ≤ j ∧ j < 1 + 3 * S + 3)) → b' 279 j = b 279 j) ∧ fr3 b b') ∧
    (∀ j, 1 ≤ j → j ≤ nwd w → tK T n (pj T n i j) ≠ 3 → (∀ k, 1 ≤ k → k < j → tK T n (pj T n i k) = 3) → ∃ b', fX12_planLine (KW w) (nI (pj T n i 0)) b = some (false, b') ∧ b' 269 16 = nI (pj T n i j) ∧ fr3 b b') := by
  obtain ⟨b1, b2', p1, p2, p3, p4, p5, p6, p7⟩ := m_pre (cap := 40) oT hn hi hL h0 (by omega) (by omega)
  have p1' : fX12_full 0 40 (nI (pj T n i 0)) b = some b1 := p1
  have hp0 : pj T n i 0 < pj T n i 1 := pj_l hi 0 (by omega)
  have hlt1 := af_lt (c := !decide (S < 40)) (k := 3) hL.2.2 hp0
  obtain ⟨hN, hW⟩ := plan_w w w2 w1
  generalize hc : st2 (st2 b2' 280 1 (-1)) 280 2 (-1) = c
  have cM : MK c T n (pj T n i 1) := p3.c (by rw [← hc, st2_c _ _ (by omega), st2_c _ _ (by omega)]) (fun j _ => by rw [← hc, st2_o _ _ (by omega), st2_o _ _ (by omega)])
  have cF : FS c (af (!decide (S < 40)) 3 (pj T n i 0) f).1 (af (!decide (S < 40)) 3 (pj T n i 0) f).2 := p4.c (by rw [← hc, st2_o _ _ (by omega), st2_o _ _ (by omega)]) (by rw [← hc, st2_o _ _ (by omega), st2_o _ _ (by omega)])
  have fc : frK2 b c := p5.tr (by rw [← hc]; exact ⟨fun j _ => by rw [st2_o _ _ (by omega), st2_o _ _ (by omega)], fun m _ m2 => by rw [st2_c _ _ m2, st2_c _ _ m2]⟩)
  have c1 : c 280 1 = -1 := by rw [← hc, st2_o _ _ (by omega), st2_eq]
  have c2 : c 280 2 = -1 := by rw [← hc, st2_eq]
  have c279 : c 279 = b 279 := fc.2 279 (by omega) (by omega)
  have hcode : fX12_planLine (KW w) (nI (pj T n i 0)) b = if nI (w - 10) ≤ 1 then (jX12_planLine_60 (nI (w - 10)) c) else ((fX12_take 1 0 3 c).bind fun q14 => if q14.1 = true then (jX12_planLine_60 (nI (w - 10)) q14.2) else (some (false, q14.2))) := by
    unfold fX12_planLine
    rw [deedBy_w w w1 w2, bq]
    dsimp only
    rw [if_neg (show ¬ nI (w - 10) = -1 by rw [show (-1 : Int32) = vI 0 from rfl, show nI (w - 10) = vI (w - 10 + 1) from rfl, eq_vv (by omega) (by omega)]; omega), p1', bq, p2, bq, hc]
  rw [hcode]
  clear hc
  by_cases z : w ≤ 11
  · rw [if_pos z] at hN
    rw [if_pos (show nI (w - 10) ≤ 1 from (le_nn (b := 1) (by omega) (by omega)).mpr (by omega)), hN]
    refine ⟨fun _ => ?_, fun j j1 j2 => absurd j2 (by omega)⟩
    obtain ⟨g, g1, g2, g3, g4, g5, g6⟩ := m_prow (e := c) (kd := w - 10) (by rw [c279]; exact h0) hS
    unfold jX12_planLine_60
    rw [if_neg (show ¬ nI (w - 10) = 6 from lit_ne (m := 6) (by omega) (by omega) (by omega)), g1]
    refine ⟨g, rfl, cM.c (g6 _ (by omega) (by omega)) (fun j _ => by rw [g5]), ?_, g2, fun q => ⟨(g3 q).1, ?_, ?_⟩, fun j j1 j2 => by rw [g4 j j1 j2, c279], fc.r.tr ⟨by rw [g5], fun m m1 m2 m3 => g6 m m2 m3⟩⟩
    · unfold lft lf1
      rw [if_neg (by omega), if_neg (by omega)]
      exact cF.c (by rw [g5]) (by rw [g5])
    · rw [(g3 q).2.1, c1]; unfold ov; rw [if_neg (by omega)]
    · rw [(g3 q).2.2, c2]; unfold ov; rw [if_neg (by omega)]
  · rw [if_neg z] at hN
    obtain ⟨lo, hi'⟩ := hW (by omega)
    rw [if_neg (show ¬ nI (w - 10) ≤ 1 from fun q => absurd ((le_nn (b := 1) (by omega) (by omega)).mp q) (by omega))]
    by_cases k1 : tK T n (pj T n i 1) = 3
    · obtain ⟨d, d1, d2, d3, d4, d5, d6, d7⟩ := m_take (x := 1) (l := 0) (h := 3) oT hn hi cM (by omega) (by omega) (by omega) k1 cF hlt1
      have d1' : fX12_take 1 0 3 c = some (true, d) := d1
      have hp1 : pj T n i 1 < pj T n i 2 := pj_l hi 1 (by omega)
      have d279 : d 279 = b 279 := by rw [d7.2 279 (by omega) (by omega), c279]
      have hf1 : lf1 T n i w (!decide (S < 40)) f = af (!inR (tN T n (pj T n i 1)) 0 3) 2 (pj T n i 1) (af (!decide (S < 40)) 3 (pj T n i 0) f) := by
        unfold lf1; rw [if_pos (by rw [hN]; split <;> omega), lo, hi']
      rw [d1', bq]
      dsimp only
      rw [if_pos (show true = true from rfl)]
      unfold jX12_planLine_60
      by_cases z2 : w ≤ 15
      · rw [if_pos z2] at hN
        rw [if_neg (show ¬ nI (w - 10) = 6 from lit_ne (m := 6) (by omega) (by omega) (by omega)), hN]
        refine ⟨fun _ => ?_, fun j j1 j2 j3 _ => absurd j3 (by rcases (show j = 1 by omega) with rfl; exact fun q => q k1)⟩
        obtain ⟨g, g1, g2, g3, g4, g5, g6⟩ := m_prow (e := d) (kd := w - 10) (by rw [d279]; exact h0) hS
        rw [g1]
        refine ⟨g, rfl, d2.c (g6 _ (by omega) (by omega)) (fun j _ => by rw [g5]), ?_, g2, fun q => ⟨(g3 q).1, ?_, ?_⟩, fun j j1 j2 => by rw [g4 j j1 j2, d279], fc.r.tr (d7.r.tr ⟨by rw [g5], fun m m1 m2 m3 => g6 m m2 m3⟩)⟩
        · unfold lft
          rw [if_neg (by omega), hf1]
          exact d3.c (by rw [g5]) (by rw [g5])
        · rw [(g3 q).2.1, d4]; unfold ov; rw [if_pos (by omega)]
        · rw [(g3 q).2.2, d5 2 (by omega), c2]; unfold ov; rw [if_neg (by omega)]
      · rw [if_neg z2] at hN
        have hw6 : w = 16 := by omega
        have hlt2 := af_lt (c := !inR (tN T n (pj T n i 1)) 0 3) (k := 2) hlt1 hp1
        rw [if_pos (show nI (w - 10) = 6 by rw [hw6]; rfl), hN]
        by_cases k2 : tK T n (pj T n i 2) = 3
        · refine ⟨fun _ => ?_, fun j j1 j2 j3 _ => absurd j3 (by rcases (show j = 1 ∨ j = 2 by omega) with rfl | rfl; exact fun q => q k1; exact fun q => q k2)⟩
          obtain ⟨e, e1, e2, e3, e4, e5, e6, e7⟩ := m_take (x := 2) (l := 0) (h := 6) oT hn hi d2 (by omega) (by omega) (by omega) k2 d3 hlt2
          have e1' : fX12_take 2 0 6 d = some (true, e) := e1
          have e279 : e 279 = b 279 := by rw [e7.2 279 (by omega) (by omega), d279]
          obtain ⟨g, g1, g2, g3, g4, g5, g6⟩ := m_prow (e := e) (kd := w - 10) (by rw [e279]; exact h0) hS
          rw [e1', bq]
          dsimp only
          rw [if_pos (show true = true from rfl), g1]
          refine ⟨g, rfl, e2.c (g6 _ (by omega) (by omega)) (fun j _ => by rw [g5]), ?_, g2, fun q => ⟨(g3 q).1, ?_, ?_⟩, fun j j1 j2 => by rw [g4 j j1 j2, e279], fc.r.tr (d7.r.tr (e7.r.tr ⟨by rw [g5], fun m m1 m2 m3 => g6 m m2 m3⟩))⟩
          · unfold lft
            rw [if_pos (by omega), hf1, if_neg (by omega), show h2W w = 6 by rw [hw6]; decide]
            exact e3.c (by rw [g5]) (by rw [g5])
          · rw [(g3 q).2.1, e5 1 (by omega), d4]; unfold ov; rw [if_pos (by omega)]
          · rw [(g3 q).2.2, e4]; unfold ov; rw [if_pos (by omega)]
        · refine ⟨fun h => absurd (h 2 (by omega) (by omega)) k2, fun j j1 j2 j3 _ => ?_⟩
          rcases (show j = 1 ∨ j = 2 by omega) with rfl | rfl
          · exact absurd k1 j3
          · rw [m_takeF d2 k2, bq]
            exact ⟨st2 d 269 16 (nI (pj T n i 2)), rfl, st2_eq _ _ _ _, fc.r.tr (d7.r.tr fr3.st)⟩
    · have hN1 : 1 ≤ nwd w := by rw [hN]; split <;> omega
      refine ⟨fun h => absurd (h 1 (by omega) hN1) k1, fun j j1 j2 j3 j4 => ?_⟩
      by_cases e : j = 1
      · rw [e, m_takeF cM k1, bq]
        exact ⟨st2 c 269 16 (nI (pj T n i 1)), rfl, st2_eq _ _ _ _, fc.r.tr fr3.st⟩
      · exact absurd (j4 1 (by omega) (by omega)) k1
