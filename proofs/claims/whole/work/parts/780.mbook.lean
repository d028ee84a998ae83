/-! ===== text: lines of tasks, in the reference ===== -/
theorem stepBy_w {b : Mem} : ∀ w, 3 ≤ w → w < 9 → fX12_stepBy (KW w) b = some (nI (w - 3), b) := by
  intro w h1 h2
  obtain ⟨-, -, -, e0, e1, e2, e3, e4, e5, -⟩ := KW_v
  unfold fX12_stepBy
  rcases (show w = 3 ∨ w = 4 ∨ w = 5 ∨ w = 6 ∨ w = 7 ∨ w = 8 by omega) with rfl | rfl | rfl | rfl | rfl | rfl
  · rw [e0, if_pos rfl]; rfl
  · rw [e1, if_neg (by decide), if_pos rfl]; rfl
  · rw [e2, if_neg (by decide), if_neg (by decide), if_pos rfl]; rfl
  · rw [e3, if_neg (by decide), if_neg (by decide), if_neg (by decide), if_pos rfl]; rfl
  · rw [e4, if_neg (by decide), if_neg (by decide), if_neg (by decide), if_neg (by decide), if_pos rfl]; rfl
  · rw [e5, if_neg (by decide), if_neg (by decide), if_neg (by decide), if_neg (by decide), if_neg (by decide), if_pos rfl]; rfl
theorem bse {α β : Type} (x : Option (α × β)) : (x.bind fun q => some (q.1, q.2)) = x := by cases x <;> rfl
theorem stepBy_9 {b : Mem} : ∃ x, fX12_stepBy (KW 9) b = some (x, b) := by
  unfold fX12_stepBy
  obtain ⟨-, -, -, -, -, -, -, -, -, e9, -⟩ := KW_v
  rw [e9, if_neg (by decide), if_neg (by decide), if_neg (by decide), if_neg (by decide), if_neg (by decide), if_neg (by decide)]
  exact ⟨_, rfl⟩
theorem step_ne9 : ∀ w, w < 9 → KW w ≠ KW 9 := by decide +kernel
def fr4 (b b' : Mem) : Prop := ∀ m, m ≠ 269 → m ≠ 279 → m ≠ 280 → b' m = b m
theorem m_task {b : Mem} {T : Nat → Nat} {n i t : Nat} {f : Nat × Nat} (oT : okT T) (hn : n ≤ 600) (hi : i ≤ n) (hL : LB b T n i f) (h0 : b 279 0 = nI t) (ht : t ≤ 7) :
    ∃ b', fX12_bookLine (KW 9) (nI (pj T n i 0)) b = some (true, b') ∧ MK b' T n (pj T n i 1) ∧ FS b' (lft T n i 9 (!decide (t < 7)) f).1 (lft T n i 9 (!decide (t < 7)) f).2 ∧ b' 269 22 = nI (t + 1) ∧ b' 279 0 = nI (min 7 (t + 1)) ∧ (∀ j, j ≠ 0 → b' 279 j = b 279 j) ∧ fr4 b b' := by
  obtain ⟨b1, b2', p1, p2, p3, p4, p5, p6, p7⟩ := m_pre (cap := 7) oT hn hi hL h0 (by omega) (by omega)
  have p1' : fX12_full 0 7 (nI (pj T n i 0)) b = some b1 := p1
  obtain ⟨x, hx⟩ := stepBy_9 (b := b)
  have e9 : KW 9 = 1952543595 := KW_v.2.2.2.2.2.2.2.2.2.1
  have h279 : b2' 279 = b 279 := p5.2 279 (by omega) (by omega)
  have hl7 : ∀ σ : Mem, fX12_lesser 7 (nI (t + 1)) σ = some (nI (min 7 (t + 1)), σ) := fun σ => f_lesser (x := 7) (by omega) (by omega) σ
  unfold fX12_bookLine
  rw [hx, bq]
  dsimp only
  rw [if_pos e9]
  unfold fX12_taskLine
  rw [p1', bq, p2, bq, h279, h0, nI_1, st2_eq, hl7, bq, bq]
  have hf : lft T n i 9 (!decide (t < 7)) f = af (!decide (t < 7)) 3 (pj T n i 0) f := by
    unfold lft lf1
    rw [if_neg (show ¬ 2 ≤ nwd 9 by decide), if_neg (show ¬ 1 ≤ nwd 9 by decide)]
  rw [hf]
  refine ⟨st2 (st2 b2' 269 22 (nI (t + 1))) 279 0 (nI (min 7 (t + 1))), rfl, p3.c (by rw [st2_c _ _ (by omega), st2_c _ _ (by omega)]) (fun j hj => by rw [st2_c _ _ (by omega), st2_o _ _ (by unfold jT at hj; omega)]), p4.c (by rw [st2_c _ _ (by omega), st2_o _ _ (by omega)]) (by rw [st2_c _ _ (by omega), st2_o _ _ (by omega)]), by rw [st2_c _ _ (by omega), st2_eq], st2_eq _ _ _ _, fun j hj => by rw [st2_o _ _ (by omega), st2_c _ _ (by omega), h279], fun m m1 m2 m3 => by rw [st2_c _ _ m2, st2_c _ _ m1, p5.2 m m1 m3]⟩
theorem vI_m {u : Nat} : nI u - 1 = vI u := by
  cases u with
  | zero => rfl
  | succ m => exact nI_sub (a := m + 1) (b := 1) (by omega)
/-- a step is kept, if there is room -/
theorem m_j109 {e : Mem} {kd u S : Nat} (hu : u ≤ 8) (hS : 1 ≤ u → u ≤ 7 → e 279 (1 + 19 * (u - 1)) = nI S ∧ S ≤ 6) :
    ∃ g, jX12_stepLine_109 (nI kd) (nI u - 1) (1 + 19 * (nI u - 1)) e = some (true, g) ∧ (¬ (1 ≤ u ∧ u ≤ 7) → g = e) ∧ (1 ≤ u → u ≤ 7 → g 279 (1 + 19 * (u - 1)) = nI (min 6 (S + 1)) ∧ (S < 6 → g 279 (1 + 19 * (u - 1) + 1 + 3 * S) = nI kd ∧ g 279 (1 + 19 * (u - 1) + 2 + 3 * S) = e 280 0 ∧ g 279 (1 + 19 * (u - 1) + 3 + 3 * S) = e 280 1) ∧ ∀ j, j ≠ 1 + 19 * (u - 1) → (S < 6 → ¬ (1 + 19 * (u - 1) + 1 + 3 * S ≤ j ∧ j ≤ 1 + 19 * (u - 1) + 3 + 3 * S)) → g 279 j = e 279 j) ∧ ∀ m, m ≠ 279 → g m = e m := by
  unfold jX12_stepLine_109
  rw [f_in, bq]
  dsimp only
  by_cases z : 1 ≤ u ∧ u ≤ 7
  · obtain ⟨s1, s2⟩ := hS z.1 z.2
    have e1 : nI u - 1 = nI (u - 1) := nI_sub (b := 1) z.1
    have e2 : (1 : Int32) + 19 * nI (u - 1) = nI (1 + 19 * (u - 1)) := by rw [show (19 : Int32) = nI 19 from rfl, pk_mul, show (1 : Int32) = nI 1 from rfl, nI_add]
    rw [e1, e2]
    generalize hx : 1 + 19 * (u - 1) = x at *
    have hx2 : x ≤ 115 := by omega
    rw [decide_eq_true (show ¬ nI (u - 1) < 0 ∧ ¬ (6 : Int32) < nI (u - 1) from ⟨by rw [li0, lt_nn (by omega) (by omega)]; omega, by rw [show (6 : Int32) = nI 6 from rfl, lt_nn (by omega) (by omega)]; omega⟩), if_pos rfl, inb_T (show x < 134 by omega) (by omega), gdT, nI_ck (by omega)]
    have hl6 : ∀ σ : Mem, fX12_lesser 6 (nI (S + 1)) σ = some (nI (min 6 (S + 1)), σ) := fun σ => f_lesser (x := 6) (by omega) (by omega) σ
    by_cases z6 : S < 6
    · have a3 : (3 : Int32) * nI S = nI (3 * S) := by rw [show (3 : Int32) = nI 3 from rfl, pk_mul]
      have x1 : nI x + 1 + nI (3 * S) = nI (x + 1 + 3 * S) := by rw [show (1 : Int32) = nI 1 from rfl, nI_add, nI_add]
      have x2 : nI x + 2 + nI (3 * S) = nI (x + 2 + 3 * S) := by rw [show (2 : Int32) = nI 2 from rfl, nI_add, nI_add]
      have x3 : nI x + 3 + nI (3 * S) = nI (x + 3 + 3 * S) := by rw [show (3 : Int32) = nI 3 from rfl, nI_add, nI_add]
      rw [if_neg (show ¬ (6 : Int32) ≤ e 279 x by rw [s1]; exact fun q => absurd ((le_nn (a := 6) (by omega) (by omega)).mp q) (by omega)), s1, a3, x1, x2, x3, inb_T (show x + 1 + 3 * S < 134 by omega) (by omega), gdT, inb_T (show x + 2 + 3 * S < 134 by omega) (by omega), gdT, inb_T (show x + 3 + 3 * S < 134 by omega) (by omega), bq, gdT, nI_ck (by omega), nI_ck (by omega), nI_ck (by omega), bq, nI_1, hl6, bq, gdT]
      rw [st2_o _ _ (show ¬ (280 = 279 ∧ 0 = x + 1 + 3 * S) by omega), st2_o _ _ (show ¬ (280 = 279 ∧ 1 = x + 2 + 3 * S) by omega), st2_o _ _ (show ¬ (280 = 279 ∧ 1 = x + 1 + 3 * S) by omega)]
      refine ⟨st2 (st2 (st2 (st2 e 279 (x + 1 + 3 * S) (nI kd)) 279 (x + 2 + 3 * S) (e 280 0)) 279 (x + 3 + 3 * S) (e 280 1)) 279 x (nI (min 6 (S + 1))), rfl, fun q => absurd z q, fun _ _ => ⟨st2_eq _ _ _ _, fun _ => ⟨?_, ?_, ?_⟩, fun j j1 j2 => ?_⟩, fun m hm => by rw [st2_c _ _ hm, st2_c _ _ hm, st2_c _ _ hm, st2_c _ _ hm]⟩
      · rw [st2_o _ _ (by omega), st2_o _ _ (by omega), st2_o _ _ (by omega), st2_eq]
      · rw [st2_o _ _ (by omega), st2_o _ _ (by omega), st2_eq]
      · rw [st2_o _ _ (by omega), st2_eq]
      · have := j2 z6
        rw [st2_o _ _ (by omega), st2_o _ _ (by omega), st2_o _ _ (by omega), st2_o _ _ (by omega)]
    · rw [if_pos (show (6 : Int32) ≤ e 279 x by rw [s1]; exact (le_nn (a := 6) (by omega) (by omega)).mpr (by omega)), s1, bq, nI_1, hl6, bq, gdT]
      exact ⟨_, rfl, fun q => absurd z q, fun _ _ => ⟨st2_eq _ _ _ _, fun q => absurd q z6, fun j j1 _ => st2_o _ _ (by omega)⟩, fun m hm => st2_c _ _ hm⟩
  · have hd : decide (¬ nI u - 1 < 0 ∧ ¬ (6 : Int32) < nI u - 1) = false := by
      rcases (show u = 0 ∨ u = 8 by omega) with rfl | rfl <;> decide
    rw [hd, if_neg (by decide)]
    exact ⟨e, rfl, fun _ => rfl, fun q1 q2 => absurd ⟨q1, q2⟩ z, fun _ _ => rfl⟩
theorem step_w : ∀ w, w < 9 → 3 ≤ w → (nwd w = if w < 6 then 1 else 2) ∧ loW w = 0 ∧ hiW w = 9 ∧ (6 ≤ w → h2W w = if w = 8 then 9 else 99) := by decide +kernel
def tmS (u S : Nat) : Bool := decide (u = 0 ∨ (u ≤ 7 ∧ S = 6))
set_option maxHeartbeats 2000000 in
theorem m_step {b : Mem} {T : Nat → Nat} {n i w u S : Nat} {f : Nat × Nat} (oT : okT T) (hn : n ≤ 600) (hi : i ≤ n) (hL : LB b T n i f) (hU : b 269 22 = nI u) (hu : u ≤ 8) (hS : 1 ≤ u → u ≤ 7 → b 279 (1 + 19 * (u - 1)) = nI S ∧ S ≤ 6) (w1 : 3 ≤ w) (w2 : w < 9) (k0 : tK T n (pj T n i 0) = 2) :
    ((∀ j, 1 ≤ j → j ≤ nwd w → tK T n (pj T n i j) = 3) → ∃ b', fX12_bookLine (KW w) (nI (pj T n i 0)) b = some (true, b') ∧ MK b' T n (pj T n i (nwd w + 1)) ∧ FS b' (lft T n i w (tmS u S) f).1 (lft T n i w (tmS u S) f).2 ∧ (¬ (1 ≤ u ∧ u ≤ 7) → b' 279 = b 279) ∧ (1 ≤ u → u ≤ 7 → b' 279 (1 + 19 * (u - 1)) = nI (min 6 (S + 1)) ∧ (S < 6 → b' 279 (1 + 19 * (u - 1) + 1 + 3 * S) = nI (w - 3) ∧ b' 279 (1 + 19 * (u - 1) + 2 + 3 * S) = ov T n i w 1 ∧ b' 279 (1 + 19 * (u - 1) + 3 + 3 * S) = ov T n i w 2) ∧ ∀ j, j ≠ 1 + 19 * (u - 1) → (S < 6 → ¬ (1 + 19 * (u - 1) + 1 + 3 * S ≤ j ∧ j ≤ 1 + 19 * (u - 1) + 3 + 3 * S)) → b' 279 j = b 279 j) ∧ fr3 b b') ∧
    (∀ j, 1 ≤ j → j ≤ nwd w → tK T n (pj T n i j) ≠ 3 → (∀ k, 1 ≤ k → k < j → tK T n (pj T n i k) = 3) → ∃ b', fX12_bookLine (KW w) (nI (pj T n i 0)) b = some (false, b') ∧ b' 269 16 = nI (pj T n i j) ∧ fr3 b b') := by
  obtain ⟨hM, hF, hlt⟩ := hL
  have hp := pj_le (T := T) hi 0
  have hp0 : pj T n i 0 < pj T n i 1 := pj_l hi 0 (by omega)
  obtain ⟨hN, lo, hh, h2⟩ := step_w w w2 w1
  -- is it too much
  have hq : ∃ b1, ((if ((b 269 22) - 1) < 0 then ((fX12_addsFault 3 (nI (pj T n i 0)) b).bind fun q2 => some q2) else (if 7 ≤ ((b 269 22) - 1) then (some b) else (gd (inb ((1 : Int32) + ((19 : Int32) * ((b 269 22) - 1))) 134) (if (b 279 (Int32.toNatClampNeg ((1 : Int32) + ((19 : Int32) * ((b 269 22) - 1))))) = 6 then ((fX12_addsFault 3 (nI (pj T n i 0)) b).bind fun q7 => some q7) else (some b))))) : Option Mem) = some b1 ∧ FS b1 (af (tmS u S) 3 (pj T n i 0) f).1 (af (tmS u S) 3 (pj T n i 0) f).2 ∧ frm jF b b1 := by
    obtain ⟨b1, r1, r2, r3⟩ := m_add (k := 3) hF (by omega) (show pj T n i 0 < 1000 by omega) hlt
    have r1' : fX12_addsFault 3 (nI (pj T n i 0)) b = some b1 := r1
    rw [hU]
    by_cases z0 : u = 0
    · rw [if_pos (by rw [z0]; decide), r1', bq, show tmS u S = true from decide_eq_true (Or.inl z0)]
      exact ⟨b1, rfl, r2, r3⟩
    · have e1 : nI u - 1 = nI (u - 1) := nI_sub (b := 1) (by omega)
      rw [e1, if_neg (by rw [li0, lt_nn (by omega) (by omega)]; omega)]
      by_cases z8 : u = 8
      · rw [if_pos (by rw [z8]; decide), show tmS u S = false from decide_eq_false (by omega), af_f]
        exact ⟨b, rfl, hF, frm.rf⟩
      · have e2 : (1 : Int32) + 19 * nI (u - 1) = nI (1 + 19 * (u - 1)) := by rw [show (19 : Int32) = nI 19 from rfl, pk_mul, show (1 : Int32) = nI 1 from rfl, nI_add]
        obtain ⟨s1, s2⟩ := hS (by omega) (by omega)
        rw [if_neg (show ¬ (7 : Int32) ≤ nI (u - 1) from fun q => absurd ((le_nn (a := 7) (by omega) (by omega)).mp q) (by omega)), e2, inb_T (show 1 + 19 * (u - 1) < 134 by omega) (by omega), gdT, nI_ck (by omega), s1]
        by_cases z6 : S = 6
        · rw [if_pos (by rw [z6]; rfl), r1', bq, show tmS u S = true from decide_eq_true (Or.inr ⟨by omega, z6⟩)]
          exact ⟨b1, rfl, r2, r3⟩
        · rw [if_neg (show ¬ nI S = 6 from lit_ne (m := 6) z6 (by omega) (by omega)), show tmS u S = false from decide_eq_false (by omega), af_f]
          exact ⟨b, rfl, hF, frm.rf⟩
  obtain ⟨b1, q1, q2, q3⟩ := hq
  have m1 : MK b1 T n (pj T n i 0) := hM.c (q3.2 _ (by omega)) (fun j hj => q3.1 j (by unfold jF; unfold jT at hj; omega))
  obtain ⟨b2', t1, t2, t3⟩ := m_tok oT hn (tE_le hp).2.1 m1.1
  have hlt1 := af_lt (c := tmS u S) (k := 3) hlt hp0
  generalize hc : st2 b2' 280 1 (-1) = c
  have cM : MK c T n (pj T n i 1) := MK.c (T := T) (p := pj T n i 1) t2 (by rw [← hc, st2_c _ _ (by omega)]) (fun j _ => by rw [← hc, st2_o _ _ (by omega)])
  have cF : FS c (af (tmS u S) 3 (pj T n i 0) f).1 (af (tmS u S) 3 (pj T n i 0) f).2 := q2.c (by rw [← hc, st2_o _ _ (by omega), t3.1 17 (by unfold jT; omega)]) (by rw [← hc, st2_o _ _ (by omega), t3.1 18 (by unfold jT; omega)])
  have fc : frK2 b c := ((frK2.of q3 (fun j hj => Or.inr (Or.inl hj))).tr (frK2.of t3 (fun j hj => Or.inl hj))).tr (by rw [← hc]; exact ⟨fun j _ => st2_o _ _ (by omega), fun m _ m2 => st2_c _ _ m2⟩)
  have c1 : c 280 1 = -1 := by rw [← hc, st2_eq]
  have c279 : c 279 = b 279 := fc.2 279 (by omega) (by omega)
  have hcode : fX12_bookLine (KW w) (nI (pj T n i 0)) b = (fX12_take 0 0 9 c).bind fun q11 => if q11.1 = true then (if nI (w - 3) < 3 then (jX12_stepLine_109 (nI (w - 3)) (nI u - 1) (1 + 19 * (nI u - 1)) q11.2) else ((if nI (w - 3) = 5 then (some (q11.2 280 0)) else (some 0) : Option (Int32)).bind fun q29 => (if nI (w - 3) = 5 then (some 9) else (some 99) : Option (Int32)).bind fun q31 => (fX12_take 1 q29 q31 q11.2).bind fun q32 => if q32.1 = true then (jX12_stepLine_109 (nI (w - 3)) (nI u - 1) (1 + 19 * (nI u - 1)) q32.2) else (some (false, q32.2)))) else (some (false, q11.2)) := by
    unfold fX12_bookLine
    rw [stepBy_w w w1 w2, bq]
    dsimp only
    rw [if_neg (show ¬ KW w = 1952543595 by rw [← KW_v.2.2.2.2.2.2.2.2.2.1]; exact step_ne9 w w2), if_neg (show ¬ nI (w - 3) = -1 by rw [show (-1 : Int32) = vI 0 from rfl, show nI (w - 3) = vI (w - 3 + 1) from rfl, eq_vv (by omega) (by omega)]; omega)]
    unfold fX12_stepLine
    rw [q1, bq, hU]
    unfold jX12_stepLine_43
    rw [t1, bq, hc]
    exact bse _
  rw [hcode]
  clear hc
  by_cases k1 : tK T n (pj T n i 1) = 3
  · obtain ⟨d, d1, d2, d3, d4, d5, d6, d7⟩ := m_take (x := 0) (l := 0) (h := 9) oT hn hi cM (by omega) (by omega) (by omega) k1 cF hlt1
    have d1' : fX12_take 0 0 9 c = some (true, d) := d1
    have hp1 : pj T n i 1 < pj T n i 2 := pj_l hi 1 (by omega)
    have hv1 := tN_b k1
    have d279 : d 279 = b 279 := by rw [d7.2 279 (by omega) (by omega), c279]
    have hf1 : lf1 T n i w (tmS u S) f = af (!inR (tN T n (pj T n i 1)) 0 9) 2 (pj T n i 1) (af (tmS u S) 3 (pj T n i 0) f) := by
      unfold lf1; rw [if_pos (show 1 ≤ nwd w by rw [hN]; split <;> omega), lo, hh]
    rw [d1', bq]
    dsimp only
    rw [if_pos (show true = true from rfl)]
    by_cases z : w < 6
    · rw [if_pos z] at hN
      rw [if_pos (show nI (w - 3) < 3 from (lt_nn (b := 3) (by omega) (by omega)).mpr (by omega)), hN]
      refine ⟨fun _ => ?_, fun j j1 j2 j3 _ => absurd j3 (by rcases (show j = 1 by omega) with rfl; exact fun q => q k1)⟩
      obtain ⟨g, g1, g2, g3, g4⟩ := m_j109 (e := d) (kd := w - 3) (u := u) (S := S) hu (by rw [d279]; exact hS)
      rw [g1]
      refine ⟨g, rfl, d2.c (g4 _ (by omega)) (fun j _ => by rw [g4 269 (by omega)]), ?_, fun q => by rw [g2 q, d279], fun q1 q2 => ?_, fc.r.tr (d7.r.tr ⟨by rw [g4 269 (by omega)], fun m m1 m2 m3 => g4 m m2⟩)⟩
      · unfold lft
        rw [if_neg (show ¬ 2 ≤ nwd w by omega), hf1]
        exact d3.c (by rw [g4 269 (by omega)]) (by rw [g4 269 (by omega)])
      · obtain ⟨r1, r2, r3⟩ := g3 q1 q2
        refine ⟨r1, fun q => ⟨(r2 q).1, ?_, ?_⟩, fun j j1 j2 => by rw [r3 j j1 j2, d279]⟩
        · rw [(r2 q).2.1, d4]; unfold ov; rw [if_pos (by omega)]
        · rw [(r2 q).2.2, d5 1 (by omega), c1]; unfold ov; rw [if_neg (by omega)]
    · rw [if_neg z] at hN
      have h2' := h2 (by omega)
      have hlt2 := af_lt (c := !inR (tN T n (pj T n i 1)) 0 9) (k := 2) hlt1 hp1
      have hb1 : ((if nI (w - 3) = 5 then (some (d 280 0)) else (some 0)) : Option Int32) = some (nI (if w = 8 then tN T n (pj T n i 1) else 0)) := by
        by_cases z8 : w = 8
        · rw [if_pos (by rw [z8]; rfl), if_pos z8, d4]
        · rw [if_neg (show ¬ nI (w - 3) = 5 from lit_ne (m := 5) (by omega) (by omega) (by omega)), if_neg z8]; rfl
      have hb2 : ((if nI (w - 3) = 5 then (some 9) else (some 99)) : Option Int32) = some (nI (h2W w)) := by
        rw [h2']
        by_cases z8 : w = 8
        · rw [if_pos (by rw [z8]; rfl), if_pos z8]; rfl
        · rw [if_neg (show ¬ nI (w - 3) = 5 from lit_ne (m := 5) (by omega) (by omega) (by omega)), if_neg z8]; rfl
      rw [if_neg (show ¬ nI (w - 3) < 3 from fun q => absurd ((lt_nn (b := 3) (by omega) (by omega)).mp q) (by omega)), hb1, bq, hb2, bq, hN]
      by_cases k2 : tK T n (pj T n i 2) = 3
      · refine ⟨fun _ => ?_, fun j j1 j2 j3 _ => absurd j3 (by rcases (show j = 1 ∨ j = 2 by omega) with rfl | rfl; exact fun q => q k1; exact fun q => q k2)⟩
        obtain ⟨e, e1, e2, e3, e4, e5, e6, e7⟩ := m_take (x := 1) (l := if w = 8 then tN T n (pj T n i 1) else 0) (h := h2W w) oT hn hi d2 (by omega) (by split <;> omega) (by rw [h2']; split <;> omega) k2 d3 hlt2
        have e1' : fX12_take 1 (nI (if w = 8 then tN T n (pj T n i 1) else 0)) (nI (h2W w)) d = some (true, e) := e1
        have e279 : e 279 = b 279 := by rw [e7.2 279 (by omega) (by omega), d279]
        obtain ⟨g, g1, g2, g3, g4⟩ := m_j109 (e := e) (kd := w - 3) (u := u) (S := S) hu (by rw [e279]; exact hS)
        rw [e1', bq]
        dsimp only
        rw [if_pos (show true = true from rfl), g1]
        refine ⟨g, rfl, e2.c (g4 _ (by omega)) (fun j _ => by rw [g4 269 (by omega)]), ?_, fun q => by rw [g2 q, e279], fun q1 q2 => ?_, fc.r.tr (d7.r.tr (e7.r.tr ⟨by rw [g4 269 (by omega)], fun m m1 m2 m3 => g4 m m2⟩))⟩
        · unfold lft
          rw [if_pos (show 2 ≤ nwd w by omega), hf1]
          exact e3.c (by rw [g4 269 (by omega)]) (by rw [g4 269 (by omega)])
        · obtain ⟨r1, r2, r3⟩ := g3 q1 q2
          refine ⟨r1, fun q => ⟨(r2 q).1, ?_, ?_⟩, fun j j1 j2 => by rw [r3 j j1 j2, e279]⟩
          · rw [(r2 q).2.1, e5 0 (by omega), d4]; unfold ov; rw [if_pos (by omega)]
          · rw [(r2 q).2.2, e4]; unfold ov; rw [if_pos (by omega)]
      · refine ⟨fun h => absurd (h 2 (by omega) (by omega)) k2, fun j j1 j2 j3 _ => ?_⟩
        rcases (show j = 1 ∨ j = 2 by omega) with rfl | rfl
        · exact absurd k1 j3
        · rw [m_takeF d2 k2, bq]
          exact ⟨st2 d 269 16 (nI (pj T n i 2)), rfl, st2_eq _ _ _ _, fc.r.tr (d7.r.tr fr3.st)⟩
  · have hN1 : 1 ≤ nwd w := by rw [hN]; split <;> omega
    refine ⟨fun h => absurd (h 1 (by omega) hN1) k1, fun j j1 j2 j3 j4 => ?_⟩
    by_cases e : j = 1
    · rw [e, m_takeF cM k1, bq]
      exact ⟨st2 c 269 16 (nI (pj T n i 1)), rfl, st2_eq _ _ _ _, fc.r.tr fr3.st⟩
    · exact absurd (j4 1 (by omega) (by omega)) k1
