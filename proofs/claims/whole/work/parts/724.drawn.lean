/-! ===== drawn schedules ===== -/
theorem us16 (x : Int32) : ∃ v, v < 65536 ∧ ushr x 16 = nI v := by
  have h : (ushr x 16).toBitVec.toNat = x.toBitVec.toNat / 2 ^ 16 := pk_ushr x 16 16 (by decide)
  have hl := x.toBitVec.isLt
  refine ⟨x.toBitVec.toNat / 2 ^ 16, by omega, ?_⟩
  rw [← h]
  exact nI_back _
def nsd (x : Int32) : Int32 := x * 1103515245 + 12345
def lot (x : Int32) (n : Nat) : Nat := (ushr (nsd x) 16).toNatClampNeg % n
theorem lot_e {x : Int32} {n : Nat} (h0 : 0 < n) (hn : n < 1000) : ushr (nsd x) 16 % nI n = nI (lot x n) ∧ lot x n < n := by
  obtain ⟨v, hv, e⟩ := us16 (nsd x)
  unfold lot
  rw [e, nI_ck (by omega), nI_md (by omega) h0 (by omega)]
  exact ⟨rfl, Nat.mod_lt _ h0⟩
theorem c_draw {a : Mem} {n : Nat} (h0 : 0 < n) (hn : n < 1000) : fX11_drawBelow (nI n) a = some (nI (lot (a 0 10) n), st2 a 0 10 (nsd (a 0 10))) := by
  unfold fX11_drawBelow
  rw [if_neg (by rw [li0, le_nn (by omega) (by omega)]; omega), st2_eq, gd_ite _ _ (decide_eq_true (ne0 (by omega) (by omega)))]
  show some (ushr (nsd (a 0 10)) 16 % nI n, st2 a 0 10 (nsd (a 0 10))) = _
  rw [(lot_e h0 hn).1]
theorem m_draw {b : Mem} {n : Nat} (h0 : 0 < n) (hn : n < 1000) : fX12_draw (nI n) b = some (nI (lot (b 269 83) n), st2 b 269 83 (nsd (b 269 83))) := by
  unfold fX12_draw
  rw [st2_eq, gd_ite _ _ (decide_eq_true (ne0 (by omega) (by omega)))]
  show some (ushr (nsd (b 269 83)) 16 % nI n, st2 b 269 83 (nsd (b 269 83))) = _
  rw [(lot_e h0 hn).1]
/-- the two sides of a drawn run -/
def DW (a b : Mem) (X : F2) (s sp wk : Nat) (c : Nat → Nat) (n : Nat) (B : F2) : Prop := CX a X s sp wk c n B ∧ MN False b X sp ∧ HD b s sp wk c n B ∧ okM sp wk (X 146 12) B X ∧ b 269 83 = a 0 10
def frY (a a' : Mem) : Prop := ∀ m, m ≠ 0 → ¬ (146 ≤ m ∧ m < 234) → a' m = a m
def frZ (b b' : Mem) : Prop := (∀ j, j < 29 ∨ 69 ≤ j → j ≠ 83 → b' 269 j = b 269 j) ∧ ∀ m, m < 269 ∨ (270 ≤ m ∧ m ≤ 280) ∨ 308 ≤ m → b' m = b m
theorem frY.tr {a a' a'' : Mem} (h : frY a a') (h2 : frY a' a'') : frY a a'' := fun m h3 h4 => (h2 m h3 h4).trans (h m h3 h4)
theorem frZ.tr {a a' a'' : Mem} (h : frZ a a') (h2 : frZ a' a'') : frZ a a'' := ⟨fun j h3 h4 => (h2.1 j h3 h4).trans (h.1 j h3 h4), fun m hm => (h2.2 m hm).trans (h.2 m hm)⟩
theorem frY.rf {a : Mem} : frY a a := fun _ _ _ => rfl
theorem frZ.rf {a : Mem} : frZ a a := ⟨fun _ _ _ => rfl, fun _ _ => rfl⟩
theorem EN.z {a : Mem} {s sp wk n : Nat} {c : Nat → Nat} {B : F2} {j : Nat} {v : Int32} (h : EN a s sp wk c n B) : EN (st2 a 0 j v) s sp wk c n B := by
  obtain ⟨q1, q2, q3, q4, q5, q6⟩ := h
  refine ⟨q1, q2, q3, q4, ?_, ?_⟩
  · rw [st2_c _ _ (by omega), st2_c _ _ (by omega)]; exact q5
  · unfold BK; rw [st2_c _ _ (by omega), st2_c _ _ (by omega), st2_c _ _ (by omega), st2_c _ _ (by omega), st2_c _ _ (by omega)]; exact q6
theorem DW.draw {a b : Mem} {X B : F2} {s sp wk n : Nat} {c : Nat → Nat} (h : DW a b X s sp wk c n B) : DW (st2 a 0 10 (nsd (a 0 10))) (st2 b 269 83 (nsd (b 269 83))) X s sp wk c n B ∧ frY a (st2 a 0 10 (nsd (a 0 10))) ∧ frZ b (st2 b 269 83 (nsd (b 269 83))) := by
  obtain ⟨h1, h2, h3, h4, h5⟩ := h
  have e9 : ∀ j, j ≠ 83 → (st2 b 269 83 (nsd (b 269 83))) 269 j = b 269 j := fun j hj => st2_o _ _ (by omega)
  have eo : ∀ m, m ≠ 269 → (st2 b 269 83 (nsd (b 269 83))) m = b m := fun m hm => st2_c _ _ hm
  refine ⟨⟨⟨h1.1.fr (fun m m1 m2 => st2_c _ _ (by omega)), h1.2.1.z, h1.2.2.1, h1.2.2.2⟩, ?_, h3.fr (fun j hj => e9 j (by omega)) (eo _ (by omega)) (eo _ (by omega)), h4, by rw [st2_eq, st2_eq, h5]⟩, fun m m1 m2 => st2_c _ _ m1, ⟨fun j _ hj => e9 j hj, fun m hm => eo m (by omega)⟩⟩
  obtain ⟨g1, ⟨s1, s2, s3, s4, s5, s6, s7, s8⟩, g3, g4, g5, g6, g7⟩ := h2
  refine ⟨g1.ot (e9 _ (by omega)) (e9 _ (by omega)) (fun c c1 c2 => eo c (by omega)), ⟨by rw [e9 _ (by omega)]; exact s1, by rw [e9 _ (by omega)]; exact s2, by rw [e9 _ (by omega)]; exact s3, by rw [e9 _ (by omega)]; exact s4, by rw [e9 _ (by omega)]; exact s5, by rw [e9 _ (by omega)]; exact s6, by rw [e9 _ (by omega)]; exact s7, by rw [e9 _ (by omega)]; exact s8⟩, fun hp => hp.elim, fun w hw => (g4 w hw).cgb (fun c c1 c2 => by rw [eo c (by omega)]) (fun k _ => ⟨by rw [eo 292 (by omega)], by rw [eo 293 (by omega)], by rw [eo 294 (by omega)]⟩), fun i hi => (g5 i hi).cg (fun c c1 c2 => eo c (by omega)) rfl (fun _ _ => rfl), fun t ht => by rw [eo 304 (by omega)]; exact g6 t ht, fun k hk => by rw [eo 305 (by omega)]; exact g7 k hk⟩
theorem DW.deed {a b : Mem} {X B : F2} {s sp wk n kind wv tv : Nat} {c : Nat → Nat} {y : Int32} (h : DW a b X s sp wk c n B) (hd : X 146 12 < 60) (hk : kind < 7) (hw : wv ≤ 4) (ht : tv ≤ 7) : ∃ r a' b' X', fX3_perform (nI kind) (vI wv) (vI tv) a = some (r, a') ∧ fX12_does (nI kind) (vI wv) (vI tv) y b = some (r, b') ∧ DW a' b' X' s sp wk c n B ∧ frY a a' ∧ frZ b b' ∧ X' 146 12 ≤ X 146 12 + 1 := by
  obtain ⟨h1, h2, h3, h4, h5⟩ := h
  have hs := h1.2.1.1
  have hn := h1.2.1.2.1
  have os := h1.2.1.2.2.1
  have gB := h1.2.1.2.2.2.1
  obtain ⟨w1, w2⟩ := m_does (kind := kind) (wv := wv) (tv := tv) (y := y) h2 h3 hs hn os h4 gB hd hk hw ht (fun z => z.elim)
  cases hcan : can B kind wv tv X
  · exact ⟨false, a, b, X, k_no h1 h4 hk hd hw ht hcan, w2 hcan, ⟨h1, h2, h3, h4, h5⟩, frY.rf, frZ.rf, by omega⟩
  · obtain ⟨a', d1, d2, d3⟩ := k_do (tv := tv) h1 h4 hk hd hw ht hcan
    obtain ⟨b', e1, e2, e3, -⟩ := w1 hcan
    obtain ⟨g1, g2, g3, g4, -⟩ := do_ok (c := c) (tv := tv) h4 gB os.2.2 hk hd hw hcan
    refine ⟨true, a', b', _, d1, e1, ⟨h1.go d2 d3 g3 g4, e2, h3.O e3, g1, ?_⟩, fun m m1 m2 => d3 m m2, ⟨fun j hj _ => e3.1 j hj, e3.2⟩, by omega⟩
    rw [e3.1 83 (by omega), d3 0 (by omega)]; exact h5
set_option maxHeartbeats 4000000 in
theorem draw_pair {a b : Mem} {X B : F2} {s sp wk n : Nat} {c : Nat → Nat} (h : DW a b X s sp wk c n B) (hd : X 146 12 < 60) : ∃ a' b' X', fX11_performDrawn (nI (B 0 0)) a = some a' ∧ fX12_drawDeed b = some b' ∧ DW a' b' X' s sp wk c n B ∧ frY a a' ∧ frZ b b' ∧ X' 146 12 ≤ X 146 12 + 1 := by
  have gB := h.1.2.1.2.2.2.1.1
  obtain ⟨k1, k2, k3⟩ := h.2.2.2.1.1
  unfold fX11_performDrawn fX12_drawDeed
  have c12 : fX11_drawBelow 12 a = some (nI (lot (a 0 10) 12), st2 a 0 10 (nsd (a 0 10))) := c_draw (n := 12) (by omega) (by omega)
  have m12 : fX12_draw 12 b = some (nI (lot (b 269 83) 12), st2 b 269 83 (nsd (b 269 83))) := m_draw (n := 12) (by omega) (by omega)
  obtain ⟨hD, f1, f2⟩ := h.draw
  rw [c12, m12, bq, bq, h.2.2.2.2]
  dsimp only
  rw [h.2.2.2.2] at hD f2
  have hl := (lot_e (x := a 0 10) (n := 12) (by omega) (by omega)).2
  generalize lot (a 0 10) 12 = l at *
  generalize st2 a 0 10 (nsd (a 0 10)) = a1 at *
  generalize st2 b 269 83 (nsd (a 0 10)) = b1 at *
  have e2 : a1 146 2 = nI wk := by rw [hD.1.1.e3, k3]
  have e26 : b1 269 26 = nI wk := by rw [hD.2.1.2.1.1, k3]
  have e27 : b1 269 27 = nI (B 0 0) := hD.2.2.1.2.1.2.1
  obtain ⟨hD2, f3, f4⟩ := hD.draw
  have cw := c_draw (a := a1) (n := wk) (by omega) (by omega)
  have mw := m_draw (b := b1) (n := wk) (by omega) (by omega)
  rw [hD.2.2.2.2] at mw hD2 f4
  have hw := (lot_e (x := a1 0 10) (n := wk) (by omega) (by omega)).2
  rw [e2, e26]
  by_cases l2 : l ≤ 2
  · rw [if_neg (show ¬ (2 : Int32) < nI l by rw [li2, lt_nn (by omega) (by omega)]; omega), if_neg (show ¬ (3 : Int32) ≤ nI l by rw [li3, le_nn (by omega) (by omega)]; omega)]
    by_cases z : B 0 0 = 0
    · rw [if_pos (show nI (B 0 0) ≤ 0 by rw [z]; decide), if_pos (show b1 269 27 ≤ 0 by rw [e27, z]; decide)]
      exact ⟨a1, b1, X, rfl, rfl, hD, f1, f2, by omega⟩
    · rw [if_neg (show ¬ nI (B 0 0) ≤ 0 by rw [li0, le_nn (by omega) (by omega)]; omega), if_neg (show ¬ b1 269 27 ≤ 0 by rw [e27, li0, le_nn (by omega) (by omega)]; omega), cw, mw, bq, bq]
      dsimp only
      have e27' : (st2 b1 269 83 (nsd (a1 0 10))) 269 27 = nI (B 0 0) := hD2.2.2.1.2.1.2.1
      rw [e27']
      generalize lot (a1 0 10) wk = w at *
      generalize st2 a1 0 10 (nsd (a1 0 10)) = a2 at *
      generalize st2 b1 269 83 (nsd (a1 0 10)) = b2 at *
      obtain ⟨hD3, f5, f6⟩ := hD2.draw
      have ct := c_draw (a := a2) (n := B 0 0) (by omega) (by omega)
      have mt := m_draw (b := b2) (n := B 0 0) (by omega) (by omega)
      rw [hD2.2.2.2.2] at mt hD3 f6
      have ht := (lot_e (x := a2 0 10) (n := B 0 0) (by omega) (by omega)).2
      rw [ct, mt, bq, bq]
      dsimp only
      obtain ⟨r, a', b', X', q1, q2, q3, q4, q5, q6⟩ := hD3.deed (kind := 6) (wv := w + 1) (tv := lot (a2 0 10) (B 0 0) + 1) (y := -1) hd (by omega) (by omega) (by omega)
      rw [vI_s, vI_s] at q1 q2
      have q1' : fX3_perform 6 (nI w) (nI (lot (a2 0 10) (B 0 0))) (st2 a2 0 10 (nsd (a2 0 10))) = some (r, a') := q1
      have q2' : fX12_does 6 (nI w) (nI (lot (a2 0 10) (B 0 0))) (-1) (st2 b2 269 83 (nsd (a2 0 10))) = some (r, b') := q2
      rw [q1', q2', bq, bq]
      exact ⟨a', b', X', rfl, rfl, q3, ((f1.tr f3).tr f5).tr q4, ((f2.tr f4).tr f6).tr q5, q6⟩
  rw [if_pos (show (2 : Int32) < nI l by rw [li2, lt_nn (by omega) (by omega)]; omega), if_pos (show (3 : Int32) ≤ nI l by rw [li3, le_nn (by omega) (by omega)]; omega)]
  by_cases l9 : l ≤ 9
  · rw [if_neg (show ¬ (10 : Int32) ≤ nI l by rw [li10, le_nn (by omega) (by omega)]; omega)]
    have go : ∀ kind, kind < 7 → ∃ r a' b' X', fX3_perform (nI kind) (nI (lot (a1 0 10) wk)) (-1) (st2 a1 0 10 (nsd (a1 0 10))) = some (r, a') ∧ fX12_does (nI kind) (nI (lot (a1 0 10) wk)) (-1) (-1) (st2 b1 269 83 (nsd (a1 0 10))) = some (r, b') ∧ DW a' b' X' s sp wk c n B ∧ frY (st2 a1 0 10 (nsd (a1 0 10))) a' ∧ frZ (st2 b1 269 83 (nsd (a1 0 10))) b' ∧ X' 146 12 ≤ X 146 12 + 1 := fun kind hk => by
      obtain ⟨r, a', b', X', q1, q2, q3⟩ := hD2.deed (kind := kind) (wv := lot (a1 0 10) wk + 1) (tv := 0) (y := -1) hd hk (by omega) (by omega)
      rw [vI_s] at q1 q2
      exact ⟨r, a', b', X', q1, q2, q3⟩
    by_cases l6 : l ≤ 6
    · obtain ⟨r, a', b', X', q1, q2, q3, q4, q5, q6⟩ := go 2 (by omega)
      have q1' : fX3_perform 2 (nI (lot (a1 0 10) wk)) (-1) (st2 a1 0 10 (nsd (a1 0 10))) = some (r, a') := q1
      have q2' : fX12_does 2 (nI (lot (a1 0 10) wk)) (-1) (-1) (st2 b1 269 83 (nsd (a1 0 10))) = some (r, b') := q2
      rw [if_neg (show ¬ (6 : Int32) < nI l by rw [li6, lt_nn (by omega) (by omega)]; omega), if_neg (show ¬ (7 : Int32) ≤ nI l by rw [li7, le_nn (by omega) (by omega)]; omega), cw, bq, bq, mw, bq]
      dsimp only
      rw [q1', q2', bq, bq]
      exact ⟨a', b', X', rfl, rfl, q3, (f1.tr f3).tr q4, (f2.tr f4).tr q5, q6⟩
    rw [if_pos (show (6 : Int32) < nI l by rw [li6, lt_nn (by omega) (by omega)]; omega), if_pos (show (7 : Int32) ≤ nI l by rw [li7, le_nn (by omega) (by omega)]; omega)]
    by_cases l8 : l ≤ 8
    · obtain ⟨r, a', b', X', q1, q2, q3, q4, q5, q6⟩ := go 3 (by omega)
      have q1' : fX3_perform 3 (nI (lot (a1 0 10) wk)) (-1) (st2 a1 0 10 (nsd (a1 0 10))) = some (r, a') := q1
      have q2' : fX12_does 3 (nI (lot (a1 0 10) wk)) (-1) (-1) (st2 b1 269 83 (nsd (a1 0 10))) = some (r, b') := q2
      rw [if_neg (show ¬ (8 : Int32) < nI l by rw [li8, lt_nn (by omega) (by omega)]; omega), if_neg (show ¬ (9 : Int32) ≤ nI l by rw [li9, le_nn (by omega) (by omega)]; omega), cw, bq, bq, mw, bq]
      dsimp only
      rw [q1', q2', bq, bq]
      exact ⟨a', b', X', rfl, rfl, q3, (f1.tr f3).tr q4, (f2.tr f4).tr q5, q6⟩
    · obtain ⟨r, a', b', X', q1, q2, q3, q4, q5, q6⟩ := go 5 (by omega)
      have q1' : fX3_perform 5 (nI (lot (a1 0 10) wk)) (-1) (st2 a1 0 10 (nsd (a1 0 10))) = some (r, a') := q1
      have q2' : fX12_does 5 (nI (lot (a1 0 10) wk)) (-1) (-1) (st2 b1 269 83 (nsd (a1 0 10))) = some (r, b') := q2
      rw [if_pos (show (8 : Int32) < nI l by rw [li8, lt_nn (by omega) (by omega)]; omega), if_pos (show (9 : Int32) ≤ nI l by rw [li9, le_nn (by omega) (by omega)]; omega), if_pos (show nI l = 9 by rw [show l = 9 by omega]; rfl), cw, bq, bq, mw, bq]
      dsimp only
      rw [q1', q2', bq, bq]
      exact ⟨a', b', X', rfl, rfl, q3, (f1.tr f3).tr q4, (f2.tr f4).tr q5, q6⟩
  · rw [if_pos (show (10 : Int32) ≤ nI l by rw [li10, le_nn (by omega) (by omega)]; omega), if_pos (show (6 : Int32) < nI l by rw [li6, lt_nn (by omega) (by omega)]; omega), if_pos (show (8 : Int32) < nI l by rw [li8, lt_nn (by omega) (by omega)]; omega), if_neg (show ¬ nI l = 9 from lit_ne (m := 9) (show l ≠ 9 by omega) (by omega) (by omega))]
    by_cases l10 : l = 10
    · rw [if_pos (by rw [l10]; rfl), if_pos (by rw [l10]; rfl)]
      obtain ⟨r, a', b', X', q1, q2, q3, q4, q5, q6⟩ := hD.deed (kind := 0) (wv := 0) (tv := 0) (y := -1) hd (by omega) (by omega) (by omega)
      have q1' : fX3_perform 0 (-1) (-1) a1 = some (r, a') := q1
      have q2' : fX12_does 0 (-1) (-1) (-1) b1 = some (r, b') := q2
      rw [q1', q2', bq, bq]
      exact ⟨a', b', X', rfl, rfl, q3, f1.tr q4, f2.tr q5, q6⟩
    · rw [if_neg (show ¬ nI l = 10 from lit_ne (m := 10) l10 (by omega) (by omega)), if_neg (show ¬ nI l = 10 from lit_ne (m := 10) l10 (by omega) (by omega))]
      have c4 : fX11_drawBelow 4 a1 = some (nI (lot (a1 0 10) 4), st2 a1 0 10 (nsd (a1 0 10))) := c_draw (n := 4) (by omega) (by omega)
      have m4 : fX12_draw 4 b1 = some (nI (lot (b1 269 83) 4), st2 b1 269 83 (nsd (b1 269 83))) := m_draw (n := 4) (by omega) (by omega)
      rw [hD.2.2.2.2] at m4
      rw [c4, m4, bq, bq]
      dsimp only
      have h4 := (lot_e (x := a1 0 10) (n := 4) (by omega) (by omega)).2
      by_cases z : lot (a1 0 10) 4 = 0
      · rw [if_pos (by rw [z]; rfl), if_pos (by rw [z]; rfl)]
        obtain ⟨r, a', b', X', q1, q2, q3, q4, q5, q6⟩ := hD2.deed (kind := 1) (wv := 0) (tv := 0) (y := -1) hd (by omega) (by omega) (by omega)
        have q1' : fX3_perform 1 (-1) (-1) (st2 a1 0 10 (nsd (a1 0 10))) = some (r, a') := q1
        have q2' : fX12_does 1 (-1) (-1) (-1) (st2 b1 269 83 (nsd (a1 0 10))) = some (r, b') := q2
        rw [q1', q2', bq, bq]
        exact ⟨a', b', X', rfl, rfl, q3, (f1.tr f3).tr q4, (f2.tr f4).tr q5, q6⟩
      · rw [if_neg (ne0 z (by omega)), if_neg (ne0 z (by omega))]
        exact ⟨_, _, X, rfl, rfl, hD2, f1.tr f3, f2.tr f4, by omega⟩
/-- both loops of drawn() -/
theorem drawn_loop {B : F2} {s sp wk n m : Nat} {c : Nat → Nat} {x5 : Int32} (hm : m ≤ 60) : ∀ (k f j : Nat) (a b : Mem) (X : F2), j + k = m → k < f → DW a b X s sp wk c n B → X 146 12 ≤ j → ∃ a' b' X', lX11_drawn_72 (nI n) (nI m) x5 f (nI j) a = some a' ∧ lX12_drawn_54 (nI m) x5 f (nI j) b = some b' ∧ DW a' b' X' s sp wk c n B ∧ frY a a' ∧ frZ b b' := by
  intro k
  induction k with
  | zero =>
    intro f j a b X hj hf h hX
    obtain ⟨g, rfl⟩ : ∃ g, f = g + 1 := ⟨f - 1, by omega⟩
    refine ⟨a, b, X, ?_, ?_, h, frY.rf, frZ.rf⟩
    · rw [lX11_drawn_72, if_pos (by rw [le_nn (by omega) (by omega)]; omega)]
    · rw [lX12_drawn_54, if_pos (by rw [le_nn (by omega) (by omega)]; omega)]
  | succ k ih =>
    intro f j a b X hj hf h hX
    obtain ⟨g, rfl⟩ : ∃ g, f = g + 1 := ⟨f - 1, by omega⟩
    have hn := h.1.2.1.2.1
    have eB : a (10 + 14 * n) 0 = nI (B 0 0) := h.1.2.1.2.2.2.2.2.1
    obtain ⟨a1, b1, X1, q1, q2, q3, q4, q5, q6⟩ := draw_pair h (by omega)
    obtain ⟨a2, b2, X2, r1, r2, r3, r4, r5⟩ := ih g (j + 1) a1 b1 X1 (by omega) (by omega) q3 (by omega)
    refine ⟨a2, b2, X2, ?_, ?_, r3, q4.tr r4, q5.tr r5⟩
    · rw [lX11_drawn_72, if_neg (by rw [le_nn (by omega) (by omega)]; omega), inb_T hn (by omega), gdT, nI_ck (by omega), eB, q1, bq, nI_1]; exact r1
    · rw [lX12_drawn_54, if_neg (by rw [le_nn (by omega) (by omega)]; omega), q2, bq, nI_1]; exact r2
set_option maxHeartbeats 2000000 in
theorem p_drawn (x y z k v : Int32) : PAIR (fX11_drawn x y z k v) (fX12_drawn x y z k v) := PAIR.q (fun a b hR => by
  have e0 : ∀ n, n ≠ 269 → (st2 b 269 0 0) n = b n := fun n hn => by rw [st2_c _ _ hn]
  have f0 : f269 b (st2 b 269 0 0) := e0
  unfold fX11_drawn fX12_drawn
  rw [f_in, bq]
  dsimp only
  by_cases hx : ∃ k : Nat, k < 2 ∧ x = nI k ∧ nI k < a 3 0
  · obtain ⟨s, hs, rfl, hm⟩ := hx
    have g1 : fX9_has 1 0 (nI s) a = some (true, a) := (has_pos hR (s := 0) (by omega) hs hm).1
    rw [g1, bq]
    dsimp only
    rw [if_pos rfl]
    by_cases hy : ∃ k : Nat, k < 2 ∧ y = nI k ∧ nI k < a 3 1
    · obtain ⟨n, hn, rfl, hm2⟩ := hy
      have g2 : fX9_has 1 1 (nI n) a = some (true, a) := (has_pos hR (s := 1) (by omega) hn hm2).1
      rw [g2, bq]
      dsimp only
      rw [if_pos rfl]
      by_cases k0 : k < 0
      · rw [if_pos k0, decide_eq_false (fun q => q.1 k0), if_neg (show ¬ false = true by decide)]
        exact ⟨_, _, _, rfl, rfl, frC.rf, f0.M, tC.rf, f0.t⟩
      rw [if_neg k0]
      obtain ⟨m, hm', rfl⟩ := nI_of k0
      by_cases k60 : m ≤ 60
      · rw [if_pos (by rw [li60, le_nn (by omega) (by omega)]; exact k60), decide_eq_true ⟨k0, by rw [li60, lt_nn (by omega) (by omega)]; omega⟩, if_pos rfl, inb_T hs (by omega), inb_T hn (by omega), gdT, gdT, nI_ck (by omega), nI_ck (by omega)]
        obtain ⟨B, gB, hC, hB⟩ := book_at hR hn hm2
        obtain ⟨sp, wk, c, os, hS, hM⟩ := store_at hR hs hm
        obtain ⟨M, cM⟩ := CM.ex a
        have hE : EN a s sp wk c n B := ⟨hs, hn, os, gB, hS, hC⟩
        have st := st_e (s := s) (n := n) (wk := wk) (c := c) (M := M)
        obtain ⟨a1, q1, q2, q3⟩ := cW_st cM hE
        have hX1 : CX a1 (stM s n wk c M) s sp wk c n B := ⟨q2, hE.K q3, st.1.1, st.1.2.1⟩
        obtain ⟨b1, p1, p2, p3, p4, p5, p6⟩ := m_hand hR e0 hs hm hn hm2 hM os hB
        have hD0 : DW (st2 a1 0 10 z) (st2 b1 269 83 z) (stM s n wk c M) s sp wk c n B := by
          have e9 : ∀ j, j ≠ 83 → (st2 b1 269 83 z) 269 j = b1 269 j := fun j hj => st2_o _ _ (by omega)
          have eo : ∀ m, m ≠ 269 → (st2 b1 269 83 z) m = b1 m := fun m hm => st2_c _ _ hm
          have hB' : BP (st2 b1 269 83 z) c sp := by
            obtain ⟨u1, u2, u3, u4, u5⟩ := p3
            refine ⟨u1.ot (e9 _ (by omega)) (e9 _ (by omega)) (fun c c1 c2 => eo c (by omega)), ?_, fun k hk => ?_, fun t ht => ?_, fun w hw => ?_⟩
            · rw [e9 _ (by omega), e9 _ (by omega), e9 _ (by omega), e9 _ (by omega), e9 _ (by omega), e9 _ (by omega), e9 _ (by omega)]; exact u2
            · rw [eo 284 (by omega), eo 285 (by omega), eo 305 (by omega)]; exact u3 k hk
            · rw [eo 304 (by omega)]; exact u4 t ht
            · rw [eo 286 (by omega), eo 287 (by omega), eo 288 (by omega), eo 290 (by omega), eo 291 (by omega)]; exact u5 w hw
          refine ⟨⟨q2.fr (fun m m1 m2 => st2_c _ _ (by omega)), (hE.K q3).z, st.1.1, st.1.2.1⟩, st_mn hB' (by rw [e9 _ (by omega)]; exact p2.2.2.2.1), p2.fr (fun j hj => e9 j (by omega)) (eo _ (by omega)) (eo _ (by omega)), by rw [st.1.2.2.2.2.2.1]; exact st_ok os, by rw [st2_eq, st2_eq]⟩
        obtain ⟨a2, b2, X2, r1, r2, r3, r4, r5⟩ := drawn_loop (x5 := v) k60 m FU 0 _ _ _ (by omega) (by show m < 5000; omega) hD0 (by rw [st.1.2.2.2.2.2.1]; omega)
        have r1' : lX11_drawn_72 (nI n) (nI m) v FU 0 (st2 a1 0 10 z) = some a2 := r1
        have r2' : lX12_drawn_54 (nI m) v FU 0 (st2 b1 269 83 z) = some b2 := r2
        rw [q1, bq, r1', bq]
        have fa : frY a a2 := (show frY a a1 from fun m _ h2 => q3 m h2).tr ((show frY a1 (st2 a1 0 10 z) from fun m h1 _ => st2_c _ _ h1).tr r4)
        have faC : frC a a2 := fun m hm => fa m (by omega) (by omega)
        have fat : tC a a2 := fun m h1 h2 => fa m (by omega) (by omega)
        have fbM : frM b b2 := fun m hm => by rw [r5.2 m (by omega), st2_c _ _ (by omega)]; exact p6 m hm
        have fbt : tM b b2 := fun m hm => by rw [r5.2 m (by omega), st2_c _ _ (by omega)]; exact p5 m hm
        by_cases v5 : v = 5
        · have e5 : fX3_view 5 a2 = some (-2, a2) := by
            unfold fX3_view fX3_viewAll
            rw [if_neg (by decide), if_pos (by decide), if_pos (by decide), if_neg (by decide), if_neg (by decide), if_neg (by decide), if_neg (by decide), if_neg (by decide)]
            rfl
          rw [if_pos v5, v5, e5, bq]
          exact ⟨_, _, _, rfl, rfl, faC, f0.M, fat, f0.t⟩
        rw [if_neg v5, f_in, bq]
        dsimp only
        by_cases v3 : ¬ v < 30 ∧ ¬ (39 : Int32) < v
        · rw [decide_eq_true v3, if_pos rfl]
          obtain ⟨i, hi, rfl⟩ := nI_of (x := v) (fun q => v3.1 (Int32.lt_of_lt_of_le q (by decide)))
          have v31 := v3.1
          have v32 := v3.2
          rw [li30, lt_nn (by omega) (by omega)] at v31
          rw [li39, lt_nn (by omega) (by omega)] at v32
          have edv : nI i / 10 = nI 3 := by rw [li10, nI_dv (by omega) (by omega) (by omega)]; congr 1; omega
          have e5 : fX3_view (nI i) a2 = some (-2, a2) := by
            unfold fX3_view
            rw [if_neg (by rw [li0, lt_nn (by omega) (by omega)]; omega), if_pos (by rw [show (110 : Int32) = nI 110 from rfl, lt_nn (by omega) (by omega)]; omega), edv, if_neg (by decide), if_neg (by decide), if_neg (by decide), if_pos (by rfl)]
          rw [e5, bq]
          exact ⟨_, _, _, rfl, rfl, faC, f0.M, fat, f0.t⟩
        · rw [decide_eq_false v3, if_neg (show ¬ false = true by decide), p1, bq]
          dsimp only
          rw [if_pos rfl, r2', bq]
          obtain ⟨r, t1, t2⟩ := view_pair (x := v) r3.1 r3.2.1 r3.2.2.1 r3.2.2.2.1 v5 v3
          rw [t1, t2, bq, bq]
          exact ⟨_, _, _, rfl, rfl, faC, fbM, fat, fbt⟩
      · rw [if_neg (by rw [li60, le_nn (by omega) (by omega)]; exact k60), decide_eq_false (fun q => q.2 (by rw [li60, lt_nn (by omega) (by omega)]; omega)), if_neg (show ¬ false = true by decide)]
        exact ⟨_, _, _, rfl, rfl, frC.rf, f0.M, tC.rf, f0.t⟩
    · have g2 : fX9_has 1 1 y a = some (false, a) := (has_neg hR (s := 1) (by omega) hy).1
      rw [g2, bq]
      dsimp only
      rw [if_neg (by decide)]
      have f1 : f269 b (st2 (st2 (st2 b 269 0 0) 269 23 (nI s)) 269 24 y) := fun n hn => by rw [st2_c _ _ hn, st2_c _ _ hn, st2_c _ _ hn]
      cases decide (¬ k < 0 ∧ ¬ (60 : Int32) < k)
      · rw [if_neg (by decide)]; exact ⟨_, _, _, rfl, rfl, frC.rf, f0.M, tC.rf, f0.t⟩
      rw [if_pos rfl]
      by_cases v5 : v = 5
      · rw [if_pos v5]; exact ⟨_, _, _, rfl, rfl, frC.rf, f0.M, tC.rf, f0.t⟩
      rw [if_neg v5, f_in, bq]
      dsimp only
      cases decide (¬ v < 30 ∧ ¬ (39 : Int32) < v)
      · rw [if_neg (by decide), m_hand_no2 hR e0 hs hm hy, bq]
        exact ⟨_, _, _, rfl, rfl, frC.rf, f1.M, tC.rf, f1.t⟩
      · rw [if_pos rfl]; exact ⟨_, _, _, rfl, rfl, frC.rf, f0.M, tC.rf, f0.t⟩
  · have g1 : fX9_has 1 0 x a = some (false, a) := (has_neg hR (s := 0) (by omega) hx).1
    rw [g1, bq]
    dsimp only
    rw [if_neg (by decide)]
    have f1 : f269 b (st2 (st2 b 269 0 0) 269 23 x) := fun n hn => by rw [st2_c _ _ hn, st2_c _ _ hn]
    cases decide (¬ k < 0 ∧ ¬ (60 : Int32) < k)
    · rw [if_neg (by decide)]; exact ⟨_, _, _, rfl, rfl, frC.rf, f0.M, tC.rf, f0.t⟩
    rw [if_pos rfl]
    by_cases v5 : v = 5
    · rw [if_pos v5]; exact ⟨_, _, _, rfl, rfl, frC.rf, f0.M, tC.rf, f0.t⟩
    rw [if_neg v5, f_in, bq]
    dsimp only
    cases decide (¬ v < 30 ∧ ¬ (39 : Int32) < v)
    · rw [if_neg (by decide), m_hand_no1 hR e0 hx y, bq]
      exact ⟨_, _, _, rfl, rfl, frC.rf, f1.M, tC.rf, f1.t⟩
    · rw [if_pos rfl]; exact ⟨_, _, _, rfl, rfl, frC.rf, f0.M, tC.rf, f0.t⟩)
