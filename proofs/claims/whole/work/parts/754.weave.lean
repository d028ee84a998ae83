/-! ===== weave, risk: the calls ===== -/
def frX2 (b b' : Mem) : Prop := (∀ j, j < 29 ∨ (69 ≤ j ∧ ¬ (84 ≤ j ∧ j ≤ 90)) → b' 269 j = b 269 j) ∧ ∀ m, m < 269 ∨ (270 ≤ m ∧ m ≤ 280) ∨ 308 ≤ m → b' m = b m
theorem frX2.tr {b b' b'' : Mem} (h : frX2 b b') (h2 : frX2 b' b'') : frX2 b b'' := ⟨fun j hj => (h2.1 j hj).trans (h.1 j hj), fun m hm => (h2.2 m hm).trans (h.2 m hm)⟩
theorem HD.X2 {b b' : Mem} {s sp wk n : Nat} {c : Nat → Nat} {B : F2} (h : HD b s sp wk c n B) (e : frX2 b b') : HD b' s sp wk c n B := h.fr (fun j hj => e.1 j (by omega)) (e.2 275 (by omega)) (e.2 276 (by omega))
theorem frG.V {w v : Nat} {b b' : Mem} (h : frG w b b') (hv : v ≠ w) : frV v b b' := by
  refine ⟨fun m h1 h2 => ?_, fun k hk => h.2.2 _ (by omega)⟩
  rcases (show m = 286 ∨ m = 287 ∨ m = 288 ∨ m = 289 ∨ m = 290 ∨ m = 291 by omega) with rfl | rfl | rfl | rfl | rfl | rfl
  · exact (h.2.1 v hv).1
  · exact (h.2.1 v hv).2.1
  · exact (h.2.1 v hv).2.2.1
  · exact (h.2.1 v hv).2.2.2
  · rw [h.1 290 (by omega) (by omega) (by omega) (by omega) (by omega) (by omega) (by omega)]
  · rw [h.1 291 (by omega) (by omega) (by omega) (by omega) (by omega) (by omega) (by omega)]
theorem WK_0 {sp : Nat} {b b' : Mem} {w t : Nat} (hm : ∀ L, empL L → MWr b' w L) (h1 : b' 286 w = nI t) (h2 : b' 287 w = nI 0) (h3 : b' 290 w = nI 0) : WKs sp b' w t 0 (L0 t) := ⟨hm _ (L0_emp t), h1, h2, h3, okL.emp (L0_emp t), rfl, rfl, rfl, Nat.two_pow_pos _⟩
theorem m_wbegin {b : Mem} {B : F2} {s sp wk n x y : Nat} {c : Nat → Nat} (hs : s < 2) (hH : HD b s sp wk c n B) : ∃ b1 b2 b3, fX12_beginPlan b = some b1 ∧ fX12_begins 0 (nI x) b1 = some b2 ∧ fX12_begins 1 (nI y) b2 = some b3 ∧ PA b3 s sp wk c n B x y 0 0 ∧ frX2 b b3 ∧ ∀ j, 84 ≤ j → b3 269 j = b 269 j := by
  obtain ⟨b1, q1, q2, q3⟩ := m_beginPlan hs hH.1 hH.2.2.1
  obtain ⟨b2, e1, e2, e3, e4, -, e6⟩ := m_begins (b := b1) (w := 0) (t := x) (by omega)
  obtain ⟨b3, f1, f2, f3, f4, -, f6⟩ := m_begins (b := b2) (w := 1) (t := y) (by omega)
  have e1' : fX12_begins 0 (nI x) b1 = some b2 := e1
  have f1' : fX12_begins 1 (nI y) b2 = some b3 := f1
  have g9 : b3 269 = b1 269 := by rw [f6.1 269 (by omega) (by omega) (by omega) (by omega) (by omega) (by omega) (by omega), e6.1 269 (by omega) (by omega) (by omega) (by omega) (by omega) (by omega) (by omega)]
  have g : ∀ m, m ≠ 286 → m ≠ 287 → m ≠ 288 → m ≠ 289 → m ≠ 292 → m ≠ 293 → m ≠ 294 → b3 m = b1 m := fun m m1 m2 m3 m4 m5 m6 m7 => by rw [f6.1 m m1 m2 m3 m4 m5 m6 m7, e6.1 m m1 m2 m3 m4 m5 m6 m7]
  obtain ⟨u1, ⟨s1, s2, s3, -⟩, u3, u4, u5⟩ := q2
  have fX : frX2 b b3 := ⟨fun j hj => by rw [g9]; exact q3.1 j (by omega), fun m hm => by rw [g m (by omega) (by omega) (by omega) (by omega) (by omega) (by omega) (by omega)]; exact q3.2 m (by omega) (by omega) (by omega) (by omega) (by omega) (by omega) (by omega) (by omega) (by omega) (by omega) (by omega) (by omega) (by omega)⟩
  have w0 : WKs sp b2 0 x 0 (L0 x) := WK_0 (b := b1) e2 e3 e4 (by rw [e6.1 290 (by omega) (by omega) (by omega) (by omega) (by omega) (by omega) (by omega)]; exact (u5 0 (by omega)).2.2.2.1)
  have w1 : WKs sp b3 1 y 0 (L0 y) := WK_0 (b := b2) f2 f3 f4 (by rw [g 290 (by omega) (by omega) (by omega) (by omega) (by omega) (by omega) (by omega)]; exact (u5 1 (by omega)).2.2.2.1)
  refine ⟨b1, b2, b3, q1, e1', f1', ⟨⟨hH.X2 fX, by rw [g9]; exact s1⟩, (u1.frG e6).frG f6, w0.fr (f6.V (by omega)), w1, by rw [g9]; exact s2, by rw [g9]; exact s3, fun t ht => by rw [g 304 (by omega) (by omega) (by omega) (by omega) (by omega) (by omega) (by omega)]; exact u4 t ht⟩, fX, fun j hj => by rw [g9]; exact q3.1 j (by omega)⟩
theorem fw_0 {u v : Nat} : fw5 u v 0 = 1 := rfl
theorem fw_1 {u v : Nat} : fw5 u v 1 = if v = 1 then 1 else 0 := by unfold fw5; rw [if_neg (show ¬ 1 = 0 by omega), if_pos rfl]
theorem fw_2 {u v : Nat} : fw5 u v 2 = if u = 0 ∧ v ≠ 1 then 1 else 0 := by unfold fw5; rw [if_neg (show ¬ 2 = 0 by omega), if_neg (show ¬ 2 = 1 by omega), if_pos rfl]
theorem fw_3 {u v : Nat} : fw5 u v 3 = if u = 1 ∧ v ≠ 1 then 1 else 0 := by unfold fw5; rw [if_neg (show ¬ 3 = 0 by omega), if_neg (show ¬ 3 = 1 by omega), if_neg (show ¬ 3 = 2 by omega), if_pos rfl]
theorem fw_4 {u v : Nat} : fw5 u v 4 = if v = 3 then 1 else 0 := by unfold fw5; rw [if_neg (show ¬ 4 = 0 by omega), if_neg (show ¬ 4 = 1 by omega), if_neg (show ¬ 4 = 2 by omega), if_neg (show ¬ 4 = 3 by omega)]
theorem m_tail1 {b q : Mem} {o : Nat → Nat} {x3 x4 : Int32} {v : Nat} (hl : lX12_weaves_45 x3 x4 FU 0 b = some q) (h89 : q 269 89 = nI 1) (h90 : q 269 90 = nI v) (hv : v = 1 ∨ v = 2 ∨ v = 3) (ho : ∀ j, j < 5 → q 269 (84 + j) = nI (o j)) :
    ∃ b', jX12_weaves_42 x3 x4 b = some b' ∧ (∀ j, j < 5 → b' 269 (84 + j) = nI (o j + fw5 1 v j)) ∧ (∀ j, ¬ (84 ≤ j ∧ j ≤ 88) → b' 269 j = q 269 j) ∧ ∀ m, m ≠ 269 → b' m = q m := by
  obtain ⟨b7, t1, t2, t3, t4, t5, t6, t7, t8⟩ := m_tail (u := 1) (v := v) hl h89 h90 (by omega) (by omega) ho
  refine ⟨b7, t1, fun j hj => ?_, t7, t8⟩
  rcases (show j = 0 ∨ j = 1 ∨ j = 2 ∨ j = 3 ∨ j = 4 by omega) with rfl | rfl | rfl | rfl | rfl
  · rw [fw_0]; exact t2
  · rw [fw_1, show (if v = 1 then 1 else 0) = if 1 = 1 ∧ v = 1 then 1 else 0 from ifc ⟨fun z => ⟨rfl, z⟩, fun z => z.2⟩]; exact t3
  · rw [fw_2, if_neg (show ¬ (1 = 0 ∧ v ≠ 1) by omega)]; rw [if_neg (show ¬ 1 ≠ 1 by omega)] at t4; exact t4
  · rw [fw_3, show (if 1 = 1 ∧ v ≠ 1 then 1 else 0) = if v ≠ 1 then 1 else 0 from ifc ⟨fun z => z.2, fun z => ⟨rfl, z⟩⟩]; exact t5
  · rw [fw_4, show (if v = 3 then 1 else 0) = if 1 = 3 ∨ v = 3 then 1 else 0 from ifc ⟨Or.inr, fun z => z.resolve_left (by omega)⟩]; exact t6
theorem m_tail0 {b q : Mem} {o : Nat → Nat} {x3 x4 : Int32} {v : Nat} (hl : lX12_weaves_45 x3 x4 FU 0 b = some q) (h89 : q 269 89 = nI v) (h90 : q 269 90 = nI 1) (hv : v = 1 ∨ v = 2 ∨ v = 3) (ho : ∀ j, j < 5 → q 269 (84 + j) = nI (o j)) :
    ∃ b', jX12_weaves_42 x3 x4 b = some b' ∧ (∀ j, j < 5 → b' 269 (84 + j) = nI (o j + fw5 0 v j)) ∧ (∀ j, ¬ (84 ≤ j ∧ j ≤ 88) → b' 269 j = q 269 j) ∧ ∀ m, m ≠ 269 → b' m = q m := by
  obtain ⟨b7, t1, t2, t3, t4, t5, t6, t7, t8⟩ := m_tail (u := v) (v := 1) hl h89 h90 (by omega) (by omega) ho
  refine ⟨b7, t1, fun j hj => ?_, t7, t8⟩
  rcases (show j = 0 ∨ j = 1 ∨ j = 2 ∨ j = 3 ∨ j = 4 by omega) with rfl | rfl | rfl | rfl | rfl
  · rw [fw_0]; exact t2
  · rw [fw_1, show (if v = 1 then 1 else 0) = if v = 1 ∧ 1 = 1 then 1 else 0 from ifc ⟨fun z => ⟨z, rfl⟩, fun z => z.1⟩]; exact t3
  · rw [fw_2, show (if 0 = 0 ∧ v ≠ 1 then 1 else 0) = if v ≠ 1 then 1 else 0 from ifc ⟨fun z => z.2, fun z => ⟨rfl, z⟩⟩]; exact t4
  · rw [fw_3, if_neg (show ¬ (0 = 1 ∧ v ≠ 1) by omega)]; rw [if_neg (show ¬ 1 ≠ 1 by omega)] at t5; exact t5
  · rw [fw_4, show (if v = 3 then 1 else 0) = if v = 3 ∨ 1 = 3 then 1 else 0 from ifc ⟨Or.inl, fun z => z.resolve_right (by omega)⟩]; exact t6
theorem m_wend {b b5 b6 : Mem} {B : F2} {s sp wk n x y set : Nat} {c : Nat → Nat} {o : Nat → Nat} {q : WS} {x3 x4 : Int32} (l1 : lX12_weaves_45 x3 x4 FU 0 b5 = some b6) (l2 : IQ b6 s sp wk c n B x y q) (hp : q.1 = B 1 x) (hp2 : q.2.1 = B 1 y) (ho6 : ∀ j, j < 5 → b6 269 (84 + j) = nI (o j)) (frF : ∀ b7 : Mem, (∀ j, ¬ (84 ≤ j ∧ j ≤ 88) → b7 269 j = b6 269 j) → (∀ m, m ≠ 269 → b7 m = b6 m) → frX2 b b7) :
    ∃ b', jX12_weaves_42 x3 x4 b5 = some b' ∧ (∀ j, j < 5 → b' 269 (84 + j) = nI (o j + Fk sp B c x y j q.2.2)) ∧ frX2 b b' := by
  rcases l2 with ⟨-, y2, -⟩ | ⟨i, y1, y2, y3, y4, y5⟩ | ⟨i, y1, y2, y3, y4, y5⟩
  · exact absurd y2 (by omega)
  · rcases y5 with ⟨y5, -⟩ | ⟨-, -, y6, y7⟩
    · exact absurd y5 (by omega)
    · obtain ⟨b7, t1, t2, t7, t8⟩ := m_tail1 (v := wvd sp B c x y i) l1 y6 y7 wvd_3 ho6
      have eF : ∀ j, Fk sp B c x y j q.2.2 = fw5 1 (wvd sp B c x y i) j := fun j => by unfold Fk; rw [y2, if_pos (by omega), show 1 + i - 1 = i by omega]
      exact ⟨b7, t1, fun j hj => by rw [eF]; exact t2 j hj, frF b7 t7 t8⟩
  · rcases y5 with ⟨y5, -⟩ | ⟨-, -, y6, y7⟩
    · exact absurd y5 (by omega)
    · obtain ⟨b7, t1, t2, t7, t8⟩ := m_tail0 (v := wvd sp B c y x i) l1 y7 y6 wvd_3 ho6
      have eF : ∀ j, Fk sp B c x y j q.2.2 = fw5 0 (wvd sp B c y x i) j := fun j => by unfold Fk; rw [y2, if_neg (by omega), show 7 + i - 7 = i by omega]
      exact ⟨b7, t1, fun j hj => by rw [eF]; exact t2 j hj, frF b7 t7 t8⟩
set_option maxHeartbeats 4000000 in
theorem m_weaves {b : Mem} {B : F2} {s sp wk n x y set : Nat} {c : Nat → Nat} {o : Nat → Nat} (hs : s < 2) (hn : n < 2) (os : okS sp wk c) (gB : okB B) (hx : x < B 0 0) (hy : y < B 0 0) (hH : HD b s sp wk c n B) (hset : set < 2 ^ 31) (hp : (phF (B 1 x) (B 1 y) set (B 1 x + B 1 y) (wi (B 1 x) (B 1 y))).1 = B 1 x) (ho : ∀ j, j < 5 → b 269 (84 + j) = nI (o j)) :
    ∃ b', fX12_weaves (nI x) (nI y) (nI set) (nI (B 1 x + B 1 y)) b = some b' ∧ (∀ j, j < 5 → b' 269 (84 + j) = nI (o j + Fk sp B c x y j (phF (B 1 x) (B 1 y) set (B 1 x + B 1 y) (wi (B 1 x) (B 1 y))).2.2)) ∧ frX2 b b' := by
  have b6x := gB.2.1 x
  have b6y := gB.2.1 y
  obtain ⟨m1, m2, m3, q1, q2, q3, hPA, fX, f84⟩ := m_wbegin (x := x) (y := y) hs hH
  unfold fX12_weaves
  rw [q1, bq, q2, bq, q3, bq, hPA.1.1.2.1.nt hn gB hx, bq]
  dsimp only
  -- tasks without steps
  have hinit : ∃ b5, ((if nI (B 1 x) = 0 then ((fX12_endsOf 0 m3).bind fun q6 => some q6) else (some m3)) : Option Mem).bind (fun q8 => jX12_weaves_29 (nI y) (nI set) (nI (B 1 x + B 1 y)) q8) = jX12_weaves_42 (nI set) (nI (B 1 x + B 1 y)) b5 ∧ IQ b5 s sp wk c n B x y (wi (B 1 x) (B 1 y)) ∧ frJ m3 b5 := by
    by_cases zx : B 1 x = 0
    · obtain ⟨b4, e1, e2, e3⟩ := hPA.end (w := 0) hn os gB hx hy (by omega) (by rw [if_pos rfl, if_pos rfl]; exact zx.symm)
      rw [if_pos rfl, if_pos rfl, if_pos rfl] at e2
      have e1' : fX12_endsOf 0 m3 = some b4 := e1
      rw [if_pos (by rw [zx]; rfl), e1', bq, bq]
      unfold jX12_weaves_29
      rw [e2.1.1.2.1.nt hn gB hy, bq]
      dsimp only
      by_cases zy : B 1 y = 0
      · obtain ⟨b5, g1, g2, g3⟩ := e2.end hn os gB hy (by omega) zy.symm
        have g1' : fX12_endsOf 1 b4 = some b5 := g1
        rw [if_pos (by rw [zy]; rfl), g1', bq, bq]
        refine ⟨b5, rfl, Or.inr (Or.inl ⟨0, by omega, ?_, zx.symm, Nat.le_refl _, Or.inr ⟨zy.symm, g2⟩⟩), e3.tr g3⟩
        show (if B 1 x = 0 then 1 else if B 1 y = 0 then 7 else 0) = 1 + 0
        rw [if_pos zx]
      · rw [if_neg (ne0 zy (by omega)), bq]
        refine ⟨b4, rfl, Or.inr (Or.inl ⟨0, by omega, ?_, zx.symm, Nat.le_refl _, Or.inl ⟨by show 0 < B 1 y; omega, e2⟩⟩), e3⟩
        show (if B 1 x = 0 then 1 else if B 1 y = 0 then 7 else 0) = 1 + 0
        rw [if_pos zx]
    · rw [if_neg (ne0 zx (by omega)), bq]
      unfold jX12_weaves_29
      rw [hPA.1.1.2.1.nt hn gB hy, bq]
      dsimp only
      by_cases zy : B 1 y = 0
      · obtain ⟨b5, g1, g2, g3⟩ := hPA.end (w := 1) hn os gB hx hy (by omega) (by rw [if_neg (by omega), if_neg (by omega)]; exact zy.symm)
        rw [if_neg (by omega), if_neg (by omega), if_neg (by omega)] at g2
        have g1' : fX12_endsOf 1 m3 = some b5 := g1
        rw [if_pos (by rw [zy]; rfl), g1', bq, bq]
        refine ⟨b5, rfl, Or.inr (Or.inr ⟨0, by omega, ?_, zy.symm, Nat.le_refl _, Or.inl ⟨by show 0 < B 1 x; omega, g2⟩⟩), g3⟩
        show (if B 1 x = 0 then 1 else if B 1 y = 0 then 7 else 0) = 7 + 0
        rw [if_neg zx, if_pos zy]
      · rw [if_neg (ne0 zy (by omega)), bq]
        refine ⟨m3, rfl, Or.inl ⟨?_, by show 0 < B 1 x; omega, by show 0 < B 1 y; omega, hPA⟩, frJ.rf⟩
        show (if B 1 x = 0 then 1 else if B 1 y = 0 then 7 else 0) = 0
        rw [if_neg zx, if_neg zy]
  obtain ⟨b5, h1, h2, h3⟩ := hinit
  rw [h1]
  have hsum := ph_sum (A := B 1 x) (N := B 1 y) (set := set) (B 1 x + B 1 y)
  have hval : ∀ m, m ≤ B 1 x + B 1 y → (phF (B 1 x) (B 1 y) set m (wi (B 1 x) (B 1 y))).1 ≤ B 1 x ∧ (phF (B 1 x) (B 1 y) set m (wi (B 1 x) (B 1 y))).2.1 ≤ B 1 y := fun m hm => by
    obtain ⟨k, hk⟩ : ∃ k, B 1 x + B 1 y = m + k := ⟨B 1 x + B 1 y - m, by omega⟩
    have := ph_mono (A := B 1 x) (N := B 1 y) (set := set) (m := m) k
    rw [← hk] at this
    omega
  have lp : ∃ b6, lX12_weaves_45 (nI set) (nI (B 1 x + B 1 y)) FU 0 b5 = some b6 ∧ IQ b6 s sp wk c n B x y (phF (B 1 x) (B 1 y) set (B 1 x + B 1 y) (wi (B 1 x) (B 1 y))) ∧ frJ b5 b6 := by
    refine loop_k (fun f j (q : Mem) => lX12_weaves_45 (nI set) (nI (B 1 x + B 1 y)) f (nI j) q) (B 1 x + B 1 y) (fun j q => IQ q s sp wk c n B x y (phF (B 1 x) (B 1 y) set j (wi (B 1 x) (B 1 y))) ∧ frJ b5 q) (fun q => IQ q s sp wk c n B x y (phF (B 1 x) (B 1 y) set (B 1 x + B 1 y) (wi (B 1 x) (B 1 y))) ∧ frJ b5 q) (Nat.zero_le _) (by omega) (s := b5) ⟨h2, frJ.rf⟩ ?_ ?_ ?_
    · intro q e1 e2; exact ⟨q, e1, e2⟩
    · intro f q h
      refine ⟨q, ?_, h⟩
      show lX12_weaves_45 _ _ _ _ _ = _
      rw [lX12_weaves_45, if_pos (by rw [le_nn (by omega) (by omega)]; omega)]
    · rintro f j q hj ⟨g1, g2⟩
      have hv := hval (j + 1) (by omega)
      rw [ph_S] at hv ⊢
      obtain ⟨c1, c2, c3, c4, c5, c6⟩ := g1.next (bit := set.testBit j) hn os gB hx hy hv.1 hv.2
      refine ⟨c2, ?_, c5, g2.tr c6⟩
      show lX12_weaves_45 _ _ _ _ _ = lX12_weaves_45 _ _ _ _ _
      rw [lX12_weaves_45, if_neg (by rw [le_nn (by omega) (by omega)]; omega), f_has hset (by omega), bq]
      dsimp only
      cases hb : set.testBit j
      · rw [hb, if_neg (by decide)] at c3 c4
        have c3' : fX12_steps (b2 true) q = some (true, c1) := c3
        have c4' : fX12_endsOf (b2 true) c1 = some c2 := c4
        rw [if_neg (by decide), bq, c3', bq]
        dsimp only
        rw [c4', bq, nI_1]
      · rw [hb, if_pos rfl] at c3 c4
        have c3' : fX12_steps (b2 false) q = some (true, c1) := c3
        have c4' : fX12_endsOf (b2 false) c1 = some c2 := c4
        rw [if_pos rfl, bq, c3', bq]
        dsimp only
        rw [c4', bq, nI_1]
  obtain ⟨b6, l1, l2, l3⟩ := lp
  have ho6 : ∀ j, j < 5 → b6 269 (84 + j) = nI (o j) := fun j hj => by rw [l3.1 _ (by omega), h3.1 _ (by omega), f84 _ (by omega)]; exact ho j hj
  have frF : ∀ b7 : Mem, (∀ j, ¬ (84 ≤ j ∧ j ≤ 88) → b7 269 j = b6 269 j) → (∀ m, m ≠ 269 → b7 m = b6 m) → frX2 b b7 := fun b7 t1 t2 => ⟨fun j hj => by rw [t1 j (by omega), l3.1 j (by omega), h3.1 j (by omega)]; exact fX.1 j hj, fun m hm => by rw [t2 m (by omega), l3.2 m hm, h3.2 m hm]; exact fX.2 m hm⟩
  exact m_wend (set := set) l1 l2 hp (by omega) ho6 frF
set_option maxHeartbeats 2000000 in
theorem m_weaveAll {b : Mem} {B : F2} {s sp wk n x y : Nat} {c : Nat → Nat} (hs : s < 2) (hn : n < 2) (os : okS sp wk c) (gB : okB B) (hx : x < B 0 0) (hy : y < B 0 0) (hH : HD b s sp wk c n B) : ∃ b', fX12_weaveAll (nI x) (nI y) b = some b' ∧ (∀ j, j < 5 → b' 269 (84 + j) = nI (wvn sp B c x y j)) ∧ frX2 b b' := by
  have b6x := gB.2.1 x
  have b6y := gB.2.1 y
  have p12 : 2 ^ (B 1 x + B 1 y) ≤ 4096 := (Nat.pow_le_pow_right (by decide) (show B 1 x + B 1 y ≤ 12 by omega) : 2 ^ (B 1 x + B 1 y) ≤ 2 ^ 12)
  unfold fX12_weaveAll
  generalize hs0 : st2 (st2 (st2 (st2 (st2 b 269 84 0) 269 85 0) 269 86 0) 269 87 0) 269 88 0 = s0
  have z0 : ∀ j, j < 5 → s0 269 (84 + j) = nI 0 := fun j hj => by
    rw [← hs0]
    rcases (show j = 0 ∨ j = 1 ∨ j = 2 ∨ j = 3 ∨ j = 4 by omega) with rfl | rfl | rfl | rfl | rfl
    · rw [st2_o _ _ (by omega), st2_o _ _ (by omega), st2_o _ _ (by omega), st2_o _ _ (by omega), st2_eq]; rfl
    · rw [st2_o _ _ (by omega), st2_o _ _ (by omega), st2_o _ _ (by omega), st2_eq]; rfl
    · rw [st2_o _ _ (by omega), st2_o _ _ (by omega), st2_eq]; rfl
    · rw [st2_o _ _ (by omega), st2_eq]; rfl
    · rw [st2_eq]; rfl
  have f0 : frX2 b s0 := ⟨fun j hj => by rw [← hs0, st2_o _ _ (by omega), st2_o _ _ (by omega), st2_o _ _ (by omega), st2_o _ _ (by omega), st2_o _ _ (by omega)], fun m hm => by rw [← hs0, st2_c _ _ (by omega), st2_c _ _ (by omega), st2_c _ _ (by omega), st2_c _ _ (by omega), st2_c _ _ (by omega)]⟩
  clear hs0
  have hH0 := hH.X2 f0
  rw [hH0.2.1.nt hn gB hx, bq]
  dsimp only
  rw [hH0.2.1.nt hn gB hy, bq]
  dsimp only
  rw [nI_add]
  have hfin : ∀ j, sm (fun set => if (phF (B 1 x) (B 1 y) set (B 1 x + B 1 y) (wi (B 1 x) (B 1 y))).1 = B 1 x then Fk sp B c x y j (phF (B 1 x) (B 1 y) set (B 1 x + B 1 y) (wi (B 1 x) (B 1 y))).2.2 else 0) (2 ^ (B 1 x + B 1 y)) = wvn sp B c x y j := fun j => by
    have hfp : fp (B 1 x) (B 1 y) ≤ 6 := by unfold fp; split <;> omega
    rw [rows_eq (F := Fk sp B c x y j) b6x b6y]
    unfold wvn
    congr 1
    · refine sm_cg _ (fun i hi => ?_)
      unfold Fk; rw [if_pos (by omega), show 1 + i - 1 = i by omega]
    · refine sm_cg _ (fun i hi => ?_)
      unfold Fk; rw [if_neg (by omega), show 7 + i - 7 = i by omega]
  refine loop_k (fun f j (q : Mem) => lX12_weaveAll_40 (nI x) (nI y) (nI (B 1 x + B 1 y)) f (nI j) q) (2 ^ (B 1 x + B 1 y)) (fun m q => (∀ j, j < 5 → q 269 (84 + j) = nI (sm (fun set => if (phF (B 1 x) (B 1 y) set (B 1 x + B 1 y) (wi (B 1 x) (B 1 y))).1 = B 1 x then Fk sp B c x y j (phF (B 1 x) (B 1 y) set (B 1 x + B 1 y) (wi (B 1 x) (B 1 y))).2.2 else 0) m)) ∧ frX2 b q) (fun q => (∀ j, j < 5 → q 269 (84 + j) = nI (wvn sp B c x y j)) ∧ frX2 b q) (Nat.zero_le _) (by omega) (s := s0) ⟨z0, f0⟩ ?_ ?_ ?_
  · intro q e1 e2
    have e1' : lX12_weaveAll_40 (nI x) (nI y) (nI (B 1 x + B 1 y)) FU 0 s0 = some q := e1
    rw [e1', bq]; exact ⟨q, rfl, e2⟩
  · rintro f q ⟨h1, h2⟩
    refine ⟨q, ?_, fun j hj => by rw [h1 j hj, hfin], h2⟩
    show lX12_weaveAll_40 _ _ _ _ _ _ = _
    rw [lX12_weaveAll_40, sh1 (by omega), if_pos (by rw [le_nn (by omega) (by omega)]; omega)]
  · rintro f set q hset ⟨h1, h2⟩
    have hq := hH.X2 h2
    have hsum := ph_sum (A := B 1 x) (N := B 1 y) (set := set) (B 1 x + B 1 y)
    have hc : lX12_weaveAll_40 (nI x) (nI y) (nI (B 1 x + B 1 y)) (f + 1) (nI set) q = ((if nI (phF (B 1 x) (B 1 y) set (B 1 x + B 1 y) (wi (B 1 x) (B 1 y))).1 = nI (B 1 x) then ((fX12_weaves (nI x) (nI y) (nI set) (nI (B 1 x + B 1 y)) q).bind fun q14 => some q14) else (some q)) : Option Mem).bind fun q16 => lX12_weaveAll_40 (nI x) (nI y) (nI (B 1 x + B 1 y)) f (nI (set + 1)) q16 := by
      rw [lX12_weaveAll_40, sh1 (by omega), if_neg (by rw [le_nn (by omega) (by omega)]; omega), m_bitsIn (A := B 1 x) (N := B 1 y) (by omega) (by omega), bq]
      dsimp only
      rw [hq.2.1.nt hn gB hx, bq, nI_1]
    by_cases z : (phF (B 1 x) (B 1 y) set (B 1 x + B 1 y) (wi (B 1 x) (B 1 y))).1 = B 1 x
    · obtain ⟨q', t1, t2, t3⟩ := m_weaves (set := set) hs hn os gB hx hy hq (by omega) z h1
      refine ⟨q', ?_, fun j hj => ?_, h2.tr t3⟩
      · show lX12_weaveAll_40 _ _ _ _ _ _ = lX12_weaveAll_40 _ _ _ _ _ _
        rw [hc, if_pos (by rw [z]), t1, bq, bq]
      · rw [t2 j hj]
        show _ = nI (sm _ set + if _ = B 1 x then _ else 0)
        rw [if_pos z]
    · refine ⟨q, ?_, fun j hj => ?_, h2⟩
      · show lX12_weaveAll_40 _ _ _ _ _ _ = lX12_weaveAll_40 _ _ _ _ _ _
        rw [hc, if_neg (by rw [eq_nn (by omega) (by omega)]; exact z), bq]
      · rw [h1 j hj]
        show _ = nI (sm _ set + if _ = B 1 x then _ else 0)
        rw [if_neg z]
        rfl
