theorem eqR_comm {c d : Nat → Nat} {n : Nat} : eqR c d n = eqR d c n := by
  by_cases h : ∀ k, k < n → c k = d k
  · rw [eqR_t h, eqR_t (fun k hk => (h k hk).symm)]
  · rw [eqR_f h, eqR_f (fun z => h (fun k hk => (z k hk).symm))]
def frX (b b' : Mem) : Prop := (∀ j, j ≠ 30 → j ≠ 72 → b' 269 j = b 269 j) ∧ ∀ m, m ≠ 269 → ¬ (281 ≤ m ∧ m ≤ 294) → m ≠ 309 → b' m = b m
theorem frX.rf {b : Mem} : frX b b := ⟨fun _ _ _ => rfl, fun _ _ _ _ => rfl⟩
theorem frX.tr {b b' b'' : Mem} (h : frX b b') (h2 : frX b' b'') : frX b b'' := ⟨fun j h3 h4 => (h2.1 j h3 h4).trans (h.1 j h3 h4), fun m h3 h4 h5 => (h2.2 m h3 h4 h5).trans (h.2 m h3 h4 h5)⟩
theorem frA.X {b b' : Mem} (h : frA b b') : frX b b' := ⟨fun j h1 _ => h.1 j h1, fun m h1 h2 h3 => h.2 m h1 (by omega) (by omega) (by omega) (by omega) (by omega) (by omega) (by omega) (by omega)⟩
theorem HD.fr {b b' : Mem} {s sp wk n : Nat} {c : Nat → Nat} {B : Nat → Nat → Nat} (h : HD b s sp wk c n B) (e : ∀ j, j < 29 → b' 269 j = b 269 j) (e5 : b' 275 = b 275) (e6 : b' 276 = b 276) : HD b' s sp wk c n B := by
  obtain ⟨h1, h2, h3, h4, h5⟩ := h
  exact ⟨h1.cg (e 23 (by omega)) e5, h2.cg (e 24 (by omega)) (e 27 (by omega)) e6, by rw [e 25 (by omega)]; exact h3, by rw [e 26 (by omega)]; exact h4, by rw [e 28 (by omega)]; exact h5⟩
theorem HD.X {b b' : Mem} {s sp wk n : Nat} {c : Nat → Nat} {B : Nat → Nat → Nat} (h : HD b s sp wk c n B) (e : frX b b') : HD b' s sp wk c n B := h.fr (fun j hj => e.1 j (by omega) (by omega)) (e.2 275 (by omega) (by omega) (by omega)) (e.2 276 (by omega) (by omega) (by omega))
theorem m_isSwap {b : Mem} {s sp wk n x y : Nat} {c : Nat → Nat} {B : Nat → Nat → Nat} (hs : s < 2) (hn : n < 2) (gB : okB B) (ok : okS sp wk c) (h : HD b s sp wk c n B) (hx : x < B 0 0) (hy : y < B 0 0) : ∃ b', fX12_isSwap (nI x) (nI y) b = some (eqR (rA B y (rA B x c)) (rA B x (rA B y c)) 10, b') ∧ frX b b' := by
  obtain ⟨⟨o1, o2⟩, o3, o5⟩ := ok
  have g0 := okG0 o5
  obtain ⟨b1, p1, p2, p3, p4⟩ := m_keysAsTold hs h.1 h.2.2.1
  have f1 : frX b b1 := ⟨fun j hj _ => p3 j hj, fun m h1 h2 h3 => p4 m h1 (by omega) (by omega) (by omega)⟩
  have h1 := h.X f1
  obtain ⟨b2, q1, q2, q3, q4⟩ := m_runAlone p2 o1 o2 g0 h1.2.1 hn gB hx
  have h2 := h1.X q4.X
  obtain ⟨b3, r1, r2, r3, r4⟩ := m_runAlone q2 o1 o2 (okG.rG gB g0 x) h2.2.1 hn gB hy
  have h3 := h2.X r4.X
  obtain ⟨b4, s1, s2, s3, s4, s5⟩ := m_keepEnd r2
  have f4 : frX b3 b4 := ⟨fun j _ hj => s4 j hj, fun m h1 h2 h3 => s5 m h1 h3⟩
  have h4 := h3.X f4
  obtain ⟨b5, t1, t2, t3, t4⟩ := m_keysAsTold hs h4.1 h4.2.2.1
  have f5 : frX b4 b5 := ⟨fun j hj _ => t3 j hj, fun m h1 h2 h3 => t4 m h1 (by omega) (by omega) (by omega)⟩
  have h5 := h4.X f5
  obtain ⟨b6, u1, u2, u3, u4⟩ := m_runAlone t2 o1 o2 g0 h5.2.1 hn gB hy
  have h6 := h5.X u4.X
  obtain ⟨b7, v1, v2, v3, v4⟩ := m_runAlone u2 o1 o2 (okG.rG gB g0 y) h6.2.1 hn gB hx
  have c72 : b7 269 72 = nI (thr (rA B y (rA B x c))) := by rw [v4.1 72 (by omega), u4.1 72 (by omega), t3 72 (by omega)]; exact s2
  have c309 : ∀ k, k < 10 → b7 309 k = nI (rA B y (rA B x c) k - 1) := fun k hk => by
    rw [v4.2 309 (by omega) (by omega) (by omega) (by omega) (by omega) (by omega) (by omega) (by omega) (by omega), u4.2 309 (by omega) (by omega) (by omega) (by omega) (by omega) (by omega) (by omega) (by omega) (by omega), t4 309 (by omega) (by omega) (by omega) (by omega)]
    exact s3 k hk
  have hc : okR c := fun k _ => o5 k
  have hE := m_isEnd v2 (okG.rG gB (okG.rG gB g0 y) x) (okR.rA gB (okR.rA gB hc x) y) c72 c309
  unfold fX12_isSwap
  rw [p1, bq, q1, bq, r1, bq, s1, bq, t1, bq, u1, bq, v1, bq, hE, bq]
  exact ⟨b7, rfl, (((((f1.tr q4.X).tr r4.X).tr f4).tr f5).tr u4.X).tr v4.X⟩
theorem m_swaps1 {b : Mem} {s sp wk n x z0 : Nat} {c : Nat → Nat} {B : Nat → Nat → Nat} (hs : s < 2) (hn : n < 2) (gB : okB B) (ok : okS sp wk c) (h : HD b s sp wk c n B) (hx : x < B 0 0) : ∃ b', lX12_swaps_33 (nI x) FU (nI z0) (nI 0) b = some (nI (z0 + sm (fun y => swp B c y x) x), b') ∧ frX b b' := by
  have g1 := gB.1
  refine loop_k (fun f j (q : Int32 × Mem) => lX12_swaps_33 (nI x) f q.1 (nI j) q.2) x (fun j q => q.1 = nI (z0 + sm (fun y => swp B c y x) j) ∧ frX b q.2) (fun r => r.1 = nI (z0 + sm (fun y => swp B c y x) x) ∧ frX b r.2) (Nat.zero_le _) (by omega) (s := (nI z0, b)) ⟨rfl, frX.rf⟩ ?_ ?_ ?_
  · rintro ⟨r1, r2⟩ e1 ⟨e2, e3⟩
    dsimp only at e2 e3
    exact ⟨r2, by rw [← e2]; exact e1, e3⟩
  · rintro f ⟨q1, q2⟩ ⟨h2, h3⟩
    dsimp only at h2 h3
    refine ⟨(q1, q2), ?_, h2, h3⟩
    show lX12_swaps_33 _ _ _ _ _ = _
    dsimp only
    rw [lX12_swaps_33, if_pos (by rw [le_nn (by omega) (by omega)]; omega)]
  · rintro f y ⟨q1, q2⟩ hy ⟨h2, h3⟩
    dsimp only at h2 h3
    obtain ⟨b1, p1, p2⟩ := m_isSwap hs hn gB ok (h.X h3) hx (show y < B 0 0 by omega)
    refine ⟨(nI (z0 + sm (fun y => swp B c y x) (y + 1)), b1), ?_, rfl, h3.tr p2⟩
    show lX12_swaps_33 _ _ _ _ _ = lX12_swaps_33 _ _ (nI (z0 + (sm (fun y => swp B c y x) y + swp B c y x))) _ _
    dsimp only
    rw [lX12_swaps_33, if_neg (by rw [le_nn (by omega) (by omega)]; omega), p1, bq, h2, nI_1]
    dsimp only
    unfold swp
    rw [eqR_comm (c := rA B x (rA B y c))]
    by_cases hw : eqR (rA B y (rA B x c)) (rA B x (rA B y c)) 10 = true
    · rw [if_pos hw, if_pos hw, bq, b2T, nI_add, Nat.add_assoc]
    · rw [if_neg hw, if_neg hw, bq, b2F, nI_add]; rfl
theorem m_swaps {b : Mem} {s sp wk n : Nat} {c : Nat → Nat} {B : Nat → Nat → Nat} (hs : s < 2) (hn : n < 2) (gB : okB B) (ok : okS sp wk c) (h : HD b s sp wk c n B) : ∃ b', lX12_swaps_21 FU 0 0 b = some (nI (sm (fun x => sm (fun y => swp B c y x) x) (B 0 0)), b') ∧ frX b b' := by
  have g1 := gB.1
  refine loop_k (fun f j (q : Int32 × Mem) => lX12_swaps_21 f q.1 (nI j) q.2) (B 0 0) (fun j q => q.1 = nI (sm (fun x => sm (fun y => swp B c y x) x) j) ∧ frX b q.2) (fun r => r.1 = nI (sm (fun x => sm (fun y => swp B c y x) x) (B 0 0)) ∧ frX b r.2) (Nat.zero_le _) (by omega) (s := (nI 0, b)) ⟨rfl, frX.rf⟩ ?_ ?_ ?_
  · rintro ⟨r1, r2⟩ e1 ⟨e2, e3⟩
    dsimp only at e2 e3
    exact ⟨r2, by rw [← e2]; exact e1, e3⟩
  · rintro f ⟨q1, q2⟩ ⟨h2, h3⟩
    dsimp only at h2 h3
    refine ⟨(q1, q2), ?_, h2, h3⟩
    show lX12_swaps_21 _ _ _ _ = _
    dsimp only
    rw [lX12_swaps_21, if_pos (by rw [(h.X h3).2.1.2.1, le_nn (by omega) (by omega)]; omega)]
  · rintro f x ⟨q1, q2⟩ hx ⟨h2, h3⟩
    dsimp only at h2 h3
    obtain ⟨b1, p1, p2⟩ := m_swaps1 (z0 := sm (fun x => sm (fun y => swp B c y x) x) x) hs hn gB ok (h.X h3) hx
    refine ⟨(nI (sm (fun x => sm (fun y => swp B c y x) x) (x + 1)), b1), ?_, rfl, h3.tr p2⟩
    show lX12_swaps_21 _ _ _ _ = lX12_swaps_21 _ _ _ _
    dsimp only
    rw [lX12_swaps_21, if_neg (by rw [(h.X h3).2.1.2.1, le_nn (by omega) (by omega)]; omega), h2, nI_1, show (0 : Int32) = nI 0 from rfl, p1, bq]
    rfl
theorem frX.M {b b' : Mem} (h : frX b b') : frM b b' := fun n hn => h.2 n (by omega) (by omega) (by omega)
theorem frX.t {b b' : Mem} (h : frX b b') : tM b b' := fun n hn => h.2 n (by omega) (by omega) (by omega)
theorem p_swaps (x y : Int32) : PAIR (fX11_swaps x y) (fX12_swaps x y) := PAIR.q (fun a b hR => by
  have e0 : ∀ n, n ≠ 269 → (st2 b 269 0 0) n = b n := fun n hn => by rw [st2_c _ _ hn]
  unfold fX11_swaps fX12_swaps
  by_cases hx : ∃ k : Nat, k < 2 ∧ x = nI k ∧ nI k < a 3 0
  · obtain ⟨s, hs, rfl, hm⟩ := hx
    have g1 : fX9_has 1 0 (nI s) a = some (true, a) := (has_pos hR (s := 0) (by omega) hs hm).1
    rw [g1, bq]
    dsimp only
    rw [if_pos rfl]
    by_cases hy : ∃ k : Nat, k < 2 ∧ y = nI k ∧ nI k < a 3 1
    · obtain ⟨n, hn, rfl, hm2⟩ := hy
      have g2 : fX9_has 1 1 (nI n) a = some (true, a) := (has_pos hR (s := 1) (by omega) hn hm2).1
      obtain ⟨B, gB, hC, hB⟩ := book_at hR hn hm2
      obtain ⟨sp, wk, c, ok, hS, hM⟩ := store_at hR hs hm
      obtain ⟨b1, p1, p2, p3, p4, p5, p6⟩ := m_hand hR e0 hs hm hn hm2 hM ok hB
      obtain ⟨a1, q1, q2⟩ := c_swaps (c := c) hs hn hC gB (fun k _ => ok.2.2 k) hS.2.2
      obtain ⟨b2, r1, r2⟩ := m_swaps hs hn gB ok p2
      rw [g2, bq, p1, bq]
      dsimp only
      rw [if_pos rfl, if_pos rfl, inb_T hn (by omega), gdT, nI_ck (by omega), q1, bq, r1, bq, sm_tri]
      exact ⟨_, _, _, rfl, rfl, fun m hm => q2 m (by omega) (by omega), p6.tr r2.M, fun m h1 h2 => q2 m (by omega) (by omega), p5.tr r2.t⟩
    · have g2 : fX9_has 1 1 y a = some (false, a) := (has_neg hR (s := 1) (by omega) hy).1
      rw [g2, bq, m_hand_no2 hR e0 hs hm hy, bq]
      have f1 : f269 b (st2 (st2 (st2 b 269 0 0) 269 23 (nI s)) 269 24 y) := fun n hn => by rw [st2_c _ _ hn, st2_c _ _ hn, st2_c _ _ hn]
      exact ⟨_, _, _, rfl, rfl, frC.rf, f1.M, tC.rf, f1.t⟩
  · have g1 : fX9_has 1 0 x a = some (false, a) := (has_neg hR (s := 0) (by omega) hx).1
    rw [g1, bq, m_hand_no1 hR e0 hx, bq]
    have f1 : f269 b (st2 (st2 b 269 0 0) 269 23 x) := fun n hn => by rw [st2_c _ _ hn, st2_c _ _ hn]
    exact ⟨_, _, _, rfl, rfl, frC.rf, f1.M, tC.rf, f1.t⟩)
theorem m_valueNow {b : Mem} {G : Nat → Nat → Nat} {sp k : Nat} (hG : MG b G sp) (hk : k < 10) : fX12_valueNow (nI k) b = some (vI (G 0 k), b) := by
  have t1 := thr_lt (G 0)
  unfold fX12_valueNow
  rw [hG.2.1, f_has (by omega) (by omega), bq, thr_bit hk]
  dsimp only
  by_cases h : G 0 k = 0
  · rw [if_neg (by simp [h]), h]; rfl
  · rw [if_pos (by simp [h]), inb_T hk (by omega), gdT, nI_ck (by omega), hG.2.2.1 k hk, vI_p (by omega)]
theorem p_alone (x y z v : Int32) : PAIR (fX11_alone x y z v) (fX12_alone x y z v) := PAIR.q (fun a b hR => by
  have e0 : ∀ n, n ≠ 269 → (st2 b 269 0 0) n = b n := fun n hn => by rw [st2_c _ _ hn]
  unfold fX11_alone fX12_alone
  by_cases hx : ∃ k : Nat, k < 2 ∧ x = nI k ∧ nI k < a 3 0
  · obtain ⟨s, hs, rfl, hm⟩ := hx
    have g1 : fX9_has 1 0 (nI s) a = some (true, a) := (has_pos hR (s := 0) (by omega) hs hm).1
    rw [g1, bq]
    dsimp only
    rw [if_pos rfl]
    by_cases hy : ∃ k : Nat, k < 2 ∧ y = nI k ∧ nI k < a 3 1
    · obtain ⟨n, hn, rfl, hm2⟩ := hy
      have g2 : fX9_has 1 1 (nI n) a = some (true, a) := (has_pos hR (s := 1) (by omega) hn hm2).1
      obtain ⟨B, gB, hC, hB⟩ := book_at hR hn hm2
      have o1 := gB.1
      obtain ⟨sp, wk, c, ok, hS, hM⟩ := store_at hR hs hm
      have hc : okR c := fun k _ => ok.2.2 k
      obtain ⟨b1, p1, p2, p3, p4, p5, p6⟩ := m_hand hR e0 hs hm hn hm2 hM ok hB
      rw [g2, bq, p1, bq]
      dsimp only
      rw [if_pos rfl, if_pos rfl, inb_T hn (by omega), inb_T hs (by omega), gdT, nI_ck (show n < 2147483648 by omega), nI_ck (show s < 2147483648 by omega)]
      rcases c_holds hC.1 o1 z with ⟨f2, f3⟩ | ⟨t, ht, rfl, f2⟩
      · rw [f2, m_noTask p2.2.1.2.1 o1 f3, bq, bq]
        exact ⟨_, _, _, rfl, rfl, frC.rf, p6, tC.rf, p5⟩
      · obtain ⟨a1, q1, q2, q3⟩ := c_copyKeys (y := 267) hS.2.2
        obtain ⟨a2, r1, r2, r3⟩ := c_runAlone (n := 10 + 14 * n) (BK.fr hC (by omega) q3) gB (m := 267) (by omega) ht hc q2
        obtain ⟨b2, s1, s2, s3, s4⟩ := m_runAlone p3.1 ok.1.1 ok.1.2 (okG0 ok.2.2) p2.2.1 hn gB ht
        have hf : frN 267 a a2 := q3.tr r3
        have hfC : frC a a2 := fun m hm => hf m (by omega)
        have hft : tC a a2 := fun m h1 h2 => hf m (by omega)
        have hgM : frM b b2 := p6.tr s4.X.M
        have hgt : tM b b2 := p5.tr s4.X.t
        have e3 : b2 288 0 = nI (rnA B t (B 1 t) (0, c)).1 := s3
        rw [f2, m_isTask p2.2.1.2.1 o1 ht, bq, bq]
        dsimp only
        rw [if_pos rfl, if_pos rfl, gdT, q1, bq, gdT, r1, bq, s1, bq]
        dsimp only
        by_cases v0' : v = 0
        · rw [if_pos v0', if_pos v0', e3]
          exact ⟨_, _, _, rfl, rfl, hfC, hgM, hft, hgt⟩
        · rw [if_neg v0', if_neg v0', f_inTen, f_in, bq, bq]
          dsimp only
          by_cases hv : v < 10
          · rw [if_neg (by simp [hv]), if_neg (by simp [hv])]
            exact ⟨_, _, _, rfl, rfl, hfC, hgM, hft, hgt⟩
          · obtain ⟨i, hi, rfl⟩ := nI_of (x := v) (fun z => hv (Int32.lt_of_lt_of_le z (by decide)))
            rw [li10, lt_nn (by omega) (by omega)] at hv
            by_cases h20 : i < 20
            · have k1 : decide (¬ nI i < 10 ∧ ¬ (10 : Int32) + 10 ≤ nI i) = true := decide_eq_true ⟨by rw [li10, lt_nn (by omega) (by omega)]; omega, by rw [li10, nI_add, le_nn (by omega) (by omega)]; omega⟩
              have k2 : decide (¬ nI i < 10 ∧ ¬ (19 : Int32) < nI i) = true := decide_eq_true ⟨by rw [li10, lt_nn (by omega) (by omega)]; omega, by rw [li19, lt_nn (by omega) (by omega)]; omega⟩
              have k3 : nI i - 10 = nI (i - 10) := by rw [li10, nI_sub (by omega)]
              rw [if_pos k1, if_pos k2, k3, inb_T (by omega) (by omega), gdT, nI_ck (by omega), r2 _ (by omega), m_valueNow s2 (by omega)]
              exact ⟨_, _, _, rfl, rfl, hfC, hgM, hft, hgt⟩
            · have k1 : decide (¬ nI i < 10 ∧ ¬ (10 : Int32) + 10 ≤ nI i) = false := decide_eq_false (fun z => z.2 (by rw [li10, nI_add, le_nn (by omega) (by omega)]; omega))
              have k2 : decide (¬ nI i < 10 ∧ ¬ (19 : Int32) < nI i) = false := decide_eq_false (fun z => z.2 (by rw [li19, lt_nn (by omega) (by omega)]; omega))
              rw [k1, k2]
              exact ⟨_, _, _, rfl, rfl, hfC, hgM, hft, hgt⟩
    · have g2 : fX9_has 1 1 y a = some (false, a) := (has_neg hR (s := 1) (by omega) hy).1
      rw [g2, bq, m_hand_no2 hR e0 hs hm hy, bq]
      have f1 : f269 b (st2 (st2 (st2 b 269 0 0) 269 23 (nI s)) 269 24 y) := fun n hn => by rw [st2_c _ _ hn, st2_c _ _ hn, st2_c _ _ hn]
      exact ⟨_, _, _, rfl, rfl, frC.rf, f1.M, tC.rf, f1.t⟩
  · have g1 : fX9_has 1 0 x a = some (false, a) := (has_neg hR (s := 0) (by omega) hx).1
    rw [g1, bq, m_hand_no1 hR e0 hx, bq]
    have f1 : f269 b (st2 (st2 b 269 0 0) 269 23 x) := fun n hn => by rw [st2_c _ _ hn, st2_c _ _ hn]
    exact ⟨_, _, _, rfl, rfl, frC.rf, f1.M, tC.rf, f1.t⟩)
