/-! ===== stop, state, why, after ===== -/
set_option maxHeartbeats 2000000 in
theorem setup {a b : Mem} (hR : RR a b) (x y z : Int32) :
    (∃ (s n p sp wk : Nat) (c : Nat → Nat) (B P X : F2), x = nI s ∧ y = nI n ∧ z = nI p ∧ s < 2 ∧ n < 2 ∧ p < 2 ∧ okS sp wk c ∧ okB B ∧ okP P ∧ okM sp wk 0 B X ∧ X 146 12 = 0 ∧ (∀ b2 : Mem, BP b2 c sp → b2 269 26 = nI wk → MN True b2 X sp) ∧
      (∀ m, m < 2147483648 → ∃ a', fX11_play x y z (nI m) a = some (true, a') ∧ CX a' (rnP sp B c P (min m (P 0 0)) X) s sp wk c n B ∧ frK a a') ∧
      ∃ b', fX12_layAll x y z (st2 b 269 0 0) = some (true, b') ∧ HD b' s sp wk c n B ∧ MN True b' X sp ∧ b' 269 69 = nI p ∧ MPl (fun i => b' 277 (121 * p + i)) P ∧ tM b b' ∧ frM b b' ∧ ∀ j, 70 ≤ j → b' 269 j = b 269 j) ∨
    ((∀ m, fX11_play x y z m a = some (false, a)) ∧ ∃ b', fX12_layAll x y z (st2 b 269 0 0) = some (false, b') ∧ tM b b' ∧ frM b b') := by
  have e0 : ∀ v : Int32, ∀ n, n ≠ 269 → (st2 (st2 b 269 0 0) 269 69 v) n = b n := fun v n hn => by rw [st2_c _ _ hn, st2_c _ _ hn]
  have f0 : ∀ v : Int32, f269 b (st2 (st2 b 269 0 0) 269 69 v) := fun v n hn => e0 v n hn
  by_cases hz : ∃ k : Nat, k < 2 ∧ z = nI k ∧ nI k < a 3 2
  · obtain ⟨p, hp, rfl, hm3⟩ := hz
    have g3 : fX9_has 1 2 (nI p) a = some (true, a) := (has_pos hR (s := 2) (by omega) hp hm3).1
    have i3 : fX12_is 2 (nI p) (st2 (st2 b 269 0 0) 269 69 (nI p)) = some (true, st2 (st2 b 269 0 0) 269 69 (nI p)) := (has_pos hR (s := 2) (by omega) hp hm3).2 _ (e0 _ _ (by omega))
    by_cases hx : ∃ k : Nat, k < 2 ∧ x = nI k ∧ nI k < a 3 0
    · obtain ⟨s, hs, rfl, hm⟩ := hx
      have g1 : fX9_has 1 0 (nI s) a = some (true, a) := (has_pos hR (s := 0) (by omega) hs hm).1
      by_cases hy : ∃ k : Nat, k < 2 ∧ y = nI k ∧ nI k < a 3 1
      · obtain ⟨n, hn, rfl, hm2⟩ := hy
        have g2 : fX9_has 1 1 (nI n) a = some (true, a) := (has_pos hR (s := 1) (by omega) hn hm2).1
        obtain ⟨B, gB, hC, hB⟩ := book_at hR hn hm2
        obtain ⟨sp, wk, c, os, hS, hM⟩ := store_at hR hs hm
        obtain ⟨P, gP, hCP, hMP⟩ := plan_at hR hp hm3
        obtain ⟨M, cM⟩ := CM.ex a
        have hE : EN a s sp wk c n B := ⟨hs, hn, os, gB, hS, hC⟩
        have e12 : stM s n wk c M 146 12 = 0 := (st_e (s := s) (n := n) (wk := wk) (c := c) (M := M)).1.2.2.2.2.2.1
        left
        refine ⟨s, n, p, sp, wk, c, B, P, stM s n wk c M, rfl, rfl, rfl, hs, hn, hp, os, gB, gP, st_ok os, e12, fun b2 h1 h2 => st_mn h1 h2, fun m hm => ?_, ?_⟩
        · obtain ⟨a1, q1, q2, q3⟩ := cW_st cM hE
          have hX1 : CX a1 (stM s n wk c M) s sp wk c n B := ⟨q2, hE.K q3, (st_e (s := s) (n := n) (wk := wk) (c := c) (M := M)).1.1, (st_e (s := s) (n := n) (wk := wk) (c := c) (M := M)).1.2.1⟩
          obtain ⟨a2, r1, r2, r3⟩ := c_playL (m := m) hX1 (st_ok os) e12 gP hp (by rw [q3 _ (by omega), q3 (15 + 14 * p + 1) (by omega), q3 (15 + 14 * p + 2) (by omega), q3 (15 + 14 * p + 3) (by omega)]; exact hCP) hm
          refine ⟨a2, ?_, r2, q3.tr r3⟩
          unfold fX11_play
          rw [g1, bq]
          dsimp only
          rw [if_pos rfl, g2, bq]
          dsimp only
          rw [if_pos rfl, g3, bq]
          dsimp only
          rw [if_pos rfl, inb_T hp (by omega), inb_T hs (by omega), inb_T hn (by omega), gdT, gdT, gdT, nI_ck (by omega), nI_ck (by omega), nI_ck (by omega), q1, bq, r1, bq]
        · obtain ⟨b1, p1, p2, p3, p4, p5, p6⟩ := m_hand hR (e0 (nI p)) hs hm hn hm2 hM os hB
          refine ⟨b1, ?_, p2, st_mn p3 p2.2.2.2.1, ?_, ?_, p5, p6, fun j hj => by rw [p4 j (by omega), st2_o _ _ (by omega), st2_o _ _ (by omega)]⟩
          · unfold fX12_layAll fX12_hasPlan
            rw [i3, bq, bq]
            dsimp only
            rw [if_pos rfl, p1, bq]
            rfl
          · rw [p4 69 (by omega), st2_eq]
          · rw [p5 277 (by omega)]; exact hMP
      · right
        have g2 : fX9_has 1 1 y a = some (false, a) := (has_neg hR (s := 1) (by omega) hy).1
        refine ⟨fun m => ?_, st2 (st2 (st2 (st2 b 269 0 0) 269 69 (nI p)) 269 23 (nI s)) 269 24 y, ?_, ?_, ?_⟩
        · unfold fX11_play
          rw [g1, bq]
          dsimp only
          rw [if_pos rfl, g2, bq]
          rfl
        · unfold fX12_layAll fX12_hasPlan
          rw [i3, bq, bq]
          dsimp only
          rw [if_pos rfl, m_hand_no2 hR (e0 (nI p)) hs hm hy, bq]
          rfl
        · exact (f0 (nI p)).t.tr ((tM.st _ _ (by omega)).tr (tM.st _ _ (by omega)))
        · exact (f0 (nI p)).M.tr ((frM.st _ _ (by omega)).tr (frM.st _ _ (by omega)))
    · right
      have g1 : fX9_has 1 0 x a = some (false, a) := (has_neg hR (s := 0) (by omega) hx).1
      refine ⟨fun m => ?_, st2 (st2 (st2 b 269 0 0) 269 69 (nI p)) 269 23 x, ?_, ?_, ?_⟩
      · unfold fX11_play
        rw [g1, bq]
        rfl
      · unfold fX12_layAll fX12_hasPlan
        rw [i3, bq, bq]
        dsimp only
        rw [if_pos rfl, m_hand_no1 hR (e0 (nI p)) hx y, bq]
        rfl
      · exact (f0 (nI p)).t.tr (tM.st _ _ (by omega))
      · exact (f0 (nI p)).M.tr (frM.st _ _ (by omega))
  · right
    have g3 : fX9_has 1 2 z a = some (false, a) := (has_neg hR (s := 2) (by omega) hz).1
    have i3 : fX12_is 2 z (st2 (st2 b 269 0 0) 269 69 z) = some (false, st2 (st2 b 269 0 0) 269 69 z) := (has_neg hR (s := 2) (by omega) hz).2 _ (e0 _ _ (by omega))
    refine ⟨fun m => ?_, st2 (st2 b 269 0 0) 269 69 z, ?_, (f0 z).t, (f0 z).M⟩
    · unfold fX11_play
      rcases has_pair hR (s := 0) (by omega) x with ⟨h1, -⟩ | ⟨k, -, -, -, h1, -⟩
      · have h1' : fX9_has 1 0 x a = some (false, a) := h1
        rw [h1', bq]; rfl
      · have h1' : fX9_has 1 0 x a = some (true, a) := h1
        rw [h1', bq]
        dsimp only
        rw [if_pos rfl]
        rcases has_pair hR (s := 1) (by omega) y with ⟨h2, -⟩ | ⟨k, -, -, -, h2, -⟩
        · have h2' : fX9_has 1 1 y a = some (false, a) := h2
          rw [h2', bq]; rfl
        · have h2' : fX9_has 1 1 y a = some (true, a) := h2
          rw [h2', bq]
          dsimp only
          rw [if_pos rfl, g3, bq]; rfl
    · unfold fX12_layAll fX12_hasPlan
      rw [i3, bq, bq]
      rfl
theorem p_stop (x y z : Int32) : PAIR (fX11_stop x y z) (fX12_stop x y z) := PAIR.q (fun a b hR => by
  unfold fX11_stop fX12_stop
  rcases setup hR x y z with ⟨s, n, p, sp, wk, c, B, P, X, rfl, rfl, rfl, hs, hn, hp, os, gB, gP, ok, e12, hBP, hC, b1, l1, l2, l3, l4, l5, l6, l7, -⟩ | ⟨hC, b1, l1, l6, l7⟩
  · obtain ⟨a1, c1, c2, c3⟩ := hC 40 (by omega)
    have c1' : fX11_play (nI s) (nI n) (nI p) 40 a = some (true, a1) := c1
    rw [c1', bq, l1, bq]
    dsimp only
    rw [if_pos rfl, if_pos rfl, m_deeds hp l4 l5, bq]
    dsimp only
    obtain ⟨b2, d1, d2, d3, -⟩ := m_play (m := P 0 0) l3 l2 hs hn os gB gP ok e12 hp l4 l5 (Nat.le_refl _)
    rw [d1, bq]
    have em : min 40 (P 0 0) = P 0 0 := by have := gP.1; omega
    rw [em] at c2
    rw [c2.1.e3]
    exact ⟨_, _, _, rfl, rfl, c3.C, l7.tr d3.M, c3.t, l6.tr d3.t⟩
  · rw [hC, bq, l1, bq]
    exact ⟨_, _, _, rfl, rfl, frC.rf, l7, tC.rf, l6⟩)
theorem p_after (x y z v : Int32) : PAIR (fX11_after x y z v) (fX12_after x y z v) := PAIR.q (fun a b hR => by
  unfold fX11_after fX12_after
  rcases setup hR x y z with ⟨s, n, p, sp, wk, c, B, P, X, rfl, rfl, rfl, hs, hn, hp, os, gB, gP, ok, e12, hBP, hC, b1, l1, l2, l3, l4, l5, l6, l7, -⟩ | ⟨hC, b1, l1, l6, l7⟩
  · obtain ⟨a1, c1, c2, c3⟩ := hC 40 (by omega)
    have c1' : fX11_play (nI s) (nI n) (nI p) 40 a = some (true, a1) := c1
    rw [c1', bq, l1, bq]
    dsimp only
    rw [if_pos rfl, if_pos rfl, m_deeds hp l4 l5, bq]
    dsimp only
    obtain ⟨b2, d1, d2, d3, -⟩ := m_play (m := P 0 0) l3 l2 hs hn os gB gP ok e12 hp l4 l5 (Nat.le_refl _)
    rw [d1, bq]
    dsimp only
    have em : min 40 (P 0 0) = P 0 0 := by have := gP.1; omega
    rw [em] at c2
    have okR := (rn_ok (c := c) gB gP os.2.2 ok e12 (P 0 0) gP.1).1
    have hH2 := l2.O d3
    obtain ⟨s1, s2, s3, s4, s5, s6, s7, s8⟩ := d2.2.1
    have fin : ∀ r : Int32, ∃ (r' : Int32) (a' b' : Mem), (some (r, a1) : Option (Int32 × Mem)) = some (r', a') ∧ (some (r, b2) : Option (Int32 × Mem)) = some (r', b') ∧ frC a a' ∧ frM b b' ∧ tC a a' ∧ tM b b' := fun r => ⟨r, a1, b2, rfl, rfl, c3.C, l7.tr d3.M, c3.t, l6.tr d3.t⟩
    by_cases v0' : v = 0
    · rw [if_pos v0', if_pos v0', c_often c2 okR, m_often d2 hH2 gB okR]; exact fin _
    rw [if_neg v0', if_neg v0']
    by_cases v1 : v = 1
    · rw [if_pos v1, if_pos v1, c_hot c2.1 okR, m_hot d2 okR]; exact fin _
    rw [if_neg v1, if_neg v1]
    by_cases v2 : v = 2
    · rw [if_pos v2, if_pos v2, c2.1.e3, s6]; exact fin _
    rw [if_neg v2, if_neg v2]
    by_cases v3 : v = 3
    · rw [if_pos v3, if_pos v3, c2.1.e3, s7]; exact fin _
    rw [if_neg v3, if_neg v3]
    by_cases v4 : v = 4
    · rw [if_pos v4, if_pos v4, c2.1.e3, s8]; exact fin _
    rw [if_neg v4, if_neg v4]
    by_cases v5 : v = 5
    · rw [if_pos v5, if_pos v5, c_top c2.1 okR, m_top d2 okR]; exact fin _
    rw [if_neg v5, if_neg v5]; exact fin _
  · rw [hC, bq, l1, bq]
    exact ⟨_, _, _, rfl, rfl, frC.rf, l7, tC.rf, l6⟩)
set_option maxHeartbeats 2000000 in
theorem p_why (x y z k v : Int32) : PAIR (fX11_why x y z k v) (fX12_why x y z k v) := PAIR.q (fun a b hR => by
  unfold fX11_why fX12_why
  rcases setup hR x y z with ⟨s, n, p, sp, wk, c, B, P, X, rfl, rfl, rfl, hs, hn, hp, os, gB, gP, ok, e12, hBP, hC, b1, l1, l2, l3, l4, l5, l6, l7, -⟩ | ⟨hC, b1, l1, l6, l7⟩
  · have hc := os.2.2
    have p40 := gP.1
    obtain ⟨a1, c1, c2, c3⟩ := hC 40 (by omega)
    have c1' : fX11_play (nI s) (nI n) (nI p) 40 a = some (true, a1) := c1
    rw [c1', bq, l1, bq]
    dsimp only
    rw [if_pos rfl, if_pos rfl, m_deeds hp l4 l5, bq]
    dsimp only
    have em : min 40 (P 0 0) = P 0 0 := by omega
    rw [em] at c2
    obtain ⟨okR, le, -, -⟩ := rn_ok (c := c) gB gP hc ok e12 (P 0 0) p40
    rw [f_in, bq]
    dsimp only
    have done : ∀ r : Int32, ∃ (r' : Int32) (a' b' : Mem), (some (r, a1) : Option (Int32 × Mem)) = some (r', a') ∧ (some (r, b1) : Option (Int32 × Mem)) = some (r', b') ∧ frC a a' ∧ frM b b' ∧ tC a a' ∧ tM b b' := fun r => ⟨r, a1, b1, rfl, rfl, c3.C, l7, c3.t, l6⟩
    by_cases k0 : k < 0
    · rw [if_pos k0, decide_eq_false (fun z => z.1 k0), if_neg (show ¬ false = true by decide)]; exact done _
    rw [if_neg k0]
    obtain ⟨j, hj, rfl⟩ := nI_of k0
    have ed12 : a1 146 12 = nI (rnP sp B c P (P 0 0) X 146 12) := c2.1.e3
    have esv : nI (P 0 0) - 1 = vI (P 0 0) := nI_sv (by omega)
    rw [esv]
    by_cases kp : j < P 0 0
    · rw [decide_eq_true ⟨k0, by rw [lt_vn (by omega) (by omega)]; omega⟩, if_pos rfl, f_in, bq]
      dsimp only
      by_cases hv : ¬ v < 0 ∧ ¬ (3 : Int32) < v
      · rw [decide_eq_true hv, if_pos rfl, nI_1]
        obtain ⟨b2, d1, d2, d3, d4⟩ := m_play (m := j + 1) l3 l2 hs hn os gB gP ok e12 hp l4 l5 (by omega)
        rw [d1, bq]
        dsimp only
        have fin : ∀ r : Int32, ∃ (r' : Int32) (a' b' : Mem), (some (r, a1) : Option (Int32 × Mem)) = some (r', a') ∧ (some (r, b2) : Option (Int32 × Mem)) = some (r', b') ∧ frC a a' ∧ frM b b' ∧ tC a a' ∧ tM b b' := fun r => ⟨r, a1, b2, rfl, rfl, c3.C, l7.tr d3.M, c3.t, l6.tr d3.t⟩
        obtain ⟨okj, lej, -, -⟩ := rn_ok (c := c) gB gP hc ok e12 (j + 1) (by omega)
        obtain ⟨m', hm'⟩ : ∃ m', P 0 0 = (j + 1) + m' := ⟨P 0 0 - (j + 1), by omega⟩
        obtain ⟨h1, h2, h3⟩ := rn_h (c := c) (j := j + 1) gB gP hc ok e12 m' (by omega)
        rw [← hm'] at h1 h2 h3
        by_cases hf : rnP sp B c P (j + 1) X 146 12 = j + 1
        · rw [if_pos (show nI (rnP sp B c P (j + 1) X 146 12) = nI (j + 1) by rw [hf]), if_pos (show nI j < a1 146 12 by rw [ed12, lt_nn (by omega) (by omega)]; omega), inb_T (show j < 60 by omega) (by omega), nI_ck (by omega)]
          simp only [gdT]
          have e69 : b2 269 69 = nI p := by rw [d3.1 69 (by omega)]; exact l4
          have hP2 : MPl (fun i => b2 277 (121 * p + i)) P := by rw [d3.2 277 (by omega)]; exact l5
          rw [(m_deedOf (k := j) hp gP e69 hP2 kp).1, bq]
          dsimp only
          have r4 : a1 154 j = nI (rnP sp B c P (j + 1) X 154 j) := by rw [← h2 154 j (by omega) (by omega) (by omega)]; exact c2.1.n (by omega) (by omega) (by unfold vc; omega)
          have r5 : a1 155 j = vI (rnP sp B c P (j + 1) X 155 j) := by rw [← h2 155 j (by omega) (by omega) (by omega)]; exact c2.1.v (by omega) (by omega) (by unfold vc; omega)
          have r6 : a1 156 j = vI (rnP sp B c P (j + 1) X 156 j) := by rw [← h2 156 j (by omega) (by omega) (by omega)]; exact c2.1.v (by omega) (by omega) (by unfold vc; omega)
          have r7 : a1 157 j = vI (rnP sp B c P (j + 1) X 157 j) := by rw [← h2 157 j (by omega) (by omega) (by omega)]; exact c2.1.v (by omega) (by omega) (by unfold vc; omega)
          rw [r4, r5, r6, r7]
          obtain ⟨p1, p2, p3⟩ := P_c gP j
          by_cases k3 : P 1 j = 3
          · obtain ⟨m1, m2, m3, m4⟩ := d4 hf (by omega) (by rw [Nat.add_sub_cancel]; exact k3)
            rw [Nat.add_sub_cancel] at m1 m2 m3 m4
            have m3' := m3 trivial
            rw [if_pos (show nI (P 1 j) = 3 by rw [k3]; rfl), bq]
            by_cases v0' : v = 0
            · rw [if_pos v0', if_pos v0', if_pos rfl, m1]; exact fin _
            rw [if_neg v0', if_neg v0']
            by_cases v1 : v = 1
            · rw [if_pos v1, if_pos v1, if_pos rfl, m2]; exact fin _
            rw [if_neg v1, if_neg v1]
            by_cases v2 : v = 2
            · rw [if_pos v2, if_pos v2, if_pos rfl, m3']; exact fin _
            rw [if_neg v2, if_neg v2]
            by_cases v3 : v = 3
            · rw [if_pos v3, if_pos rfl, m4]; exact fin _
            exfalso
            obtain ⟨i, hi, rfl⟩ := nI_of hv.1
            have h3' := hv.2
            rw [li3, lt_nn (by omega) (by omega)] at h3'
            rcases (show i = 0 ∨ i = 1 ∨ i = 2 ∨ i = 3 by omega) with rfl | rfl | rfl | rfl
            · exact v0' rfl
            · exact v1 rfl
            · exact v2 rfl
            · exact v3 rfl
          · have hj0 : rnP sp B c P j X 146 12 = j := rn_full (c := c) gB gP hc ok e12 (j := j) (m := j + 1) (by omega) (by omega) (by omega)
            have okj0 := (rn_ok (c := c) gB gP hc ok e12 j (by omega)).1
            have hz : ∀ q, 154 ≤ q → q ≤ 157 → rnP sp B c P (j + 1) X q j = 0 := fun q q1 q2 => by
              rw [rnP_S] at hf ⊢
              unfold rnS at hf ⊢
              by_cases hh : rnP sp B c P j X 146 12 = j ∧ can B (P 1 j) (P 2 j) (P 3 j) (rnP sp B c P j X) = true
              · rw [if_pos hh]
                have := op_h0 (c := c) (tv := P 3 j) okj0 p1 k3 p2 hh.2 q q1 q2
                rw [hj0] at this
                exact this
              · rw [if_neg hh] at hf; omega
            rw [hz 154 (by omega) (by omega), hz 155 (by omega) (by omega), hz 156 (by omega) (by omega), hz 157 (by omega) (by omega), if_neg (ne3 k3 (by omega)), bq]
            by_cases v0' : v = 0
            · rw [if_pos v0', if_pos v0', if_neg (by decide)]; exact fin _
            rw [if_neg v0', if_neg v0']
            by_cases v1 : v = 1
            · rw [if_pos v1, if_pos v1, if_neg (by decide)]; exact fin _
            rw [if_neg v1, if_neg v1]
            by_cases v2 : v = 2
            · rw [if_pos v2, if_pos v2, if_neg (by decide)]; exact fin _
            rw [if_neg v2, if_neg v2]
            by_cases v3 : v = 3
            · rw [if_pos v3, if_neg (by decide)]; exact fin _
            exfalso
            obtain ⟨i, hi, rfl⟩ := nI_of hv.1
            have h3' := hv.2
            rw [li3, lt_nn (by omega) (by omega)] at h3'
            rcases (show i = 0 ∨ i = 1 ∨ i = 2 ∨ i = 3 by omega) with rfl | rfl | rfl | rfl
            · exact v0' rfl
            · exact v1 rfl
            · exact v2 rfl
            · exact v3 rfl
        · rw [if_neg (show ¬ nI (rnP sp B c P (j + 1) X 146 12) = nI (j + 1) by rw [eq_nn (by omega) (by omega)]; exact hf), if_neg (show ¬ nI j < a1 146 12 by rw [ed12, lt_nn (by omega) (by omega)]; intro q; exact hf (rn_full (c := c) gB gP hc ok e12 (j := j + 1) (m := P 0 0) (by omega) p40 (by omega)))]
          exact fin _
      · rw [decide_eq_false hv, if_neg (show ¬ false = true by decide)]
        have v0' : v ≠ 0 := fun q => hv (by rw [q]; exact ⟨by decide, by decide⟩)
        have v1 : v ≠ 1 := fun q => hv (by rw [q]; exact ⟨by decide, by decide⟩)
        have v2 : v ≠ 2 := fun q => hv (by rw [q]; exact ⟨by decide, by decide⟩)
        have v3 : v ≠ 3 := fun q => hv (by rw [q]; exact ⟨by decide, by decide⟩)
        by_cases q : nI j < a1 146 12
        · rw [if_pos q, if_neg v0', if_neg v1, if_neg v2, if_neg v3]; exact done _
        · rw [if_neg q]; exact done _
    · rw [decide_eq_false (fun q => q.2 (by rw [lt_vn (by omega) (by omega)]; omega)), if_neg (show ¬ false = true by decide), if_neg (show ¬ nI j < a1 146 12 by rw [ed12, lt_nn (by omega) (by omega)]; omega)]
      exact done _
  · rw [hC, bq, l1, bq]
    exact ⟨_, _, _, rfl, rfl, frC.rf, l7, tC.rf, l6⟩)
set_option maxHeartbeats 2000000 in
theorem p_state (x y z k v : Int32) : PAIR (fX11_state x y z k v) (fX12_state x y z k v) := PAIR.q (fun a b hR => by
  unfold fX11_state fX12_state
  rcases setup hR x y z with ⟨s, n, p, sp, wk, c, B, P, X, rfl, rfl, rfl, hs, hn, hp, os, gB, gP, ok, e12, hBP, hC, b1, l1, l2, l3, l4, l5, l6, l7, -⟩ | ⟨hC, b1, l1, l6, l7⟩
  · have hc := os.2.2
    have p40 := gP.1
    rw [l1, bq]
    dsimp only
    rw [if_pos rfl, m_deeds hp l4 l5, bq]
    dsimp only
    rw [f_in, bq]
    dsimp only
    by_cases k0 : k < 0
    · rw [if_pos k0, decide_eq_false (fun z => z.1 k0), if_neg (show ¬ false = true by decide)]
      exact ⟨_, _, _, rfl, rfl, frC.rf, l7, tC.rf, l6⟩
    rw [if_neg k0]
    obtain ⟨j, hj, rfl⟩ := nI_of k0
    obtain ⟨a1, c1, c2, c3⟩ := hC j (by omega)
    rw [c1, bq]
    dsimp only
    have ed12 : a1 146 12 = nI (rnP sp B c P (min j (P 0 0)) X 146 12) := c2.1.e3
    rw [if_pos rfl]
    obtain ⟨okR, le, -, -⟩ := rn_ok (c := c) gB gP hc ok e12 (min j (P 0 0)) (by omega)
    by_cases kp : j ≤ P 0 0
    · have em : min j (P 0 0) = j := by omega
      rw [em] at c2 okR le ed12
      rw [decide_eq_true ⟨k0, by rw [lt_nn (by omega) (by omega)]; omega⟩, if_pos rfl]
      obtain ⟨b2, d1, d2, d3, -⟩ := m_play (m := j) l3 l2 hs hn os gB gP ok e12 hp l4 l5 kp
      rw [d1, bq]
      dsimp only
      have fin : ∀ r : Int32, ∃ (r' : Int32) (a' b' : Mem), (some (r, a1) : Option (Int32 × Mem)) = some (r', a') ∧ (some (r, b2) : Option (Int32 × Mem)) = some (r', b') ∧ frC a a' ∧ frM b b' ∧ tC a a' ∧ tM b b' := fun r => ⟨r, a1, b2, rfl, rfl, c3.C, l7.tr d3.M, c3.t, l6.tr d3.t⟩
      by_cases hf : rnP sp B c P j X 146 12 = j
      · rw [if_pos (show nI j ≤ a1 146 12 by rw [ed12, hf, le_nn (by omega) (by omega)]; omega), if_pos (show nI (rnP sp B c P j X 146 12) = nI j by rw [hf])]
        have hH2 := l2.O d3
        by_cases v5 : v = 5
        · have e5 : fX12_ofState v b2 = some (nI (lst (rnP sp B c P j X)), b2) := by
            rw [v5]; unfold fX12_ofState
            rw [if_pos (by decide), if_neg (by decide), if_neg (by decide), if_neg (by decide), if_neg (by decide), if_neg (by decide), if_pos rfl, m_loses d2 okR]; rfl
          rw [if_pos v5, k_lost c2.1 okR, e5]; exact fin _
        rw [if_neg v5, f_inTen, bq]
        dsimp only
        by_cases v3 : ¬ v < 30 ∧ ¬ (30 : Int32) + 10 ≤ v
        · rw [decide_eq_true v3, if_pos rfl]
          obtain ⟨i, hi, rfl⟩ := nI_of (x := v) (fun q => v3.1 (Int32.lt_of_lt_of_le q (by decide)))
          have v31 := v3.1
          have v32 := v3.2
          rw [li30, lt_nn (by omega) (by omega)] at v31
          rw [li30, li10, nI_add, le_nn (by omega) (by omega)] at v32
          obtain ⟨a2, w1, w2⟩ := k_recover (n := 267) (m := 268) (f := 0) c2 okR (by omega) (by omega) (by omega) (by omega)
          have w1' : fX3_recover 0 267 268 a1 = some a2 := w1
          obtain ⟨b3, t1, t2, t3⟩ := m_layLeft d2 hH2 hs okR
          have qb : ∀ i, i < 10 → rcv 0 c (rnP sp B c P j X) 0 i ≤ 100 := fun i hi => by
            have ln := okR.2.2.2.2.2.1
            exact ((qB.oW (X := 5100) (f := 0) (d := dur 0 (rnP sp B c P j X)) (m := rnP sp B c P j X 146 11) (M := rnP sp B c P j X) (q := G0 c) (fun k hk => ⟨hc k, by show 0 ≤ 5100; omega⟩) (fun i hi _ => ⟨(ln i hi).2.2.2.1, (ln i hi).2.2.2.2.2.2.2.2.2.2.1⟩) _) i hi).1
          have qbi := qb (i - 30) (by omega)
          rw [w1', bq, show nI i - 30 = nI (i - 30) by rw [li30, nI_sub (by omega)], inb_T (by omega) (by omega), gdT, nI_ck (by omega), w2.1 _ (by omega)]
          have edv : nI i / 10 = nI 3 := by rw [li10, nI_dv (by omega) (by omega) (by omega)]; congr 1; omega
          have emd : nI i % 10 = nI (i - 30) := by rw [li10, nI_md (by omega) (by omega) (by omega)]; congr 1; omega
          have e5 : fX12_ofState (nI i) b2 = some (vI (rcv 0 c (rnP sp B c P j X) 0 (i - 30)), b3) := by
            unfold fX12_ofState fX12_ofKeys
            rw [if_neg (by rw [li10, lt_nn (by omega) (by omega)]; omega), if_neg (by rw [li50, le_nn (by omega) (by omega)]; omega), edv, emd, if_neg (by decide), if_neg (by decide), if_pos (by rfl), t1, bq, t2.1, f_has (by have := thr_lt (rcv 0 c (rnP sp B c P j X) 0); omega) (by omega), bq]
            dsimp only
            rw [thr_bit (by omega), inb_T (by omega) (by omega), gdT, nI_ck (by omega), t2.2.1 _ (by omega)]
            by_cases q : rcv 0 c (rnP sp B c P j X) 0 (i - 30) = 0
            · rw [decide_eq_false (fun y => y q), if_neg (show ¬ false = true by decide), q]; rfl
            · rw [decide_eq_true q, if_pos rfl, vI_p (by omega)]; rfl
          rw [e5, bq]
          refine ⟨_, _, _, rfl, rfl, ?_, (l7.tr d3.M).tr t3.O.M, ?_, (l6.tr d3.t).tr t3.O.t⟩
          · exact c3.C.tr (fun m hm => w2.2.2.1 m (by omega) (by omega))
          · exact c3.t.tr (fun m h1 h2 => w2.2.2.1 m (by omega) (by omega))
        · rw [decide_eq_false v3, if_neg (show ¬ false = true by decide)]
          have v3' : ¬ (¬ v < 30 ∧ ¬ (39 : Int32) < v) := fun q => v3 ⟨q.1, fun y => q.2 (Int32.lt_of_lt_of_le (show (39 : Int32) < 30 + 10 by decide) y)⟩
          obtain ⟨r, t1, t2⟩ := view_pair (x := v) c2 d2 hH2 okR v5 v3'
          rw [t1, t2]; exact fin _
      · rw [if_neg (show ¬ nI j ≤ a1 146 12 by rw [ed12, le_nn (by omega) (by omega)]; omega), if_neg (show ¬ nI (rnP sp B c P j X 146 12) = nI j by rw [eq_nn (by omega) (by omega)]; exact hf)]; exact fin _
    · rw [decide_eq_false (fun q => q.2 (by rw [lt_nn (by omega) (by omega)]; omega)), if_neg (show ¬ false = true by decide), if_neg (show ¬ nI j ≤ a1 146 12 by rw [ed12, le_nn (by omega) (by omega)]; omega)]
      exact ⟨_, _, _, rfl, rfl, c3.C, l7, c3.t, l6⟩
  · rw [l1, bq]
    by_cases k0 : k < 0
    · rw [if_pos k0]
      exact ⟨_, _, _, rfl, rfl, frC.rf, l7, tC.rf, l6⟩
    · rw [if_neg k0, hC, bq]
      exact ⟨_, _, _, rfl, rfl, frC.rf, l7, tC.rf, l6⟩)
