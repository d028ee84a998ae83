/-! ===== text: a line, in the class, to its end ===== -/
def ov (T : Nat → Nat) (n i w j : Nat) : Int32 := if j ≤ nwd w then nI (tN T n (pj T n i j)) else -1
theorem c_nums {m0 : Mem} {T : Nat → Nat} {n i w : Nat} (oT : okT T) (hn : n ≤ 600) (hi : i ≤ n) (hC : CI m0 T n (tE T n (pj T n i 0))) (hw : w < 19) (h7 : m0 143 7 = nI w) (z0 : m0 144 0 = -1) (z1 : m0 144 1 = -1) (hall : ∀ j, 1 ≤ j → j ≤ nwd w → tK T n (pj T n i j) = 3) :
    ∃ a1, lX5_readLine_73 FU 0 m0 = some (.inr a1) ∧ CI a1 T n (tE T n (pj T n i (nwd w))) ∧ frLn m0 a1 ∧ (∀ k, 6 < k → a1 143 k = m0 143 k) ∧ a1 144 0 = ov T n i w 1 ∧ a1 144 1 = ov T n i w 2 ∧ (1 ≤ nwd w → a1 145 0 = nI (pj T n i 1)) ∧ (2 ≤ nwd w → a1 145 1 = nI (pj T n i 2)) := by
  have hN := (nwd_ok w hw).2
  have hE : ∀ j, tE T n (pj T n i j) ≤ n := fun j => (tE_le (pj_le hi j)).2.1
  rcases (show nwd w = 0 ∨ nwd w = 1 ∨ nwd w = 2 by omega) with h | h | h
  · refine ⟨m0, c_rl0 (g := 4999) (j := 0) hw h7 (by omega) (by omega), by rw [h]; exact hC, ⟨fun _ _ => rfl, fun _ _ _ _ => rfl⟩, fun _ _ => rfl, ?_, ?_, fun q => absurd q (by omega), fun q => absurd q (by omega)⟩
    · unfold ov; rw [if_neg (by omega)]; exact z0
    · unfold ov; rw [if_neg (by omega)]; exact z1
  · obtain ⟨a1, r1, r2, r3, r4, r5⟩ := c_rl1 (g := 4999) (j := 0) oT hn (hE 0) hC hw h7 (by omega)
    rcases r5 with ⟨-, q2, q3, q4, q5, q6⟩ | ⟨q1, -⟩
    · have q2' : lX5_readLine_73 FU 0 m0 = lX5_readLine_73 4999 (nI 1) a1 := q2
      have a7 : a1 143 7 = nI w := by rw [r4 7 (by omega)]; exact h7
      refine ⟨a1, q2'.trans (c_rl0 (g := 4998) (j := 1) hw a7 (by omega) (by omega)), by rw [h]; exact r1, r2, r4, ?_, ?_, fun _ => q4, fun q => absurd q (by omega)⟩
      · unfold ov; rw [if_pos (by omega)]; exact q3
      · unfold ov; rw [if_neg (by omega), (q6 1 (by omega)).1]; exact z1
    · exact absurd (hall 1 (by omega) (by omega)) q1
  · obtain ⟨a1, r1, r2, r3, r4, r5⟩ := c_rl1 (g := 4999) (j := 0) oT hn (hE 0) hC hw h7 (by omega)
    rcases r5 with ⟨-, q2, q3, q4, q5, q6⟩ | ⟨q1, -⟩
    · have q2' : lX5_readLine_73 FU 0 m0 = lX5_readLine_73 4999 (nI 1) a1 := q2
      have a7 : a1 143 7 = nI w := by rw [r4 7 (by omega)]; exact h7
      have r1' : CI a1 T n (tE T n (pj T n i 1)) := r1
      obtain ⟨a2, u1, u2, u3, u4, u5⟩ := c_rl1 (g := 4998) (j := 1) oT hn (hE 1) r1' hw a7 (by omega)
      rcases u5 with ⟨-, v2, v3, v4, v5, v6⟩ | ⟨v1, -⟩
      · have b7 : a2 143 7 = nI w := by rw [u4 7 (by omega)]; exact a7
        refine ⟨a2, (q2'.trans v2).trans (c_rl0 (g := 4997) (j := 2) hw b7 (by omega) (by omega)), by rw [h]; exact u1, r2.tr u2, fun k hk => (u4 k hk).trans (r4 k hk), ?_, ?_, fun _ => by rw [(v6 0 (by omega)).2]; exact q4, fun _ => v4⟩
        · unfold ov; rw [if_pos (by omega), (v6 0 (by omega)).1]; exact q3
        · unfold ov; rw [if_pos (by omega)]; exact v3
      · exact absurd (hall 2 (by omega) (by omega)) v1
    · exact absurd (hall 1 (by omega) (by omega)) q1
theorem c_mid {a b : Mem} {T : Nat → Nat} {n i w : Nat} {s : Nat} (hw : w < 19) (h4 : b 143 4 = nI (pj T n i 0)) (hC : CI b T n (tE T n (pj T n i 0))) (hL : frLn a b) (hwr : wrd T n s i = w + 1)
    (he : fX5_readLine (nI s) a = if ((st2 b 143 7 (vI (wrd T n s i))) 143 7) = (-1) then (some (false, (st2 (st2 b 143 7 (vI (wrd T n s i))) 143 6 1))) else ((lX5_readLine_73 FU 0 (st2 (st2 (st2 (st2 b 143 7 (vI (wrd T n s i))) 143 8 ((st2 b 143 7 (vI (wrd T n s i))) 143 4)) 144 0 (-1)) 144 1 (-1))).bind fun q26 => Sum.elim (fun q34 => some q34) (fun q26 => (fX5_readToken q26).bind fun q27 => (if (q27 143 3) = 3 then (some false) else (some true) : Option (Bool)).bind fun q29 => if ((st2 q27 143 6 (b2 q29)) 143 6) = 0 then (some (true, (st2 q27 143 6 (b2 q29)))) else (some (false, (st2 q27 143 6 (b2 q29))))) q26)) :
    ∃ m0, CI m0 T n (tE T n (pj T n i 0)) ∧ m0 143 7 = nI w ∧ m0 143 8 = nI (pj T n i 0) ∧ m0 144 0 = -1 ∧ m0 144 1 = -1 ∧ frLn a m0 ∧ fX5_readLine (nI s) a = (lX5_readLine_73 FU 0 m0).bind fun q26 => Sum.elim (fun q34 => some q34) (fun q26 => (fX5_readToken q26).bind fun q27 => (if (q27 143 3) = 3 then (some false) else (some true) : Option (Bool)).bind fun q29 => if ((st2 q27 143 6 (b2 q29)) 143 6) = 0 then (some (true, (st2 q27 143 6 (b2 q29)))) else (some (false, (st2 q27 143 6 (b2 q29))))) q26 := by
  have hv : vI (wrd T n s i) = nI w := by rw [hwr]; rfl
  rw [hv, st2_eq, if_neg (show ¬ nI w = -1 by rw [show (-1 : Int32) = vI 0 from rfl, show nI w = vI (w + 1) from rfl, eq_vv (by omega) (by omega)]; omega), st2_o _ _ (show ¬ (143 = 143 ∧ 4 = 7) by omega), h4] at he
  refine ⟨_, ?_, ?_, ?_, ?_, ?_, ?_, he⟩
  · exact hC.L (by rw [st2_c _ _ (by omega), st2_c _ _ (by omega), st2_c _ _ (by omega), st2_c _ _ (by omega)]) (by rw [st2_o _ _ (by omega), st2_o _ _ (by omega), st2_o _ _ (by omega), st2_o _ _ (by omega)]) (by rw [st2_o _ _ (by omega), st2_o _ _ (by omega), st2_o _ _ (by omega), st2_o _ _ (by omega)])
  · rw [st2_o _ _ (by omega), st2_o _ _ (by omega), st2_o _ _ (by omega), st2_eq]
  · rw [st2_o _ _ (by omega), st2_o _ _ (by omega), st2_eq]
  · rw [st2_o _ _ (by omega), st2_eq]
  · rw [st2_eq]
  · exact hL.tr ⟨fun j hj => by rw [st2_o _ _ (by omega), st2_o _ _ (by omega), st2_o _ _ (by omega), st2_o _ _ (by omega)], fun m m1 m2 m3 => by rw [st2_c _ _ m2, st2_c _ _ m2, st2_c _ _ m1, st2_c _ _ m1]⟩
set_option maxHeartbeats 1000000 in
theorem c_good {a : Mem} {T : Nat → Nat} {n s i w : Nat} (oT : okT T) (hn : n ≤ 600) (hs : s < 4) (hi : i ≤ n) (hC : CI a T n i) (hg : good T n s i w) :
    ∃ a', fX5_readLine (nI s) a = some (true, a') ∧ CI a' T n (tE T n (pj T n i (nwd w + 1))) ∧ a' 143 6 = 0 ∧ a' 143 7 = nI w ∧ a' 143 8 = nI (pj T n i 0) ∧ a' 144 0 = ov T n i w 1 ∧ a' 144 1 = ov T n i w 2 ∧ (1 ≤ nwd w → a' 145 0 = nI (pj T n i 1)) ∧ (2 ≤ nwd w → a' 145 1 = nI (pj T n i 2)) ∧ frLn a a' := by
  obtain ⟨hwr, hall, hm⟩ := hg
  obtain ⟨k2, -, -, hw, -⟩ := wrd_lt hs hwr
  obtain ⟨b, b1, b3, b4, b5, b6⟩ := c_head oT hn hs hi hC (by omega)
  obtain ⟨m0, c1, c2, c3, c4, c5, c6, c7⟩ := c_mid hw b3 b1 b5 hwr b6
  obtain ⟨a1, d1, d2, d3, d4, d5, d6, d7, d8⟩ := c_nums oT hn hi c1 hw c2 c4 c5 hall
  obtain ⟨a2, t1, t2, t3, t4, t5, t6⟩ := c_tok oT hn (tE_le (pj_le hi _)).2.1 d2
  have hk : tK T n (tP T n (tE T n (pj T n i (nwd w)))) = 4 := hm
  rw [c7, d1, bq]
  show ∃ a', ((fX5_readToken a1).bind _) = _ ∧ _
  rw [t1, bq, if_pos (show a2 143 3 = 3 by rw [t4, hk]; rfl), bq, if_pos (show (st2 a2 143 6 (b2 false)) 143 6 = 0 by rw [st2_eq]; rfl)]
  refine ⟨_, rfl, t2.L (st2_c _ _ (by omega)) (st2_o _ _ (by omega)) (st2_o _ _ (by omega)), by rw [st2_eq]; rfl, ?_, ?_, ?_, ?_, fun q => ?_, fun q => ?_, ?_⟩
  · rw [st2_o _ _ (by omega), t6.1 7 (by omega), d4 7 (by omega)]; exact c2
  · rw [st2_o _ _ (by omega), t6.1 8 (by omega), d4 8 (by omega)]; exact c3
  · rw [st2_o _ _ (by omega), t6.2 144 (by omega)]; exact d5
  · rw [st2_o _ _ (by omega), t6.2 144 (by omega)]; exact d6
  · rw [st2_o _ _ (by omega), t6.2 145 (by omega)]; exact d7 q
  · rw [st2_o _ _ (by omega), t6.2 145 (by omega)]; exact d8 q
  · exact ((c6.tr d3).tr t6.L).tr ⟨fun j hj => st2_o _ _ (by omega), fun m m1 _ _ => st2_c _ _ m1⟩
set_option maxHeartbeats 1000000 in
theorem c_brk {a : Mem} {T : Nat → Nat} {n s i pl : Nat} (oT : okT T) (hn : n ≤ 600) (hs : s < 4) (hi : i ≤ n) (hC : CI a T n i) (hb : brk T n s i pl) :
    ∃ a', fX5_readLine (nI s) a = some (false, a') ∧ a' 143 6 = 1 ∧ a' 143 4 = nI pl ∧ frLn a a' := by
  have hE : ∀ j, tE T n (pj T n i j) ≤ n := fun j => (tE_le (pj_le hi j)).2.1
  rcases hb with ⟨h0, h1, rfl⟩ | ⟨w, hwr, hb⟩
  · obtain ⟨b, b1, b3, b4, b5, b6⟩ := c_head oT hn hs hi hC h0
    rw [b6, h1, if_pos (show (st2 b 143 7 (vI 0)) 143 7 = -1 by rw [st2_eq]; rfl)]
    exact ⟨_, rfl, st2_eq _ _ _ _, by rw [st2_o _ _ (by omega), st2_o _ _ (by omega)]; exact b3, b5.tr ⟨fun j hj => by rw [st2_o _ _ (by omega), st2_o _ _ (by omega)], fun m m1 _ _ => by rw [st2_c _ _ m1, st2_c _ _ m1]⟩⟩
  · obtain ⟨k2, -, -, hw, -⟩ := wrd_lt hs hwr
    obtain ⟨b, b1, b3, b4, b5, b6⟩ := c_head oT hn hs hi hC (by omega)
    obtain ⟨m0, c1, c2, c3, c4, c5, c6, c7⟩ := c_mid hw b3 b1 b5 hwr b6
    rcases hb with ⟨h1, h2, rfl⟩ | ⟨h1, h2, h3, rfl⟩ | ⟨hall, h2, rfl⟩
    · obtain ⟨a1, r1, r2, r3, r4, r5⟩ := c_rl1 (g := 4999) (j := 0) oT hn (hE 0) c1 hw c2 (by omega)
      rcases r5 with ⟨q1, -⟩ | ⟨-, q2, q3⟩
      · exact absurd q1 h2
      · have q2' : lX5_readLine_73 FU 0 m0 = some (.inl (false, a1)) := q2
        rw [c7, q2', bq]
        exact ⟨a1, rfl, q3, r3, c6.tr r2⟩
    · obtain ⟨a1, r1, r2, r3, r4, r5⟩ := c_rl1 (g := 4999) (j := 0) oT hn (hE 0) c1 hw c2 (by omega)
      rcases r5 with ⟨-, q2, -⟩ | ⟨q1, -⟩
      · have q2' : lX5_readLine_73 FU 0 m0 = lX5_readLine_73 4999 (nI 1) a1 := q2
        have a7 : a1 143 7 = nI w := by rw [r4 7 (by omega)]; exact c2
        have r1' : CI a1 T n (tE T n (pj T n i 1)) := r1
        obtain ⟨a2, u1, u2, u3, u4, u5⟩ := c_rl1 (g := 4998) (j := 1) oT hn (hE 1) r1' hw a7 (by omega)
        rcases u5 with ⟨v1, -⟩ | ⟨-, v2, v3⟩
        · exact absurd v1 h3
        · rw [c7, q2'.trans v2, bq]
          exact ⟨a2, rfl, v3, u3, (c6.tr r2).tr u2⟩
      · exact absurd h2 q1
    · obtain ⟨a1, d1, d2, d3, d4, d5, d6, d7, d8⟩ := c_nums oT hn hi c1 hw c2 c4 c5 hall
      obtain ⟨a2, t1, t2, t3, t4, t5, t6⟩ := c_tok oT hn (hE _) d2
      have hk : tK T n (tP T n (tE T n (pj T n i (nwd w)))) ≠ 4 := h2
      rw [c7, d1, bq]
      show ∃ a', ((fX5_readToken a1).bind _) = _ ∧ _
      rw [t1, bq, if_neg (show ¬ a2 143 3 = 3 by rw [t4]; exact fun q => hk ((cK_3 _ tK_lt).mp q)), bq, if_neg (show ¬ (st2 a2 143 6 (b2 true)) 143 6 = 0 by rw [st2_eq]; decide)]
      exact ⟨_, rfl, by rw [st2_eq]; rfl, by rw [st2_o _ _ (by omega)]; exact t3, ((c6.tr d3).tr t6.L).tr ⟨fun j hj => st2_o _ _ (by omega), fun m m1 _ _ => st2_c _ _ m1⟩⟩
