/-! ===== text: the pair ===== -/
theorem t_go {T : Nat → Nat} {n s pl c : Nat} {x2 : Int32} {a0 b0 : Mem} (oT : okT T) (hn : n ≤ 600) (hs : s < 4) (hpl : pl < 2) (hc : c ≤ 2) (hR : RR a0 b0) (hCT : CT a0 T) (hMT : MT b0 T) (h11 : b0 269 11 = nI n) (hcs : a0 3 s = nI c) (hcm : b0 274 s = nI c) (hf2 : a0 1 2 = nI 0) (hf3 : a0 1 3 = -1) (hat : (x2 = -1 ∧ pl = c) ∨ (x2 ≠ -1 ∧ x2 = nI pl ∧ pl < c)) :
    ∃ (r : Int32) (a' b' : Mem), ((fX5_judge (nI s) (nI n) a0).bind fun q3 => if (q3 143 13) = 0 then ((fX5_pour (nI s) (nI n) 1 (nI pl) q3).bind fun q5 => if x2 = (-1) then (gd (inb (nI s) 4) (gd (inb (nI s) 4) (some (nI pl, (st2 q5 3 (Int32.toNatClampNeg (nI s)) ((q5 3 (Int32.toNatClampNeg (nI s))) + 1)))))) else (some (nI pl, q5))) else (some ((-1), (st2 (st2 q3 1 2 (q3 143 13)) 1 3 ((st2 q3 1 2 (q3 143 13)) 143 14))))) = some (r, a') ∧ jX12_text_75 (nI s) x2 b0 = some (r, b') ∧ frC a0 a' ∧ frM b0 b' ∧ RR a' b' := by
  obtain ⟨k, a1, b1, h1, h2, h3, h4, h5, h6, h7, h8, h9, h10⟩ := rd oT hn hs hCT hMT h11
  have e1 : ∀ m, m ≠ 143 → m ≠ 144 → m ≠ 145 → a1 m = a0 m := h4
  obtain ⟨N, N1, N2, N3⟩ := hR.1.1
  have b274 : b1 274 s = nI c := by rw [h9 274 (by omega) (by omega) (by omega) (by omega) (by omega)]; exact hcm
  have hbj : ∀ m, 271 ≤ m → m ≤ 273 → ∀ j, j ≠ 0 → b1 m j = b0 m j := fun m m1 m2 j hj => by
    rcases (show m = 271 ∨ m = 272 ∨ m = 273 by omega) with rfl | rfl | rfl
    · rw [h9 271 (by omega) (by omega) (by omega) (by omega) (by omega)]
    · exact (h10 j hj).1
    · exact (h10 j hj).2
  have b271 : b1 271 = b0 271 := h9 271 (by omega) (by omega) (by omega) (by omega) (by omega)
  unfold jX12_text_75
  rw [h2, bq, h5, bq, h3]
  dsimp only
  by_cases z : k = 0
  · obtain ⟨z14, zp⟩ := h8 z
    obtain ⟨a2, t', u', p1, p2, p3⟩ := zp a1 pl hpl (hCT.c (e1 2 (by omega) (by omega) (by omega)))
    obtain ⟨c', hc', hcc, hm3⟩ : ∃ c', (c' = if x2 = -1 then c + 1 else c) ∧ ((c' = c ∧ pl < c) ∨ (c' = c + 1 ∧ pl = c)) ∧ nI c + b2 (decide (x2 = -1)) = nI c' := by
      rcases hat with ⟨y1, y2⟩ | ⟨y1, y2, y3⟩
      · exact ⟨c + 1, by rw [if_pos y1], Or.inr ⟨rfl, y2⟩, by rw [decide_eq_true y1]; exact nI_1 c⟩
      · exact ⟨c, by rw [if_neg y1], Or.inl ⟨rfl, y3⟩, by rw [decide_eq_false y1]; exact nI_add c 0⟩
    have nb : ∀ m, m < 8 ∨ 36 < m → ¬ bk s pl m := fun m hm q => by unfold bk at q; omega
    have a2m : ∀ m, ¬ bk s pl m → m ≠ 143 → m ≠ 144 → m ≠ 145 → a2 m = a0 m := fun m m0 m1 m2 m3 => (p3 m m0 m1 m2 m3).trans (e1 m m1 m2 m3)
    have a23 : a2 3 = a0 3 := a2m 3 (nb 3 (by omega)) (by omega) (by omega) (by omega)
    have hq : ∃ a3 : Mem, ((if x2 = (-1) then (gd (inb (nI s) 4) (gd (inb (nI s) 4) (some (nI pl, (st2 a2 3 (Int32.toNatClampNeg (nI s)) ((a2 3 (Int32.toNatClampNeg (nI s))) + 1)))))) else (some (nI pl, a2))) : Option (Int32 × Mem)) = some (nI pl, a3) ∧ a3 3 s = nI c' ∧ (∀ j, j ≠ s → a3 3 j = a0 3 j) ∧ ∀ m, m ≠ 3 → a3 m = a2 m := by
      by_cases y : x2 = -1
      · rw [if_pos y] at hc'
        rw [if_pos y, inb_T (show s < 4 by omega) (by omega), gdT, gdT, nI_ck (by omega), a23, hcs, nI_1, hc']
        exact ⟨_, rfl, st2_eq _ _ _ _, fun j hj => by rw [st2_o _ _ (by omega), a23], fun m hm => st2_c _ _ hm⟩
      · rw [if_neg y] at hc'
        rw [if_neg y, hc']
        exact ⟨a2, rfl, by rw [a23]; exact hcs, fun j _ => by rw [a23], fun _ _ => rfl⟩
    obtain ⟨a3, q1, q2, q3, q4⟩ := hq
    have m1 : ((if x2 = (-1) then (gd (inb (nI s) 16) (some (b1 274 (Int32.toNatClampNeg (nI s))))) else (some x2)) : Option Int32) = some (nI pl) := by
      rcases hat with ⟨y1, y2⟩ | ⟨y1, y2, y3⟩
      · rw [if_pos y1, inb_T (show s < 16 by omega) (by omega), gdT, nI_ck (by omega), b274, y2]
      · rw [if_neg y1, y2]
    have m2 : ((if x2 = (-1) then (some true) else (some false)) : Option Bool) = some (decide (x2 = -1)) := by
      by_cases y : x2 = -1
      · rw [if_pos y, decide_eq_true y]
      · rw [if_neg y, decide_eq_false y]
    obtain ⟨b3, k1, k2, k3, k4⟩ := m_keepOf (σ := st2 b1 274 s (nI c')) hs hpl
    rw [if_pos (show nI k = 0 by rw [z]; rfl), p1, bq, q1, if_pos (decide_eq_true z), m1, bq, inb_T (show s < 16 by omega) (by omega), gdT, m2, bq, gdT, nI_ck (show s < 2147483648 by omega), b274, hm3, k1, bq]
    have b3m : ∀ m, m ≠ 275 + s → m ≠ 274 → b3 m = b1 m := fun m x y => by rw [k4 m x, st2_c _ _ y]
    have b3o : ∀ m, m ≠ 275 + s → m ≠ 274 → m ≠ 269 → m ≠ 279 → m ≠ 280 → m ≠ 272 → m ≠ 273 → b3 m = b0 m := fun m x y y1 y2 y3 y4 y5 => (b3m m x y).trans (h9 m y1 y2 y3 y4 y5)
    have a3m : ∀ m, m ≠ 3 → ¬ bk s pl m → m ≠ 143 → m ≠ 144 → m ≠ 145 → a3 m = a0 m := fun m m0 x y y1 y2 => (q4 m m0).trans (a2m m x y y1 y2)
    have a31 : a3 1 = a0 1 := a3m 1 (by omega) (nb 1 (by omega)) (by omega) (by omega) (by omega)
    refine ⟨nI pl, a3, b3, rfl, rfl, fun m hm => a3m m (by omega) (nb m (by omega)) (by omega) (by omega) (by omega), fun m hm => b3o m (by omega) (by omega) (by omega) (by omega) (by omega) (by omega) (by omega), ?_⟩
    refine RR.put (s := s) (pl := pl) (c := c) (c' := c') (t := t') (u := u') (R := b1 279) hR hs hpl hc hcs hcc (fun m x y z0 z1 => a3m m z0 z1 (by omega) (by omega) (by omega)) ⟨N, N1, by rw [a31]; exact N2, by rw [b3m 271 (by omega) (by omega), b271]; exact N3⟩ q2 q3 (fun m hm => b3o m (by omega) (by omega) (by omega) (by omega) (by omega) (by omega) (by omega)) (fun m x y j hj => by rw [b3m m (by omega) (by omega)]; exact hbj m x y j hj) ?_ ?_ ?_ ?_ (fun m x y y1 => b3o m y1 (by omega) (by omega) (by omega) (by omega) (by omega) (by omega)) ?_ ?_ (p2.c hpl (fun m hm => q4 m (by unfold bk at hm; omega)))
    · rw [b3m 272 (by omega) (by omega), h6, z, a31]; exact hf2.symm
    · rw [b3m 273 (by omega) (by omega), h7, z14, a31]; exact hf3.symm
    · rw [k4 274 (by omega), st2_eq]
    · intro j hj
      rw [k4 274 (by omega), st2_o _ _ (by omega), h9 274 (by omega) (by omega) (by omega) (by omega) (by omega)]
    · intro j hj
      rw [k2 j hj, st2_c _ _ (by omega)]
    · intro j hj
      rw [k3 j hj, st2_c _ _ (by omega), h9 (275 + s) (by omega) (by omega) (by omega) (by omega) (by omega)]
  · rw [if_neg (ne0 z (by omega)), if_neg (show ¬ decide (k = 0) = true by rw [decide_eq_false z]; decide), st2_o _ _ (show ¬ (143 = 1 ∧ 14 = 2) by omega)]
    have a11 : a1 1 = a0 1 := e1 1 (by omega) (by omega) (by omega)
    refine ⟨-1, _, b1, rfl, rfl, fun m hm => by rw [st2_c _ _ (by omega), st2_c _ _ (by omega)]; exact e1 m (by omega) (by omega) (by omega), fun m hm => h9 m (by omega) (by omega) (by omega) (by omega) (by omega), ?_⟩
    refine RR.flt hR (fun m x y => by rw [st2_c _ _ (by omega), st2_c _ _ (by omega)]; exact e1 m (by omega) (by omega) (by omega)) ⟨N, N1, by rw [st2_o _ _ (by omega), st2_o _ _ (by omega), a11]; exact N2, by rw [b271]; exact N3⟩ (fun m hm => h9 m (by omega) (by omega) (by omega) (by omega) (by omega)) hbj ?_ ?_
    · rw [st2_o _ _ (by omega), st2_eq]; exact h6
    · rw [st2_eq]; exact h7
def hasP (x2 : Int32) (c pl : Nat) : Prop := (x2 = -1 ∧ pl = c) ∨ (x2 ≠ -1 ∧ x2 = nI pl ∧ pl < c)
def noP (x2 : Int32) (c : Nat) : Prop := (x2 = -1 ∧ c = 2) ∨ (x2 ≠ -1 ∧ (x2 < 0 ∨ ∃ j, j < 2147483648 ∧ x2 = nI j ∧ c ≤ j))
theorem c_place {s c : Nat} {x2 : Int32} {a : Mem} (hs : s < 4) (hc : c ≤ 2) (h : a 3 s = nI c) : (∃ pl, pl < 2 ∧ hasP x2 c pl ∧ fX9_placeFor 1 (nI s) x2 a = some (nI pl, a)) ∨ (noP x2 c ∧ fX9_placeFor 1 (nI s) x2 a = some (-1, a)) := by
  unfold fX9_placeFor fX9_has
  rw [if_neg (nI_pos (show s < 2 ^ 31 by omega)), if_pos (show nI s < 4 from (lt_nn (b := 4) (by omega) (by omega)).mpr hs), inb_T (show s < 4 by omega) (by omega), gdT, gdT, gdT, nI_ck (by omega), show a (1 + 2) s = nI c from h]
  by_cases z : x2 = -1
  · rw [if_pos z]
    by_cases z2 : c = 2
    · right
      exact ⟨Or.inl ⟨z, z2⟩, by rw [if_pos (show 2 ≤ nI c from (le_nn (a := 2) (by omega) (by omega)).mpr (by omega))]⟩
    · left
      exact ⟨c, by omega, Or.inl ⟨z, rfl⟩, by rw [if_neg (show ¬ 2 ≤ nI c from fun q => absurd ((le_nn (a := 2) (by omega) (by omega)).mp q) (by omega))]⟩
  · rw [if_neg z]
    by_cases z0 : x2 < 0
    · right
      rw [if_pos z0, bq]
      exact ⟨Or.inr ⟨z, Or.inl z0⟩, rfl⟩
    · obtain ⟨j, hj, rfl⟩ := nI_of z0
      rw [if_neg z0]
      by_cases z1 : c ≤ j
      · right
        rw [if_pos ((le_nn (by omega) (by omega)).mpr z1), bq]
        exact ⟨Or.inr ⟨z, Or.inr ⟨j, by omega, rfl, z1⟩⟩, rfl⟩
      · left
        rw [if_neg (fun q => z1 ((le_nn (by omega) (by omega)).mp q)), bq]
        exact ⟨j, by omega, Or.inr ⟨z, rfl, by omega⟩, rfl⟩
def mPl (s : Nat) (x2 : Int32) (b : Mem) : Option (Int32 × Mem) := if x2 = (-1) then (gd (inb (nI s) 16) (if (b 274 (Int32.toNatClampNeg (nI s))) = 2 then (some ((-2), b)) else (jX12_text_75 (nI s) x2 b))) else ((fX12_is (nI s) x2 b).bind fun q4 => if q4.1 = true then (jX12_text_75 (nI s) x2 q4.2) else (some ((-2), q4.2)))
theorem m_isP {s c : Nat} {x2 : Int32} {b : Mem} (hs : s < 4) (h : b 274 s = nI c) : fX12_is (nI s) x2 b = some (decide (¬ x2 < 0 ∧ ¬ nI c - 1 < x2), b) := by
  unfold fX12_is
  rw [inb_T (show s < 16 by omega) (by omega), gdT, nI_ck (by omega), h, f_in, bq]
theorem m_place1 {s c pl : Nat} {x2 : Int32} {b : Mem} (hs : s < 4) (hc : c ≤ 2) (hpl : pl < 2) (h : b 274 s = nI c) (hp : hasP x2 c pl) : mPl s x2 b = jX12_text_75 (nI s) x2 b := by
  unfold mPl
  rcases hp with ⟨y1, y2⟩ | ⟨y1, y2, y3⟩
  · rw [if_pos y1, inb_T (show s < 16 by omega) (by omega), gdT, nI_ck (by omega), h, if_neg (show ¬ nI c = 2 from lit_ne (m := 2) (by omega) (by omega) (by omega))]
  · rw [if_neg y1, m_isP hs h, bq]
    dsimp only
    rw [if_pos (decide_eq_true (show ¬ x2 < 0 ∧ ¬ nI c - 1 < x2 from ⟨by rw [y2]; exact nI_pos (by omega), by rw [y2, vI_m, lt_vn (by omega) (by omega)]; omega⟩))]
theorem m_place2 {s c : Nat} {x2 : Int32} {b : Mem} (hs : s < 4) (hc : c ≤ 2) (h : b 274 s = nI c) (hp : noP x2 c) : mPl s x2 b = some (-2, b) := by
  unfold mPl
  rcases hp with ⟨y1, y2⟩ | ⟨y1, y2⟩
  · rw [if_pos y1, inb_T (show s < 16 by omega) (by omega), gdT, nI_ck (by omega), h, if_pos (by rw [y2]; rfl)]
  · have hno : ¬ (¬ x2 < 0 ∧ ¬ nI c - 1 < x2) := fun q => by
      rcases y2 with y | ⟨j, j1, j2, j3⟩
      · exact q.1 y
      · exact q.2 (by rw [j2, vI_m, lt_vn (by omega) (by omega)]; omega)
    rw [if_neg y1, m_isP hs h, bq]
    dsimp only
    rw [if_neg (show ¬ decide (¬ x2 < 0 ∧ ¬ nI c - 1 < x2) = true by rw [decide_eq_false hno]; decide)]
set_option maxHeartbeats 1000000 in
theorem p_text (x1 x2 : Int32) : PAIR (fX11_text x1 x2) (fX12_text x1 x2) := fun a b hR => by
  obtain ⟨T, n, oT, hCT, hMT, hn, e1, e2⟩ := tape_at hR
  unfold fX11_text fX12_text
  rw [show (st2 (st2 a 1 2 0) 1 3 (-1)) 1 1 = nI n by rw [st2_o _ _ (by omega), st2_o _ _ (by omega)]; exact e1, show (st2 b 269 0 0) 271 0 = nI n by rw [st2_o _ _ (by omega)]; exact e2]
  generalize ha : st2 (st2 (st2 a 1 2 0) 1 3 (-1)) 1 1 0 = a0
  generalize hb : st2 (st2 (st2 (st2 (st2 b 269 0 0) 269 11 (nI n)) 271 0 0) 272 0 0) 273 0 (-1) = b0
  have am : ∀ m, m ≠ 1 → a0 m = a m := fun m hm => by rw [← ha, st2_c _ _ hm, st2_c _ _ hm, st2_c _ _ hm]
  have a01 : a0 1 1 = nI 0 := by rw [← ha, st2_eq]; rfl
  have a02 : a0 1 2 = nI 0 := by rw [← ha, st2_o _ _ (by omega), st2_o _ _ (by omega), st2_eq]; rfl
  have a03 : a0 1 3 = -1 := by rw [← ha, st2_o _ _ (by omega), st2_eq]
  have bm : ∀ m, m ≠ 269 → m ≠ 271 → m ≠ 272 → m ≠ 273 → b0 m = b m := fun m h1 h2 h3 h4 => by rw [← hb, st2_c _ _ h4, st2_c _ _ h3, st2_c _ _ h2, st2_c _ _ h1, st2_c _ _ h1]
  have b11 : b0 269 11 = nI n := by rw [← hb, st2_o _ _ (by omega), st2_o _ _ (by omega), st2_o _ _ (by omega), st2_eq]
  have b01 : b0 271 0 = nI 0 := by rw [← hb, st2_o _ _ (by omega), st2_o _ _ (by omega), st2_eq]; rfl
  have b02 : b0 272 0 = nI 0 := by rw [← hb, st2_o _ _ (by omega), st2_eq]; rfl
  have b03 : b0 273 0 = -1 := by rw [← hb, st2_eq]
  have bj : ∀ m, 271 ≤ m → m ≤ 273 → ∀ j, j ≠ 0 → b0 m j = b m j := fun m h1 h2 j hj => by rw [← hb, st2_o _ _ (by omega), st2_o _ _ (by omega), st2_o _ _ (by omega), st2_o _ _ (by omega), st2_o _ _ (by omega)]
  have hR0 : RR a0 b0 := RR.flt hR (fun m h1 h2 => am m (by omega)) ⟨0, by omega, a01, b01⟩ (fun m hm => bm m (by omega) (by omega) (by omega) (by omega)) bj (by rw [b02, a02]) (by rw [b03, a03])
  have fC : frC a a0 := fun m hm => am m (by omega)
  have fM : frM b b0 := fun m hm => bm m (by omega) (by omega) (by omega) (by omega)
  clear ha hb
  rw [f_in, bq]
  dsimp only
  rcases pk_ix x1 (n := 4) (by decide) with h | h | ⟨s, hs, rfl⟩
  · have hp : fX9_placeFor 1 x1 x2 a0 = some (-1, a0) := by unfold fX9_placeFor; rw [if_pos h]
    rw [hp, bq]
    dsimp only
    rw [if_neg (show ¬ (0 : Int32) ≤ -1 by decide), if_neg (show ¬ decide (¬ x1 < 0 ∧ ¬ (3 : Int32) < x1) = true by simp [h])]
    exact ⟨_, _, _, rfl, rfl, fC, fM, hR0⟩
  · have h4 : (4 : Int32) ≤ x1 := h
    have h3 : (3 : Int32) < x1 := Int32.lt_of_lt_of_le (by decide) h4
    have h0 : ¬ x1 < 0 := fun z => absurd (Int32.lt_of_lt_of_le z (Int32.le_trans (show (0 : Int32) ≤ 4 by decide) h4)) (Int32.lt_irrefl)
    have h5 : ¬ x1 < 4 := fun z => absurd (Int32.lt_of_lt_of_le z h4) Int32.lt_irrefl
    have hp : fX9_placeFor 1 x1 x2 a0 = some (-1, a0) := by unfold fX9_placeFor; rw [if_neg h0, if_neg h5]
    rw [hp, bq]
    dsimp only
    rw [if_neg (show ¬ (0 : Int32) ≤ -1 by decide), if_neg (show ¬ decide (¬ x1 < 0 ∧ ¬ (3 : Int32) < x1) = true by simp [h3])]
    exact ⟨_, _, _, rfl, rfl, fC, fM, hR0⟩
  · obtain ⟨c, hc, c1, c2⟩ := hR0.1.2.2.2.2.1 s hs
    have c1' : a0 3 s = nI c := c1
    have c2' : b0 274 s = nI c := by rw [show 4 * 0 + s = s by omega] at c2; exact c2
    have h0 : ¬ nI s < 0 := nI_pos (by omega)
    have h3 : ¬ (3 : Int32) < nI s := nI_nlt (a := 3) (b := s) (by omega) (by decide)
    rw [if_pos (show decide (¬ nI s < 0 ∧ ¬ (3 : Int32) < nI s) = true by simp [h0, h3])]
    rcases c_place (x2 := x2) hs hc c1' with ⟨pl, hpl, hp, hq⟩ | ⟨hp, hq⟩
    · have hm := m_place1 (b := b0) hs hc hpl c2' hp
      unfold mPl at hm
      rw [hq, bq, hm]
      dsimp only
      rw [if_pos (show 0 ≤ nI pl from (le_nn (a := 0) (by omega) (by omega)).mpr (by omega))]
      obtain ⟨r, a', b', g1, g2, g3, g4, g5⟩ := t_go (n := n) oT hn hs hpl hc hR0 (hCT.c (am 2 (by omega))) (hMT.c (bm 270 (by omega) (by omega) (by omega) (by omega))) b11 c1' c2' a02 a03 hp
      exact ⟨r, a', b', g1, g2, fC.tr g3, fM.tr g4, g5⟩
    · have hm := m_place2 (b := b0) hs hc c2' hp
      unfold mPl at hm
      rw [hq, bq, hm]
      dsimp only
      rw [if_neg (show ¬ (0 : Int32) ≤ -1 by decide)]
      exact ⟨_, _, _, rfl, rfl, fC, fM, hR0⟩
