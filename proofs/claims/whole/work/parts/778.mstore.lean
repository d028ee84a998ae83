/-! ===== text: lines of a store, in the reference ===== -/
theorem af_f {k x : Nat} {f : Nat × Nat} : af false k x f = f := by unfold af; rw [if_neg (fun q => absurd q.1 (by decide))]
theorem store_w : nwd 0 = 1 ∧ nwd 1 = 1 ∧ nwd 2 = 2 ∧ loW 0 = 1 ∧ loW 1 = 1 ∧ loW 2 = 0 ∧ hiW 0 = 5 ∧ hiW 1 = 4 ∧ hiW 2 = 9 ∧ h2W 2 = 99 := by decide +kernel
/-- what a good line of a store makes of the row -/
def srow (w : Nat) (v1 v2 : Nat) (R : Nat → Int32) : Nat → Int32 := fun j => if w = 2 then (if j = 3 + v1 then nI v2 else if j = 2 then R 2 ||| ((1 : Int32) <<< (nI v1 &&& 31)) else R j) else if j = w then nI v1 else R j
/-- no fault in the numbers of a line -/
def nof (T : Nat → Nat) (n i w : Nat) : Prop := (1 ≤ nwd w → inR (tN T n (pj T n i 1)) (loW w) (hiW w) = true) ∧ (2 ≤ nwd w → inR (tN T n (pj T n i 2)) (if w = 8 then tN T n (pj T n i 1) else 0) (h2W w) = true)
set_option maxHeartbeats 2000000 in
theorem m_store {b : Mem} {T : Nat → Nat} {n i w : Nat} {f : Nat × Nat} (oT : okT T) (hn : n ≤ 600) (hi : i ≤ n) (hL : LB b T n i f) (h21 : b 269 21 = 1) (hw : w < 3) (k0 : tK T n (pj T n i 0) = 2) :
    ((∀ j, 1 ≤ j → j ≤ nwd w → tK T n (pj T n i j) = 3) → ∃ b', fX12_storeLine (KW w) b = some (true, b') ∧ MK b' T n (pj T n i (nwd w + 1)) ∧ FS b' (lft T n i w false f).1 (lft T n i w false f).2 ∧ (nof T n i w → b' 279 = srow w (tN T n (pj T n i 1)) (tN T n (pj T n i 2)) (b 279)) ∧ fr3 b b') ∧
    (∀ j, 1 ≤ j → j ≤ nwd w → tK T n (pj T n i j) ≠ 3 → (∀ k, 1 ≤ k → k < j → tK T n (pj T n i k) = 3) → ∃ b', fX12_storeLine (KW w) b = some (false, b') ∧ b' 269 16 = nI (pj T n i j) ∧ fr3 b b') := by
  obtain ⟨e0, e1, e2, -⟩ := KW_v
  obtain ⟨n0, n1, n2, l0, l1, l2, u0, u1, u2, t2⟩ := store_w
  have hp0 : pj T n i 0 < pj T n i 1 := pj_l hi 0 (by omega)
  obtain ⟨c, p2, cM, p4⟩ := m_tok oT hn (tE_le (pj_le hi 0)).2.1 hL.1.1
  have cM' : MK c T n (pj T n i 1) := cM
  have cF : FS c f.1 f.2 := hL.2.1.c (p4.1 17 (by unfold jT; omega)) (p4.1 18 (by unfold jT; omega))
  have fc : frK2 b c := frK2.of p4 (fun j hj => Or.inl hj)
  have c21 : c 269 21 = 1 := by rw [p4.1 21 (by unfold jT; omega)]; exact h21
  have c279 : c 279 = b 279 := fc.2 279 (by omega) (by omega)
  have hlt1 : f.1 ≠ 0 → f.2 < pj T n i 1 := fun q => by have := hL.2.2 q; omega
  by_cases z : w = 2
  · subst z
    have hcode : fX12_storeLine (KW 2) b = (fX12_take 0 0 9 c).bind fun q17 => if q17.1 = true then ((fX12_take 1 0 99 q17.2).bind fun q19 => if q19.1 = true then (if (q19.2 269 21) = 0 then (some (true, q19.2)) else (gd (inb ((3 : Int32) + ((st2 q19.2 279 2 ((q19.2 279 2) ||| ((1 : Int32) <<< ((q19.2 280 0) &&& 31)))) 280 0)) 134) ((some (st2 (st2 q19.2 279 2 ((q19.2 279 2) ||| ((1 : Int32) <<< ((q19.2 280 0) &&& 31)))) 279 (Int32.toNatClampNeg ((3 : Int32) + ((st2 q19.2 279 2 ((q19.2 279 2) ||| ((1 : Int32) <<< ((q19.2 280 0) &&& 31)))) 280 0))) ((st2 q19.2 279 2 ((q19.2 279 2) ||| ((1 : Int32) <<< ((q19.2 280 0) &&& 31)))) 280 1))).bind fun s23 => some (true, s23)))) else (some (false, q19.2))) else (some (false, q17.2)) := by
      unfold fX12_storeLine jX12_storeLine_29
      rw [e2, if_neg (by decide), if_neg (by decide), if_pos rfl, p2, bq, if_pos rfl]
    rw [hcode, n2]
    by_cases k1 : tK T n (pj T n i 1) = 3
    · obtain ⟨d, d1, d2, d3, d4, d5, d6, d7⟩ := m_take (x := 0) (l := 0) (h := 9) oT hn hi cM' (by omega) (by omega) (by omega) k1 cF hlt1
      have d1' : fX12_take 0 0 9 c = some (true, d) := d1
      have hp1 : pj T n i 1 < pj T n i 2 := pj_l hi 1 (by omega)
      have hlt2 := af_lt (c := !inR (tN T n (pj T n i 1)) 0 9) (k := 2) hlt1 hp1
      rw [d1', bq]
      dsimp only
      rw [if_pos (show true = true from rfl)]
      by_cases k2 : tK T n (pj T n i 2) = 3
      · refine ⟨fun _ => ?_, fun j j1 j2 j3 _ => absurd j3 (by rcases (show j = 1 ∨ j = 2 by omega) with rfl | rfl; exact fun q => q k1; exact fun q => q k2)⟩
        obtain ⟨e, g1, g2, g3, g4, g5, g6, g7⟩ := m_take (x := 1) (l := 0) (h := 99) oT hn hi d2 (by omega) (by omega) (by omega) k2 d3 hlt2
        have g1' : fX12_take 1 0 99 d = some (true, e) := g1
        have e279 : e 279 = b 279 := by rw [g7.2 279 (by omega) (by omega), d7.2 279 (by omega) (by omega), c279]
        have hv1 := tN_b k1
        have eF : FS e (lft T n i 2 false f).1 (lft T n i 2 false f).2 := by
          unfold lft
          rw [if_pos (show 2 ≤ nwd 2 by omega), if_neg (show ¬ 2 = 8 by omega)]
          unfold lf1
          rw [if_pos (show 1 ≤ nwd 2 by omega), l2, u2, t2, af_f]
          exact g3
        rw [g1', bq]
        dsimp only
        rw [if_pos (show true = true from rfl)]
        by_cases z21 : e 269 21 = 0
        · rw [if_pos z21]
          refine ⟨e, rfl, g2, eF, fun q => ?_, fc.r.tr (d7.r.tr g7.r)⟩
          have q1 := q.1 (by omega)
          have q2 := q.2 (by omega)
          rw [l2, u2] at q1
          rw [if_neg (by omega), t2] at q2
          rw [g6 q2, d6 q1, c21] at z21
          exact absurd z21 (by decide)
        · have e0' : e 280 0 = nI (tN T n (pj T n i 1)) := by rw [g5 0 (by omega)]; exact d4
          rw [if_neg z21, st2_o _ _ (show ¬ (280 = 279 ∧ 0 = 2) by omega), st2_o _ _ (show ¬ (280 = 279 ∧ 1 = 2) by omega), e0', show (3 : Int32) = nI 3 from rfl, nI_add, inb_T (show 3 + tN T n (pj T n i 1) < 134 by omega) (by omega), gdT, nI_ck (by omega), bq]
          refine ⟨_, rfl, g2.c (by rw [st2_c _ _ (by omega), st2_c _ _ (by omega)]) (fun j _ => by rw [st2_c _ _ (by omega), st2_c _ _ (by omega)]), eF.c (by rw [st2_c _ _ (by omega), st2_c _ _ (by omega)]) (by rw [st2_c _ _ (by omega), st2_c _ _ (by omega)]), fun q => ?_, fc.r.tr (d7.r.tr (g7.r.tr ⟨by rw [st2_c _ _ (by omega), st2_c _ _ (by omega)], fun m m1 m2 m3 => by rw [st2_c _ _ m2, st2_c _ _ m2]⟩))⟩
          funext j
          unfold srow
          rw [if_pos rfl]
          by_cases j3 : j = 3 + tN T n (pj T n i 1)
          · rw [if_pos j3, j3, st2_eq]; exact g4
          · rw [if_neg j3, st2_o _ _ (by omega)]
            by_cases j2 : j = 2
            · rw [if_pos j2, j2, st2_eq, e279]
            · rw [if_neg j2, st2_o _ _ (by omega), e279]
      · refine ⟨fun h => absurd (h 2 (by omega) (by omega)) k2, fun j j1 j2 j3 _ => ?_⟩
        rcases (show j = 1 ∨ j = 2 by omega) with rfl | rfl
        · exact absurd k1 j3
        · rw [m_takeF d2 k2, bq]
          exact ⟨st2 d 269 16 (nI (pj T n i 2)), rfl, st2_eq _ _ _ _, fc.r.tr (d7.r.tr fr3.st)⟩
    · refine ⟨fun h => absurd (h 1 (by omega) (by omega)) k1, fun j j1 j2 j3 j4 => ?_⟩
      by_cases e : j = 1
      · rw [e, m_takeF cM' k1, bq]
        exact ⟨st2 c 269 16 (nI (pj T n i 1)), rfl, st2_eq _ _ _ _, fc.r.tr fr3.st⟩
      · exact absurd (j4 1 (by omega) (by omega)) k1
  · have hcode : fX12_storeLine (KW w) b = (fX12_take 0 1 (nI (hiW w)) c).bind fun q6 => if q6.1 = true then (if (q6.2 269 21) = 0 then (some (true, (st2 q6.2 279 w (q6.2 279 w)))) else (some (true, (st2 q6.2 279 w (q6.2 280 0))))) else (some (false, q6.2)) := by
      unfold fX12_storeLine jX12_storeLine_29
      rcases (show w = 0 ∨ w = 1 by omega) with rfl | rfl
      · rw [e0, if_pos rfl, p2, bq, if_neg (by decide), if_pos rfl, bq, if_pos rfl, u0]
        rfl
      · rw [e1, if_neg (by decide), if_pos rfl, p2, bq, if_neg (by decide), if_neg (by decide), bq, if_neg (by decide), u1]
        rfl
    have hN : nwd w = 1 := by rcases (show w = 0 ∨ w = 1 by omega) with rfl | rfl; exact n0; exact n1
    have hlo : loW w = 1 := by rcases (show w = 0 ∨ w = 1 by omega) with rfl | rfl; exact l0; exact l1
    have hhi : hiW w ≤ 5 := by rcases (show w = 0 ∨ w = 1 by omega) with rfl | rfl; rw [u0]; omega; rw [u1]; omega
    rw [hcode, hN]
    by_cases k1 : tK T n (pj T n i 1) = 3
    · obtain ⟨d, d1, d2, d3, d4, d5, d6, d7⟩ := m_take (x := 0) (l := 1) (h := hiW w) oT hn hi cM' (by omega) (by omega) (by omega) k1 cF hlt1
      have d1' : fX12_take 0 1 (nI (hiW w)) c = some (true, d) := d1
      have d279 : d 279 = b 279 := by rw [d7.2 279 (by omega) (by omega), c279]
      have dF : FS d (lft T n i w false f).1 (lft T n i w false f).2 := by
        unfold lft lf1
        rw [hN, if_neg (by omega), if_pos (by omega), hlo, af_f]
        exact d3
      rw [d1', bq]
      dsimp only
      rw [if_pos (show true = true from rfl)]
      refine ⟨fun _ => ?_, fun j j1 j2 j3 _ => absurd j3 (by rcases (show j = 1 by omega) with rfl; exact fun q => q k1)⟩
      by_cases z21 : d 269 21 = 0
      · rw [if_pos z21]
        refine ⟨_, rfl, d2.c (st2_c _ _ (by omega)) (fun j _ => by rw [st2_c _ _ (by omega)]), dF.c (by rw [st2_c _ _ (by omega)]) (by rw [st2_c _ _ (by omega)]), fun q => ?_, fc.r.tr (d7.r.tr ⟨by rw [st2_c _ _ (by omega)], fun m m1 m2 m3 => st2_c _ _ m2⟩)⟩
        have q1 := q.1 (by omega)
        rw [hlo] at q1
        rw [d6 q1, c21] at z21
        exact absurd z21 (by decide)
      · rw [if_neg z21]
        refine ⟨_, rfl, d2.c (st2_c _ _ (by omega)) (fun j _ => by rw [st2_c _ _ (by omega)]), dF.c (by rw [st2_c _ _ (by omega)]) (by rw [st2_c _ _ (by omega)]), fun q => ?_, fc.r.tr (d7.r.tr ⟨by rw [st2_c _ _ (by omega)], fun m m1 m2 m3 => st2_c _ _ m2⟩)⟩
        funext j
        unfold srow
        rw [if_neg z]
        by_cases jw : j = w
        · rw [if_pos jw, jw, st2_eq]; exact d4
        · rw [if_neg jw, st2_o _ _ (by omega), d279]
    · refine ⟨fun h => absurd (h 1 (by omega) (by omega)) k1, fun j j1 j2 j3 j4 => ?_⟩
      have ej : j = 1 := by omega
      rw [ej, m_takeF cM' k1, bq]
      exact ⟨st2 c 269 16 (nI (pj T n i 1)), rfl, st2_eq _ _ _ _, fc.r.tr fr3.st⟩
