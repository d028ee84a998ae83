/-! ===== text: lines of facts, lines of deeds, in the reference ===== -/
theorem KW_v : KW 0 = 1936744814 ∧ KW 1 = 33618059447333491 ∧ KW 2 = 7038329 ∧ KW 3 = 1919246692 ∧ KW 4 = 6518132 ∧ KW 5 = 1935767141 ∧ KW 6 = 7370100 ∧ KW 7 = 6382692 ∧ KW 8 = 1935892846 ∧ KW 9 = 1952543595 ∧ KW 10 = 435678045032 ∧ KW 11 = 427120751464 ∧ KW 12 = 1937007984 ∧ KW 13 = 109330228406644 ∧ KW 14 = 1903520116 ∧ KW 15 = 439906300776 ∧ KW 16 = 422608071022 ∧ KW 17 = 6840691 ∧ KW 18 = 465490373491 := by decide +kernel
def loW (w : Nat) : Nat := (saV 2 w).toNatClampNeg
def hiW (w : Nat) : Nat := (saV 3 w).toNatClampNeg
def h2W (w : Nat) : Nat := (saV 4 w).toNatClampNeg
theorem af_lt {c : Bool} {k x y : Nat} {f : Nat × Nat} (h : f.1 ≠ 0 → f.2 < x) (hxy : x < y) : (af c k x f).1 ≠ 0 → (af c k x f).2 < y := by
  unfold af
  by_cases z : c = true ∧ f.1 = 0
  · rw [if_pos z]; intro _; exact hxy
  · rw [if_neg z]; intro q; have := h q; omega
/-- the fault after a line -/
def lf1 (T : Nat → Nat) (n i w : Nat) (tm : Bool) (f : Nat × Nat) : Nat × Nat := if 1 ≤ nwd w then af (!inR (tN T n (pj T n i 1)) (loW w) (hiW w)) 2 (pj T n i 1) (af tm 3 (pj T n i 0) f) else af tm 3 (pj T n i 0) f
def lft (T : Nat → Nat) (n i w : Nat) (tm : Bool) (f : Nat × Nat) : Nat × Nat := if 2 ≤ nwd w then af (!inR (tN T n (pj T n i 2)) (if w = 8 then tN T n (pj T n i 1) else 0) (h2W w)) 2 (pj T n i 2) (lf1 T n i w tm f) else lf1 T n i w tm f
/-- at the beginning of a line -/
def LB (b : Mem) (T : Nat → Nat) (n i : Nat) (f : Nat × Nat) : Prop := MK b T n (pj T n i 0) ∧ FS b f.1 f.2 ∧ (f.1 ≠ 0 → f.2 < pj T n i 0)
def fr3 (b b' : Mem) : Prop := b' 269 22 = b 269 22 ∧ ∀ m, m ≠ 269 → m ≠ 279 → m ≠ 280 → b' m = b m
theorem fr3.tr {b b' b'' : Mem} (h : fr3 b b') (h2 : fr3 b' b'') : fr3 b b'' := ⟨h2.1.trans h.1, fun m m1 m2 m3 => (h2.2 m m1 m2 m3).trans (h.2 m m1 m2 m3)⟩
theorem frK2.r {b b' : Mem} (h : frK2 b b') : fr3 b b' := ⟨h.1 22 (by unfold jK jT jF; omega), fun m m1 _ m3 => h.2 m m1 m3⟩
theorem MK.c {b b' : Mem} {T : Nat → Nat} {n p : Nat} (h : MK b T n p) (e : b' 270 = b 270) (e9 : ∀ j, jT j ∨ j = 11 → b' 269 j = b 269 j) : MK b' T n p := by
  obtain ⟨h1, h2, h3, h4, h5⟩ := h
  unfold jT at e9
  refine ⟨h1.f e (e9 11 (by omega)) (e9 10 (by omega)), (e9 12 (by omega)).trans h2, (e9 13 (by omega)).trans h3, fun q => (e9 14 (by omega)).trans (h4 q), fun q => ?_⟩
  unfold wdM
  rw [e9 15 (by omega), e9 1015 (by omega)]
  exact h5 q
theorem m_pre {b : Mem} {T : Nat → Nat} {n i S cap : Nat} {f : Nat × Nat} (oT : okT T) (hn : n ≤ 600) (hi : i ≤ n) (hL : LB b T n i f) (h0 : b 279 0 = nI S) (hS : S < 1000) (hc : cap < 1000) :
    ∃ b1 b2, fX12_full 0 (nI cap) (nI (pj T n i 0)) b = some b1 ∧ fX12_token b1 = some b2 ∧ MK b2 T n (pj T n i 1) ∧ FS b2 (af (!decide (S < cap)) 3 (pj T n i 0) f).1 (af (!decide (S < cap)) 3 (pj T n i 0) f).2 ∧ frK2 b b2 ∧ b2 280 = b 280 ∧ b2 269 21 = b 269 21 := by
  obtain ⟨hM, hF, hlt⟩ := hL
  have hp := pj_le (T := T) hi 0
  obtain ⟨b1, r1, r2, r3⟩ := m_full (x := pj T n i 0) h0 hS hc hF (by omega) hlt
  have m1 : MK b1 T n (pj T n i 0) := hM.c (r3.2 _ (by omega)) (fun j hj => r3.1 j (by unfold jF; unfold jT at hj; omega))
  obtain ⟨b2, t1, t2, t3⟩ := m_tok oT hn (tE_le hp).2.1 m1.1
  refine ⟨b1, b2, r1, t1, t2, r2.c (t3.1 17 (by unfold jT; omega)) (t3.1 18 (by unfold jT; omega)), (frK2.of r3 (fun j hj => Or.inr (Or.inl hj))).tr (frK2.of t3 (fun j hj => Or.inl hj)), by rw [t3.2 _ (by omega), r3.2 _ (by omega)], by rw [t3.1 21 (by unfold jT; omega), r3.1 21 (by unfold jF; omega)]⟩
theorem m_takeF {b : Mem} {T : Nat → Nat} {n p : Nat} {x l h : Int32} (hM : MK b T n p) (hK : tK T n p ≠ 3) : fX12_take x l h b = some (false, st2 b 269 16 (nI p)) := by
  have hk := tK_lt (T := T) (n := n) (p := p)
  unfold fX12_take fX12_fails
  rw [if_neg (by rw [hM.2.2.1]; exact lit_ne (m := 3) hK (by omega) (by omega)), bq, hM.2.1]
theorem LB.s {b : Mem} {T : Nat → Nat} {n i : Nat} {f : Nat × Nat} (h : LB b T n i f) : LB (st2 b 269 21 1) T n i f := ⟨h.1.c (st2_c _ _ (by omega)) (fun j hj => st2_o _ _ (by unfold jT at hj; omega)), h.2.1.c (st2_o _ _ (by omega)) (st2_o _ _ (by omega)), h.2.2⟩
theorem pj_l {T : Nat → Nat} {n i : Nat} (hi : i ≤ n) (j : Nat) (h : tK T n (pj T n i j) ≠ 0) : pj T n i j < pj T n i (j + 1) := by
  have := pj_lt hi h; omega
theorem fr3.st {b : Mem} {v : Int32} : fr3 b (st2 b 269 16 v) := ⟨st2_o _ _ (show ¬ (269 = 269 ∧ 22 = 16) by omega), fun m m1 _ _ => st2_c _ _ m1⟩
set_option maxHeartbeats 2000000 in
theorem m_diary {b : Mem} {T : Nat → Nat} {n i S w : Nat} {f : Nat × Nat} (oT : okT T) (hn : n ≤ 600) (hi : i ≤ n) (hL : LB b T n i f) (h0 : b 279 0 = nI S) (hS : S ≤ 8) (hw : w = 17 ∨ w = 18) (k0 : tK T n (pj T n i 0) = 2) :
    ((∀ j, 1 ≤ j → j ≤ nwd w → tK T n (pj T n i j) = 3) → ∃ b', fX12_diaryLine (KW w) (nI (pj T n i 0)) b = some (true, b') ∧ MK b' T n (pj T n i (nwd w + 1)) ∧ FS b' (lft T n i w (!decide (S < 8)) f).1 (lft T n i w (!decide (S < 8)) f).2 ∧ b' 279 0 = nI (min 8 (S + 1)) ∧ (S < 8 → b' 279 (1 + 2 * S) = ov T n i w 1 ∧ b' 279 (2 + 2 * S) = ov T n i w 2) ∧ (∀ j, j ≠ 0 → (S < 8 → ¬ (1 + 2 * S ≤ j ∧ j < 1 + 2 * S + 2)) → b' 279 j = b 279 j) ∧ fr3 b b') ∧
    (∀ j, 1 ≤ j → j ≤ nwd w → tK T n (pj T n i j) ≠ 3 → (∀ k, 1 ≤ k → k < j → tK T n (pj T n i k) = 3) → ∃ b', fX12_diaryLine (KW w) (nI (pj T n i 0)) b = some (false, b') ∧ b' 269 16 = nI (pj T n i j) ∧ fr3 b b') := by
  obtain ⟨b1, b2', p1, p2, p3, p4, p5, p6, p7⟩ := m_pre (cap := 8) oT hn hi hL h0 (by omega) (by omega)
  have p1' : fX12_full 0 8 (nI (pj T n i 0)) b = some b1 := p1
  have hp0 : pj T n i 0 < pj T n i 1 := pj_l hi 0 (by omega)
  have hlt1 := af_lt (c := !decide (S < 8)) (k := 3) hL.2.2 hp0
  generalize hc : st2 b2' 280 1 (-1) = c
  have cM : MK c T n (pj T n i 1) := p3.c (by rw [← hc, st2_c _ _ (by omega)]) (fun j _ => by rw [← hc, st2_o _ _ (by omega)])
  have cF : FS c (af (!decide (S < 8)) 3 (pj T n i 0) f).1 (af (!decide (S < 8)) 3 (pj T n i 0) f).2 := p4.c (by rw [← hc, st2_o _ _ (by omega)]) (by rw [← hc, st2_o _ _ (by omega)])
  have fc : frK2 b c := p5.tr (by rw [← hc]; exact ⟨fun j _ => st2_o _ _ (by omega), fun m _ m2 => st2_c _ _ m2⟩)
  have c1 : c 280 1 = -1 := by rw [← hc, st2_eq]
  have hcode : fX12_diaryLine (KW w) (nI (pj T n i 0)) b = (fX12_take 0 0 9 c).bind fun q4 => if q4.1 = true then (if KW w = 6840691 then ((fX12_take 1 0 99 q4.2).bind fun q9 => if q9.1 = true then ((fX12_keepRow 2 8 q9.2).bind fun q11 => some (true, q11)) else (some (false, q9.2))) else ((fX12_keepRow 2 8 q4.2).bind fun q7 => some (true, q7))) else (some (false, q4.2)) := by
    unfold fX12_diaryLine
    have hj : jX12_diaryLine_21 (KW w) (nI (pj T n i 0)) b = (fX12_take 0 0 9 c).bind fun q4 => if q4.1 = true then (if KW w = 6840691 then ((fX12_take 1 0 99 q4.2).bind fun q9 => if q9.1 = true then ((fX12_keepRow 2 8 q9.2).bind fun q11 => some (true, q11)) else (some (false, q9.2))) else ((fX12_keepRow 2 8 q4.2).bind fun q7 => some (true, q7))) else (some (false, q4.2)) := by
      unfold jX12_diaryLine_21
      rw [p1', bq, p2, bq, hc]
    rcases hw with rfl | rfl
    · rw [if_pos KW_v.2.2.2.2.2.2.2.2.2.2.2.2.2.2.2.2.2.1]; exact hj
    · rw [if_neg (by rw [KW_v.2.2.2.2.2.2.2.2.2.2.2.2.2.2.2.2.2.2]; decide), if_pos KW_v.2.2.2.2.2.2.2.2.2.2.2.2.2.2.2.2.2.2]; exact hj
  rw [hcode]
  have fail1 : tK T n (pj T n i 1) ≠ 3 → ∃ b', ((fX12_take 0 0 9 c).bind fun q4 => if q4.1 = true then (if KW w = 6840691 then ((fX12_take 1 0 99 q4.2).bind fun q9 => if q9.1 = true then ((fX12_keepRow 2 8 q9.2).bind fun q11 => some (true, q11)) else (some (false, q9.2))) else ((fX12_keepRow 2 8 q4.2).bind fun q7 => some (true, q7))) else (some (false, q4.2))) = some (false, b') ∧ b' 269 16 = nI (pj T n i 1) ∧ fr3 b b' := fun hK => by
    rw [m_takeF cM hK, bq]
    exact ⟨st2 c 269 16 (nI (pj T n i 1)), rfl, st2_eq _ _ _ _, fc.r.tr fr3.st⟩
  by_cases k1 : tK T n (pj T n i 1) = 3
  · obtain ⟨d, d1, d2, d3, d4, d5, d6, d7⟩ := m_take (x := 0) (l := 0) (h := 9) oT hn hi cM (by omega) (by omega) (by omega) k1 cF hlt1
    have d1' : fX12_take 0 0 9 c = some (true, d) := d1
    have hp1 : pj T n i 1 < pj T n i 2 := pj_l hi 1 (by omega)
    have d279 : d 279 = b 279 := by rw [d7.2 279 (by omega) (by omega), fc.2 279 (by omega) (by omega)]
    rw [d1', bq]
    dsimp only
    rw [if_pos rfl]
    rcases hw with rfl | rfl
    · rw [if_pos KW_v.2.2.2.2.2.2.2.2.2.2.2.2.2.2.2.2.2.1]
      have hN : nwd 17 = 2 := by decide
      have hlt2 := af_lt (c := !inR (tN T n (pj T n i 1)) 0 9) (k := 2) hlt1 hp1
      rw [hN]
      by_cases k2 : tK T n (pj T n i 2) = 3
      · refine ⟨fun _ => ?_, fun j j1 j2 j3 _ => absurd j3 (by rcases (show j = 1 ∨ j = 2 by omega) with rfl | rfl; exact fun q => q k1; exact fun q => q k2)⟩
        obtain ⟨e, e1, e2, e3, e4, e5, e6, e7⟩ := m_take (x := 1) (l := 0) (h := 99) oT hn hi d2 (by omega) (by omega) (by omega) k2 d3 hlt2
        have e1' : fX12_take 1 0 99 d = some (true, e) := e1
        have e279 : e 279 = b 279 := by rw [e7.2 279 (by omega) (by omega), d279]
        obtain ⟨g, g1, g2, g3, g4, g5⟩ := m_keepRow (b := e) (k := 2) (cap := 8) (by omega) (by omega) (by omega) (by rw [e279]; exact h0) hS
        have g1' : fX12_keepRow 2 8 e = some g := g1
        rw [e1', bq]
        dsimp only
        rw [if_pos rfl, g1', bq]
        refine ⟨g, rfl, e2.c (g5 _ (by omega)) (fun j _ => by rw [g5 269 (by omega)]), ?_, g2, fun q => ⟨?_, ?_⟩, fun j j1 j2 => by rw [g4 j j1 j2, e279], fc.r.tr (d7.r.tr (e7.r.tr ⟨by rw [g5 269 (by omega)], fun m m1 m2 m3 => g5 m m2⟩))⟩
        · have : FS e (lft T n i 17 (!decide (S < 8)) f).1 (lft T n i 17 (!decide (S < 8)) f).2 := e3
          exact this.c (by rw [g5 269 (by omega)]) (by rw [g5 269 (by omega)])
        · have := g3 q 0 (by omega)
          rw [Nat.add_zero, e5 0 (by omega), d4] at this
          rw [this]; rfl
        · have := g3 q 1 (by omega)
          rw [e4] at this
          rw [show 2 + 2 * S = 1 + 2 * S + 1 by omega, this]; rfl
      · refine ⟨fun h => absurd (h 2 (by omega) (by omega)) k2, fun j j1 j2 j3 _ => ?_⟩
        rcases (show j = 1 ∨ j = 2 by omega) with rfl | rfl
        · exact absurd k1 j3
        · rw [m_takeF d2 k2, bq]
          exact ⟨st2 d 269 16 (nI (pj T n i 2)), rfl, st2_eq _ _ _ _, fc.r.tr (d7.r.tr fr3.st)⟩
    · rw [if_neg (by rw [KW_v.2.2.2.2.2.2.2.2.2.2.2.2.2.2.2.2.2.2]; decide)]
      have hN : nwd 18 = 1 := by decide
      rw [hN]
      refine ⟨fun _ => ?_, fun j j1 j2 j3 _ => absurd j3 (by rcases (show j = 1 by omega) with rfl; exact fun q => q k1)⟩
      obtain ⟨g, g1, g2, g3, g4, g5⟩ := m_keepRow (b := d) (k := 2) (cap := 8) (by omega) (by omega) (by omega) (by rw [d279]; exact h0) hS
      have g1' : fX12_keepRow 2 8 d = some g := g1
      rw [g1', bq]
      refine ⟨g, rfl, d2.c (g5 _ (by omega)) (fun j _ => by rw [g5 269 (by omega)]), ?_, g2, fun q => ⟨?_, ?_⟩, fun j j1 j2 => by rw [g4 j j1 j2, d279], fc.r.tr (d7.r.tr ⟨by rw [g5 269 (by omega)], fun m m1 m2 m3 => g5 m m2⟩)⟩
      · have : FS d (lft T n i 18 (!decide (S < 8)) f).1 (lft T n i 18 (!decide (S < 8)) f).2 := d3
        exact this.c (by rw [g5 269 (by omega)]) (by rw [g5 269 (by omega)])
      · have := g3 q 0 (by omega)
        rw [Nat.add_zero, d4] at this
        rw [this]; rfl
      · have := g3 q 1 (by omega)
        rw [d5 1 (by omega), c1] at this
        rw [show 2 + 2 * S = 1 + 2 * S + 1 by omega, this]; rfl
  · have hN : 1 ≤ nwd w := by rcases hw with rfl | rfl <;> decide
    refine ⟨fun h => absurd (h 1 (by omega) hN) k1, fun j j1 j2 j3 j4 => ?_⟩
    by_cases e : j = 1
    · rw [e]; exact fail1 k1
    · exact absurd (j4 1 (by omega) (by omega)) k1
