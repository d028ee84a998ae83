/-! ===== text: poured beside read ===== -/
def bk (s pl m : Nat) : Prop := (s = 0 ∧ 8 + 14 * pl ≤ m ∧ m ≤ 9 + 14 * pl) ∨ (s = 1 ∧ 10 + 14 * pl ≤ m ∧ m ≤ 14 + 14 * pl) ∨ (s = 2 ∧ 15 + 14 * pl ≤ m ∧ m ≤ 18 + 14 * pl) ∨ (s = 3 ∧ 19 + 14 * pl ≤ m ∧ m ≤ 21 + 14 * pl)
def PO (s pl : Nat) (a : Mem) (R : Nat → Int32) (t u : Nat) : Prop :=
  (s = 0 → SRf (a (1 + 7 + 14 * pl)) (a (1 + 7 + 14 * pl + 1)) R) ∧
  (s = 1 → t = u ∧ u ≤ 7 ∧ BRf (a (1 + 9 + 14 * pl)) (a (1 + 9 + 14 * pl + 1)) (a (1 + 9 + 14 * pl + 2)) (a (1 + 9 + 14 * pl + 3)) (a (1 + 9 + 14 * pl + 4)) R ∧ ∀ v, u ≤ v → v < 7 → R (1 + 19 * v) = nI 0) ∧
  (s = 2 → PRf (a (1 + 14 + 14 * pl)) (a (1 + 14 + 14 * pl + 1)) (a (1 + 14 + 14 * pl + 2)) (a (1 + 14 + 14 * pl + 3)) R) ∧
  (s = 3 → DRf (a (1 + 18 + 14 * pl)) (a (1 + 18 + 14 * pl + 1)) (a (1 + 18 + 14 * pl + 2)) R)
theorem PO.c {s pl t u : Nat} {a a' : Mem} {R : Nat → Int32} (hpl : pl < 2) (h : PO s pl a R t u) (e : ∀ m, bk s pl m → a' m = a m) : PO s pl a' R t u := by
  obtain ⟨h0, h1, h2, h3⟩ := h
  unfold bk at e
  refine ⟨fun es => ?_, fun es => ?_, fun es => ?_, fun es => ?_⟩
  · rw [e _ (by omega), e _ (by omega)]; exact h0 es
  · rw [e _ (by omega), e _ (by omega), e _ (by omega), e _ (by omega), e _ (by omega)]; exact h1 es
  · rw [e _ (by omega), e _ (by omega), e _ (by omega), e _ (by omega)]; exact h2 es
  · rw [e _ (by omega), e _ (by omega), e _ (by omega)]; exact h3 es
theorem no_s {P : Prop} {a b : Nat} (h : a ≠ b) : a = b → P := fun q => absurd q h
def CL (T : Nat → Nat) (n i s pl w : Nat) (a b2 : Mem) : Prop := ∃ (a' : Mem) (t' u' S' : Nat), fX9_takeLine 1 (nI s) (nI pl) (nI w) (ov T n i w 1) (ov T n i w 2) a = some a' ∧ CN s b2 t' u' S' ∧ PO s pl a' (b2 279) t' u' ∧ ∀ m, ¬ bk s pl m → a' m = a m
theorem c_line0 {T : Nat → Nat} {n i pl w t u S : Nat} {a b b2 : Mem} (hpl : pl < 2) (f2 : w < 3) (hno : nof T n i w) (hN : CN 0 b t u S) (hE : EF T n i 0 w t u S b b2) (hP : PO 0 pl a (b 279) t u) : CL T n i 0 pl w a b2 := by
  obtain ⟨t', u', S', n1, -⟩ := CN_next (by omega) hN hE
  obtain ⟨a', r1, r2, r3⟩ := c_takeS f2 hno (hP.1 rfl)
  refine ⟨a', t', u', S', ?_, n1, ⟨fun _ => ?_, no_s (by omega), no_s (by omega), no_s (by omega)⟩, fun m hm => r3 m (fun q => hm (Or.inl (by omega))) (fun q => hm (Or.inl (by omega)))⟩
  · unfold fX9_takeLine
    rw [if_pos (show nI 0 = 0 from rfl), inb_T hpl (by omega), gdT, nI_ck (by omega), r1, bq]
  · rw [hE.1 rfl hno]; exact r2
theorem tl1 {pl w : Nat} {x y : Int32} {a a' : Mem} (hpl : pl < 2) (h : fX8_take (1 + 9 + 14 * pl) (nI w) x y a = some a') : fX9_takeLine 1 (nI 1) (nI pl) (nI w) x y a = some a' := by
  unfold fX9_takeLine
  rw [if_neg (show ¬ nI 1 = 0 by decide), if_pos (show nI 1 = 1 from rfl), inb_T hpl (by omega), gdT, nI_ck (by omega), h, bq]
theorem c_line1 {T : Nat → Nat} {n i pl w t u S : Nat} {a b b2 : Mem} (hpl : pl < 2) (f1 : 3 ≤ w) (f2 : w < 10) (hno : nof T n i w) (htm : tmF 1 w t u S = false) (hN : CN 1 b t u S) (hE : EF T n i 1 w t u S b b2) (hP : PO 1 pl a (b 279) t u) : CL T n i 1 pl w a b2 := by
  obtain ⟨t', u', S', n1, n2, n3, -⟩ := CN_next (by omega) hN hE
  obtain ⟨d1, d2, d3, d4, d5, d6⟩ := hN.1 rfl
  obtain ⟨p1, p2, p3, p4⟩ := hP.2.1 rfl
  by_cases z : w = 9
  · have h7 : t < 7 := by
      have e : tmF 1 w t u S = !decide (t < 7) := by unfold tmF; rw [if_neg (by omega), if_pos rfl, if_pos z]
      rw [e] at htm
      by_cases y : t < 7
      · exact y
      · rw [decide_eq_false y] at htm; exact absurd htm (by decide)
    subst z
    obtain ⟨q1, q2, q3⟩ := hE.2.1 rfl rfl
    have hz := p4 t (by omega) h7
    obtain ⟨x1, x2, x3⟩ := n2 rfl rfl h7 hz
    rw [show min 7 (t + 1) = t + 1 by omega] at q2
    obtain ⟨a', r1, r2, r3⟩ := c_takeT (x2 := ov T n i 9 1) (x3 := ov T n i 9 2) p3 d3 h7 hz q2 q3
    refine ⟨a', t', u', S', tl1 hpl r1, n1, ⟨no_s (by omega), fun _ => ⟨by omega, by omega, r2, fun v v1 v2 => ?_⟩, no_s (by omega), no_s (by omega)⟩, fun m hm => r3 m (fun q => hm (Or.inr (Or.inl (by omega))))⟩
    rw [q3 _ (by omega)]; exact p4 v (by omega) v2
  · have hS : ¬ (u = 0 ∨ (u ≤ 7 ∧ S = 6)) := by
      have e : tmF 1 w t u S = tmS u S := by unfold tmF; rw [if_neg (by omega), if_pos rfl, if_neg z]
      rw [e] at htm
      exact of_decide_eq_false htm
    obtain ⟨q, rfl⟩ : ∃ q, u = q + 1 := ⟨u - 1, by omega⟩
    obtain ⟨c1, c2⟩ := d5 (by omega) (by omega)
    obtain ⟨k1, k2, k3⟩ := hE.2.2.1 rfl z
    obtain ⟨k4, k5, k6⟩ := k3 (by omega) (by omega)
    rw [Nat.add_sub_cancel] at c1 k4 k5 k6
    have h6 : S < 6 := by omega
    rw [show min 6 (S + 1) = S + 1 by omega] at k4
    rw [p1] at d3
    obtain ⟨x1, x2, x3⟩ := n3 rfl z
    obtain ⟨a', r1, r2, r3⟩ := c_takeK f1 (show w < 9 by omega) hno p3 d3 (by omega) c1 h6 k4 (k5 h6) (fun j j1 j2 => k6 j j1 (fun _ => j2))
    refine ⟨a', t', u', S', tl1 hpl r1, n1, ⟨no_s (by omega), fun _ => ⟨by omega, by omega, r2, fun v v1 v2 => ?_⟩, no_s (by omega), no_s (by omega)⟩, fun m hm => r3 m (fun q => hm (Or.inr (Or.inl (by omega))))⟩
    rw [k6 _ (by omega) (fun _ => by omega)]; exact p4 v (by omega) v2
theorem c_line2 {T : Nat → Nat} {n i pl w t u S : Nat} {a b b2 : Mem} (hpl : pl < 2) (f1 : 10 ≤ w) (f2 : w < 17) (hno : nof T n i w) (htm : tmF 2 w t u S = false) (hN : CN 2 b t u S) (hE : EF T n i 2 w t u S b b2) (hP : PO 2 pl a (b 279) t u) : CL T n i 2 pl w a b2 := by
  obtain ⟨t', u', S', n1, -⟩ := CN_next (by omega) hN hE
  obtain ⟨d1, d2⟩ := hN.2.1 rfl
  have h4 : S < 40 := by
    have e : tmF 2 w t u S = !decide (S < 40) := by unfold tmF; rw [if_neg (by omega), if_neg (by omega), if_pos rfl]
    rw [e] at htm
    by_cases y : S < 40
    · exact y
    · rw [decide_eq_false y] at htm; exact absurd htm (by decide)
  obtain ⟨q1, q2, q3⟩ := hE.2.2.2.1 rfl
  rw [show min 40 (S + 1) = S + 1 by omega] at q1
  obtain ⟨a', r1, r2, r3⟩ := c_takeP f1 f2 hno (hP.2.2.1 rfl) d1 h4 q1 (q2 h4) (fun j j1 j2 => q3 j j1 (fun _ => j2))
  refine ⟨a', t', u', S', ?_, n1, ⟨no_s (by omega), no_s (by omega), fun _ => r2, no_s (by omega)⟩, fun m hm => r3 m (fun q => hm (Or.inr (Or.inr (Or.inl (by omega)))))⟩
  unfold fX9_takeLine
  rw [if_neg (show ¬ nI 2 = 0 by decide), if_neg (show ¬ nI 2 = 1 by decide), if_pos (show nI 2 = 2 from rfl), inb_T hpl (by omega), gdT, nI_ck (by omega), r1, bq]
theorem c_line3 {T : Nat → Nat} {n i pl w t u S : Nat} {a b b2 : Mem} (hpl : pl < 2) (f1 : w = 17 ∨ w = 18) (hno : nof T n i w) (htm : tmF 3 w t u S = false) (hN : CN 3 b t u S) (hE : EF T n i 3 w t u S b b2) (hP : PO 3 pl a (b 279) t u) : CL T n i 3 pl w a b2 := by
  obtain ⟨t', u', S', n1, -⟩ := CN_next (by omega) hN hE
  obtain ⟨d1, d2⟩ := hN.2.2 rfl
  have h4 : S < 8 := by
    have e : tmF 3 w t u S = !decide (S < 8) := by unfold tmF; rw [if_neg (by omega), if_neg (by omega), if_neg (by omega)]
    rw [e] at htm
    by_cases y : S < 8
    · exact y
    · rw [decide_eq_false y] at htm; exact absurd htm (by decide)
  obtain ⟨q1, q2, q3⟩ := hE.2.2.2.2 rfl
  rw [show min 8 (S + 1) = S + 1 by omega] at q1
  obtain ⟨a', r1, r2, r3⟩ := c_takeD f1 hno (hP.2.2.2 rfl) d1 h4 q1 (q2 h4) (fun j j1 j2 => q3 j j1 (fun _ => j2))
  refine ⟨a', t', u', S', ?_, n1, ⟨no_s (by omega), no_s (by omega), no_s (by omega), fun _ => r2⟩, fun m hm => r3 m (fun q => hm (Or.inr (Or.inr (Or.inr (by omega)))))⟩
  unfold fX9_takeLine
  rw [if_neg (show ¬ nI 3 = 0 by decide), if_neg (show ¬ nI 3 = 1 by decide), if_neg (show ¬ nI 3 = 2 by decide), inb_T hpl (by omega), gdT, nI_ck (by omega), r1, bq]
theorem c_line {T : Nat → Nat} {n i s pl w t u S : Nat} {a b b2 : Mem} (hs : s < 4) (hpl : pl < 2) (f1 : fs s ≤ w) (f2 : w < fs (s + 1)) (hno : nof T n i w) (htm : tmF s w t u S = false) (hN : CN s b t u S) (hE : EF T n i s w t u S b b2) (hP : PO s pl a (b 279) t u) : CL T n i s pl w a b2 := by
  rcases (show s = 0 ∨ s = 1 ∨ s = 2 ∨ s = 3 by omega) with rfl | rfl | rfl | rfl
  · exact c_line0 hpl f2 hno hN hE hP
  · exact c_line1 hpl f1 f2 hno htm hN hE hP
  · exact c_line2 hpl f1 f2 hno htm hN hE hP
  · have f1' : 17 ≤ w := f1
    have f2' : w < 19 := f2
    exact c_line3 hpl (by omega) hno htm hN hE hP
def frPo (s pl : Nat) (a a' : Mem) : Prop := ∀ m, ¬ bk s pl m → m ≠ 143 → m ≠ 144 → m ≠ 145 → a' m = a m
theorem frPo.tr {s pl : Nat} {a a' a'' : Mem} (h : frPo s pl a a') (h2 : frPo s pl a' a'') : frPo s pl a a'' := fun m x y z v => (h2 m x y z v).trans (h m x y z v)
/-- one line poured -/
theorem p_one {T : Nat → Nat} {n s pl g x i w t u S : Nat} {a b b2 : Mem} (oT : okT T) (hn : n ≤ 600) (hs : s < 4) (hpl : pl < 2) (hi : i ≤ n) (hx : x < 600) (hC : CI a T n i) (hN : CN s b t u S) (hE : EF T n i s w t u S b b2) (hP : PO s pl a (b 279) t u) (hg : good T n s i w) (h0 : lft T n i w (tmF s w t u S) (0, 0) = (0, 0)) :
    ∃ a2 t' u' S', lX5_pour_15 (nI s) 1 (nI pl) (g + 1) (nI x) a = lX5_pour_15 (nI s) 1 (nI pl) g (nI (x + 1)) a2 ∧ CI a2 T n (tE T n (pj T n i (nwd w + 1))) ∧ CN s b2 t' u' S' ∧ PO s pl a2 (b2 279) t' u' ∧ frPo s pl a a2 := by
  obtain ⟨htm, hno⟩ := lf_nof h0
  obtain ⟨-, f1, f2, -, -⟩ := wrd_lt hs hg.1
  obtain ⟨a1, r1, r2, r3, r4, r5, r6, r7, r8, r9, r10⟩ := c_good oT hn hs hi hC hg
  have hP1 : PO s pl a1 (b 279) t u := hP.c hpl (fun m hm => by unfold bk at hm; exact r10.2 m (by omega) (by omega) (by omega))
  obtain ⟨a2, t', u', S', q1, q2, q3, q4⟩ := c_line hs hpl f1 f2 hno htm hN hE hP1
  have nb : ∀ m, m < 8 ∨ 36 < m → ¬ bk s pl m := fun m hm q => by unfold bk at q; omega
  refine ⟨a2, t', u', S', ?_, r2.L (q4 2 (nb 2 (by omega))) (by rw [q4 143 (nb 143 (by omega))]) (by rw [q4 143 (nb 143 (by omega))]), q2, q3, fun m m0 m1 m2 m3 => (q4 m m0).trans (r10.2 m m1 m2 m3)⟩
  rw [lX5_pour_15, if_neg (x600 hx), r1, bq]
  dsimp only
  rw [if_pos rfl, r4, r6, r7, q1, bq, nI_1]
theorem p_loop {T : Nat → Nat} {n s pl : Nat} (oT : okT T) (hn : n ≤ 600) (hs : s < 4) (hpl : pl < 2) : ∀ k g g2 i x (a b b' : Mem) (t u S : Nat), n - i ≤ k → k ≤ g → k ≤ g2 → i ≤ n → 2 * x ≤ i → CI a T n i → LB b T n i (0, 0) → CN s b t u S → PO s pl a (b 279) t u → lX12_allLines_2 (nI s) (g2 + 2) true b = some (true, b') → b' 269 17 = nI 0 →
    ∃ a' t' u', lX5_pour_15 (nI s) 1 (nI pl) (g + 1) (nI x) a = some a' ∧ PO s pl a' (b' 279) t' u' ∧ frPo s pl a a' := by
  have fin : ∀ g g2 i x (a b b' : Mem) (t u S : Nat), i ≤ n → x < 600 → CI a T n i → LB b T n i (0, 0) → CN s b t u S → PO s pl a (b 279) t u → lX12_allLines_2 (nI s) (g2 + 2) true b = some (true, b') → (tK T n (pj T n i 0) = 0 ∨ ∃ q, brk T n s i q) → ∃ a' t' u', lX5_pour_15 (nI s) 1 (nI pl) (g + 1) (nI x) a = some a' ∧ PO s pl a' (b' 279) t' u' ∧ frPo s pl a a' := by
    intro g g2 i x a b b' t u S hi hx hC hL hN hP he h
    rcases h with k0 | ⟨q, hb⟩
    · have e := (m_itE (g := g2 + 1) (x := nI s) hL.1 k0).symm.trans he
      have e2 : b = b' := congrArg Prod.snd (Option.some.inj e)
      obtain ⟨a', r1, r2, r3⟩ := c_end (s := s) oT hn hi hC k0
      rw [← e2]
      refine ⟨a', t, u, ?_, hP.c hpl (fun m hm => by unfold bk at hm; exact r3.2 m (by omega) (by omega) (by omega)), fun m _ m1 m2 m3 => r3.2 m m1 m2 m3⟩
      rw [lX5_pour_15, if_neg (x600 hx), r1, bq]; rfl
    · obtain ⟨c, q1, q2, q3⟩ := m_brk (g := g2) oT hn hs hi hL hN hb
      have e : false = true := congrArg Prod.fst (Option.some.inj (q1.symm.trans he))
      exact absurd e (by decide)
  intro k
  induction k with
  | zero =>
    intro g g2 i x a b b' t u S h1 h2 h3 hi hx hC hL hN hP he h17
    rcases line3 (T := T) (n := n) (i := i) hs with k0 | hb | ⟨w, hg⟩
    · exact fin g g2 i x a b b' t u S hi (by omega) hC hL hN hP he (Or.inl k0)
    · exact fin g g2 i x a b b' t u S hi (by omega) hC hL hN hP he (Or.inr hb)
    · have := good_i hs hi hg; omega
  | succ k ih =>
    intro g g2 i x a b b' t u S h1 h2 h3 hi hx hC hL hN hP he h17
    rcases line3 (T := T) (n := n) (i := i) hs with k0 | hb | ⟨w, hg⟩
    · exact fin g g2 i x a b b' t u S hi (by omega) hC hL hN hP he (Or.inl k0)
    · exact fin g g2 i x a b b' t u S hi (by omega) hC hL hN hP he (Or.inr hb)
    · clear fin
      have hi' := good_i hs hi hg
      obtain ⟨b2', m1, m2, m3, m4⟩ := m_good (g := g2 + 1) oT hn hs hi hL hN hg
      obtain ⟨g2, rfl⟩ : ∃ m, g2 = m + 1 := ⟨g2 - 1, by omega⟩
      obtain ⟨g, rfl⟩ : ∃ m, g = m + 1 := ⟨g - 1, by omega⟩
      have he2 : lX12_allLines_2 (nI s) (g2 + 2) true b2' = some (true, b') := m1.symm.trans he
      have h0 : lft T n i w (tmF s w t u S) (0, 0) = (0, 0) := by
        by_cases z : (lft T n i w (tmF s w t u S) (0, 0)).1 = 0
        · exact lft_z z
        · exfalso
          obtain ⟨t', u', S', n1, -⟩ := CN_next hs hN m3
          obtain ⟨f', hf'⟩ : ∃ f', lft T n i w (tmF s w t u S) (0, 0) = f' := ⟨_, rfl⟩
          rw [hf'] at z m2
          obtain ⟨y1, y2, -⟩ := m_stay oT hn hs k g2 _ b2' b' f' t' u' S' (by omega) (by omega) hi'.2 z m2 n1 he2
          exact z ((eq_nn (by omega) (by omega)).mp (y2.symm.trans h17))
      rw [h0] at m2
      obtain ⟨a2, t', u', S', q1, q2, q3, q4, q5⟩ := p_one (g := g + 1) oT hn hs hpl hi (show x < 600 by omega) hC hN m3 hP hg h0
      obtain ⟨i', hii⟩ : ∃ i', tE T n (pj T n i (nwd w + 1)) = i' := ⟨_, rfl⟩
      rw [hii] at m2 hi' q2
      obtain ⟨a', t'', u'', o1, o2, o3⟩ := ih g g2 i' (x + 1) a2 b2' b' t' u' S' (by omega) (by omega) (by omega) hi'.2 (by omega) q2 m2 q3 q4 he2 h17
      exact ⟨a', t'', u'', q1.trans o1, o2, q5.tr o3⟩
