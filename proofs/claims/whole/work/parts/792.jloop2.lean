/-! ===== text: the class's judging beside the reference's reading ===== -/
def FJ (a : Mem) (f : Nat × Nat) : Prop := a 143 13 = nI f.1 ∧ (f.1 = 0 → a 143 14 = -1) ∧ (f.1 ≠ 0 → a 143 14 = nI f.2)
def frJ3 (a a' : Mem) : Prop := ∀ m, m ≠ 143 → m ≠ 144 → m ≠ 145 → a' m = a m
theorem good_i {T : Nat → Nat} {n i s w : Nat} (hs : s < 4) (hi : i ≤ n) (hg : good T n s i w) : i + 2 ≤ tE T n (pj T n i (nwd w + 1)) ∧ tE T n (pj T n i (nwd w + 1)) ≤ n := by
  obtain ⟨p1, p2, p3⟩ := good_pl hs hi hg
  have h0 : i ≤ pj T n i 0 := (tP_le hi).1
  have := p1 0 (by omega)
  omega
def JN (T : Nat → Nat) (n s : Nat) (g g2 i x : Nat) (a b : Mem) : Prop := ∃ (a2 b2' : Mem) (f' : Nat × Nat) (i' t' u' S' : Nat), lX5_judge_27 (nI s) (g + 1) (nI x) a = lX5_judge_27 (nI s) g (nI (x + 1)) a2 ∧ lX12_allLines_2 (nI s) (g2 + 1) true b = lX12_allLines_2 (nI s) g2 true b2' ∧ i + 2 ≤ i' ∧ i' ≤ n ∧ CI a2 T n i' ∧ a2 143 6 = 0 ∧ FJ a2 f' ∧ (f'.1 = 0 → f' = (0, 0)) ∧ LB b2' T n i' f' ∧ CN s b2' t' u' S' ∧ (f'.1 = 0 → JC s a2 b2' i' t' u' S') ∧ fr4 b b2' ∧ frJ3 a a2
theorem x600 {x : Nat} (h : x < 600) : ¬ (600 : Int32) ≤ nI x := fun q => absurd ((le_nn (a := 600) (by omega) (by omega)).mp q) (by omega)
theorem j_hd {s g x : Nat} {a a1 a2 : Mem} (hx : x < 600) (r1 : fX5_readLine (nI s) a = some (true, a1)) (hq : ((if (a1 143 13) = 0 then ((fX5_judgeLine (nI s) a1).bind fun q13 => some q13) else (some a1)) : Option Mem) = some a2) : lX5_judge_27 (nI s) (g + 1) (nI x) a = lX5_judge_27 (nI s) g (nI (x + 1)) a2 := by
  rw [lX5_judge_27, if_neg (x600 hx), r1, bq]
  dsimp only
  rw [if_pos rfl, hq, bq, nI_1]
theorem j_sA {T : Nat → Nat} {n s g g2 i x w t u S : Nat} {a b : Mem} {f : Nat × Nat} (oT : okT T) (hn : n ≤ 600) (hs : s < 4) (hi : i ≤ n) (hx : x < 600) (hC : CI a T n i) (hF : FJ a f) (hf0 : f.1 = 0 → f = (0, 0)) (hL : LB b T n i f) (hN : CN s b t u S) (hJ : JC s a b i t u S) (hg : good T n s i w) (z : f.1 = 0) : JN T n s g g2 i x a b := by
  have hi' := good_i hs hi hg
  have hw := (wrd_lt hs hg.1).2.2.2.1
  obtain ⟨a1, r1, r2, r3, r4, r5, r6, r7, r8, r9, r10⟩ := c_good oT hn hs hi hC hg
  obtain ⟨b2', m1, m2, m3, m4⟩ := m_good (g := g2) oT hn hs hi hL hN hg
  obtain ⟨t', u', S', n1, n2, n3, n4, n5⟩ := CN_next hs hN m3
  obtain ⟨tt, ll, j1, j2, j3, j4, j5, j6, j7⟩ := hJ
  have ef := hf0 z
  have h13 : a1 143 13 = 0 := by rw [r10.1 13 (by omega), hF.1, z]; rfl
  have h11 : a1 143 11 = nI tt := by rw [r10.1 11 (by omega)]; exact j1
  have h12 : a1 143 12 = nI ll := by rw [r10.1 12 (by omega)]; exact j2
  obtain ⟨a2, s1, s2, s3, s4, s5, s6⟩ := c_jl (i := i) hs hw hg.2.1 r4 r5 r6 r7 r8 r9 h11 h12 (by omega) (by omega) h13
  have etm : tmC s w tt ll = tmF s w t u S := tm_eq hs (fun q => ⟨(j5 q).1, (j5 q).2.1, (j5 q).2.2.1, (j5 q).2.2.2.1⟩) j3 j6 j7
  rw [etm] at s2
  rw [ef] at m2
  have hq : ((if (a1 143 13) = 0 then ((fX5_judgeLine (nI s) a1).bind fun q13 => some q13) else (some a1)) : Option Mem) = some a2 := by rw [if_pos h13, s1, bq]
  have hfz := lft_z (T := T) (n := n) (i := i) (w := w) (tm := tmF s w t u S)
  have htmf : (lft T n i w (tmF s w t u S) (0, 0)).1 = 0 → tmF s w t u S = false := fun q => by
    cases y : tmF s w t u S
    · rfl
    · rw [y, lf_tm] at q; exact absurd q (by show ¬ 3 = 0; omega)
  obtain ⟨f', hf'⟩ : ∃ f', lft T n i w (tmF s w t u S) (0, 0) = f' := ⟨_, rfl⟩
  rw [hf'] at s2 m2 hfz htmf
  obtain ⟨i', hii⟩ : ∃ i', tE T n (pj T n i (nwd w + 1)) = i' := ⟨_, rfl⟩
  rw [hii] at r2 m2 hi'
  have hJ' : f'.1 = 0 → JC s a2 b2' i' t' u' S' := fun q => JC_next hs hi'.1 hN m3 j3 j4 j5 j6 j7 (etm.trans (htmf q)) s3 s4 n2 n3 n4 n5
  have hFJ : FJ a2 f' := ⟨s2.1, fun q => by rw [s2.2.1 q, r10.1 14 (by omega)]; exact hF.2.1 z, s2.2.2⟩
  have hC2 : CI a2 T n i' := r2.L (s6 2 (by omega)) (s5 1 (by omega)) (s5 2 (by omega))
  have h62 : a2 143 6 = 0 := by rw [s5 6 (by omega)]; exact r3
  have hfr : frJ3 a a2 := fun m m1 m2 m3 => by rw [s6 m m1]; exact r10.2 m m1 m2 m3
  exact ⟨a2, b2', f', i', t', u', S', j_hd hx r1 hq, m1, hi'.1, hi'.2, hC2, h62, hFJ, hfz, m2, n1, hJ', m4, hfr⟩
theorem j_sB {T : Nat → Nat} {n s g g2 i x w t u S : Nat} {a b : Mem} {f : Nat × Nat} (oT : okT T) (hn : n ≤ 600) (hs : s < 4) (hi : i ≤ n) (hx : x < 600) (hC : CI a T n i) (hF : FJ a f) (hL : LB b T n i f) (hN : CN s b t u S) (hg : good T n s i w) (z : f.1 ≠ 0) : JN T n s g g2 i x a b := by
  have hi' := good_i hs hi hg
  have hfk := hL.2.1.1
  obtain ⟨a1, r1, r2, r3, r4, r5, r6, r7, r8, r9, r10⟩ := c_good oT hn hs hi hC hg
  obtain ⟨b2', m1, m2, m3, m4⟩ := m_good (g := g2) oT hn hs hi hL hN hg
  obtain ⟨t', u', S', n1, n2, n3, n4, n5⟩ := CN_next hs hN m3
  rw [lft_n z] at m2
  have h13 : ¬ a1 143 13 = 0 := by rw [r10.1 13 (by omega), hF.1]; exact ne0 z (by omega)
  have hq : ((if (a1 143 13) = 0 then ((fX5_judgeLine (nI s) a1).bind fun q13 => some q13) else (some a1)) : Option Mem) = some a1 := if_neg h13
  have hFJ : FJ a1 f := by unfold FJ; rw [r10.1 13 (by omega), r10.1 14 (by omega)]; exact hF
  exact ⟨a1, b2', f, _, t', u', S', j_hd hx r1 hq, m1, hi'.1, hi'.2, r2, r3, hFJ, fun q => absurd q z, m2, n1, fun q => absurd q z, m4, r10.2⟩
/-- how both end -/
def JE (a b a' b' : Mem) (r : Bool) : Prop := fr4 b b' ∧ frJ3 a a' ∧ ((r = true ∧ a' 143 6 = 0 ∧ ∃ f', FS b' f'.1 f'.2 ∧ FJ a' f' ∧ (f'.1 = 0 → f' = (0, 0))) ∨ (r = false ∧ a' 143 6 = 1 ∧ ∃ pl, a' 143 4 = nI pl ∧ b' 269 16 = nI pl))
theorem JE.tr {a b a1 b1 a' b' : Mem} {r : Bool} (h1 : fr4 b b1) (h2 : frJ3 a a1) (h : JE a1 b1 a' b' r) : JE a b a' b' r := ⟨fun m x y z => (h.1 m x y z).trans (h1 m x y z), fun m x y z => (h.2.1 m x y z).trans (h2 m x y z), h.2.2⟩
theorem j_fin {T : Nat → Nat} {n s g g2 i x t u S : Nat} {a b : Mem} {f : Nat × Nat} (oT : okT T) (hn : n ≤ 600) (hs : s < 4) (hi : i ≤ n) (hx : x < 600) (hC : CI a T n i) (h6 : a 143 6 = 0) (hF : FJ a f) (hf0 : f.1 = 0 → f = (0, 0)) (hL : LB b T n i f) (hN : CN s b t u S) (h : tK T n (pj T n i 0) = 0 ∨ ∃ pl, brk T n s i pl) :
    ∃ a' b' r, lX5_judge_27 (nI s) (g + 1) (nI x) a = some a' ∧ lX12_allLines_2 (nI s) (g2 + 2) true b = some (r, b') ∧ JE a b a' b' r := by
  rcases h with k0 | ⟨pl, hb⟩
  · obtain ⟨a', r1, r2, r3⟩ := c_end (s := s) oT hn hi hC k0
    have hFJ : FJ a' f := by unfold FJ; rw [r3.1 13 (by omega), r3.1 14 (by omega)]; exact hF
    refine ⟨a', b, true, ?_, m_itE (g := g2 + 1) hL.1 k0, fun _ _ _ _ => rfl, r3.2, Or.inl ⟨rfl, r2.trans h6, f, hL.2.1, hFJ, hf0⟩⟩
    rw [lX5_judge_27, if_neg (x600 hx), r1, bq]; rfl
  · obtain ⟨a', r1, r2, r3, r4⟩ := c_brk oT hn hs hi hC hb
    obtain ⟨b', q1, q2, q3⟩ := m_brk (g := g2) oT hn hs hi hL hN hb
    refine ⟨a', b', false, ?_, q1, q3, r4.2, Or.inr ⟨rfl, r2, pl, r3, q2⟩⟩
    rw [lX5_judge_27, if_neg (x600 hx), r1, bq]; rfl
theorem j_loop {T : Nat → Nat} {n s : Nat} (oT : okT T) (hn : n ≤ 600) (hs : s < 4) : ∀ k g g2 i x (a b : Mem) (f : Nat × Nat) (t u S : Nat), n - i ≤ k → k ≤ g → k ≤ g2 → i ≤ n → 2 * x ≤ i → CI a T n i → a 143 6 = 0 → FJ a f → (f.1 = 0 → f = (0, 0)) → LB b T n i f → CN s b t u S → (f.1 = 0 → JC s a b i t u S) →
    ∃ a' b' r, lX5_judge_27 (nI s) (g + 1) (nI x) a = some a' ∧ lX12_allLines_2 (nI s) (g2 + 2) true b = some (r, b') ∧ JE a b a' b' r := by
  intro k
  induction k with
  | zero =>
    intro g g2 i x a b f t u S h1 h2 h3 hi hx hC h6 hF hf0 hL hN hJ
    have hx6 : x < 600 := by omega
    rcases line3 (T := T) (n := n) (i := i) hs with k0 | hb | ⟨w, hg⟩
    · exact j_fin oT hn hs hi hx6 hC h6 hF hf0 hL hN (Or.inl k0)
    · exact j_fin oT hn hs hi hx6 hC h6 hF hf0 hL hN (Or.inr hb)
    · have := good_i hs hi hg; omega
  | succ k ih =>
    intro g g2 i x a b f t u S h1 h2 h3 hi hx hC h6 hF hf0 hL hN hJ
    have hx6 : x < 600 := by omega
    rcases line3 (T := T) (n := n) (i := i) hs with k0 | hb | ⟨w, hg⟩
    · exact j_fin oT hn hs hi hx6 hC h6 hF hf0 hL hN (Or.inl k0)
    · exact j_fin oT hn hs hi hx6 hC h6 hF hf0 hL hN (Or.inr hb)
    · have hJN : JN T n s g (g2 + 1) i x a b := by
        by_cases z : f.1 = 0
        · exact j_sA oT hn hs hi hx6 hC hF hf0 hL hN (hJ z) hg z
        · exact j_sB oT hn hs hi hx6 hC hF hL hN hg z
      clear hg hJ hN hL hf0 hF h6 hC
      obtain ⟨a2, b2', f', i', t', u', S', e1, e2, e3, e4, e5, e6, e7, e8, e9, e10, e11, e12, e13⟩ := hJN
      obtain ⟨g, rfl⟩ : ∃ m, g = m + 1 := ⟨g - 1, by omega⟩
      obtain ⟨g2, rfl⟩ : ∃ m, g2 = m + 1 := ⟨g2 - 1, by omega⟩
      obtain ⟨a', b', r, o1, o2, o3⟩ := ih g g2 i' (x + 1) a2 b2' f' t' u' S' (by omega) (by omega) (by omega) e4 (by omega) e5 e6 e7 e8 e9 e10 e11
      exact ⟨a', b', r, e1.trans o1, e2.trans o2, o3.tr e12 e13⟩
/-- a fault stays -/
theorem m_stay {T : Nat → Nat} {n s : Nat} (oT : okT T) (hn : n ≤ 600) (hs : s < 4) : ∀ k g2 i (b b' : Mem) (f : Nat × Nat) (t u S : Nat), n - i ≤ k → k ≤ g2 → i ≤ n → f.1 ≠ 0 → LB b T n i f → CN s b t u S → lX12_allLines_2 (nI s) (g2 + 2) true b = some (true, b') → FS b' f.1 f.2 := by
  intro k
  induction k with
  | zero =>
    intro g2 i b b' f t u S h1 h2 hi z hL hN he
    rcases line3 (T := T) (n := n) (i := i) hs with k0 | ⟨pl, hb⟩ | ⟨w, hg⟩
    · have e := (m_itE (g := g2 + 1) (x := nI s) hL.1 k0).symm.trans he
      have e2 : b = b' := congrArg Prod.snd (Option.some.inj e)
      rw [← e2]; exact hL.2.1
    · obtain ⟨c, q1, q2, q3⟩ := m_brk (g := g2) oT hn hs hi hL hN hb
      have e : false = true := congrArg Prod.fst (Option.some.inj (q1.symm.trans he))
      exact absurd e (by decide)
    · have := good_i hs hi hg; omega
  | succ k ih =>
    intro g2 i b b' f t u S h1 h2 hi z hL hN he
    rcases line3 (T := T) (n := n) (i := i) hs with k0 | ⟨pl, hb⟩ | ⟨w, hg⟩
    · have e := (m_itE (g := g2 + 1) (x := nI s) hL.1 k0).symm.trans he
      have e2 : b = b' := congrArg Prod.snd (Option.some.inj e)
      rw [← e2]; exact hL.2.1
    · obtain ⟨c, q1, q2, q3⟩ := m_brk (g := g2) oT hn hs hi hL hN hb
      have e : false = true := congrArg Prod.fst (Option.some.inj (q1.symm.trans he))
      exact absurd e (by decide)
    · have hi' := good_i hs hi hg
      obtain ⟨b2', m1, m2, m3, m4⟩ := m_good (g := g2 + 1) oT hn hs hi hL hN hg
      obtain ⟨t', u', S', n1, -⟩ := CN_next hs hN m3
      rw [lft_n z] at m2
      obtain ⟨i', hii⟩ : ∃ i', tE T n (pj T n i (nwd w + 1)) = i' := ⟨_, rfl⟩
      rw [hii] at m2 hi'
      obtain ⟨g2, rfl⟩ : ∃ m, g2 = m + 1 := ⟨g2 - 1, by omega⟩
      exact ih g2 i' b2' b' f t' u' S' (by omega) (by omega) hi'.2 z m2 n1 (m1.symm.trans he)
