/-! ===== fits: diaries ===== -/
/-- flushed by a set -/
def flN (f m : Nat) (M : F2) : F2 := itr (fun w Y => if f.testBit w = true then flM w Y else Y) 0 m M
theorem flN_S {f m : Nat} {M : F2} : flN f (m + 1) M = if f.testBit m = true then flM m (flN f m M) else flN f m M := itr_S _ _ _
theorem flN_o {f : Nat} {M : F2} {x j : Nat} (h1 : ¬ (158 ≤ x ∧ x < 174 ∧ j = 5)) (h2 : ¬ (174 ≤ x ∧ x % 2 = 0 ∧ j = 8)) : ∀ m, m ≤ 4 → flN f m M x j = M x j
  | 0, _ => rfl
  | m + 1, h => by
    rw [flN_S]
    split
    · rw [flM_o (by unfold Wc; omega) h2]; exact flN_o h1 h2 m (by omega)
    · exact flN_o h1 h2 m (by omega)
theorem flN_5 {f w : Nat} {M : F2} (hw : w < 4) : ∀ m, m ≤ 4 → flN f m M (Wc w) 5 = if w < m ∧ f.testBit w = true then M 146 3 - 1 else M (Wc w) 5
  | 0, _ => by rw [if_neg (fun z => absurd z.1 (by omega))]; rfl
  | m + 1, h => by
    have ih := flN_5 (f := f) (M := M) hw m (by omega)
    have e3 := flN_o (f := f) (M := M) (x := 146) (j := 3) (by omega) (by omega) m (by omega)
    rw [flN_S]
    by_cases e : w = m
    · by_cases z : f.testBit m = true
      · rw [if_pos z, e, if_pos ⟨by omega, z⟩]; unfold flM; rw [up_e, e3]
      · rw [if_neg z, ih, if_neg (fun y => absurd y.1 (by omega)), if_neg (fun y => z (by rw [← e]; exact y.2))]
    · have hc : (w < m + 1 ∧ f.testBit w = true) ↔ (w < m ∧ f.testBit w = true) := ⟨fun y => ⟨by have := y.1; omega, y.2⟩, fun y => ⟨by have := y.1; omega, y.2⟩⟩
      rw [ifc hc, ← ih]
      split
      · exact flM_o (by unfold Wc; omega) (by unfold Wc; omega)
      · rfl
theorem flN_8 {f i : Nat} {M : F2} (hi : i < M 146 11) : ∀ m, m ≤ 4 → flN f m M (174 + 2 * i) 8 = if M (174 + 2 * i) 0 < m ∧ f.testBit (M (174 + 2 * i) 0) = true then 1 else M (174 + 2 * i) 8
  | 0, _ => by rw [if_neg (fun z => absurd z.1 (by omega))]; rfl
  | m + 1, h => by
    have ih := flN_8 (f := f) (M := M) hi m (by omega)
    have e11 := flN_o (f := f) (M := M) (x := 146) (j := 11) (by omega) (by omega) m (by omega)
    have e0 := flN_o (f := f) (M := M) (x := 174 + 2 * i) (j := 0) (by omega) (by omega) m (by omega)
    rw [flN_S]
    by_cases z : f.testBit m = true
    · rw [if_pos z, flM_8 (by rw [e11]; exact hi), e0, ih]
      by_cases e : M (174 + 2 * i) 0 = m
      · rw [if_pos e, if_pos ⟨by omega, by rw [e]; exact z⟩]
      · rw [if_neg e]
        exact ifc ⟨fun y => ⟨by have := y.1; omega, y.2⟩, fun y => ⟨by have := y.1; omega, y.2⟩⟩
    · rw [if_neg z, ih]
      refine ifc ⟨fun y => ⟨by have := y.1; omega, y.2⟩, fun y => ⟨?_, y.2⟩⟩
      have y1 := y.1
      have : M (174 + 2 * i) 0 ≠ m := fun e => z (by rw [← e]; exact y.2)
      omega
theorem flN_ok {sp nw D f : Nat} {B M : F2} (ok : okM sp nw D B M) : ∀ m, m ≤ nw → okM sp nw D B (flN f m M)
  | 0, _ => ok
  | m + 1, h => by
    rw [flN_S]
    split
    · exact (flN_ok ok m (by omega)).fl (by omega)
    · exact flN_ok ok m (by omega)
theorem flN_rcv {sp nw D f : Nat} {B M : F2} {c : Nat → Nat} (ok : okM sp nw D B M) (hf : f < 2 ^ nw) : rcv 0 c (flN f nw M) = rcv f c M := by
  obtain ⟨o1, o2, o3⟩ := ok.1
  have o : ∀ x j, ¬ (158 ≤ x ∧ x < 174 ∧ j = 5) → ¬ (174 ≤ x ∧ x % 2 = 0 ∧ j = 8) → flN f nw M x j = M x j := fun x j h1 h2 => flN_o h1 h2 nw o2
  have ed : dur 0 (flN f nw M) = dur f M := by
    unfold dur
    rw [o 146 2 (by omega) (by omega), o3]
    refine itr_cgX _ (fun w hw y => ?_)
    rw [if_neg (by rw [Nat.zero_testBit]; decide), flN_5 (by omega) nw o2]
    congr 1
    exact ifc ⟨fun z => z.2, fun z => ⟨hw, z⟩⟩
  refine rcv_cg (o _ _ (by omega) (by omega)) (o _ _ (by omega) (by omega)) ed (fun i hi => ⟨o _ _ (by omega) (by omega), o _ _ (by omega) (by omega), o _ _ (by omega) (by omega), fun k hk => o _ _ (by omega) (by omega)⟩) (fun i hi => ?_)
  unfold srv
  have l0 := (ok.2.2.2.2.2.1 i hi).1
  rw [o _ 9 (by omega) (by omega), o _ 2 (by omega) (by omega), flN_8 hi nw o2, Nat.zero_testBit, Bool.or_false]
  congr 2
  by_cases z : f.testBit (M (174 + 2 * i) 0) = true
  · rw [if_pos ⟨l0, z⟩, z, Bool.or_true]; rfl
  · rw [if_neg (fun y => z y.2), Bool.eq_false_iff.mpr z, Bool.or_false]
/-- the reference's cells do not know the deed's number -/
theorem m_flushN {pl : Prop} {b : Mem} {M B : F2} {sp nw D w : Nat} (h : MN pl b M sp) (ok : okM sp nw D B M) (hw : w < 4) : ∃ b', fX12_flushes (nI w) b = some b' ∧ MN pl b' (flM w M) sp ∧ frO b b' := by
  have l30 := ok.l30
  obtain ⟨g1, ⟨s1, s2, s3, s4, s5, s6, s7, s8⟩, g3, g4, g5, g6, g7⟩ := h
  obtain ⟨b', e1, e2, e3, e4, e5⟩ := m_flush hw l30 ok.2.1.1 s3 s2 g5 (fun i hi => by have := (ok.2.2.2.2.2.1 i hi).1; have := ok.1; omega)
  have eo : ∀ x j, ¬ (x = Wc w ∧ j = 5) → ¬ (174 ≤ x ∧ x % 2 = 0 ∧ j = 8) → flM w M x j = M x j := fun x j h3 h4 => flM_o h3 h4
  have d5 : flM w M (Wc w) 5 = M 146 3 - 1 := by unfold flM; rw [up_e]
  have d8 : ∀ i, i < M 146 11 → flM w M (174 + 2 * i) 8 = if M (174 + 2 * i) 0 = w then 1 else M (174 + 2 * i) 8 := fun i hi => flM_8 hi
  have eN : ∀ j, flM w M 146 j = M 146 j := fun j => eo _ _ (by unfold Wc; omega) (by omega)
  generalize flM w M = N at *
  have eg : gG N = gG M := by
    funext f k; unfold gG; split
    · exact eo _ _ (by unfold Wc; omega) (by omega)
    · rfl
  refine ⟨b', e1, ⟨?_, ⟨by rw [e4 269 (by omega) (by omega), eN]; exact s1, by rw [e4 269 (by omega) (by omega), eN]; exact s2, by rw [e4 269 (by omega) (by omega), eN]; exact s3, by rw [e4 269 (by omega) (by omega), eN]; exact s4, ?_, by rw [e4 269 (by omega) (by omega), eN]; exact s6, by rw [e4 269 (by omega) (by omega), eN]; exact s7, by rw [e4 269 (by omega) (by omega), eN]; exact s8⟩, fun hp k hk => ?_, fun v hv => ?_, fun i hi => ?_, fun t ht => ?_, fun k hk => ?_⟩, ⟨fun j _ => by rw [e4 269 (by omega) (by omega)], fun m hm => e4 m (by omega) (by omega)⟩⟩
  · rw [eg]
    unfold MG
    rw [e4 269 (by omega) (by omega), e4 281 (by omega) (by omega), e4 282 (by omega) (by omega), e4 283 (by omega) (by omega)]
    exact g1
  · rw [e4 269 (by omega) (by omega)]
    have : nRef N = nRef M := by unfold nRef; rw [eN]; exact sm_cg _ (fun d hd => by rw [eo _ _ (by unfold Wc; omega) (by omega)])
    rw [this]; exact s5
  · rw [e4 284 (by omega) (by omega), e4 285 (by omega) (by omega), eo _ _ (by unfold Wc; omega) (by omega), eo _ _ (by unfold Wc; omega) (by omega)]; exact g3 hp k hk
  · obtain ⟨k1, k2, k3, k4, k5, k6⟩ := g4 v hv
    have en : ∀ f j, ¬ (v = w ∧ f = 0 ∧ j = 5) → gW N (Wc v) f j = gW M (Wc v) f j := fun f j hh => by
      unfold gW; split
      · exact eo _ _ (by unfold Wc; omega) (by unfold Wc; omega)
      · rfl
    refine ⟨by rw [e4 286 (by omega) (by omega), en 0 0 (by omega)]; exact k1, by rw [e4 287 (by omega) (by omega), en 0 2 (by omega)]; exact k2, by rw [e4 288 (by omega) (by omega), en 0 3 (by omega)]; exact k3, by rw [e4 290 (by omega) (by omega), en 0 4 (by omega)]; exact k4, ?_, fun z => ?_⟩
    · by_cases e : v = w
      · subst e
        rw [e2]
        show nI (M 146 3 - 1) = nI (N (Wc v) 5)
        rw [d5]
      · rw [e5 v e, en 0 5 (by omega)]; exact k5
    · rw [en 0 0 (by omega)] at z
      refine ⟨by rw [e4 289 (by omega) (by omega), en 0 1 (by omega)]; exact (k6 z).1, ?_⟩
      obtain ⟨m1, m2, m3, m4⟩ := (k6 z).2
      refine ⟨by rw [e4 288 (by omega) (by omega), en 0 3 (by omega)]; exact m1, fun k hk => ?_, fun k hk => ?_, fun k hk => ?_⟩
      · rw [e4 292 (by omega) (by omega), m2 k hk]; unfold cR; rw [en 0 6 (by omega), en 1 k (by omega)]
      · rw [e4 293 (by omega) (by omega), m3 k hk]; unfold cG; rw [en 0 7 (by omega), en 2 k (by omega)]
      · rw [e4 294 (by omega) (by omega), m4 k hk]; unfold cV; rw [en 0 8 (by omega), en 3 k (by omega)]
  · rw [eN] at hi
    obtain ⟨y1, y2, y3, y4, y5, y6, y7, y8, y9⟩ := g5 i hi
    have x : ∀ j, j ≠ 8 → N (174 + 2 * i) j = M (174 + 2 * i) j := fun j hj => eo _ _ (by unfold Wc; omega) (by omega)
    refine ⟨?_, by rw [e4 296 (by omega) (by omega), x 1 (by omega)]; exact y2, by rw [e4 297 (by omega) (by omega), x 2 (by omega)]; exact y3, by rw [e4 298 (by omega) (by omega), x 3 (by omega)]; exact y4, fun z => ?_, by rw [e4 300 (by omega) (by omega), x 4 (by omega)]; exact y6, by rw [e4 301 (by omega) (by omega), x 5 (by omega)]; exact y7, by rw [e4 302 (by omega) (by omega), x 7 (by omega)]; exact y8, fun k hk => ?_⟩
    · rw [e4 295 (by omega) (by omega), y1]; unfold lcW; rw [x 9 (by omega), x 0 (by omega)]
    · rw [x 9 (by omega)] at z
      rw [e3 i hi z, d8 i hi]
    · rw [e4 303 (by omega) (by omega), y9 k hk]; unfold lcV; rw [x 6 (by omega), eo _ _ (by unfold Wc; omega) (by omega)]
  · rw [e4 304 (by omega) (by omega), nOft_cg (eN _) (fun i hi => eo _ _ (by unfold Wc; omega) (by omega))]; exact g6 t ht
  · rw [e4 305 (by omega) (by omega)]
    have : nHot N k = nHot M k := by unfold nHot; rw [eN]; exact sm_cg _ (fun d hd => by rw [eo _ _ (by unfold Wc; omega) (by omega), eo _ _ (by unfold Wc; omega) (by omega)])
    rw [this]; exact g7 k hk
theorem frP.O {b b' : Mem} (h : frP b b') : frO b b' := ⟨fun j hj => h.1 j (by omega), fun m hm => h.2 m (by omega) (by omega) (by omega) (by omega) (by omega) (by omega) (by omega) (by omega) (by omega) (by omega) (by omega) (by omega) (by omega)⟩
/-- a schedule played anew, a set flushed, a crash: the keys -/
theorem m_playFlushed {b : Mem} {X B P : F2} {s sp wk n p f : Nat} {c : Nat → Nat} (hH : HD b s sp wk c n B) (hs : s < 2) (hn : n < 2) (os : okS sp wk c) (gB : okB B) (gP : okP P) (ok : okM sp wk 0 B X) (e : X 146 12 = 0) (hBP : ∀ b2 : Mem, BP b2 c sp → b2 269 26 = nI wk → MN True b2 X sp) (hp : p < 2) (e69 : b 269 69 = nI p) (hP : MPl (fun i => b 277 (121 * p + i)) P) (hf : f < 2 ^ wk) :
    ∃ b' G, fX12_playFlushed (nI f) b = some b' ∧ MG b' G sp ∧ (∀ k, k < 10 → G 0 k = rcv f c (rnP sp B c P (P 0 0) X) 0 k) ∧ frO b b' := by
  have f16 : f < 16 := Nat.lt_of_lt_of_le hf ((Nat.pow_le_pow_right (by decide) os.2.1.2 : 2 ^ wk ≤ 2 ^ 4))
  unfold fX12_playFlushed
  obtain ⟨b1, q1, q2, q3⟩ := m_beginPlan hs hH.1 hH.2.2.1
  have fr1 := q3.O
  have hH1 := hH.O fr1
  rw [q1, bq, m_deeds hp (by rw [fr1.1 69 (by omega)]; exact e69) (by rw [fr1.2 277 (by omega)]; exact hP), bq]
  dsimp only
  obtain ⟨b2, d1, d2, d3, -⟩ := m_play (m := P 0 0) (hBP b1 q2 hH1.2.2.2.1) hH1 hs hn os gB gP ok e hp (by rw [fr1.1 69 (by omega)]; exact e69) (by rw [fr1.2 277 (by omega)]; exact hP) (Nat.le_refl _)
  rw [d1, bq]
  dsimp only
  have okR := (rn_ok (c := c) gB gP os.2.2 ok e (P 0 0) gP.1).1
  generalize rnP sp B c P (P 0 0) X = Y at *
  obtain ⟨o1, o2, o3⟩ := okR.1
  have lp : ∃ b3, lX12_playFlushed_15 (nI f) FU 0 b2 = some b3 ∧ MN True b3 (flN f wk Y) sp ∧ frO b2 b3 := by
    refine loop_k (fun g w (q : Mem) => lX12_playFlushed_15 (nI f) g (nI w) q) wk (fun w q => MN True q (flN f w Y) sp ∧ frO b2 q) (fun q => MN True q (flN f wk Y) sp ∧ frO b2 q) (Nat.zero_le _) (by omega) (s := b2) ⟨d2, frO.rf⟩ ?_ ?_ ?_
    · intro r e1 e2; exact ⟨r, e1, e2⟩
    · rintro g q ⟨h1, h2⟩
      refine ⟨q, ?_, h1, h2⟩
      show lX12_playFlushed_15 _ _ _ _ = _
      rw [lX12_playFlushed_15, if_pos (by rw [h2.1 26 (by omega), d3.1 26 (by omega), hH1.2.2.2.1, le_nn (by omega) (by omega)]; omega)]
    · rintro g w q hw ⟨h1, h2⟩
      have hc : lX12_playFlushed_15 (nI f) (g + 1) (nI w) q = ((if f.testBit w = true then ((fX12_flushes (nI w) q).bind fun q13 => some q13) else (some q) : Option Mem)).bind fun q15 => lX12_playFlushed_15 (nI f) g (nI (w + 1)) q15 := by
        rw [lX12_playFlushed_15, if_neg (by rw [h2.1 26 (by omega), d3.1 26 (by omega), hH1.2.2.2.1, le_nn (by omega) (by omega)]; omega), f_has (by omega) (by omega), bq, nI_1]
      rw [flN_S]
      by_cases z : f.testBit w = true
      · obtain ⟨q', t1, t2, t3⟩ := m_flushN (w := w) h1 (flN_ok (f := f) okR w (by omega)) (by omega)
        refine ⟨q', ?_, by rw [if_pos z]; exact t2, h2.tr t3⟩
        show lX12_playFlushed_15 _ _ _ _ = lX12_playFlushed_15 _ _ _ _
        rw [hc, if_pos z, t1, bq, bq]
      · refine ⟨q, ?_, by rw [if_neg z]; exact h1, h2⟩
        show lX12_playFlushed_15 _ _ _ _ = lX12_playFlushed_15 _ _ _ _
        rw [hc, if_neg z, bq]
  obtain ⟨b3, l1, l2, l3⟩ := lp
  rw [l1, bq]
  have okF := flN_ok (f := f) okR wk (Nat.le_refl _)
  have e12 : flN f wk Y 146 12 = Y 146 12 := flN_o (by omega) (by omega) wk o2
  rw [← e12] at okF
  obtain ⟨b4, t1, t2, t3, t4⟩ := m_crashD (wv := 0) (tv := 0) l2 ((hH1.O d3).O l3) hs okF
  rw [t1, bq]
  refine ⟨b4, _, rfl, t2.1, fun k hk => ?_, ((fr1.tr d3).tr l3).tr t3⟩
  rw [← flN_rcv (c := c) okR hf]
  exact t4 k hk
/-! agreeing -/
def agr (D : F2) (r : Nat → Nat) : Bool := decide (fnd (fun i => decide (r (D 1 i) ≠ D 2 i)) 0 (D 0 0) = 0)
theorem fnd_cg {p q : Nat → Bool} : ∀ n, (∀ i, i < n → p i = q i) → fnd p 0 n = fnd q 0 n
  | 0, _ => rfl
  | n + 1, h => by unfold fnd; rw [fnd_cg n (fun i hi => h i (by omega)), Nat.zero_add, h n (by omega)]
theorem agr_cg {D : F2} {r t : Nat → Nat} (gD : okD D) (h : ∀ k, k < 10 → r k = t k) : agr D r = agr D t := by
  unfold agr; rw [fnd_cg _ (fun i _ => by rw [h _ (by have := (gD.2 i).1; omega)])]
theorem c_agrees {a : Mem} {n0 n1 : Nat} {D : F2} {r : Nat → Nat} (gD : okD D) (hD : CDi (a n0) (a (n0 + 1)) (a (n0 + 2)) D) (hr : RW a n1 r) (h1 : ∀ k, k < 10 → r k ≤ 100) : fX1_agrees n0 n1 a = some (agr D r, a) := by
  have g1 := gD.1
  unfold fX1_agrees
  refine loop_x (fun f j (q : Mem) => lX1_agrees_2 n0 n1 f (nI j) q) (D 0 0) (fun j q => q = a ∧ ∀ i, i < j → ¬ decide (r (D 1 i) ≠ D 2 i) = true) (fun x => (agr D r = true ∧ x = .inr a) ∨ (agr D r = false ∧ x = .inl (false, a))) (Nat.zero_le _) (by omega) (s := a) ⟨rfl, fun i hi => absurd hi (by omega)⟩ ?_ ?_ ?_
  · intro x e1 e2
    have e1' : lX1_agrees_2 n0 n1 FU 0 a = some x := e1
    rw [e1', bq]
    rcases e2 with ⟨z, rfl⟩ | ⟨z, rfl⟩
    · rw [z]; rfl
    · rw [z]; rfl
  · rintro f q ⟨rfl, h⟩
    refine ⟨.inr q, ?_, Or.inl ⟨decide_eq_true (fnd_no _ h), rfl⟩⟩
    show lX1_agrees_2 _ _ _ _ _ = _
    rw [lX1_agrees_2, hD.1, if_pos (by rw [le_nn (by omega) (by omega)]; omega)]
  · rintro f j q hj ⟨rfl, h⟩
    obtain ⟨d1, d2⟩ := gD.2 j
    obtain ⟨e1, e2⟩ := hD.2 j hj
    have b1 := h1 (D 1 j) (by omega)
    have hc : lX1_agrees_2 n0 n1 (f + 1) (nI j) q = if vI (r (D 1 j)) = vI (D 2 j) then lX1_agrees_2 n0 n1 f (nI (j + 1)) q else some (.inl (false, q)) := by
      rw [lX1_agrees_2, hD.1, if_neg (by rw [le_nn (by omega) (by omega)]; omega), inb_T (show j < 8 by omega) (by omega), nI_ck (by omega), e1, inb_T (show D 1 j < 10 by omega) (by omega), nI_ck (by omega), hr _ (by omega), e2, nI_1]
      rfl
    by_cases z : r (D 1 j) = D 2 j
    · left
      refine ⟨q, ?_, rfl, fun i hi => ?_⟩
      · show lX1_agrees_2 _ _ _ _ _ = lX1_agrees_2 _ _ _ _ _
        rw [hc, if_pos (by rw [z])]
      · by_cases e : i = j
        · rw [e]; simp [z]
        · exact h i (by omega)
    · right
      refine ⟨.inl (false, q), ?_, Or.inr ⟨?_, rfl⟩⟩
      · show lX1_agrees_2 _ _ _ _ _ = _
        rw [hc, if_neg (by rw [eq_vv (by omega) (by omega)]; exact z)]
      · unfold agr; rw [fnd_yes (m := j) (decide_eq_true z) h _ hj]; rfl
theorem m_facts {b : Mem} {D : F2} {y k : Nat} (hy : y < 2) (gD : okD D) (e76 : b 269 76 = nI y) (hD : MDi (fun i => b 278 (17 * y + i)) D) : fX12_facts b = some (nI (D 0 0), b) ∧ (k < D 0 0 → fX12_factOf (nI k) 0 b = some (nI (D 1 k), b) ∧ fX12_factOf (nI k) 1 b = some (vI (D 2 k), b)) := by
  have g := gD.1
  refine ⟨?_, fun hk => ?_⟩
  · unfold fX12_facts
    rw [e76, show (17 : Int32) = nI 17 from rfl, pk_mul, inb_T (by omega) (by omega), gdT, nI_ck (by omega)]
    have := hD.1
    dsimp only at this
    rw [Nat.add_zero] at this
    rw [this]
  · obtain ⟨h1, h2⟩ := hD.2 k hk
    dsimp only at h1 h2
    have go : ∀ u, u < 2 → fX12_factOf (nI k) (nI u) b = some (b 278 (17 * y + (1 + u + 2 * k)), b) := fun u hu => by
      unfold fX12_factOf
      rw [e76, show (17 : Int32) = nI 17 from rfl, show (2 : Int32) = nI 2 from rfl, show (1 : Int32) = nI 1 from rfl, pk_mul, pk_mul, nI_add, nI_add, nI_add, inb_T (by omega) (by omega), gdT, nI_ck (by omega), show 17 * y + 1 + 2 * k + u = 17 * y + (1 + u + 2 * k) by omega]
    refine ⟨?_, ?_⟩
    · have := go 0 (by omega); rw [h1] at this; exact this
    · have := go 1 (by omega); rw [h2] at this; exact this
theorem m_isSo {b : Mem} {D G : F2} {y sp : Nat} (hy : y < 2) (gD : okD D) (e76 : b 269 76 = nI y) (hD : MDi (fun i => b 278 (17 * y + i)) D) (hG : MG b G sp) (h1 : ∀ k, k < 10 → G 0 k ≤ 100) : fX12_isSo b = some (agr D (G 0), b) := by
  have g1 := gD.1
  have hF := fun k => m_facts (k := k) hy gD e76 hD
  unfold fX12_isSo
  refine loop_x (fun f j (q : Mem) => lX12_isSo_2 f (nI j) q) (D 0 0) (fun j q => q = b ∧ ∀ i, i < j → ¬ decide (G 0 (D 1 i) ≠ D 2 i) = true) (fun x => (agr D (G 0) = true ∧ x = .inr b) ∨ (agr D (G 0) = false ∧ x = .inl (false, b))) (Nat.zero_le _) (by omega) (s := b) ⟨rfl, fun i hi => absurd hi (by omega)⟩ ?_ ?_ ?_
  · intro x e1 e2
    have e1' : lX12_isSo_2 FU 0 b = some x := e1
    rw [e1', bq]
    rcases e2 with ⟨z, rfl⟩ | ⟨z, rfl⟩
    · rw [z]; rfl
    · rw [z]; rfl
  · rintro f q ⟨rfl, h⟩
    refine ⟨.inr q, ?_, Or.inl ⟨decide_eq_true (fnd_no _ h), rfl⟩⟩
    show lX12_isSo_2 _ _ _ = _
    rw [lX12_isSo_2, (hF 0).1, bq]
    dsimp only
    rw [if_pos (by rw [le_nn (by omega) (by omega)]; omega)]
  · rintro f j q hj ⟨rfl, h⟩
    obtain ⟨d1, d2⟩ := gD.2 j
    obtain ⟨e1, e2⟩ := (hF j).2 hj
    have b1 := h1 (D 1 j) (by omega)
    have hc : lX12_isSo_2 (f + 1) (nI j) q = if vI (G 0 (D 1 j)) = vI (D 2 j) then lX12_isSo_2 f (nI (j + 1)) q else some (.inl (false, q)) := by
      rw [lX12_isSo_2, (hF j).1, bq]
      dsimp only
      rw [if_neg (by rw [le_nn (by omega) (by omega)]; omega), e1, bq]
      dsimp only
      rw [m_valueNow hG (by omega), bq]
      dsimp only
      rw [e2, bq, nI_1]
    by_cases z : G 0 (D 1 j) = D 2 j
    · left
      refine ⟨q, ?_, rfl, fun i hi => ?_⟩
      · show lX12_isSo_2 _ _ _ = lX12_isSo_2 _ _ _
        rw [hc, if_pos (by rw [z])]
      · by_cases e : i = j
        · rw [e]; simp [z]
        · exact h i (by omega)
    · right
      refine ⟨.inl (false, q), ?_, Or.inr ⟨?_, rfl⟩⟩
      · show lX12_isSo_2 _ _ _ = _
        rw [hc, if_neg (by rw [eq_vv (by omega) (by omega)]; exact z)]
      · unfold agr; rw [fnd_yes (m := j) (decide_eq_true z) h _ hj]; rfl
