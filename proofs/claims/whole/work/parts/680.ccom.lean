theorem nxt_b {G L : F2} {e X : Nat} (h4 : L 0 4 ≤ X) (he : 100 * e ≤ X) (hG : ∀ k, k < 10 → G 1 k ≤ X) : ∀ n, n ≤ 10 → itr (fun k m => if (L 0 6 ||| L 0 8).testBit k = true then max m (G 1 k) else m) 0 n (max (L 0 4) (100 * e)) ≤ X
  | 0, _ => by show max _ _ ≤ X; omega
  | n + 1, h => by
    have ih := nxt_b h4 he hG n (by omega)
    rw [itr_S]
    have := hG n (by omega)
    split
    · omega
    · exact ih
theorem k_next {a : Mem} {M : F2} {w X : Nat} (h : CM a M) (hw : w < 4) (hX : X ≤ 9999) (hL : okL (gW M (Wc w))) (h4 : M (Wc w) 4 ≤ X) (he : 100 * M 146 3 ≤ X) (hG : ∀ k, k < 10 → M 148 k ≤ X) : fX3_nextStamp (158 + 4 * w) a = some (nI (nxt (gG M) (gW M (Wc w)) (M 146 3)), a) := by
  have hW := h.W hw
  have g1 : ∀ k, k < 10 → a 148 k = nI (gG M 1 k) := fun k _ => h.n (c := 148) (by omega) (by omega) (by unfold vc; omega)
  have hG' : ∀ k, k < 10 → gG M 1 k ≤ X := hG
  have h4' : gW M (Wc w) 0 4 ≤ X := h4
  unfold fX3_nextStamp nxt
  have e4 : a (158 + 4 * w) 4 = nI (gW M (Wc w) 0 4) := hW.n 4 (by omega)
  rw [e4, h.e3, show (100 : Int32) = nI 100 from rfl, pk_mul, mx_n (by omega) (by omega)]
  generalize gG M = G at *
  generalize hLd : gW M (Wc w) = L at *
  have e6 : a (158 + 4 * w) 6 = nI (L 0 6) := hW.n 6 (by omega)
  have e8 : a (158 + 4 * w) 8 = nI (L 0 8) := hW.n 8 (by omega)
  have hor : L 0 6 ||| L 0 8 < 1024 := Nat.or_lt_two_pow (n := 10) hL.2.1 hL.2.2.2.1
  have hb := nxt_b (G := G) (L := L) (e := M 146 3) h4' he hG'
  refine loop_k (fun f j (q : Int32) => lX3_nextStamp_17 (158 + 4 * w) f q (nI j) a) 10 (fun j q => q = nI (itr (fun k m => if (L 0 6 ||| L 0 8).testBit k = true then max m (G 1 k) else m) 0 j (max (L 0 4) (100 * M 146 3)))) (fun r => r = (nI (itr (fun k m => if (L 0 6 ||| L 0 8).testBit k = true then max m (G 1 k) else m) 0 10 (max (L 0 4) (100 * M 146 3))), a)) (Nat.zero_le _) (by omega) (s := nI (max (L 0 4) (100 * M 146 3))) rfl ?_ ?_ ?_
  · rintro r e1 rfl
    have e1' : lX3_nextStamp_17 (158 + 4 * w) FU (nI (max (L 0 4) (100 * M 146 3))) 0 a = some _ := e1
    rw [e1', bq]
    dsimp only
    rw [nI_1]
  · rintro f q rfl
    refine ⟨_, ?_, rfl⟩
    show lX3_nextStamp_17 _ _ _ _ _ = _
    rw [lX3_nextStamp_17, if_pos (by decide)]
  · rintro f j q hj rfl
    refine ⟨_, ?_, rfl⟩
    show lX3_nextStamp_17 _ (f + 1) _ (nI j) a = lX3_nextStamp_17 _ f _ (nI (j + 1)) a
    have := hb j (by omega)
    have := hG' j hj
    rw [lX3_nextStamp_17, if_neg (by rw [li10, le_nn (by omega) (by omega)]; omega), e6, e8, nI_or, f_hasBit (by omega) (by omega), bq, itr_S]
    dsimp only
    by_cases hbj : (L 0 6 ||| L 0 8).testBit j = true
    · rw [if_pos hbj, if_pos hbj, inb_T hj (by omega), gdT, nI_ck (by omega), bq, g1 j hj, mx_n (by omega) (by omega), nI_1]
    · rw [if_neg hbj, if_neg hbj, bq, nI_1]
theorem brS_o {sp d x k : Nat} {L : F2} {q : Nat × F2} {c j : Nat} (h : ¬ (147 ≤ c ∧ c ≤ 151)) : (brS sp d x L k q).2 c j = q.2 c j := by
  unfold brS
  split
  · split
    · dsimp only; rw [up_o _ (by omega), up_o _ (by omega), up_o _ (by omega)]
    · dsimp only; rw [up_o _ (by omega), up_o _ (by omega), up_o _ (by omega), up_o _ (by omega), up_o _ (by omega)]
  · rfl
theorem brI_o {sp d x : Nat} {L : F2} {q : Nat × F2} {c j : Nat} (h : ¬ (147 ≤ c ∧ c ≤ 151)) : ∀ n, (itr (brS sp d x L) 0 n q).2 c j = q.2 c j
  | 0 => rfl
  | n + 1 => by rw [itr_S, brS_o h]; exact brI_o h n
theorem brS_v {sp d x k : Nat} {L : F2} {q : Nat × F2} {j : Nat} : (brS sp d x L k q).2 147 j = if (L 0 8).testBit k = true ∧ j = k then L 3 k else q.2 147 j := by
  unfold brS
  by_cases hb : (L 0 8).testBit k = true
  · rw [if_pos hb]
    by_cases hq : (q.2 147 k = 0 ↔ L 3 k = 0)
    · rw [if_pos hq]
      dsimp only
      rw [up_o _ (by omega), up_o _ (by omega)]
      by_cases e : j = k
      · subst e; rw [up_e, if_pos ⟨hb, rfl⟩]
      · rw [up_o _ (by omega), if_neg (fun z => e z.2)]
    · rw [if_neg hq]
      dsimp only
      rw [up_o _ (by omega), up_o _ (by omega)]
      by_cases e : j = k
      · subst e; rw [up_e, if_pos ⟨hb, rfl⟩]
      · rw [up_o _ (by omega), up_o _ (by omega), up_o _ (by omega), if_neg (fun z => e z.2)]
  · rw [if_neg hb, if_neg (fun z => hb z.1)]
theorem brI_v {sp d x : Nat} {L : F2} {q : Nat × F2} {j : Nat} : ∀ n, (itr (brS sp d x L) 0 n q).2 147 j = if (L 0 8).testBit j = true ∧ j < n then L 3 j else q.2 147 j
  | 0 => by rw [if_neg (by omega)]; rfl
  | n + 1 => by
    rw [itr_S, brS_v, brI_v n]
    by_cases e : j = n
    · subst e
      by_cases hb : (L 0 8).testBit j = true
      · rw [if_pos ⟨hb, rfl⟩, if_pos ⟨hb, by omega⟩]
      · rw [if_neg (fun z => hb z.1), if_neg (fun z => hb z.1), if_neg (fun z => hb z.1)]
    · rw [if_neg (fun z => e z.2)]
      by_cases hb : (L 0 8).testBit j = true ∧ j < n
      · rw [if_pos hb, if_pos ⟨hb.1, by omega⟩]
      · rw [if_neg hb, if_neg (fun z => hb ⟨z.1, by omega⟩)]
theorem brS_1 {sp d x k : Nat} {L : F2} {q : Nat × F2} (hq : q.1 < 1024) (hk : k < 10) : (brS sp d x L k q).1 < 1024 := by
  unfold brS
  split
  · split
    · exact hq
    · exact or_lt hq (by have := dv9 (n := k) (sp := sp) (by omega); omega)
  · exact hq
theorem brI_1 {sp d x : Nat} {L : F2} {q : Nat × F2} (hq : q.1 < 1024) : ∀ n, n ≤ 10 → (itr (brS sp d x L) 0 n q).1 < 1024
  | 0, _ => hq
  | n + 1, h => by rw [itr_S]; exact brS_1 (brI_1 hq n (by omega)) (by omega)
theorem k_bring {a : Mem} {M1 L B : F2} {s sp wk n w x : Nat} {c : Nat → Nat} (h : CX a M1 s sp wk c n B) (hw : w < 4) (h8 : M1 (Wc w) 8 = L 0 8) (h3 : ∀ k, M1 (Wc w + 3) k = L 3 k) (l8 : L 0 8 < 1024) (l3 : ∀ k, k < 10 → (L 0 8).testBit k = true → L 3 k ≤ 100) (v1 : ∀ k, k < 10 → M1 147 k ≤ 100) :
    ∃ a', fX3_bringIn (158 + 4 * w) (nI x) a = some (nI (itr (brS sp (M1 146 12) x L) 0 10 (0, M1)).1, a') ∧ CM a' (itr (brS sp (M1 146 12) x L) 0 10 (0, M1)).2 ∧ frK a a' := by
  unfold fX3_bringIn
  refine loop_k (fun f j (q : Int32 × Mem) => lX3_bringIn_5 (158 + 4 * w) (nI x) f q.1 (nI j) q.2) 10 (fun j q => q.1 = nI (itr (brS sp (M1 146 12) x L) 0 j (0, M1)).1 ∧ CM q.2 (itr (brS sp (M1 146 12) x L) 0 j (0, M1)).2 ∧ frK a q.2) (fun r => r.1 = nI (itr (brS sp (M1 146 12) x L) 0 10 (0, M1)).1 ∧ CM r.2 (itr (brS sp (M1 146 12) x L) 0 10 (0, M1)).2 ∧ frK a r.2) (Nat.zero_le _) (by omega) (s := (nI 0, a)) ⟨rfl, h.1, frK.rf⟩ ?_ ?_ ?_
  · rintro ⟨r1, r2⟩ e1 ⟨e2, e3, e4⟩
    have e1' : lX3_bringIn_5 (158 + 4 * w) (nI x) FU 0 0 a = some (r1, r2) := e1
    rw [e1', bq]
    dsimp only at e2 e3 e4 ⊢
    rw [e2]
    exact ⟨r2, rfl, e3, e4⟩
  · rintro f ⟨q1, q2⟩ ⟨e2, e3, e4⟩
    refine ⟨(q1, q2), ?_, e2, e3, e4⟩
    show lX3_bringIn_5 _ _ _ _ _ _ = _
    dsimp only
    rw [lX3_bringIn_5, if_pos (by decide)]
  · rintro f k ⟨q1, q2⟩ hk ⟨e2, e3, e4⟩
    dsimp only at e2 e3 e4
    have hX : CX q2 (itr (brS sp (M1 146 12) x L) 0 k (0, M1)).2 s sp wk c n B := h.go e3 e4 (brI_o (by omega) k) (brI_o (by omega) k)
    have d12 : (itr (brS sp (M1 146 12) x L) 0 k (0, M1)).2 146 12 = M1 146 12 := brI_o (by omega) k
    have hv : (itr (brS sp (M1 146 12) x L) 0 k (0, M1)).2 147 k = M1 147 k := by rw [brI_v, if_neg (by omega)]
    have c8 : q2 (158 + 4 * w) 8 = nI (L 0 8) := by rw [e3.wn hw (by omega), ← h8]; unfold Wc; rw [brI_o (by omega)]
    have c3 : q2 (158 + 4 * w + 3) k = vI (L 3 k) := by
      rw [← h3 k, e3.v (c := 158 + 4 * w + 3) (by omega) (by omega) (by unfold vc; omega), brI_o (by omega)]; rfl
    have c7 : q2 147 k = vI (M1 147 k) := by rw [e3.v (c := 147) (by omega) (by omega) (by unfold vc; omega), hv]
    have hG := hX.G
    have n9 := dv9 (n := k) (sp := sp) (by omega)
    have vk := v1 k hk
    have hS : itr (brS sp (M1 146 12) x L) 0 (k + 1) (0, M1) = brS sp (M1 146 12) x L k (itr (brS sp (M1 146 12) x L) 0 k (0, M1)) := itr_S _ _ _
    generalize itr (brS sp (M1 146 12) x L) 0 k (0, M1) = Q at *
    have e5 : lX3_bringIn_5 (158 + 4 * w) (nI x) (f + 1) q1 (nI k) q2 = if (L 0 8).testBit k = true then ((if q2 147 k = -1 then some true else some false : Option Bool).bind fun q35 => (if q2 (158 + 4 * w + 3) k = -1 then some true else some false : Option Bool).bind fun q38 => (if b2 q35 = b2 q38 then some (q1, q2) else some (q1 ||| nI (2 ^ (k / sp)), st2 (st2 q2 149 (k / sp) (q2 149 (k / sp) + 1)) 151 (k / sp) (nI (M1 146 12))) : Option (Int32 × Mem)).bind fun q49 => lX3_bringIn_5 (158 + 4 * w) (nI x) f q49.1 (nI (k + 1)) (st2 (st2 (st2 q49.2 147 k (q49.2 (158 + 4 * w + 3) k)) 148 k (nI x)) 150 k ((st2 (st2 q49.2 147 k (q49.2 (158 + 4 * w + 3) k)) 148 k (nI x)) 146 12))) else lX3_bringIn_5 (158 + 4 * w) (nI x) f q1 (nI (k + 1)) q2 := by
      have hG2 : ∀ v, GX (st2 q2 149 (k / sp) (nI v)) (up (gG Q.2) 2 (k / sp) v) s sp := fun v => by
        obtain ⟨g1, g2, g3, g4, g5⟩ := hG
        refine ⟨fun j hj => by rw [st2_o _ _ (by omega), up_o _ (by omega)]; exact g1 j hj, fun j hj => by rw [st2_o _ _ (by omega), up_o _ (by omega)]; exact g2 j hj, fun j hj => ?_, by rw [st2_o _ _ (by omega)]; exact g4, by rw [st2_o _ _ (by have := h.2.1.1; omega)]; exact g5⟩
        by_cases e : j = k / sp
        · subst e; rw [st2_eq, up_e]
        · rw [st2_o _ _ (by omega), up_o _ (by omega)]; exact g3 j hj
      rw [lX3_bringIn_5, if_neg (by rw [li10, le_nn (by omega) (by omega)]; omega), c8, f_hasBit (by omega) (by omega), bq, nI_1]
      dsimp only
      by_cases hb : (L 0 8).testBit k = true
      · rw [if_pos hb, if_pos hb, inb_T hk (by omega), nI_ck (by omega)]
        simp only [gdT]
        rw [Option.bind_assoc]
        congr 1
        funext q35
        rw [Option.bind_assoc]
        congr 1
        funext q38
        rw [c_nodeOf hG hX.X (by omega), bq]
        dsimp only
        rw [c_nodeOf hG hX.X (by omega), bq, inb_T (show k / sp < 10 by omega) (by omega), nI_ck (show k / sp < 2147483648 by omega)]
        simp only [gdT]
        rw [hG.2.2.1 _ (by omega), nI_1, c_nodeOf (hG2 _) hX.X (by omega), bq]
        dsimp only
        rw [inb_T (show k / sp < 10 by omega) (by omega), nI_ck (show k / sp < 2147483648 by omega), gdT, sh1 (by omega), st2_o _ _ (show ¬ (146 = 149 ∧ 12 = k / sp) by omega), e3.e3, d12]
        by_cases hq : b2 q35 = b2 q38
        · simp only [if_pos hq]; rfl
        · simp only [if_neg hq]; rfl
      · rw [if_neg hb, if_neg hb, bq]
    by_cases hb : (L 0 8).testBit k = true
    · have lk3 := l3 k hk hb
      have x1 : (if q2 147 k = -1 then some true else some false : Option Bool) = some (decide (Q.2 147 k = 0)) := by
        rw [hv]
        by_cases z : M1 147 k = 0
        · rw [if_pos (by rw [c7, z]; rfl), decide_eq_true z]
        · rw [if_neg (by rw [c7, v0, eq_vv (by omega) (by omega)]; exact z), decide_eq_false z]
      have x2 : (if q2 (158 + 4 * w + 3) k = -1 then some true else some false : Option Bool) = some (decide (L 3 k = 0)) := by
        by_cases z : L 3 k = 0
        · rw [if_pos (by rw [c3, z]; rfl), decide_eq_true z]
        · rw [if_neg (by rw [c3, v0, eq_vv (by omega) (by omega)]; exact z), decide_eq_false z]
      rw [if_pos hb, x1, bq, x2, bq] at e5
      have xb : (b2 (decide (Q.2 147 k = 0)) = b2 (decide (L 3 k = 0))) ↔ (Q.2 147 k = 0 ↔ L 3 k = 0) := by
        by_cases z1 : Q.2 147 k = 0
        · by_cases z2 : L 3 k = 0
          · simp [z1, z2]
          · simp [z1, z2]; decide
        · by_cases z2 : L 3 k = 0
          · simp [z1, z2]; decide
          · simp [z1, z2]
      by_cases hq : (Q.2 147 k = 0 ↔ L 3 k = 0)
      · refine ⟨(q1, st2 (st2 (st2 q2 147 k (vI (L 3 k))) 148 k (nI x)) 150 k (vI (M1 146 12 + 1))), ?_, ?_, ?_, e4.tr (((frK.st (by omega)).tr (frK.st (by omega))).tr (frK.st (by omega)))⟩
        · show lX3_bringIn_5 _ _ _ _ _ _ = lX3_bringIn_5 _ _ _ _ _ _
          rw [e5, if_pos (xb.mpr hq), bq]
          dsimp only
          rw [c3, st2_o _ _ (show ¬ (146 = 148 ∧ 12 = k) by omega), st2_o _ _ (show ¬ (146 = 147 ∧ 12 = k) by omega), e3.e3, d12]
          rfl
        · rw [hS]; unfold brS; rw [if_pos hb, if_pos hq]; exact e2
        · rw [hS]; unfold brS; rw [if_pos hb, if_pos hq]
          exact ((e3.stv (by unfold vc; omega)).stn (by unfold vc; omega)).stv (by unfold vc; omega)
      · refine ⟨(nI (Q.1 ||| 2 ^ (k / sp)), st2 (st2 (st2 (st2 (st2 q2 149 (k / sp) (nI (Q.2 149 (k / sp) + 1))) 151 (k / sp) (vI (M1 146 12 + 1))) 147 k (vI (L 3 k))) 148 k (nI x)) 150 k (vI (M1 146 12 + 1))), ?_, ?_, ?_, e4.tr (((((frK.st (by omega)).tr (frK.st (by omega))).tr (frK.st (by omega))).tr (frK.st (by omega))).tr (frK.st (by omega)))⟩
        · show lX3_bringIn_5 _ _ _ _ _ _ = lX3_bringIn_5 _ _ _ _ _ _
          rw [e5, if_neg (fun z => hq (xb.mp z)), bq]
          dsimp only
          have z9 : q2 149 (k / sp) = nI (Q.2 149 (k / sp)) := e3.n (c := 149) (by omega) (by omega) (by unfold vc; omega)
          rw [z9, nI_1, e2, nI_or, st2_o _ _ (show ¬ (158 + 4 * w + 3 = 151 ∧ k = k / sp) by omega), st2_o _ _ (show ¬ (158 + 4 * w + 3 = 149 ∧ k = k / sp) by omega), c3, st2_o _ _ (show ¬ (146 = 148 ∧ 12 = k) by omega), st2_o _ _ (show ¬ (146 = 147 ∧ 12 = k) by omega), st2_o _ _ (show ¬ (146 = 151 ∧ 12 = k / sp) by omega), st2_o _ _ (show ¬ (146 = 149 ∧ 12 = k / sp) by omega), e3.e3, d12]
          rfl
        · rw [hS]; unfold brS; rw [if_pos hb, if_neg hq]
        · rw [hS]; unfold brS; rw [if_pos hb, if_neg hq]
          exact ((((e3.stn (by unfold vc; omega)).stv (by unfold vc; omega)).stv (by unfold vc; omega)).stn (by unfold vc; omega)).stv (by unfold vc; omega)
    · rw [if_neg hb] at e5
      refine ⟨(q1, q2), e5, ?_, ?_, e4⟩
      · rw [hS]; unfold brS; rw [if_neg hb]; exact e2
      · rw [hS]; unfold brS; rw [if_neg hb]; exact e3
