/-! ===== the engine's deeds ===== -/
def KO (m : Option Mem) (a : Mem) (M : F2) : Prop := ∃ a', m = some a' ∧ CM a' M ∧ frK a a'
theorem KO.rf {a : Mem} {M : F2} (h : CM a M) : KO (some a) a M := ⟨a, rfl, h, frK.rf⟩
theorem KO.bind {a : Mem} {M M' : F2} {m : Option Mem} {f : Mem → Option Mem} (h : KO m a M) (h2 : ∀ a', CM a' M → frK a a' → KO (f a') a' M') : KO (m.bind f) a M' := by
  obtain ⟨a1, rfl, h3, h4⟩ := h
  obtain ⟨a2, e, h5, h6⟩ := h2 a1 h3 h4
  exact ⟨a2, e, h5, h4.tr h6⟩
theorem WO.K {m : Option Mem} {w : Nat} {a : Mem} {M L : F2} (hw : w < 4) (h : CM a M) (h1 : WO m (Wc w) a L) : KO m a (pt M (Wc w) L) := by
  obtain ⟨a', e, h2, h3⟩ := h1
  exact ⟨a', e, h.ptW hw h2 h3, frW.K hw h3⟩
theorem CX.B {a : Mem} {M B : F2} {s sp wk n : Nat} {c : Nat → Nat} (h : CX a M s sp wk c n B) : BX a B n := ⟨by rw [h.1.e3, h.2.2.2], h.2.1.2.2.2.2.2⟩
theorem CX.G {a : Mem} {M B : F2} {s sp wk n : Nat} {c : Nat → Nat} (h : CX a M s sp wk c n B) : GX a (gG M) s sp := h.1.G h.2.2.1 h.2.1.2.2.2.2.1.1
theorem CX.X {a : Mem} {M B : F2} {s sp wk n : Nat} {c : Nat → Nat} (h : CX a M s sp wk c n B) : okX s sp := ⟨h.2.1.1, h.2.1.2.2.1.1.1, h.2.1.2.2.1.1.2⟩
theorem CX.go {a a' : Mem} {M M' B : F2} {s sp wk n : Nat} {c : Nat → Nat} (h : CX a M s sp wk c n B) (h1 : CM a' M') (h2 : frK a a') (e0 : M' 146 0 = M 146 0) (e1 : M' 146 1 = M 146 1) : CX a' M' s sp wk c n B := ⟨h1, h.2.1.K h2, e0.trans h.2.2.1, e1.trans h.2.2.2⟩
theorem Wc158 (w : Nat) : 158 ≤ Wc w := by unfold Wc; omega
theorem k_step {a : Mem} {M B : F2} {s sp wk n nw D w : Nat} {c : Nat → Nat} (h : CX a M s sp wk c n B) (ok : okM sp nw D B M) (hw : w < 4) (h0 : M (Wc w) 0 ≠ 0) (h2 : M (Wc w) 2 < B 1 (M (Wc w) 0 - 1)) : KO (fX3_doStep (158 + 4 * w) a) a (spM sp B w M) := by
  have gG := ok.G
  obtain ⟨-, -, -, -, o6, -⟩ := ok
  obtain ⟨w1, -, -, -, w5⟩ := o6 w hw
  have w5' := w5 h0
  exact WO.K hw h.1 (c_doStep (W := Wc w) (t := M (Wc w) 0 - 1) (h.1.W hw) h.G h.X w1 gG (Wc158 w) h.B h.2.1.2.1 h.2.1.2.2.2.1 (by omega) (by show M (Wc w) 0 = _; omega) rfl h2)
theorem k_rest {a : Mem} {M : F2} {w : Nat} (h : CM a M) (hw : w < 4) : KO (fX10_rest (158 + 4 * w) a) a (rtM w M) := WO.K hw h (c_rest (h.W hw))
theorem k_begin {a : Mem} {M : F2} {w t : Nat} (h : CM a M) (hw : w < 4) : KO (fX10_take (158 + 4 * w) (nI t) (a 146 3) a) a (bgM w t M) := by
  rw [h.e3]
  exact WO.K hw h (c_take (t := t + 1) (h.W hw))
theorem k_quit {a : Mem} {M : F2} {w : Nat} (h : CM a M) (hw : w < 4) : KO (fX10_rest (158 + 4 * w) (st2 a 146 17 (a 146 17 + a (158 + 4 * w) 2))) a (quM w M) := by
  rw [h.e3, h.wn hw (by omega), nI_add]
  obtain ⟨a', e1, e2, e3⟩ := k_rest (h.stn (c := 146) (j := 17) (x := M 146 17 + M (Wc w) 2) (by unfold vc; omega)) hw
  exact ⟨a', e1, e2, (frK.st (by omega)).tr e3⟩
theorem flS_o {w i : Nat} {M : F2} {c j : Nat} (h : ¬ (c = 174 + 2 * i ∧ j = 8)) : flS w i M c j = M c j := by
  unfold flS; split
  · exact up_o _ h
  · rfl
theorem itF_o {w : Nat} {M : F2} {c j : Nat} (h : ¬ (174 ≤ c ∧ j = 8)) : ∀ m, itr (flS w) 0 m M c j = M c j
  | 0 => rfl
  | m + 1 => by rw [itr_S, flS_o (by omega)]; exact itF_o h m
theorem k_flush {a : Mem} {M : F2} {w : Nat} (h : CM a M) (hw : w < 4) (hl : M 146 11 ≤ 30) (h3 : 1 ≤ M 146 3) (hb : ∀ i, i < M 146 11 → M (174 + 2 * i) 0 < 4) : KO (fX3_writeToDisk (nI w) a) a (flM w M) := by
  unfold fX3_writeToDisk flM
  refine loop_k (fun f j (q : Mem) => lX3_writeToDisk_2 (nI w) f (nI j) q) (M 146 11) (fun j q => CM q (itr (flS w) 0 j M) ∧ frK a q) (fun q => CM q (itr (flS w) 0 (M 146 11) M) ∧ frK a q) (Nat.zero_le _) (by omega) (s := a) ⟨h, frK.rf⟩ ?_ ?_ ?_
  · rintro r e1 ⟨e2, e3⟩
    have e1' : lX3_writeToDisk_2 (nI w) FU 0 a = some r := e1
    rw [e1', bq, inb_T hw (by omega), gdT, nI_ck (by omega), e2.e3, itF_o (by omega), show (1 : Int32) = nI 1 from rfl, nI_sub h3]
    exact ⟨_, rfl, e2.stn (c := Wc w) (by unfold vc Wc; omega), e3.tr (frK.st (by omega))⟩
  · rintro f q ⟨e2, e3⟩
    refine ⟨q, ?_, e2, e3⟩
    show lX3_writeToDisk_2 _ _ _ _ = _
    rw [lX3_writeToDisk_2, if_pos (by rw [e2.e3, itF_o (by omega), le_nn (by omega) (by omega)]; omega)]
  · rintro f i q hi ⟨e2, e3⟩
    have hbi := hb i hi
    have hw0 : q (174 + 2 * i) 0 = nI (M (174 + 2 * i) 0) := by rw [e2.ln (by omega), itF_o (by omega)]
    by_cases e : M (174 + 2 * i) 0 = w
    · refine ⟨st2 q (174 + 2 * i) 8 1, ?_, ?_, e3.tr (frK.st (by omega))⟩
      · show lX3_writeToDisk_2 _ _ _ _ = lX3_writeToDisk_2 _ _ _ _
        rw [lX3_writeToDisk_2, if_neg (by rw [e2.e3, itF_o (by omega), le_nn (by omega) (by omega)]; omega), inb_T (show i < 30 by omega) (by omega), gdT, gdT, nI_ck (by omega), if_pos (by rw [hw0, e]), bq, nI_1]
      · rw [itr_S]
        show CM _ (if itr (flS w) 0 i M (174 + 2 * i) 0 = w then _ else _)
        rw [itF_o (by omega), if_pos e]
        exact e2.stn (x := 1) (by unfold vc; omega)
    · refine ⟨q, ?_, ?_, e3⟩
      · show lX3_writeToDisk_2 _ _ _ _ = lX3_writeToDisk_2 _ _ _ _
        rw [lX3_writeToDisk_2, if_neg (by rw [e2.e3, itF_o (by omega), le_nn (by omega) (by omega)]; omega), inb_T (show i < 30 by omega) (by omega), gdT, nI_ck (by omega), if_neg (by rw [hw0, eq_nn (by omega) (by omega)]; exact e), bq, nI_1]
      · rw [itr_S]
        show CM _ (if itr (flS w) 0 i M (174 + 2 * i) 0 = w then _ else _)
        rw [itF_o (by omega), if_neg e]
        exact e2
/-! commit -/
theorem k_stale {a : Mem} {M : F2} {w : Nat} (h : CM a M) (hw : w < 4) (gG1 : okG (gG M)) (hL : okL (gW M (Wc w))) : fX3_staleKey (158 + 4 * w) a = some (vI (stl (gG M) (gW M (Wc w))), a) := by
  have hW := h.W hw
  have g0 : ∀ k, k < 10 → a 147 k = vI (gG M 0 k) := fun k _ => h.v (c := 147) (by omega) (by omega) (by unfold vc; omega)
  have g1 : ∀ k, k < 10 → a 148 k = nI (gG M 1 k) := fun k _ => h.n (c := 148) (by omega) (by omega) (by unfold vc; omega)
  unfold fX3_staleKey stl
  generalize gG M = G at *
  generalize hLd : gW M (Wc w) = L at *
  have h6 := hL.2.1
  refine loop_x (fun f j (q : Mem) => lX3_staleKey_2 (158 + 4 * w) f (nI j) q) 10 (fun j q => q = a ∧ ∀ k, k < j → ¬ ((L 0 6).testBit k && (decide (G 0 k = 0) || decide (G 1 k ≠ L 1 k))) = true) (fun r => (fnd (fun k => (L 0 6).testBit k && (decide (G 0 k = 0) || decide (G 1 k ≠ L 1 k))) 0 10 = 0 ∧ r = .inr a) ∨ ∃ k, k < 10 ∧ fnd (fun k => (L 0 6).testBit k && (decide (G 0 k = 0) || decide (G 1 k ≠ L 1 k))) 0 10 = k + 1 ∧ r = .inl (nI k, a)) (Nat.zero_le _) (by omega) (s := a) ⟨rfl, fun k hk => absurd hk (by omega)⟩ ?_ ?_ ?_
  · intro r e1 e2
    have e1' : lX3_staleKey_2 (158 + 4 * w) FU 0 a = some r := e1
    rw [e1', bq]
    rcases e2 with ⟨z, rfl⟩ | ⟨k, hk, z, rfl⟩
    · rw [z]; rfl
    · rw [z, vI_s]; rfl
  · rintro f q ⟨rfl, e2⟩
    refine ⟨.inr q, ?_, Or.inl ⟨fnd_no _ e2, rfl⟩⟩
    show lX3_staleKey_2 _ _ _ _ = _
    rw [lX3_staleKey_2, if_pos (by decide)]
  · rintro f j q hj ⟨rfl, e2⟩
    have gj := gG1 j hj
    have e6 : q (158 + 4 * w) 6 = nI (L 0 6) := hW.n 6 (by omega)
    have er : q (158 + 4 * w + 1) j = nI (L 1 j) := hW.r j
    have hcont : ¬ ((L 0 6).testBit j && (decide (G 0 j = 0) || decide (G 1 j ≠ L 1 j))) = true → ∀ k, k < j + 1 → ¬ ((L 0 6).testBit k && (decide (G 0 k = 0) || decide (G 1 k ≠ L 1 k))) = true := fun z k hk => by
      by_cases e : k = j
      · rw [e]; exact z
      · exact e2 k (by omega)
    by_cases hb : (L 0 6).testBit j = true
    · have lj := (hL.2.2.2.2 j hj).1 hb
      by_cases hs : G 0 j = 0
      · right
        refine ⟨.inl (nI j, q), ?_, Or.inr ⟨j, hj, fnd_yes (by simp [hb, hs]) e2 10 hj, rfl⟩⟩
        show lX3_staleKey_2 _ _ _ _ = _
        rw [lX3_staleKey_2, if_neg (by rw [li10, le_nn (by omega) (by omega)]; omega), e6, f_hasBit (by omega) (by omega), bq]
        dsimp only
        rw [if_pos hb, inb_T hj (by omega), gdT, nI_ck (by omega), if_pos (by rw [g0 j hj, hs]; rfl)]
      · by_cases ht : G 1 j = L 1 j
        · left
          refine ⟨q, ?_, rfl, hcont (by simp [hs, ht])⟩
          show lX3_staleKey_2 _ _ _ _ = lX3_staleKey_2 _ _ _ _
          rw [lX3_staleKey_2, if_neg (by rw [li10, le_nn (by omega) (by omega)]; omega), e6, f_hasBit (by omega) (by omega), bq]
          dsimp only
          rw [if_pos hb, inb_T hj (by omega), gdT, nI_ck (by omega), if_neg (by rw [g0 j hj, v0, eq_vv (by omega) (by omega)]; exact hs), gdT, gdT, if_pos (by rw [g1 j hj, er, ht]), nI_1]
        · right
          refine ⟨.inl (nI j, q), ?_, Or.inr ⟨j, hj, fnd_yes (by simp [hb, ht]) e2 10 hj, rfl⟩⟩
          show lX3_staleKey_2 _ _ _ _ = _
          rw [lX3_staleKey_2, if_neg (by rw [li10, le_nn (by omega) (by omega)]; omega), e6, f_hasBit (by omega) (by omega), bq]
          dsimp only
          rw [if_pos hb, inb_T hj (by omega), gdT, nI_ck (by omega), if_neg (by rw [g0 j hj, v0, eq_vv (by omega) (by omega)]; exact hs), gdT, gdT, if_neg (by rw [g1 j hj, er, eq_nn (by omega) (by omega)]; exact ht)]
    · left
      refine ⟨q, ?_, rfl, hcont (by simp [hb])⟩
      show lX3_staleKey_2 _ _ _ _ = lX3_staleKey_2 _ _ _ _
      rw [lX3_staleKey_2, if_neg (by rw [li10, le_nn (by omega) (by omega)]; omega), e6, f_hasBit (by omega) (by omega), bq]
      dsimp only
      rw [if_neg hb, nI_1]
theorem k_phantom {a : Mem} {M : F2} {w : Nat} (h : CM a M) (hw : w < 4) (gG1 : okG (gG M)) (hL : okL (gW M (Wc w))) : fX3_phantomNode (158 + 4 * w) a = some (vI (pha (gG M) (gW M (Wc w))), a) := by
  have hW := h.W hw
  have g1 : ∀ k, k < 10 → a 149 k = nI (gG M 2 k) := fun k _ => h.n (c := 149) (by omega) (by omega) (by unfold vc; omega)
  unfold fX3_phantomNode pha
  generalize gG M = G at *
  generalize hLd : gW M (Wc w) = L at *
  have h6 := hL.2.2.1
  refine loop_x (fun f j (q : Mem) => lX3_phantomNode_2 (158 + 4 * w) f (nI j) q) 10 (fun j q => q = a ∧ ∀ k, k < j → ¬ ((L 0 7).testBit k && decide (G 2 k ≠ L 2 k)) = true) (fun r => (fnd (fun n => (L 0 7).testBit n && decide (G 2 n ≠ L 2 n)) 0 10 = 0 ∧ r = .inr a) ∨ ∃ k, k < 10 ∧ fnd (fun n => (L 0 7).testBit n && decide (G 2 n ≠ L 2 n)) 0 10 = k + 1 ∧ r = .inl (nI k, a)) (Nat.zero_le _) (by omega) (s := a) ⟨rfl, fun k hk => absurd hk (by omega)⟩ ?_ ?_ ?_
  · intro r e1 e2
    have e1' : lX3_phantomNode_2 (158 + 4 * w) FU 0 a = some r := e1
    rw [e1', bq]
    rcases e2 with ⟨z, rfl⟩ | ⟨k, hk, z, rfl⟩
    · rw [z]; rfl
    · rw [z, vI_s]; rfl
  · rintro f q ⟨rfl, e2⟩
    refine ⟨.inr q, ?_, Or.inl ⟨fnd_no _ e2, rfl⟩⟩
    show lX3_phantomNode_2 _ _ _ _ = _
    rw [lX3_phantomNode_2, if_pos (by decide)]
  · rintro f j q hj ⟨rfl, e2⟩
    have gj := gG1 j hj
    have e6 : q (158 + 4 * w) 7 = nI (L 0 7) := hW.n 7 (by omega)
    have er : q (158 + 4 * w + 2) j = nI (L 2 j) := hW.g j
    have hcont : ¬ ((L 0 7).testBit j && decide (G 2 j ≠ L 2 j)) = true → ∀ k, k < j + 1 → ¬ ((L 0 7).testBit k && decide (G 2 k ≠ L 2 k)) = true := fun z k hk => by
      by_cases e : k = j
      · rw [e]; exact z
      · exact e2 k (by omega)
    by_cases hb : (L 0 7).testBit j = true
    · have lj := (hL.2.2.2.2 j hj).2.1 hb
      by_cases ht : G 2 j = L 2 j
      · left
        refine ⟨q, ?_, rfl, hcont (by simp [ht])⟩
        show lX3_phantomNode_2 _ _ _ _ = lX3_phantomNode_2 _ _ _ _
        rw [lX3_phantomNode_2, if_neg (by rw [li10, le_nn (by omega) (by omega)]; omega), e6, f_hasBit (by omega) (by omega), bq]
        dsimp only
        rw [if_pos hb, inb_T hj (by omega), gdT, gdT, nI_ck (by omega), if_pos (by rw [g1 j hj, er, ht]), nI_1]
      · right
        refine ⟨.inl (nI j, q), ?_, Or.inr ⟨j, hj, fnd_yes (by simp [hb, ht]) e2 10 hj, rfl⟩⟩
        show lX3_phantomNode_2 _ _ _ _ = _
        rw [lX3_phantomNode_2, if_neg (by rw [li10, le_nn (by omega) (by omega)]; omega), e6, f_hasBit (by omega) (by omega), bq]
        dsimp only
        rw [if_pos hb, inb_T hj (by omega), gdT, gdT, nI_ck (by omega), if_neg (by rw [g1 j hj, er, eq_nn (by omega) (by omega)]; exact ht)]
    · left
      refine ⟨q, ?_, rfl, hcont (by simp [hb])⟩
      show lX3_phantomNode_2 _ _ _ _ = lX3_phantomNode_2 _ _ _ _
      rw [lX3_phantomNode_2, if_neg (by rw [li10, le_nn (by omega) (by omega)]; omega), e6, f_hasBit (by omega) (by omega), bq]
      dsimp only
      rw [if_neg hb, nI_1]
