/-! ===== what is told of a run ===== -/
theorem c_refusals {a : Mem} {X B : F2} {sp nw : Nat} (h : CM a X) (ok : okM sp nw (X 146 12) B X) : fX3_refusals a = some (nI (nRef X), a) := by
  have hd := ok.2.2.1.2
  have hv := ok.2.2.2.2.2.2.2.1
  have e12 : a 146 12 = nI (X 146 12) := h.e3
  unfold fX3_refusals
  refine loop_k (fun f j (s : Nat) => lX3_refusals_4 f (nI s) (nI j) a) (X 146 12) (fun j s => s = sm (fun d => if X 154 d = 2 ∨ X 154 d = 3 then 1 else 0) j) (fun r => r = (nI (nRef X), a)) (Nat.zero_le _) (by omega) (s := 0) rfl ?_ ?_ ?_
  · rintro r e1 rfl
    have e1' : lX3_refusals_4 FU 0 0 a = some (nI (nRef X), a) := e1
    rw [e1', bq]
  · rintro f s rfl
    refine ⟨_, ?_, rfl⟩
    show lX3_refusals_4 _ _ _ _ = _
    rw [lX3_refusals_4, if_pos (by rw [e12, le_nn (by omega) (by omega)]; omega)]
    rfl
  · rintro f j s hj hs
    have v := hv j hj
    have e : a 154 j = nI (X 154 j) := h.n (by omega) (by omega) (by unfold vc; omega)
    refine ⟨s + (if X 154 j = 2 ∨ X 154 j = 3 then 1 else 0), ?_, by rw [hs]; rfl⟩
    show lX3_refusals_4 _ _ _ _ = lX3_refusals_4 _ _ _ _
    rw [lX3_refusals_4, if_neg (by rw [e12, le_nn (by omega) (by omega)]; omega), inb_T (show j < 60 by omega) (by omega), nI_ck (by omega)]
    simp only [gdT]
    rw [e, nI_1, nI_1]
    by_cases z2 : X 154 j = 2
    · rw [if_pos (by rw [z2]; rfl), if_pos (Or.inl z2), bq]
    · rw [if_neg (ne2 z2 (by omega))]
      by_cases z3 : X 154 j = 3
      · rw [if_pos (by rw [z3]; rfl), if_pos (Or.inr z3), bq]
      · rw [if_neg (ne3 z3 (by omega)), if_neg (by omega), bq]; rfl
def nLn (dk : Bool) (X : F2) (w : Nat) : Nat := sm (fun i => if X (174 + 2 * i) 0 = w ∧ X (174 + 2 * i) 9 = 0 ∧ (dk = true → X (174 + 2 * i) 8 ≠ 0) then 1 else 0) (X 146 11)
theorem c_linesOf {a : Mem} {X B : F2} {sp nw D w : Nat} (h : CM a X) (ok : okM sp nw D B X) (hw : w < 10) (dk : Bool) : fX3_linesOf (nI w) dk a = some (nI (nLn dk X w), a) := by
  have l30 := ok.l30
  have ln := ok.2.2.2.2.2.1
  have hn := ok.1
  have e11 : a 146 11 = nI (X 146 11) := h.e3
  unfold fX3_linesOf
  refine loop_k (fun f j (s : Nat) => lX3_linesOf_5 (nI w) dk f (nI s) (nI j) a) (X 146 11) (fun j s => s = sm (fun i => if X (174 + 2 * i) 0 = w ∧ X (174 + 2 * i) 9 = 0 ∧ (dk = true → X (174 + 2 * i) 8 ≠ 0) then 1 else 0) j) (fun r => r = (nI (nLn dk X w), a)) (Nat.zero_le _) (by omega) (s := 0) rfl ?_ ?_ ?_
  · rintro r e1 rfl
    have e1' : lX3_linesOf_5 (nI w) dk FU 0 0 a = some (nI (nLn dk X w), a) := e1
    rw [e1', bq]
  · rintro f s rfl
    refine ⟨_, ?_, rfl⟩
    show lX3_linesOf_5 _ _ _ _ _ _ = _
    rw [lX3_linesOf_5, if_pos (by rw [e11, le_nn (by omega) (by omega)]; omega)]
    rfl
  · rintro f j s hj hs
    obtain ⟨v0, -, -, -, -, -, -, -, v8, v9, -⟩ := ln j hj
    refine ⟨s + (if X (174 + 2 * j) 0 = w ∧ X (174 + 2 * j) 9 = 0 ∧ (dk = true → X (174 + 2 * j) 8 ≠ 0) then 1 else 0), ?_, by rw [hs]; rfl⟩
    show lX3_linesOf_5 _ _ _ _ _ _ = lX3_linesOf_5 _ _ _ _ _ _
    rw [lX3_linesOf_5, if_neg (by rw [e11, le_nn (by omega) (by omega)]; omega), inb_T (show j < 30 by omega) (by omega), nI_ck (by omega)]
    simp only [gdT]
    rw [h.ln (by omega), h.ln (by omega), h.ln (by omega), nI_1, nI_1]
    by_cases z0 : X (174 + 2 * j) 0 = w
    · rw [if_pos (by rw [z0])]
      by_cases z9 : X (174 + 2 * j) 9 = 0
      · rw [if_pos (by rw [z9]; rfl)]
        by_cases z8 : X (174 + 2 * j) 8 = 0
        · rw [if_pos (by rw [z8]; rfl)]
          cases dk
          · rw [if_neg (by decide), bq, if_pos ⟨z0, z9, fun y => absurd y (by decide)⟩]
          · rw [if_pos rfl, bq, if_neg (fun y => y.2.2 rfl z8)]; rfl
        · rw [if_neg (ne0 z8 (by omega)), bq, if_pos ⟨z0, z9, fun _ => z8⟩]
      · rw [if_neg (ne0 z9 (by omega)), bq, if_neg (fun y => z9 y.2.1)]; rfl
    · rw [if_neg (by rw [eq_nn (by omega) (by omega)]; exact z0), bq, if_neg (fun y => z0 y.1)]; rfl
theorem m_linesOf {pl : Prop} {b : Mem} {X B : F2} {sp nw D w : Nat} (h : MN pl b X sp) (ok : okM sp nw D B X) (hw : w < 10) (dk : Bool) : fX12_linesOf (nI w) dk b = some (nI (nLn dk X w), b) := by
  have l30 := ok.l30
  have ln := ok.2.2.2.2.2.1
  have hn := ok.1
  have e54 : b 269 54 = nI (X 146 11) := h.2.1.2.2.1
  unfold fX12_linesOf
  refine loop_k (fun f j (s : Nat) => lX12_linesOf_5 (nI w) dk f (nI s) (nI j) b) (X 146 11) (fun j s => s = sm (fun i => if X (174 + 2 * i) 0 = w ∧ X (174 + 2 * i) 9 = 0 ∧ (dk = true → X (174 + 2 * i) 8 ≠ 0) then 1 else 0) j) (fun r => r = (nI (nLn dk X w), b)) (Nat.zero_le _) (by omega) (s := 0) rfl ?_ ?_ ?_
  · rintro r e1 rfl
    have e1' : lX12_linesOf_5 (nI w) dk FU 0 0 b = some (nI (nLn dk X w), b) := e1
    rw [e1', bq]
  · rintro f s rfl
    refine ⟨_, ?_, rfl⟩
    show lX12_linesOf_5 _ _ _ _ _ _ = _
    rw [lX12_linesOf_5, if_pos (by rw [e54, le_nn (by omega) (by omega)]; omega)]
    rfl
  · rintro f j s hj hs
    obtain ⟨v0, -, -, -, -, -, -, -, v8, v9, -⟩ := ln j hj
    obtain ⟨y1, -, -, -, y5, -⟩ := h.2.2.2.2.1 j hj
    refine ⟨s + (if X (174 + 2 * j) 0 = w ∧ X (174 + 2 * j) 9 = 0 ∧ (dk = true → X (174 + 2 * j) 8 ≠ 0) then 1 else 0), ?_, by rw [hs]; rfl⟩
    show lX12_linesOf_5 _ _ _ _ _ _ = lX12_linesOf_5 _ _ _ _ _ _
    rw [lX12_linesOf_5, if_neg (by rw [e54, le_nn (by omega) (by omega)]; omega), inb_T (show j < 64 by omega) (by omega), nI_ck (by omega)]
    simp only [gdT]
    rw [y1, nI_1]
    unfold lcW
    by_cases z9 : X (174 + 2 * j) 9 = 0
    · rw [if_pos z9, vI_s, y5 z9]
      by_cases z0 : X (174 + 2 * j) 0 = w
      · rw [if_pos (by rw [z0])]
        cases dk
        · rw [if_neg (by decide), bq, if_pos ⟨z0, z9, fun y => absurd y (by decide)⟩, b2T, nI_add]
        · rw [if_pos rfl]
          by_cases z8 : X (174 + 2 * j) 8 = 0
          · rw [if_neg (by rw [z8]; decide), bq, if_neg (fun y => y.2.2 rfl z8), b2F, nI_add]
          · rw [if_pos (by rw [show X (174 + 2 * j) 8 = 1 by omega]; rfl), bq, if_pos ⟨z0, z9, fun _ => z8⟩, b2T, nI_add]
      · rw [if_neg (by rw [eq_nn (by omega) (by omega)]; exact z0), bq, if_neg (fun y => z0 y.1), b2F, nI_add]
    · rw [if_neg z9, if_neg (by rw [eq_vn (by omega) (by omega)]; omega), bq, if_neg (fun y => z9 y.2.1), b2F, nI_add]
/-! the greatest of counts -/
def bst (g : Nat → Nat) (n : Nat) : Nat × Nat := itr (fun t q => if g t ≤ q.2 then q else (t + 1, g t)) 0 n (0, 0)
theorem bst_S {g : Nat → Nat} {n : Nat} : bst g (n + 1) = if g n ≤ (bst g n).2 then bst g n else (n + 1, g n) := itr_S _ _ _
theorem bst_e {g : Nat → Nat} : ∀ n, (bst g n).1 ≤ n ∧ (bst g n).2 = if (bst g n).1 = 0 then 0 else g ((bst g n).1 - 1) := by
  intro n
  induction n with
  | zero => exact ⟨Nat.le_refl _, rfl⟩
  | succ n ih =>
    rw [bst_S]
    split
    · exact ⟨by omega, ih.2⟩
    · exact ⟨Nat.le_refl _, by show g n = if n + 1 = 0 then 0 else g (n + 1 - 1); rw [if_neg (by omega), Nat.add_sub_cancel]⟩
theorem sm1 {f : Nat → Nat} {n : Nat} (h : ∀ i, i < n → f i ≤ 1) : sm f n ≤ n := by have := sm_bd n h; omega
theorem nOft_le {X : F2} {t : Nat} : nOft X t ≤ X 146 11 := sm1 (fun i _ => by show (if X (174 + 2 * i) 1 = t then 1 else 0) ≤ 1; split <;> omega)
theorem nHot_le {X : F2} {t : Nat} : nHot X t ≤ X 146 12 := sm1 (fun i _ => by show (if X 154 i = 2 ∧ X 155 i = t + 1 then 1 else 0) ≤ 1; split <;> omega)
theorem bst_le {g : Nat → Nat} {x : Nat} (h : ∀ t, g t ≤ x) (n : Nat) : (bst g n).2 ≤ x := by
  rw [(bst_e n).2]; split
  · omega
  · exact h _
theorem c_often {a : Mem} {X B : F2} {s sp wk n nw D : Nat} {c : Nat → Nat} (hX : CX a X s sp wk c n B) (ok : okM sp nw D B X) : fX3_often a = some (vI (bst (nOft X) (B 0 0)).1, a) := by
  have l30 := ok.l30
  have h := hX.1
  have gB := hX.2.1.2.2.2.1.1
  have hn2 := hX.2.1.2.1
  have ln := ok.2.2.2.2.2.1
  have e1 : a 146 1 = nI (10 + 14 * n) := by rw [h.e3, hX.2.2.2]
  have e11 : a 146 11 = nI (X 146 11) := h.e3
  have eB : a (10 + 14 * n) 0 = nI (B 0 0) := hX.2.1.2.2.2.2.2.1
  have inner : ∀ x1 x2 t, t < 7 → lX3_often_23 x1 x2 (nI t) FU 0 0 a = some (nI (nOft X t), a) := fun x1 x2 t ht => by
    refine loop_k (fun f j (s : Nat) => lX3_often_23 x1 x2 (nI t) f (nI s) (nI j) a) (X 146 11) (fun j s => s = sm (fun i => if X (174 + 2 * i) 1 = t then 1 else 0) j) (fun r => r = (nI (nOft X t), a)) (Nat.zero_le _) (by omega) (s := 0) rfl ?_ ?_ ?_
    · rintro r e1 rfl; exact e1
    · rintro f s rfl
      refine ⟨_, ?_, rfl⟩
      show lX3_often_23 _ _ _ _ _ _ _ = _
      rw [lX3_often_23, if_pos (by rw [e11, le_nn (by omega) (by omega)]; omega)]
      rfl
    · rintro f j s hj hs
      have v := (ln j hj).2.1
      refine ⟨s + (if X (174 + 2 * j) 1 = t then 1 else 0), ?_, by rw [hs]; rfl⟩
      show lX3_often_23 _ _ _ _ _ _ _ = lX3_often_23 _ _ _ _ _ _ _
      rw [lX3_often_23, if_neg (by rw [e11, le_nn (by omega) (by omega)]; omega), inb_T (show j < 30 by omega) (by omega), gdT, nI_ck (by omega), h.ln (by omega), nI_1, nI_1]
      by_cases z : X (174 + 2 * j) 1 = t
      · rw [if_pos (by rw [z]), bq, if_pos z]
      · rw [if_neg (by rw [eq_nn (by omega) (by omega)]; exact z), bq, if_neg z]; rfl
  unfold fX3_often
  refine loop_k (fun f j (q : Nat × Nat) => lX3_often_6 f (vI q.1) (nI q.2) (nI j) a) (B 0 0) (fun j q => q = bst (nOft X) j) (fun r => r = (vI (bst (nOft X) (B 0 0)).1, a)) (Nat.zero_le _) (by omega) (s := (0, 0)) rfl ?_ ?_ ?_
  · rintro r e1 rfl
    have e1' : lX3_often_6 FU (-1) 0 0 a = some (vI (bst (nOft X) (B 0 0)).1, a) := e1
    rw [e1', bq]
  · rintro f q rfl
    refine ⟨_, ?_, rfl⟩
    show lX3_often_6 _ _ _ _ _ = _
    rw [lX3_often_6, e1, rfN_n (by omega), isB_bk hn2, gdT, eB, if_pos (by rw [le_nn (by omega) (by omega)]; omega)]
  · rintro f t q ht rfl
    have b1 := bst_e (g := nOft X) t
    have b2' := bst_le (g := nOft X) (x := 30) (fun t => by have := nOft_le (X := X) (t := t); omega) t
    have o := nOft_le (X := X) (t := t)
    refine ⟨bst (nOft X) (t + 1), ?_, rfl⟩
    show lX3_often_6 _ _ _ _ _ = lX3_often_6 _ _ _ _ _
    rw [lX3_often_6, e1, rfN_n (by omega), isB_bk hn2, gdT, eB, if_neg (by rw [le_nn (by omega) (by omega)]; omega), inner _ _ t (by omega), bq, nI_1, bst_S]
    dsimp only
    by_cases z : nOft X t ≤ (bst (nOft X) t).2
    · rw [if_pos (by rw [le_nn (by omega) (by omega)]; exact z), bq, if_pos z]
    · rw [if_neg (by rw [le_nn (by omega) (by omega)]; exact z), bq, if_neg z]
      rfl
theorem m_often {pl : Prop} {b : Mem} {X B : F2} {s sp wk n nw D : Nat} {c : Nat → Nat} (h : MN pl b X sp) (hH : HD b s sp wk c n B) (gB : okB B) (ok : okM sp nw D B X) : fX12_oftenest b = some (vI (bst (nOft X) (B 0 0)).1, b) := by
  have l30 := ok.l30
  have gB1 := gB.1
  have e27 : b 269 27 = nI (B 0 0) := hH.2.1.2.1
  have e4 := h.2.2.2.2.2.1
  unfold fX12_oftenest
  refine loop_k (fun f j (q : Nat) => lX12_oftenest_4 f (vI q) (nI j) b) (B 0 0) (fun j q => q = (bst (nOft X) j).1) (fun r => r = (vI (bst (nOft X) (B 0 0)).1, b)) (Nat.zero_le _) (by omega) (s := 0) rfl ?_ ?_ ?_
  · rintro r e1 rfl
    have e1' : lX12_oftenest_4 FU (-1) 0 b = some (vI (bst (nOft X) (B 0 0)).1, b) := e1
    rw [e1', bq]
  · rintro f q rfl
    refine ⟨_, ?_, rfl⟩
    show lX12_oftenest_4 _ _ _ _ = _
    rw [lX12_oftenest_4, if_pos (by rw [e27, le_nn (by omega) (by omega)]; omega)]
  · rintro f t q ht rfl
    have b1 := bst_e (g := nOft X) t
    have b2' := bst_le (g := nOft X) (x := 30) (fun t => by have := nOft_le (X := X) (t := t); omega) t
    have o := nOft_le (X := X) (t := t)
    have hq : ((if vI (bst (nOft X) t).1 = (-1) then (some 0) else (gd (inb (vI (bst (nOft X) t).1) 7) (some (b 304 (Int32.toNatClampNeg (vI (bst (nOft X) t).1)))))) : Option Int32) = some (nI (bst (nOft X) t).2) := by
      by_cases z : (bst (nOft X) t).1 = 0
      · rw [if_pos (by rw [z]; rfl), b1.2, if_pos z]; rfl
      · rw [if_neg (by rw [v0, eq_vv (by omega) (by omega)]; exact z), vI_p (by omega), inb_T (by omega) (by omega), gdT, nI_ck (by omega), e4 _ (by omega), b1.2, if_neg z]
    refine ⟨(bst (nOft X) (t + 1)).1, ?_, rfl⟩
    show lX12_oftenest_4 _ _ _ _ = lX12_oftenest_4 _ _ _ _
    rw [lX12_oftenest_4, if_neg (by rw [e27, le_nn (by omega) (by omega)]; omega), inb_T (show t < 7 by omega) (by omega), gdT, hq, bq, nI_ck (by omega), e4 t (by omega), nI_1, bst_S]
    by_cases z : nOft X t ≤ (bst (nOft X) t).2
    · rw [if_pos (by rw [le_nn (by omega) (by omega)]; exact z), bq, if_pos z]
    · rw [if_neg (by rw [le_nn (by omega) (by omega)]; exact z), bq, if_neg z]
      rfl
theorem c_hot {a : Mem} {X B : F2} {sp nw : Nat} (h : CM a X) (ok : okM sp nw (X 146 12) B X) : fX3_hot a = some (vI (bst (nHot X) 10).1, a) := by
  have hd := ok.2.2.1.2
  have hv := ok.2.2.2.2.2.2.2.1
  have e12 : a 146 12 = nI (X 146 12) := h.e3
  have inner : ∀ x1 x2 t, t < 10 → lX3_hot_18 x1 x2 (nI t) FU 0 0 a = some (nI (nHot X t), a) := fun x1 x2 t ht => by
    refine loop_k (fun f j (s : Nat) => lX3_hot_18 x1 x2 (nI t) f (nI s) (nI j) a) (X 146 12) (fun j s => s = sm (fun d => if X 154 d = 2 ∧ X 155 d = t + 1 then 1 else 0) j) (fun r => r = (nI (nHot X t), a)) (Nat.zero_le _) (by omega) (s := 0) rfl ?_ ?_ ?_
    · rintro r e1 rfl; exact e1
    · rintro f s rfl
      refine ⟨_, ?_, rfl⟩
      show lX3_hot_18 _ _ _ _ _ _ _ = _
      rw [lX3_hot_18, if_pos (by rw [e12, le_nn (by omega) (by omega)]; omega)]
      rfl
    · rintro f j s hj hs
      have v := hv j hj
      have e4 : a 154 j = nI (X 154 j) := h.n (by omega) (by omega) (by unfold vc; omega)
      have e5 : a 155 j = vI (X 155 j) := h.v (by omega) (by omega) (by unfold vc; omega)
      refine ⟨s + (if X 154 j = 2 ∧ X 155 j = t + 1 then 1 else 0), ?_, by rw [hs]; rfl⟩
      show lX3_hot_18 _ _ _ _ _ _ _ = lX3_hot_18 _ _ _ _ _ _ _
      rw [lX3_hot_18, if_neg (by rw [e12, le_nn (by omega) (by omega)]; omega), inb_T (show j < 60 by omega) (by omega), nI_ck (by omega)]
      simp only [gdT]
      rw [e4, e5, nI_1, nI_1]
      by_cases z : X 154 j = 2
      · rw [if_pos (by rw [z]; rfl)]
        by_cases y : X 155 j = t + 1
        · rw [if_pos (by rw [y, vI_s]), bq, if_pos ⟨z, y⟩]
        · rw [if_neg (by rw [eq_vn (by omega) (by omega)]; exact y), bq, if_neg (fun x => y x.2)]; rfl
      · rw [if_neg (ne2 z (by omega)), bq, if_neg (fun x => z x.1)]; rfl
  unfold fX3_hot
  refine loop_k (fun f j (q : Nat × Nat) => lX3_hot_6 f (vI q.1) (nI q.2) (nI j) a) 10 (fun j q => q = bst (nHot X) j) (fun r => r = (vI (bst (nHot X) 10).1, a)) (Nat.zero_le _) (by omega) (s := (0, 0)) rfl ?_ ?_ ?_
  · rintro r e1 rfl
    have e1' : lX3_hot_6 FU (-1) 0 0 a = some (vI (bst (nHot X) 10).1, a) := e1
    rw [e1', bq]
  · rintro f q rfl
    refine ⟨_, ?_, rfl⟩
    show lX3_hot_6 _ _ _ _ _ = _
    rw [lX3_hot_6, if_pos (by decide)]
  · rintro f t q ht rfl
    have b1 := bst_e (g := nHot X) t
    have b2' := bst_le (g := nHot X) (x := 60) (fun t => by have := nHot_le (X := X) (t := t); omega) t
    have o := nHot_le (X := X) (t := t)
    refine ⟨bst (nHot X) (t + 1), ?_, rfl⟩
    show lX3_hot_6 _ _ _ _ _ = lX3_hot_6 _ _ _ _ _
    rw [lX3_hot_6, if_neg (by rw [li10, le_nn (by omega) (by omega)]; omega), inner _ _ t (by omega), bq, nI_1, bst_S]
    dsimp only
    by_cases z : nHot X t ≤ (bst (nHot X) t).2
    · rw [if_pos (by rw [le_nn (by omega) (by omega)]; exact z), bq, if_pos z]
    · rw [if_neg (by rw [le_nn (by omega) (by omega)]; exact z), bq, if_neg z]
      rfl
theorem m_hot {pl : Prop} {b : Mem} {X B : F2} {sp nw : Nat} (h : MN pl b X sp) (ok : okM sp nw (X 146 12) B X) : fX12_hottest b = some (vI (bst (nHot X) 10).1, b) := by
  have hd := ok.2.2.1.2
  have e5 := h.2.2.2.2.2.2
  unfold fX12_hottest
  refine loop_k (fun f j (q : Nat) => lX12_hottest_4 f (vI q) (nI j) b) 10 (fun j q => q = (bst (nHot X) j).1) (fun r => r = (vI (bst (nHot X) 10).1, b)) (Nat.zero_le _) (by omega) (s := 0) rfl ?_ ?_ ?_
  · rintro r e1 rfl
    have e1' : lX12_hottest_4 FU (-1) 0 b = some (vI (bst (nHot X) 10).1, b) := e1
    rw [e1', bq]
  · rintro f q rfl
    refine ⟨_, ?_, rfl⟩
    show lX12_hottest_4 _ _ _ _ = _
    rw [lX12_hottest_4, if_pos (by decide)]
  · rintro f t q ht rfl
    have b1 := bst_e (g := nHot X) t
    have b2' := bst_le (g := nHot X) (x := 60) (fun t => by have := nHot_le (X := X) (t := t); omega) t
    have o := nHot_le (X := X) (t := t)
    have hq : ((if vI (bst (nHot X) t).1 = (-1) then (some 0) else (gd (inb (vI (bst (nHot X) t).1) 10) (some (b 305 (Int32.toNatClampNeg (vI (bst (nHot X) t).1)))))) : Option Int32) = some (nI (bst (nHot X) t).2) := by
      by_cases z : (bst (nHot X) t).1 = 0
      · rw [if_pos (by rw [z]; rfl), b1.2, if_pos z]; rfl
      · rw [if_neg (by rw [v0, eq_vv (by omega) (by omega)]; exact z), vI_p (by omega), inb_T (by omega) (by omega), gdT, nI_ck (by omega), e5 _ (by omega), b1.2, if_neg z]
    refine ⟨(bst (nHot X) (t + 1)).1, ?_, rfl⟩
    show lX12_hottest_4 _ _ _ _ = lX12_hottest_4 _ _ _ _
    rw [lX12_hottest_4, if_neg (by rw [li10, le_nn (by omega) (by omega)]; omega), inb_T (show t < 10 by omega) (by omega), gdT, hq, bq, nI_ck (by omega), e5 t (by omega), nI_1, bst_S]
    by_cases z : nHot X t ≤ (bst (nHot X) t).2
    · rw [if_pos (by rw [le_nn (by omega) (by omega)]; exact z), bq, if_pos z]
    · rw [if_neg (by rw [le_nn (by omega) (by omega)]; exact z), bq, if_neg z]
      rfl
def tpS (X : F2) (n : Nat) : Nat := itr (fun k m => max m (X 148 k)) 0 n 0
theorem tpS_S {X : F2} {n : Nat} : tpS X (n + 1) = max (tpS X n) (X 148 n) := itr_S _ _ _
theorem tpS_le {X : F2} {x : Nat} (h : ∀ k, k < 10 → X 148 k ≤ x) : ∀ n, n ≤ 10 → tpS X n ≤ x
  | 0, _ => Nat.zero_le _
  | n + 1, hn => by
    have := tpS_le h n (by omega)
    have := h n (by omega)
    unfold tpS at *
    rw [itr_S]; omega
theorem c_top {a : Mem} {X B : F2} {sp nw D : Nat} (h : CM a X) (ok : okM sp nw D B X) : fX3_topStamp a = some (nI (tpS X 10), a) := by
  have l30 := ok.l30
  have o3 := ok.2.1
  have hk : ∀ k, k < 10 → X 148 k ≤ 5030 := fun k hk => by have := (ok.2.2.2.1 k hk).2.1; omega
  unfold fX3_topStamp
  refine loop_k (fun f j (s : Nat) => lX3_topStamp_4 f (nI s) (nI j) a) 10 (fun j s => s = tpS X j) (fun r => r = (nI (tpS X 10), a)) (Nat.zero_le _) (by omega) (s := 0) rfl ?_ ?_ ?_
  · rintro r e1 rfl
    have e1' : lX3_topStamp_4 FU 0 0 a = some (nI (tpS X 10), a) := e1
    rw [e1', bq]
  · rintro f q rfl
    refine ⟨_, ?_, rfl⟩
    show lX3_topStamp_4 _ _ _ _ = _
    rw [lX3_topStamp_4, if_pos (by decide)]
  · rintro f k s hk' rfl
    have t1 := tpS_le hk k (by omega)
    have t2 := hk k hk'
    have e : a 148 k = nI (X 148 k) := h.n (by omega) (by omega) (by unfold vc; omega)
    refine ⟨max (tpS X k) (X 148 k), ?_, tpS_S.symm⟩
    show lX3_topStamp_4 _ _ _ _ = lX3_topStamp_4 _ _ _ _
    rw [lX3_topStamp_4, if_neg (by rw [li10, le_nn (by omega) (by omega)]; omega), inb_T hk' (by omega), gdT, nI_ck (by omega), e, mx_n (by omega) (by omega), nI_1]
theorem m_top {pl : Prop} {b : Mem} {X B : F2} {sp nw D : Nat} (h : MN pl b X sp) (ok : okM sp nw D B X) : fX12_topStamp b = some (nI (tpS X 10), b) := by
  have l30 := ok.l30
  have o3 := ok.2.1
  have hk : ∀ k, k < 10 → X 148 k ≤ 5030 := fun k hk => by have := (ok.2.2.2.1 k hk).2.1; omega
  unfold fX12_topStamp
  refine loop_k (fun f j (s : Nat) => lX12_topStamp_4 f (nI s) (nI j) b) 10 (fun j s => s = tpS X j) (fun r => r = (nI (tpS X 10), b)) (Nat.zero_le _) (by omega) (s := 0) rfl ?_ ?_ ?_
  · rintro r e1 rfl
    have e1' : lX12_topStamp_4 FU 0 0 b = some (nI (tpS X 10), b) := e1
    rw [e1', bq]
  · rintro f q rfl
    refine ⟨_, ?_, rfl⟩
    show lX12_topStamp_4 _ _ _ _ = _
    rw [lX12_topStamp_4, if_pos (by decide)]
  · rintro f k s hk' rfl
    have t1 := tpS_le hk k (by omega)
    have t2 := hk k hk'
    have e : b 282 k = nI (X 148 k) := h.1.2.2.2.1 k hk'
    refine ⟨max (tpS X k) (X 148 k), ?_, tpS_S.symm⟩
    show lX12_topStamp_4 _ _ _ _ = lX12_topStamp_4 _ _ _ _
    rw [lX12_topStamp_4, if_neg (by rw [li10, le_nn (by omega) (by omega)]; omega), inb_T hk' (by omega), gdT, nI_ck (by omega), e, f_gt_n (by omega) (by omega), bq]
    dsimp only
    rw [nI_1]
theorem c_there {a : Mem} {X B : F2} {sp nw D : Nat} (h : CM a X) (ok : okM sp nw D B X) : fX11_keysThere 147 a = some (nI (thr (X 147)), a) := by
  refine f_keysThere (thr_lt _) (fun k hk => ?_)
  have e : a 147 k = vI (X 147 k) := h.v (by omega) (by omega) (by unfold vc; omega)
  have := (ok.2.2.2.1 k hk).1
  rw [e, v0, eq_vv (by omega) (by omega), thr_bit hk, decide_eq_true_eq]
  omega
/-! state()'s and drawn()'s common part -/
def ofK (x : Nat) : Prop := x ≠ 5 ∧ ¬ (30 ≤ x ∧ x ≤ 39)
set_option maxHeartbeats 4000000 in
theorem view_pair {pl : Prop} {a b : Mem} {X B : F2} {s sp wk n : Nat} {c : Nat → Nat} {x : Int32} (hX : CX a X s sp wk c n B) (h : MN pl b X sp) (hH : HD b s sp wk c n B) (ok : okM sp wk (X 146 12) B X) (h5 : x ≠ 5) (h3 : ¬ (¬ x < 30 ∧ ¬ (39 : Int32) < x)) : ∃ r, fX3_view x a = some (r, a) ∧ fX12_ofState x b = some (r, b) := by
  have hC := hX.1
  have l30 := ok.l30
  obtain ⟨o1, o2, o3⟩ := ok.1
  have sp1 := hX.2.1.2.2.1.1
  obtain ⟨s1, s2, s3, s4, s5, s6, s7, s8⟩ := h.2.1
  rcases i_cases x with ⟨m, hm, e⟩ | ⟨j, hj, rfl⟩
  · have hx : x < 0 := by rw [Int32.lt_iff_toInt_lt, e]; show -1 - (m : Int) < 0; omega
    refine ⟨-2, ?_, ?_⟩
    · unfold fX3_view; rw [if_pos hx]
    · unfold fX12_ofState
      have hx10 : x < 10 := by rw [li10, ng_lt hx (by omega)]; trivial
      have hne : ∀ m, m < 100 → ¬ x = nI m := fun m hm => by rw [ng_eq hx (by omega)]; exact id
      rw [if_pos hx10, if_neg (show ¬ x = 0 from hne 0 (by omega)), if_neg (show ¬ x = 1 from hne 1 (by omega)), if_neg (show ¬ x = 2 from hne 2 (by omega)), if_neg (show ¬ x = 3 from hne 3 (by omega)), if_neg (show ¬ x = 4 from hne 4 (by omega)), if_neg (show ¬ x = 5 from hne 5 (by omega))]
  · have h5' : j ≠ 5 := fun z => h5 (by rw [z]; rfl)
    have h3' : ¬ (30 ≤ j ∧ j ≤ 39) := fun z => h3 ⟨by rw [li30, lt_nn (by omega) (by omega)]; omega, by rw [li39, lt_nn (by omega) (by omega)]; omega⟩
    unfold fX3_view fX12_ofState
    rw [if_neg (show ¬ nI j < 0 by rw [li0, lt_nn (by omega) (by omega)]; omega)]
    by_cases h110 : j < 110
    · rw [if_pos (show nI j < 110 by rw [show (110 : Int32) = nI 110 from rfl, lt_nn (by omega) (by omega)]; omega)]
      have edv : nI j / 10 = nI (j / 10) := by rw [li10, nI_dv (by omega) (by omega) (by omega)]
      have emd : nI j % 10 = nI (j % 10) := by rw [li10, nI_md (by omega) (by omega) (by omega)]
      rw [edv, emd]
      have hm10 : j % 10 < 10 := Nat.mod_lt _ (by omega)
      by_cases h10 : j < 10
      · rw [if_pos (show nI j < 10 by rw [li10, lt_nn (by omega) (by omega)]; omega), if_pos (show nI (j / 10) = 0 by rw [show j / 10 = 0 by omega]; rfl), show j % 10 = j by omega]
        unfold fX3_viewAll
        by_cases j0 : j = 0
        · rw [if_pos (by rw [j0]; rfl), if_pos (by rw [j0]; rfl), s2]
          exact ⟨_, by rw [bq, hC.e3], rfl⟩
        rw [if_neg (ne0 j0 (by omega)), if_neg (ne0 j0 (by omega))]
        by_cases j1 : j = 1
        · have kd : fX3_durableWith 0 a = some (nI (dur 0 X), a) := k_dur (f := 0) hC ok (by omega)
          rw [if_pos (by rw [j1]; rfl), if_pos (by rw [j1]; rfl), kd, m_durable h ok]
          exact ⟨_, rfl, rfl⟩
        rw [if_neg (ne1 j1 (by omega)), if_neg (ne1 j1 (by omega))]
        by_cases j2 : j = 2
        · rw [if_pos (by rw [j2]; rfl), if_pos (by rw [j2]; rfl), s4]
          exact ⟨_, by rw [bq, hC.e3], rfl⟩
        rw [if_neg (ne2 j2 (by omega)), if_neg (ne2 j2 (by omega))]
        by_cases j3 : j = 3
        · rw [if_pos (by rw [j3]; rfl), if_pos (by rw [j3]; rfl), s5, c_refusals hC ok]
          exact ⟨_, rfl, rfl⟩
        rw [if_neg (ne3 j3 (by omega)), if_neg (ne3 j3 (by omega))]
        by_cases j4 : j = 4
        · rw [if_pos (by rw [j4]; rfl), if_pos (by rw [j4]; rfl), h.1.2.1, c_there hC ok]
          exact ⟨_, rfl, rfl⟩
        rw [if_neg (ne4 j4 (by omega)), if_neg (ne4 j4 (by omega)), if_neg (ne5 h5' (by omega))]
        exact ⟨_, rfl, rfl⟩
      · rw [if_neg (show ¬ nI j < 10 by rw [li10, lt_nn (by omega) (by omega)]; omega), if_neg (ne0 (show j / 10 ≠ 0 by omega) (by omega))]
        have e147 : a 147 (j % 10) = vI (X 147 (j % 10)) := hC.v (by omega) (by omega) (by unfold vc; omega)
        have e148 : a 148 (j % 10) = nI (X 148 (j % 10)) := hC.n (by omega) (by omega) (by unfold vc; omega)
        have e149 : a 149 (j % 10) = nI (X 149 (j % 10)) := hC.n (by omega) (by omega) (by unfold vc; omega)
        have hrw := ok.2.2.2.1 (j % 10) hm10
        by_cases h50 : j < 50
        · rw [if_neg (show ¬ (50 : Int32) ≤ nI j by rw [li50, le_nn (by omega) (by omega)]; omega)]
          unfold fX12_ofKeys
          by_cases d1 : j / 10 = 1
          · rw [if_pos (by rw [d1]; rfl), if_pos (by rw [d1]; rfl), inb_T hm10 (by omega), gdT, nI_ck (by omega), h.1.2.1, f_has (by have := thr_lt (gG X 0); omega) (by omega), bq]
            dsimp only
            refine ⟨_, rfl, ?_⟩
            rw [thr_bit hm10, gdT, h.1.2.2.1 _ hm10, e147]
            show (Option.bind (if decide (X 147 (j % 10) ≠ 0) = true then some (nI (X 147 (j % 10) - 1), b) else some (-1, b)) fun q16 => some (q16.1, q16.2)) = _
            by_cases z : X 147 (j % 10) = 0
            · rw [decide_eq_false (show ¬ X 147 (j % 10) ≠ 0 by omega), if_neg (by decide), z]; rfl
            · rw [decide_eq_true z, if_pos rfl, vI_p (by omega)]; rfl
          rw [if_neg (ne1 d1 (by omega)), if_neg (ne1 d1 (by omega))]
          by_cases d2 : j / 10 = 2
          · rw [if_pos (by rw [d2]; rfl), if_pos (by rw [d2]; rfl), inb_T hm10 (by omega), gdT, gdT, nI_ck (by omega), h.1.2.2.2.1 _ hm10, e148]
            exact ⟨_, rfl, rfl⟩
          rw [if_neg (ne2 d2 (by omega)), if_neg (ne2 d2 (by omega)), if_neg (ne3 (show j / 10 ≠ 3 by omega) (by omega)), if_neg (ne3 (show j / 10 ≠ 3 by omega) (by omega)), if_pos (show nI (j / 10) = 4 by rw [show j / 10 = 4 by omega]; rfl)]
          have hn9 : fX3_nodeOf 9 a = some (nI (9 / sp), a) := c_nodeOf (n := 9) hX.G hX.X (by omega)
          have d9 := dv9 (n := 9) (sp := sp) (by omega)
          rw [hn9, bq, hH.2.2.2.2]
          dsimp only
          by_cases z : 9 / sp < j % 10
          · rw [if_pos (by rw [lt_nn (by omega) (by omega)]; exact z), if_pos (by rw [le_nn (by omega) (by omega)]; omega)]
            exact ⟨_, rfl, rfl⟩
          · rw [if_neg (by rw [lt_nn (by omega) (by omega)]; exact z), if_neg (by rw [le_nn (by omega) (by omega)]; omega), inb_T hm10 (by omega), gdT, gdT, nI_ck (by omega), h.1.2.2.2.2 _ hm10, e149]
            exact ⟨_, rfl, rfl⟩
        · rw [if_pos (show (50 : Int32) ≤ nI j by rw [li50, le_nn (by omega) (by omega)]; omega), if_neg (show ¬ (110 : Int32) ≤ nI j by rw [show (110 : Int32) = nI 110 from rfl, le_nn (by omega) (by omega)]; omega)]
          rw [if_neg (ne1 (show j / 10 ≠ 1 by omega) (by omega)), if_neg (ne2 (show j / 10 ≠ 2 by omega) (by omega)), if_neg (ne3 (show j / 10 ≠ 3 by omega) (by omega)), if_neg (ne4 (show j / 10 ≠ 4 by omega) (by omega)), show a 146 2 = nI wk by rw [hC.e3, o3]]
          unfold fX12_ofWorker
          have hisw := m_isWorker (b := b) (nw := wk) (wv := j % 10 + 1) (by rw [s1, o3]) o1 o2 (by omega)
          rw [vI_s] at hisw
          rw [hisw, bq]
          dsimp only
          by_cases z : wk ≤ j % 10
          · rw [if_pos (by rw [le_nn (by omega) (by omega)]; exact z), decide_eq_false (by omega), if_neg (by decide)]
            exact ⟨_, rfl, rfl⟩
          · have w4 : j % 10 < 4 := by omega
            obtain ⟨a1, a2, a3, a4, a5, a6⟩ := h.2.2.2.1 (j % 10) w4
            rw [if_neg (by rw [le_nn (by omega) (by omega)]; exact z), decide_eq_true (by omega), if_pos rfl]
            unfold fX3_viewWorker
            rw [inb_T w4 (by omega), nI_ck (by omega)]
            simp only [gdT]
            by_cases r5 : j / 10 = 5
            · rw [if_pos (by rw [r5]; rfl), if_pos (by rw [r5]; rfl), hC.wt w4, a1]
              exact ⟨_, rfl, rfl⟩
            rw [if_neg (ne5 r5 (by omega)), if_neg (ne5 r5 (by omega))]
            by_cases r6 : j / 10 = 6
            · rw [if_pos (by rw [r6]; rfl), if_pos (by rw [r6]; rfl), hC.wn w4 (by omega), a2]
              exact ⟨_, rfl, rfl⟩
            rw [if_neg (show ¬ nI (j / 10) = 6 from lit_ne (m := 6) r6 (by omega) (by omega)), if_neg (show ¬ nI (j / 10) = 6 from lit_ne (m := 6) r6 (by omega) (by omega))]
            by_cases r7 : j / 10 = 7
            · rw [if_pos (by rw [r7]; rfl), if_pos (by rw [r7]; rfl), hC.wn w4 (by omega), a3]
              exact ⟨_, rfl, rfl⟩
            rw [if_neg (show ¬ nI (j / 10) = 7 from lit_ne (m := 7) r7 (by omega) (by omega)), if_neg (show ¬ nI (j / 10) = 7 from lit_ne (m := 7) r7 (by omega) (by omega))]
            by_cases r8 : j / 10 = 8
            · rw [if_pos (by rw [r8]; rfl), if_pos (by rw [r8]; rfl), hC.wn w4 (by omega), a4]
              exact ⟨_, rfl, rfl⟩
            rw [if_neg (show ¬ nI (j / 10) = 8 from lit_ne (m := 8) r8 (by omega) (by omega)), if_neg (show ¬ nI (j / 10) = 8 from lit_ne (m := 8) r8 (by omega) (by omega))]
            by_cases r9 : j / 10 = 9
            · rw [if_pos (by rw [r9]; rfl), if_pos (by rw [r9]; rfl), c_linesOf hC ok (by omega), m_linesOf h ok (by omega)]
              exact ⟨_, rfl, rfl⟩
            rw [if_neg (show ¬ nI (j / 10) = 9 from lit_ne (m := 9) r9 (by omega) (by omega)), if_neg (show ¬ nI (j / 10) = 9 from lit_ne (m := 9) r9 (by omega) (by omega)), if_pos (show nI (j / 10) = 10 by rw [show j / 10 = 10 by omega]; rfl), c_linesOf hC ok (by omega), m_linesOf h ok (by omega)]
            exact ⟨_, rfl, rfl⟩
    · rw [if_neg (show ¬ nI j < 110 by rw [show (110 : Int32) = nI 110 from rfl, lt_nn (by omega) (by omega)]; omega), if_neg (show ¬ nI j < 10 by rw [li10, lt_nn (by omega) (by omega)]; omega), if_pos (show (50 : Int32) ≤ nI j by rw [li50, le_nn (by omega) (by omega)]; omega), if_pos (show (110 : Int32) ≤ nI j by rw [show (110 : Int32) = nI 110 from rfl, le_nn (by omega) (by omega)]; omega)]
      exact ⟨_, rfl, rfl⟩
