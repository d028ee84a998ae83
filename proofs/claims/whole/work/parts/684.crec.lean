/-! ===== what a crash leaves, in the engine ===== -/
theorem dur_le {f : Nat} {M : F2} : ∀ n, itr (fun w m => min m (if f.testBit w = true then M 146 3 - 1 else M (Wc w) 5)) 0 n 50 ≤ 50
  | 0 => Nat.le_refl _
  | n + 1 => by rw [itr_S]; have := dur_le (f := f) (M := M) n; omega
theorem k_dur {a : Mem} {M B : F2} {sp nw D f : Nat} (h : CM a M) (ok : okM sp nw D B M) (hf : f < 16) : fX3_durableWith (nI f) a = some (nI (dur f M), a) := by
  obtain ⟨⟨o1, o2, o3⟩, ⟨o4, o5⟩, -, -, o6, -⟩ := ok
  unfold fX3_durableWith dur
  rw [o3]
  refine loop_k (fun g j (q : Int32) => lX3_durableWith_5 (nI f) g q (nI j) a) nw (fun j q => q = nI (itr (fun w m => min m (if f.testBit w = true then M 146 3 - 1 else M (Wc w) 5)) 0 j 50)) (fun r => r = (nI (itr (fun w m => min m (if f.testBit w = true then M 146 3 - 1 else M (Wc w) 5)) 0 nw 50), a)) (Nat.zero_le _) (by omega) (s := nI 50) rfl ?_ ?_ ?_
  · rintro r e1 rfl
    have e1' : lX3_durableWith_5 (nI f) FU 50 0 a = some _ := e1
    rw [e1', bq]
  · rintro g q rfl
    refine ⟨_, ?_, rfl⟩
    show lX3_durableWith_5 _ _ _ _ _ = _
    rw [lX3_durableWith_5, if_pos (by rw [h.e3, o3, le_nn (by omega) (by omega)]; omega)]
  · rintro g w q hw rfl
    refine ⟨_, ?_, rfl⟩
    show lX3_durableWith_5 _ (g + 1) _ (nI w) a = lX3_durableWith_5 _ g _ (nI (w + 1)) a
    have hb := dur_le (f := f) (M := M) w
    obtain ⟨-, -, -, w4, -⟩ := o6 w (by omega)
    rw [lX3_durableWith_5, if_neg (by rw [h.e3, o3, le_nn (by omega) (by omega)]; omega), f_hasBit (by omega) (by omega), bq, itr_S]
    generalize itr (fun w m => min m (if f.testBit w = true then M 146 3 - 1 else M (Wc w) 5)) 0 w 50 = z at *
    dsimp only
    by_cases hb2 : f.testBit w = true
    · rw [if_pos hb2, if_pos hb2, bq, h.e3, show (1 : Int32) = nI 1 from rfl, nI_sub o4, mn_n (by omega) (by omega), nI_add]
    · rw [if_neg hb2, if_neg hb2, inb_T (show w < 4 by omega) (by omega), gdT, nI_ck (by omega), bq, h.wn (by omega) (by omega), mn_n (by omega) (by omega), nI_1]
theorem k_srv {a : Mem} {M B : F2} {nw f d i : Nat} (h : ∀ j, a (174 + 2 * i) j = nI (M (174 + 2 * i) j)) (ln : lnO nw B M i) (hnw : nw ≤ 4) (hf : f < 16) (hd : d ≤ 50) : fX3_survives (174 + 2 * i) (nI f) (nI d) a = some (srv f d M i, a) := by
  obtain ⟨l1, l2, l3, -, -, -, -, -, l8, l9, -⟩ := ln
  unfold fX3_survives srv
  have e1 : ((if a (174 + 2 * i) 8 = 0 then ((fX11_hasBit (nI f) (a (174 + 2 * i) 0) a).bind fun q2 => if q2.1 = true then some (true, q2.2) else some (false, q2.2)) else some (true, a)) : Option (Bool × Mem)) = some (decide (M (174 + 2 * i) 8 ≠ 0) || f.testBit (M (174 + 2 * i) 0), a) := by
    by_cases z : M (174 + 2 * i) 8 = 0
    · rw [if_pos (by rw [h, z]; rfl), h 0, f_hasBit (by omega) (by omega), bq, z]
      dsimp only
      cases f.testBit (M (174 + 2 * i) 0) <;> rfl
    · rw [if_neg (by rw [h]; exact ne0 z (by omega)), decide_eq_true z]; rfl
  rw [e1, bq]
  dsimp only
  by_cases z9 : M (174 + 2 * i) 9 = 0
  · rw [if_pos (by rw [h, z9]; rfl), decide_eq_true z9, Bool.true_and]
    by_cases hx : (decide (M (174 + 2 * i) 8 ≠ 0) || f.testBit (M (174 + 2 * i) 0)) = true
    · rw [if_pos hx, hx, Bool.true_and]
      by_cases hd2 : M (174 + 2 * i) 2 ≤ d
      · rw [if_neg (by rw [h, lt_nn (by omega) (by omega)]; omega), decide_eq_true hd2]
      · rw [if_pos (by rw [h, lt_nn (by omega) (by omega)]; omega), decide_eq_false hd2]
    · rw [if_neg hx, Bool.eq_false_iff.mpr hx]; rfl
  · rw [if_neg (by rw [h]; exact ne0 z9 (by omega)), decide_eq_false z9]; rfl
theorem dur50 (f : Nat) (M : F2) : dur f M ≤ 50 := dur_le _
theorem k_lost {a : Mem} {M B : F2} {sp nw D : Nat} (h : CM a M) (ok : okM sp nw D B M) : fX3_linesLost a = some (nI (lst M), a) := by
  have l30 := ok.l30
  have kd := k_dur (f := 0) h ok (by omega)
  have kd' : fX3_durableWith 0 a = some (nI (dur 0 M), a) := kd
  have d50 := dur50 0 M
  obtain ⟨⟨o1, o2, o3⟩, -, -, -, -, o8, -⟩ := ok
  unfold fX3_linesLost lst
  rw [kd', bq]
  dsimp only
  generalize dur 0 M = d at *
  refine loop_k (fun g j (q : Int32) => lX3_linesLost_10 (nI d) g q (nI j) a) (M 146 11) (fun j q => q = nI (sm (fun i => if M (174 + 2 * i) 9 = 0 ∧ srv 0 d M i = false then 1 else 0) j)) (fun r => r = (nI (sm (fun i => if M (174 + 2 * i) 9 = 0 ∧ srv 0 d M i = false then 1 else 0) (M 146 11)), a)) (Nat.zero_le _) (by omega) (s := nI 0) rfl ?_ ?_ ?_
  · rintro r e1 rfl
    have e1' : lX3_linesLost_10 (nI d) FU 0 0 a = some _ := e1
    rw [e1', bq]
  · rintro g q rfl
    refine ⟨_, ?_, rfl⟩
    show lX3_linesLost_10 _ _ _ _ _ = _
    rw [lX3_linesLost_10, if_pos (by rw [h.e3, le_nn (by omega) (by omega)]; omega)]
  · rintro g i q hi rfl
    refine ⟨_, ?_, rfl⟩
    show lX3_linesLost_10 _ (g + 1) _ (nI i) a = lX3_linesLost_10 _ g (nI (sm (fun i => if M (174 + 2 * i) 9 = 0 ∧ srv 0 d M i = false then 1 else 0) i + if M (174 + 2 * i) 9 = 0 ∧ srv 0 d M i = false then 1 else 0)) (nI (i + 1)) a
    have ks := k_srv (f := 0) (d := d) (fun j => h.ln (i := i) (by omega)) (o8 i hi) o2 (by omega) (by omega)
    have ks' : fX3_survives (174 + 2 * i) 0 (nI d) a = some (srv 0 d M i, a) := ks
    have l9 := (o8 i hi).2.2.2.2.2.2.2.2.2.1
    rw [lX3_linesLost_10, if_neg (by rw [h.e3, le_nn (by omega) (by omega)]; omega), inb_T (show i < 30 by omega) (by omega), gdT, nI_ck (by omega), gdT, ks', bq]
    dsimp only
    by_cases z9 : M (174 + 2 * i) 9 = 0
    · rw [if_pos (by rw [h.ln (by omega), z9]; rfl)]
      by_cases hs : srv 0 d M i = true
      · rw [if_pos hs, bq, if_neg (fun z => by rw [hs] at z; exact absurd z.2 (by decide)), nI_1]; rfl
      · rw [if_neg hs, bq, if_pos ⟨z9, Bool.eq_false_iff.mpr hs⟩]
        dsimp only
        rw [nI_1, nI_1]
    · rw [if_neg (by rw [h.ln (by omega)]; exact ne0 z9 (by omega)), bq, if_neg (fun z => z9 z.1), nI_1]; rfl
/-- rows n, m of values and stamps -/
def RQ (a s : Mem) (n m : Nat) (q : F2) : Prop := (∀ k, k < 10 → s n k = vI (q 0 k)) ∧ (∀ k, k < 10 → s m k = nI (q 1 k)) ∧ (∀ x, x ≠ n → x ≠ m → s x = a x) ∧ ∀ j, ¬ j < 10 → s n j = a n j ∧ s m j = a m j
def q51 (q : F2) : Prop := ∀ k, k < 10 → q 1 k ≤ 5100
theorem RQ.st {a s : Mem} {n m : Nat} {q : F2} (h : RQ a s n m q) (hnm : n ≠ m) {k v x : Nat} (hk : k < 10) : RQ a (st2 (st2 s n k (vI v)) m k (nI x)) n m (up (up q 0 k v) 1 k x) := by
  obtain ⟨h1, h2, h3, h4⟩ := h
  refine ⟨fun j hj => ?_, fun j hj => ?_, fun y y1 y2 => by rw [st2_c _ _ y2, st2_c _ _ y1]; exact h3 y y1 y2, fun j hj => ?_⟩
  · rw [st2_o _ _ (by omega), up_o _ (by omega)]
    by_cases e : j = k
    · subst e; rw [st2_eq, up_e]
    · rw [st2_o _ _ (by omega), up_o _ (by omega)]; exact h1 j hj
  · by_cases e : j = k
    · subst e; rw [st2_eq, up_e]
    · rw [st2_o _ _ (by omega), st2_o _ _ (by omega), up_o _ (by omega), up_o _ (by omega)]; exact h2 j hj
  · rw [st2_o _ _ (by omega), st2_o _ _ (by omega), st2_o _ _ (by omega), st2_o _ _ (by omega)]; exact h4 j hj
theorem q51.rd {M q : F2} {i k : Nat} (h : q51 q) (hs : M (174 + 2 * i) 3 ≤ 5100) : q51 (rdS M i k q) := by
  unfold rdS; split
  · intro j hj
    by_cases e : j = k
    · subst e; rw [up_e]; exact hs
    · rw [up_o _ (by omega), up_o _ (by omega)]; exact h j hj
  · exact h
theorem q51.rdI {M q : F2} {i : Nat} (h : q51 q) (hs : M (174 + 2 * i) 3 ≤ 5100) : ∀ n, q51 (itr (rdS M i) 0 n q)
  | 0 => h
  | n + 1 => by rw [itr_S]; exact (q51.rdI h hs n).rd hs
theorem q51.oL {M q : F2} {f d w i : Nat} (h : q51 q) (hs : M (174 + 2 * i) 3 ≤ 5100) : q51 (rcL f d w M i q) := by
  unfold rcL; split
  · exact h.rdI hs 10
  · exact h
theorem q51.oI {M q : F2} {f d w : Nat} (h : q51 q) : ∀ n, (∀ i, i < n → M (174 + 2 * i) 3 ≤ 5100) → q51 (itr (rcL f d w M) 0 n q)
  | 0, _ => h
  | n + 1, hs => by rw [itr_S]; exact (q51.oI h n (fun i hi => hs i (by omega))).oL (hs n (by omega))
theorem k_redo {a s : Mem} {M B q : F2} {nw n m i : Nat} (hi : i < 30) (h : ∀ j, a (174 + 2 * i) j = nI (M (174 + 2 * i) j)) (h2 : ∀ j, a (174 + 2 * i + 1) j = vI (M (175 + 2 * i) j)) (ln : lnO nw B M i) (hq : RQ a s n m q) (h5 : q51 q) (hnm : n ≠ m) (hn : ¬ (174 ≤ n ∧ n < 234)) (hm : ¬ (174 ≤ m ∧ m < 234)) : ∃ s', fX3_redo (174 + 2 * i) n m s = some s' ∧ RQ a s' n m (itr (rdS M i) 0 10 q) := by
  have l3 := ln.2.2.2.1
  have l6 := ln.2.2.2.2.2.2.1
  unfold fX3_redo
  refine loop_k (fun g j (x : Mem) => lX3_redo_2 (174 + 2 * i) n m g (nI j) x) 10 (fun j x => RQ a x n m (itr (rdS M i) 0 j q)) (fun x => RQ a x n m (itr (rdS M i) 0 10 q)) (Nat.zero_le _) (by omega) (s := s) hq ?_ ?_ ?_
  · intro r e1 e2
    have e1' : lX3_redo_2 (174 + 2 * i) n m FU 0 s = some r := e1
    rw [e1', bq]; exact ⟨r, rfl, e2⟩
  · intro g x e2
    refine ⟨x, ?_, e2⟩
    show lX3_redo_2 _ _ _ _ _ _ = _
    rw [lX3_redo_2, if_pos (by decide)]
  · intro g k x hk e2
    have r6 : x (174 + 2 * i) 6 = nI (M (174 + 2 * i) 6) := by rw [e2.2.2.1 _ (by omega) (by omega)]; exact h 6
    have r3 : x (174 + 2 * i) 3 = nI (M (174 + 2 * i) 3) := by rw [e2.2.2.1 _ (by omega) (by omega)]; exact h 3
    have rk : x (174 + 2 * i + 1) k = vI (M (175 + 2 * i) k) := by rw [e2.2.2.1 _ (by omega) (by omega)]; exact h2 k
    have r1 := e2.2.1 k hk
    have b1 := (h5.rdI l3 k) k hk
    have hS : itr (rdS M i) 0 (k + 1) q = rdS M i k (itr (rdS M i) 0 k q) := itr_S _ _ _
    rw [hS]
    generalize itr (rdS M i) 0 k q = Q at *
    unfold rdS
    by_cases hb : (M (174 + 2 * i) 6).testBit k = true
    · by_cases hs : Q 1 k ≤ M (174 + 2 * i) 3
      · refine ⟨st2 (st2 x n k (vI (M (175 + 2 * i) k))) m k (nI (M (174 + 2 * i) 3)), ?_, by rw [if_pos ⟨hb, hs⟩]; exact e2.st hnm hk⟩
        show lX3_redo_2 _ _ _ _ _ _ = lX3_redo_2 _ _ _ _ _ _
        rw [lX3_redo_2, if_neg (by rw [li10, le_nn (by omega) (by omega)]; omega), r6, f_hasBit (by omega) (by omega), bq]
        dsimp only
        rw [if_pos hb, inb_T hk (by omega), nI_ck (by omega)]
        simp only [gdT]
        rw [if_neg (by rw [r3, r1, lt_nn (by omega) (by omega)]; omega), bq, bq, rk, st2_o _ _ (by omega), r3, nI_1]
      · refine ⟨x, ?_, by rw [if_neg (fun z => hs z.2)]; exact e2⟩
        show lX3_redo_2 _ _ _ _ _ _ = lX3_redo_2 _ _ _ _ _ _
        rw [lX3_redo_2, if_neg (by rw [li10, le_nn (by omega) (by omega)]; omega), r6, f_hasBit (by omega) (by omega), bq]
        dsimp only
        rw [if_pos hb, inb_T hk (by omega), nI_ck (by omega)]
        simp only [gdT]
        rw [if_pos (by rw [r3, r1, lt_nn (by omega) (by omega)]; omega), bq, nI_1]
    · refine ⟨x, ?_, by rw [if_neg (fun z => hb z.1)]; exact e2⟩
      show lX3_redo_2 _ _ _ _ _ _ = lX3_redo_2 _ _ _ _ _ _
      rw [lX3_redo_2, if_neg (by rw [li10, le_nn (by omega) (by omega)]; omega), r6, f_hasBit (by omega) (by omega), bq]
      dsimp only
      rw [if_neg hb, bq, nI_1]
theorem k_recIn {a s : Mem} {M B q : F2} {nw n m f d w : Nat} (hl : M 146 11 ≤ 30) (h : ∀ i j, i < M 146 11 → a (174 + 2 * i) j = nI (M (174 + 2 * i) j)) (h2 : ∀ i j, i < M 146 11 → a (174 + 2 * i + 1) j = vI (M (175 + 2 * i) j)) (h11 : a 146 11 = nI (M 146 11)) (ln : ∀ i, i < M 146 11 → lnO nw B M i) (hnw : nw ≤ 4) (hw : w < 4) (hf : f < 16) (hd : d ≤ 50) (hq : RQ a s n m q) (h5 : q51 q) (hnm : n ≠ m) (hn : n ≠ 146 ∧ ¬ (174 ≤ n ∧ n < 234)) (hm : m ≠ 146 ∧ ¬ (174 ≤ m ∧ m < 234)) : ∃ s', lX3_recover_38 (nI f) n m (nI d) (nI w) FU 0 s = some s' ∧ RQ a s' n m (itr (rcL f d w M) 0 (M 146 11) q) := by
  have l5 : ∀ i, i < M 146 11 → M (174 + 2 * i) 3 ≤ 5100 := fun i hi => (ln i hi).2.2.2.1
  refine loop_k (fun g j (x : Mem) => lX3_recover_38 (nI f) n m (nI d) (nI w) g (nI j) x) (M 146 11) (fun j x => RQ a x n m (itr (rcL f d w M) 0 j q)) (fun x => RQ a x n m (itr (rcL f d w M) 0 (M 146 11) q)) (Nat.zero_le _) (by omega) (s := s) hq ?_ ?_ ?_
  · intro r e1 e2
    exact ⟨r, e1, e2⟩
  · intro g x e2
    refine ⟨x, ?_, e2⟩
    show lX3_recover_38 _ _ _ _ _ _ _ _ = _
    rw [lX3_recover_38, if_pos (by rw [e2.2.2.1 146 (by omega) (by omega), h11, le_nn (by omega) (by omega)]; omega)]
  · intro g i x hi e2
    have l0 := (ln i hi).1
    have x11 : x 146 11 = nI (M 146 11) := by rw [e2.2.2.1 146 (by omega) (by omega)]; exact h11
    have xl : ∀ j, x (174 + 2 * i) j = nI (M (174 + 2 * i) j) := fun j => by rw [e2.2.2.1 _ (by omega) (by omega)]; exact h i j hi
    have ks := k_srv (f := f) (d := d) xl (ln i hi) hnw hf hd
    have hq5 : q51 (itr (rcL f d w M) 0 i q) := h5.oI i (fun j hj => l5 j (by omega))
    have hS : itr (rcL f d w M) 0 (i + 1) q = rcL f d w M i (itr (rcL f d w M) 0 i q) := itr_S _ _ _
    rw [hS]
    generalize itr (rcL f d w M) 0 i q = Q at *
    have e5 : lX3_recover_38 (nI f) n m (nI d) (nI w) (g + 1) (nI i) x = ((if x (174 + 2 * i) 0 = nI w then (if srv f d M i = true then ((fX3_redo (174 + 2 * i) n m x).bind fun q49 => some q49) else some x) else some x) : Option Mem).bind fun q52 => lX3_recover_38 (nI f) n m (nI d) (nI w) g (nI (i + 1)) q52 := by
      rw [lX3_recover_38, if_neg (by rw [x11, le_nn (by omega) (by omega)]; omega), inb_T (show i < 30 by omega) (by omega), nI_ck (by omega)]
      simp only [gdT]
      rw [ks, bq, nI_1]
    unfold rcL
    by_cases hw0 : M (174 + 2 * i) 0 = w
    · rw [if_pos (by rw [xl, hw0])] at e5
      by_cases hs : srv f d M i = true
      · rw [if_pos hs] at e5
        have hRx : RQ a x n m Q := e2
        obtain ⟨s', p1, p2⟩ := k_redo (s := x) (by omega) (fun j => h i j hi) (fun j => h2 i j hi) (ln i hi) e2 hq5 hnm hn.2 hm.2
        rw [p1, bq, bq] at e5
        exact ⟨s', e5, by rw [if_pos ⟨hw0, hs⟩]; exact p2⟩
      · rw [if_neg hs, bq] at e5
        exact ⟨x, e5, by rw [if_neg (fun z => hs z.2)]; exact e2⟩
    · rw [if_neg (by rw [xl, eq_nn (by omega) (by omega)]; exact hw0), bq] at e5
      exact ⟨x, e5, by rw [if_neg (fun z => hw0 z.1)]; exact e2⟩
theorem q51.oW {M q : F2} {f d : Nat} (h : q51 q) (hs : ∀ i, i < M 146 11 → M (174 + 2 * i) 3 ≤ 5100) : ∀ n, q51 (itr (fun w q => itr (rcL f d w M) 0 (M 146 11) q) 0 n q)
  | 0 => h
  | n + 1 => by rw [itr_S]; exact (q51.oW h hs n).oI _ hs
theorem k_recover {a : Mem} {M B : F2} {s sp wk bn nw D n m f : Nat} {c : Nat → Nat} (hX : CX a M s sp wk c bn B) (ok : okM sp nw D B M) (hf : f < 16) (hnm : n ≠ m) (hn : (n = 147 ∨ 234 ≤ n)) (hm : (m = 148 ∨ 234 ≤ m)) : ∃ a', fX3_recover (nI f) n m a = some a' ∧ RQ a a' n m (rcv f c M) := by
  have l30 := ok.l30
  have kd := k_dur (f := f) hX.1 ok hf
  have d50 := dur50 f M
  obtain ⟨⟨o1, o2, o3⟩, -, -, -, -, o8, -⟩ := ok
  obtain ⟨h, hE, h0, h1⟩ := hX
  unfold fX3_recover rcv
  rw [kd, bq]
  dsimp only
  generalize dur f M = d at *
  have e0 : a 146 0 = nI (8 + 14 * s) := by rw [h.e3, h0]
  have hs2 := hE.1
  rw [e0, rfN_n (by omega), isB_st hs2, gdT]
  unfold fX11_copyKeys
  rw [bq]
  obtain ⟨a2, p1, p2, p3, p4⟩ := fillL (cp2 a (8 + 14 * s + 1) n 0 0 10) (c := m) (N := 10) (nI 0) (by omega)
  have p1' : fJ7_fill_53178 m 10 0 (cp2 a (8 + 14 * s + 1) n 0 0 10) = some a2 := p1
  rw [p1', bq]
  have hq0 : RQ a a2 n m (G0 c) := by
    refine ⟨fun k hk => ?_, fun k hk => p2 k hk, fun x x1 x2 => by rw [p4 x x2, cp2_c _ x1], fun j hj => ⟨?_, ?_⟩⟩
    · rw [p4 n hnm, cp2_g, if_pos ⟨rfl, hk⟩]; exact hE.2.2.2.2.1.2.2 k hk
    · rw [p4 n hnm, cp2_g, if_neg (fun z => hj z.2)]
    · rw [p3 j hj, cp2_c _ (fun z => hnm z.symm)]
  have q0 : q51 (G0 c) := fun k _ => by show 0 ≤ 5100; omega
  have l5 : ∀ i, i < M 146 11 → M (174 + 2 * i) 3 ≤ 5100 := fun i hi => (o8 i hi).2.2.2.1
  rw [o3]
  refine loop_k (fun g j (x : Mem) => lX3_recover_26 (nI f) n m (nI d) g (nI j) x) nw (fun j x => RQ a x n m (itr (fun w q => itr (rcL f d w M) 0 (M 146 11) q) 0 j (G0 c))) (fun x => RQ a x n m (itr (fun w q => itr (rcL f d w M) 0 (M 146 11) q) 0 nw (G0 c))) (Nat.zero_le _) (by omega) (s := a2) hq0 ?_ ?_ ?_
  · intro r e1 e2
    have e1' : lX3_recover_26 (nI f) n m (nI d) FU 0 a2 = some r := e1
    rw [e1', bq]; exact ⟨r, rfl, e2⟩
  · intro g x e2
    refine ⟨x, ?_, e2⟩
    show lX3_recover_26 _ _ _ _ _ _ _ = _
    rw [lX3_recover_26, if_pos (by rw [e2.2.2.1 146 (by omega) (by omega), h.e3, o3, le_nn (by omega) (by omega)]; omega)]
  · intro g w x hw e2
    obtain ⟨s', r1, r2⟩ := k_recIn (a := a) (s := x) (f := f) (d := d) (w := w) l30 (fun i j hi => h.ln (by omega)) (fun i j hi => h.lw (by omega)) h.e3 o8 o2 (by omega) hf d50 e2 (q0.oW l5 w) hnm (by omega) (by omega)
    refine ⟨s', ?_, by rw [itr_S]; exact r2⟩
    show lX3_recover_26 _ _ _ _ _ _ _ = lX3_recover_26 _ _ _ _ _ _ _
    rw [lX3_recover_26, if_neg (by rw [e2.2.2.1 146 (by omega) (by omega), h.e3, o3, le_nn (by omega) (by omega)]; omega), r1, bq, nI_1]
