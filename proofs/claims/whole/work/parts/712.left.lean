/-! ===== what a crash leaves: lines in the order of their stamps ===== -/
abbrev wrK (M : F2) (i k : Nat) : Prop := (M (174 + 2 * i) 6).testBit k = true
def gtP (M : F2) (i j : Nat) : Prop := M (174 + 2 * j) 3 < M (174 + 2 * i) 3 ∨ (M (174 + 2 * i) 3 = M (174 + 2 * j) 3 ∧ M (174 + 2 * j) 0 < M (174 + 2 * i) 0)
/-- at each key the greatest line's value and stamp, of the lines in P -/
def topK (c : Nat → Nat) (M : F2) (P : Nat → Prop) (q : F2) : Prop := ∀ k, k < 10 → ((∀ i, P i → ¬ wrK M i k) ∧ q 0 k = c k ∧ q 1 k = 0) ∨ ∃ i, P i ∧ wrK M i k ∧ q 0 k = M (175 + 2 * i) k ∧ q 1 k = M (174 + 2 * i) 3 ∧ ∀ j, P j → wrK M j k → ¬ gtP M j i
theorem topK.cg {c : Nat → Nat} {M q : F2} {P P' : Nat → Prop} (h : topK c M P q) (e : ∀ i, P i ↔ P' i) : topK c M P' q := fun k hk => by
  rcases h k hk with ⟨h1, h2⟩ | ⟨i, h1, h2, h3, h4, h5⟩
  · exact Or.inl ⟨fun i hi => h1 i ((e i).mpr hi), h2⟩
  · exact Or.inr ⟨i, (e i).mp h1, h2, h3, h4, fun j hj => h5 j ((e j).mpr hj)⟩
theorem topK.uq {c : Nat → Nat} {M q q' : F2} {P : Nat → Prop} (h : topK c M P q) (h' : topK c M P q') (hu : ∀ i j, P i → P j → M (174 + 2 * i) 3 = M (174 + 2 * j) 3 → M (174 + 2 * i) 0 = M (174 + 2 * j) 0 → i = j) : ∀ k, k < 10 → q 0 k = q' 0 k ∧ q 1 k = q' 1 k := fun k hk => by
  rcases h k hk with ⟨h1, h2, h3⟩ | ⟨i, h1, h2, h3, h4, h5⟩
  · rcases h' k hk with ⟨g1, g2, g3⟩ | ⟨j, g1, g2, g3, g4, g5⟩
    · exact ⟨by rw [h2, g2], by rw [h3, g3]⟩
    · exact absurd g2 (h1 j g1)
  · rcases h' k hk with ⟨g1, g2, g3⟩ | ⟨j, g1, g2, g3, g4, g5⟩
    · exact absurd h2 (g1 i h1)
    · have a1 := h5 j g1 g2
      have a2 := g5 i h1 h2
      unfold gtP at a1 a2
      have e : i = j := hu i j h1 g1 (by omega) (by omega)
      subst e
      exact ⟨by rw [h3, g3], by rw [h4, g4]⟩
theorem ifc {α : Type} {p q : Prop} [Decidable p] [Decidable q] {x y : α} (h : p ↔ q) : (if p then x else y) = (if q then x else y) := by
  by_cases z : q
  · rw [if_pos z, if_pos (h.mpr z)]
  · rw [if_neg z, if_neg (fun w => z (h.mp w))]
theorem rdI_e {M q : F2} {i k : Nat} : ∀ n, (itr (rdS M i) 0 n q 0 k = if k < n ∧ wrK M i k ∧ q 1 k ≤ M (174 + 2 * i) 3 then M (175 + 2 * i) k else q 0 k) ∧ (itr (rdS M i) 0 n q 1 k = if k < n ∧ wrK M i k ∧ q 1 k ≤ M (174 + 2 * i) 3 then M (174 + 2 * i) 3 else q 1 k) := by
  intro n
  induction n generalizing k with
  | zero => exact ⟨(if_neg (fun z => absurd z.1 (by omega))).symm, (if_neg (fun z => absurd z.1 (by omega))).symm⟩
  | succ n ih =>
    obtain ⟨e0, e1⟩ := ih (k := k)
    have e1n := (ih (k := n)).2
    rw [if_neg (fun z => absurd z.1 (by omega))] at e1n
    rw [itr_S]
    generalize itr (rdS M i) 0 n q = q' at *
    unfold rdS
    by_cases hk : k = n
    · subst hk
      rw [if_neg (fun z => absurd z.1 (by omega))] at e0
      by_cases hh : (M (174 + 2 * i) 6).testBit k = true ∧ q' 1 k ≤ M (174 + 2 * i) 3
      · have h2 : k < k + 1 ∧ wrK M i k ∧ q 1 k ≤ M (174 + 2 * i) 3 := ⟨by omega, hh.1, by rw [← e1n]; exact hh.2⟩
        rw [if_pos hh, if_pos h2, if_pos h2, up_o _ (by omega), up_e, up_e]
        exact ⟨rfl, rfl⟩
      · have h2 : ¬ (k < k + 1 ∧ wrK M i k ∧ q 1 k ≤ M (174 + 2 * i) 3) := fun z => hh ⟨z.2.1, by rw [e1n]; exact z.2.2⟩
        rw [if_neg hh, if_neg h2, if_neg h2]
        exact ⟨e0, e1n⟩
    · have hc : (k < n + 1 ∧ wrK M i k ∧ q 1 k ≤ M (174 + 2 * i) 3) ↔ (k < n ∧ wrK M i k ∧ q 1 k ≤ M (174 + 2 * i) 3) := ⟨fun z => ⟨by have := z.1; omega, z.2⟩, fun z => ⟨by have := z.1; omega, z.2⟩⟩
      rw [ifc hc, ifc hc, ← e0, ← e1]
      split
      · rw [up_o _ (by omega), up_o _ (by omega), up_o _ (by omega), up_o _ (by omega)]; exact ⟨rfl, rfl⟩
      · exact ⟨rfl, rfl⟩
theorem topK.line {c : Nat → Nat} {M q : F2} {P : Nat → Prop} {i0 : Nat} (h : topK c M P q) (hP : ∀ i, P i → M (174 + 2 * i) 0 ≤ M (174 + 2 * i0) 0) : topK c M (fun i => P i ∨ i = i0) (itr (rdS M i0) 0 10 q) := fun k hk => by
  obtain ⟨e0, e1⟩ := rdI_e (M := M) (q := q) (i := i0) (k := k) 10
  by_cases hh : k < 10 ∧ wrK M i0 k ∧ q 1 k ≤ M (174 + 2 * i0) 3
  · rw [if_pos hh] at e0 e1
    right
    refine ⟨i0, Or.inr rfl, hh.2.1, e0, e1, ?_⟩
    rintro j (hj | hj) hw
    · rcases h k hk with ⟨h1, -⟩ | ⟨i, h1, h2, h3, h4, h5⟩
      · exact absurd hw (h1 j hj)
      · have a1 := h5 j hj hw
        have a2 := hP j hj
        have a3 := hh.2.2
        rw [h4] at a3
        unfold gtP at *
        omega
    · rw [hj]; unfold gtP; omega
  · rw [if_neg hh] at e0 e1
    rcases h k hk with ⟨h1, h2, h3⟩ | ⟨i, h1, h2, h3, h4, h5⟩
    · left
      refine ⟨?_, by rw [e0]; exact h2, by rw [e1]; exact h3⟩
      rintro j (hj | hj)
      · exact h1 j hj
      · intro hw; rw [hj] at hw; exact hh ⟨hk, hw, by rw [h3]; omega⟩
    · right
      refine ⟨i, Or.inl h1, h2, by rw [e0]; exact h3, by rw [e1]; exact h4, ?_⟩
      rintro j (hj | hj) hw
      · exact h5 j hj hw
      · rw [hj] at hw ⊢
        have a3 : ¬ q 1 k ≤ M (174 + 2 * i0) 3 := fun z => hh ⟨hk, hw, z⟩
        rw [h4] at a3; unfold gtP; omega
theorem top_in {c : Nat → Nat} {M q : F2} {P : Nat → Prop} {f d w : Nat} (hP : topK c M P q) (hw : ∀ i, P i → M (174 + 2 * i) 0 ≤ w) : ∀ m, topK c M (fun i => P i ∨ (i < m ∧ M (174 + 2 * i) 0 = w ∧ srv f d M i = true)) (itr (rcL f d w M) 0 m q) := by
  intro m
  induction m with
  | zero => exact hP.cg (fun i => ⟨Or.inl, fun z => z.elim id (fun y => absurd y.1 (by omega))⟩)
  | succ m h =>
    rw [itr_S]
    generalize itr (rcL f d w M) 0 m q = q' at *
    unfold rcL
    by_cases hh : M (174 + 2 * m) 0 = w ∧ srv f d M m = true
    · rw [if_pos hh]
      refine (h.line (i0 := m) (fun i hi => ?_)).cg (fun i => ⟨?_, ?_⟩)
      · rcases hi with hi | hi
        · rw [hh.1]; exact hw i hi
        · rw [hi.2.1, hh.1]; exact Nat.le_refl _
      · rintro ((a | a) | a)
        · exact Or.inl a
        · exact Or.inr ⟨by have := a.1; omega, a.2⟩
        · exact Or.inr ⟨by omega, by rw [a]; exact hh⟩
      · rintro (a | a)
        · exact Or.inl (Or.inl a)
        · by_cases e : i = m
          · exact Or.inr e
          · exact Or.inl (Or.inr ⟨by have := a.1; omega, a.2⟩)
    · rw [if_neg hh]
      refine h.cg (fun i => ⟨?_, ?_⟩)
      · rintro (a | a)
        · exact Or.inl a
        · exact Or.inr ⟨by have := a.1; omega, a.2⟩
      · rintro (a | a)
        · exact Or.inl a
        · by_cases e : i = m
          · rw [e] at a; exact absurd a.2 hh
          · exact Or.inr ⟨by have := a.1; omega, a.2⟩
theorem rcv_top {f : Nat} {c : Nat → Nat} {M : F2} (hl : ∀ i, i < M 146 11 → M (174 + 2 * i) 0 < M 146 2) : topK c M (fun i => i < M 146 11 ∧ srv f (dur f M) M i = true) (rcv f c M) := by
  have go : ∀ W, topK c M (fun i => M (174 + 2 * i) 0 < W ∧ i < M 146 11 ∧ srv f (dur f M) M i = true) (itr (fun w q => itr (rcL f (dur f M) w M) 0 (M 146 11) q) 0 W (G0 c)) := by
    intro W
    induction W with
    | zero => exact fun k hk => Or.inl ⟨fun i hi => absurd hi.1 (by omega), rfl, rfl⟩
    | succ W ih =>
      rw [itr_S]
      refine (top_in (f := f) (d := dur f M) (w := W) ih (fun i hi => by have := hi.1; omega) (M 146 11)).cg (fun i => ⟨?_, ?_⟩)
      · rintro (a | a)
        · exact ⟨by have := a.1; omega, a.2⟩
        · exact ⟨by have := a.2.1; omega, a.1, a.2.2⟩
      · rintro ⟨a1, a2, a3⟩
        by_cases e : M (174 + 2 * i) 0 = W
        · exact Or.inr ⟨a2, e, a3⟩
        · exact Or.inl ⟨by omega, a2, a3⟩
  exact (go (M 146 2)).cg (fun i => ⟨fun z => z.2, fun z => ⟨hl i z.1, z⟩⟩)
/-! the reference's order -/
def gtB (M : F2) (i j : Nat) : Bool := decide (M (174 + 2 * j) 3 < M (174 + 2 * i) 3) || (decide (M (174 + 2 * i) 3 = M (174 + 2 * j) 3) && decide (lcW M j < lcW M i))
theorem gtB_p {M : F2} {i j : Nat} : gtB M i j = true ↔ (M (174 + 2 * j) 3 < M (174 + 2 * i) 3 ∨ (M (174 + 2 * i) 3 = M (174 + 2 * j) 3 ∧ lcW M j < lcW M i)) := by
  unfold gtB; rw [Bool.or_eq_true, Bool.and_eq_true, decide_eq_true_eq, decide_eq_true_eq, decide_eq_true_eq]
theorem lcW_le {nw : Nat} {B M : F2} {i : Nat} (li : lnO nw B M i) (hn : nw ≤ 4) : lcW M i ≤ 4 := by
  have := li.1
  unfold lcW; split <;> omega
theorem lcW_s {f d : Nat} {M : F2} {i : Nat} (h : srv f d M i = true) : lcW M i = M (174 + 2 * i) 0 + 1 := if_pos (srv9 h).1
theorem m_isBehind {b : Mem} {M B : F2} {nw i j : Nat} (hi : MLn b M i) (hj : MLn b M j) (li : lnO nw B M i) (lj : lnO nw B M j) (hn : nw ≤ 4) (i6 : i < 64) (j6 : j < 64) : fX12_isBehind (nI i) (nI j) b = some (gtB M i j, b) := by
  have a1 := lcW_le li hn
  have a2 := lcW_le lj hn
  have a3 := li.2.2.2.1
  have a4 := lj.2.2.2.1
  unfold fX12_isBehind
  rw [inb_T i6 (by omega), inb_T j6 (by omega), nI_ck (by omega), nI_ck (by omega)]
  simp only [gdT]
  rw [hi.2.2.2.1, hj.2.2.2.1, hi.1, hj.1]
  unfold gtB
  by_cases e : M (174 + 2 * i) 3 = M (174 + 2 * j) 3
  · rw [if_pos (by rw [e])]
    by_cases e2 : lcW M i ≤ lcW M j
    · rw [if_pos (by rw [le_vv (by omega) (by omega)]; exact e2), decide_eq_false (show ¬ M (174 + 2 * j) 3 < M (174 + 2 * i) 3 by omega), decide_eq_false (show ¬ lcW M j < lcW M i by omega), Bool.and_false, Bool.or_false]
    · rw [if_neg (by rw [le_vv (by omega) (by omega)]; exact e2), decide_eq_true e, decide_eq_true (show lcW M j < lcW M i by omega), Bool.and_true, Bool.or_true]
  · rw [if_neg (by rw [eq_nn (by omega) (by omega)]; exact e), decide_eq_false e, Bool.false_and, Bool.or_false]
    by_cases e2 : M (174 + 2 * i) 3 ≤ M (174 + 2 * j) 3
    · rw [if_pos (by rw [le_nn (by omega) (by omega)]; exact e2), decide_eq_false (show ¬ M (174 + 2 * j) 3 < M (174 + 2 * i) 3 by omega)]
    · rw [if_neg (by rw [le_nn (by omega) (by omega)]; exact e2), decide_eq_true (show M (174 + 2 * j) 3 < M (174 + 2 * i) 3 by omega)]
theorem m_isSafe {b : Mem} {M B : F2} {nw i d : Nat} (hi : MLn b M i) (li : lnO nw B M i) (hn : nw ≤ 4) (i6 : i < 64) (hd : d ≤ 50) : fX12_isSafe (nI i) (nI d) b = some (srv 0 d M i, b) := by
  obtain ⟨y1, y2, y3, y4, y5, -⟩ := hi
  have a1 := li.1
  have a2 := li.2.2.1
  have a8 : M (174 + 2 * i) 8 ≤ 1 := li.2.2.2.2.2.2.2.2.1
  unfold fX12_isSafe
  rw [inb_T i6 (by omega), nI_ck (by omega)]
  simp only [gdT]
  unfold srv
  rw [Nat.zero_testBit, Bool.or_false]
  by_cases z9 : M (174 + 2 * i) 9 = 0
  · have y1' : b 295 i = nI (M (174 + 2 * i) 0) := by rw [y1]; unfold lcW; rw [if_pos z9, vI_s]
    rw [if_neg (by rw [y1']; exact nI_m1 (by omega)), y5 z9, y3, decide_eq_true z9, Bool.true_and]
    by_cases z8 : M (174 + 2 * i) 8 = 0
    · rw [if_neg (by rw [li1, eq_nn (by omega) (by omega)]; omega), decide_eq_false (show ¬ M (174 + 2 * i) 8 ≠ 0 by omega), Bool.false_and]
    · rw [if_pos (by rw [li1, eq_nn (by omega) (by omega)]; omega), decide_eq_true z8, Bool.true_and]
      by_cases z2 : M (174 + 2 * i) 2 ≤ d
      · rw [if_neg (by rw [lt_nn (by omega) (by omega)]; omega), decide_eq_true z2]
      · rw [if_pos (by rw [lt_nn (by omega) (by omega)]; omega), decide_eq_false z2]
  · rw [if_pos (by rw [y1]; unfold lcW; rw [if_neg z9]; rfl), decide_eq_false z9, Bool.false_and, Bool.false_and]
def cnd (M : F2) (d had i : Nat) : Bool := srv 0 d M i && (decide (had = 0) || gtB M i (had - 1))
theorem cnd_p {M : F2} {d had i : Nat} : cnd M d had i = true ↔ srv 0 d M i = true ∧ (had = 0 ∨ gtB M i (had - 1) = true) := by
  unfold cnd; rw [Bool.and_eq_true, Bool.or_eq_true, decide_eq_true_eq]
/-- what nextSafe finds -/
def nxS (M : F2) (d had n r : Nat) : Prop := (r = 0 ∧ ∀ i, i < n → ¬ cnd M d had i = true) ∨ ∃ m, r = m + 1 ∧ m < n ∧ cnd M d had m = true ∧ ∀ i, i < n → cnd M d had i = true → i = m ∨ gtB M i m = true
def unq (M : F2) (d : Nat) : Prop := ∀ i j, i < M 146 11 → j < M 146 11 → srv 0 d M i = true → srv 0 d M j = true → M (174 + 2 * i) 3 = M (174 + 2 * j) 3 → M (174 + 2 * i) 0 = M (174 + 2 * j) 0 → i = j
theorem okM.unq {sp nw D d : Nat} {B M : F2} (ok : okM sp nw D B M) : unq M d := fun i j hi hj s1 s2 e3 e0 => by
  have h := ok.2.2.2.2.2.2.1
  rcases Nat.lt_trichotomy i j with z | z | z
  · have := h i j z hj (srv9 s1).1 (srv9 s2).1 e0; omega
  · exact z
  · have := h j i z hi (srv9 s2).1 (srv9 s1).1 e0.symm; omega
theorem m_nextSafe {b : Mem} {M B : F2} {nw d had : Nat} (h : ∀ i, i < M 146 11 → MLn b M i) (ln : ∀ i, i < M 146 11 → lnO nw B M i) (hn : nw ≤ 4) (h30 : M 146 11 ≤ 30) (e54 : b 269 54 = nI (M 146 11)) (hd : d ≤ 50) (hh : had ≤ M 146 11) (hu : unq M d) : ∃ r, fX12_nextSafe (vI had) (nI d) b = some (vI r, b) ∧ nxS M d had (M 146 11) r := by
  unfold fX12_nextSafe
  refine loop_k (fun f j (s : Nat) => lX12_nextSafe_5 (vI had) (nI d) f (vI s) (nI j) b) (M 146 11) (fun j s => s ≤ j ∧ nxS M d had j s) (fun r => ∃ s, r = (vI s, b) ∧ nxS M d had (M 146 11) s) (Nat.zero_le _) (by omega) (s := 0) ⟨by omega, Or.inl ⟨rfl, fun i hi => absurd hi (by omega)⟩⟩ ?_ ?_ ?_
  · rintro r e1 ⟨s, rfl, e2⟩
    have e1' : lX12_nextSafe_5 (vI had) (nI d) FU (-1) 0 b = some (vI s, b) := e1
    rw [e1', bq]
    exact ⟨s, rfl, e2⟩
  · rintro f s ⟨-, e2⟩
    refine ⟨_, ?_, s, rfl, e2⟩
    show lX12_nextSafe_5 _ _ _ _ _ _ = _
    rw [lX12_nextSafe_5, if_pos (by rw [e54, le_nn (by omega) (by omega)]; omega)]
  · rintro f j s hj ⟨hs, hx⟩
    have ha : ((if vI had = (-1) then (some (true, b)) else ((fX12_isBehind (nI j) (vI had) b).bind fun q17 => if q17.1 = true then (some (true, q17.2)) else (some (false, q17.2)))) : Option (Bool × Mem)) = some (decide (had = 0) || gtB M j (had - 1), b) := by
      by_cases z : had = 0
      · rw [if_pos (by rw [z]; rfl), decide_eq_true z, Bool.true_or]
      · rw [if_neg (by rw [v0, eq_vv (by omega) (by omega)]; exact z), vI_p (by omega), m_isBehind (h j hj) (h (had - 1) (by omega)) (ln j hj) (ln (had - 1) (by omega)) hn (by omega) (by omega), bq, decide_eq_false z, Bool.false_or]
        cases gtB M j (had - 1) <;> rfl
    have hsf := m_isSafe (d := d) (h j hj) (ln j hj) hn (by omega) hd
    have step : ∀ s', ((if srv 0 d M j = true then (if (decide (had = 0) || gtB M j (had - 1)) = true then (if vI s = (-1) then (some (nI j, b)) else ((fX12_isBehind (vI s) (nI j) b).bind fun q25 => if q25.1 = true then (some (nI j, q25.2)) else (some (vI s, q25.2)))) else (some (vI s, b))) else (some (vI s, b))) : Option (Int32 × Mem)) = some (vI s', b) → lX12_nextSafe_5 (vI had) (nI d) (f + 1) (vI s) (nI j) b = lX12_nextSafe_5 (vI had) (nI d) f (vI s') (nI (j + 1)) b := fun s' hs' => by
      rw [lX12_nextSafe_5, if_neg (by rw [e54, le_nn (by omega) (by omega)]; omega), ha, bq]
      dsimp only
      rw [hsf, bq]
      dsimp only
      rw [hs', bq, nI_1]
    by_cases hc : cnd M d had j = true
    · have hc' := cnd_p.mp hc
      have h2 : (decide (had = 0) || gtB M j (had - 1)) = true := by rw [Bool.or_eq_true, decide_eq_true_eq]; exact hc'.2
      rw [if_pos hc'.1, if_pos h2] at step
      rcases hx with ⟨x1, x2⟩ | ⟨m, x1, x2, x3, x4⟩
      · refine ⟨j + 1, step (j + 1) ?_, by omega, Or.inr ⟨j, rfl, by omega, hc, fun i hi hci => ?_⟩⟩
        · rw [if_pos (by rw [x1]; rfl), vI_s]
        · by_cases e : i = j
          · exact Or.inl e
          · exact absurd hci (x2 i (by omega))
      · have hb : fX12_isBehind (vI s) (nI j) b = some (gtB M m j, b) := by rw [x1, vI_s]; exact m_isBehind (h m (by omega)) (h j hj) (ln m (by omega)) (ln j hj) hn (by omega) (by omega)
        rw [if_neg (by rw [v0, eq_vv (by omega) (by omega)]; omega), hb, bq] at step
        dsimp only at step
        by_cases hg : gtB M m j = true
        · rw [if_pos hg] at step
          refine ⟨j + 1, step (j + 1) (by rw [vI_s]), by omega, Or.inr ⟨j, rfl, by omega, hc, fun i hi hci => ?_⟩⟩
          by_cases e : i = j
          · exact Or.inl e
          · right
            rcases x4 i (by omega) hci with rfl | z
            · exact hg
            · rw [gtB_p] at z hg ⊢; omega
        · rw [if_neg hg] at step
          refine ⟨s, step s rfl, by omega, Or.inr ⟨m, x1, by omega, x3, fun i hi hci => ?_⟩⟩
          by_cases e : i = j
          · right
            subst e
            have := hu i m (by omega) (by omega) (cnd_p.mp hci).1 (cnd_p.mp x3).1
            rw [gtB_p] at hg ⊢
            rw [lcW_s (cnd_p.mp hci).1, lcW_s (cnd_p.mp x3).1] at hg ⊢
            omega
          · exact x4 i (by omega) hci
    · refine ⟨s, step s ?_, by omega, ?_⟩
      · by_cases z1 : srv 0 d M j = true
        · rw [if_pos z1, if_neg (fun z => hc (cnd_p.mpr ⟨z1, by rw [Bool.or_eq_true, decide_eq_true_eq] at z; exact z⟩))]
        · rw [if_neg z1]
      · rcases hx with ⟨x1, x2⟩ | ⟨m, x1, x2, x3, x4⟩
        · refine Or.inl ⟨x1, fun i hi => ?_⟩
          by_cases e : i = j
          · rw [e]; exact hc
          · exact x2 i (by omega)
        · refine Or.inr ⟨m, x1, by omega, x3, fun i hi hci => ?_⟩
          by_cases e : i = j
          · rw [e] at hci; exact absurd hci hc
          · exact x4 i (by omega) hci
/-! one line laid over what is left -/
def LV (b : Mem) (q : F2) : Prop := b 269 66 = nI (thr (q 0)) ∧ (∀ k, k < 10 → b 306 k = nI (q 0 k - 1)) ∧ ∀ k, k < 10 → b 307 k = nI (q 1 k)
def frL (b b' : Mem) : Prop := (∀ j, j ≠ 66 → b' 269 j = b 269 j) ∧ ∀ m, m ≠ 269 → m ≠ 306 → m ≠ 307 → b' m = b m
theorem frL.rf {b : Mem} : frL b b := ⟨fun _ _ => rfl, fun _ _ _ _ => rfl⟩
theorem frL.tr {b b' b'' : Mem} (h : frL b b') (h2 : frL b' b'') : frL b b'' := ⟨fun j hj => (h2.1 j hj).trans (h.1 j hj), fun m m1 m2 m3 => (h2.2 m m1 m2 m3).trans (h.2 m m1 m2 m3)⟩
theorem frL.O {b b' : Mem} (h : frL b b') : frO b b' := ⟨fun j hj => h.1 j (by omega), fun m hm => h.2 m (by omega) (by omega) (by omega)⟩
theorem LV.cg {b : Mem} {q q' : F2} (h : LV b q) (e : ∀ k, k < 10 → q 0 k = q' 0 k ∧ q 1 k = q' 1 k) : LV b q' := by
  obtain ⟨h1, h2, h3⟩ := h
  exact ⟨by rw [h1, thr_cg (fun k hk => (e k hk).1)], fun k hk => by rw [h2 k hk, (e k hk).1], fun k hk => by rw [h3 k hk, (e k hk).2]⟩
theorem LV.put {b : Mem} {q : F2} {k v x : Nat} (h : LV b q) (hk : k < 10) : LV (st2 (st2 (st2 b 269 66 (nI (thr (upf (q 0) k v)))) 306 k (nI (v - 1))) 307 k (nI x)) (up (up q 0 k v) 1 k x) := by
  obtain ⟨h1, h2, h3⟩ := h
  refine ⟨?_, fun j hj => ?_, fun j hj => ?_⟩
  · rw [st2_o _ _ (by omega), st2_o _ _ (by omega), st2_eq]
    congr 1
    refine thr_cg (fun j hj => ?_)
    by_cases e : j = k
    · rw [upf_k _ e, up_o _ (by omega), up_k _ ⟨rfl, e⟩]
    · rw [upf_o _ e, up_o _ (by omega), up_o _ (by omega)]
  · rw [st2_o _ _ (by omega)]
    by_cases e : j = k
    · subst e; rw [st2_eq, up_o _ (by omega), up_e]
    · rw [st2_o _ _ (by omega), st2_o _ _ (by omega), up_o _ (by omega), up_o _ (by omega)]; exact h2 j hj
  · by_cases e : j = k
    · subst e; rw [st2_eq, up_e]
    · rw [st2_o _ _ (by omega), st2_o _ _ (by omega), st2_o _ _ (by omega), up_o _ (by omega), up_o _ (by omega)]; exact h3 j hj
def ovS (M : F2) (i k : Nat) (q : F2) : F2 := if wrK M i k then up (up q 0 k (M (175 + 2 * i) k)) 1 k (M (174 + 2 * i) 3) else q
theorem ovI_e {M q : F2} {i k : Nat} : ∀ n, (itr (ovS M i) 0 n q 0 k = if k < n ∧ wrK M i k then M (175 + 2 * i) k else q 0 k) ∧ (itr (ovS M i) 0 n q 1 k = if k < n ∧ wrK M i k then M (174 + 2 * i) 3 else q 1 k) := by
  intro n
  induction n generalizing k with
  | zero => exact ⟨(if_neg (fun z => absurd z.1 (by omega))).symm, (if_neg (fun z => absurd z.1 (by omega))).symm⟩
  | succ n ih =>
    obtain ⟨e0, e1⟩ := ih (k := k)
    rw [itr_S]
    generalize itr (ovS M i) 0 n q = q' at *
    unfold ovS
    by_cases hk : k = n
    · subst hk
      rw [if_neg (fun z => absurd z.1 (by omega))] at e0 e1
      by_cases hh : wrK M i k
      · have h2 : k < k + 1 ∧ wrK M i k := ⟨by omega, hh⟩
        rw [if_pos hh, if_pos h2, if_pos h2, up_o _ (by omega), up_e, up_e]
        exact ⟨rfl, rfl⟩
      · have h2 : ¬ (k < k + 1 ∧ wrK M i k) := fun z => hh z.2
        rw [if_neg hh, if_neg h2, if_neg h2]
        exact ⟨e0, e1⟩
    · have hc : (k < n + 1 ∧ wrK M i k) ↔ (k < n ∧ wrK M i k) := ⟨fun z => ⟨by have := z.1; omega, z.2⟩, fun z => ⟨by have := z.1; omega, z.2⟩⟩
      rw [ifc hc, ifc hc, ← e0, ← e1]
      split
      · rw [up_o _ (by omega), up_o _ (by omega), up_o _ (by omega), up_o _ (by omega)]; exact ⟨rfl, rfl⟩
      · exact ⟨rfl, rfl⟩
theorem topK.ov {c : Nat → Nat} {M q : F2} {P : Nat → Prop} {i0 : Nat} (h : topK c M P q) (hP : ∀ i, P i → ¬ gtP M i i0) : topK c M (fun i => P i ∨ i = i0) (itr (ovS M i0) 0 10 q) := fun k hk => by
  obtain ⟨e0, e1⟩ := ovI_e (M := M) (q := q) (i := i0) (k := k) 10
  by_cases hh : k < 10 ∧ wrK M i0 k
  · rw [if_pos hh] at e0 e1
    right
    refine ⟨i0, Or.inr rfl, hh.2, e0, e1, ?_⟩
    rintro j (hj | hj) hw
    · exact hP j hj
    · rw [hj]; unfold gtP; omega
  · rw [if_neg hh] at e0 e1
    rcases h k hk with ⟨h1, h2, h3⟩ | ⟨i, h1, h2, h3, h4, h5⟩
    · left
      refine ⟨?_, by rw [e0]; exact h2, by rw [e1]; exact h3⟩
      rintro j (hj | hj)
      · exact h1 j hj
      · intro hw; rw [hj] at hw; exact hh ⟨hk, hw⟩
    · right
      refine ⟨i, Or.inl h1, h2, by rw [e0]; exact h3, by rw [e1]; exact h4, ?_⟩
      rintro j (hj | hj) hw
      · exact h5 j hj hw
      · rw [hj] at hw; exact absurd ⟨hk, hw⟩ hh
theorem m_over {b : Mem} {M B q : F2} {nw i : Nat} {x1 : Int32} (hi : MLn b M i) (li : lnO nw B M i) (i6 : i < 64) (hq : LV b q) : ∃ b', lX12_layLeft_62 x1 (nI i) FU 0 b = some b' ∧ LV b' (itr (ovS M i) 0 10 q) ∧ frL b b' := by
  refine loop_k (fun f j (s : Mem) => lX12_layLeft_62 x1 (nI i) f (nI j) s) 10 (fun j s => LV s (itr (ovS M i) 0 j q) ∧ frL b s) (fun s => LV s (itr (ovS M i) 0 10 q) ∧ frL b s) (Nat.zero_le _) (by omega) (s := b) ⟨hq, frL.rf⟩ ?_ ?_ ?_
  · intro r e1 h; exact ⟨r, e1, h⟩
  · intro f s h
    refine ⟨s, ?_, h⟩
    show lX12_layLeft_62 _ _ _ _ _ = _
    rw [lX12_layLeft_62, if_pos (by decide)]
  · rintro f k s hk ⟨h1, h2⟩
    have e3 : s 303 (10 * i + k) = wI (lcV M i k) := by rw [h2.2 303 (by omega) (by omega) (by omega)]; exact hi.2.2.2.2.2.2.2.2 k hk
    have e8 : ∀ y z, (st2 (st2 s 269 66 y) 306 k z) 298 i = nI (M (174 + 2 * i) 3) := fun y z => by rw [st2_o _ _ (by omega), st2_o _ _ (by omega), h2.2 298 (by omega) (by omega) (by omega)]; exact hi.2.2.2.1
    rw [itr_S]
    generalize itr (ovS M i) 0 k q = q' at *
    have ht := thr_lt (q' 0)
    by_cases hb : wrK M i k
    · have ev : lcV M i k = M (175 + 2 * i) k + 1 := by unfold lcV; rw [if_pos hb]
      have l3 : M (175 + 2 * i) k ≤ 100 := li.2.2.2.2.2.2.2.2.2.2.1 k hk hb
      rw [ev, wI_s] at e3
      have eo : ovS M i k q' = up (up q' 0 k (M (175 + 2 * i) k)) 1 k (M (174 + 2 * i) 3) := if_pos hb
      rw [eo]
      generalize M (175 + 2 * i) k = v at *
      refine ⟨st2 (st2 (st2 s 269 66 (nI (thr (upf (q' 0) k v)))) 306 k (nI (v - 1))) 307 k (nI (M (174 + 2 * i) 3)), ?_, h1.put hk, h2.tr ⟨fun j hj => by rw [st2_o _ _ (by omega), st2_o _ _ (by omega), st2_o _ _ (by omega)], fun m m1 m2 m3 => by rw [st2_c _ _ m3, st2_c _ _ m2, st2_c _ _ m1]⟩⟩
      show lX12_layLeft_62 _ _ _ _ _ = lX12_layLeft_62 _ _ _ _ _
      have a1 : ((if vI v = -1 then some (s 269 66 &&& ((1 : Int32) <<< (nI k &&& 31) ^^^ -1)) else some (s 269 66 ||| (1 : Int32) <<< (nI k &&& 31))) : Option Int32) = some (nI (thr (upf (q' 0) k v))) := by
        rw [sh1 (by omega), h1.1]
        by_cases z : v = 0
        · rw [if_pos (by rw [z]; rfl), z, nI_clr (thr_clr (c := q' 0))]
        · rw [if_neg (by rw [v0, eq_vv (by omega) (by omega)]; exact z), nI_or, thr_set hk z]
      have a2 : ((if vI v = -1 then some 0 else some (vI v)) : Option Int32) = some (nI (v - 1)) := by
        by_cases z : v = 0
        · rw [if_pos (by rw [z]; rfl), z]; rfl
        · rw [if_neg (by rw [v0, eq_vv (by omega) (by omega)]; exact z), vI_p (by omega)]
      rw [lX12_layLeft_62, if_neg (by rw [li10, le_nn (by omega) (by omega)]; omega), ix10, inb_T (show 10 * i + k < 640 by omega) (by omega), nI_ck (show 10 * i + k < 2147483648 by omega), nI_ck (show k < 2147483648 by omega), nI_ck (show i < 2147483648 by omega), inb_T hk (by omega), inb_T i6 (by omega), e3]
      simp only [gdT]
      rw [if_neg (by rw [w0, eq_vw (by omega) (by omega)]; omega), a1, bq, a2, bq, e8, bq, bq, nI_1]
    · have ev : lcV M i k = 0 := by unfold lcV; rw [if_neg hb]
      have eo : ovS M i k q' = q' := if_neg hb
      rw [eo]
      refine ⟨s, ?_, h1, h2⟩
      show lX12_layLeft_62 _ _ _ _ _ = lX12_layLeft_62 _ _ _ _ _
      rw [lX12_layLeft_62, if_neg (by rw [li10, le_nn (by omega) (by omega)]; omega), ix10, inb_T (show 10 * i + k < 640 by omega) (by omega), nI_ck (show 10 * i + k < 2147483648 by omega), gdT, if_pos (by rw [e3, ev]; rfl), bq, nI_1]
theorem sm_le {f g : Nat → Nat} : ∀ n, (∀ i, i < n → f i ≤ g i) → sm f n ≤ sm g n
  | 0, _ => Nat.le_refl _
  | n + 1, h => Nat.add_le_add (sm_le n (fun i hi => h i (by omega))) (h n (by omega))
theorem sm_lt {f g : Nat → Nat} {m : Nat} : ∀ n, (∀ i, i < n → f i ≤ g i) → m < n → f m < g m → sm f n < sm g n
  | 0, _, h, _ => absurd h (by omega)
  | n + 1, h, hm, hf => by
    show sm f n + f n < sm g n + g n
    have a1 := h n (by omega)
    by_cases e : m = n
    · have := sm_le n (fun i hi => h i (by omega))
      rw [e] at hf
      omega
    · have := sm_lt n (fun i hi => h i (by omega)) (show m < n by omega) hf
      omega
theorem sm_bd {f : Nat → Nat} {x : Nat} : ∀ n, (∀ i, i < n → f i ≤ x) → sm f n ≤ n * x
  | 0, _ => by show 0 ≤ _; omega
  | n + 1, h => by
    have := sm_bd n (fun i hi => h i (by omega))
    have a1 := h n (by omega)
    show sm f n + f n ≤ _
    rw [Nat.succ_mul]; omega
theorem cnd_tr {M : F2} {d had m i : Nat} (h1 : cnd M d had m = true) (h2 : gtB M i m = true) (h3 : srv 0 d M i = true) : cnd M d had i = true := by
  rw [cnd_p] at h1 ⊢
  refine ⟨h3, h1.2.imp id (fun z => ?_)⟩
  rw [gtB_p] at z h2 ⊢
  omega
/-- the lines laid, one behind the other -/
theorem m_lay {M B : F2} {nw d : Nat} {c : Nat → Nat} (ln : ∀ i, i < M 146 11 → lnO nw B M i) (hn : nw ≤ 4) (h30 : M 146 11 ≤ 30) (hd : d ≤ 50) (hu : unq M d) : ∀ (m f had r : Nat) (b : Mem) (q : F2), m < f → had ≤ M 146 11 → sm (fun i => if cnd M d had i = true then 1 else 0) (M 146 11) ≤ m → nxS M d had (M 146 11) r → (∀ i, i < M 146 11 → MLn b M i) → b 269 54 = nI (M 146 11) → LV b q → topK c M (fun i => i < M 146 11 ∧ srv 0 d M i = true ∧ ¬ cnd M d had i = true) q →
    ∃ b' q', lX12_layLeft_55 (nI d) f (vI r) b = some b' ∧ LV b' q' ∧ frL b b' ∧ topK c M (fun i => i < M 146 11 ∧ srv 0 d M i = true) q' := by
  intro m
  induction m with
  | zero =>
    intro f had r b q hf hh hs hx hM e54 hq ht
    obtain ⟨g, rfl⟩ : ∃ g, f = g + 1 := ⟨f - 1, by omega⟩
    rcases hx with ⟨x1, x2⟩ | ⟨j, x1, x2, x3, x4⟩
    · refine ⟨b, q, ?_, hq, frL.rf, ht.cg (fun i => ⟨fun z => ⟨z.1, z.2.1⟩, fun z => ⟨z.1, z.2, x2 i z.1⟩⟩)⟩
      rw [lX12_layLeft_55, if_pos (by rw [x1]; rfl)]
    · exfalso
      have := sm_lt (f := fun _ => 0) (g := fun i => if cnd M d had i = true then 1 else 0) (m := j) (M 146 11) (fun i _ => by omega) x2 (by show 0 < if cnd M d had j = true then 1 else 0; rw [if_pos x3]; omega)
      omega
  | succ m ih =>
    intro f had r b q hf hh hs hx hM e54 hq ht
    obtain ⟨g, rfl⟩ : ∃ g, f = g + 1 := ⟨f - 1, by omega⟩
    rcases hx with ⟨x1, x2⟩ | ⟨j, x1, x2, x3, x4⟩
    · refine ⟨b, q, ?_, hq, frL.rf, ht.cg (fun i => ⟨fun z => ⟨z.1, z.2.1⟩, fun z => ⟨z.1, z.2, x2 i z.1⟩⟩)⟩
      rw [lX12_layLeft_55, if_pos (by rw [x1]; rfl)]
    · have x3' := cnd_p.mp x3
      obtain ⟨b1, l1, l2, l3⟩ := m_over (x1 := nI d) (hM j x2) (ln j x2) (by omega) hq
      have hM1 : ∀ i, i < M 146 11 → MLn b1 M i := fun i hi => (hM i hi).cg (fun z h1 h2 => l3.2 z (by omega) (by omega) (by omega)) rfl (fun _ _ => rfl)
      have e54' : b1 269 54 = nI (M 146 11) := by rw [l3.1 _ (by omega)]; exact e54
      obtain ⟨r', n1, n2⟩ := m_nextSafe (had := j + 1) hM1 ln hn h30 e54' hd (by omega) hu
      have hirr : ¬ gtB M j j = true := fun z => by rw [gtB_p] at z; omega
      have hno : ∀ i, i < M 146 11 → srv 0 d M i = true → ¬ cnd M d had i = true → ¬ gtB M i j = true := fun i _ h2 h3 h4 => h3 (cnd_tr x3 h4 h2)
      have cj : ∀ i, cnd M d (j + 1) i = true ↔ srv 0 d M i = true ∧ gtB M i j = true := fun i => by
        rw [cnd_p, Nat.add_sub_cancel]
        exact ⟨fun z => ⟨z.1, z.2.resolve_left (by omega)⟩, fun z => ⟨z.1, Or.inr z.2⟩⟩
      have ht1 : topK c M (fun i => i < M 146 11 ∧ srv 0 d M i = true ∧ ¬ cnd M d (j + 1) i = true) (itr (ovS M j) 0 10 q) := by
        refine (ht.ov (i0 := j) (fun i hi z => ?_)).cg (fun i => ⟨?_, ?_⟩)
        · refine hno i hi.1 hi.2.1 hi.2.2 ?_
          rw [gtB_p, lcW_s hi.2.1, lcW_s x3'.1]
          unfold gtP at z
          omega
        · rintro (z | z)
          · exact ⟨z.1, z.2.1, fun y => hno i z.1 z.2.1 z.2.2 ((cj i).mp y).2⟩
          · rw [z]; exact ⟨x2, x3'.1, fun y => hirr ((cj j).mp y).2⟩
        · rintro ⟨z1, z2, z3⟩
          by_cases y : cnd M d had i = true
          · rcases x4 i z1 y with y | y
            · exact Or.inr y
            · exact absurd ((cj i).mpr ⟨z2, y⟩) z3
          · exact Or.inl ⟨z1, z2, y⟩
      have hsm : sm (fun i => if cnd M d (j + 1) i = true then 1 else 0) (M 146 11) ≤ m := by
        have := sm_lt (f := fun i => if cnd M d (j + 1) i = true then 1 else 0) (g := fun i => if cnd M d had i = true then 1 else 0) (m := j) (M 146 11) (fun i _ => by
          show (if cnd M d (j + 1) i = true then 1 else 0) ≤ if cnd M d had i = true then 1 else 0
          by_cases y : cnd M d (j + 1) i = true
          · rw [if_pos y, if_pos (cnd_tr x3 ((cj i).mp y).2 ((cj i).mp y).1)]; omega
          · rw [if_neg y]; omega) x2 (by
          show (if cnd M d (j + 1) j = true then 1 else 0) < if cnd M d had j = true then 1 else 0
          rw [if_pos x3, if_neg (fun y => hirr ((cj j).mp y).2)]; omega)
        omega
      obtain ⟨b', q', k1, k2, k3, k4⟩ := ih g (j + 1) r' b1 _ (by omega) (by omega) hsm n2 hM1 e54' l2 ht1
      refine ⟨b', q', ?_, k2, l3.tr k3, k4⟩
      rw [lX12_layLeft_55, if_neg (by rw [x1, vI_s]; exact nI_m1 (by omega)), x1, vI_s, l1, bq, show nI j = vI (j + 1) from (vI_s j).symm, n1, bq]
      exact k1
