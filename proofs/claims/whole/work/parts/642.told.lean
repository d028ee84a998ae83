/-! ===== tasks, schedules, diaries by Nats ===== -/
def stepc (w k o : Nat) : Prop := w < 6 ∧ k ≤ 9 ∧ (w < 3 → o = 0) ∧ (w = 3 ∨ w = 4 → 1 ≤ o ∧ o ≤ 100) ∧ (w = 5 → k + 1 ≤ o ∧ o ≤ 10)
/-- tasks: B 0 0 how many, B 1 t steps, B 2, 3, 4 at 6 t + i: what, key, other (one more) -/
def okB (B : Nat → Nat → Nat) : Prop := B 0 0 ≤ 7 ∧ (∀ t, B 1 t ≤ 6) ∧ ∀ j, stepc (B 2 j) (B 3 j) (B 4 j)
def CBk (p s k y o : Nat → Int32) (B : Nat → Nat → Nat) : Prop := p 0 = nI (B 0 0) ∧ ∀ t, t < B 0 0 → s t = nI (B 1 t) ∧ ∀ i, i < B 1 t → k (6 * t + i) = nI (B 2 (6 * t + i)) ∧ y (6 * t + i) = nI (B 3 (6 * t + i)) ∧ o (6 * t + i) = vI (B 4 (6 * t + i))
def MBk (r : Nat → Int32) (B : Nat → Nat → Nat) : Prop := r 0 = nI (B 0 0) ∧ ∀ t, t < B 0 0 → r (1 + 19 * t) = nI (B 1 t) ∧ ∀ i, i < B 1 t → r (1 + 19 * t + 1 + 3 * i) = nI (B 2 (6 * t + i)) ∧ r (1 + 19 * t + 2 + 3 * i) = nI (B 3 (6 * t + i)) ∧ r (1 + 19 * t + 3 + 3 * i) = vI (B 4 (6 * t + i))
theorem code_of {x : Int32} (h : x = -1 ∨ ∃ v : Nat, v ≤ 1000 ∧ x = nI v) : x = vI ((x + 1).toNatClampNeg) ∧ (x + 1).toNatClampNeg ≤ 1001 ∧ (∀ v : Nat, v ≤ 1000 → x = nI v → (x + 1).toNatClampNeg = v + 1) ∧ (x = -1 → (x + 1).toNatClampNeg = 0) := by
  rcases h with rfl | ⟨v, hv, rfl⟩
  · refine ⟨by decide, by decide, fun v hv e => ?_, fun _ => by decide⟩
    rw [v0, eq_vn (by omega) (by omega)] at e
    omega
  · rw [nI_1, nI_ck (by omega)]
    refine ⟨rfl, by omega, fun u hu e => ?_, fun e => ?_⟩
    · rw [eq_nn (by omega) (by omega)] at e; omega
    · rw [v0, eq_nv (by omega) (by omega)] at e; omega
theorem BRf.ab {p s k y o r : Nat → Int32} (h : BRf p s k y o r) : ∃ B, okB B ∧ CBk p s k y o B ∧ MBk r B := by
  obtain ⟨T, h1, h2, h3, h4⟩ := h
  let V : Nat → Prop := fun j => j / 6 < T ∧ j % 6 < (s (j / 6)).toNatClampNeg
  have hV : ∀ t i, t < T → i < (s t).toNatClampNeg → (s t).toNatClampNeg ≤ 6 → V (6 * t + i) := fun t i h1 h2 h3 => by
    show (6 * t + i) / 6 < T ∧ (6 * t + i) % 6 < (s ((6 * t + i) / 6)).toNatClampNeg
    rw [show (6 * t + i) / 6 = t by omega, show (6 * t + i) % 6 = i by omega]
    exact ⟨h1, h2⟩
  refine ⟨fun f j => if f = 0 then T else if f = 1 then (if j < T then (s j).toNatClampNeg else 0) else if V j then (if f = 2 then (k j).toNatClampNeg else if f = 3 then (y j).toNatClampNeg else (o j + 1).toNatClampNeg) else 0, ⟨by simp; exact h1, fun t => ?_, fun j => ?_⟩, ⟨by simp; exact h2, fun t ht => ?_⟩, by simp; exact h3, fun t ht => ?_⟩
  · simp only [Nat.one_ne_zero, if_false, if_true]
    split
    · rename_i hh
      obtain ⟨S, g1, g2, g3, g4⟩ := h4 t hh
      rw [g2, nI_ck (by omega)]; exact g1
    · omega
  · by_cases hv : V j
    · have hv1 : j / 6 < T := hv.1
      obtain ⟨S, g1, g2, g3, g4⟩ := h4 (j / 6) hv1
      have hv2 : j % 6 < S := by have := hv.2; rw [g2, nI_ck (by omega)] at this; exact this
      obtain ⟨w, kk, f1, f2, f3, f4, f5, f6⟩ := g4 (j % 6) hv2
      rw [show 6 * (j / 6) + j % 6 = j by omega] at f1 f2 f3
      simp only [hv, if_true, show ¬ (2 = 0) by omega, show ¬ (2 = 1) by omega, show ¬ (3 = 0) by omega, show ¬ (3 = 1) by omega, show ¬ (3 = 2) by omega, show ¬ (4 = 0) by omega, show ¬ (4 = 1) by omega, show ¬ (4 = 2) by omega, show ¬ (4 = 3) by omega, if_false]
      obtain ⟨u1, u2, u3, u4, u5⟩ := f1
      rw [f2, f3, nI_ck (by omega), nI_ck (by omega)]
      refine ⟨u1, u2, fun z => ?_, fun z => ?_, fun z => ?_⟩
      · exact (code_of (Or.inl (u3 z))).2.2.2 (u3 z)
      · obtain ⟨v, hv, e⟩ := u4 z
        have := (code_of (Or.inr ⟨v, by omega, e⟩)).2.2.1 v (by omega) e
        omega
      · obtain ⟨v, hv, hv2, e⟩ := u5 z
        have := (code_of (Or.inr ⟨v, by omega, e⟩)).2.2.1 v (by omega) e
        omega
    · simp only [hv, if_false, show ¬ (2 = 0) by omega, show ¬ (2 = 1) by omega, show ¬ (3 = 0) by omega, show ¬ (3 = 1) by omega, show ¬ (4 = 0) by omega, show ¬ (4 = 1) by omega]
      refine ⟨by omega, by omega, by omega, by omega, by omega⟩
  · simp only [if_true] at ht
    obtain ⟨S, g1, g2, g3, g4⟩ := h4 t ht
    simp only [Nat.one_ne_zero, if_false, if_true, ht]
    have hS : (s t).toNatClampNeg = S := by rw [g2, nI_ck (by omega)]
    refine ⟨by rw [hS]; exact g2, fun i hi => ?_⟩
    rw [hS] at hi
    have hv := hV t i ht (by omega) (by omega)
    obtain ⟨w, kk, f1, f2, f3, f4, f5, f6⟩ := g4 i hi
    simp only [hv, if_true, show ¬ (2 = 0) by omega, show ¬ (2 = 1) by omega, show ¬ (3 = 0) by omega, show ¬ (3 = 1) by omega, show ¬ (3 = 2) by omega, show ¬ (4 = 0) by omega, show ¬ (4 = 1) by omega, show ¬ (4 = 2) by omega, show ¬ (4 = 3) by omega, if_false]
    obtain ⟨u1, u2, u3, u4, u5⟩ := f1
    refine ⟨by rw [f2, nI_ck (by omega)], by rw [f3, nI_ck (by omega)], ?_⟩
    have hc : o (6 * t + i) = -1 ∨ ∃ v : Nat, v ≤ 1000 ∧ o (6 * t + i) = nI v := by
      rcases (show w < 3 ∨ (w = 3 ∨ w = 4) ∨ w = 5 by omega) with z | z | z
      · exact Or.inl (u3 z)
      · obtain ⟨v, hv, e⟩ := u4 z; exact Or.inr ⟨v, by omega, e⟩
      · obtain ⟨v, hv, hv2, e⟩ := u5 z; exact Or.inr ⟨v, by omega, e⟩
    exact (code_of hc).1
  · simp only [if_true] at ht
    obtain ⟨S, g1, g2, g3, g4⟩ := h4 t ht
    simp only [Nat.one_ne_zero, if_false, if_true, ht]
    have hS : (s t).toNatClampNeg = S := by rw [g2, nI_ck (by omega)]
    refine ⟨by rw [hS]; exact g3, fun i hi => ?_⟩
    rw [hS] at hi
    have hv := hV t i ht (by omega) (by omega)
    obtain ⟨w, kk, f1, f2, f3, f4, f5, f6⟩ := g4 i hi
    simp only [hv, if_true, show ¬ (2 = 0) by omega, show ¬ (2 = 1) by omega, show ¬ (3 = 0) by omega, show ¬ (3 = 1) by omega, show ¬ (3 = 2) by omega, show ¬ (4 = 0) by omega, show ¬ (4 = 1) by omega, show ¬ (4 = 2) by omega, show ¬ (4 = 3) by omega, if_false]
    obtain ⟨u1, u2, u3, u4, u5⟩ := f1
    refine ⟨by rw [f2, nI_ck (by omega)]; exact f4, by rw [f3, nI_ck (by omega)]; exact f5, ?_⟩
    have hc : o (6 * t + i) = -1 ∨ ∃ v : Nat, v ≤ 1000 ∧ o (6 * t + i) = nI v := by
      rcases (show w < 3 ∨ (w = 3 ∨ w = 4) ∨ w = 5 by omega) with z | z | z
      · exact Or.inl (u3 z)
      · obtain ⟨v, hv, e⟩ := u4 z; exact Or.inr ⟨v, by omega, e⟩
      · obtain ⟨v, hv, hv2, e⟩ := u5 z; exact Or.inr ⟨v, by omega, e⟩
    rw [f6]
    exact (code_of hc).1
def deedc (w x y : Nat) : Prop := w < 7 ∧ (w < 2 → x = 0) ∧ (2 ≤ w → 1 ≤ x ∧ x ≤ 4) ∧ (w < 6 → y = 0) ∧ (w = 6 → 1 ≤ y ∧ y ≤ 7)
def okP (P : Nat → Nat → Nat) : Prop := P 0 0 ≤ 40 ∧ ∀ i, deedc (P 1 i) (P 2 i) (P 3 i)
def CPl (p k w t : Nat → Int32) (P : Nat → Nat → Nat) : Prop := p 0 = nI (P 0 0) ∧ ∀ i, i < P 0 0 → k i = nI (P 1 i) ∧ w i = vI (P 2 i) ∧ t i = vI (P 3 i)
def MPl (r : Nat → Int32) (P : Nat → Nat → Nat) : Prop := r 0 = nI (P 0 0) ∧ ∀ i, i < P 0 0 → r (1 + 3 * i) = nI (P 1 i) ∧ r (2 + 3 * i) = vI (P 2 i) ∧ r (3 + 3 * i) = vI (P 3 i)
theorem PRf.ab {p k w t r : Nat → Int32} (h : PRf p k w t r) : ∃ P, okP P ∧ CPl p k w t P ∧ MPl r P := by
  obtain ⟨S, h1, h2, h3, h4⟩ := h
  refine ⟨fun f j => if f = 0 then S else if j < S then (if f = 1 then (k j).toNatClampNeg else if f = 2 then (w j + 1).toNatClampNeg else (t j + 1).toNatClampNeg) else if f = 1 then 0 else 0, ⟨by simp; exact h1, fun j => ?_⟩, ⟨by simp; exact h2, fun j hj => ?_⟩, by simp; exact h3, fun j hj => ?_⟩
  · by_cases hj : j < S
    · obtain ⟨v, ⟨u1, u2, u3, u4, u5⟩, f2, f3, f4, f5⟩ := h4 j hj
      simp only [hj, if_true, Nat.one_ne_zero, show ¬ (2 = 0) by omega, show ¬ (2 = 1) by omega, show ¬ (3 = 0) by omega, show ¬ (3 = 1) by omega, show ¬ (3 = 2) by omega, if_false]
      rw [f2, nI_ck (by omega)]
      refine ⟨u1, fun z => ?_, fun z => ?_, fun z => ?_, fun z => ?_⟩
      · exact (code_of (Or.inl (u2 z))).2.2.2 (u2 z)
      · obtain ⟨v, hv, e⟩ := u3 z
        have := (code_of (Or.inr ⟨v, by omega, e⟩)).2.2.1 v (by omega) e
        omega
      · exact (code_of (Or.inl (u4 z))).2.2.2 (u4 z)
      · obtain ⟨v, hv, e⟩ := u5 z
        have := (code_of (Or.inr ⟨v, by omega, e⟩)).2.2.1 v (by omega) e
        omega
    · simp only [hj, if_false, Nat.one_ne_zero, show ¬ (2 = 0) by omega, show ¬ (2 = 1) by omega, show ¬ (3 = 0) by omega, show ¬ (3 = 1) by omega, if_true]
      refine ⟨by omega, by omega, by omega, by omega, by omega⟩
  · simp only [if_true] at hj
    obtain ⟨v, ⟨u1, u2, u3, u4, u5⟩, f2, f3, f4, f5⟩ := h4 j hj
    simp only [hj, if_true, Nat.one_ne_zero, show ¬ (2 = 0) by omega, show ¬ (2 = 1) by omega, show ¬ (3 = 0) by omega, show ¬ (3 = 1) by omega, show ¬ (3 = 2) by omega, if_false]
    have hw : w j = -1 ∨ ∃ v : Nat, v ≤ 1000 ∧ w j = nI v := by
      rcases (show v < 2 ∨ 2 ≤ v by omega) with z | z
      · exact Or.inl (u2 z)
      · obtain ⟨v, hv, e⟩ := u3 z; exact Or.inr ⟨v, by omega, e⟩
    have ht : t j = -1 ∨ ∃ v : Nat, v ≤ 1000 ∧ t j = nI v := by
      rcases (show v < 6 ∨ v = 6 by omega) with z | z
      · exact Or.inl (u4 z)
      · obtain ⟨v, hv, e⟩ := u5 z; exact Or.inr ⟨v, by omega, e⟩
    exact ⟨by rw [f2, nI_ck (by omega)], (code_of hw).1, (code_of ht).1⟩
  · simp only [if_true] at hj
    obtain ⟨v, ⟨u1, u2, u3, u4, u5⟩, f2, f3, f4, f5⟩ := h4 j hj
    simp only [hj, if_true, Nat.one_ne_zero, show ¬ (2 = 0) by omega, show ¬ (2 = 1) by omega, show ¬ (3 = 0) by omega, show ¬ (3 = 1) by omega, show ¬ (3 = 2) by omega, if_false]
    have hw : w j = -1 ∨ ∃ v : Nat, v ≤ 1000 ∧ w j = nI v := by
      rcases (show v < 2 ∨ 2 ≤ v by omega) with z | z
      · exact Or.inl (u2 z)
      · obtain ⟨v, hv, e⟩ := u3 z; exact Or.inr ⟨v, by omega, e⟩
    have ht : t j = -1 ∨ ∃ v : Nat, v ≤ 1000 ∧ t j = nI v := by
      rcases (show v < 6 ∨ v = 6 by omega) with z | z
      · exact Or.inl (u4 z)
      · obtain ⟨v, hv, e⟩ := u5 z; exact Or.inr ⟨v, by omega, e⟩
    exact ⟨by rw [f2, nI_ck (by omega)]; exact f3, by rw [f4]; exact (code_of hw).1, by rw [f5]; exact (code_of ht).1⟩
def okD (D : Nat → Nat → Nat) : Prop := D 0 0 ≤ 8 ∧ ∀ i, D 1 i ≤ 9 ∧ D 2 i ≤ 100
def CDi (p k v : Nat → Int32) (D : Nat → Nat → Nat) : Prop := p 0 = nI (D 0 0) ∧ ∀ i, i < D 0 0 → k i = nI (D 1 i) ∧ v i = vI (D 2 i)
def MDi (r : Nat → Int32) (D : Nat → Nat → Nat) : Prop := r 0 = nI (D 0 0) ∧ ∀ i, i < D 0 0 → r (1 + 2 * i) = nI (D 1 i) ∧ r (2 + 2 * i) = vI (D 2 i)
theorem DRf.ab {p k v r : Nat → Int32} (h : DRf p k v r) : ∃ D, okD D ∧ CDi p k v D ∧ MDi r D := by
  obtain ⟨S, h1, h2, h3, h4⟩ := h
  have hc : ∀ j, j < S → v j = -1 ∨ ∃ x : Nat, x ≤ 1000 ∧ v j = nI x := fun j hj => by
    obtain ⟨kk, f1, f2, f3, f4, f5⟩ := h4 j hj
    exact f5.imp id (fun ⟨x, hx, e⟩ => ⟨x, by omega, e⟩)
  refine ⟨fun f j => if f = 0 then S else if j < S then (if f = 1 then (k j).toNatClampNeg else (v j + 1).toNatClampNeg) else 0, ⟨by simp; exact h1, fun j => ?_⟩, ⟨by simp; exact h2, fun j hj => ?_⟩, by simp; exact h3, fun j hj => ?_⟩
  · by_cases hj : j < S
    · obtain ⟨kk, f1, f2, f3, f4, f5⟩ := h4 j hj
      simp only [hj, if_true, Nat.one_ne_zero, show ¬ (2 = 0) by omega, show ¬ (2 = 1) by omega, if_false]
      rw [f2, nI_ck (by omega)]
      refine ⟨f1, ?_⟩
      rcases f5 with e | ⟨x, hx, e⟩
      · have := (code_of (Or.inl e)).2.2.2 e; omega
      · have := (code_of (Or.inr ⟨x, by omega, e⟩)).2.2.1 x (by omega) e; omega
    · simp only [hj, if_false, Nat.one_ne_zero, show ¬ (2 = 0) by omega]
      omega
  · simp only [if_true] at hj
    obtain ⟨kk, f1, f2, f3, f4, f5⟩ := h4 j hj
    simp only [hj, if_true, Nat.one_ne_zero, show ¬ (2 = 0) by omega, show ¬ (2 = 1) by omega, if_false]
    exact ⟨by rw [f2, nI_ck (by omega)], (code_of (hc j hj)).1⟩
  · simp only [if_true] at hj
    obtain ⟨kk, f1, f2, f3, f4, f5⟩ := h4 j hj
    simp only [hj, if_true, Nat.one_ne_zero, show ¬ (2 = 0) by omega, show ¬ (2 = 1) by omega, if_false]
    exact ⟨by rw [f2, nI_ck (by omega)]; exact f3, by rw [f4]; exact (code_of (hc j hj)).1⟩
