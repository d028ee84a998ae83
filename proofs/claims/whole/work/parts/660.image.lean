/-! ===== image, again ===== -/
theorem byt_back {x : Int32} (h : isByt x) : Int8.toInt32 (Int32.toInt8 x) = x := by
  unfold isByt at h
  have h2 : (decide (-128 ≤ x) && decide (x ≤ 127)) = true := h
  rw [Bool.and_eq_true, decide_eq_true_eq, decide_eq_true_eq, Int32.le_iff_toInt_le, Int32.le_iff_toInt_le] at h2
  have e1 : (-128 : Int32).toInt = -128 := rfl
  have e2 : (127 : Int32).toInt = 127 := rfl
  rw [e1, e2] at h2
  apply Int32.toInt_inj.mp
  rw [Int8.toInt_toInt32, Int32.toInt_toInt8]
  have : Int.bmod x.toInt (2 ^ 8) = x.toInt := by
    show (if x.toInt % 256 < (256 + 1) / 2 then x.toInt % 256 else x.toInt % 256 - 256) = x.toInt
    split <;> omega
  exact this
theorem bytB_of {σ : Mem} {n : Nat} (h : ∀ i, i < 600 → isByt (σ n i)) : bytB σ n 0 600 = true := by
  unfold bytB
  rw [List.all_eq_true]
  intro i hi
  rw [Nat.zero_add]
  exact h i (List.mem_range.mp hi)
def frD (n w : Nat) (a a' : Mem) : Prop := ∀ m, ¬ (n ≤ m ∧ m ≤ n + w) → a' m = a m
theorem cc7 (a : Mem) {n m : Nat} (h : ∀ i j, i ≤ 1 → j ≤ 1 → n + i ≠ m + j) : ∃ a', fX7_copyFrom n m a = some a' ∧ (a' n 0 = a m 0 ∧ a' n 1 = a m 1 ∧ ∀ j, j < 10 → a' (n + 1) j = a (m + 1) j) ∧ frD n 1 a a' := by
  have h0 := h 0 0 (by omega) (by omega)
  have h1 := h 0 1 (by omega) (by omega)
  have h2 := h 1 0 (by omega) (by omega)
  unfold fX7_copyFrom fX11_copyKeys
  refine ⟨_, rfl, ⟨?_, ?_, fun j hj => ?_⟩, fun x hx => ?_⟩
  · rw [cp2_c _ (by omega), st2_o _ _ (by omega), st2_eq]
  · rw [cp2_c _ (by omega), st2_eq, st2_o _ _ (by omega)]
  · rw [cp2_g, if_pos ⟨rfl, hj⟩, st2_o _ _ (by omega), st2_o _ _ (by omega)]
  · rw [cp2_c _ (by omega), st2_c _ _ (by omega), st2_c _ _ (by omega)]
theorem cc1 (a : Mem) {n m : Nat} (h : ∀ i j, i ≤ 2 → j ≤ 2 → n + i ≠ m + j) : ∃ a', fX1_copyFrom n m a = some a' ∧ (a' n 0 = a m 0 ∧ (∀ j, j < 8 → a' (n + 1) j = a (m + 1) j) ∧ ∀ j, j < 8 → a' (n + 2) j = a (m + 2) j) ∧ frD n 2 a a' := by
  have h0 := h 0 0 (by omega) (by omega)
  have h1 := h 0 1 (by omega) (by omega)
  have h2 := h 0 2 (by omega) (by omega)
  have h3 := h 1 2 (by omega) (by omega)
  unfold fX1_copyFrom
  refine ⟨_, rfl, ⟨?_, fun j hj => ?_, fun j hj => ?_⟩, fun x hx => ?_⟩
  · rw [cp2_c _ (by omega), cp2_c _ (by omega), st2_eq]
  · rw [cp2_c _ (by omega), cp2_g, if_pos ⟨rfl, hj⟩, st2_o _ _ (by omega)]
  · rw [cp2_g, if_pos ⟨rfl, hj⟩, cp2_c _ (by omega), st2_o _ _ (by omega)]
  · rw [cp2_c _ (by omega), cp2_c _ (by omega), st2_c _ _ (by omega)]
theorem cc4 (a : Mem) {n m : Nat} (h : ∀ i j, i ≤ 3 → j ≤ 3 → n + i ≠ m + j) : ∃ a', fX4_copyFrom n m a = some a' ∧ (a' n 0 = a m 0 ∧ (∀ j, j < 40 → a' (n + 1) j = a (m + 1) j) ∧ (∀ j, j < 40 → a' (n + 2) j = a (m + 2) j) ∧ ∀ j, j < 40 → a' (n + 3) j = a (m + 3) j) ∧ frD n 3 a a' := by
  have h1 := h 0 1 (by omega) (by omega)
  have h2 := h 0 2 (by omega) (by omega)
  have h3 := h 0 3 (by omega) (by omega)
  have h4 := h 1 2 (by omega) (by omega)
  have h5 := h 1 3 (by omega) (by omega)
  have h6 := h 2 3 (by omega) (by omega)
  unfold fX4_copyFrom
  refine ⟨_, rfl, ⟨?_, fun j hj => ?_, fun j hj => ?_, fun j hj => ?_⟩, fun x hx => ?_⟩
  · rw [cp2_c _ (by omega), cp2_c _ (by omega), cp2_c _ (by omega), st2_eq]
  · rw [cp2_c _ (by omega), cp2_c _ (by omega), cp2_g, if_pos ⟨rfl, hj⟩, st2_o _ _ (by omega)]
  · rw [cp2_c _ (by omega), cp2_g, if_pos ⟨rfl, hj⟩, cp2_c _ (by omega), st2_o _ _ (by omega)]
  · rw [cp2_g, if_pos ⟨rfl, hj⟩, cp2_c _ (by omega), cp2_c _ (by omega), st2_o _ _ (by omega)]
  · rw [cp2_c _ (by omega), cp2_c _ (by omega), cp2_c _ (by omega), st2_c _ _ (by omega)]
theorem cc8 (a : Mem) {n m : Nat} (h : ∀ i j, i ≤ 4 → j ≤ 4 → n + i ≠ m + j) : ∃ a', fX8_copyFrom n m a = some a' ∧ (a' n 0 = a m 0 ∧ (∀ j, j < 7 → a' (n + 1) j = a (m + 1) j) ∧ (∀ j, j < 42 → a' (n + 2) j = a (m + 2) j) ∧ (∀ j, j < 42 → a' (n + 3) j = a (m + 3) j) ∧ ∀ j, j < 42 → a' (n + 4) j = a (m + 4) j) ∧ frD n 4 a a' := by
  have h1 := h 0 1 (by omega) (by omega)
  have h2 := h 0 2 (by omega) (by omega)
  have h3 := h 0 3 (by omega) (by omega)
  have h7 := h 0 4 (by omega) (by omega)
  have h4 := h 1 2 (by omega) (by omega)
  have h5 := h 1 3 (by omega) (by omega)
  have h8 := h 1 4 (by omega) (by omega)
  have h6 := h 2 3 (by omega) (by omega)
  have h9 := h 2 4 (by omega) (by omega)
  have hA := h 3 4 (by omega) (by omega)
  unfold fX8_copyFrom
  refine ⟨_, rfl, ⟨?_, fun j hj => ?_, fun j hj => ?_, fun j hj => ?_, fun j hj => ?_⟩, fun x hx => ?_⟩
  · rw [cp2_c _ (by omega), cp2_c _ (by omega), cp2_c _ (by omega), cp2_c _ (by omega), st2_eq]
  · rw [cp2_c _ (by omega), cp2_c _ (by omega), cp2_c _ (by omega), cp2_g, if_pos ⟨rfl, hj⟩, st2_o _ _ (by omega)]
  · rw [cp2_c _ (by omega), cp2_c _ (by omega), cp2_g, if_pos ⟨rfl, hj⟩, cp2_c _ (by omega), st2_o _ _ (by omega)]
  · rw [cp2_c _ (by omega), cp2_g, if_pos ⟨rfl, hj⟩, cp2_c _ (by omega), cp2_c _ (by omega), st2_o _ _ (by omega)]
  · rw [cp2_g, if_pos ⟨rfl, hj⟩, cp2_c _ (by omega), cp2_c _ (by omega), cp2_c _ (by omega), st2_o _ _ (by omega)]
  · rw [cp2_c _ (by omega), cp2_c _ (by omega), cp2_c _ (by omega), cp2_c _ (by omega), st2_c _ _ (by omega)]
/-- what is copied of the k-th text of each sort -/
def cpK (a' a : Mem) (n m k : Nat) : Prop :=
  (a' (n + 7 + 14 * k) 0 = a (m + 7 + 14 * k) 0 ∧ a' (n + 7 + 14 * k) 1 = a (m + 7 + 14 * k) 1 ∧ ∀ j, j < 10 → a' (n + 7 + 14 * k + 1) j = a (m + 7 + 14 * k + 1) j) ∧
  (a' (n + 9 + 14 * k) 0 = a (m + 9 + 14 * k) 0 ∧ (∀ j, j < 7 → a' (n + 9 + 14 * k + 1) j = a (m + 9 + 14 * k + 1) j) ∧ (∀ j, j < 42 → a' (n + 9 + 14 * k + 2) j = a (m + 9 + 14 * k + 2) j) ∧ (∀ j, j < 42 → a' (n + 9 + 14 * k + 3) j = a (m + 9 + 14 * k + 3) j) ∧ ∀ j, j < 42 → a' (n + 9 + 14 * k + 4) j = a (m + 9 + 14 * k + 4) j) ∧
  (a' (n + 14 + 14 * k) 0 = a (m + 14 + 14 * k) 0 ∧ (∀ j, j < 40 → a' (n + 14 + 14 * k + 1) j = a (m + 14 + 14 * k + 1) j) ∧ (∀ j, j < 40 → a' (n + 14 + 14 * k + 2) j = a (m + 14 + 14 * k + 2) j) ∧ ∀ j, j < 40 → a' (n + 14 + 14 * k + 3) j = a (m + 14 + 14 * k + 3) j) ∧
  (a' (n + 18 + 14 * k) 0 = a (m + 18 + 14 * k) 0 ∧ (∀ j, j < 8 → a' (n + 18 + 14 * k + 1) j = a (m + 18 + 14 * k + 1) j) ∧ ∀ j, j < 8 → a' (n + 18 + 14 * k + 2) j = a (m + 18 + 14 * k + 2) j)
theorem cpK.fr {a a' a1 a1' : Mem} {n m k : Nat} (h : cpK a' a n m k) (e1 : ∀ x, n + 7 + 14 * k ≤ x → x ≤ n + 20 + 14 * k → a1' x = a' x) (e2 : ∀ x, m + 7 + 14 * k ≤ x → x ≤ m + 20 + 14 * k → a1 x = a x) : cpK a1' a1 n m k := by
  unfold cpK
  rw [e1 (n + 7 + 14 * k) (by omega) (by omega), e1 (n + 7 + 14 * k + 1) (by omega) (by omega), e1 (n + 9 + 14 * k) (by omega) (by omega), e1 (n + 9 + 14 * k + 1) (by omega) (by omega), e1 (n + 9 + 14 * k + 2) (by omega) (by omega), e1 (n + 9 + 14 * k + 3) (by omega) (by omega), e1 (n + 9 + 14 * k + 4) (by omega) (by omega), e1 (n + 14 + 14 * k) (by omega) (by omega), e1 (n + 14 + 14 * k + 1) (by omega) (by omega), e1 (n + 14 + 14 * k + 2) (by omega) (by omega), e1 (n + 14 + 14 * k + 3) (by omega) (by omega), e1 (n + 18 + 14 * k) (by omega) (by omega), e1 (n + 18 + 14 * k + 1) (by omega) (by omega), e1 (n + 18 + 14 * k + 2) (by omega) (by omega)]
  rw [e2 (m + 7 + 14 * k) (by omega) (by omega), e2 (m + 7 + 14 * k + 1) (by omega) (by omega), e2 (m + 9 + 14 * k) (by omega) (by omega), e2 (m + 9 + 14 * k + 1) (by omega) (by omega), e2 (m + 9 + 14 * k + 2) (by omega) (by omega), e2 (m + 9 + 14 * k + 3) (by omega) (by omega), e2 (m + 9 + 14 * k + 4) (by omega) (by omega), e2 (m + 14 + 14 * k) (by omega) (by omega), e2 (m + 14 + 14 * k + 1) (by omega) (by omega), e2 (m + 14 + 14 * k + 2) (by omega) (by omega), e2 (m + 14 + 14 * k + 3) (by omega) (by omega), e2 (m + 18 + 14 * k) (by omega) (by omega), e2 (m + 18 + 14 * k + 1) (by omega) (by omega), e2 (m + 18 + 14 * k + 2) (by omega) (by omega)]
  exact h
theorem cp_two (a : Mem) {n m : Nat} (h : n + 35 ≤ m ∨ m + 35 ≤ n) : ∃ a', lX9_copyFrom_56 n m FU 0 a = some a' ∧ (∀ k, k < 2 → cpK a' a n m k) ∧ ∀ x, ¬ (n + 7 ≤ x ∧ x ≤ n + 34) → a' x = a x := by
  refine loop_go (fun f j s => lX9_copyFrom_56 n m f (nI j) s) 2 (fun j s => (∀ k, k < j → cpK s a n m k) ∧ ∀ x, ¬ (n + 7 ≤ x ∧ x ≤ n + 34) → s x = a x) (fun s => (∀ k, k < 2 → cpK s a n m k) ∧ ∀ x, ¬ (n + 7 ≤ x ∧ x ≤ n + 34) → s x = a x) ?_ ?_ (Nat.zero_le _) (by omega) (s := a) ⟨fun k hk => absurd hk (by omega), fun _ _ => rfl⟩
  · intro f s hs
    refine ⟨s, ?_, hs⟩
    show lX9_copyFrom_56 _ _ _ _ _ = _
    rw [lX9_copyFrom_56, if_pos (by decide)]
  · rintro f j s hj ⟨h1, h2⟩
    obtain ⟨s1, p1, p2, p3⟩ := cc7 s (n := n + 7 + 14 * j) (m := m + 7 + 14 * j) (fun i j _ _ => by omega)
    obtain ⟨s2, q1, q2, q3⟩ := cc8 s1 (n := n + 9 + 14 * j) (m := m + 9 + 14 * j) (fun i j _ _ => by omega)
    obtain ⟨s3, r1, r2, r3⟩ := cc4 s2 (n := n + 14 + 14 * j) (m := m + 14 + 14 * j) (fun i j _ _ => by omega)
    obtain ⟨s4, t1, t2, t3⟩ := cc1 s3 (n := n + 18 + 14 * j) (m := m + 18 + 14 * j) (fun i j _ _ => by omega)
    have hs : ∀ x, m + 7 ≤ x → x ≤ m + 34 → s x = a x := fun x _ _ => h2 x (by omega)
    have f43 : ∀ x, ¬ (n + 18 + 14 * j ≤ x ∧ x ≤ n + 20 + 14 * j) → s4 x = s3 x := fun x hx => t3 x (by omega)
    have f32 : ∀ x, ¬ (n + 14 + 14 * j ≤ x ∧ x ≤ n + 17 + 14 * j) → s3 x = s2 x := fun x hx => r3 x (by omega)
    have f21 : ∀ x, ¬ (n + 9 + 14 * j ≤ x ∧ x ≤ n + 13 + 14 * j) → s2 x = s1 x := fun x hx => q3 x (by omega)
    have f10 : ∀ x, ¬ (n + 7 + 14 * j ≤ x ∧ x ≤ n + 8 + 14 * j) → s1 x = s x := fun x hx => p3 x (by omega)
    have f4 : ∀ x, ¬ (n + 7 + 14 * j ≤ x ∧ x ≤ n + 20 + 14 * j) → s4 x = s x := fun x hx => by rw [f43 x (by omega), f32 x (by omega), f21 x (by omega), f10 x (by omega)]
    refine ⟨s4, ?_, fun k hk => ?_, fun x hx => by rw [f4 x (by omega)]; exact h2 x hx⟩
    · show lX9_copyFrom_56 _ _ _ _ _ = lX9_copyFrom_56 _ _ _ _ _
      rw [lX9_copyFrom_56, if_neg (by rw [li2, le_nn (by omega) (by omega)]; omega), inb_T hj (by omega), nI_ck (by omega)]
      simp only [gdT]
      rw [p1, bq, q1, bq, r1, bq, t1, bq, nI_1]
    · by_cases e : k = j
      · subst e
        refine ⟨?_, ?_, ?_, ?_⟩
        · rw [f43 _ (by omega), f32 _ (by omega), f21 _ (by omega), f43 (n + 7 + 14 * k + 1) (by omega), f32 (n + 7 + 14 * k + 1) (by omega), f21 (n + 7 + 14 * k + 1) (by omega), ← hs _ (by omega) (by omega), ← hs (m + 7 + 14 * k + 1) (by omega) (by omega)]; exact p2
        · rw [f43 _ (by omega), f32 _ (by omega), f43 (n + 9 + 14 * k + 1) (by omega), f32 (n + 9 + 14 * k + 1) (by omega), f43 (n + 9 + 14 * k + 2) (by omega), f32 (n + 9 + 14 * k + 2) (by omega), f43 (n + 9 + 14 * k + 3) (by omega), f32 (n + 9 + 14 * k + 3) (by omega), f43 (n + 9 + 14 * k + 4) (by omega), f32 (n + 9 + 14 * k + 4) (by omega)]
          rw [← hs (m + 9 + 14 * k) (by omega) (by omega), ← hs (m + 9 + 14 * k + 1) (by omega) (by omega), ← hs (m + 9 + 14 * k + 2) (by omega) (by omega), ← hs (m + 9 + 14 * k + 3) (by omega) (by omega), ← hs (m + 9 + 14 * k + 4) (by omega) (by omega)]
          rw [← f10 (m + 9 + 14 * k) (by omega), ← f10 (m + 9 + 14 * k + 1) (by omega), ← f10 (m + 9 + 14 * k + 2) (by omega), ← f10 (m + 9 + 14 * k + 3) (by omega), ← f10 (m + 9 + 14 * k + 4) (by omega)]; exact q2
        · rw [f43 _ (by omega), f43 (n + 14 + 14 * k + 1) (by omega), f43 (n + 14 + 14 * k + 2) (by omega), f43 (n + 14 + 14 * k + 3) (by omega)]
          rw [← hs (m + 14 + 14 * k) (by omega) (by omega), ← hs (m + 14 + 14 * k + 1) (by omega) (by omega), ← hs (m + 14 + 14 * k + 2) (by omega) (by omega), ← hs (m + 14 + 14 * k + 3) (by omega) (by omega)]
          rw [← f10 (m + 14 + 14 * k) (by omega), ← f10 (m + 14 + 14 * k + 1) (by omega), ← f10 (m + 14 + 14 * k + 2) (by omega), ← f10 (m + 14 + 14 * k + 3) (by omega)]
          rw [← f21 (m + 14 + 14 * k) (by omega), ← f21 (m + 14 + 14 * k + 1) (by omega), ← f21 (m + 14 + 14 * k + 2) (by omega), ← f21 (m + 14 + 14 * k + 3) (by omega)]; exact r2
        · rw [← hs (m + 18 + 14 * k) (by omega) (by omega), ← hs (m + 18 + 14 * k + 1) (by omega) (by omega), ← hs (m + 18 + 14 * k + 2) (by omega) (by omega)]
          rw [← f10 (m + 18 + 14 * k) (by omega), ← f10 (m + 18 + 14 * k + 1) (by omega), ← f10 (m + 18 + 14 * k + 2) (by omega)]
          rw [← f21 (m + 18 + 14 * k) (by omega), ← f21 (m + 18 + 14 * k + 1) (by omega), ← f21 (m + 18 + 14 * k + 2) (by omega)]
          rw [← f32 (m + 18 + 14 * k) (by omega), ← f32 (m + 18 + 14 * k + 1) (by omega), ← f32 (m + 18 + 14 * k + 2) (by omega)]; exact t2
      · exact (h1 k (by omega)).fr (fun x _ _ => f4 x (by omega)) (fun _ _ _ => rfl)
def cpT (a' a : Mem) (n m : Nat) : Prop := (a' n 1 = a m 1 ∧ a' n 2 = a m 2 ∧ a' n 3 = a m 3) ∧ (∀ i, i < 600 → a' (n + 1) i = a (m + 1) i) ∧ (∀ j, j < 4 → a' (n + 2) j = a (m + 2) j) ∧ ∀ k, k < 2 → cpK a' a n m k
theorem cc9 (a : Mem) {n m : Nat} (h : n + 35 ≤ m ∨ m + 35 ≤ n) (hb : ∀ i, i < 600 → isByt (a (m + 1) i)) : ∃ a', fX9_copyFrom n m a = some a' ∧ cpT a' a n m ∧ frD n 34 a a' := by
  unfold fX9_copyFrom
  rw [bytB_of hb, gdT]
  simp only [bq]
  generalize hs : cp2 (st2 (st2 (st2 (cp2 a (m + 1) (n + 1) 0 0 600) n 1 (cp2 a (m + 1) (n + 1) 0 0 600 m 1)) n 2 (st2 (cp2 a (m + 1) (n + 1) 0 0 600) n 1 (cp2 a (m + 1) (n + 1) 0 0 600 m 1) m 2)) n 3 (st2 (st2 (cp2 a (m + 1) (n + 1) 0 0 600) n 1 (cp2 a (m + 1) (n + 1) 0 0 600 m 1)) n 2 (st2 (cp2 a (m + 1) (n + 1) 0 0 600) n 1 (cp2 a (m + 1) (n + 1) 0 0 600 m 1) m 2) m 3)) (m + 2) (n + 2) 0 0 4 = s
  have z1 : s n 1 = a m 1 := by rw [← hs, cp2_c _ (by omega), st2_o _ _ (by omega), st2_o _ _ (by omega), st2_eq, cp2_c _ (by omega)]
  have z2 : s n 2 = a m 2 := by rw [← hs, cp2_c _ (by omega), st2_o _ _ (by omega), st2_eq, st2_o _ _ (by omega), cp2_c _ (by omega)]
  have z3 : s n 3 = a m 3 := by rw [← hs, cp2_c _ (by omega), st2_eq, st2_o _ _ (by omega), st2_o _ _ (by omega), cp2_c _ (by omega)]
  have z4 : ∀ i, i < 600 → s (n + 1) i = a (m + 1) i := fun i hi => by rw [← hs, cp2_c _ (by omega), st2_o _ _ (by omega), st2_o _ _ (by omega), st2_o _ _ (by omega), cp2_g, if_pos ⟨rfl, hi⟩]
  have z5 : ∀ i, i < 4 → s (n + 2) i = a (m + 2) i := fun i hi => by rw [← hs, cp2_g, if_pos ⟨rfl, hi⟩, st2_o _ _ (by omega), st2_o _ _ (by omega), st2_o _ _ (by omega), cp2_c _ (by omega)]
  have z6 : ∀ x, ¬ (n ≤ x ∧ x ≤ n + 2) → s x = a x := fun x hx => by rw [← hs, cp2_c _ (by omega), st2_c _ _ (by omega), st2_c _ _ (by omega), st2_c _ _ (by omega), cp2_c _ (by omega)]
  obtain ⟨a', p1, p2, p3⟩ := cp_two s h
  rw [p1, bq]
  refine ⟨a', rfl, ⟨⟨?_, ?_, ?_⟩, fun i hi => ?_, fun j hj => ?_, fun k hk => ?_⟩, fun x hx => ?_⟩
  · rw [p3 n (by omega)]; exact z1
  · rw [p3 n (by omega)]; exact z2
  · rw [p3 n (by omega)]; exact z3
  · rw [p3 (n + 1) (by omega)]; exact z4 i hi
  · rw [p3 (n + 2) (by omega)]; exact z5 j hj
  · exact (p2 k hk).fr (fun _ _ _ => rfl) (fun x _ _ => (z6 x (by omega)).symm)
  · rw [p3 x (by omega)]; exact z6 x (by omega)
/-- the reference's rows -/
theorem m_copyRow (b : Mem) {c N n x y : Nat} (hn : 0 < n) (hx : n * x + n ≤ N) (hy : n * y + n ≤ N) (hxy : n * x + n ≤ n * y ∨ n * y + n ≤ n * x) (hN : N < 4000) : ∃ b', fX12_copyRow c N (nI n) (nI x) (nI y) b = some b' ∧ (∀ k, k < n → b' c (n * y + k) = b c (n * x + k)) ∧ (∀ i, ¬ (n * y ≤ i ∧ i < n * y + n) → b' c i = b c i) ∧ ∀ m, m ≠ c → b' m = b m := by
  refine loop_k (fun f j s => lX12_copyRow_3 c N (nI n) (nI x) (nI y) f (nI j) s) n (fun j s => (∀ k, k < j → s c (n * y + k) = b c (n * x + k)) ∧ (∀ i, ¬ (n * y ≤ i ∧ i < n * y + n) → s c i = b c i) ∧ ∀ m, m ≠ c → s m = b m) (fun s => (∀ k, k < n → s c (n * y + k) = b c (n * x + k)) ∧ (∀ i, ¬ (n * y ≤ i ∧ i < n * y + n) → s c i = b c i) ∧ ∀ m, m ≠ c → s m = b m) (Nat.zero_le _) (by omega) (s := b) ⟨fun k hk => absurd hk (by omega), fun _ _ => rfl, fun _ _ => rfl⟩ ?_ ?_ ?_
  · rintro b' e1 e2
    refine ⟨b', ?_, e2⟩
    unfold fX12_copyRow
    have e1' : lX12_copyRow_3 c N (nI n) (nI x) (nI y) FU 0 b = some b' := e1
    rw [e1', bq]
  · intro f s hs
    refine ⟨s, ?_, hs⟩
    show lX12_copyRow_3 _ _ _ _ _ _ _ _ = _
    rw [lX12_copyRow_3, if_pos (by rw [le_nn (by omega) (by omega)]; omega)]
  · rintro f j s hj ⟨h1, h2, h3⟩
    refine ⟨st2 s c (n * y + j) (b c (n * x + j)), ?_, fun k hk => ?_, fun i hi => ?_, fun m hm => by rw [st2_c _ _ hm]; exact h3 m hm⟩
    · show lX12_copyRow_3 _ _ _ _ _ _ _ _ = lX12_copyRow_3 _ _ _ _ _ _ _ _
      rw [lX12_copyRow_3, if_neg (by rw [le_nn (by omega) (by omega)]; omega), pk_mul, pk_mul, nI_add, nI_add, inb_T (by omega) (by omega), inb_T (by omega) (by omega), gdT, gdT, nI_ck (by omega), nI_ck (by omega), nI_1, h2 _ (by omega)]
    · by_cases e : k = j
      · subst e; rw [st2_eq]
      · rw [st2_o _ _ (by omega)]; exact h1 k (by omega)
    · rw [st2_o _ _ (by omega)]; exact h2 i hi
def cpM (b' b : Mem) (y x : Nat) : Prop := b' 271 y = b 271 x ∧ (∀ i, i < 600 → b' 270 (600 * y + i) = b 270 (600 * x + i)) ∧ b' 272 y = b 272 x ∧ b' 273 y = b 273 x ∧ (∀ j, j < 4 → b' 274 (4 * y + j) = b 274 (4 * x + j)) ∧ (∀ i, i < 26 → b' 275 (26 * y + i) = b 275 (26 * x + i)) ∧ (∀ i, i < 268 → b' 276 (268 * y + i) = b 276 (268 * x + i)) ∧ (∀ i, i < 242 → b' 277 (242 * y + i) = b 277 (242 * x + i)) ∧ (∀ i, i < 34 → b' 278 (34 * y + i) = b 278 (34 * x + i))
theorem m_copyAll (b : Mem) {x y : Nat} (hx : x < 4) (hy : y < 4) (hxy : x ≠ y) (hb : ∀ i, i < 600 → isByt (b 270 (600 * x + i))) : ∃ b', fX12_copyAll (nI x) (nI y) b = some b' ∧ cpM b' b y x ∧ (∀ z, z < 4 → z ≠ y → rowM z b b') ∧ ∀ m, ¬ (270 ≤ m ∧ m ≤ 278) → b' m = b m := by
  refine loop_k (fun f j s => lX12_copyAll_2 (nI x) (nI y) f (nI j) s) 600 (fun j s => (∀ k, k < j → s 270 (600 * y + k) = b 270 (600 * x + k)) ∧ (∀ i, ¬ (600 * y ≤ i ∧ i < 600 * y + 600) → s 270 i = b 270 i) ∧ ∀ m, m ≠ 270 → s m = b m) (fun s => (∀ k, k < 600 → s 270 (600 * y + k) = b 270 (600 * x + k)) ∧ (∀ i, ¬ (600 * y ≤ i ∧ i < 600 * y + 600) → s 270 i = b 270 i) ∧ ∀ m, m ≠ 270 → s m = b m) (Nat.zero_le _) (by omega) (s := b) ⟨fun k hk => absurd hk (by omega), fun _ _ => rfl, fun _ _ => rfl⟩ ?_ ?_ ?_
  · rintro b0 e1 ⟨e2, e3, e4⟩
    obtain ⟨b1, p1, p2, p3, p4⟩ := m_copyRow b0 (c := 271) (N := 4) (n := 1) (x := x) (y := y) (by omega) (by omega) (by omega) (by omega) (by omega)
    obtain ⟨b2, q1, q2, q3, q4⟩ := m_copyRow b1 (c := 272) (N := 4) (n := 1) (x := x) (y := y) (by omega) (by omega) (by omega) (by omega) (by omega)
    obtain ⟨b3, r1, r2, r3, r4⟩ := m_copyRow b2 (c := 273) (N := 4) (n := 1) (x := x) (y := y) (by omega) (by omega) (by omega) (by omega) (by omega)
    obtain ⟨b4, s1, s2, s3, s4⟩ := m_copyRow b3 (c := 274) (N := 16) (n := 4) (x := x) (y := y) (by omega) (by omega) (by omega) (by omega) (by omega)
    obtain ⟨b5, t1, t2, t3, t4⟩ := m_copyRow b4 (c := 275) (N := 104) (n := 26) (x := x) (y := y) (by omega) (by omega) (by omega) (by omega) (by omega)
    obtain ⟨b6, u1, u2, u3, u4⟩ := m_copyRow b5 (c := 276) (N := 1072) (n := 268) (x := x) (y := y) (by omega) (by omega) (by omega) (by omega) (by omega)
    obtain ⟨b7, v1, v2, v3, v4⟩ := m_copyRow b6 (c := 277) (N := 968) (n := 242) (x := x) (y := y) (by omega) (by omega) (by omega) (by omega) (by omega)
    obtain ⟨b8, w1, w2, w3, w4⟩ := m_copyRow b7 (c := 278) (N := 136) (n := 34) (x := x) (y := y) (by omega) (by omega) (by omega) (by omega) (by omega)
    have c270 : b8 270 = b0 270 := by rw [w4 270 (by omega), v4 270 (by omega), u4 270 (by omega), t4 270 (by omega), s4 270 (by omega), r4 270 (by omega), q4 270 (by omega), p4 270 (by omega)]
    have c271 : b8 271 = b1 271 := by rw [w4 271 (by omega), v4 271 (by omega), u4 271 (by omega), t4 271 (by omega), s4 271 (by omega), r4 271 (by omega), q4 271 (by omega)]
    have c272 : b8 272 = b2 272 := by rw [w4 272 (by omega), v4 272 (by omega), u4 272 (by omega), t4 272 (by omega), s4 272 (by omega), r4 272 (by omega)]
    have c273 : b8 273 = b3 273 := by rw [w4 273 (by omega), v4 273 (by omega), u4 273 (by omega), t4 273 (by omega), s4 273 (by omega)]
    have c274 : b8 274 = b4 274 := by rw [w4 274 (by omega), v4 274 (by omega), u4 274 (by omega), t4 274 (by omega)]
    have c275 : b8 275 = b5 275 := by rw [w4 275 (by omega), v4 275 (by omega), u4 275 (by omega)]
    have c276 : b8 276 = b6 276 := by rw [w4 276 (by omega), v4 276 (by omega)]
    have c277 : b8 277 = b7 277 := by rw [w4 277 (by omega)]
    have d271 : b0 271 = b 271 := e4 271 (by omega)
    have d272 : b1 272 = b 272 := by rw [p4 272 (by omega), e4 272 (by omega)]
    have d273 : b2 273 = b 273 := by rw [q4 273 (by omega), p4 273 (by omega), e4 273 (by omega)]
    have d274 : b3 274 = b 274 := by rw [r4 274 (by omega), q4 274 (by omega), p4 274 (by omega), e4 274 (by omega)]
    have d275 : b4 275 = b 275 := by rw [s4 275 (by omega), r4 275 (by omega), q4 275 (by omega), p4 275 (by omega), e4 275 (by omega)]
    have d276 : b5 276 = b 276 := by rw [t4 276 (by omega), s4 276 (by omega), r4 276 (by omega), q4 276 (by omega), p4 276 (by omega), e4 276 (by omega)]
    have d277 : b6 277 = b 277 := by rw [u4 277 (by omega), t4 277 (by omega), s4 277 (by omega), r4 277 (by omega), q4 277 (by omega), p4 277 (by omega), e4 277 (by omega)]
    have d278 : b7 278 = b 278 := by rw [v4 278 (by omega), u4 278 (by omega), t4 278 (by omega), s4 278 (by omega), r4 278 (by omega), q4 278 (by omega), p4 278 (by omega), e4 278 (by omega)]
    refine ⟨b8, ?_, ⟨?_, ?_, ?_, ?_, ?_, ?_, ?_, ?_, ?_⟩, fun z hz hzy => ⟨?_, ?_, ?_, ?_, ?_, ?_, ?_, ?_, ?_⟩, fun m hm => ?_⟩
    · unfold fX12_copyAll
      have e1' : lX12_copyAll_2 (nI x) (nI y) FU 0 b = some b0 := e1
      rw [e1', bq, show (1 : Int32) = nI 1 from rfl, show (4 : Int32) = nI 4 from rfl, show (26 : Int32) = nI 26 from rfl, show (268 : Int32) = nI 268 from rfl, show (242 : Int32) = nI 242 from rfl, show (34 : Int32) = nI 34 from rfl, p1, bq, q1, bq, r1, bq, s1, bq, t1, bq, u1, bq, v1, bq, w1, bq]
    · rw [c271]; have := p2 0 (by omega); rw [d271] at this; rw [show 1 * y + 0 = y by omega, show 1 * x + 0 = x by omega] at this; exact this
    · intro i hi; rw [c270]; exact e2 i hi
    · rw [c272]; have := q2 0 (by omega); rw [d272] at this; rw [show 1 * y + 0 = y by omega, show 1 * x + 0 = x by omega] at this; exact this
    · rw [c273]; have := r2 0 (by omega); rw [d273] at this; rw [show 1 * y + 0 = y by omega, show 1 * x + 0 = x by omega] at this; exact this
    · intro j hj; rw [c274, s2 j hj, d274]
    · intro j hj; rw [c275, t2 j hj, d275]
    · intro j hj; rw [c276, u2 j hj, d276]
    · intro j hj; rw [c277, v2 j hj, d277]
    · intro j hj; rw [w2 j hj, d278]
    · rw [c271, p3 z (by omega), d271]
    · intro i hi; rw [c270, e3 _ (by omega)]
    · rw [c272, q3 z (by omega), d272]
    · rw [c273, r3 z (by omega), d273]
    · intro j hj; rw [c274, s3 _ (by omega), d274]
    · intro j hj; rw [c275, t3 _ (by omega), d275]
    · intro j hj; rw [c276, u3 _ (by omega), d276]
    · intro j hj; rw [c277, v3 _ (by omega), d277]
    · intro j hj; rw [w3 _ (by omega), d278]
    · rw [w4 m (by omega), v4 m (by omega), u4 m (by omega), t4 m (by omega), s4 m (by omega), r4 m (by omega), q4 m (by omega), p4 m (by omega), e4 m (by omega)]
  · intro f s hs
    refine ⟨s, ?_, hs⟩
    show lX12_copyAll_2 _ _ _ _ _ = _
    rw [lX12_copyAll_2, if_pos (by decide)]
  · rintro f j s hj ⟨h1, h2, h3⟩
    refine ⟨st2 s 270 (600 * y + j) (b 270 (600 * x + j)), ?_, fun k hk => ?_, fun i hi => ?_, fun m hm => by rw [st2_c _ _ hm]; exact h3 m hm⟩
    · show lX12_copyAll_2 _ _ _ _ _ = lX12_copyAll_2 _ _ _ _ _
      rw [lX12_copyAll_2, if_neg (by rw [li600, le_nn (by omega) (by omega)]; omega), li600, pk_mul, pk_mul, nI_add, nI_add, inb_T (by omega) (by omega), inb_T (by omega) (by omega), gdT, gdT, nI_ck (by omega), nI_ck (by omega), nI_1, h2 _ (by omega), byt_back (hb j hj)]
    · by_cases e : k = j
      · subst e; rw [st2_eq]
      · rw [st2_o _ _ (by omega)]; exact h1 k (by omega)
    · rw [st2_o _ _ (by omega)]; exact h2 i hi
