/-! ===== store and book at hand ===== -/
def MS (b : Mem) (s sp wk : Nat) (c : Nat → Nat) : Prop := b 269 23 = nI s ∧ b 275 (13 * s + 0) = nI sp ∧ b 275 (13 * s + 1) = nI wk ∧ b 275 (13 * s + 2) = nI (thr c) ∧ ∀ k, k < 10 → b 275 (13 * s + (3 + k)) = nI (c k - 1)
theorem store_at {a b : Mem} (hR : RR a b) {s : Nat} (hs : s < 2) (hm : nI s < a 3 0) : ∃ sp wk c, okS sp wk c ∧ CSt (a (8 + 14 * s)) (a (8 + 14 * s + 1)) sp wk c ∧ ∀ b', b' 269 23 = nI s → b' 275 = b 275 → MS b' s sp wk c := by
  obtain ⟨sp, wk, c, h1, h2, m1, m2, m3, m4⟩ := (hR.1.2.2.2.2.2.1 s hs hm).ab
  refine ⟨sp, wk, c, h1, h2, fun b' e1 e2 => ⟨e1, ?_, ?_, ?_, fun k hk => ?_⟩⟩
  · rw [e2, ← m1]; dsimp only; congr 1; omega
  · rw [e2, ← m2]; dsimp only; congr 1; omega
  · rw [e2, ← m3]; dsimp only; congr 1; omega
  · rw [e2, ← m4 k hk]; dsimp only; congr 1; omega
theorem m_ofStore {b : Mem} {s u : Nat} (hs : s < 2) (h : b 269 23 = nI s) (hu : u < 13) : fX12_ofStore (nI u) b = some (b 275 (13 * s + u), b) := by
  unfold fX12_ofStore
  rw [h, show (13 : Int32) = nI 13 from rfl, pk_mul, nI_add, inb_T (by omega) (by omega), gdT, nI_ck (by omega)]
def G0 (c : Nat → Nat) : Nat → Nat → Nat := fun f k => if f = 0 then c k else 0
theorem okG0 {c : Nat → Nat} (h : ∀ k, c k ≤ 100) : okG (G0 c) := fun k _ => ⟨h k, by show 0 ≤ 9999; omega, by show 0 ≤ 9999; omega⟩
theorem m_keysAsTold {b : Mem} {s sp wk : Nat} {c : Nat → Nat} (hs : s < 2) (hM : MS b s sp wk c) (h25 : b 269 25 = nI sp) : ∃ b', fX12_keysAsTold b = some b' ∧ MG b' (G0 c) sp ∧ (∀ j, j ≠ 30 → b' 269 j = b 269 j) ∧ ∀ m, m ≠ 269 → m ≠ 281 → m ≠ 282 → m ≠ 283 → b' m = b m := by
  obtain ⟨m0, m1, m2, m3, m4⟩ := hM
  refine loop_k (fun f j q => lX12_keysAsTold_11 f (nI j) q) 10 (fun j q => (∀ k, k < j → q 281 k = nI (c k - 1) ∧ q 282 k = nI 0 ∧ q 283 k = nI 0) ∧ q 269 = (st2 b 269 30 (nI (thr c))) 269 ∧ ∀ m, m ≠ 269 → m ≠ 281 → m ≠ 282 → m ≠ 283 → q m = b m) (fun q => (∀ k, k < 10 → q 281 k = nI (c k - 1) ∧ q 282 k = nI 0 ∧ q 283 k = nI 0) ∧ q 269 = (st2 b 269 30 (nI (thr c))) 269 ∧ ∀ m, m ≠ 269 → m ≠ 281 → m ≠ 282 → m ≠ 283 → q m = b m) (Nat.zero_le _) (by omega) (s := st2 b 269 30 (nI (thr c))) ⟨fun k hk => absurd hk (by omega), rfl, fun m hm _ _ _ => st2_c _ _ hm⟩ ?_ ?_ ?_
  · rintro b' e1 ⟨e2, e3, e4⟩
    refine ⟨b', ?_, ⟨?_, ?_, fun k hk => (e2 k hk).1, fun k hk => (e2 k hk).2.1, fun k hk => (e2 k hk).2.2⟩, fun j hj => ?_, e4⟩
    · unfold fX12_keysAsTold
      rw [show (2 : Int32) = nI 2 from rfl, m_ofStore hs m0 (by omega), bq, m3]
      have e1' : lX12_keysAsTold_11 FU 0 (st2 b 269 30 (nI (thr c))) = some b' := e1
      dsimp only
      rw [e1', bq]
    · rw [e3, st2_o _ _ (by omega)]; exact h25
    · rw [e3, st2_eq]; rfl
    · rw [e3, st2_o _ _ (by omega)]
  · intro f q hq
    refine ⟨q, ?_, hq⟩
    show lX12_keysAsTold_11 _ _ _ = _
    rw [lX12_keysAsTold_11, if_pos (by decide)]
  · rintro f j q hj ⟨h1, h2, h3⟩
    refine ⟨st2 (st2 (st2 q 281 j (nI (c j - 1))) 282 j (nI 0)) 283 j (nI 0), ?_, fun k hk => ?_, ?_, fun m c1 c2 c3 c4 => by rw [st2_c _ _ c4, st2_c _ _ c3, st2_c _ _ c2]; exact h3 m c1 c2 c3 c4⟩
    · show lX12_keysAsTold_11 _ _ _ = lX12_keysAsTold_11 _ _ _
      have q23 : q 269 23 = nI s := by rw [h2, st2_o _ _ (by omega)]; exact m0
      rw [lX12_keysAsTold_11, if_neg (by rw [li10, le_nn (by omega) (by omega)]; omega), show (3 : Int32) = nI 3 from rfl, nI_add, m_ofStore hs q23 (by omega), bq, h3 275 (by omega) (by omega) (by omega) (by omega), m4 j hj, inb_T hj (by omega), nI_ck (by omega), nI_1]
      simp only [gdT]
      rfl
    · by_cases e : k = j
      · subst e; exact ⟨by rw [st2_o _ _ (by omega), st2_o _ _ (by omega), st2_eq], by rw [st2_o _ _ (by omega), st2_eq], st2_eq _ _ _ _⟩
      · rw [st2_o _ _ (by omega), st2_o _ _ (by omega), st2_o _ _ (by omega), st2_o _ _ (by omega), st2_o _ _ (by omega), st2_o _ _ (by omega), st2_o _ _ (by omega), st2_o _ _ (by omega), st2_o _ _ (by omega)]
        exact h1 k (by omega)
    · rw [st2_c _ _ (by omega), st2_c _ _ (by omega), st2_c _ _ (by omega)]; exact h2
/-- as a plan begins -/
def BP (b : Mem) (c : Nat → Nat) (sp : Nat) : Prop := MG b (G0 c) sp ∧ (b 269 29 = nI 1 ∧ b 269 54 = nI 0 ∧ b 269 55 = nI 0 ∧ b 269 56 = nI 0 ∧ b 269 57 = nI 0 ∧ b 269 58 = nI 0 ∧ b 269 59 = nI 0) ∧ (∀ k, k < 10 → b 284 k = vI 0 ∧ b 285 k = vI 0 ∧ b 305 k = nI 0) ∧ (∀ t, t < 7 → b 304 t = nI 0) ∧ ∀ w, w < 4 → b 286 w = vI 0 ∧ b 287 w = nI 0 ∧ b 288 w = nI 0 ∧ b 290 w = nI 0 ∧ b 291 w = nI 0
def frP (b b' : Mem) : Prop := (∀ j, j < 29 ∨ 62 ≤ j → b' 269 j = b 269 j) ∧ ∀ m, m ≠ 269 → m ≠ 281 → m ≠ 282 → m ≠ 283 → m ≠ 284 → m ≠ 285 → m ≠ 286 → m ≠ 287 → m ≠ 288 → m ≠ 290 → m ≠ 291 → m ≠ 304 → m ≠ 305 → b' m = b m
theorem m_beginPlan {b : Mem} {s sp wk : Nat} {c : Nat → Nat} (hs : s < 2) (hM : MS b s sp wk c) (h25 : b 269 25 = nI sp) : ∃ b', fX12_beginPlan b = some b' ∧ BP b' c sp ∧ frP b b' := by
  obtain ⟨b1, p1, p2, p3, p4⟩ := m_keysAsTold hs hM h25
  unfold fX12_beginPlan
  rw [p1, bq]
  generalize hq : st2 (st2 (st2 (st2 (st2 (st2 (st2 b1 269 29 1) 269 54 0) 269 55 0) 269 56 0) 269 57 0) 269 58 0) 269 59 0 = b2
  have z0 : ∀ m, m ≠ 269 → b2 m = b1 m := fun m hm => by rw [← hq, st2_c _ _ hm, st2_c _ _ hm, st2_c _ _ hm, st2_c _ _ hm, st2_c _ _ hm, st2_c _ _ hm, st2_c _ _ hm]
  have z1 : b2 269 29 = nI 1 ∧ b2 269 54 = nI 0 ∧ b2 269 55 = nI 0 ∧ b2 269 56 = nI 0 ∧ b2 269 57 = nI 0 ∧ b2 269 58 = nI 0 ∧ b2 269 59 = nI 0 := by
    subst hq
    refine ⟨?_, ?_, ?_, ?_, ?_, ?_, ?_⟩ <;> simp (disch := omega) only [st2_o, st2_eq] <;> rfl
  have z2 : ∀ j, j ≠ 29 → ¬ (54 ≤ j ∧ j ≤ 59) → b2 269 j = b1 269 j := fun j h1 h2 => by
    subst hq
    rw [st2_o _ _ (by omega), st2_o _ _ (by omega), st2_o _ _ (by omega), st2_o _ _ (by omega), st2_o _ _ (by omega), st2_o _ _ (by omega), st2_o _ _ (by omega)]
  clear hq
  refine loop_k (fun f j q => lX12_beginPlan_41 f (nI j) q) 10 (fun j q => (∀ k, k < j → q 284 k = vI 0 ∧ q 285 k = vI 0 ∧ q 305 k = nI 0) ∧ ∀ m, m ≠ 284 → m ≠ 285 → m ≠ 305 → q m = b2 m) (fun q => (∀ k, k < 10 → q 284 k = vI 0 ∧ q 285 k = vI 0 ∧ q 305 k = nI 0) ∧ ∀ m, m ≠ 284 → m ≠ 285 → m ≠ 305 → q m = b2 m) (Nat.zero_le _) (by omega) (s := b2) ⟨fun k hk => absurd hk (by omega), fun _ _ _ _ => rfl⟩ ?_ ?_ ?_
  rotate_left
  · intro f q hq
    refine ⟨q, ?_, hq⟩
    show lX12_beginPlan_41 _ _ _ = _
    rw [lX12_beginPlan_41, if_pos (by decide)]
  · rintro f j q hj ⟨h1, h2⟩
    refine ⟨st2 (st2 (st2 q 284 j (-1)) 285 j (-1)) 305 j 0, ?_, fun k hk => ?_, fun m c1 c2 c3 => by rw [st2_c _ _ c3, st2_c _ _ c2, st2_c _ _ c1]; exact h2 m c1 c2 c3⟩
    · show lX12_beginPlan_41 _ _ _ = lX12_beginPlan_41 _ _ _
      rw [lX12_beginPlan_41, if_neg (by rw [li10, le_nn (by omega) (by omega)]; omega), inb_T hj (by omega), nI_ck (by omega), nI_1]
      simp only [gdT]
    · by_cases e : k = j
      · subst e; exact ⟨by rw [st2_o _ _ (by omega), st2_o _ _ (by omega), st2_eq]; rfl, by rw [st2_o _ _ (by omega), st2_eq]; rfl, by rw [st2_eq]; rfl⟩
      · rw [st2_o _ _ (by omega), st2_o _ _ (by omega), st2_o _ _ (by omega), st2_o _ _ (by omega), st2_o _ _ (by omega), st2_o _ _ (by omega), st2_o _ _ (by omega), st2_o _ _ (by omega), st2_o _ _ (by omega)]
        exact h1 k (by omega)
  rintro b3 e1 ⟨e2, e3⟩
  refine loop_k (fun f j q => lX12_beginPlan_76 f (nI j) q) 7 (fun j q => (∀ k, k < j → q 304 k = nI 0) ∧ ∀ m, m ≠ 304 → q m = b3 m) (fun q => (∀ k, k < 7 → q 304 k = nI 0) ∧ ∀ m, m ≠ 304 → q m = b3 m) (Nat.zero_le _) (by omega) (s := b3) ⟨fun k hk => absurd hk (by omega), fun _ _ => rfl⟩ ?_ ?_ ?_
  rotate_left
  · intro f q hq
    refine ⟨q, ?_, hq⟩
    show lX12_beginPlan_76 _ _ _ = _
    rw [lX12_beginPlan_76, if_pos (by decide)]
  · rintro f j q hj ⟨h1, h2⟩
    refine ⟨st2 q 304 j 0, ?_, fun k hk => ?_, fun m c1 => by rw [st2_c _ _ c1]; exact h2 m c1⟩
    · show lX12_beginPlan_76 _ _ _ = lX12_beginPlan_76 _ _ _
      rw [lX12_beginPlan_76, if_neg (by rw [li7, le_nn (by omega) (by omega)]; omega), inb_T hj (by omega), nI_ck (by omega), nI_1, gdT]
    · by_cases e : k = j
      · subst e; rw [st2_eq]; rfl
      · rw [st2_o _ _ (by omega)]; exact h1 k (by omega)
  rintro b4 d1 ⟨d2, d3⟩
  refine loop_k (fun f j q => lX12_beginPlan_97 f (nI j) q) 4 (fun j q => (∀ w, w < j → q 286 w = vI 0 ∧ q 287 w = nI 0 ∧ q 288 w = nI 0 ∧ q 290 w = nI 0 ∧ q 291 w = nI 0) ∧ ∀ m, m ≠ 286 → m ≠ 287 → m ≠ 288 → m ≠ 290 → m ≠ 291 → q m = b4 m) (fun q => (∀ w, w < 4 → q 286 w = vI 0 ∧ q 287 w = nI 0 ∧ q 288 w = nI 0 ∧ q 290 w = nI 0 ∧ q 291 w = nI 0) ∧ ∀ m, m ≠ 286 → m ≠ 287 → m ≠ 288 → m ≠ 290 → m ≠ 291 → q m = b4 m) (Nat.zero_le _) (by omega) (s := b4) ⟨fun k hk => absurd hk (by omega), fun _ _ _ _ _ _ => rfl⟩ ?_ ?_ ?_
  rotate_left
  · intro f q hq
    refine ⟨q, ?_, hq⟩
    show lX12_beginPlan_97 _ _ _ = _
    rw [lX12_beginPlan_97, if_pos (by decide)]
  · rintro f j q hj ⟨h1, h2⟩
    refine ⟨st2 (st2 (st2 (st2 (st2 q 286 j (-1)) 287 j 0) 288 j 0) 290 j 0) 291 j 0, ?_, fun k hk => ?_, fun m c1 c2 c3 c4 c5 => by rw [st2_c _ _ c5, st2_c _ _ c4, st2_c _ _ c3, st2_c _ _ c2, st2_c _ _ c1]; exact h2 m c1 c2 c3 c4 c5⟩
    · show lX12_beginPlan_97 _ _ _ = lX12_beginPlan_97 _ _ _
      rw [lX12_beginPlan_97, if_neg (by rw [li4, le_nn (by omega) (by omega)]; omega)]
      unfold fX12_idle
      rw [inb_T hj (by omega), nI_ck (by omega), nI_1]
      simp only [gdT, bq]
    · by_cases e : k = j
      · subst e; refine ⟨?_, ?_, ?_, ?_, ?_⟩ <;> simp (disch := omega) only [st2_o, st2_eq] <;> rfl
      · have := h1 k (by omega)
        refine ⟨?_, ?_, ?_, ?_, ?_⟩ <;> simp (disch := omega) only [st2_o] <;> first | exact this.1 | exact this.2.1 | exact this.2.2.1 | exact this.2.2.2.1 | exact this.2.2.2.2
  rintro b5 t1 ⟨t2, t3⟩
  have e1' : lX12_beginPlan_41 FU 0 b2 = some b3 := e1
  have d1' : lX12_beginPlan_76 FU 0 b3 = some b4 := d1
  have t1' : lX12_beginPlan_97 FU 0 b4 = some b5 := t1
  rw [e1', bq, d1', bq, t1', bq]
  have c53 : ∀ m, m ≠ 286 → m ≠ 287 → m ≠ 288 → m ≠ 290 → m ≠ 291 → m ≠ 304 → b5 m = b3 m := fun m h1 h2 h3 h4 h5 h6 => by rw [t3 m h1 h2 h3 h4 h5, d3 m h6]
  have c269 : b5 269 = b2 269 := by rw [c53 269 (by omega) (by omega) (by omega) (by omega) (by omega) (by omega), e3 269 (by omega) (by omega) (by omega)]
  refine ⟨b5, rfl, ⟨⟨?_, ?_, fun k hk => ?_, fun k hk => ?_, fun k hk => ?_⟩, ?_, fun k hk => ?_, fun t ht => ?_, t2⟩, fun j hj => ?_, fun m m1 m2 m3 m4 m5 m6 m7 m8 m9 m10 m11 m12 m13 => ?_⟩
  · rw [c269, z2 25 (by omega) (by omega)]; exact p2.1
  · rw [c269, z2 30 (by omega) (by omega)]; exact p2.2.1
  · rw [c53 281 (by omega) (by omega) (by omega) (by omega) (by omega) (by omega), e3 281 (by omega) (by omega) (by omega), z0 281 (by omega)]; exact p2.2.2.1 k hk
  · rw [c53 282 (by omega) (by omega) (by omega) (by omega) (by omega) (by omega), e3 282 (by omega) (by omega) (by omega), z0 282 (by omega)]; exact p2.2.2.2.1 k hk
  · rw [c53 283 (by omega) (by omega) (by omega) (by omega) (by omega) (by omega), e3 283 (by omega) (by omega) (by omega), z0 283 (by omega)]; exact p2.2.2.2.2 k hk
  · rw [c269]; exact z1
  · rw [c53 284 (by omega) (by omega) (by omega) (by omega) (by omega) (by omega), c53 285 (by omega) (by omega) (by omega) (by omega) (by omega) (by omega), c53 305 (by omega) (by omega) (by omega) (by omega) (by omega) (by omega)]; exact e2 k hk
  · rw [t3 304 (by omega) (by omega) (by omega) (by omega) (by omega)]; exact d2 t ht
  · rw [c269, z2 j (by omega) (by omega), p3 j (by omega)]
  · rw [c53 m m7 m8 m9 m10 m11 m12, e3 m m5 m6 m13, z0 m m1, p4 m m1 m2 m3 m4]
theorem frP.t {b b' : Mem} (h : frP b b') : tM b b' := fun n hn => h.2 n (by omega) (by omega) (by omega) (by omega) (by omega) (by omega) (by omega) (by omega) (by omega) (by omega) (by omega) (by omega) (by omega)
theorem frP.M {b b' : Mem} (h : frP b b') : frM b b' := fun n hn => h.2 n (by omega) (by omega) (by omega) (by omega) (by omega) (by omega) (by omega) (by omega) (by omega) (by omega) (by omega) (by omega) (by omega)
theorem MB.cg {b b' : Mem} {B : Nat → Nat → Nat} {n : Nat} (h : MB b B n) (e1 : b' 269 24 = b 269 24) (e2 : b' 269 27 = b 269 27) (e3 : b' 276 = b 276) : MB b' B n := by
  unfold MB; rw [e1, e2, e3]; exact h
theorem MS.cg {b b' : Mem} {s sp wk : Nat} {c : Nat → Nat} (h : MS b s sp wk c) (e1 : b' 269 23 = b 269 23) (e3 : b' 275 = b 275) : MS b' s sp wk c := by
  unfold MS; rw [e1, e3]; exact h
/-- all at hand -/
def HD (b : Mem) (s sp wk : Nat) (c : Nat → Nat) (n : Nat) (B : Nat → Nat → Nat) : Prop := MS b s sp wk c ∧ MB b B n ∧ b 269 25 = nI sp ∧ b 269 26 = nI wk ∧ b 269 28 = nI (9 / sp + 1)
theorem m_hand {a b b0 : Mem} (hR : RR a b) (h0 : ∀ m, m ≠ 269 → b0 m = b m) {s n sp wk : Nat} {c : Nat → Nat} {B : Nat → Nat → Nat} (hs : s < 2) (hm : nI s < a 3 0) (hn : n < 2) (hn2 : nI n < a 3 1) (hS : ∀ b', b' 269 23 = nI s → b' 275 = b 275 → MS b' s sp wk c) (ok : okS sp wk c) (hB : MBk (fun i => b 276 (134 * n + i)) B) :
    ∃ b', fX12_hand (nI s) (nI n) b0 = some (true, b') ∧ HD b' s sp wk c n B ∧ BP b' c sp ∧ (∀ j, 62 ≤ j → b' 269 j = b0 269 j) ∧ tM b b' ∧ frM b b' := by
  obtain ⟨⟨o1, o2⟩, ⟨o3, o4⟩, o5⟩ := ok
  have g2 : ∀ b' : Mem, b' 274 = b 274 → fX12_is 0 (nI s) b' = some (true, b') := (has_pos hR (s := 0) (by omega) hs hm).2
  have e0 : ∀ m, m ≠ 269 → (st2 b0 269 23 (nI s)) m = b m := fun m hm => by rw [st2_c _ _ hm]; exact h0 m hm
  have g3 := m_hasBook hR hn hn2 hB e0
  unfold fX12_hand
  rw [g2 _ (e0 274 (by omega)), bq]
  dsimp only
  rw [if_pos rfl, g3, bq]
  dsimp only
  rw [if_pos rfl]
  generalize hq : st2 (st2 (st2 b0 269 23 (nI s)) 269 24 (nI n)) 269 27 (nI (B 0 0)) = b1
  have z1 : ∀ m, m ≠ 269 → b1 m = b m := fun m hm => by rw [← hq, st2_c _ _ hm, st2_c _ _ hm]; exact e0 m hm
  have z2 : b1 269 23 = nI s := by rw [← hq, st2_o _ _ (by omega), st2_o _ _ (by omega), st2_eq]
  have z3 : b1 269 24 = nI n := by rw [← hq, st2_o _ _ (by omega), st2_eq]
  have z4 : b1 269 27 = nI (B 0 0) := by rw [← hq, st2_eq]
  have z5 : ∀ j, 62 ≤ j → b1 269 j = b0 269 j := fun j hj => by rw [← hq, st2_o _ _ (by omega), st2_o _ _ (by omega), st2_o _ _ (by omega)]
  have hS1 := hS b1 z2 (z1 275 (by omega))
  have hB1 : MB b1 B n := ⟨z3, z4, by rw [z1 276 (by omega)]; exact hB⟩
  clear hq
  rw [show (0 : Int32) = nI 0 from rfl, m_ofStore hs z2 (by omega), bq, hS1.2.1]
  dsimp only
  rw [show (1 : Int32) = nI 1 from rfl, m_ofStore (u := 1) hs (by rw [st2_o _ _ (by omega)]; exact z2) (by omega), bq, st2_c _ _ (show ¬ 275 = 269 by omega), hS1.2.2.1]
  dsimp only
  rw [show (9 : Int32) = nI 9 from rfl, m_nodeOf (sp := sp) (by rw [st2_o _ _ (by omega), st2_eq]) o1 o2 (by omega), bq]
  dsimp only
  rw [nI_add]
  generalize hq : st2 (st2 (st2 b1 269 25 (nI sp)) 269 26 (nI wk)) 269 28 (nI (9 / sp + 1)) = b2
  have y1 : ∀ m, m ≠ 269 → b2 m = b m := fun m hm => by rw [← hq, st2_c _ _ hm, st2_c _ _ hm, st2_c _ _ hm]; exact z1 m hm
  have y2 : b2 269 25 = nI sp := by rw [← hq, st2_o _ _ (by omega), st2_o _ _ (by omega), st2_eq]
  have y3 : b2 269 26 = nI wk := by rw [← hq, st2_o _ _ (by omega), st2_eq]
  have y4 : b2 269 28 = nI (9 / sp + 1) := by rw [← hq, st2_eq]
  have y5 : ∀ j, j ≠ 25 → j ≠ 26 → j ≠ 28 → b2 269 j = b1 269 j := fun j h1 h2 h3 => by rw [← hq, st2_o _ _ (by omega), st2_o _ _ (by omega), st2_o _ _ (by omega)]
  clear hq
  have hS2 : MS b2 s sp wk c := hS b2 (by rw [y5 23 (by omega) (by omega) (by omega)]; exact z2) (y1 275 (by omega))
  have hB2 : MB b2 B n := hB1.cg (y5 24 (by omega) (by omega) (by omega)) (y5 27 (by omega) (by omega) (by omega)) (by rw [y1 276 (by omega), z1 276 (by omega)])
  obtain ⟨b3, q1, q2, q3⟩ := m_beginPlan hs hS2 y2
  rw [q1, bq]
  refine ⟨b3, rfl, ⟨hS2.cg (q3.1 23 (by omega)) (q3.t 275 (by omega)), hB2.cg (q3.1 24 (by omega)) (q3.1 27 (by omega)) (q3.t 276 (by omega)), ?_, ?_, ?_⟩, q2, fun j hj => ?_, fun m hm => ?_, fun m hm => ?_⟩
  · rw [q3.1 25 (by omega)]; exact y2
  · rw [q3.1 26 (by omega)]; exact y3
  · rw [q3.1 28 (by omega)]; exact y4
  · rw [q3.1 j (by omega), y5 j (by omega) (by omega) (by omega)]; exact z5 j hj
  · rw [q3.t m hm, y1 m (by omega)]
  · rw [q3.M m hm, y1 m (by omega)]
theorem m_hand_no1 {a b b0 : Mem} (hR : RR a b) (h0 : ∀ m, m ≠ 269 → b0 m = b m) {x : Int32} (hx : ¬ ∃ k : Nat, k < 2 ∧ x = nI k ∧ nI k < a 3 0) (y : Int32) : fX12_hand x y b0 = some (false, st2 b0 269 23 x) := by
  unfold fX12_hand
  have g2 : ∀ b' : Mem, b' 274 = b 274 → fX12_is 0 x b' = some (false, b') := (has_neg hR (s := 0) (by omega) hx).2
  rw [g2 _ (by rw [st2_c _ _ (by omega)]; exact h0 274 (by omega)), bq]
  rfl
theorem m_hand_no2 {a b b0 : Mem} (hR : RR a b) (h0 : ∀ m, m ≠ 269 → b0 m = b m) {s : Nat} (hs : s < 2) (hm : nI s < a 3 0) {y : Int32} (hy : ¬ ∃ k : Nat, k < 2 ∧ y = nI k ∧ nI k < a 3 1) : fX12_hand (nI s) y b0 = some (false, st2 (st2 b0 269 23 (nI s)) 269 24 y) := by
  have e0 : ∀ m, m ≠ 269 → (st2 b0 269 23 (nI s)) m = b m := fun m hm => by rw [st2_c _ _ hm]; exact h0 m hm
  unfold fX12_hand
  have g2 : ∀ b' : Mem, b' 274 = b 274 → fX12_is 0 (nI s) b' = some (true, b') := (has_pos hR (s := 0) (by omega) hs hm).2
  rw [g2 _ (e0 274 (by omega)), bq]
  dsimp only
  rw [if_pos rfl, m_noBook hR hy e0, bq]
  rfl
