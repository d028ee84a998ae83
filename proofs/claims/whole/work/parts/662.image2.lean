theorem SRf.cc {p v r p' v' : Nat → Int32} (h : SRf p v r) (e0 : p' 0 = p 0) (e1 : p' 1 = p 1) (e2 : ∀ k, k < 10 → v' k = v k) : SRf p' v' r := by
  obtain ⟨sp, w, th, h1, h2, h3, h4, h5, h6, h7, h8, h9⟩ := h
  refine ⟨sp, w, th, h1, h2, h3, by rw [e0]; exact h4, h5, by rw [e1]; exact h6, h7, h8, fun k hk => ?_⟩
  rw [e2 k hk]; exact h9 k hk
theorem BRf.cc {p st kd ky ot r p' st' kd' ky' ot' : Nat → Int32} (h : BRf p st kd ky ot r) (e0 : p' 0 = p 0) (e1 : ∀ k, k < 7 → st' k = st k) (e2 : ∀ k, k < 42 → kd' k = kd k) (e3 : ∀ k, k < 42 → ky' k = ky k) (e4 : ∀ k, k < 42 → ot' k = ot k) : BRf p' st' kd' ky' ot' r := by
  obtain ⟨T, h1, h2, h3, h4⟩ := h
  refine ⟨T, h1, by rw [e0]; exact h2, h3, fun t ht => ?_⟩
  obtain ⟨S, g1, g2, g3, g4⟩ := h4 t ht
  refine ⟨S, g1, by rw [e1 t (by omega)]; exact g2, g3, fun i hi => ?_⟩
  rw [e2 _ (by omega), e3 _ (by omega), e4 _ (by omega)]
  exact g4 i hi
theorem PRf.cc {p kd wk tk r p' kd' wk' tk' : Nat → Int32} (h : PRf p kd wk tk r) (e0 : p' 0 = p 0) (e1 : ∀ k, k < 40 → kd' k = kd k) (e2 : ∀ k, k < 40 → wk' k = wk k) (e3 : ∀ k, k < 40 → tk' k = tk k) : PRf p' kd' wk' tk' r := by
  obtain ⟨S, h1, h2, h3, h4⟩ := h
  refine ⟨S, h1, by rw [e0]; exact h2, h3, fun i hi => ?_⟩
  rw [e1 _ (by omega), e2 _ (by omega), e3 _ (by omega)]
  exact h4 i hi
theorem DRf.cc {p ky v r p' ky' v' : Nat → Int32} (h : DRf p ky v r) (e0 : p' 0 = p 0) (e1 : ∀ k, k < 8 → ky' k = ky k) (e2 : ∀ k, k < 8 → v' k = v k) : DRf p' ky' v' r := by
  obtain ⟨S, h1, h2, h3, h4⟩ := h
  refine ⟨S, h1, by rw [e0]; exact h2, h3, fun i hi => ?_⟩
  rw [e1 _ (by omega), e2 _ (by omega)]
  exact h4 i hi
theorem TR.cp {a b a' b' : Mem} {n m x y : Nat} (h : TR a b m x) (hc : cpT a' a n m) (hm : cpM b' b y x) : TR a' b' n y := by
  obtain ⟨q1, q2, q3, q4, q5, q6, q7, q8, q9⟩ := h
  obtain ⟨⟨c1, c2, c3⟩, c4, c5, c6⟩ := hc
  obtain ⟨m1, m2, m3, m4, m5, m6, m7, m8, m9⟩ := hm
  refine ⟨?_, ?_, ?_, ?_, ?_, ?_, ?_, ?_, ?_⟩
  · rw [c1, m1]; exact q1
  · intro i hi; rw [c4 i hi, m2 i hi]; exact q2 i hi
  · rw [c2, m3]; exact q3
  · rw [c3, m4]; exact q4
  · intro j hj; unfold MR; rw [c5 j hj, m5 j hj]; exact q5 j hj
  · intro k hk hs; rw [c5 0 (by omega)] at hs
    obtain ⟨⟨d1, d2, d3⟩, -⟩ := c6 k hk
    exact SRf.cg (SRf.cc (q6 k hk hs) d1 d2 d3) (fun i hi => by rw [Nat.add_assoc, Nat.add_assoc]; exact m6 _ (by omega))
  · intro k hk hs; rw [c5 1 (by omega)] at hs
    obtain ⟨-, ⟨d1, d2, d3, d4, d5⟩, -⟩ := c6 k hk
    exact BRf.cg (BRf.cc (q7 k hk hs) d1 d2 d3 d4 d5) (fun i hi => by rw [Nat.add_assoc, Nat.add_assoc]; exact m7 _ (by omega))
  · intro k hk hs; rw [c5 2 (by omega)] at hs
    obtain ⟨-, -, ⟨d1, d2, d3, d4⟩, -⟩ := c6 k hk
    exact PRf.cg (PRf.cc (q8 k hk hs) d1 d2 d3 d4) (fun i hi => by rw [Nat.add_assoc, Nat.add_assoc]; exact m8 _ (by omega))
  · intro k hk hs; rw [c5 3 (by omega)] at hs
    obtain ⟨-, -, -, ⟨d1, d2, d3⟩⟩ := c6 k hk
    exact DRf.cg (DRf.cc (q9 k hk hs) d1 d2 d3) (fun i hi => by rw [Nat.add_assoc, Nat.add_assoc]; exact m9 _ (by omega))
theorem rowM.rf {z : Nat} {b : Mem} : rowM z b b := ⟨rfl, fun _ _ => rfl, rfl, rfl, fun _ _ => rfl, fun _ _ => rfl, fun _ _ => rfl, fun _ _ => rfl, fun _ _ => rfl⟩
theorem rowM.of {z : Nat} {b b' : Mem} (h : tM b b') : rowM z b b' := by
  have f : ∀ n, 270 ≤ n → n ≤ 278 → b' n = b n := fun n x y => h n (Or.inl ⟨x, y⟩)
  refine ⟨by rw [f 271 (by omega) (by omega)], fun i _ => by rw [f 270 (by omega) (by omega)], by rw [f 272 (by omega) (by omega)], by rw [f 273 (by omega) (by omega)], fun i _ => by rw [f 274 (by omega) (by omega)], fun i _ => by rw [f 275 (by omega) (by omega)], fun i _ => by rw [f 276 (by omega) (by omega)], fun i _ => by rw [f 277 (by omega) (by omega)], fun i _ => by rw [f 278 (by omega) (by omega)]⟩
theorem rowM.cg {z : Nat} {b b1 b2 : Mem} (h : rowM z b b1) (e : ∀ m, 270 ≤ m → m ≤ 278 → b2 m = b1 m) : rowM z b b2 := by
  unfold rowM
  rw [e 271 (by omega) (by omega), e 270 (by omega) (by omega), e 272 (by omega) (by omega), e 273 (by omega) (by omega), e 274 (by omega) (by omega), e 275 (by omega) (by omega), e 276 (by omega) (by omega), e 277 (by omega) (by omega), e 278 (by omega) (by omega)]
  exact h
theorem cpM.cg {b b1 b2 : Mem} {x y : Nat} (h : cpM b1 b y x) (e : ∀ m, 270 ≤ m → m ≤ 278 → b2 m = b1 m) : cpM b2 b y x := by
  unfold cpM
  rw [e 271 (by omega) (by omega), e 270 (by omega) (by omega), e 272 (by omega) (by omega), e 273 (by omega) (by omega), e 274 (by omega) (by omega), e 275 (by omega) (by omega), e 276 (by omega) (by omega), e 277 (by omega) (by omega), e 278 (by omega) (by omega)]
  exact h
theorem cpT.cg {a a1 a2 : Mem} {n m : Nat} (h : cpT a1 a n m) (e : ∀ x, n ≤ x → x ≤ n + 34 → a2 x = a1 x) : cpT a2 a n m := by
  obtain ⟨h1, h2, h3, h4⟩ := h
  refine ⟨by rw [e n (by omega) (by omega)]; exact h1, by rw [e (n + 1) (by omega) (by omega)]; exact h2, by rw [e (n + 2) (by omega) (by omega)]; exact h3, fun k hk => (h4 k hk).fr (fun x _ _ => e x (by omega) (by omega)) (fun _ _ _ => rfl)⟩
theorem p_image (x : Int32) : PAIR (fX11_image x) (fX12_image x) := fun a b hR => by
  unfold fX11_image fX12_image
  rw [f_in, bq]
  dsimp only
  rcases pk_ix x (n := 3) (by decide) with h | h | ⟨k, hk, rfl⟩
  · rw [if_pos h, if_neg (by simp [h])]; exact ⟨_, _, _, rfl, rfl, frC.rf, cd_M.1, cdR hR⟩
  · have h4 : (3 : Int32) ≤ x := h
    have h3 : (2 : Int32) < x := Int32.lt_of_lt_of_le (by decide) h4
    have h0 : ¬ x < 0 := fun z => absurd (Int32.lt_of_lt_of_le z (Int32.le_trans (show (0 : Int32) ≤ 3 by decide) h4)) (Int32.lt_irrefl)
    have h5 : ¬ x < 3 := fun z => absurd (Int32.lt_of_lt_of_le z h4) Int32.lt_irrefl
    rw [if_neg h0, if_neg h5, if_neg (by simp [h3])]; exact ⟨_, _, _, rfl, rfl, frC.rf, cd_M.1, cdR hR⟩
  · have hR0 := cdR hR
    have hT := hR0.1
    obtain ⟨a1, p1, p2, p3⟩ := cc9 a (n := 37 + 35 * k) (m := 1) (by omega) (fun i hi => (hT.2.1 i hi).1)
    obtain ⟨b1, q1, q2, q3, q4⟩ := m_copyAll (st2 b 269 0 0) (x := 0) (y := k + 1) (by omega) (by omega) (by omega) (fun i hi => by rw [(hT.2.1 i hi).2]; exact (hT.2.1 i hi).1)
    have hin : decide (¬ nI k < 0 ∧ ¬ (2 : Int32) < nI k) = true := decide_eq_true ⟨nI_pos (by omega), by rw [show (2 : Int32) = nI 2 from rfl, lt_nn (by omega) (by omega)]; omega⟩
    have q1' : fX12_copyAll 0 (nI k + 1) (st2 b 269 0 0) = some b1 := by rw [nI_1]; exact q1
    rw [if_neg (nI_pos (by omega)), if_pos (by rw [show (3 : Int32) = nI 3 from rfl, lt_nn (by omega) (by omega)]; exact hk), inb_T hk (by omega), gdT, nI_ck (by omega), p1, bq, gdT, if_pos hin, q1', bq, gdT]
    refine ⟨true, _, _, rfl, rfl, fun n hn => ?_, fun n hn => ?_, ?_, fun j hj => ?_⟩
    · rw [st2_c _ _ (by omega), p3 n (by omega)]
    · rw [st2_c _ _ (by omega), q4 n (by omega), st2_c _ _ (by omega)]
    · refine hT.cgR (fun c hc => ?_) ((q3 0 (by omega) (by omega)).cg (fun m _ _ => st2_c _ _ (by omega)))
      rw [st2_c _ _ (by omega), p3 _ (by omega)]
    · by_cases e : j = k
      · subst e
        refine ⟨by rw [st2_eq, st2_eq], Or.inr ⟨st2_eq _ _ _ _, hT.cp (p2.cg (fun x _ _ => st2_c _ _ (by omega))) (q2.cg (fun m _ _ => st2_c _ _ (by omega)))⟩⟩
      · obtain ⟨i1, i2⟩ := hR0.2 j hj
        have e1 : (st2 a1 142 k 1) 142 j = a 142 j := by rw [st2_o _ _ (by omega), p3 142 (by omega)]
        have e2 : (st2 b1 313 k 1) 313 j = (st2 b 269 0 0) 313 j := by rw [st2_o _ _ (by omega), q4 313 (by omega)]
        refine ⟨by rw [e1, e2]; exact i1, ?_⟩
        rw [e1]
        refine i2.imp id (fun z => ⟨z.1, z.2.cgR (fun c hc => ?_) ((q3 (j + 1) (by omega) (by omega)).cg (fun m _ _ => st2_c _ _ (by omega)))⟩)
        rw [st2_c _ _ (by omega), p3 _ (by omega)]
theorem p_again (x : Int32) : PAIR (fX11_again x) (fX12_again x) := fun a b hR => by
  unfold fX11_again fX12_again
  rw [f_in, bq]
  dsimp only
  rcases pk_ix x (n := 3) (by decide) with h | h | ⟨k, hk, rfl⟩
  · rw [if_pos h, if_neg (by simp [h])]; exact ⟨_, _, _, rfl, rfl, frC.rf, cd_M.1, cdR hR⟩
  · have h4 : (3 : Int32) ≤ x := h
    have h3 : (2 : Int32) < x := Int32.lt_of_lt_of_le (by decide) h4
    have h0 : ¬ x < 0 := fun z => absurd (Int32.lt_of_lt_of_le z (Int32.le_trans (show (0 : Int32) ≤ 3 by decide) h4)) (Int32.lt_irrefl)
    rw [if_neg h0, if_pos h4, if_neg (by simp [h3])]; exact ⟨_, _, _, rfl, rfl, frC.rf, cd_M.1, cdR hR⟩
  · have hR0 := cdR hR
    obtain ⟨i1, i2⟩ := hR0.2 k hk
    have e313 : (st2 b 269 0 0) 313 k = b 313 k := by rw [st2_o _ _ (by omega)]
    have hin : decide (¬ nI k < 0 ∧ ¬ (2 : Int32) < nI k) = true := decide_eq_true ⟨nI_pos (by omega), by rw [show (2 : Int32) = nI 2 from rfl, lt_nn (by omega) (by omega)]; omega⟩
    rw [if_neg (nI_pos (by omega)), if_neg (by rw [show (3 : Int32) = nI 3 from rfl, le_nn (by omega) (by omega)]; omega), inb_T hk (by omega), gdT, nI_ck (by omega), if_pos hin, gdT, gdT]
    rcases i2 with h0 | ⟨h1, hT⟩
    · rw [if_pos h0, if_pos (by rw [i1]; exact h0)]; exact ⟨_, _, _, rfl, rfl, frC.rf, cd_M.1, hR0⟩
    · obtain ⟨a1, p1, p2, p3⟩ := cc9 a (n := 1) (m := 37 + 35 * k) (by omega) (fun i hi => (hT.2.1 i hi).1)
      obtain ⟨b1, q1, q2, q3, q4⟩ := m_copyAll (st2 b 269 0 0) (x := k + 1) (y := 0) (by omega) (by omega) (by omega) (fun i hi => by rw [(hT.2.1 i hi).2]; exact (hT.2.1 i hi).1)
      have hne : ¬ (a 142 k = 0) := by rw [h1]; decide
      have q1' : fX12_copyAll (nI k + 1) 0 (st2 b 269 0 0) = some b1 := by rw [nI_1]; exact q1
      rw [if_neg hne, if_neg (by rw [i1]; exact hne), p1, bq, q1', bq]
      refine ⟨true, _, _, rfl, rfl, fun n hn => p3 n (by omega), fun n hn => ?_, hT.cp p2 q2, fun j hj => ?_⟩
      · rw [q4 n (by omega), st2_c _ _ (by omega)]
      · obtain ⟨j1, j2⟩ := hR0.2 j hj
        refine ⟨by rw [p3 142 (by omega), q4 313 (by omega)]; exact j1, ?_⟩
        rw [p3 142 (by omega)]
        exact j2.imp id (fun z => ⟨z.1, z.2.cgR (fun c hc => p3 _ (by omega)) (q3 (j + 1) (by omega) (by omega))⟩)
