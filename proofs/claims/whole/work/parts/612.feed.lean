/-! ===== end, feed ===== -/
theorem TR.hd {a b a' b' : Mem} {t o : Nat} (h : TR a b t o) (h1 : ∀ c, 1 ≤ c → c ≤ 34 → a' (t + c) = a (t + c)) (hb : ∀ n, n = 270 ∨ (274 ≤ n ∧ n ≤ 278) → b' n = b n) (hl : ∃ n : Nat, n ≤ 600 ∧ a' t 1 = nI n ∧ b' 271 o = nI n) (hf : b' 272 o = a' t 2) (hp : b' 273 o = a' t 3) : TR a' b' t o := by
  obtain ⟨q1, q2, q3, q4, q5, q6, q7, q8, q9⟩ := h
  have e2 : a' (t + 2) = a (t + 2) := h1 2 (by omega) (by omega)
  have ee : ∀ x, t + 1 ≤ x → x ≤ t + 34 → a' x = a x := fun x g1 g2 => by rw [show x = t + (x - t) by omega]; exact h1 _ (by omega) (by omega)
  refine ⟨hl, ?_, hf, hp, ?_, ?_, ?_, ?_, ?_⟩
  · rw [h1 1 (by omega) (by omega), hb 270 (by omega)]; exact q2
  · intro j hj; unfold MR; rw [e2, hb 274 (by omega)]; exact q5 j hj
  · intro k hk hm; rw [e2] at hm
    have h := q6 k hk hm
    unfold SR at h ⊢
    rw [ee _ (by omega) (by omega), ee (t + 7 + 14 * k + 1) (by omega) (by omega), hb 275 (by omega)]; exact h
  · intro k hk hm; rw [e2] at hm
    have h := q7 k hk hm
    unfold BR at h ⊢
    rw [ee _ (by omega) (by omega), ee (t + 9 + 14 * k + 1) (by omega) (by omega), ee (t + 9 + 14 * k + 2) (by omega) (by omega), ee (t + 9 + 14 * k + 3) (by omega) (by omega), ee (t + 9 + 14 * k + 4) (by omega) (by omega), hb 276 (by omega)]; exact h
  · intro k hk hm; rw [e2] at hm
    have h := q8 k hk hm
    unfold PR at h ⊢
    rw [ee _ (by omega) (by omega), ee (t + 14 + 14 * k + 1) (by omega) (by omega), ee (t + 14 + 14 * k + 2) (by omega) (by omega), ee (t + 14 + 14 * k + 3) (by omega) (by omega), hb 277 (by omega)]; exact h
  · intro k hk hm; rw [e2] at hm
    have h := q9 k hk hm
    unfold DR at h ⊢
    rw [ee _ (by omega) (by omega), ee (t + 18 + 14 * k + 1) (by omega) (by omega), ee (t + 18 + 14 * k + 2) (by omega) (by omega), hb 278 (by omega)]; exact h
/-- the images stay -/
theorem IR.keep {a b a' b' : Mem} {j : Nat} (hj : j < 3) (h : IR a b j) (h1 : ∀ n, 36 ≤ n → n ≤ 142 → a' n = a n) (h2 : rowM (j + 1) b b') (h3 : b' 313 = b 313) : IR a' b' j := by
  obtain ⟨q1, q2⟩ := h
  refine ⟨by rw [h1 142 (by omega) (by omega), h3]; exact q1, ?_⟩
  rw [h1 142 (by omega) (by omega)]
  exact q2.imp id (fun z => ⟨z.1, z.2.cgR (fun c hc => h1 _ (by omega) (by omega)) h2⟩)
/-- the told tape's length -/
theorem RR.len {a b : Mem} (h : RR a b) {n : Nat} (hn : n ≤ 600) : RR (st2 a 1 1 (nI n)) (st2 b 271 0 (nI n)) := by
  refine ⟨h.1.hd (fun c h1 _ => st2_ne _ _ _ (by omega)) (fun x hx => st2_ne _ _ _ (by omega)) ⟨n, hn, st2_eq _ _ _ _, st2_eq _ _ _ _⟩ ?_ ?_, fun j hj => (h.2 j hj).keep hj (fun x h1 _ => st2_ne _ _ _ (by omega)) ?_ (st2_ne _ _ _ (by omega))⟩
  · rw [st2_nc _ _ _ _ (by omega), st2_ns _ _ _ (by omega)]; exact h.1.2.2.1
  · rw [st2_nc _ _ _ _ (by omega), st2_ns _ _ _ (by omega)]; exact h.1.2.2.2.1
  · refine ⟨st2_ns _ _ _ (by omega), ?_, ?_, ?_, ?_, ?_, ?_, ?_, ?_⟩ <;> first | (intro i _; exact st2_nc _ _ _ _ (by omega)) | exact st2_nc _ _ _ _ (by omega)
theorem cdR {a b : Mem} (h : RR a b) : RR a (st2 b 269 0 0) := h.cg tC.rf cd_M.2
theorem p_end (x : Int32) : PAIR (fX11_end x) (fX12_end x) := fun a b hR => by
  obtain ⟨⟨n, hn, e1, e2⟩, -⟩ := hR.1
  unfold fX11_end fX12_end
  rw [f_in, bq, st2_nc b 0 0 0 (by decide), e1, e2]
  dsimp only
  by_cases h0 : x < 0
  · rw [if_pos h0, if_neg (by simp [h0])]; exact ⟨_, _, _, rfl, rfl, frC.rf, cd_M.1, cdR hR⟩
  · rw [if_neg h0]
    obtain ⟨j, hj, rfl⟩ := nI_of h0
    by_cases h1 : nI j ≤ nI n
    · have h2 : ¬ nI n < nI j := fun z => absurd (Int32.lt_of_lt_of_le z h1) Int32.lt_irrefl
      rw [if_pos h1, if_pos (by simp [h0, h2])]
      have hjn : j ≤ n := (nI_leI hj (by omega)).mp h1
      exact ⟨_, _, _, rfl, rfl, frC.st _ _ (by omega), cd_M.1.tr (frM.st _ _ (by omega)), (cdR hR).len (by omega)⟩
    · have h2 : nI n < nI j := Int32.not_le.mp h1
      rw [if_neg h1, if_neg (by simp [h2])]; exact ⟨_, _, _, rfl, rfl, frC.rf, cd_M.1, cdR hR⟩
theorem b8_of {y z : Int32} (h : y.toBitVec.toNat % 256 = z.toBitVec.toNat % 256) : Int32.toInt8 y = Int32.toInt8 z := by
  apply Int8.toBitVec_inj.mp
  rw [Int32.toBitVec_toInt8, Int32.toBitVec_toInt8, BitVec.signExtend_eq_setWidth_of_le _ (by decide), BitVec.signExtend_eq_setWidth_of_le _ (by decide)]
  apply BitVec.eq_of_toNat_eq
  rw [BitVec.toNat_setWidth, BitVec.toNat_setWidth]
  exact h
theorem i32_cond (x : Int32) : (x.toBitVec.toNat : Int) = x.toInt ∨ (x.toBitVec.toNat : Int) = x.toInt + 4294967296 := by
  have h : x.toInt = x.toBitVec.toInt := rfl
  rw [h, BitVec.toInt_eq_toNat_cond]
  split
  · exact Or.inl rfl
  · right; omega
theorem ush_k {x s : Int32} (k : Nat) (hk : k = 24 ∨ k = 16 ∨ k = 8 ∨ k = 0) (h1 : ((s.toUInt32 &&& Int32.toUInt32 31).toBitVec % 32).toNat = k) (h2 : ((s &&& 31).toBitVec.smod 32).toNat = k) : Int32.toInt8 (ushr x s) = Int32.toInt8 (x >>> (s &&& 31)) := by
  apply b8_of
  have e1 := pk_ushr x s k h1
  have e2 := pk_shr x (s &&& 31) k h2
  have e3 : (ushr x s).toBitVec.toNat = x.toBitVec.toNat / 2 ^ k := e1
  rw [e3]
  rw [Int.shiftRight_eq_div_pow] at e2
  have c1 := i32_cond x
  have c2 := i32_cond (x >>> (s &&& 31))
  have b1 := x.toBitVec.isLt
  generalize x.toBitVec.toNat = A at *
  generalize (x >>> (s &&& 31)).toBitVec.toNat = B at *
  generalize x.toInt = I at *
  rw [e2] at c2
  rcases hk with rfl | rfl | rfl | rfl <;> omega
theorem ush_b {x s : Int32} (hs : s = 24 ∨ s = 16 ∨ s = 8 ∨ s = 0) : Int32.toInt8 (ushr x s) = Int32.toInt8 (x >>> (s &&& 31)) := by
  rcases hs with rfl | rfl | rfl | rfl
  · exact ush_k 24 (by omega) (by decide) (by decide)
  · exact ush_k 16 (by omega) (by decide) (by decide)
  · exact ush_k 8 (by omega) (by decide) (by decide)
  · exact ush_k 0 (by omega) (by decide) (by decide)
theorem byt_ok (z : Int8) : isByt z.toInt32 := by
  unfold isByt
  have := pk_fb z.toInt32
  rw [show z.toInt32.toInt8 = z by simp] at this
  exact this
/-- one byte more -/
theorem RR.byte {a b : Mem} (h : RR a b) {n : Nat} (hn : n < 600) {v : Int32} (hv : isByt v) : RR (st2 (st2 a 2 n v) 1 1 (nI (n + 1))) (st2 (st2 b 270 n v) 271 0 (nI (n + 1))) := by
  refine RR.len (a := st2 a 2 n v) (b := st2 b 270 n v) ?_ (by omega)
  obtain ⟨⟨q1, q2, q3, q4, q5, q6, q7, q8, q9⟩, hI⟩ := h
  refine ⟨⟨?_, ?_, ?_, ?_, ?_, ?_, ?_, ?_, ?_⟩, fun j hj => (hI j hj).keep hj (fun x h1 _ => st2_ne _ _ _ (by omega)) ?_ (st2_ne _ _ _ (by omega))⟩
  · rw [st2_nc _ _ _ _ (by omega), st2_nc _ _ _ _ (by omega)]; exact q1
  · intro i hi
    rw [st2_g, st2_g]
    by_cases e : i = n
    · rw [if_pos ⟨rfl, e⟩, if_pos ⟨rfl, by omega⟩]; exact ⟨hv, rfl⟩
    · rw [if_neg (fun z => e z.2), if_neg (fun z => e (by omega))]; exact q2 i hi
  · rw [st2_nc _ _ _ _ (by omega), st2_nc _ _ _ _ (by omega)]; exact q3
  · rw [st2_nc _ _ _ _ (by omega), st2_nc _ _ _ _ (by omega)]; exact q4
  · intro j hj; unfold MR; rw [st2_nc _ _ _ _ (by omega), st2_nc _ _ _ _ (by omega)]; exact q5 j hj
  · intro k hk hm; rw [st2_nc _ _ _ _ (by omega)] at hm
    have h := q6 k hk hm
    unfold SR at h ⊢
    rw [st2_ne _ _ _ (by omega), st2_ne _ _ _ (by omega), st2_ne _ _ _ (by omega)]; exact h
  · intro k hk hm; rw [st2_nc _ _ _ _ (by omega)] at hm
    have h := q7 k hk hm
    unfold BR at h ⊢
    rw [st2_ne _ _ _ (by omega), st2_ne _ _ _ (by omega), st2_ne _ _ _ (by omega), st2_ne _ _ _ (by omega), st2_ne _ _ _ (by omega), st2_ne _ _ _ (by omega)]; exact h
  · intro k hk hm; rw [st2_nc _ _ _ _ (by omega)] at hm
    have h := q8 k hk hm
    unfold PR at h ⊢
    rw [st2_ne _ _ _ (by omega), st2_ne _ _ _ (by omega), st2_ne _ _ _ (by omega), st2_ne _ _ _ (by omega), st2_ne _ _ _ (by omega)]; exact h
  · intro k hk hm; rw [st2_nc _ _ _ _ (by omega)] at hm
    have h := q9 k hk hm
    unfold DR at h ⊢
    rw [st2_ne _ _ _ (by omega), st2_ne _ _ _ (by omega), st2_ne _ _ _ (by omega), st2_ne _ _ _ (by omega)]; exact h
  · refine ⟨st2_nc _ _ _ _ (by omega), fun i hi => st2_ns _ _ _ (by omega), ?_, ?_, ?_, ?_, ?_, ?_, ?_⟩ <;> first | (intro i _; exact st2_nc _ _ _ _ (by omega)) | exact st2_nc _ _ _ _ (by omega)
/-- four bytes, both sides: k left -/
theorem four_pair (x : Int32) : ∀ (k : Nat) (f1 f2 n : Nat) (a b : Mem), k ≤ 4 → k < f1 → k < f2 → RR a b → a 1 1 = nI n → n + k ≤ 600 → ∃ a' b', lX9_append_3 1 x f1 (nI (8 * k) - 8) a = some a' ∧ lX12_four_3 x f2 (nI (8 * k) - 8) b = some b' ∧ frC a a' ∧ frM b b' ∧ RR a' b' ∧ a' 1 1 = nI (n + k) := by
  intro k
  induction k with
  | zero =>
    intro f1 f2 n a b _ h1 h2 hR ha _
    obtain ⟨g1, rfl⟩ : ∃ g, f1 = g + 1 := ⟨f1 - 1, by omega⟩
    obtain ⟨g2, rfl⟩ : ∃ g, f2 = g + 1 := ⟨f2 - 1, by omega⟩
    have hs : nI (8 * 0) - 8 < 0 := by decide
    rw [lX9_append_3, lX12_four_3, if_pos hs, if_pos hs]
    exact ⟨a, b, rfl, rfl, frC.rf, frM.rf, hR, ha⟩
  | succ k ih =>
    intro f1 f2 n a b hk h1 h2 hR ha hn
    obtain ⟨g1, rfl⟩ : ∃ g, f1 = g + 1 := ⟨f1 - 1, by omega⟩
    obtain ⟨g2, rfl⟩ : ∃ g, f2 = g + 1 := ⟨f2 - 1, by omega⟩
    have es : nI (8 * (k + 1)) - 8 = nI (8 * k) := by
      have := pk_sub (a := 8 * (k + 1)) (b := 8) (by omega)
      rw [show (8 : Int32) = nI 8 from rfl, this, show 8 * (k + 1) - 8 = 8 * k by omega]
    have e8 : nI (8 * k) + (-8) = nI (8 * k) - 8 := by rw [Int32.sub_eq_add_neg]
    have hb : b 271 0 = nI n := by
      obtain ⟨m, hm, e1, e2⟩ := hR.1.1
      have : nI m = nI n := e1.symm.trans ha
      rw [e2, this]
    have hs0 : ¬ nI (8 * k) < 0 := nI_pos (by omega)
    have h6 : ¬ (600 : Int32) ≤ nI n := nI_ge (a := n) (b := 600) (by omega) (by decide)
    have hsh : nI (8 * k) = 24 ∨ nI (8 * k) = 16 ∨ nI (8 * k) = 8 ∨ nI (8 * k) = 0 := by
      rcases (show k = 3 ∨ k = 2 ∨ k = 1 ∨ k = 0 by omega) with rfl | rfl | rfl | rfl
      · exact Or.inl rfl
      · exact Or.inr (Or.inl rfl)
      · exact Or.inr (Or.inr (Or.inl rfl))
      · exact Or.inr (Or.inr (Or.inr rfl))
    rw [es, lX9_append_3, lX12_four_3, if_neg hs0, if_neg hs0, ha, hb, if_neg h6, inb_nI (by omega) (by decide), inb_nI (N := 2400) (by omega) (by decide), gdT, gdT, bq, bq, cl_nI (by omega), st2_nc _ _ _ _ (by omega), st2_nc _ _ _ _ (by omega), ha, hb, nI_1, e8, ush_b hsh]
    have hR2 := hR.byte (n := n) (by omega) (byt_ok (Int32.toInt8 (Int8.toInt32 (Int32.toInt8 (x >>> (nI (8 * k) &&& 31))))))
    obtain ⟨a', b', q1, q2, q3, q4, q5, q6⟩ := ih g1 g2 (n + 1) _ _ (by omega) (by omega) (by omega) hR2 (st2_eq _ _ _ _) (by omega)
    exact ⟨a', b', q1, q2, ((frC.st _ _ (by omega)).tr (frC.st _ _ (by omega))).tr q3, ((frM.st _ _ (by omega)).tr (frM.st _ _ (by omega))).tr q4, q5, by rw [q6]; congr 1; omega⟩
theorem app_pair (x : Int32) {n : Nat} {a b : Mem} (hR : RR a b) (ha : a 1 1 = nI n) (hn : n + 4 ≤ 600) : ∃ a' b', fX9_append 1 x a = some a' ∧ fX12_four x b = some b' ∧ frC a a' ∧ frM b b' ∧ RR a' b' ∧ a' 1 1 = nI (n + 4) := by
  obtain ⟨a', b', q1, q2, q3⟩ := four_pair x 4 FU FU n a b (by omega) (by decide) (by decide) hR ha hn
  have e : nI (8 * 4) - 8 = 24 := by decide
  rw [e] at q1 q2
  refine ⟨a', b', ?_, ?_, q3⟩
  · unfold fX9_append; rw [q1, bq]
  · unfold fX12_four; rw [q2, bq]
theorem RR.len_eq {a b : Mem} (h : RR a b) : b 271 0 = a 1 1 := by
  obtain ⟨m, hm, e1, e2⟩ := h.1.1
  rw [e1, e2]
theorem p_feed (x1 x2 x3 x4 x5 : Int32) : PAIR (fX11_feed x1 x2 x3 x4 x5) (fX12_feed x1 x2 x3 x4 x5) := fun a b hR => by
  obtain ⟨n, hn, e1, e2⟩ := hR.1.1
  unfold fX11_feed fX12_feed
  rw [st2_nc b 0 0 0 (by decide), e1, e2]
  by_cases h : nI n + 20 ≤ 600
  · rw [if_pos h, if_pos h]
    have hn2 : n + 20 ≤ 600 := by
      rw [show (20 : Int32) = nI 20 from rfl, nI_add, show (600 : Int32) = nI 600 from rfl, nI_leI (by omega) (by decide)] at h
      exact h
    obtain ⟨a1, b1, p1, p2, p3, p4, p5, p6⟩ := app_pair x1 (cdR hR) e1 (by omega)
    obtain ⟨a2, b2, q1, q2, q3, q4, q5, q6⟩ := app_pair x2 p5 p6 (by omega)
    obtain ⟨a3, b3, r1, r2, r3, r4, r5, r6⟩ := app_pair x3 q5 q6 (by omega)
    obtain ⟨a4, b4, s1, s2, s3, s4, s5, s6⟩ := app_pair x4 r5 r6 (by omega)
    obtain ⟨a5, b5, t1, t2, t3, t4, t5, t6⟩ := app_pair x5 s5 s6 (by omega)
    rw [p1, p2, bq, bq, q1, q2, bq, bq, r1, r2, bq, bq, s1, s2, bq, bq, t1, t2, bq, bq, t5.len_eq]
    exact ⟨_, _, _, rfl, rfl, (((p3.tr q3).tr r3).tr s3).tr t3, ((((cd_M.1.tr p4).tr q4).tr r4).tr s4).tr t4, t5⟩
  · rw [if_neg h, if_neg h]; exact ⟨_, _, _, rfl, rfl, frC.rf, cd_M.1, cdR hR⟩
