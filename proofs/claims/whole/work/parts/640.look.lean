/-! ===== what is told, by Nats ===== -/
/-- the set of those below n for which p holds -/
def bs : Nat → (Nat → Bool) → Nat
  | 0, _ => 0
  | n + 1, p => if p n = true then bs n p ||| 2 ^ n else bs n p
theorem bs_lt (p : Nat → Bool) : ∀ n, bs n p < 2 ^ n
  | 0 => by simp [bs]
  | n + 1 => by
    have h := bs_lt p n
    have h2 : (2 : Nat) ^ n < 2 ^ (n + 1) := Nat.pow_lt_pow_right (by decide) (by omega)
    rw [bs]
    split
    · exact Nat.or_lt_two_pow (by omega) h2
    · omega
theorem bs_bit (p : Nat → Bool) (k : Nat) : ∀ n, (bs n p).testBit k = (decide (k < n) && p k)
  | 0 => by simp [bs]
  | n + 1 => by
    rw [bs]
    have h := bs_bit p k n
    by_cases hp : p n = true
    · rw [if_pos hp, Nat.testBit_or, h, Nat.testBit_two_pow]
      by_cases hk : k = n
      · subst hk; simp [hp]
      · have h1 : ¬ n = k := fun e => hk e.symm
        have h2 : (k < n + 1) ↔ k < n := by omega
        simp [h1, h2]
    · rw [if_neg hp, h]
      by_cases hk : k = n
      · subst hk; simp [hp]
      · have h2 : (k < n + 1) ↔ k < n := by omega
        simp [h2]
theorem bs_of {th n : Nat} {p : Nat → Bool} (h : th < 2 ^ n) (hp : ∀ k, k < n → th.testBit k = p k) : th = bs n p := by
  apply Nat.eq_of_testBit_eq
  intro k
  rw [bs_bit]
  by_cases hk : k < n
  · rw [hp k hk]; simp [hk]
  · rw [Nat.testBit_lt_two_pow (Nat.lt_of_lt_of_le h (Nat.pow_le_pow_right (by decide) (by omega)))]; simp [hk]
/-- a store: span, workers, values (nought: lacking; else one more) -/
def okS (sp wk : Nat) (c : Nat → Nat) : Prop := (1 ≤ sp ∧ sp ≤ 5) ∧ (1 ≤ wk ∧ wk ≤ 4) ∧ ∀ k, c k ≤ 100
def thr (c : Nat → Nat) : Nat := bs 10 (fun k => decide (c k ≠ 0))
def CSt (p v : Nat → Int32) (sp wk : Nat) (c : Nat → Nat) : Prop := p 0 = nI sp ∧ p 1 = nI wk ∧ ∀ k, k < 10 → v k = vI (c k)
def MSt (r : Nat → Int32) (sp wk : Nat) (c : Nat → Nat) : Prop := r 0 = nI sp ∧ r 1 = nI wk ∧ r 2 = nI (thr c) ∧ ∀ k, k < 10 → r (3 + k) = nI (c k - 1)
theorem thr_lt (c : Nat → Nat) : thr c < 1024 := bs_lt _ 10
theorem thr_bit {c : Nat → Nat} {k : Nat} (h : k < 10) : (thr c).testBit k = decide (c k ≠ 0) := by unfold thr; rw [bs_bit]; simp [h]
theorem SRf.ab {p v r : Nat → Int32} (h : SRf p v r) : ∃ sp wk c, okS sp wk c ∧ CSt p v sp wk c ∧ MSt r sp wk c := by
  obtain ⟨sp, w, th, h1, h2, h3, h4, h5, h6, h7, h8, h9⟩ := h
  refine ⟨sp, w, fun k => if k < 10 ∧ th.testBit k = true then (v k).toNatClampNeg + 1 else 0, ⟨h1, h2, fun k => ?_⟩, ⟨h4, h6, fun k hk => ?_⟩, ⟨h5, h7, ?_, fun k hk => ?_⟩⟩
  · dsimp only
    split
    · rename_i g
      have h := h9 k g.1
      rw [if_pos g.2] at h
      obtain ⟨x, hx, e1, e2⟩ := h
      rw [e1, nI_ck (by omega)]; omega
    · omega
  · have h := h9 k hk
    dsimp only
    by_cases g : th.testBit k = true
    · rw [if_pos g] at h
      obtain ⟨x, hx, e1, e2⟩ := h
      rw [if_pos ⟨hk, g⟩, vI_s, e1, nI_ck (by omega)]
    · rw [if_neg g] at h
      rw [if_neg (fun z => g z.2), h.1]; rfl
  · rw [h8]
    congr 1
    refine bs_of h3 (fun k hk => ?_)
    dsimp only
    by_cases g : th.testBit k = true
    · simp [hk, g]
    · simp [g]
  · have h := h9 k hk
    dsimp only
    by_cases g : th.testBit k = true
    · rw [if_pos g] at h
      obtain ⟨x, hx, e1, e2⟩ := h
      rw [if_pos ⟨hk, g⟩, e2, e1, nI_ck (by omega)]; rfl
    · rw [if_neg g] at h
      rw [if_neg (fun z => g z.2), h.2]; rfl
/-- is there a text of that sort and number: class and model alike -/
theorem has_pair {a b : Mem} (hR : RR a b) {s : Nat} (hs : s < 4) (x : Int32) :
    (fX9_has 1 (nI s) x a = some (false, a) ∧ ∀ b' : Mem, b' 274 = b 274 → fX12_is (nI s) x b' = some (false, b')) ∨
    (∃ k : Nat, k < 2 ∧ x = nI k ∧ nI k < a 3 s ∧ fX9_has 1 (nI s) x a = some (true, a) ∧ ∀ b' : Mem, b' 274 = b 274 → fX12_is (nI s) x b' = some (true, b')) := by
  obtain ⟨n, hn, e1, e2⟩ := hR.1.2.2.2.2.1 s hs
  have e2' : b 274 s = nI n := by rw [← e2]; congr 1; omega
  unfold fX9_has fX12_is
  by_cases h0 : x < 0
  · left
    refine ⟨by rw [if_pos h0], fun b' hb => ?_⟩
    rw [f_in, inb_T (by omega) (by omega), gdT, bq]
    simp [h0]
  · obtain ⟨j, hj, rfl⟩ := nI_of h0
    by_cases h1 : j < n
    · right
      refine ⟨j, by omega, rfl, by rw [show a 3 s = a (1 + 2) s from rfl, e1, lt_nn (by omega) (by omega)]; exact h1, ?_, fun b' hb => ?_⟩
      · simp (disch := omega) only [↓v0, ↓w0, li0, li1, li2, li3, li4, li5, li6, li7, li8, li9, li10, li11, li12, li13, li14, li15, li16, li17, li18, li19, li20, li21, li22, li23, li24, li25, li26, li27, li28, li29, li30, li31, li32, li39, li40, li42, li48, li49, li50, li57, li59, li60, li61, li62, li64, li97, li99, li100, li101, li104, li109, li110, li119, li121, li122, li134, li136, li255, li600, li640, li968, li1010, li1072, li2400, li12345, li1000000, eq_nn, eq_nv, eq_nw, eq_vn, eq_vv, eq_vw, eq_wn, eq_wv, eq_ww, le_nn, le_nv, le_nw, le_vn, le_vv, le_vw, le_wn, le_wv, le_ww, lt_nn, lt_nv, lt_nw, lt_vn, lt_vv, lt_vw, lt_wn, lt_wv, lt_ww, nI_add, pk_mul, nI_sub, nI_sv, vI_1, nI_dv, nI_md, nI_ck, rfN_n, inb_T, inb_v, mx_n, mn_n, mx_v, gdT, gdF, bq, b2T, b2F, st2_k, st2_o, st2_c, iteT, iteF, ↓reduceIte, Bool.true_eq_false, Bool.false_eq_true, Nat.reduceAdd, Nat.reduceMul, Nat.reduceSub, Nat.add_zero, Nat.zero_add, Nat.mul_zero, Nat.mul_one, e1]
      · rw [f_in, inb_T (by omega) (by omega), gdT, bq, hb, nI_ck (by omega), e2']
        simp (disch := omega) only [↓v0, ↓w0, li0, li1, li2, li3, li4, li5, li6, li7, li8, li9, li10, li11, li12, li13, li14, li15, li16, li17, li18, li19, li20, li21, li22, li23, li24, li25, li26, li27, li28, li29, li30, li31, li32, li39, li40, li42, li48, li49, li50, li57, li59, li60, li61, li62, li64, li97, li99, li100, li101, li104, li109, li110, li119, li121, li122, li134, li136, li255, li600, li640, li968, li1010, li1072, li2400, li12345, li1000000, eq_nn, eq_nv, eq_nw, eq_vn, eq_vv, eq_vw, eq_wn, eq_wv, eq_ww, le_nn, le_nv, le_nw, le_vn, le_vv, le_vw, le_wn, le_wv, le_ww, lt_nn, lt_nv, lt_nw, lt_vn, lt_vv, lt_vw, lt_wn, lt_wv, lt_ww, nI_add, pk_mul, nI_sub, nI_sv, vI_1, nI_dv, nI_md, nI_ck, rfN_n, inb_T, inb_v, mx_n, mn_n, mx_v, gdT, gdF, bq, b2T, b2F, st2_k, st2_o, st2_c, iteT, iteF, ↓reduceIte, Bool.true_eq_false, Bool.false_eq_true, Nat.reduceAdd, Nat.reduceMul, Nat.reduceSub, Nat.add_zero, Nat.zero_add, Nat.mul_zero, Nat.mul_one]
        simp; omega
    · left
      refine ⟨?_, fun b' hb => ?_⟩
      · simp (disch := omega) only [↓v0, ↓w0, li0, li1, li2, li3, li4, li5, li6, li7, li8, li9, li10, li11, li12, li13, li14, li15, li16, li17, li18, li19, li20, li21, li22, li23, li24, li25, li26, li27, li28, li29, li30, li31, li32, li39, li40, li42, li48, li49, li50, li57, li59, li60, li61, li62, li64, li97, li99, li100, li101, li104, li109, li110, li119, li121, li122, li134, li136, li255, li600, li640, li968, li1010, li1072, li2400, li12345, li1000000, eq_nn, eq_nv, eq_nw, eq_vn, eq_vv, eq_vw, eq_wn, eq_wv, eq_ww, le_nn, le_nv, le_nw, le_vn, le_vv, le_vw, le_wn, le_wv, le_ww, lt_nn, lt_nv, lt_nw, lt_vn, lt_vv, lt_vw, lt_wn, lt_wv, lt_ww, nI_add, pk_mul, nI_sub, nI_sv, vI_1, nI_dv, nI_md, nI_ck, rfN_n, inb_T, inb_v, mx_n, mn_n, mx_v, gdT, gdF, bq, b2T, b2F, st2_k, st2_o, st2_c, iteT, iteF, ↓reduceIte, Bool.true_eq_false, Bool.false_eq_true, Nat.reduceAdd, Nat.reduceMul, Nat.reduceSub, Nat.add_zero, Nat.zero_add, Nat.mul_zero, Nat.mul_one, e1]
      · rw [f_in, inb_T (by omega) (by omega), gdT, bq, hb, nI_ck (by omega), e2']
        simp (disch := omega) only [↓v0, ↓w0, li0, li1, li2, li3, li4, li5, li6, li7, li8, li9, li10, li11, li12, li13, li14, li15, li16, li17, li18, li19, li20, li21, li22, li23, li24, li25, li26, li27, li28, li29, li30, li31, li32, li39, li40, li42, li48, li49, li50, li57, li59, li60, li61, li62, li64, li97, li99, li100, li101, li104, li109, li110, li119, li121, li122, li134, li136, li255, li600, li640, li968, li1010, li1072, li2400, li12345, li1000000, eq_nn, eq_nv, eq_nw, eq_vn, eq_vv, eq_vw, eq_wn, eq_wv, eq_ww, le_nn, le_nv, le_nw, le_vn, le_vv, le_vw, le_wn, le_wv, le_ww, lt_nn, lt_nv, lt_nw, lt_vn, lt_vv, lt_vw, lt_wn, lt_wv, lt_ww, nI_add, pk_mul, nI_sub, nI_sv, vI_1, nI_dv, nI_md, nI_ck, rfN_n, inb_T, inb_v, mx_n, mn_n, mx_v, gdT, gdF, bq, b2T, b2F, st2_k, st2_o, st2_c, iteT, iteF, ↓reduceIte, Bool.true_eq_false, Bool.false_eq_true, Nat.reduceAdd, Nat.reduceMul, Nat.reduceSub, Nat.add_zero, Nat.zero_add, Nat.mul_zero, Nat.mul_one]
        simp; omega
theorem ng_eq {x : Int32} (h : x < 0) {n : Nat} (hn : n < 2147483648) : (x = nI n) = False := by
  apply eq_false
  intro e
  rw [e, li0, lt_nn hn (by omega)] at h
  omega
theorem ng_ti {x : Int32} (h : x < 0) : x.toInt < 0 := Int32.lt_iff_toInt_lt.mp h
theorem ng_lt {x : Int32} (h : x < 0) {n : Nat} (hn : n < 2147483648) : (x < nI n) = True := by
  apply eq_true
  have := ng_ti h
  rw [Int32.lt_iff_toInt_lt, n_ti hn]; omega
theorem ng_le {x : Int32} (h : x < 0) {n : Nat} (hn : n < 2147483648) : (nI n ≤ x) = False := by
  apply eq_false
  have := ng_ti h
  rw [Int32.le_iff_toInt_le, n_ti hn]; omega
theorem ng_gt {x : Int32} (h : x < 0) {n : Nat} (hn : n < 2147483648) : (nI n < x) = False := by
  apply eq_false
  have := ng_ti h
  rw [Int32.lt_iff_toInt_lt, n_ti hn]; omega
/-- but for the model's own slots all is as it was -/
def f269 (b b' : Mem) : Prop := ∀ n, n ≠ 269 → b' n = b n
theorem f269.M {b b' : Mem} (h : f269 b b') : frM b b' := fun n hn => h n (by omega)
theorem f269.t {b b' : Mem} (h : f269 b b') : tM b b' := fun n hn => h n (by omega)
theorem fin_q {α : Type} {f g : Mem → Option (α × Mem)} {a b b' : Mem} {r r' : α} (h1 : f a = some (r, a)) (h2 : g b = some (r', b')) (hr : r = r') (h3 : f269 b b') : ∃ (r : α) (a' b' : Mem), f a = some (r, a') ∧ g b = some (r, b') ∧ frC a a' ∧ frM b b' ∧ tC a a' ∧ tM b b' := by
  subst hr
  exact ⟨r, a, b', h1, h2, frC.rf, h3.M, tC.rf, h3.t⟩
theorem has_neg {a b : Mem} (hR : RR a b) {s : Nat} (hs : s < 4) {x : Int32} (h : ¬ ∃ k : Nat, k < 2 ∧ x = nI k ∧ nI k < a 3 s) : fX9_has 1 (nI s) x a = some (false, a) ∧ ∀ b' : Mem, b' 274 = b 274 → fX12_is (nI s) x b' = some (false, b') := by
  rcases has_pair hR hs x with h1 | ⟨k, h1, h2, h3, h4⟩
  · exact h1
  · exact absurd ⟨k, h1, h2, h3⟩ h
theorem has_pos {a b : Mem} (hR : RR a b) {s : Nat} (hs : s < 4) {k : Nat} (hk : k < 2) (h : nI k < a 3 s) : fX9_has 1 (nI s) (nI k) a = some (true, a) ∧ ∀ b' : Mem, b' 274 = b 274 → fX12_is (nI s) (nI k) b' = some (true, b') := by
  rcases has_pair hR hs (nI k) with ⟨h1, h2⟩ | ⟨k', h1, h2, h3, h4⟩
  · exfalso
    obtain ⟨n, hn, e1, e2⟩ := hR.1.2.2.2.2.1 s hs
    have e1' : a 3 s = nI n := e1
    rw [e1', lt_nn (by omega) (by omega)] at h
    unfold fX9_has at h1
    revert h1
    simp (disch := omega) only [↓v0, ↓w0, li0, li1, li2, li3, li4, li5, li6, li7, li8, li9, li10, li11, li12, li13, li14, li15, li16, li17, li18, li19, li20, li21, li22, li23, li24, li25, li26, li27, li28, li29, li30, li31, li32, li39, li40, li42, li48, li49, li50, li57, li59, li60, li61, li62, li64, li97, li99, li100, li101, li104, li109, li110, li119, li121, li122, li134, li136, li255, li600, li640, li968, li1010, li1072, li2400, li12345, li1000000, eq_nn, eq_nv, eq_nw, eq_vn, eq_vv, eq_vw, eq_wn, eq_wv, eq_ww, le_nn, le_nv, le_nw, le_vn, le_vv, le_vw, le_wn, le_wv, le_ww, lt_nn, lt_nv, lt_nw, lt_vn, lt_vv, lt_vw, lt_wn, lt_wv, lt_ww, nI_add, pk_mul, nI_sub, nI_sv, vI_1, nI_dv, nI_md, nI_ck, rfN_n, inb_T, inb_v, mx_n, mn_n, mx_v, gdT, gdF, bq, b2T, b2F, st2_k, st2_o, st2_c, iteT, iteF, ↓reduceIte, Bool.true_eq_false, Bool.false_eq_true, Nat.reduceAdd, Nat.reduceMul, Nat.reduceSub, Nat.add_zero, Nat.zero_add, Nat.mul_zero, Nat.mul_one, e1]
    simp
  · exact h4
theorem p_store (x y : Int32) : PAIR (fX11_store x y) (fX12_store x y) := PAIR.q (fun a b hR => by
  have e0 : ∀ n, n ≠ 269 → (st2 (st2 b 269 0 0) 269 23 x) n = b n := fun n hn => by rw [st2_c _ _ hn, st2_c _ _ hn]
  by_cases hx : ∃ k : Nat, k < 2 ∧ x = nI k ∧ nI k < a 3 0
  · obtain ⟨k, hk, rfl, hm⟩ := hx
    have g1 : fX9_has 1 0 (nI k) a = some (true, a) := (has_pos hR (s := 0) (by omega) hk hm).1
    have g2 : ∀ b' : Mem, b' 274 = b 274 → fX12_is 0 (nI k) b' = some (true, b') := (has_pos hR (s := 0) (by omega) hk hm).2
    obtain ⟨sp, wk, c, ⟨o1, o2, o3⟩, ⟨c1, c2, c3⟩, m1, m2, m3, m4⟩ := (hR.1.2.2.2.2.2.1 k hk hm).ab
    have q1 : a (8 + 14 * k) 0 = nI sp := c1
    have q2 : a (8 + 14 * k) 1 = nI wk := c2
    have q3 : ∀ i, i < 10 → a (8 + 14 * k + 1) i = vI (c i) := c3
    have q4 : fX11_keysThere ((8 + 14 * k) + 1) a = some (nI (thr c), a) := f_keysThere (thr_lt c) (fun i hi => by
      rw [q3 i hi, thr_bit hi, v0, eq_vv (by have := o3 i; omega) (by omega)]; simp)
    have r0 : b 275 (13 * k) = nI sp := by rw [← m1]; dsimp only; congr 1; omega
    have r1 : b 275 (13 * k + 1) = nI wk := by rw [← m2]; dsimp only; congr 1; omega
    have r2 : b 275 (13 * k + 2) = nI (thr c) := by rw [← m3]; dsimp only; congr 1; omega
    have r3 : ∀ i, i < 10 → b 275 (13 * k + (3 + i)) = nI (c i - 1) := fun i hi => by rw [← m4 i hi]; dsimp only; congr 1; omega
    have tl := thr_lt c
    by_cases hy : y < 0
    · refine fin_q (f := fX11_store (nI k) y) (g := fX12_store (nI k) y) (r := wI 0) (r' := wI 0) (b' := st2 (st2 b 269 0 0) 269 23 (nI k)) ?_ ?_ rfl e0
      · unfold fX11_store
        rw [g1]
        simp (disch := omega) only [↓v0, ↓w0, li0, li1, li2, li3, li4, li5, li6, li7, li8, li9, li10, li11, li12, li13, li14, li15, li16, li17, li18, li19, li20, li21, li22, li23, li24, li25, li26, li27, li28, li29, li30, li31, li32, li39, li40, li42, li48, li49, li50, li57, li59, li60, li61, li62, li64, li97, li99, li100, li101, li104, li109, li110, li119, li121, li122, li134, li136, li255, li600, li640, li968, li1010, li1072, li2400, li12345, li1000000, eq_nn, eq_nv, eq_nw, eq_vn, eq_vv, eq_vw, eq_wn, eq_wv, eq_ww, le_nn, le_nv, le_nw, le_vn, le_vv, le_vw, le_wn, le_wv, le_ww, lt_nn, lt_nv, lt_nw, lt_vn, lt_vv, lt_vw, lt_wn, lt_wv, lt_ww, nI_add, pk_mul, nI_sub, nI_sv, vI_1, nI_dv, nI_md, nI_ck, rfN_n, inb_T, inb_v, mx_n, mn_n, mx_v, gdT, gdF, bq, b2T, b2F, st2_k, st2_o, st2_c, iteT, iteF, ↓reduceIte, Bool.true_eq_false, Bool.false_eq_true, Nat.reduceAdd, Nat.reduceMul, Nat.reduceSub, Nat.add_zero, Nat.zero_add, Nat.mul_zero, Nat.mul_one, ng_eq hy, ng_lt hy, f_inTen]; simp
      · unfold fX12_store
        rw [g2 _ (e0 _ (by omega))]
        simp (disch := omega) only [↓v0, ↓w0, li0, li1, li2, li3, li4, li5, li6, li7, li8, li9, li10, li11, li12, li13, li14, li15, li16, li17, li18, li19, li20, li21, li22, li23, li24, li25, li26, li27, li28, li29, li30, li31, li32, li39, li40, li42, li48, li49, li50, li57, li59, li60, li61, li62, li64, li97, li99, li100, li101, li104, li109, li110, li119, li121, li122, li134, li136, li255, li600, li640, li968, li1010, li1072, li2400, li12345, li1000000, eq_nn, eq_nv, eq_nw, eq_vn, eq_vv, eq_vw, eq_wn, eq_wv, eq_ww, le_nn, le_nv, le_nw, le_vn, le_vv, le_vw, le_wn, le_wv, le_ww, lt_nn, lt_nv, lt_nw, lt_vn, lt_vv, lt_vw, lt_wn, lt_wv, lt_ww, nI_add, pk_mul, nI_sub, nI_sv, vI_1, nI_dv, nI_md, nI_ck, rfN_n, inb_T, inb_v, mx_n, mn_n, mx_v, gdT, gdF, bq, b2T, b2F, st2_k, st2_o, st2_c, iteT, iteF, ↓reduceIte, Bool.true_eq_false, Bool.false_eq_true, Nat.reduceAdd, Nat.reduceMul, Nat.reduceSub, Nat.add_zero, Nat.zero_add, Nat.mul_zero, Nat.mul_one, ng_eq hy, ng_lt hy, f_in]; simp
    · obtain ⟨j, hj, rfl⟩ := nI_of hy
      by_cases h10 : 10 ≤ j ∧ j < 20
      · obtain ⟨i, rfl⟩ : ∃ i, j = 10 + i := ⟨j - 10, by omega⟩
        have hb := thr_bit (c := c) (k := i) (by omega)
        refine fin_q (f := fX11_store (nI k) (nI (10 + i))) (g := fX12_store (nI k) (nI (10 + i))) (r := vI (c i)) (r' := vI (c i)) (b' := st2 (st2 b 269 0 (nI 0)) 269 23 (nI k)) ?_ ?_ rfl e0
        · unfold fX11_store
          rw [g1]
          simp (disch := omega) only [↓v0, ↓w0, li0, li1, li2, li3, li4, li5, li6, li7, li8, li9, li10, li11, li12, li13, li14, li15, li16, li17, li18, li19, li20, li21, li22, li23, li24, li25, li26, li27, li28, li29, li30, li31, li32, li39, li40, li42, li48, li49, li50, li57, li59, li60, li61, li62, li64, li97, li99, li100, li101, li104, li109, li110, li119, li121, li122, li134, li136, li255, li600, li640, li968, li1010, li1072, li2400, li12345, li1000000, eq_nn, eq_nv, eq_nw, eq_vn, eq_vv, eq_vw, eq_wn, eq_wv, eq_ww, le_nn, le_nv, le_nw, le_vn, le_vv, le_vw, le_wn, le_wv, le_ww, lt_nn, lt_nv, lt_nw, lt_vn, lt_vv, lt_vw, lt_wn, lt_wv, lt_ww, nI_add, pk_mul, nI_sub, nI_sv, vI_1, nI_dv, nI_md, nI_ck, rfN_n, inb_T, inb_v, mx_n, mn_n, mx_v, gdT, gdF, bq, b2T, b2F, st2_k, st2_o, st2_c, iteT, iteF, ↓reduceIte, Bool.true_eq_false, Bool.false_eq_true, Nat.reduceAdd, Nat.reduceMul, Nat.reduceSub, Nat.add_zero, Nat.zero_add, Nat.mul_zero, Nat.mul_one, f_inTen, decide_eq_true_eq, Nat.add_sub_cancel_left, q3]
        · unfold fX12_store
          rw [g2 _ (e0 _ (by omega))]
          simp (disch := omega) only [↓v0, ↓w0, li0, li1, li2, li3, li4, li5, li6, li7, li8, li9, li10, li11, li12, li13, li14, li15, li16, li17, li18, li19, li20, li21, li22, li23, li24, li25, li26, li27, li28, li29, li30, li31, li32, li39, li40, li42, li48, li49, li50, li57, li59, li60, li61, li62, li64, li97, li99, li100, li101, li104, li109, li110, li119, li121, li122, li134, li136, li255, li600, li640, li968, li1010, li1072, li2400, li12345, li1000000, eq_nn, eq_nv, eq_nw, eq_vn, eq_vv, eq_vw, eq_wn, eq_wv, eq_ww, le_nn, le_nv, le_nw, le_vn, le_vv, le_vw, le_wn, le_wv, le_ww, lt_nn, lt_nv, lt_nw, lt_vn, lt_vv, lt_vw, lt_wn, lt_wv, lt_ww, nI_add, pk_mul, nI_sub, nI_sv, vI_1, nI_dv, nI_md, nI_ck, rfN_n, inb_T, inb_v, mx_n, mn_n, mx_v, gdT, gdF, bq, b2T, b2F, st2_k, st2_o, st2_c, iteT, iteF, ↓reduceIte, Bool.true_eq_false, Bool.false_eq_true, Nat.reduceAdd, Nat.reduceMul, Nat.reduceSub, Nat.add_zero, Nat.zero_add, Nat.mul_zero, Nat.mul_one, f_in, decide_eq_true_eq, Nat.add_sub_cancel_left, fX12_ofStore, r2, f_has, hb]
          by_cases hc : c i = 0
          · simp (disch := omega) only [↓v0, ↓w0, li0, li1, li2, li3, li4, li5, li6, li7, li8, li9, li10, li11, li12, li13, li14, li15, li16, li17, li18, li19, li20, li21, li22, li23, li24, li25, li26, li27, li28, li29, li30, li31, li32, li39, li40, li42, li48, li49, li50, li57, li59, li60, li61, li62, li64, li97, li99, li100, li101, li104, li109, li110, li119, li121, li122, li134, li136, li255, li600, li640, li968, li1010, li1072, li2400, li12345, li1000000, eq_nn, eq_nv, eq_nw, eq_vn, eq_vv, eq_vw, eq_wn, eq_wv, eq_ww, le_nn, le_nv, le_nw, le_vn, le_vv, le_vw, le_wn, le_wv, le_ww, lt_nn, lt_nv, lt_nw, lt_vn, lt_vv, lt_vw, lt_wn, lt_wv, lt_ww, nI_add, pk_mul, nI_sub, nI_sv, vI_1, nI_dv, nI_md, nI_ck, rfN_n, inb_T, inb_v, mx_n, mn_n, mx_v, gdT, gdF, bq, b2T, b2F, st2_k, st2_o, st2_c, iteT, iteF, ↓reduceIte, Bool.true_eq_false, Bool.false_eq_true, Nat.reduceAdd, Nat.reduceMul, Nat.reduceSub, Nat.add_zero, Nat.zero_add, Nat.mul_zero, Nat.mul_one, hc]
          · rw [show 13 * k + (3 + (10 + i) - 10) = 13 * k + (3 + i) by omega, r3 i (by omega), ← vI_p (by omega)]
            simp (disch := omega) only [↓v0, ↓w0, li0, li1, li2, li3, li4, li5, li6, li7, li8, li9, li10, li11, li12, li13, li14, li15, li16, li17, li18, li19, li20, li21, li22, li23, li24, li25, li26, li27, li28, li29, li30, li31, li32, li39, li40, li42, li48, li49, li50, li57, li59, li60, li61, li62, li64, li97, li99, li100, li101, li104, li109, li110, li119, li121, li122, li134, li136, li255, li600, li640, li968, li1010, li1072, li2400, li12345, li1000000, eq_nn, eq_nv, eq_nw, eq_vn, eq_vv, eq_vw, eq_wn, eq_wv, eq_ww, le_nn, le_nv, le_nw, le_vn, le_vv, le_vw, le_wn, le_wv, le_ww, lt_nn, lt_nv, lt_nw, lt_vn, lt_vv, lt_vw, lt_wn, lt_wv, lt_ww, nI_add, pk_mul, nI_sub, nI_sv, vI_1, nI_dv, nI_md, nI_ck, rfN_n, inb_T, inb_v, mx_n, mn_n, mx_v, gdT, gdF, bq, b2T, b2F, st2_k, st2_o, st2_c, iteT, iteF, ↓reduceIte, Bool.true_eq_false, Bool.false_eq_true, Nat.reduceAdd, Nat.reduceMul, Nat.reduceSub, Nat.add_zero, Nat.zero_add, Nat.mul_zero, Nat.mul_one]
      · rcases (show j = 0 ∨ j = 1 ∨ j = 2 ∨ 2 < j by omega) with rfl | rfl | rfl | hj2
        · refine fin_q (f := fX11_store (nI k) (nI 0)) (g := fX12_store (nI k) (nI 0)) (r := nI sp) (r' := nI sp) (b' := st2 (st2 b 269 0 (nI 0)) 269 23 (nI k)) ?_ ?_ rfl e0
          · unfold fX11_store
            rw [g1]
            simp (disch := omega) only [↓v0, ↓w0, li0, li1, li2, li3, li4, li5, li6, li7, li8, li9, li10, li11, li12, li13, li14, li15, li16, li17, li18, li19, li20, li21, li22, li23, li24, li25, li26, li27, li28, li29, li30, li31, li32, li39, li40, li42, li48, li49, li50, li57, li59, li60, li61, li62, li64, li97, li99, li100, li101, li104, li109, li110, li119, li121, li122, li134, li136, li255, li600, li640, li968, li1010, li1072, li2400, li12345, li1000000, eq_nn, eq_nv, eq_nw, eq_vn, eq_vv, eq_vw, eq_wn, eq_wv, eq_ww, le_nn, le_nv, le_nw, le_vn, le_vv, le_vw, le_wn, le_wv, le_ww, lt_nn, lt_nv, lt_nw, lt_vn, lt_vv, lt_vw, lt_wn, lt_wv, lt_ww, nI_add, pk_mul, nI_sub, nI_sv, vI_1, nI_dv, nI_md, nI_ck, rfN_n, inb_T, inb_v, mx_n, mn_n, mx_v, gdT, gdF, bq, b2T, b2F, st2_k, st2_o, st2_c, iteT, iteF, ↓reduceIte, Bool.true_eq_false, Bool.false_eq_true, Nat.reduceAdd, Nat.reduceMul, Nat.reduceSub, Nat.add_zero, Nat.zero_add, Nat.mul_zero, Nat.mul_one, q1]
          · unfold fX12_store
            rw [g2 _ (e0 _ (by omega))]
            simp (disch := omega) only [↓v0, ↓w0, li0, li1, li2, li3, li4, li5, li6, li7, li8, li9, li10, li11, li12, li13, li14, li15, li16, li17, li18, li19, li20, li21, li22, li23, li24, li25, li26, li27, li28, li29, li30, li31, li32, li39, li40, li42, li48, li49, li50, li57, li59, li60, li61, li62, li64, li97, li99, li100, li101, li104, li109, li110, li119, li121, li122, li134, li136, li255, li600, li640, li968, li1010, li1072, li2400, li12345, li1000000, eq_nn, eq_nv, eq_nw, eq_vn, eq_vv, eq_vw, eq_wn, eq_wv, eq_ww, le_nn, le_nv, le_nw, le_vn, le_vv, le_vw, le_wn, le_wv, le_ww, lt_nn, lt_nv, lt_nw, lt_vn, lt_vv, lt_vw, lt_wn, lt_wv, lt_ww, nI_add, pk_mul, nI_sub, nI_sv, vI_1, nI_dv, nI_md, nI_ck, rfN_n, inb_T, inb_v, mx_n, mn_n, mx_v, gdT, gdF, bq, b2T, b2F, st2_k, st2_o, st2_c, iteT, iteF, ↓reduceIte, Bool.true_eq_false, Bool.false_eq_true, Nat.reduceAdd, Nat.reduceMul, Nat.reduceSub, Nat.add_zero, Nat.zero_add, Nat.mul_zero, Nat.mul_one, f_in, decide_eq_true_eq, fX12_ofStore, r0]
        · refine fin_q (f := fX11_store (nI k) (nI 1)) (g := fX12_store (nI k) (nI 1)) (r := nI wk) (r' := nI wk) (b' := st2 (st2 b 269 0 (nI 0)) 269 23 (nI k)) ?_ ?_ rfl e0
          · unfold fX11_store
            rw [g1]
            simp (disch := omega) only [↓v0, ↓w0, li0, li1, li2, li3, li4, li5, li6, li7, li8, li9, li10, li11, li12, li13, li14, li15, li16, li17, li18, li19, li20, li21, li22, li23, li24, li25, li26, li27, li28, li29, li30, li31, li32, li39, li40, li42, li48, li49, li50, li57, li59, li60, li61, li62, li64, li97, li99, li100, li101, li104, li109, li110, li119, li121, li122, li134, li136, li255, li600, li640, li968, li1010, li1072, li2400, li12345, li1000000, eq_nn, eq_nv, eq_nw, eq_vn, eq_vv, eq_vw, eq_wn, eq_wv, eq_ww, le_nn, le_nv, le_nw, le_vn, le_vv, le_vw, le_wn, le_wv, le_ww, lt_nn, lt_nv, lt_nw, lt_vn, lt_vv, lt_vw, lt_wn, lt_wv, lt_ww, nI_add, pk_mul, nI_sub, nI_sv, vI_1, nI_dv, nI_md, nI_ck, rfN_n, inb_T, inb_v, mx_n, mn_n, mx_v, gdT, gdF, bq, b2T, b2F, st2_k, st2_o, st2_c, iteT, iteF, ↓reduceIte, Bool.true_eq_false, Bool.false_eq_true, Nat.reduceAdd, Nat.reduceMul, Nat.reduceSub, Nat.add_zero, Nat.zero_add, Nat.mul_zero, Nat.mul_one, q2]
          · unfold fX12_store
            rw [g2 _ (e0 _ (by omega))]
            simp (disch := omega) only [↓v0, ↓w0, li0, li1, li2, li3, li4, li5, li6, li7, li8, li9, li10, li11, li12, li13, li14, li15, li16, li17, li18, li19, li20, li21, li22, li23, li24, li25, li26, li27, li28, li29, li30, li31, li32, li39, li40, li42, li48, li49, li50, li57, li59, li60, li61, li62, li64, li97, li99, li100, li101, li104, li109, li110, li119, li121, li122, li134, li136, li255, li600, li640, li968, li1010, li1072, li2400, li12345, li1000000, eq_nn, eq_nv, eq_nw, eq_vn, eq_vv, eq_vw, eq_wn, eq_wv, eq_ww, le_nn, le_nv, le_nw, le_vn, le_vv, le_vw, le_wn, le_wv, le_ww, lt_nn, lt_nv, lt_nw, lt_vn, lt_vv, lt_vw, lt_wn, lt_wv, lt_ww, nI_add, pk_mul, nI_sub, nI_sv, vI_1, nI_dv, nI_md, nI_ck, rfN_n, inb_T, inb_v, mx_n, mn_n, mx_v, gdT, gdF, bq, b2T, b2F, st2_k, st2_o, st2_c, iteT, iteF, ↓reduceIte, Bool.true_eq_false, Bool.false_eq_true, Nat.reduceAdd, Nat.reduceMul, Nat.reduceSub, Nat.add_zero, Nat.zero_add, Nat.mul_zero, Nat.mul_one, f_in, decide_eq_true_eq, fX12_ofStore, r1]
        · refine fin_q (f := fX11_store (nI k) (nI 2)) (g := fX12_store (nI k) (nI 2)) (r := nI (thr c)) (r' := nI (thr c)) (b' := st2 (st2 b 269 0 (nI 0)) 269 23 (nI k)) ?_ ?_ rfl e0
          · unfold fX11_store
            rw [g1]
            simp (disch := omega) only [↓v0, ↓w0, li0, li1, li2, li3, li4, li5, li6, li7, li8, li9, li10, li11, li12, li13, li14, li15, li16, li17, li18, li19, li20, li21, li22, li23, li24, li25, li26, li27, li28, li29, li30, li31, li32, li39, li40, li42, li48, li49, li50, li57, li59, li60, li61, li62, li64, li97, li99, li100, li101, li104, li109, li110, li119, li121, li122, li134, li136, li255, li600, li640, li968, li1010, li1072, li2400, li12345, li1000000, eq_nn, eq_nv, eq_nw, eq_vn, eq_vv, eq_vw, eq_wn, eq_wv, eq_ww, le_nn, le_nv, le_nw, le_vn, le_vv, le_vw, le_wn, le_wv, le_ww, lt_nn, lt_nv, lt_nw, lt_vn, lt_vv, lt_vw, lt_wn, lt_wv, lt_ww, nI_add, pk_mul, nI_sub, nI_sv, vI_1, nI_dv, nI_md, nI_ck, rfN_n, inb_T, inb_v, mx_n, mn_n, mx_v, gdT, gdF, bq, b2T, b2F, st2_k, st2_o, st2_c, iteT, iteF, ↓reduceIte, Bool.true_eq_false, Bool.false_eq_true, Nat.reduceAdd, Nat.reduceMul, Nat.reduceSub, Nat.add_zero, Nat.zero_add, Nat.mul_zero, Nat.mul_one, q4]
          · unfold fX12_store
            rw [g2 _ (e0 _ (by omega))]
            simp (disch := omega) only [↓v0, ↓w0, li0, li1, li2, li3, li4, li5, li6, li7, li8, li9, li10, li11, li12, li13, li14, li15, li16, li17, li18, li19, li20, li21, li22, li23, li24, li25, li26, li27, li28, li29, li30, li31, li32, li39, li40, li42, li48, li49, li50, li57, li59, li60, li61, li62, li64, li97, li99, li100, li101, li104, li109, li110, li119, li121, li122, li134, li136, li255, li600, li640, li968, li1010, li1072, li2400, li12345, li1000000, eq_nn, eq_nv, eq_nw, eq_vn, eq_vv, eq_vw, eq_wn, eq_wv, eq_ww, le_nn, le_nv, le_nw, le_vn, le_vv, le_vw, le_wn, le_wv, le_ww, lt_nn, lt_nv, lt_nw, lt_vn, lt_vv, lt_vw, lt_wn, lt_wv, lt_ww, nI_add, pk_mul, nI_sub, nI_sv, vI_1, nI_dv, nI_md, nI_ck, rfN_n, inb_T, inb_v, mx_n, mn_n, mx_v, gdT, gdF, bq, b2T, b2F, st2_k, st2_o, st2_c, iteT, iteF, ↓reduceIte, Bool.true_eq_false, Bool.false_eq_true, Nat.reduceAdd, Nat.reduceMul, Nat.reduceSub, Nat.add_zero, Nat.zero_add, Nat.mul_zero, Nat.mul_one, f_in, decide_eq_true_eq, fX12_ofStore, r2]
        · refine fin_q (f := fX11_store (nI k) (nI j)) (g := fX12_store (nI k) (nI j)) (r := wI 0) (r' := wI 0) (b' := st2 (st2 b 269 0 (nI 0)) 269 23 (nI k)) ?_ ?_ rfl e0
          · unfold fX11_store
            rw [g1]
            simp (disch := omega) only [↓v0, ↓w0, li0, li1, li2, li3, li4, li5, li6, li7, li8, li9, li10, li11, li12, li13, li14, li15, li16, li17, li18, li19, li20, li21, li22, li23, li24, li25, li26, li27, li28, li29, li30, li31, li32, li39, li40, li42, li48, li49, li50, li57, li59, li60, li61, li62, li64, li97, li99, li100, li101, li104, li109, li110, li119, li121, li122, li134, li136, li255, li600, li640, li968, li1010, li1072, li2400, li12345, li1000000, eq_nn, eq_nv, eq_nw, eq_vn, eq_vv, eq_vw, eq_wn, eq_wv, eq_ww, le_nn, le_nv, le_nw, le_vn, le_vv, le_vw, le_wn, le_wv, le_ww, lt_nn, lt_nv, lt_nw, lt_vn, lt_vv, lt_vw, lt_wn, lt_wv, lt_ww, nI_add, pk_mul, nI_sub, nI_sv, vI_1, nI_dv, nI_md, nI_ck, rfN_n, inb_T, inb_v, mx_n, mn_n, mx_v, gdT, gdF, bq, b2T, b2F, st2_k, st2_o, st2_c, iteT, iteF, ↓reduceIte, Bool.true_eq_false, Bool.false_eq_true, Nat.reduceAdd, Nat.reduceMul, Nat.reduceSub, Nat.add_zero, Nat.zero_add, Nat.mul_zero, Nat.mul_one, f_inTen, decide_eq_true_eq]
          · unfold fX12_store
            rw [g2 _ (e0 _ (by omega))]
            simp (disch := omega) only [↓v0, ↓w0, li0, li1, li2, li3, li4, li5, li6, li7, li8, li9, li10, li11, li12, li13, li14, li15, li16, li17, li18, li19, li20, li21, li22, li23, li24, li25, li26, li27, li28, li29, li30, li31, li32, li39, li40, li42, li48, li49, li50, li57, li59, li60, li61, li62, li64, li97, li99, li100, li101, li104, li109, li110, li119, li121, li122, li134, li136, li255, li600, li640, li968, li1010, li1072, li2400, li12345, li1000000, eq_nn, eq_nv, eq_nw, eq_vn, eq_vv, eq_vw, eq_wn, eq_wv, eq_ww, le_nn, le_nv, le_nw, le_vn, le_vv, le_vw, le_wn, le_wv, le_ww, lt_nn, lt_nv, lt_nw, lt_vn, lt_vv, lt_vw, lt_wn, lt_wv, lt_ww, nI_add, pk_mul, nI_sub, nI_sv, vI_1, nI_dv, nI_md, nI_ck, rfN_n, inb_T, inb_v, mx_n, mn_n, mx_v, gdT, gdF, bq, b2T, b2F, st2_k, st2_o, st2_c, iteT, iteF, ↓reduceIte, Bool.true_eq_false, Bool.false_eq_true, Nat.reduceAdd, Nat.reduceMul, Nat.reduceSub, Nat.add_zero, Nat.zero_add, Nat.mul_zero, Nat.mul_one, f_in, decide_eq_true_eq]
  · have g1 : fX9_has 1 0 x a = some (false, a) := (has_neg hR (s := 0) (by omega) hx).1
    have g2 : ∀ b' : Mem, b' 274 = b 274 → fX12_is 0 x b' = some (false, b') := (has_neg hR (s := 0) (by omega) hx).2
    exact fin_q (f := fX11_store x y) (g := fX12_store x y) (by unfold fX11_store; rw [g1]; rfl) (by unfold fX12_store; rw [g2 _ (e0 _ (by omega))]; rfl) rfl e0)
