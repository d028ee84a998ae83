/-! ===== text: the tape, and tokens ===== -/
/-- a byte as the class sees it -/
def bI (d : Nat) : Int32 := if d < 128 then nI d else nI d - nI 256
theorem bI_and : ∀ d, d < 256 → bI d &&& 255 = nI d := by decide +kernel
theorem bI_32 : ∀ d, d < 256 → (bI d = 32 ↔ d = 32) := by decide +kernel
theorem bI_10 : ∀ d, d < 256 → (bI d = 10 ↔ d = 10) := by decide +kernel
theorem bI_59 : ∀ d, d < 256 → (bI d = 59 ↔ d = 59) := by decide +kernel
theorem bI_97 : ∀ d, d < 256 → ((¬ bI d < 97 ∧ ¬ (122 : Int32) < bI d) ↔ (97 ≤ d ∧ d ≤ 122)) := by decide +kernel
theorem bI_48 : ∀ d, d < 256 → ((¬ bI d < 48 ∧ ¬ (57 : Int32) < bI d) ↔ (48 ≤ d ∧ d ≤ 57)) := by decide +kernel
theorem bI_n {d : Nat} (h : d < 128) : bI d = nI d := if_pos h
theorem byt_ti {x : Int32} (h : isByt x) : -128 ≤ x.toInt ∧ x.toInt ≤ 127 := by
  unfold isByt fits at h
  simp at h
  have h1 := Int32.le_iff_toInt_le.mp h.1
  have h2 := Int32.le_iff_toInt_le.mp h.2
  exact ⟨h1, h2⟩
theorem byt_bI {x : Int32} (h : isByt x) : ∃ d, d < 256 ∧ x = bI d := by
  have h1 := byt_ti h
  by_cases z : 0 ≤ x.toInt
  · refine ⟨x.toInt.toNat, by omega, ?_⟩
    rw [bI_n (by omega), ← Int32.toInt_inj, n_ti (by omega)]
    omega
  · refine ⟨(x.toInt + 256).toNat, by omega, ?_⟩
    unfold bI
    rw [if_neg (by omega)]
    have : x = nI (x.toInt + 256).toNat - nI 256 := by
      have e : x + nI 256 = nI (x.toInt + 256).toNat := by
        rw [← Int32.toInt_inj, Int32.toInt_add, n_ti (by omega), n_ti (by omega)]
        rw [Int.bmod_eq_of_le (by omega) (by omega)]
        omega
      rw [← e]; exact (Int32.add_sub_cancel x (nI 256)).symm
    exact this
/-- the class's tape, the model's tape -/
def CT (a : Mem) (T : Nat → Nat) : Prop := ∀ i, i < 600 → a 2 i = bI (T i)
def MT (b : Mem) (T : Nat → Nat) : Prop := ∀ i, i < 600 → b 270 i &&& 255 = nI (T i)
def okT (T : Nat → Nat) : Prop := ∀ i, T i < 256
theorem tape_at {a b : Mem} (hR : RR a b) : ∃ T n, okT T ∧ CT a T ∧ MT b T ∧ n ≤ 600 ∧ a 1 1 = nI n ∧ b 271 0 = nI n := by
  obtain ⟨⟨⟨n, q1, q2, q3⟩, q4, -⟩, -⟩ := hR
  have hT : ∀ i, ∃ d, d < 256 ∧ (i < 600 → a 2 i = bI d) := fun i => by
    by_cases h : i < 600
    · obtain ⟨d, h1, h2⟩ := byt_bI (q4 i h).1
      exact ⟨d, h1, fun _ => h2⟩
    · exact ⟨0, by omega, fun z => absurd z h⟩
  refine ⟨fun i => Classical.choose (hT i), n, fun i => (Classical.choose_spec (hT i)).1, fun i hi => (Classical.choose_spec (hT i)).2 hi, fun i hi => ?_, q1, q2, q3⟩
  have e := (q4 i hi).2
  rw [Nat.mul_zero, Nat.zero_add] at e
  rw [e, show a (1 + 1) i = bI (Classical.choose (hT i)) from (Classical.choose_spec (hT i)).2 hi]
  exact bI_and _ (Classical.choose_spec (hT i)).1
/-- the first place from i on where P ends -/
def adv (P : Nat → Bool) : Nat → Nat → Nat
  | 0, i => i
  | k + 1, i => if P i = true then adv P k (i + 1) else i
def adT (P : Nat → Bool) (n i : Nat) : Nat := adv P (n - i) i
theorem adT_end {P : Nat → Bool} {n i : Nat} (h : n ≤ i) : adT P n i = i := by unfold adT; rw [show n - i = 0 by omega]; rfl
theorem adT_no {P : Nat → Bool} {n i : Nat} (h : P i = false) : adT P n i = i := by
  unfold adT
  cases n - i with
  | zero => rfl
  | succ k => show (if P i = true then _ else i) = i; rw [if_neg (by rw [h]; decide)]
theorem adT_yes {P : Nat → Bool} {n i : Nat} (h : i < n) (hP : P i = true) : adT P n i = adT P n (i + 1) := by
  unfold adT
  rw [show n - i = (n - (i + 1)) + 1 by omega]
  show (if P i = true then _ else i) = _
  rw [if_pos hP]
theorem adv_le {P : Nat → Bool} : ∀ k i, i ≤ adv P k i ∧ adv P k i ≤ i + k
  | 0, i => ⟨Nat.le_refl _, Nat.le_refl _⟩
  | k + 1, i => by
    show i ≤ (if P i = true then adv P k (i + 1) else i) ∧ (if P i = true then adv P k (i + 1) else i) ≤ _
    split
    · have := adv_le (P := P) k (i + 1); omega
    · omega
theorem adT_le {P : Nat → Bool} {n i : Nat} (h : i ≤ n) : i ≤ adT P n i ∧ adT P n i ≤ n := by
  have := adv_le (P := P) (n - i) i
  unfold adT; omega
theorem adv_in {P : Nat → Bool} : ∀ k i j, i ≤ j → j < adv P k i → P j = true
  | 0, i, j, h1, h2 => absurd h2 (by show ¬ j < i; omega)
  | k + 1, i, j, h1, h2 => by
    have h2' : j < (if P i = true then adv P k (i + 1) else i) := h2
    by_cases e : P i = true
    · rw [if_pos e] at h2'
      by_cases e2 : j = i
      · rw [e2]; exact e
      · exact adv_in k (i + 1) j (by omega) h2'
    · rw [if_neg e] at h2'; omega
theorem adT_in {P : Nat → Bool} {n i j : Nat} (h1 : i ≤ j) (h2 : j < adT P n i) : P j = true := adv_in _ _ _ h1 h2
def bl (T : Nat → Nat) (i : Nat) : Bool := decide (T i = 32 ∨ T i = 10)
def lt (T : Nat → Nat) (i : Nat) : Bool := decide (97 ≤ T i ∧ T i ≤ 122)
def dg (T : Nat → Nat) (i : Nat) : Bool := decide (48 ≤ T i ∧ T i ≤ 57)
/-- a token: its place, its kind (0 end, 1 odd, 2 word, 3 number, 4 mark), its end, its number -/
def tP (T : Nat → Nat) (n i : Nat) : Nat := adT (bl T) n i
def tK (T : Nat → Nat) (n p : Nat) : Nat := if n ≤ p then 0 else if lt T p = true then 2 else if dg T p = true then (if adT (dg T) n p - p ≤ 2 then 3 else 1) else if T p = 59 then 4 else 1
def tE (T : Nat → Nat) (n p : Nat) : Nat := if n ≤ p then p else if lt T p = true then adT (lt T) n p else if dg T p = true then adT (dg T) n p else p + 1
def nd (T : Nat → Nat) (p : Nat) : Nat → Nat
  | 0 => 0
  | k + 1 => nd T p k * 10 + (T (p + k) - 48)
def tN (T : Nat → Nat) (n p : Nat) : Nat := nd T p (adT (dg T) n p - p)
def cK (k : Nat) : Nat := if k = 0 then 0 else if k = 2 then 1 else if k = 3 then 2 else if k = 4 then 3 else 4
theorem c_let {a : Mem} {T : Nat → Nat} {i : Nat} (oT : okT T) (hT : CT a T) (hi : i < 600) : fX5_isLetter (nI i) a = some (lt T i, a) := by
  unfold fX5_isLetter
  rw [inb_T hi (by omega), gdT, gdT, nI_ck (by omega), hT i hi]
  have h := bI_97 (T i) (oT i)
  unfold lt
  by_cases z : 97 ≤ T i ∧ T i ≤ 122
  · rw [decide_eq_true z, if_neg (h.mpr z).1, if_neg (h.mpr z).2]
  · rw [decide_eq_false z]
    by_cases z1 : bI (T i) < 97
    · rw [if_pos z1]
    · rw [if_neg z1]
      by_cases z2 : (122 : Int32) < bI (T i)
      · rw [if_pos z2]
      · exact absurd (h.mp ⟨z1, z2⟩) z
theorem c_dig {a : Mem} {T : Nat → Nat} {i : Nat} (oT : okT T) (hT : CT a T) (hi : i < 600) : fX5_isDigit (nI i) a = some (dg T i, a) := by
  unfold fX5_isDigit
  rw [inb_T hi (by omega), gdT, gdT, nI_ck (by omega), hT i hi]
  have h := bI_48 (T i) (oT i)
  unfold dg
  by_cases z : 48 ≤ T i ∧ T i ≤ 57
  · rw [decide_eq_true z, if_neg (h.mpr z).1, if_neg (h.mpr z).2]
  · rw [decide_eq_false z]
    by_cases z1 : bI (T i) < 48
    · rw [if_pos z1]
    · rw [if_neg z1]
      by_cases z2 : (57 : Int32) < bI (T i)
      · rw [if_pos z2]
      · exact absurd (h.mp ⟨z1, z2⟩) z
def frp2 (a a' : Mem) : Prop := (∀ j, j ≠ 2 → a' 143 j = a 143 j) ∧ ∀ m, m ≠ 143 → a' m = a m
theorem frp2.tr {a a' a'' : Mem} (h : frp2 a a') (h2 : frp2 a' a'') : frp2 a a'' := ⟨fun j hj => (h2.1 j hj).trans (h.1 j hj), fun m hm => (h2.2 m hm).trans (h.2 m hm)⟩
theorem frp2.st {a : Mem} {v : Int32} : frp2 a (st2 a 143 2 v) := ⟨fun j hj => st2_o _ _ (by omega), fun m hm => st2_c _ _ hm⟩
theorem CT.c {a a' : Mem} {T : Nat → Nat} (h : CT a T) (e : a' 2 = a 2) : CT a' T := fun i hi => by rw [e]; exact h i hi
theorem c_skip {T : Nat → Nat} {n : Nat} (oT : okT T) (hn : n ≤ 600) : ∀ k g i (a : Mem), n - i = k → k < g → i ≤ n → CT a T → a 143 1 = nI n → a 143 2 = nI i → ∃ a', lX5_readToken_0 g a = some a' ∧ a' 143 2 = nI (adT (bl T) n i) ∧ frp2 a a' := by
  intro k
  induction k with
  | zero =>
    intro g i a h1 h2 h3 hT a1 a2
    obtain ⟨g, rfl⟩ : ∃ m, g = m + 1 := ⟨g - 1, by omega⟩
    rw [lX5_readToken_0, a1, a2, if_pos (by rw [le_nn (by omega) (by omega)]; omega), adT_end (by omega)]
    exact ⟨a, rfl, a2, fun _ _ => rfl, fun _ _ => rfl⟩
  | succ k ih =>
    intro g i a h1 h2 h3 hT a1 a2
    obtain ⟨g, rfl⟩ : ∃ m, g = m + 1 := ⟨g - 1, by omega⟩
    have hi : i < 600 := by omega
    have hrec : bl T i = true → ∃ a', lX5_readToken_0 g (st2 a 143 2 (nI i + 1)) = some a' ∧ a' 143 2 = nI (adT (bl T) n i) ∧ frp2 a a' := fun hb => by
      obtain ⟨a', r1, r2, r3⟩ := ih g (i + 1) (st2 a 143 2 (nI i + 1)) (by omega) (by omega) (by omega) (hT.c (st2_c _ _ (by omega))) (by rw [st2_o _ _ (by omega)]; exact a1) (by rw [st2_eq, nI_1])
      exact ⟨a', r1, by rw [adT_yes (by omega) hb]; exact r2, frp2.st.tr r3⟩
    rw [lX5_readToken_0, a1, a2, if_neg (by rw [le_nn (by omega) (by omega)]; omega), inb_T hi (by omega), gdT, gdT, nI_ck (by omega), hT i hi]
    by_cases z : T i = 32
    · rw [if_pos ((bI_32 _ (oT i)).mpr z)]
      exact hrec (decide_eq_true (Or.inl z))
    · rw [if_neg (fun q => z ((bI_32 _ (oT i)).mp q))]
      by_cases z2 : T i = 10
      · rw [if_pos ((bI_10 _ (oT i)).mpr z2)]
        exact hrec (decide_eq_true (Or.inr z2))
      · rw [if_neg (fun q => z2 ((bI_10 _ (oT i)).mp q)), adT_no (decide_eq_false (fun q => q.elim z z2))]
        exact ⟨a, rfl, a2, fun _ _ => rfl, fun _ _ => rfl⟩
theorem c_word {T : Nat → Nat} {n : Nat} (oT : okT T) (hn : n ≤ 600) : ∀ k g i (a : Mem), n - i = k → k < g → i ≤ n → CT a T → a 143 1 = nI n → a 143 2 = nI i → ∃ a', lX5_readWord_5 g a = some a' ∧ a' 143 2 = nI (adT (lt T) n i) ∧ frp2 a a' := by
  intro k
  induction k with
  | zero =>
    intro g i a h1 h2 h3 hT a1 a2
    obtain ⟨g, rfl⟩ : ∃ m, g = m + 1 := ⟨g - 1, by omega⟩
    rw [lX5_readWord_5, a1, a2, if_pos (by rw [le_nn (by omega) (by omega)]; omega), adT_end (by omega)]
    exact ⟨a, rfl, a2, fun _ _ => rfl, fun _ _ => rfl⟩
  | succ k ih =>
    intro g i a h1 h2 h3 hT a1 a2
    obtain ⟨g, rfl⟩ : ∃ m, g = m + 1 := ⟨g - 1, by omega⟩
    have hi : i < 600 := by omega
    rw [lX5_readWord_5, a1, a2, if_neg (by rw [le_nn (by omega) (by omega)]; omega), c_let oT hT hi, bq]
    dsimp only
    cases z : lt T i
    · rw [if_neg (by decide), adT_no z]
      exact ⟨a, rfl, a2, fun _ _ => rfl, fun _ _ => rfl⟩
    · rw [if_pos rfl, a2]
      obtain ⟨a', r1, r2, r3⟩ := ih g (i + 1) (st2 a 143 2 (nI i + 1)) (by omega) (by omega) (by omega) (hT.c (st2_c _ _ (by omega))) (by rw [st2_o _ _ (by omega)]; exact a1) (by rw [st2_eq, nI_1])
      exact ⟨a', r1, by rw [adT_yes (by omega) z]; exact r2, frp2.st.tr r3⟩
def fr25 (a a' : Mem) : Prop := (∀ j, j ≠ 2 → j ≠ 5 → a' 143 j = a 143 j) ∧ ∀ m, m ≠ 143 → a' m = a m
theorem nd_b {T : Nat → Nat} {p : Nat} {k : Nat} (h : k ≤ 2) (hd : ∀ j, j < k → T (p + j) ≤ 57) : nd T p k ≤ 99 := by
  rcases (show k = 0 ∨ k = 1 ∨ k = 2 by omega) with rfl | rfl | rfl
  · show 0 ≤ 99; omega
  · have := hd 0 (by omega); show 0 * 10 + (T (p + 0) - 48) ≤ 99; omega
  · have h0 := hd 0 (by omega); have h1 := hd 1 (by omega); show (0 * 10 + (T (p + 0) - 48)) * 10 + (T (p + 1) - 48) ≤ 99; omega
theorem c_num {T : Nat → Nat} {n p : Nat} (oT : okT T) (hn : n ≤ 600) : ∀ k g i (a : Mem), n - i = k → k < g → p ≤ i → i ≤ n → CT a T → a 143 1 = nI n → a 143 2 = nI i → a 143 5 = nI (nd T p (i - p)) → ∃ a', lX5_readNumber_5 g a = some a' ∧ a' 143 2 = nI (adT (dg T) n i) ∧ a' 143 5 = nI (nd T p (adT (dg T) n i - p)) ∧ fr25 a a' := by
  intro k
  induction k with
  | zero =>
    intro g i a h1 h2 hp h3 hT a1 a2 a5
    obtain ⟨g, rfl⟩ : ∃ m, g = m + 1 := ⟨g - 1, by omega⟩
    rw [lX5_readNumber_5, a1, a2, if_pos (by rw [le_nn (by omega) (by omega)]; omega), adT_end (by omega)]
    exact ⟨a, rfl, a2, a5, fun _ _ _ => rfl, fun _ _ => rfl⟩
  | succ k ih =>
    intro g i a h1 h2 hp h3 hT a1 a2 a5
    obtain ⟨g, rfl⟩ : ∃ m, g = m + 1 := ⟨g - 1, by omega⟩
    have hi : i < 600 := by omega
    rw [lX5_readNumber_5, a1, a2, if_neg (by rw [le_nn (by omega) (by omega)]; omega), c_dig oT hT hi, bq]
    dsimp only
    cases z : dg T i
    · rw [if_neg (by decide), adT_no z]
      exact ⟨a, rfl, a2, a5, fun _ _ _ => rfl, fun _ _ => rfl⟩
    · have zd : 48 ≤ T i ∧ T i ≤ 57 := of_decide_eq_true z
      rw [if_pos rfl, a2, inb_T hi (by omega), gdT, nI_ck (by omega), hT i hi, bI_n (by omega), a5, bq]
      have e5 : nI (nd T p (i - p)) * 10 + nI (T i) - 48 = nI (nd T p (i + 1 - p)) := by
        rw [show (10 : Int32) = nI 10 from rfl, pk_mul, nI_add, show (48 : Int32) = nI 48 from rfl, nI_sub (by omega), show i + 1 - p = (i - p) + 1 by omega]
        show _ = nI (nd T p (i - p) * 10 + (T (p + (i - p)) - 48))
        rw [show p + (i - p) = i by omega]
        congr 1
        omega
      rw [e5, st2_o _ _ (show ¬ (143 = 143 ∧ 2 = 5) by omega), a2, nI_1]
      obtain ⟨a', r1, r2, r3, r4⟩ := ih g (i + 1) (st2 (st2 a 143 5 (nI (nd T p (i + 1 - p)))) 143 2 (nI (i + 1))) (by omega) (by omega) (by omega) (by omega) (hT.c (by rw [st2_c _ _ (by omega), st2_c _ _ (by omega)])) (by rw [st2_o _ _ (by omega), st2_o _ _ (by omega)]; exact a1) (by rw [st2_eq]) (by rw [st2_o _ _ (by omega), st2_eq])
      refine ⟨a', r1, by rw [adT_yes (by omega) z]; exact r2, by rw [adT_yes (by omega) z]; exact r3, fun j j2 j5 => ?_, fun m hm => ?_⟩
      · rw [r4.1 j j2 j5, st2_o _ _ (by omega), st2_o _ _ (by omega)]
      · rw [r4.2 m hm, st2_c _ _ hm, st2_c _ _ hm]
def frTk (a a' : Mem) : Prop := (∀ j, ¬ (2 ≤ j ∧ j ≤ 5) → a' 143 j = a 143 j) ∧ ∀ m, m ≠ 143 → a' m = a m
theorem frTk.tr {a a' a'' : Mem} (h : frTk a a') (h2 : frTk a' a'') : frTk a a'' := ⟨fun j hj => (h2.1 j hj).trans (h.1 j hj), fun m hm => (h2.2 m hm).trans (h.2 m hm)⟩
/-- the class's state at place i of its tape -/
def CI (a : Mem) (T : Nat → Nat) (n i : Nat) : Prop := CT a T ∧ a 143 1 = nI n ∧ a 143 2 = nI i
set_option maxHeartbeats 1000000 in
theorem c_tok {a : Mem} {T : Nat → Nat} {n i : Nat} (oT : okT T) (hn : n ≤ 600) (hi : i ≤ n) (hC : CI a T n i) : ∃ a', fX5_readToken a = some a' ∧ CI a' T n (tE T n (tP T n i)) ∧ a' 143 4 = nI (tP T n i) ∧ a' 143 3 = nI (cK (tK T n (tP T n i))) ∧ (tK T n (tP T n i) = 3 → a' 143 5 = nI (tN T n (tP T n i))) ∧ frTk a a' := by
  obtain ⟨hT, a1, a2⟩ := hC
  obtain ⟨b, s1, s2, s3, s4⟩ := c_skip oT hn (n - i) FU i a rfl (by show n - i < 5000; omega) hi hT a1 a2
  unfold fX5_readToken
  rw [s1, bq]
  have hp := adT_le (P := bl T) hi
  have e2 : b 143 2 = nI (tP T n i) := s2
  have hp2 : tP T n i ≤ n := hp.2
  generalize tP T n i = p at *
  have b1 : b 143 1 = nI n := by rw [s3 1 (by omega)]; exact a1
  unfold jX5_readToken_52
  rw [e2]
  generalize hc : st2 b 143 4 (nI p) = c
  have c1 : c 143 1 = nI n := by rw [← hc, st2_o _ _ (by omega)]; exact b1
  have c2 : c 143 2 = nI p := by rw [← hc, st2_o _ _ (by omega)]; exact e2
  have c4 : c 143 4 = nI p := by rw [← hc, st2_eq]
  have cT : CT c T := hT.c (by rw [← hc, st2_c _ _ (by omega), s4 _ (by omega)])
  have fc : frTk a c := ⟨fun j hj => by rw [← hc, st2_o _ _ (by omega), s3 j (by omega)], fun m hm => by rw [← hc, st2_c _ _ hm, s4 m hm]⟩
  clear hc
  rw [c1, c2]
  by_cases hpn : p < n
  · have h600 : p < 600 := by omega
    rw [if_pos (by rw [lt_nn (by omega) (by omega)]; exact hpn), c_let oT cT h600, bq]
    dsimp only
    cases z : lt T p
    · rw [if_neg (by decide), c2, c_dig oT cT h600, bq]
      dsimp only
      cases z2 : dg T p
      · have hin : inb (c 143 2) 600 = true := by rw [c2]; exact inb_T h600 (by omega)
        rw [if_neg (by decide), hin, gdT]
        have eE : tE T n p = p + 1 := by unfold tE; rw [if_neg (by omega), if_neg (by rw [z]; decide), if_neg (by rw [z2]; decide)]
        have eK : tK T n p = if T p = 59 then 4 else 1 := by unfold tK; rw [if_neg (by omega), if_neg (by rw [z]; decide), if_neg (by rw [z2]; decide)]
        have hq : ((if c 2 (Int32.toNatClampNeg (c 143 2)) = 59 then (some 3) else (some 4)) : Option Int32) = some (nI (cK (tK T n p))) := by
          rw [eK, c2, nI_ck (by omega), cT p h600]
          by_cases z3 : T p = 59
          · rw [if_pos ((bI_59 _ (oT p)).mpr z3), if_pos z3]; rfl
          · rw [if_neg (fun q => z3 ((bI_59 _ (oT p)).mp q)), if_neg z3]; rfl
        rw [hq, bq, st2_o _ _ (show ¬ (143 = 143 ∧ 2 = 3) by omega), c2, nI_1, eE]
        refine ⟨_, rfl, ⟨cT.c (by rw [st2_c _ _ (by omega), st2_c _ _ (by omega)]), by rw [st2_o _ _ (by omega), st2_o _ _ (by omega)]; exact c1, st2_eq _ _ _ _⟩, by rw [st2_o _ _ (by omega), st2_o _ _ (by omega)]; exact c4, by rw [st2_o _ _ (by omega), st2_eq], fun h => ?_, fc.tr ⟨fun j hj => by rw [st2_o _ _ (by omega), st2_o _ _ (by omega)], fun m hm => by rw [st2_c _ _ hm, st2_c _ _ hm]⟩⟩
        rw [eK] at h
        exact absurd h (by split <;> omega)
      · rw [if_pos rfl]
        unfold fX5_readNumber
        obtain ⟨d, t1, t2, t3, t4, t5⟩ := c_num (p := p) oT hn (n - p) FU p (st2 c 143 5 0) rfl (by show n - p < 5000; omega) (Nat.le_refl _) hp2 (cT.c (st2_c _ _ (by omega))) (by rw [st2_o _ _ (by omega)]; exact c1) (by rw [st2_o _ _ (by omega)]; exact c2) (by rw [st2_eq, Nat.sub_self]; rfl)
        have hq := adT_le (P := dg T) hp2
        have d4 : d 143 4 = nI p := by rw [t4 4 (by omega) (by omega), st2_o _ _ (by omega)]; exact c4
        have d1 : d 143 1 = nI n := by rw [t4 1 (by omega) (by omega), st2_o _ _ (by omega)]; exact c1
        have dT : CT d T := cT.c (by rw [t5 _ (by omega), st2_c _ _ (by omega)])
        have fd : frTk a d := fc.tr ⟨fun j hj => by rw [t4 j (by omega) (by omega), st2_o _ _ (by omega)], fun m hm => by rw [t5 m hm, st2_c _ _ hm]⟩
        have eE : tE T n p = adT (dg T) n p := by unfold tE; rw [if_neg (by omega), if_neg (by rw [z]; decide), if_pos z2]
        have eK : tK T n p = if adT (dg T) n p - p ≤ 2 then 3 else 1 := by unfold tK; rw [if_neg (by omega), if_neg (by rw [z]; decide), if_pos z2]
        rw [t1, bq, t2, d4, nI_sub hq.1, eE]
        by_cases z3 : adT (dg T) n p - p ≤ 2
        · rw [if_neg (by rw [show (2 : Int32) = nI 2 from rfl, lt_nn (by omega) (by omega)]; omega), bq]
          rw [if_pos z3] at eK
          rw [eK]
          exact ⟨_, rfl, ⟨dT.c (st2_c _ _ (by omega)), by rw [st2_o _ _ (by omega)]; exact d1, by rw [st2_o _ _ (by omega)]; exact t2⟩, by rw [st2_o _ _ (by omega)]; exact d4, st2_eq _ _ _ _, fun _ => by rw [st2_o _ _ (by omega)]; exact t3, fd.tr ⟨fun j hj => st2_o _ _ (by omega), fun m hm => st2_c _ _ hm⟩⟩
        · rw [if_pos (by rw [show (2 : Int32) = nI 2 from rfl, lt_nn (by omega) (by omega)]; omega), bq]
          rw [if_neg z3] at eK
          rw [eK]
          exact ⟨_, rfl, ⟨dT.c (st2_c _ _ (by omega)), by rw [st2_o _ _ (by omega)]; exact d1, by rw [st2_o _ _ (by omega)]; exact t2⟩, by rw [st2_o _ _ (by omega)]; exact d4, st2_eq _ _ _ _, fun h => absurd h (by omega), fd.tr ⟨fun j hj => st2_o _ _ (by omega), fun m hm => st2_c _ _ hm⟩⟩
    · rw [if_pos rfl]
      unfold fX5_readWord
      obtain ⟨d, t1, t2, t4, t5⟩ := c_word oT hn (n - p) FU p (st2 c 143 3 1) rfl (by show n - p < 5000; omega) hp2 (cT.c (st2_c _ _ (by omega))) (by rw [st2_o _ _ (by omega)]; exact c1) (by rw [st2_o _ _ (by omega)]; exact c2)
      have eE : tE T n p = adT (lt T) n p := by unfold tE; rw [if_neg (by omega), if_pos z]
      have eK : tK T n p = 2 := by unfold tK; rw [if_neg (by omega), if_pos z]
      rw [t1, bq, bq, eE, eK]
      exact ⟨d, rfl, ⟨cT.c (by rw [t5 _ (by omega), st2_c _ _ (by omega)]), by rw [t4 1 (by omega), st2_o _ _ (by omega)]; exact c1, t2⟩, by rw [t4 4 (by omega), st2_o _ _ (by omega)]; exact c4, by rw [t4 3 (by omega), st2_eq]; rfl, fun h => absurd h (by omega), fc.tr ⟨fun j hj => by rw [t4 j (by omega), st2_o _ _ (by omega)], fun m hm => by rw [t5 m hm, st2_c _ _ hm]⟩⟩
  · have eE : tE T n p = p := by unfold tE; rw [if_pos (by omega)]
    have eK : tK T n p = 0 := by unfold tK; rw [if_pos (by omega)]
    rw [if_neg (by rw [lt_nn (by omega) (by omega)]; exact hpn), eE, eK]
    exact ⟨_, rfl, ⟨cT.c (st2_c _ _ (by omega)), by rw [st2_o _ _ (by omega)]; exact c1, by rw [st2_o _ _ (by omega)]; exact c2⟩, by rw [st2_o _ _ (by omega)]; exact c4, st2_eq _ _ _ _, fun h => absurd h (by omega), fc.tr ⟨fun j hj => st2_o _ _ (by omega), fun m hm => st2_c _ _ hm⟩⟩
