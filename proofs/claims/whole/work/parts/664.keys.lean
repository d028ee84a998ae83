/-! ===== keys, free ===== -/
def sm (f : Nat → Nat) : Nat → Nat
  | 0 => 0
  | n + 1 => sm f n + f n
theorem sm_cg {f g : Nat → Nat} : ∀ n, (∀ i, i < n → f i = g i) → sm f n = sm g n
  | 0, _ => rfl
  | n + 1, h => by unfold sm; rw [sm_cg n (fun i hi => h i (by omega)), h n (by omega)]
theorem sm_zero {f : Nat → Nat} : ∀ n, (∀ i, i < n → f i = 0) → sm f n = 0
  | 0, _ => rfl
  | n + 1, h => by unfold sm; rw [sm_zero n (fun i hi => h i (by omega)), h n (by omega)]
theorem sm_add {f g : Nat → Nat} : ∀ n, sm (fun i => f i + g i) n = sm f n + sm g n
  | 0 => rfl
  | n + 1 => by unfold sm; rw [sm_add n]; omega
theorem sm_tri (p : Nat → Nat → Nat) : ∀ T, sm (fun a => sm (fun b => if a < b then p a b else 0) T) T = sm (fun b => sm (fun a => p a b) b) T
  | 0 => rfl
  | T + 1 => by
    have ih := sm_tri p T
    show sm (fun a => sm (fun b => if a < b then p a b else 0) (T + 1)) T + sm (fun b => if T < b then p T b else 0) (T + 1) = sm (fun b => sm (fun a => p a b) b) T + sm (fun a => p a T) T
    rw [sm_zero (f := fun b => if T < b then p T b else 0) (T + 1) (fun i hi => if_neg (by omega)), ← ih, Nat.add_zero, ← sm_add]
    refine sm_cg T (fun a ha => ?_)
    show sm (fun b => if a < b then p a b else 0) T + (if a < T then p a T else 0) = _
    rw [if_pos ha]
theorem or_zero {x y : Nat} : x ||| y = 0 ↔ x = 0 ∧ y = 0 := by
  constructor
  · intro h
    have h1 : x ≤ x ||| y := Nat.left_le_or
    have h2 : y ≤ x ||| y := Nat.right_le_or
    omega
  · rintro ⟨rfl, rfl⟩; rfl
theorem and_or_zero {x y z : Nat} : x &&& (y ||| z) = 0 ↔ x &&& y = 0 ∧ x &&& z = 0 := by rw [Nat.and_or_distrib_left, or_zero]
def rdM (w k o : Nat) : Nat := if w = 0 ∨ w = 4 then 2 ^ k else if w = 5 then 2 ^ o - 2 ^ k else 0
def wrM (w k : Nat) : Nat := if w = 0 ∨ w = 5 then 0 else 2 ^ k
def rdB (B : Nat → Nat → Nat) (t n : Nat) : Nat := itr (fun i s => s ||| rdM (B 2 (6 * t + i)) (B 3 (6 * t + i)) (B 4 (6 * t + i))) 0 n 0
def wrB (B : Nat → Nat → Nat) (t n : Nat) : Nat := itr (fun i s => s ||| wrM (B 2 (6 * t + i)) (B 3 (6 * t + i))) 0 n 0
theorem p2_lt {k : Nat} (h : k < 10) : 2 ^ k < 1024 := Nat.pow_lt_pow_right (a := 2) (by decide) (m := k) (n := 10) h
theorem rdM_lt {w k o : Nat} (h : stepc w k o) : rdM w k o < 1024 := by
  obtain ⟨s1, s2, s3, s4, s5⟩ := h
  unfold rdM
  split
  · exact p2_lt (by omega)
  · split
    · have : 2 ^ o ≤ 1024 := Nat.pow_le_pow_right (n := 2) (i := o) (j := 10) (by decide) (by omega)
      have : 0 < 2 ^ k := Nat.two_pow_pos k
      omega
    · omega
theorem wrM_lt {w k o : Nat} (h : stepc w k o) : wrM w k < 1024 := by
  unfold wrM
  split
  · omega
  · exact p2_lt (by have := h.2.1; omega)
theorem rdB_lt {B : Nat → Nat → Nat} (gB : okB B) (t : Nat) : ∀ n, rdB B t n < 1024
  | 0 => by show 0 < 1024; omega
  | n + 1 => by unfold rdB; rw [itr_S]; exact Nat.or_lt_two_pow (n := 10) (rdB_lt gB t n) (rdM_lt (gB.2.2 _))
theorem wrB_lt {B : Nat → Nat → Nat} (gB : okB B) (t : Nat) : ∀ n, wrB B t n < 1024
  | 0 => by show 0 < 1024; omega
  | n + 1 => by unfold wrB; rw [itr_S]; exact Nat.or_lt_two_pow (n := 10) (wrB_lt gB t n) (wrM_lt (gB.2.2 _))
theorem sh2 {k : Nat} (hk : k < 30) : (2 : Int32) <<< (nI k &&& 31) = nI (2 ^ (k + 1)) := by
  have h : 2 * 2 ^ k < 2 ^ 32 := by
    rw [Nat.mul_comm, ← Nat.pow_succ]
    exact Nat.pow_lt_pow_right (by decide) (by omega)
  have := pk_shlN (n := 2) (nI k &&& 31) k (sh_ok k (by omega)) h
  rw [Nat.mul_comm, ← Nat.pow_succ] at this
  exact this
theorem c_readsOf {a : Mem} {n t : Nat} {B : Nat → Nat → Nat} (hB : BK a n B) (gB : okB B) (ht : t < B 0 0) : fX8_readsOf n (nI t) a = some (nI (rdB B t (B 1 t)), a) := by
  have g1 := gB.1
  have g2 := gB.2.1 t
  obtain ⟨c1, c2⟩ := hB.2 t ht
  refine loop_k (fun f j s => lX8_readsOf_4 n (nI t) f s (nI j) a) (B 1 t) (fun j s => s = nI (rdB B t j)) (fun r => r = (nI (rdB B t (B 1 t)), a)) (Nat.zero_le _) (by omega) (s := nI 0) rfl ?_ ?_ ?_
  · rintro r e1 e2
    unfold fX8_readsOf
    have e1' : lX8_readsOf_4 n (nI t) FU 0 0 a = some r := e1
    rw [e1', bq, e2]
  · rintro f s rfl
    refine ⟨_, ?_, rfl⟩
    show lX8_readsOf_4 _ _ _ _ _ _ = _
    rw [lX8_readsOf_4, inb_T (show t < 7 by omega) (by omega), gdT, nI_ck (by omega), c1, if_pos (by rw [le_nn (by omega) (by omega)]; omega)]
  · rintro f j s hj rfl
    refine ⟨_, ?_, rfl⟩
    show lX8_readsOf_4 n (nI t) (f + 1) (nI (rdB B t j)) (nI j) a = lX8_readsOf_4 n (nI t) f (nI (rdB B t (j + 1))) (nI (j + 1)) a
    obtain ⟨k1, k2, k3⟩ := c2 j hj
    have gs := gB.2.2 (6 * t + j)
    rw [lX8_readsOf_4, inb_T (show t < 7 by omega) (by omega), gdT, nI_ck (show t < 2147483648 by omega), c1, if_neg (by rw [le_nn (by omega) (by omega)]; omega), show (6 : Int32) = nI 6 from rfl, pk_mul, nI_add, show t * 6 + j = 6 * t + j by omega, inb_T (show 6 * t + j < 42 by omega) (by omega), nI_ck (show 6 * t + j < 2147483648 by omega), k1, k2, k3, nI_1]
    simp only [gdT, bq]
    unfold rdB
    rw [itr_S]
    generalize itr (fun i s => s ||| rdM (B 2 (6 * t + i)) (B 3 (6 * t + i)) (B 4 (6 * t + i))) 0 j 0 = x
    generalize B 2 (6 * t + j) = w at *
    generalize B 3 (6 * t + j) = k at *
    generalize B 4 (6 * t + j) = o at *
    obtain ⟨s1, s2, s3, s4, s5⟩ := gs
    unfold rdM
    rw [sh1 (show k < 31 by omega)]
    rcases (show w = 0 ∨ w = 4 ∨ w = 5 ∨ (w ≠ 0 ∧ w ≠ 4 ∧ w ≠ 5) by omega) with rfl | rfl | rfl | ⟨w1, w2, w3⟩
    · rw [if_pos n00, bq, nI_or, if_pos (by omega)]
    · rw [if_neg (by decide), if_pos n44, bq, nI_or, if_pos (by omega)]
    · rw [if_neg (by decide), if_neg (by decide), if_pos n55, bq, vI_p (by omega), sh2 (by omega), show o - 1 + 1 = o by omega, nI_sub (Nat.pow_le_pow_right (by decide) (by omega)), nI_or, if_neg (by omega), if_pos rfl]
    · rw [if_neg (ne0 w1 (by omega)), if_neg (ne4 w2 (by omega)), if_neg (ne5 w3 (by omega)), bq, if_neg (by omega), if_neg w3, Nat.or_zero]
theorem c_writesOf {a : Mem} {n t : Nat} {B : Nat → Nat → Nat} (hB : BK a n B) (gB : okB B) (ht : t < B 0 0) : fX8_writesOf n (nI t) a = some (nI (wrB B t (B 1 t)), a) := by
  have g1 := gB.1
  have g2 := gB.2.1 t
  obtain ⟨c1, c2⟩ := hB.2 t ht
  refine loop_k (fun f j s => lX8_writesOf_4 n (nI t) f s (nI j) a) (B 1 t) (fun j s => s = nI (wrB B t j)) (fun r => r = (nI (wrB B t (B 1 t)), a)) (Nat.zero_le _) (by omega) (s := nI 0) rfl ?_ ?_ ?_
  · rintro r e1 e2
    unfold fX8_writesOf
    have e1' : lX8_writesOf_4 n (nI t) FU 0 0 a = some r := e1
    rw [e1', bq, e2]
  · rintro f s rfl
    refine ⟨_, ?_, rfl⟩
    show lX8_writesOf_4 _ _ _ _ _ _ = _
    rw [lX8_writesOf_4, inb_T (show t < 7 by omega) (by omega), gdT, nI_ck (by omega), c1, if_pos (by rw [le_nn (by omega) (by omega)]; omega)]
  · rintro f j s hj rfl
    refine ⟨_, ?_, rfl⟩
    show lX8_writesOf_4 n (nI t) (f + 1) (nI (wrB B t j)) (nI j) a = lX8_writesOf_4 n (nI t) f (nI (wrB B t (j + 1))) (nI (j + 1)) a
    obtain ⟨k1, k2, k3⟩ := c2 j hj
    have gs := gB.2.2 (6 * t + j)
    rw [lX8_writesOf_4, inb_T (show t < 7 by omega) (by omega), gdT, nI_ck (show t < 2147483648 by omega), c1, if_neg (by rw [le_nn (by omega) (by omega)]; omega), show (6 : Int32) = nI 6 from rfl, pk_mul, nI_add, show t * 6 + j = 6 * t + j by omega, inb_T (show 6 * t + j < 42 by omega) (by omega), nI_ck (show 6 * t + j < 2147483648 by omega), k1, k2, nI_1]
    simp only [gdT, bq]
    unfold wrB
    rw [itr_S]
    generalize itr (fun i s => s ||| wrM (B 2 (6 * t + i)) (B 3 (6 * t + i))) 0 j 0 = x
    generalize B 2 (6 * t + j) = w at *
    generalize B 3 (6 * t + j) = k at *
    obtain ⟨s1, s2, s3, s4, s5⟩ := gs
    unfold wrM
    rw [sh1 (show k < 31 by omega)]
    rcases (show w = 0 ∨ w = 5 ∨ (w ≠ 0 ∧ w ≠ 5) by omega) with rfl | rfl | ⟨w1, w2⟩
    · rw [if_pos n00, bq, if_pos (by omega), Nat.or_zero]
    · rw [if_neg (by decide), if_pos n55, bq, if_pos (by omega), Nat.or_zero]
    · rw [if_neg (ne0 w1 (by omega)), if_neg (ne5 w2 (by omega)), bq, nI_or, if_neg (by omega)]
theorem msk : ∀ j, j < 10 → ∀ k, k ≤ j → (2 ^ j - 2 ^ k) ||| 2 ^ j = 2 ^ (j + 1) - 2 ^ k := by decide
theorem m_keysIn {b : Mem} {x1 x4 : Int32} {x2 is : Bool} {k o s : Nat} (hk : k ≤ o) (ho : o ≤ 9) : lX12_keysOf_116 x1 x2 x4 (nI o) is FU (nI s) (nI k) b = some (nI (s ||| (if is = true then 2 ^ (o + 1) - 2 ^ k else 0)), b) := by
  refine loop_k (fun f j q => lX12_keysOf_116 x1 x2 x4 (nI o) is f q (nI j) b) (o + 1) (fun j q => k ≤ j ∧ q = nI (s ||| (if is = true then 2 ^ j - 2 ^ k else 0))) (fun r => r = (nI (s ||| (if is = true then 2 ^ (o + 1) - 2 ^ k else 0)), b)) (show k ≤ o + 1 by omega) (by omega) (s := nI s) ⟨Nat.le_refl _, by rw [Nat.sub_self]; simp⟩ ?_ ?_ ?_
  · rintro r e1 e2
    try dsimp only at e1
    rw [e1, e2]
  · rintro f q ⟨-, rfl⟩
    refine ⟨_, ?_, rfl⟩
    show lX12_keysOf_116 _ _ _ _ _ _ _ _ _ = _
    rw [lX12_keysOf_116, if_pos (by rw [lt_nn (by omega) (by omega)]; omega)]
  · rintro f j q hj ⟨h0, rfl⟩
    refine ⟨_, ?_, by omega, rfl⟩
    show lX12_keysOf_116 _ _ _ _ _ (f + 1) _ (nI j) b = lX12_keysOf_116 _ _ _ _ _ f _ (nI (j + 1)) b
    rw [lX12_keysOf_116, if_neg (by rw [lt_nn (by omega) (by omega)]; omega), nI_1, sh1 (by omega)]
    by_cases hi : is = true
    · rw [if_pos hi, if_pos hi, if_pos hi, bq, nI_or, Nat.or_assoc, msk j (by omega) k h0]
    · rw [if_neg hi, if_neg hi, if_neg hi, bq, show (0 : Int32) = nI 0 from rfl, nI_or, Nat.or_assoc, Nat.or_zero]
theorem m_keysOf {b : Mem} {n t : Nat} {B : Nat → Nat → Nat} (hB : MB b B n) (hn : n < 2) (gB : okB B) (ht : t < B 0 0) (ws : Bool) : fX12_keysOf (nI t) ws b = some (nI (if ws = true then wrB B t (B 1 t) else rdB B t (B 1 t)), b) := by
  have g1 := gB.1
  have g2 := gB.2.1 t
  refine loop_k (fun f j s => lX12_keysOf_5 (nI t) ws f s (nI j) b) (B 1 t) (fun j s => s = nI (if ws = true then wrB B t j else rdB B t j)) (fun r => r = (nI (if ws = true then wrB B t (B 1 t) else rdB B t (B 1 t)), b)) (Nat.zero_le _) (by omega) (s := nI 0) (by cases ws <;> rfl) ?_ ?_ ?_
  · rintro r e1 e2
    unfold fX12_keysOf
    have e1' : lX12_keysOf_5 (nI t) ws FU 0 0 b = some r := e1
    rw [e1', bq, e2]
  · rintro f s rfl
    refine ⟨_, ?_, rfl⟩
    show lX12_keysOf_5 _ _ _ _ _ _ = _
    rw [lX12_keysOf_5, hB.nt hn gB ht, bq]
    dsimp only
    rw [if_pos (by rw [le_nn (by omega) (by omega)]; omega)]
  · rintro f j s hj rfl
    refine ⟨_, ?_, rfl⟩
    show lX12_keysOf_5 (nI t) ws (f + 1) _ (nI j) b = lX12_keysOf_5 (nI t) ws f _ (nI (j + 1)) b
    obtain ⟨k1, k2, k3⟩ := hB.st hn gB ht hj
    have gs := gB.2.2 (6 * t + j)
    rw [lX12_keysOf_5, hB.nt hn gB ht, bq]
    dsimp only
    rw [if_neg (by rw [le_nn (by omega) (by omega)]; omega), show (1 : Int32) = nI 1 from rfl, show (2 : Int32) = nI 2 from rfl, show (3 : Int32) = nI 3 from rfl, pk_mul, nI_add, nI_add, nI_add, nI_add, show 2 + 3 * j = 1 + 3 * j + 1 by omega, show 3 + 3 * j = 1 + 3 * j + 2 by omega, k1, bq]
    dsimp only
    rw [k2, bq]
    dsimp only
    rw [k3]
    unfold wrB rdB
    rw [itr_S, itr_S]
    generalize itr (fun i s => s ||| rdM (B 2 (6 * t + i)) (B 3 (6 * t + i)) (B 4 (6 * t + i))) 0 j 0 = x
    generalize itr (fun i s => s ||| wrM (B 2 (6 * t + i)) (B 3 (6 * t + i))) 0 j 0 = y
    generalize B 2 (6 * t + j) = w at *
    generalize B 3 (6 * t + j) = k at *
    generalize B 4 (6 * t + j) = o at *
    obtain ⟨s1, s2, s3, s4, s5⟩ := gs
    have e2k : 2 ^ (k + 1) - 2 ^ k = 2 ^ k := by rw [Nat.pow_succ]; omega
    by_cases w5 : w = 5
    · subst w5
      rw [if_pos n55, bq, bq]
      dsimp only
      rw [vI_p (by omega)]
      cases ws
      · rw [if_neg (by decide), if_neg (by decide), if_neg (by decide), if_pos n55, bq, m_keysIn (by omega) (by omega), bq]
        simp only [↓reduceIte, Bool.false_eq_true]
        unfold rdM
        rw [if_neg (by omega), if_pos rfl, show o - 1 + 1 = o by omega]
      · rw [if_pos rfl, if_neg (by decide), if_pos n55, bq, m_keysIn (by omega) (by omega), bq]
        simp only [↓reduceIte, Bool.false_eq_true]
        unfold wrM
        rw [if_pos (by omega)]
    · have n5 : ¬ nI w = 5 := ne5 w5 (by omega)
      rw [if_neg n5, bq]
      dsimp only
      rw [if_neg n5, if_neg n5]
      cases ws
      · rw [if_neg (by decide)]
        rcases (show w = 0 ∨ w = 4 ∨ (w ≠ 0 ∧ w ≠ 4) by omega) with rfl | rfl | ⟨w1, w2⟩
        · rw [if_pos n00, bq, m_keysIn (by omega) (by omega), bq]
          simp only [↓reduceIte, Bool.false_eq_true]
          unfold rdM
          rw [if_pos (by omega), e2k]
        · rw [if_neg (by decide), if_pos n44, bq, m_keysIn (by omega) (by omega), bq]
          simp only [↓reduceIte, Bool.false_eq_true]
          unfold rdM
          rw [if_pos (by omega), e2k]
        · rw [if_neg (ne0 w1 (by omega)), if_neg (ne4 w2 (by omega)), bq, m_keysIn (by omega) (by omega), bq]
          simp only [↓reduceIte, Bool.false_eq_true]
          unfold rdM
          rw [if_neg (by omega), if_neg w5]
      · rw [if_pos rfl]
        by_cases w1 : w = 0
        · subst w1
          rw [if_pos n00, bq, m_keysIn (by omega) (by omega), bq]
          simp only [↓reduceIte, Bool.false_eq_true]
          unfold wrM
          rw [if_pos (by omega)]
        · rw [if_neg (ne0 w1 (by omega)), bq, m_keysIn (by omega) (by omega), bq]
          simp only [↓reduceIte, Bool.false_eq_true]
          unfold wrM
          rw [if_neg (by omega), e2k]
/-- couples that are free -/
def fre (B : Nat → Nat → Nat) (x y : Nat) : Nat := if wrB B x (B 1 x) &&& (rdB B y (B 1 y) ||| wrB B y (B 1 y)) = 0 ∧ wrB B y (B 1 y) &&& (rdB B x (B 1 x) ||| wrB B x (B 1 x)) = 0 then 1 else 0
theorem fre_sym {B : Nat → Nat → Nat} {x y : Nat} : (wrB B x (B 1 x) &&& (wrB B y (B 1 y) ||| rdB B y (B 1 y))) ||| (wrB B y (B 1 y) &&& rdB B x (B 1 x)) = 0 ↔ wrB B y (B 1 y) &&& (rdB B x (B 1 x) ||| wrB B x (B 1 x)) = 0 ∧ wrB B x (B 1 x) &&& (rdB B y (B 1 y) ||| wrB B y (B 1 y)) = 0 := by
  rw [or_zero, and_or_zero, and_or_zero, and_or_zero, Nat.and_comm (wrB B y (B 1 y)) (wrB B x (B 1 x))]
  constructor
  · rintro ⟨⟨h1, h2⟩, h3⟩; exact ⟨⟨h3, h1⟩, h2, h1⟩
  · rintro ⟨⟨h1, h2⟩, h3, h4⟩; exact ⟨⟨h4, h3⟩, h1⟩
theorem and_lt {x y : Nat} (h : x < 1024) : x &&& y < 1024 := Nat.lt_of_le_of_lt Nat.and_le_left h
theorem c_free1 {a : Mem} {n x z0 : Nat} {B : Nat → Nat → Nat} (hB : BK a n B) (gB : okB B) (hx : x < B 0 0) : lX8_freeCouples_16 n (nI x) FU (nI z0) (nI (x + 1)) a = some (nI (z0 + sm (fun y => if x < y then fre B x y else 0) (B 0 0)), a) := by
  have g1 := gB.1
  have h0 : a n 0 = nI (B 0 0) := hB.1
  refine loop_k (fun f j s => lX8_freeCouples_16 n (nI x) f s (nI j) a) (B 0 0) (fun j s => x < j ∧ s = nI (z0 + sm (fun y => if x < y then fre B x y else 0) j)) (fun r => r = (nI (z0 + sm (fun y => if x < y then fre B x y else 0) (B 0 0)), a)) (show x + 1 ≤ B 0 0 by omega) (by omega) (s := nI z0) ⟨by omega, by rw [sm_zero _ (fun i hi => if_neg (by omega)), Nat.add_zero]⟩ ?_ ?_ ?_
  · rintro r e1 e2
    try dsimp only at e1
    rw [e1, e2]
  · rintro f s ⟨-, rfl⟩
    refine ⟨_, ?_, rfl⟩
    show lX8_freeCouples_16 _ _ _ _ _ _ = _
    rw [lX8_freeCouples_16, h0, if_pos (by rw [le_nn (by omega) (by omega)]; omega)]
  · rintro f y s hy ⟨hxy, rfl⟩
    refine ⟨_, ?_, by omega, rfl⟩
    show lX8_freeCouples_16 n (nI x) (f + 1) _ (nI y) a = lX8_freeCouples_16 n (nI x) f (nI (z0 + (sm (fun y => if x < y then fre B x y else 0) y + if x < y then fre B x y else 0))) (nI (y + 1)) a
    have wx := and_lt (y := rdB B y (B 1 y) ||| wrB B y (B 1 y)) (wrB_lt gB x (B 1 x))
    have wy := and_lt (y := rdB B x (B 1 x) ||| wrB B x (B 1 x)) (wrB_lt gB y (B 1 y))
    rw [lX8_freeCouples_16, h0, if_neg (by rw [le_nn (by omega) (by omega)]; omega)]
    simp only [c_readsOf hB gB hx, c_writesOf hB gB hx, c_readsOf hB gB hy, c_writesOf hB gB hy, bq, nI_or, nI_and]
    rw [if_pos hxy]
    unfold fre
    generalize wrB B x (B 1 x) &&& (rdB B y (B 1 y) ||| wrB B y (B 1 y)) = u at *
    generalize wrB B y (B 1 y) &&& (rdB B x (B 1 x) ||| wrB B x (B 1 x)) = v at *
    by_cases hu : u = 0
    · by_cases hv : v = 0
      · rw [if_pos (by rw [hu]; rfl), if_pos (by rw [hv]; rfl), bq, if_pos ⟨hu, hv⟩, nI_1, nI_1, Nat.add_assoc]
      · rw [if_pos (by rw [hu]; rfl), if_neg (ne0 hv (by omega)), bq, if_neg (fun z => hv z.2), Nat.add_zero, nI_1]
    · rw [if_neg (ne0 hu (by omega)), bq, if_neg (fun z => hu z.1), Nat.add_zero, nI_1]
theorem c_free {a : Mem} {n : Nat} {B : Nat → Nat → Nat} (hB : BK a n B) (gB : okB B) : fX8_freeCouples n a = some (nI (sm (fun x => sm (fun y => if x < y then fre B x y else 0) (B 0 0)) (B 0 0)), a) := by
  have g1 := gB.1
  have h0 : a n 0 = nI (B 0 0) := hB.1
  refine loop_k (fun f j s => lX8_freeCouples_4 n f s (nI j) a) (B 0 0) (fun j s => s = nI (sm (fun x => sm (fun y => if x < y then fre B x y else 0) (B 0 0)) j)) (fun r => r = (nI (sm (fun x => sm (fun y => if x < y then fre B x y else 0) (B 0 0)) (B 0 0)), a)) (Nat.zero_le _) (by omega) (s := nI 0) rfl ?_ ?_ ?_
  · rintro r e1 e2
    unfold fX8_freeCouples
    have e1' : lX8_freeCouples_4 n FU 0 0 a = some r := e1
    rw [e1', bq, e2]
  · rintro f s rfl
    refine ⟨_, ?_, rfl⟩
    show lX8_freeCouples_4 _ _ _ _ _ = _
    rw [lX8_freeCouples_4, h0, if_pos (by rw [le_nn (by omega) (by omega)]; omega)]
  · rintro f x s hx rfl
    refine ⟨_, ?_, rfl⟩
    show lX8_freeCouples_4 n (f + 1) _ (nI x) a = lX8_freeCouples_4 n f _ (nI (x + 1)) a
    rw [lX8_freeCouples_4, h0, if_neg (by rw [le_nn (by omega) (by omega)]; omega), nI_1, c_free1 hB gB hx, bq]
    rfl
theorem m_free1 {b : Mem} {n x z0 : Nat} {B : Nat → Nat → Nat} (hB : MB b B n) (hn : n < 2) (gB : okB B) (hx : x < B 0 0) : lX12_freeCouples_14 (nI x) FU (nI z0) (nI 0) b = some (nI (z0 + sm (fun y => fre B y x) x), b) := by
  have g1 := gB.1
  refine loop_k (fun f j s => lX12_freeCouples_14 (nI x) f s (nI j) b) x (fun j s => s = nI (z0 + sm (fun y => fre B y x) j)) (fun r => r = (nI (z0 + sm (fun y => fre B y x) x), b)) (Nat.zero_le _) (by omega) (s := nI z0) rfl ?_ ?_ ?_
  · rintro r e1 e2
    try dsimp only at e1
    rw [e1, e2]
  · rintro f s rfl
    refine ⟨_, ?_, rfl⟩
    show lX12_freeCouples_14 _ _ _ _ _ = _
    rw [lX12_freeCouples_14, if_pos (by rw [le_nn (by omega) (by omega)]; omega)]
  · rintro f y s hy rfl
    refine ⟨_, ?_, rfl⟩
    show lX12_freeCouples_14 (nI x) (f + 1) _ (nI y) b = lX12_freeCouples_14 (nI x) f (nI (z0 + (sm (fun y => fre B y x) y + fre B y x))) (nI (y + 1)) b
    have hyT : y < B 0 0 := by omega
    have wx := and_lt (y := wrB B y (B 1 y) ||| rdB B y (B 1 y)) (wrB_lt gB x (B 1 x))
    have wy := and_lt (y := rdB B x (B 1 x)) (wrB_lt gB y (B 1 y))
    have ww := Nat.or_lt_two_pow (n := 10) wx wy
    rw [lX12_freeCouples_14, if_neg (by rw [le_nn (by omega) (by omega)]; omega), nI_1]
    simp only [m_keysOf hB hn gB hx, m_keysOf hB hn gB hyT, bq, nI_or, nI_and, if_true, Bool.false_eq_true, if_false]
    unfold fre
    by_cases hu : (wrB B x (B 1 x) &&& (wrB B y (B 1 y) ||| rdB B y (B 1 y))) ||| (wrB B y (B 1 y) &&& rdB B x (B 1 x)) = 0
    · rw [if_pos (by rw [hu]; rfl), bq, if_pos (fre_sym.mp hu), b2T, nI_add, Nat.add_assoc]
    · rw [if_neg (ne0 hu (by omega)), bq, if_neg (fun z => hu (fre_sym.mpr z)), b2F, nI_add]; rfl
theorem m_free {b : Mem} {n : Nat} {B : Nat → Nat → Nat} (hB : MB b B n) (hn : n < 2) (gB : okB B) : fX12_freeCouples b = some (nI (sm (fun x => sm (fun y => fre B y x) x) (B 0 0)), b) := by
  have g1 := gB.1
  refine loop_k (fun f j s => lX12_freeCouples_4 f s (nI j) b) (B 0 0) (fun j s => s = nI (sm (fun x => sm (fun y => fre B y x) x) j)) (fun r => r = (nI (sm (fun x => sm (fun y => fre B y x) x) (B 0 0)), b)) (Nat.zero_le _) (by omega) (s := nI 0) rfl ?_ ?_ ?_
  · rintro r e1 e2
    unfold fX12_freeCouples
    have e1' : lX12_freeCouples_4 FU 0 0 b = some r := e1
    rw [e1', bq, e2]
  · rintro f s rfl
    refine ⟨_, ?_, rfl⟩
    show lX12_freeCouples_4 _ _ _ _ = _
    rw [lX12_freeCouples_4, hB.2.1, if_pos (by rw [le_nn (by omega) (by omega)]; omega)]
  · rintro f x s hx rfl
    refine ⟨_, ?_, rfl⟩
    show lX12_freeCouples_4 (f + 1) _ (nI x) b = lX12_freeCouples_4 f _ (nI (x + 1)) b
    rw [lX12_freeCouples_4, hB.2.1, if_neg (by rw [le_nn (by omega) (by omega)]; omega), nI_1, show (0 : Int32) = nI 0 from rfl, m_free1 hB hn gB hx, bq]
    rfl
def blB (B : Nat → Nat → Nat) (t : Nat) : Nat := if wrB B t (B 1 t) ≠ 0 ∧ rdB B t (B 1 t) = 0 then 2 ^ t else 0
theorem c_blinds {a : Mem} {n : Nat} {B : Nat → Nat → Nat} (hB : BK a n B) (gB : okB B) : fX8_blinds n a = some (nI (itr (fun t s => s ||| blB B t) 0 (B 0 0) 0), a) := by
  have g1 := gB.1
  have h0 : a n 0 = nI (B 0 0) := hB.1
  refine loop_k (fun f j s => lX8_blinds_4 n f s (nI j) a) (B 0 0) (fun j s => s = nI (itr (fun t s => s ||| blB B t) 0 j 0)) (fun r => r = (nI (itr (fun t s => s ||| blB B t) 0 (B 0 0) 0), a)) (Nat.zero_le _) (by omega) (s := nI 0) rfl ?_ ?_ ?_
  · rintro r e1 e2
    unfold fX8_blinds
    have e1' : lX8_blinds_4 n FU 0 0 a = some r := e1
    rw [e1', bq, e2]
  · rintro f s rfl
    refine ⟨_, ?_, rfl⟩
    show lX8_blinds_4 _ _ _ _ _ = _
    rw [lX8_blinds_4, h0, if_pos (by rw [le_nn (by omega) (by omega)]; omega)]
  · rintro f x s hx rfl
    refine ⟨_, ?_, rfl⟩
    show lX8_blinds_4 n (f + 1) _ (nI x) a = lX8_blinds_4 n f _ (nI (x + 1)) a
    have wx := wrB_lt gB x (B 1 x)
    have rx := rdB_lt gB x (B 1 x)
    rw [lX8_blinds_4, h0, if_neg (by rw [le_nn (by omega) (by omega)]; omega), nI_1, c_writesOf hB gB hx, bq, itr_S]
    dsimp only
    rw [c_readsOf hB gB hx, bq]
    dsimp only
    unfold blB
    by_cases hu : wrB B x (B 1 x) = 0
    · rw [if_pos (by rw [hu]; rfl), bq, if_neg (fun z => z.1 hu), Nat.or_zero]
    · rw [if_neg (ne0 hu (by omega))]
      by_cases hv : rdB B x (B 1 x) = 0
      · rw [if_pos (by rw [hv]; rfl), bq, sh1 (by omega), nI_or, if_pos ⟨hu, hv⟩]
      · rw [if_neg (ne0 hv (by omega)), bq, if_neg (fun z => hv z.2), Nat.or_zero]
theorem m_blinds {b : Mem} {n : Nat} {B : Nat → Nat → Nat} (hB : MB b B n) (hn : n < 2) (gB : okB B) : lX12_free_38 FU 0 0 b = some (nI (itr (fun t s => s ||| blB B t) 0 (B 0 0) 0), b) := by
  have g1 := gB.1
  refine loop_k (fun f j s => lX12_free_38 f s (nI j) b) (B 0 0) (fun j s => s = nI (itr (fun t s => s ||| blB B t) 0 j 0)) (fun r => r = (nI (itr (fun t s => s ||| blB B t) 0 (B 0 0) 0), b)) (Nat.zero_le _) (by omega) (s := nI 0) rfl ?_ ?_ ?_
  · rintro r e1 e2
    have e1' : lX12_free_38 FU 0 0 b = some r := e1
    rw [e1', e2]
  · rintro f s rfl
    refine ⟨_, ?_, rfl⟩
    show lX12_free_38 _ _ _ _ = _
    rw [lX12_free_38, hB.2.1, if_pos (by rw [le_nn (by omega) (by omega)]; omega)]
  · rintro f x s hx rfl
    refine ⟨_, ?_, rfl⟩
    show lX12_free_38 (f + 1) _ (nI x) b = lX12_free_38 f _ (nI (x + 1)) b
    have wx := wrB_lt gB x (B 1 x)
    have rx := rdB_lt gB x (B 1 x)
    have kt : fX12_keysOf (nI x) true b = some (nI (wrB B x (B 1 x)), b) := m_keysOf hB hn gB hx true
    have kf : fX12_keysOf (nI x) false b = some (nI (rdB B x (B 1 x)), b) := m_keysOf hB hn gB hx false
    rw [lX12_free_38, hB.2.1, if_neg (by rw [le_nn (by omega) (by omega)]; omega), nI_1, kt, bq, itr_S]
    dsimp only
    rw [kf, bq]
    dsimp only
    unfold blB
    by_cases hu : wrB B x (B 1 x) = 0
    · rw [if_pos (by rw [hu]; rfl), bq, if_neg (fun z => z.1 hu), show (0 : Int32) = nI 0 from rfl, nI_or]
    · rw [if_neg (ne0 hu (by omega))]
      by_cases hv : rdB B x (B 1 x) = 0
      · rw [if_pos (by rw [hv]; rfl), bq, sh1 (by omega), nI_or, if_pos ⟨hu, hv⟩]
      · rw [if_neg (ne0 hv (by omega)), bq, if_neg (fun z => hv z.2), show (0 : Int32) = nI 0 from rfl, nI_or]
/-- the book behind hasBook -/
theorem MB.hb {b : Mem} {B : Nat → Nat → Nat} {k : Nat} (h : MBk (fun i => b 276 (134 * k + i)) B) : MB (st2 (st2 (st2 b 269 0 0) 269 24 (nI k)) 269 27 (nI (B 0 0))) B k := by
  refine ⟨by rw [st2_o _ _ (by omega), st2_eq], by rw [st2_eq], ?_⟩
  rw [st2_c _ _ (by omega), st2_c _ _ (by omega), st2_c _ _ (by omega)]
  exact h
theorem p_keys (x y z : Int32) : PAIR (fX11_keys x y z) (fX12_keys x y z) := PAIR.q (fun a b hR => by
  have e0 : ∀ n, n ≠ 269 → (st2 b 269 0 0) n = b n := fun n hn => by rw [st2_c _ _ hn]
  by_cases hx : ∃ k : Nat, k < 2 ∧ x = nI k ∧ nI k < a 3 1
  · obtain ⟨k, hk, rfl, hm⟩ := hx
    have g1 : fX9_has 1 1 (nI k) a = some (true, a) := (has_pos hR (s := 1) (by omega) hk hm).1
    obtain ⟨B, gB, hC, hB⟩ := book_at hR hk hm
    have g2 := m_hasBook hR hk hm hB e0
    have hM := MB.hb hB
    have hK : BK a (10 + 14 * k) B := hC
    have o1 := gB.1
    have e1 : ∀ n, n ≠ 269 → (st2 (st2 (st2 b 269 0 0) 269 24 (nI k)) 269 27 (nI (B 0 0))) n = b n := fun n hn => by rw [st2_c _ _ hn, st2_c _ _ hn, st2_c _ _ hn]
    unfold fX11_keys fX12_keys
    rw [g1, g2, bq, bq]
    dsimp only
    rw [if_pos rfl, if_pos rfl, inb_T hk (by omega), gdT, nI_ck (by omega)]
    generalize st2 (st2 (st2 b 269 0 0) 269 24 (nI k)) 269 27 (nI (B 0 0)) = b1 at *
    have f1 : f269 b b1 := e1
    rcases c_holds hC.1 o1 y with ⟨f2, f3⟩ | ⟨t, ht, rfl, f2⟩
    · rw [f2, m_noTask hM.2.1 o1 f3, bq, bq]
      exact ⟨_, _, _, rfl, rfl, frC.rf, f1.M, tC.rf, f1.t⟩
    · rw [f2, m_isTask hM.2.1 o1 ht, bq, bq]
      dsimp only
      rw [if_pos rfl, if_pos rfl, f_in, bq]
      dsimp only
      by_cases z0 : z = 0
      · subst z0
        rw [if_pos rfl, if_pos (by decide), if_neg (by decide), gdT, c_readsOf hK gB ht, m_keysOf hM hk gB ht]
        exact ⟨_, _, _, rfl, rfl, frC.rf, f1.M, tC.rf, f1.t⟩
      · by_cases z1 : z = 1
        · subst z1
          rw [if_neg z0, if_pos rfl, if_pos (by decide), if_pos rfl, gdT, c_writesOf hK gB ht, m_keysOf hM hk gB ht]
          exact ⟨_, _, _, rfl, rfl, frC.rf, f1.M, tC.rf, f1.t⟩
        · rw [if_neg z0, if_neg z1, if_neg]
          · exact ⟨_, _, _, rfl, rfl, frC.rf, f1.M, tC.rf, f1.t⟩
          · rw [decide_eq_true_eq]
            rintro ⟨u1, u2⟩
            obtain ⟨i, hi, rfl⟩ := nI_of u1
            rw [li0, eq_nn (by omega) (by omega)] at z0
            rw [li1, eq_nn (by omega) (by omega)] at z1
            rw [li1, lt_nn (by omega) (by omega)] at u2
            omega
  · have g1 : fX9_has 1 1 x a = some (false, a) := (has_neg hR (s := 1) (by omega) hx).1
    have g2 := m_noBook hR hx e0
    exact fin_q (f := fX11_keys x y z) (g := fX12_keys x y z) (by unfold fX11_keys; rw [g1]; rfl) (by unfold fX12_keys; rw [g2]; rfl) rfl (fun n hn => by show st2 (st2 b 269 0 0) 269 24 x n = b n; rw [st2_c _ _ hn, st2_c _ _ hn]))
theorem p_free (x z : Int32) : PAIR (fX11_free x z) (fX12_free x z) := PAIR.q (fun a b hR => by
  have e0 : ∀ n, n ≠ 269 → (st2 b 269 0 0) n = b n := fun n hn => by rw [st2_c _ _ hn]
  by_cases hx : ∃ k : Nat, k < 2 ∧ x = nI k ∧ nI k < a 3 1
  · obtain ⟨k, hk, rfl, hm⟩ := hx
    have g1 : fX9_has 1 1 (nI k) a = some (true, a) := (has_pos hR (s := 1) (by omega) hk hm).1
    obtain ⟨B, gB, hC, hB⟩ := book_at hR hk hm
    have g2 := m_hasBook hR hk hm hB e0
    have hM := MB.hb hB
    have hK : BK a (10 + 14 * k) B := hC
    have e1 : ∀ n, n ≠ 269 → (st2 (st2 (st2 b 269 0 0) 269 24 (nI k)) 269 27 (nI (B 0 0))) n = b n := fun n hn => by rw [st2_c _ _ hn, st2_c _ _ hn, st2_c _ _ hn]
    unfold fX11_free fX12_free
    rw [g1, g2, bq, bq]
    dsimp only
    rw [if_pos rfl, if_pos rfl, inb_T hk (by omega), gdT, gdT, nI_ck (by omega)]
    generalize st2 (st2 (st2 b 269 0 0) 269 24 (nI k)) 269 27 (nI (B 0 0)) = b1 at *
    have f1 : f269 b b1 := e1
    rw [f_in, bq]
    dsimp only
    by_cases z0 : z = 0
    · subst z0
      rw [if_pos rfl, if_pos (by decide), if_pos rfl, c_free hK gB, m_free hM hk gB, sm_tri]
      exact ⟨_, _, _, rfl, rfl, frC.rf, f1.M, tC.rf, f1.t⟩
    · by_cases z1 : z = 1
      · subst z1
        rw [if_neg z0, if_pos rfl, if_pos (by decide), if_neg z0, c_blinds hK gB, m_blinds hM hk gB]
        exact ⟨_, _, _, rfl, rfl, frC.rf, f1.M, tC.rf, f1.t⟩
      · rw [if_neg z0, if_neg z1, if_neg]
        · exact ⟨_, _, _, rfl, rfl, frC.rf, f1.M, tC.rf, f1.t⟩
        · rw [decide_eq_true_eq]
          rintro ⟨u1, u2⟩
          obtain ⟨i, hi, rfl⟩ := nI_of u1
          rw [li0, eq_nn (by omega) (by omega)] at z0
          rw [li1, eq_nn (by omega) (by omega)] at z1
          rw [li1, lt_nn (by omega) (by omega)] at u2
          omega
  · have g1 : fX9_has 1 1 x a = some (false, a) := (has_neg hR (s := 1) (by omega) hx).1
    have g2 := m_noBook hR hx e0
    exact fin_q (f := fX11_free x z) (g := fX12_free x z) (by unfold fX11_free; rw [g1]; rfl) (by unfold fX12_free; rw [g2]; rfl) rfl (fun n hn => by show st2 (st2 b 269 0 0) 269 24 x n = b n; rw [st2_c _ _ hn, st2_c _ _ hn]))
