/-! ===== text: tokens of the reference ===== -/
def MIt (b : Mem) (T : Nat → Nat) (n i : Nat) : Prop := MT b T ∧ b 269 11 = nI n ∧ b 269 10 = nI i
def sI (T : Nat → Nat) (n i : Nat) : Int32 := if n ≤ i then -1 else nI (T i)
theorem m_see {b : Mem} {T : Nat → Nat} {n i : Nat} (hn : n ≤ 600) (hi : i ≤ n) (h : MIt b T n i) : fX12_see b = some (sI T n i, b) := by
  obtain ⟨hT, h1, h2⟩ := h
  unfold fX12_see sI
  rw [h1, h2]
  by_cases z : n ≤ i
  · rw [if_pos (by rw [le_nn (by omega) (by omega)]; exact z), if_pos z]
  · rw [if_neg (by rw [le_nn (by omega) (by omega)]; exact z), if_neg z, inb_T (show i < 2400 by omega) (by omega), gdT, nI_ck (by omega), hT i (by omega)]
theorem sI_end {T : Nat → Nat} {n i : Nat} (h : n ≤ i) : sI T n i = -1 := if_pos h
theorem sI_in {T : Nat → Nat} {n i : Nat} (h : i < n) : sI T n i = nI (T i) := if_neg (by omega)
theorem sI_lt {T : Nat → Nat} {n i : Nat} (oT : okT T) (h : i ≤ n) : decide (¬ sI T n i < 97 ∧ ¬ (122 : Int32) < sI T n i) = (decide (i < n) && lt T i) := by
  by_cases z : i < n
  · have := oT i
    rw [sI_in z, decide_eq_true z, Bool.true_and]
    unfold lt
    rw [show (97 : Int32) = nI 97 from rfl, show (122 : Int32) = nI 122 from rfl]
    refine decide_eq_decide.mpr ?_
    rw [lt_nn (by omega) (by omega), lt_nn (by omega) (by omega)]; omega
  · rw [sI_end (by omega), decide_eq_false z]; rfl
theorem sI_dg {T : Nat → Nat} {n i : Nat} (oT : okT T) (h : i ≤ n) : decide (¬ sI T n i < 48 ∧ ¬ (57 : Int32) < sI T n i) = (decide (i < n) && dg T i) := by
  by_cases z : i < n
  · have := oT i
    rw [sI_in z, decide_eq_true z, Bool.true_and]
    unfold dg
    rw [show (48 : Int32) = nI 48 from rfl, show (57 : Int32) = nI 57 from rfl]
    refine decide_eq_decide.mpr ?_
    rw [lt_nn (by omega) (by omega), lt_nn (by omega) (by omega)]; omega
  · rw [sI_end (by omega), decide_eq_false z]; rfl
def frm (js : Nat → Prop) (b b' : Mem) : Prop := (∀ j, ¬ js j → b' 269 j = b 269 j) ∧ ∀ m, m ≠ 269 → b' m = b m
theorem frm.tr {js : Nat → Prop} {b b' b'' : Mem} (h : frm js b b') (h2 : frm js b' b'') : frm js b b'' := ⟨fun j hj => (h2.1 j hj).trans (h.1 j hj), fun m hm => (h2.2 m hm).trans (h.2 m hm)⟩
theorem frm.st {js : Nat → Prop} {b : Mem} {k : Nat} {v : Int32} (h : js k) : frm js b (st2 b 269 k v) := ⟨fun j hj => st2_o _ _ (fun q => hj (by rw [q.2]; exact h)), fun m hm => st2_c _ _ hm⟩
theorem frm.rf {js : Nat → Prop} {b : Mem} : frm js b b := ⟨fun _ _ => rfl, fun _ _ => rfl⟩
theorem frm.mono {js ks : Nat → Prop} {b b' : Mem} (h : frm js b b') (e : ∀ j, js j → ks j) : frm ks b b' := ⟨fun j hj => h.1 j (fun z => hj (e j z)), h.2⟩
theorem MT.c {b b' : Mem} {T : Nat → Nat} (h : MT b T) (e : b' 270 = b 270) : MT b' T := fun i hi => by rw [e]; exact h i hi
theorem m_skip {T : Nat → Nat} {n : Nat} (oT : okT T) (hn : n ≤ 600) : ∀ k g i (b : Mem), n - i = k → k < g → i ≤ n → MIt b T n i → ∃ b', lX12_token_0 g b = some b' ∧ MIt b' T n (adT (bl T) n i) ∧ frm (fun j => j = 10) b b' := by
  intro k
  induction k with
  | zero =>
    intro g i b h1 h2 h3 hM
    obtain ⟨g, rfl⟩ : ∃ m, g = m + 1 := ⟨g - 1, by omega⟩
    rw [lX12_token_0, m_see hn h3 hM, bq, sI_end (by omega)]
    dsimp only
    rw [if_neg (by decide), m_see hn h3 hM, bq, sI_end (by omega)]
    dsimp only
    rw [if_neg (by decide), adT_end (by omega)]
    exact ⟨b, rfl, hM, frm.rf⟩
  | succ k ih =>
    intro g i b h1 h2 h3 hM
    obtain ⟨g, rfl⟩ : ∃ m, g = m + 1 := ⟨g - 1, by omega⟩
    have hi : i < n := by omega
    have oi := oT i
    have hrec : bl T i = true → ∃ b', lX12_token_0 g (st2 b 269 10 (b 269 10 + 1)) = some b' ∧ MIt b' T n (adT (bl T) n i) ∧ frm (fun j => j = 10) b b' := fun hb => by
      obtain ⟨b', r1, r2, r3⟩ := ih g (i + 1) (st2 b 269 10 (b 269 10 + 1)) (by omega) (by omega) (by omega) ⟨hM.1.c (st2_c _ _ (by omega)), by rw [st2_o _ _ (by omega)]; exact hM.2.1, by rw [st2_eq, hM.2.2, nI_1]⟩
      exact ⟨b', r1, by rw [adT_yes hi hb]; exact r2, (frm.st (js := fun j => j = 10) rfl).tr r3⟩
    rw [lX12_token_0, m_see hn h3 hM, bq, sI_in hi]
    dsimp only
    by_cases z : T i = 10
    · rw [if_pos (by rw [z]; rfl)]
      exact hrec (decide_eq_true (Or.inr z))
    · rw [if_neg (show ¬ nI (T i) = 10 from lit_ne (m := 10) z (by omega) (by omega)), m_see hn h3 hM, bq, sI_in hi]
      dsimp only
      by_cases z2 : T i = 32
      · rw [if_pos (by rw [z2]; rfl)]
        exact hrec (decide_eq_true (Or.inl z2))
      · rw [if_neg (show ¬ nI (T i) = 32 from lit_ne (m := 32) z2 (by omega) (by omega)), adT_no (decide_eq_false (fun q => q.elim z2 z))]
        exact ⟨b, rfl, hM, frm.rf⟩
/-! words as numbers -/
def wc (T : Nat → Nat) (p : Nat) : Nat → Nat
  | 0 => 0
  | k + 1 => wc T p k * 256 + T (p + k)
theorem wc_b {T : Nat → Nat} {p : Nat} (hT : ∀ j, T j < 256) : ∀ k, wc T p k < 256 ^ k
  | 0 => by show 0 < 1; omega
  | k + 1 => by
    have := wc_b (p := p) hT k
    have h2 := hT (p + k)
    show wc T p k * 256 + T (p + k) < 256 ^ (k + 1)
    rw [Nat.pow_succ]; omega
theorem wc_b2 {T : Nat → Nat} {p : Nat} (hT : ∀ j, T j < 256) (h0 : T p < 128) : ∀ k, wc T p (k + 1) < 128 * 256 ^ k
  | 0 => by show 0 * 256 + T (p + 0) < 128 * 1; rw [Nat.add_zero]; omega
  | k + 1 => by
    have := wc_b2 hT h0 k
    have h2 := hT (p + (k + 1))
    show wc T p (k + 1) * 256 + T (p + (k + 1)) < 128 * 256 ^ (k + 1)
    rw [Nat.pow_succ]; omega
theorem wc_inj {T U : Nat → Nat} {p q : Nat} : ∀ L M, (∀ j, j < L → 1 ≤ T (p + j) ∧ T (p + j) < 256) → (∀ j, j < M → 1 ≤ U (q + j) ∧ U (q + j) < 256) → wc T p L = wc U q M → L = M ∧ ∀ j, j < L → T (p + j) = U (q + j)
  | 0, 0, _, _, _ => ⟨rfl, fun j hj => absurd hj (by omega)⟩
  | 0, M + 1, _, h2, h => by
    have h' : 0 = wc U q M * 256 + U (q + M) := h
    have := h2 M (by omega)
    omega
  | L + 1, 0, h1, _, h => by
    have h' : wc T p L * 256 + T (p + L) = 0 := h
    have := h1 L (by omega)
    omega
  | L + 1, M + 1, h1, h2, h => by
    have h' : wc T p L * 256 + T (p + L) = wc U q M * 256 + U (q + M) := h
    have g1 := h1 L (by omega)
    have g2 := h2 M (by omega)
    obtain ⟨e1, e2⟩ := wc_inj L M (fun j hj => h1 j (by omega)) (fun j hj => h2 j (by omega)) (by omega)
    refine ⟨by omega, fun j hj => ?_⟩
    by_cases e : j = L
    · have e3 : T (p + L) = U (q + M) := by omega
      rw [e, e3, e1]
    · exact e2 j (by omega)
theorem i64_d : ∀ d, d < 256 → Int32.toInt64 (nI d) = Int64.ofNat d := by decide +kernel
theorem l64 {A d : Nat} (hA : A < 2 ^ 55) (hd : d < 256) : ((Int64.ofNat A) <<< (Int32.toInt64 8 &&& 63)) ||| Int32.toInt64 (nI d) = Int64.ofNat (A * 256 + d) := by
  rw [i64_d d hd, show (Int32.toInt64 8 &&& 63 : Int64) = 8 from rfl]
  apply Int64.toBitVec_inj.mp
  rw [Int64.toBitVec_or, Int64.toBitVec_shiftLeft]
  apply BitVec.eq_of_toNat_eq
  simp only [Int64.toBitVec_ofNat', BitVec.toNat_or, BitVec.toNat_ofNat]
  have e8 : ((8 : Int64).toBitVec.smod 64) = 8#64 := by decide
  have h1 : A % 2 ^ 64 = A := Nat.mod_eq_of_lt (by omega)
  have h2 : d % 2 ^ 64 = d := Nat.mod_eq_of_lt (by omega)
  have h3 : (A * 256 + d) % 2 ^ 64 = A * 256 + d := Nat.mod_eq_of_lt (by omega)
  rw [h2, h3, e8, BitVec.shiftLeft_eq', BitVec.toNat_shiftLeft, BitVec.toNat_ofNat, h1, show (8#64).toNat = 8 from rfl, Nat.shiftLeft_eq, Nat.mod_eq_of_lt (by omega), ← Nat.shiftLeft_eq, ← Nat.shiftLeft_add_eq_or_of_lt (by omega : d < 2 ^ 8), Nat.shiftLeft_eq]
theorem i64_eq {A B : Nat} (hA : A < 2 ^ 63) (hB : B < 2 ^ 63) : Int64.ofNat A = Int64.ofNat B ↔ A = B := by
  constructor
  · intro h
    have h' := congrArg (fun x : Int64 => x.toBitVec.toNat) h
    simp only [Int64.toBitVec_ofNat', BitVec.toNat_ofNat] at h'
    rw [Nat.mod_eq_of_lt (by omega), Nat.mod_eq_of_lt (by omega)] at h'
    exact h'
  · intro h; rw [h]
/-- the word from p to e -/
def wd6 (T : Nat → Nat) (p L : Nat) : Int64 := if L ≤ 8 then Int64.ofNat (wc T p L) else 0
def wdM (b : Mem) : Int64 := lgJ (b 269 15) (b 269 1015)
def jW (j : Nat) : Prop := j = 10 ∨ j = 15 ∨ j = 1015
theorem m_let {T : Nat → Nat} {n p : Nat} (oT : okT T) (hn : n ≤ 600) : ∀ k g i (b : Mem), n - i = k → k < g → p ≤ i → i ≤ n → (∀ j, p ≤ j → j < i → T j < 128) → MIt b T n i → (i - p ≤ 8 → wdM b = Int64.ofNat (wc T p (i - p))) → ∃ b', lX12_token_74 g (nI (i - p)) b = some (nI (adT (lt T) n i - p), b') ∧ MIt b' T n (adT (lt T) n i) ∧ (adT (lt T) n i - p ≤ 8 → wdM b' = Int64.ofNat (wc T p (adT (lt T) n i - p))) ∧ frm jW b b' := by
  intro k
  induction k with
  | zero =>
    intro g i b h1 h2 hp h3 hl hM hw
    obtain ⟨g, rfl⟩ : ∃ m, g = m + 1 := ⟨g - 1, by omega⟩
    rw [lX12_token_74, m_see hn h3 hM, bq]
    dsimp only
    rw [f_in, bq, sI_lt oT h3, decide_eq_false (by omega), Bool.false_and]
    dsimp only
    rw [if_neg (by decide), adT_end (by omega)]
    exact ⟨b, rfl, hM, hw, frm.rf⟩
  | succ k ih =>
    intro g i b h1 h2 hp h3 hl hM hw
    obtain ⟨g, rfl⟩ : ∃ m, g = m + 1 := ⟨g - 1, by omega⟩
    have hi : i < n := by omega
    have oi := oT i
    rw [lX12_token_74, m_see hn h3 hM, bq]
    dsimp only
    rw [f_in, bq, sI_lt oT h3, decide_eq_true hi, Bool.true_and]
    dsimp only
    cases z : lt T i
    · rw [if_neg (by decide), adT_no z]
      exact ⟨b, rfl, hM, hw, frm.rf⟩
    · have zl : 97 ≤ T i ∧ T i ≤ 122 := of_decide_eq_true z
      rw [if_pos rfl, m_see hn h3 hM, bq, sI_in hi]
      dsimp only
      rw [bq]
      generalize hv : ((lgJ (b 269 15) (b 269 1015)) <<< (Int32.toInt64 8 &&& 63)) ||| (Int32.toInt64 (nI (T i))) = v
      have hb1 : (st2 (st2 b 269 1015 (lgL v)) 269 15 (lgH v)) 269 10 = nI i := by rw [st2_o _ _ (by omega), st2_o _ _ (by omega)]; exact hM.2.2
      rw [hb1, nI_1, nI_1, show i - p + 1 = i + 1 - p by omega, adT_yes hi z]
      obtain ⟨b', r1, r2, r3, r4⟩ := ih g (i + 1) (st2 (st2 (st2 b 269 1015 (lgL v)) 269 15 (lgH v)) 269 10 (nI (i + 1))) (by omega) (by omega) (by omega) (by omega) (fun j j1 j2 => by
        by_cases e : j = i
        · rw [e]; omega
        · exact hl j j1 (by omega)) ⟨hM.1.c (by rw [st2_c _ _ (by omega), st2_c _ _ (by omega), st2_c _ _ (by omega)]), by rw [st2_o _ _ (by omega), st2_o _ _ (by omega), st2_o _ _ (by omega)]; exact hM.2.1, st2_eq _ _ _ _⟩ (fun h8 => by
        have e1 : wdM (st2 (st2 (st2 b 269 1015 (lgL v)) 269 15 (lgH v)) 269 10 (nI (i + 1))) = v := by
          unfold wdM
          rw [st2_o _ _ (by omega), st2_eq, st2_o _ _ (show ¬ (269 = 269 ∧ 1015 = 10) by omega), st2_o _ _ (show ¬ (269 = 269 ∧ 1015 = 15) by omega), st2_eq, lgJ_HL]
        have e2 : lgJ (b 269 15) (b 269 1015) = Int64.ofNat (wc T p (i - p)) := hw (by omega)
        have hb : wc T p (i - p) < 256 ^ (i - p) := wc_b oT (i - p)
        have hb2 : 256 ^ (i - p) ≤ 256 ^ 7 := Nat.pow_le_pow_right (by decide) (by omega)
        rw [e1, ← hv, e2]
        by_cases hz : i - p = 0
        · rw [hz]
          rw [l64 (by show 0 < _; decide) oi, show i + 1 - p = 0 + 1 by omega]
          show Int64.ofNat (0 * 256 + T i) = Int64.ofNat (0 * 256 + T (p + 0))
          rw [show p + 0 = i by omega]
        · have hb3 : wc T p (i - p) < 2 ^ 55 := by
            obtain ⟨m, hm⟩ : ∃ m, i - p = m + 1 := ⟨i - p - 1, by omega⟩
            have t1 := wc_b2 (p := p) oT (hl p (by omega) (by omega)) m
            have t2 : 256 ^ m ≤ 256 ^ 6 := Nat.pow_le_pow_right (by decide) (by omega)
            rw [hm]
            have t3 : 128 * 256 ^ 6 = 2 ^ 55 := by decide
            omega
          rw [l64 hb3 oi, show i + 1 - p = (i - p) + 1 by omega]
          show _ = Int64.ofNat (wc T p (i - p) * 256 + T (p + (i - p)))
          rw [show p + (i - p) = i by omega])
      exact ⟨b', r1, r2, r3, (((frm.st (js := jW) (Or.inr (Or.inr rfl))).tr (frm.st (js := jW) (Or.inr (Or.inl rfl)))).tr (frm.st (js := jW) (Or.inl rfl))).tr r4⟩
def jN (j : Nat) : Prop := j = 10 ∨ j = 14
theorem m_num {T : Nat → Nat} {n p : Nat} (oT : okT T) (hn : n ≤ 600) : ∀ k g i (b : Mem), n - i = k → k < g → p ≤ i → i ≤ n → MIt b T n i → (i - p ≤ 2 → b 269 14 = nI (nd T p (i - p))) → ∃ b', lX12_token_163 g (nI (i - p)) b = some (nI (adT (dg T) n i - p), b') ∧ MIt b' T n (adT (dg T) n i) ∧ (adT (dg T) n i - p ≤ 2 → b' 269 14 = nI (nd T p (adT (dg T) n i - p))) ∧ frm jN b b' := by
  intro k
  induction k with
  | zero =>
    intro g i b h1 h2 hp h3 hM hw
    obtain ⟨g, rfl⟩ : ∃ m, g = m + 1 := ⟨g - 1, by omega⟩
    rw [lX12_token_163, m_see hn h3 hM, bq]
    dsimp only
    rw [f_in, bq, sI_dg oT h3, decide_eq_false (by omega), Bool.false_and]
    dsimp only
    rw [if_neg (by decide), adT_end (by omega)]
    exact ⟨b, rfl, hM, hw, frm.rf⟩
  | succ k ih =>
    intro g i b h1 h2 hp h3 hM hw
    obtain ⟨g, rfl⟩ : ∃ m, g = m + 1 := ⟨g - 1, by omega⟩
    have hi : i < n := by omega
    have oi := oT i
    rw [lX12_token_163, m_see hn h3 hM, bq]
    dsimp only
    rw [f_in, bq, sI_dg oT h3, decide_eq_true hi, Bool.true_and]
    dsimp only
    cases z : dg T i
    · rw [if_neg (by decide), adT_no z]
      exact ⟨b, rfl, hM, hw, frm.rf⟩
    · have zl : 48 ≤ T i ∧ T i ≤ 57 := of_decide_eq_true z
      have hq : ∃ x : Int32, ((if (2 : Int32) ≤ nI (i - p) then (some ((b 269 14), b)) else ((fX12_see b).bind fun q27 => some (((((10 : Int32) * (b 269 14)) + q27.1) - 48), q27.2))) : Option (Int32 × Mem)) = some (x, b) ∧ (i + 1 - p ≤ 2 → x = nI (nd T p (i + 1 - p))) := by
        by_cases h : 2 ≤ i - p
        · exact ⟨_, if_pos (by rw [show (2 : Int32) = nI 2 from rfl, le_nn (by omega) (by omega)]; exact h), fun q => absurd q (by omega)⟩
        · refine ⟨_, by rw [if_neg (by rw [show (2 : Int32) = nI 2 from rfl, le_nn (by omega) (by omega)]; exact h), m_see hn h3 hM, bq], fun _ => ?_⟩
          rw [sI_in hi, hw (by omega), show (10 : Int32) = nI 10 from rfl, pk_mul, nI_add, show (48 : Int32) = nI 48 from rfl, nI_sub (by omega), show i + 1 - p = (i - p) + 1 by omega]
          show _ = nI (nd T p (i - p) * 10 + (T (p + (i - p)) - 48))
          rw [show p + (i - p) = i by omega]
          congr 1
          omega
      obtain ⟨x, x1, x2⟩ := hq
      rw [if_pos rfl, x1, bq]
      dsimp only
      have hb1 : (st2 b 269 14 x) 269 10 = nI i := by rw [st2_o _ _ (by omega)]; exact hM.2.2
      rw [hb1, nI_1, nI_1, show i - p + 1 = i + 1 - p by omega, adT_yes hi z]
      obtain ⟨b', r1, r2, r3, r4⟩ := ih g (i + 1) (st2 (st2 b 269 14 x) 269 10 (nI (i + 1))) (by omega) (by omega) (by omega) (by omega) ⟨hM.1.c (by rw [st2_c _ _ (by omega), st2_c _ _ (by omega)]), by rw [st2_o _ _ (by omega), st2_o _ _ (by omega)]; exact hM.2.1, st2_eq _ _ _ _⟩ (fun h8 => by rw [st2_o _ _ (by omega), st2_eq]; exact x2 h8)
      exact ⟨b', r1, r2, r3, ((frm.st (js := jN) (Or.inr rfl)).tr (frm.st (js := jN) (Or.inl rfl))).tr r4⟩
