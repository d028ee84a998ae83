/-! ===== serial: rows of commits ===== -/
def gL (l : List Nat) (i : Nat) : Nat := l[i]?.getD 0
theorem gL_l {l r : List Nat} {i : Nat} (h : i < l.length) : gL (l ++ r) i = gL l i := by unfold gL; rw [List.getElem?_append_left h]
theorem gL_r {l : List Nat} {x : Nat} : gL (l ++ [x]) l.length = x := by unfold gL; rw [List.getElem?_append_right (Nat.le_refl _), Nat.sub_self]; rfl
/-- the commits that are left -/
def kpt (X : F2) : Nat → List Nat
  | 0 => []
  | m + 1 => if X (174 + 2 * m) 9 = 0 then kpt X m ++ [m] else kpt X m
theorem kpt_len {X : F2} : ∀ m, (kpt X m).length ≤ m
  | 0 => Nat.le_refl _
  | m + 1 => by
    have := kpt_len (X := X) m
    unfold kpt
    split
    · rw [List.length_append]; show _ + 1 ≤ _; omega
    · omega
theorem kpt_lt {X : F2} {i : Nat} : ∀ m, i < (kpt X m).length → gL (kpt X m) i < m ∧ X (174 + 2 * gL (kpt X m) i) 9 = 0
  | 0, h => absurd h (by show ¬ i < 0; omega)
  | m + 1, h => by
    have ih := kpt_lt (X := X) (i := i) m
    unfold kpt at h ⊢
    split
    · rename_i z
      rw [if_pos z, List.length_append] at h
      have h' : i < (kpt X m).length + 1 := h
      by_cases e : i < (kpt X m).length
      · rw [gL_l e]; have := ih e; exact ⟨by omega, this.2⟩
      · have e' : i = (kpt X m).length := by omega
        rw [e', gL_r]; exact ⟨by omega, z⟩
    · rename_i z
      rw [if_neg z] at h
      have := ih h
      exact ⟨by omega, this.2⟩
theorem c_gather {a : Mem} {X B : F2} {sp nw D : Nat} (h : CM a X) (ok : okM sp nw D B X) : ∃ a', fX0_gather a = some a' ∧ a' 234 1 = nI (kpt X (X 146 11)).length ∧ (∀ i, i < (kpt X (X 146 11)).length → a' 235 i = nI (174 + 2 * gL (kpt X (X 146 11)) i)) ∧ (∀ j, j ≠ 1 → a' 234 j = a 234 j) ∧ ∀ m, m ≠ 234 → m ≠ 235 → a' m = a m := by
  have l30 := ok.l30
  have ln := ok.2.2.2.2.2.1
  unfold fX0_gather
  refine loop_k (fun f j (s : Mem) => lX0_gather_7 f (nI j) s) (X 146 11) (fun m s => s 234 1 = nI (kpt X m).length ∧ (∀ i, i < (kpt X m).length → s 235 i = nI (174 + 2 * gL (kpt X m) i)) ∧ (∀ j, j ≠ 1 → s 234 j = a 234 j) ∧ ∀ m, m ≠ 234 → m ≠ 235 → s m = a m) (fun s => s 234 1 = nI (kpt X (X 146 11)).length ∧ (∀ i, i < (kpt X (X 146 11)).length → s 235 i = nI (174 + 2 * gL (kpt X (X 146 11)) i)) ∧ (∀ j, j ≠ 1 → s 234 j = a 234 j) ∧ ∀ m, m ≠ 234 → m ≠ 235 → s m = a m) (Nat.zero_le _) (by omega) (s := st2 a 234 1 0) ⟨st2_eq _ _ _ _, fun i hi => absurd hi (by show ¬ i < 0; omega), fun j hj => st2_o _ _ (by omega), fun m m1 _ => st2_c _ _ m1⟩ ?_ ?_ ?_
  · intro r e1 e2
    have e1' : lX0_gather_7 FU 0 (st2 a 234 1 0) = some r := e1
    rw [e1', bq]; exact ⟨r, rfl, e2⟩
  · rintro f s ⟨h1, h2, h3, h4⟩
    refine ⟨s, ?_, h1, h2, h3, h4⟩
    show lX0_gather_7 _ _ _ = _
    rw [lX0_gather_7, if_pos (by rw [h4 146 (by omega) (by omega), h.e3, le_nn (by omega) (by omega)]; omega)]
  · rintro f m s hm ⟨h1, h2, h3, h4⟩
    have hk := kpt_len (X := X) m
    have v9 : X (174 + 2 * m) 9 ≤ 1 := (ln m hm).2.2.2.2.2.2.2.2.2.1
    have e9 : s (174 + 2 * m) 9 = nI (X (174 + 2 * m) 9) := by rw [h4 _ (by omega) (by omega)]; exact h.ln (by omega)
    by_cases z : X (174 + 2 * m) 9 = 0
    · have ek : kpt X (m + 1) = kpt X m ++ [m] := if_pos z
      rw [ek]
      refine ⟨st2 (st2 s 235 (kpt X m).length (nI (174 + 2 * m))) 234 1 (nI ((kpt X m).length + 1)), ?_, by rw [st2_eq, List.length_append]; rfl, fun i hi => ?_, fun j hj => by rw [st2_o _ _ (by omega), st2_o _ _ (by omega)]; exact h3 j hj, fun k k1 k2 => by rw [st2_c _ _ k1, st2_c _ _ k2]; exact h4 k k1 k2⟩
      · show lX0_gather_7 _ _ _ = lX0_gather_7 _ _ _
        rw [lX0_gather_7, if_neg (by rw [h4 146 (by omega) (by omega), h.e3, le_nn (by omega) (by omega)]; omega), inb_T (show m < 30 by omega) (by omega), nI_ck (by omega), h1, inb_T (show (kpt X m).length < 30 by omega) (by omega), nI_ck (by omega)]
        simp only [gdT]
        rw [e9, if_pos (by rw [z]; rfl), bq, bq, st2_o _ _ (show ¬ (234 = 235 ∧ 1 = (kpt X m).length) by omega), h1, nI_1, nI_1]
      · rw [List.length_append] at hi
        have hi' : i < (kpt X m).length + 1 := hi
        rw [st2_o _ _ (by omega)]
        by_cases e : i < (kpt X m).length
        · rw [st2_o _ _ (by omega), gL_l e]; exact h2 i e
        · have e' : i = (kpt X m).length := by omega
          rw [e', st2_eq, gL_r]
    · have ek : kpt X (m + 1) = kpt X m := if_neg z
      rw [ek]
      refine ⟨s, ?_, h1, h2, h3, h4⟩
      show lX0_gather_7 _ _ _ = lX0_gather_7 _ _ _
      rw [lX0_gather_7, if_neg (by rw [h4 146 (by omega) (by omega), h.e3, le_nn (by omega) (by omega)]; omega), inb_T (show m < 30 by omega) (by omega), gdT, nI_ck (by omega), e9, if_neg (ne0 z (by omega)), bq, nI_1]
theorem m_layCommits {pl : Prop} {b : Mem} {X B : F2} {sp nw D : Nat} (h : MN pl b X sp) (ok : okM sp nw D B X) : ∃ b', fX12_layCommits b = some b' ∧ b' 269 71 = nI (kpt X (X 146 11)).length ∧ (∀ i, i < (kpt X (X 146 11)).length → b' 308 i = nI (gL (kpt X (X 146 11)) i)) ∧ (∀ j, j ≠ 71 → b' 269 j = b 269 j) ∧ ∀ m, m ≠ 269 → m ≠ 308 → b' m = b m := by
  have l30 := ok.l30
  have ln := ok.2.2.2.2.2.1
  have hn := ok.1
  have e54 := h.2.1.2.2.1
  unfold fX12_layCommits
  refine loop_k (fun f j (s : Mem) => lX12_layCommits_7 f (nI j) s) (X 146 11) (fun m s => s 269 71 = nI (kpt X m).length ∧ (∀ i, i < (kpt X m).length → s 308 i = nI (gL (kpt X m) i)) ∧ (∀ j, j ≠ 71 → s 269 j = b 269 j) ∧ ∀ m, m ≠ 269 → m ≠ 308 → s m = b m) (fun s => s 269 71 = nI (kpt X (X 146 11)).length ∧ (∀ i, i < (kpt X (X 146 11)).length → s 308 i = nI (gL (kpt X (X 146 11)) i)) ∧ (∀ j, j ≠ 71 → s 269 j = b 269 j) ∧ ∀ m, m ≠ 269 → m ≠ 308 → s m = b m) (Nat.zero_le _) (by omega) (s := st2 b 269 71 0) ⟨st2_eq _ _ _ _, fun i hi => absurd hi (by show ¬ i < 0; omega), fun j hj => st2_o _ _ (by omega), fun m m1 _ => st2_c _ _ m1⟩ ?_ ?_ ?_
  · intro r e1 e2
    have e1' : lX12_layCommits_7 FU 0 (st2 b 269 71 0) = some r := e1
    rw [e1', bq]; exact ⟨r, rfl, e2⟩
  · rintro f s ⟨h1, h2, h3, h4⟩
    refine ⟨s, ?_, h1, h2, h3, h4⟩
    show lX12_layCommits_7 _ _ _ = _
    rw [lX12_layCommits_7, if_pos (by rw [h3 54 (by omega), e54, le_nn (by omega) (by omega)]; omega)]
  · rintro f m s hm ⟨h1, h2, h3, h4⟩
    have hk := kpt_len (X := X) m
    have v0' := (ln m hm).1
    have e5 : s 295 m = vI (lcW X m) := by rw [h4 _ (by omega) (by omega)]; exact (h.2.2.2.2.1 m hm).1
    unfold lcW at e5
    by_cases z : X (174 + 2 * m) 9 = 0
    · have ek : kpt X (m + 1) = kpt X m ++ [m] := if_pos z
      rw [if_pos z, vI_s] at e5
      rw [ek]
      refine ⟨st2 (st2 s 308 (kpt X m).length (nI m)) 269 71 (nI ((kpt X m).length + 1)), ?_, by rw [st2_eq, List.length_append]; rfl, fun i hi => ?_, fun j hj => by rw [st2_o _ _ (by omega), st2_o _ _ (by omega)]; exact h3 j hj, fun k k1 k2 => by rw [st2_c _ _ k1, st2_c _ _ k2]; exact h4 k k1 k2⟩
      · show lX12_layCommits_7 _ _ _ = lX12_layCommits_7 _ _ _
        rw [lX12_layCommits_7, if_neg (by rw [h3 54 (by omega), e54, le_nn (by omega) (by omega)]; omega), inb_T (show m < 64 by omega) (by omega), nI_ck (by omega), h1, inb_T (show (kpt X m).length < 64 by omega) (by omega), nI_ck (by omega)]
        simp only [gdT]
        rw [e5, if_neg (nI_m1 (by omega)), bq, st2_o _ _ (show ¬ (269 = 308 ∧ 71 = (kpt X m).length) by omega), h1, nI_1, nI_1]
      · rw [List.length_append] at hi
        have hi' : i < (kpt X m).length + 1 := hi
        rw [st2_o _ _ (by omega)]
        by_cases e : i < (kpt X m).length
        · rw [st2_o _ _ (by omega), gL_l e]; exact h2 i e
        · have e' : i = (kpt X m).length := by omega
          rw [e', st2_eq, gL_r]
    · have ek : kpt X (m + 1) = kpt X m := if_neg z
      rw [if_neg z] at e5
      rw [ek]
      refine ⟨s, ?_, h1, h2, h3, h4⟩
      show lX12_layCommits_7 _ _ _ = lX12_layCommits_7 _ _ _
      rw [lX12_layCommits_7, if_neg (by rw [h3 54 (by omega), e54, le_nn (by omega) (by omega)]; omega), inb_T (show m < 64 by omega) (by omega), gdT, nI_ck (by omega), e5, if_pos (show vI 0 = -1 from rfl), bq, nI_1]
/-! which commit hangs on which -/
def hgS (X : F2) (i e j s : Nat) : Nat := if X (174 + 2 * e) 6 &&& (X (174 + 2 * i) 4 ||| X (174 + 2 * i) 6) = 0 ∧ X (174 + 2 * e) 7 &&& X (174 + 2 * i) 5 = 0 then s else s ||| 2 ^ j
def hgs (X : F2) (K : List Nat) (k m : Nat) : Nat := itr (fun j s => hgS X (gL K k) (gL K j) j s) 0 m 0
theorem isB_ln {i : Nat} (h : i < 30) : isB (174 + 2 * i) 2 = true := by
  have : ∀ i, i < 30 → isB (174 + 2 * i) 2 = true := by decide +kernel
  exact this i h
theorem c_hangs {a : Mem} {X B : F2} {sp nw D k : Nat} {K : List Nat} (h : CM a X) (ok : okM sp nw D B X) (hK : ∀ i, i < K.length → a 235 i = nI (174 + 2 * gL K i) ∧ gL K i < X 146 11) (hk : k < K.length) (hl : K.length ≤ 30) : fX0_hangs (nI k) a = some (nI (hgs X K k k), a) := by
  have l30 := ok.l30
  have ln := ok.2.2.2.2.2.1
  have key : ∀ j, j < K.length → inb (nI j) 30 = true ∧ Int32.toNatClampNeg (nI j) = j ∧ decide (¬ a 235 j < 0) = true ∧ rfN (a 235 j) = 174 + 2 * gL K j ∧ isB (174 + 2 * gL K j) 2 = true := fun j hj => by
    obtain ⟨e1, e2⟩ := hK j hj
    exact ⟨inb_T (by omega) (by omega), nI_ck (by omega), by rw [e1]; exact decide_eq_true (by rw [li0, lt_nn (by omega) (by omega)]; omega), by rw [e1, rfN_n (by omega)], isB_ln (by omega)⟩
  obtain ⟨x1, x2, x3, x4, x5⟩ := key k hk
  have hi := (hK k hk).2
  unfold fX0_hangs
  rw [x1, gdT, x2, x3, gdT, x4, x5, gdT]
  refine loop_k (fun f j (s : Nat) => lX0_hangs_12 (nI k) (174 + 2 * gL K k) f (nI s) (nI j) a) k (fun j s => s = hgs X K k j) (fun r => r = (nI (hgs X K k k), a)) (Nat.zero_le _) (by omega) (s := 0) rfl ?_ ?_ ?_
  · rintro r e1 rfl
    have e1' : lX0_hangs_12 (nI k) (174 + 2 * gL K k) FU 0 0 a = some (nI (hgs X K k k), a) := e1
    rw [e1', bq]
  · rintro f s rfl
    refine ⟨_, ?_, rfl⟩
    show lX0_hangs_12 _ _ _ _ _ _ = _
    rw [lX0_hangs_12, if_pos (by rw [le_nn (by omega) (by omega)]; omega)]
  · rintro f j s hj rfl
    obtain ⟨y1, y2, y3, y4, y5⟩ := key j (by omega)
    have hj' := (hK j (by omega)).2
    obtain ⟨-, -, -, -, u4, u5, u6, u7, -⟩ := ln _ hi
    obtain ⟨-, -, -, -, w4, w5, w6, w7, -⟩ := ln _ hj'
    refine ⟨hgs X K k (j + 1), ?_, rfl⟩
    show lX0_hangs_12 _ _ _ _ _ _ = lX0_hangs_12 _ _ _ _ _ _
    have eS : hgs X K k (j + 1) = hgS X (gL K k) (gL K j) j (hgs X K k j) := itr_S _ _ _
    rw [lX0_hangs_12, if_neg (by rw [le_nn (by omega) (by omega)]; omega), y1, y2, y3, y4, y5, eS]
    simp only [gdT]
    rw [h.ln (by omega), h.ln (by omega), h.ln (by omega), h.ln (by omega), h.ln (by omega), nI_or, nI_and, nI_and, nI_1, sh1 (by omega), nI_or]
    have l1 : X (174 + 2 * gL K j) 6 &&& (X (174 + 2 * gL K k) 4 ||| X (174 + 2 * gL K k) 6) < 1024 := and_lt w6
    have l2 : X (174 + 2 * gL K j) 7 &&& X (174 + 2 * gL K k) 5 < 1024 := and_lt w7
    unfold hgS
    by_cases z1 : X (174 + 2 * gL K j) 6 &&& (X (174 + 2 * gL K k) 4 ||| X (174 + 2 * gL K k) 6) = 0
    · rw [if_pos (by rw [z1]; rfl), bq, if_neg (by decide)]
      by_cases z2 : X (174 + 2 * gL K j) 7 &&& X (174 + 2 * gL K k) 5 = 0
      · rw [if_pos (by rw [z2]; rfl), bq, if_pos ⟨z1, z2⟩]
      · rw [if_neg (ne0 z2 (by omega)), bq, if_neg (fun z => z2 z.2)]
    · rw [if_neg (ne0 z1 (by omega)), bq, if_pos rfl, bq, if_neg (fun z => z1 z.1)]
theorem m_writtenIn {pl : Prop} {b b0 : Mem} {X B : F2} {sp nw D i : Nat} (h : MN pl b X sp) (ok : okM sp nw D B X) (hi : i < X 146 11) (e : b0 303 = b 303) : fX12_writtenIn (nI i) b0 = some (nI (X (174 + 2 * i) 6), b0) := by
  have l30 := ok.l30
  have l6 := (ok.2.2.2.2.2.1 i hi).2.2.2.2.2.2.1
  have lv := (ok.2.2.2.2.2.1 i hi).2.2.2.2.2.2.2.2.2.2.1
  have hL := (h.2.2.2.2.1 i hi).2.2.2.2.2.2.2.2
  have em : X (174 + 2 * i) 6 % 2 ^ 10 = X (174 + 2 * i) 6 := Nat.mod_eq_of_lt l6
  unfold fX12_writtenIn
  refine loop_k (fun f j (s : Nat) => lX12_writtenIn_4 (nI i) f (nI s) (nI j) b0) 10 (fun j s => s = X (174 + 2 * i) 6 % 2 ^ j) (fun r => r = (nI (X (174 + 2 * i) 6), b0)) (Nat.zero_le _) (by omega) (s := 0) (by rw [Nat.pow_zero, Nat.mod_one]) ?_ ?_ ?_
  · rintro r e1 rfl
    have e1' : lX12_writtenIn_4 (nI i) FU 0 0 b0 = some (nI (X (174 + 2 * i) 6), b0) := e1
    rw [e1', bq]
  · rintro f s rfl
    refine ⟨_, ?_, rfl⟩
    show lX12_writtenIn_4 _ _ _ _ _ = _
    rw [lX12_writtenIn_4, if_pos (by decide), em]
  · rintro f k s hk rfl
    refine ⟨X (174 + 2 * i) 6 % 2 ^ (k + 1), ?_, rfl⟩
    show lX12_writtenIn_4 _ _ _ _ _ = lX12_writtenIn_4 _ _ _ _ _
    rw [lX12_writtenIn_4, if_neg (by rw [li10, le_nn (by omega) (by omega)]; omega), ix10, inb_T (show 10 * i + k < 640 by omega) (by omega), gdT, nI_ck (by omega), e, hL k hk, sh1 (by omega), nI_1, mod_up]
    unfold lcV
    by_cases z : (X (174 + 2 * i) 6).testBit k = true
    · have := lv k hk z
      rw [if_pos z, if_pos z, if_neg (by rw [w0, eq_ww (by omega) (by omega)]; omega), bq, nI_or]
    · rw [if_neg z, if_neg z, if_pos (by rfl), bq, li0, nI_or, Nat.or_zero]
theorem m_hangs {pl : Prop} {b b0 : Mem} {X B : F2} {sp nw D k : Nat} {K : List Nat} (h : MN pl b X sp) (ok : okM sp nw D B X) (hb : ∀ m, 295 ≤ m → m ≤ 303 → b0 m = b m) (hK : ∀ i, i < K.length → b0 308 i = nI (gL K i) ∧ gL K i < X 146 11) (hk : k < K.length) (hl : K.length ≤ 30) (h10 : k < 10) : fX12_hangs (nI k) b0 = some (nI (hgs X K k k), b0) := by
  have l30 := ok.l30
  have ln := ok.2.2.2.2.2.1
  obtain ⟨ek, hi⟩ := hK k hk
  obtain ⟨y1, y2, y3, y4, y5, y6, y7, y8, y9⟩ := h.2.2.2.2.1 _ hi
  unfold fX12_hangs
  rw [inb_T (show k < 64 by omega) (by omega), gdT, nI_ck (by omega), ek, inb_T (show gL K k < 64 by omega) (by omega), gdT, nI_ck (show gL K k < 2147483648 by omega), m_writtenIn h ok hi (hb 303 (by omega) (by omega)), bq]
  dsimp only
  rw [bq, hb 300 (by omega) (by omega), y6, nI_or]
  refine loop_k (fun f j (s : Nat) => lX12_hangs_26 (nI k) (nI (gL K k)) (nI (X (174 + 2 * gL K k) 4 ||| X (174 + 2 * gL K k) 6)) f (nI s) (nI j) b0) k (fun j s => s = hgs X K k j) (fun r => r = (nI (hgs X K k k), b0)) (Nat.zero_le _) (by omega) (s := 0) rfl ?_ ?_ ?_
  · rintro r e1 rfl
    have e1' : lX12_hangs_26 (nI k) (nI (gL K k)) (nI (X (174 + 2 * gL K k) 4 ||| X (174 + 2 * gL K k) 6)) FU 0 0 b0 = some (nI (hgs X K k k), b0) := e1
    rw [e1', bq]
  · rintro f s rfl
    refine ⟨_, ?_, rfl⟩
    show lX12_hangs_26 _ _ _ _ _ _ _ = _
    rw [lX12_hangs_26, if_pos (by rw [le_nn (by omega) (by omega)]; omega)]
  · rintro f j s hj rfl
    obtain ⟨ej, hj'⟩ := hK j (by omega)
    obtain ⟨z1, z2, z3, z4, z5, z6, z7, z8, z9⟩ := h.2.2.2.2.1 _ hj'
    obtain ⟨-, -, -, -, u4, u5, u6, u7, -⟩ := ln _ hi
    obtain ⟨-, -, -, -, w4, w5, w6, w7, -⟩ := ln _ hj'
    refine ⟨hgs X K k (j + 1), ?_, rfl⟩
    show lX12_hangs_26 _ _ _ _ _ _ _ = lX12_hangs_26 _ _ _ _ _ _ _
    have eS : hgs X K k (j + 1) = hgS X (gL K k) (gL K j) j (hgs X K k j) := itr_S _ _ _
    rw [lX12_hangs_26, if_neg (by rw [le_nn (by omega) (by omega)]; omega), inb_T (show j < 64 by omega) (by omega), gdT, nI_ck (by omega), ej, m_writtenIn h ok hj' (hb 303 (by omega) (by omega)), bq, eS]
    dsimp only
    rw [inb_T (show gL K j < 64 by omega) (by omega), inb_T (show gL K k < 64 by omega) (by omega), nI_ck (show gL K j < 2147483648 by omega), nI_ck (show gL K k < 2147483648 by omega), sh1 (by omega), nI_1]
    simp only [gdT]
    have l1 : X (174 + 2 * gL K j) 6 &&& (X (174 + 2 * gL K k) 4 ||| X (174 + 2 * gL K k) 6) < 1024 := and_lt w6
    have l2 : X (174 + 2 * gL K j) 7 &&& X (174 + 2 * gL K k) 5 < 1024 := and_lt w7
    unfold hgS
    have q1 : nI (X (174 + 2 * gL K j) 6) &&& nI (X (174 + 2 * gL K k) 4 ||| X (174 + 2 * gL K k) 6) = nI (X (174 + 2 * gL K j) 6 &&& (X (174 + 2 * gL K k) 4 ||| X (174 + 2 * gL K k) 6)) := nI_and _ _
    have q2 : b0 302 (gL K j) &&& b0 301 (gL K k) = nI (X (174 + 2 * gL K j) 7 &&& X (174 + 2 * gL K k) 5) := by rw [hb 302 (by omega) (by omega), hb 301 (by omega) (by omega), z8, y7, nI_and]
    by_cases z1 : X (174 + 2 * gL K j) 6 &&& (X (174 + 2 * gL K k) 4 ||| X (174 + 2 * gL K k) 6) = 0
    · rw [if_pos (show nI (X (174 + 2 * gL K j) 6) &&& nI (X (174 + 2 * gL K k) 4 ||| X (174 + 2 * gL K k) 6) = 0 by rw [q1, z1]; rfl)]
      by_cases z2 : X (174 + 2 * gL K j) 7 &&& X (174 + 2 * gL K k) 5 = 0
      · rw [if_pos (show b0 302 (gL K j) &&& b0 301 (gL K k) = 0 by rw [q2, z2]; rfl), bq, if_pos ⟨z1, z2⟩, li0, nI_or, Nat.or_zero]
      · rw [if_neg (show ¬ b0 302 (gL K j) &&& b0 301 (gL K k) = 0 by rw [q2]; exact ne0 z2 (by omega)), bq, if_neg (fun z => z2 z.2), nI_or]
    · rw [if_neg (show ¬ nI (X (174 + 2 * gL K j) 6) &&& nI (X (174 + 2 * gL K k) 4 ||| X (174 + 2 * gL K k) 6) = 0 by rw [q1]; exact ne0 z1 (by omega)), bq, if_neg (fun z => z1 z.1), nI_or]
/-! rows of numbers, in their order -/
def dfc (D : List Nat → List (List Nat)) (pre : List Nat) : Nat → List (List Nat)
  | 0 => []
  | c + 1 => dfc D pre c ++ (if c ∈ pre then [] else D (pre ++ [c]))
def dfs (N : Nat) : Nat → List Nat → List (List Nat)
  | 0, pre => [pre]
  | k + 1, pre => dfc (dfs N k) pre N
/-- a row counts; the first is kept -/
def nte (v : List Nat → Bool) (q : Nat × List Nat) (r : List Nat) : Nat × List Nat := if v r = true then (q.1 + 1, if q.1 = 0 then r else q.2) else q
/-- the next row, as the reference makes it -/
def fdI (r : Nat → Nat) : Nat → Nat
  | 0 => 0
  | i + 1 => if r i ≤ r (i + 1) then i + 1 else fdI r i
def fdJ (r : Nat → Nat) (x : Nat) : Nat → Nat
  | 0 => 0
  | j + 1 => if x ≤ r (j + 1) then j + 1 else fdJ r x j
def swR (r : Nat → Nat) (a b : Nat) : Nat → Nat := fun k => if k = b then r a else if k = a then r b else r k
def rvR (r : Nat → Nat) : Nat → Nat → Nat → Nat → Nat
  | 0, _, _ => r
  | n + 1, i, j => if j ≤ i then r else rvR (swR r i j) n (i + 1) (j - 1)
def nxR (N : Nat) (r : Nat → Nat) : Nat → Nat := rvR (swR r (fdI r (N - 1) - 1) (fdJ r (r (fdI r (N - 1) - 1)) (N - 1))) 6 (fdI r (N - 1)) (N - 1)
def lsR (N : Nat) (r : Nat → Nat) : List Nat := (List.range N).map r
/-- each row's next is the one behind it; the last has none -/
def okx (N : Nat) (x : List Nat) : Bool := decide (lsR N (gL x) = x) && (List.range N).all (fun k => decide (gL x k < N))
def chn (N : Nat) : List (List Nat) → Bool
  | [] => true
  | [x] => decide (fdI (gL x) (N - 1) = 0) && okx N x
  | x :: y :: l => (decide (fdI (gL x) (N - 1) ≠ 0) && decide (lsR N (nxR N (gL x)) = y)) && okx N x && chn N (y :: l)
theorem gL_ls {N k : Nat} {r : Nat → Nat} (h : k < N) : gL (lsR N r) k = r k := by
  unfold gL lsR
  rw [List.getElem?_map, List.getElem?_range h]
  rfl
theorem lsR_S {N : Nat} {r : Nat → Nat} : lsR (N + 1) r = lsR N r ++ [r N] := by
  unfold lsR
  rw [List.range_succ, List.map_append]
  rfl
theorem okx_p {N : Nat} {x : List Nat} (h : okx N x = true) : lsR N (gL x) = x ∧ ∀ k, k < N → gL x k < N := by
  unfold okx at h
  rw [Bool.and_eq_true, decide_eq_true_eq, List.all_eq_true] at h
  exact ⟨h.1, fun k hk => of_decide_eq_true (h.2 k (List.mem_range.mpr hk))⟩
theorem chn_ok : chn 0 (dfs 0 0 []) = true ∧ chn 1 (dfs 1 1 []) = true ∧ chn 2 (dfs 2 2 []) = true ∧ chn 3 (dfs 3 3 []) = true ∧ chn 4 (dfs 4 4 []) = true ∧ chn 5 (dfs 5 5 []) = true := by decide +kernel
theorem chn_6 : chn 6 (dfs 6 6 []) = true := by decide +kernel
theorem chn_all {N : Nat} (h : N ≤ 6) : chn N (dfs N N []) = true := by
  obtain ⟨h0, h1, h2, h3, h4, h5⟩ := chn_ok
  rcases (show N = 0 ∨ N = 1 ∨ N = 2 ∨ N = 3 ∨ N = 4 ∨ N = 5 ∨ N = 6 by omega) with rfl | rfl | rfl | rfl | rfl | rfl | rfl
  · exact h0
  · exact h1
  · exact h2
  · exact h3
  · exact h4
  · exact h5
  · exact chn_6
theorem dfs_hd : ∀ N, N ≤ 6 → (dfs N N []).head? = some (lsR N id) ∧ (dfs N N []).length ≤ 720 := by
  intro N h
  rcases (show N = 0 ∨ N = 1 ∨ N = 2 ∨ N = 3 ∨ N = 4 ∨ N = 5 ∨ N = 6 by omega) with rfl | rfl | rfl | rfl | rfl | rfl | rfl <;> decide +kernel
