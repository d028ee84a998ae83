/-! ===== the reference's commit ===== -/
def b0C (b : Mem) : Mem := st2 (st2 (st2 (st2 b 269 62 1) 269 63 (-1)) 269 64 (-1)) 269 65 (-1)
def bfC (b : Mem) (c m : Nat) (y : Int32) : Mem := st2 (st2 (st2 (b0C b) 269 62 (nI c)) 269 63 (nI m)) 269 64 y
theorem b0C_o {b : Mem} {m : Nat} (h : m ≠ 269) : b0C b m = b m := by unfold b0C; rw [st2_c _ _ h, st2_c _ _ h, st2_c _ _ h, st2_c _ _ h]
theorem b0C_9 {b : Mem} {j : Nat} (h : ¬ (62 ≤ j ∧ j ≤ 65)) : b0C b 269 j = b 269 j := by unfold b0C; rw [st2_o _ _ (by omega), st2_o _ _ (by omega), st2_o _ _ (by omega), st2_o _ _ (by omega)]
theorem bfC_o {b : Mem} {c k m : Nat} {y : Int32} (h : m ≠ 269) : bfC b c k y m = b m := by unfold bfC; rw [st2_c _ _ h, st2_c _ _ h, st2_c _ _ h, b0C_o h]
theorem bfC_9 {b : Mem} {c k j : Nat} {y : Int32} (h : ¬ (62 ≤ j ∧ j ≤ 65)) : bfC b c k y 269 j = b 269 j := by unfold bfC; rw [st2_o _ _ (by omega), st2_o _ _ (by omega), st2_o _ _ (by omega), b0C_9 h]
theorem m_chk1 {b : Mem} {w sp : Nat} {G L : F2} (hM : MWr b w L) (hG : MG b G sp) (hL : okL L) (gG1 : okG G) (hw : w < 4) : ∃ r, lX12_checks_22 (nI w) FU 0 (b0C b) = some r ∧ ((stl G L = 0 ∧ r = b0C b) ∨ ∃ m, stl G L = m + 1 ∧ m < 10 ∧ r = bfC b 2 m (b 284 m)) := by
  have ht := thr_lt (G 0)
  have c62 : b0C b 269 62 = 1 := by unfold b0C; rw [st2_o _ _ (by omega), st2_o _ _ (by omega), st2_o _ _ (by omega), st2_eq]
  unfold stl
  refine loop_x (fun f j (q : Mem) => lX12_checks_22 (nI w) f (nI j) q) 10 (fun j q => (q = b0C b ∧ ∀ k, k < j → ¬ ((L 0 6).testBit k && (decide (G 0 k = 0) || decide (G 1 k ≠ L 1 k))) = true) ∨ ∃ m, fnd (fun k => (L 0 6).testBit k && (decide (G 0 k = 0) || decide (G 1 k ≠ L 1 k))) 0 10 = m + 1 ∧ m < 10 ∧ q = bfC b 2 m (b 284 m)) (fun r => (fnd (fun k => (L 0 6).testBit k && (decide (G 0 k = 0) || decide (G 1 k ≠ L 1 k))) 0 10 = 0 ∧ r = b0C b) ∨ ∃ m, fnd (fun k => (L 0 6).testBit k && (decide (G 0 k = 0) || decide (G 1 k ≠ L 1 k))) 0 10 = m + 1 ∧ m < 10 ∧ r = bfC b 2 m (b 284 m)) (Nat.zero_le _) (by omega) (s := b0C b) (Or.inl ⟨rfl, fun k hk => absurd hk (by omega)⟩) ?_ ?_ ?_
  · intro r e1 e2
    exact ⟨r, e1, e2⟩
  · intro f q hq
    refine ⟨q, ?_, ?_⟩
    · show lX12_checks_22 _ _ _ _ = _
      rw [lX12_checks_22, if_pos (by decide)]
    · rcases hq with ⟨e, h⟩ | h
      · exact Or.inl ⟨fnd_no _ h, e⟩
      · exact Or.inr h
  · intro f j q hj hq
    rcases hq with ⟨rfl, h⟩ | ⟨m, e1, e2, rfl⟩
    · have hc := cR_le hL hj
      have gj := gG1 j hj
      have r2 : b0C b 292 (10 * w + j) = vI (cR L j) := by rw [b0C_o (by omega)]; exact hM.2.1 j hj
      have r30 : b0C b 269 30 = nI (thr (G 0)) := by rw [b0C_9 (by omega)]; exact hG.2.1
      have r82 : b0C b 282 j = nI (G 1 j) := by rw [b0C_o (by omega)]; exact hG.2.2.2.1 j hj
      have hcont : ¬ ((L 0 6).testBit j && (decide (G 0 j = 0) || decide (G 1 j ≠ L 1 j))) = true → ∀ k, k < j + 1 → ¬ ((L 0 6).testBit k && (decide (G 0 k = 0) || decide (G 1 k ≠ L 1 k))) = true := fun z k hk => by
        by_cases e : k = j
        · rw [e]; exact z
        · exact h k (by omega)
      left
      by_cases hb : (L 0 6).testBit j = true
      · have ec : cR L j = L 1 j + 1 := by unfold cR; rw [if_pos hb]
        have r2' : b0C b 292 (10 * w + j) = nI (L 1 j) := by rw [r2, ec, vI_s]
        have lj := (hL.2.2.2.2 j hj).1 hb
        have hne : ¬ b0C b 292 (10 * w + j) = -1 := by rw [r2']; exact nI_m1 (by omega)
        have fnd_st : ∀ hst : ((L 0 6).testBit j && (decide (G 0 j = 0) || decide (G 1 j ≠ L 1 j))) = true, fnd (fun k => (L 0 6).testBit k && (decide (G 0 k = 0) || decide (G 1 k ≠ L 1 k))) 0 10 = j + 1 := fun hst => fnd_yes hst h 10 hj
        have bf : st2 (st2 (st2 (b0C b) 269 62 2) 269 63 (nI j)) 269 64 ((st2 (st2 (b0C b) 269 62 2) 269 63 (nI j)) 284 j) = bfC b 2 j (b 284 j) := by rw [st2_o _ _ (by omega), st2_o _ _ (by omega), b0C_o (by omega)]; rfl
        by_cases h0 : G 0 j = 0
        · refine ⟨bfC b 2 j (b 284 j), ?_, Or.inr ⟨j, fnd_st (by simp [hb, h0]), hj, rfl⟩⟩
          show lX12_checks_22 _ _ _ _ = lX12_checks_22 _ _ _ _
          rw [lX12_checks_22, if_neg (by rw [li10, le_nn (by omega) (by omega)]; omega), if_pos c62, ix10, inb_T (by omega) (by omega), gdT, nI_ck (by omega), if_neg hne, r30, f_has (by omega) (by omega), bq, thr_bit hj]
          dsimp only
          rw [if_neg (by simp [h0]), inb_T hj (by omega), gdT, nI_ck (by omega), bf, bq, nI_1]
        · by_cases hs : G 1 j = L 1 j
          · refine ⟨b0C b, ?_, Or.inl ⟨rfl, hcont (by simp [h0, hs])⟩⟩
            show lX12_checks_22 _ _ _ _ = lX12_checks_22 _ _ _ _
            rw [lX12_checks_22, if_neg (by rw [li10, le_nn (by omega) (by omega)]; omega), if_pos c62, ix10, inb_T (by omega) (by omega), gdT, nI_ck (by omega), if_neg hne, r30, f_has (by omega) (by omega), bq, thr_bit hj]
            dsimp only
            rw [if_pos (by simp [h0]), inb_T hj (by omega), gdT, nI_ck (by omega), if_pos (by rw [r82, r2', hs]), bq, nI_1]
          · refine ⟨bfC b 2 j (b 284 j), ?_, Or.inr ⟨j, fnd_st (by simp [hb, hs]), hj, rfl⟩⟩
            show lX12_checks_22 _ _ _ _ = lX12_checks_22 _ _ _ _
            rw [lX12_checks_22, if_neg (by rw [li10, le_nn (by omega) (by omega)]; omega), if_pos c62, ix10, inb_T (by omega) (by omega), gdT, nI_ck (by omega), if_neg hne, r30, f_has (by omega) (by omega), bq, thr_bit hj]
            dsimp only
            rw [if_pos (by simp [h0]), inb_T hj (by omega), gdT, gdT, nI_ck (by omega), if_neg (by rw [r82, r2', eq_nn (by omega) (by omega)]; exact hs), bf, bq, nI_1]
      · have ec : cR L j = 0 := by unfold cR; rw [if_neg hb]
        refine ⟨b0C b, ?_, Or.inl ⟨rfl, hcont (by simp [hb])⟩⟩
        show lX12_checks_22 _ _ _ _ = lX12_checks_22 _ _ _ _
        rw [lX12_checks_22, if_neg (by rw [li10, le_nn (by omega) (by omega)]; omega), if_pos c62, ix10, inb_T (by omega) (by omega), gdT, nI_ck (by omega), if_pos (by rw [r2, ec]; rfl), bq, nI_1]
    · right
      have c2 : ¬ bfC b 2 m (b 284 m) 269 62 = 1 := by unfold bfC; rw [st2_o _ _ (by omega), st2_o _ _ (by omega), st2_eq]; decide
      refine ⟨_, ?_, Or.inr ⟨m, e1, e2, rfl⟩⟩
      show lX12_checks_22 _ _ _ _ = _
      rw [lX12_checks_22, if_neg (by rw [li10, le_nn (by omega) (by omega)]; omega), if_neg c2]
theorem m_chk2 {b : Mem} {w sp : Nat} {G L : F2} (hM : MWr b w L) (hG : MG b G sp) (hL : okL L) (gG1 : okG G) (hw : w < 4) (hsp : 1 ≤ sp) (h28 : b 269 28 = nI (9 / sp + 1)) (h7 : L 0 7 < 2 ^ (9 / sp + 1)) : ∃ r, jX12_checks_100 (nI w) (b0C b) = some r ∧ ((pha G L = 0 ∧ r = b0C b) ∨ ∃ m, pha G L = m + 1 ∧ m < 10 ∧ r = bfC b 3 m (b 285 m)) := by
  have d9 := dv9 (n := 9) (sp := sp) (by omega)
  have c62 : b0C b 269 62 = 1 := by unfold b0C; rw [st2_o _ _ (by omega), st2_o _ _ (by omega), st2_o _ _ (by omega), st2_eq]
  have c28 : b0C b 269 28 = nI (9 / sp + 1) := by rw [b0C_9 (by omega)]; exact h28
  have hb7 : ∀ k, 9 / sp + 1 ≤ k → ¬ ((L 0 7).testBit k && decide (G 2 k ≠ L 2 k)) = true := fun k hk => by
    rw [Nat.testBit_lt_two_pow (Nat.lt_of_lt_of_le h7 (Nat.pow_le_pow_right (by decide) hk))]; simp
  unfold pha jX12_checks_100
  refine loop_x (fun f j (q : Mem) => lX12_checks_102 (nI w) f (nI j) q) (9 / sp + 1) (fun j q => (q = b0C b ∧ ∀ k, k < j → ¬ ((L 0 7).testBit k && decide (G 2 k ≠ L 2 k)) = true) ∨ ∃ m, fnd (fun n => (L 0 7).testBit n && decide (G 2 n ≠ L 2 n)) 0 10 = m + 1 ∧ m < 10 ∧ q = bfC b 3 m (b 285 m)) (fun r => (fnd (fun n => (L 0 7).testBit n && decide (G 2 n ≠ L 2 n)) 0 10 = 0 ∧ r = b0C b) ∨ ∃ m, fnd (fun n => (L 0 7).testBit n && decide (G 2 n ≠ L 2 n)) 0 10 = m + 1 ∧ m < 10 ∧ r = bfC b 3 m (b 285 m)) (Nat.zero_le _) (by omega) (s := b0C b) (Or.inl ⟨rfl, fun k hk => absurd hk (by omega)⟩) ?_ ?_ ?_
  · intro r e1 e2
    have e1' : lX12_checks_102 (nI w) FU 0 (b0C b) = some r := e1
    rw [e1', bq]
    exact ⟨r, rfl, e2⟩
  · intro f q hq
    have q28 : q 269 28 = nI (9 / sp + 1) := by
      rcases hq with ⟨rfl, -⟩ | ⟨m, -, -, rfl⟩
      · exact c28
      · rw [bfC_9 (by omega)]; exact h28
    refine ⟨q, ?_, ?_⟩
    · show lX12_checks_102 _ _ _ _ = _
      rw [lX12_checks_102, if_pos (by rw [q28, le_nn (by omega) (by omega)]; omega)]
    · rcases hq with ⟨e, h⟩ | h
      · refine Or.inl ⟨fnd_no _ (fun k hk => ?_), e⟩
        by_cases hk2 : k < 9 / sp + 1
        · exact h k hk2
        · exact hb7 k (by omega)
      · exact Or.inr h
  · intro f j q hj hq
    have hj10 : j < 10 := by omega
    rcases hq with ⟨rfl, h⟩ | ⟨m, e1, e2, rfl⟩
    · have hc := cG_le hL hj10
      have gj := gG1 j hj10
      have r2 : b0C b 293 (10 * w + j) = vI (cG L j) := by rw [b0C_o (by omega)]; exact hM.2.2.1 j hj10
      have r83 : b0C b 283 j = nI (G 2 j) := by rw [b0C_o (by omega)]; exact hG.2.2.2.2 j hj10
      have hcont : ¬ ((L 0 7).testBit j && decide (G 2 j ≠ L 2 j)) = true → ∀ k, k < j + 1 → ¬ ((L 0 7).testBit k && decide (G 2 k ≠ L 2 k)) = true := fun z k hk => by
        by_cases e : k = j
        · rw [e]; exact z
        · exact h k (by omega)
      left
      by_cases hb : (L 0 7).testBit j = true
      · have ec : cG L j = L 2 j + 1 := by unfold cG; rw [if_pos hb]
        have r2' : b0C b 293 (10 * w + j) = nI (L 2 j) := by rw [r2, ec, vI_s]
        have lj := (hL.2.2.2.2 j hj10).2.1 hb
        have hne : ¬ b0C b 293 (10 * w + j) = -1 := by rw [r2']; exact nI_m1 (by omega)
        have bf : st2 (st2 (st2 (b0C b) 269 62 3) 269 63 (nI j)) 269 64 ((st2 (st2 (b0C b) 269 62 3) 269 63 (nI j)) 285 j) = bfC b 3 j (b 285 j) := by rw [st2_o _ _ (by omega), st2_o _ _ (by omega), b0C_o (by omega)]; rfl
        by_cases hs : G 2 j = L 2 j
        · refine ⟨b0C b, ?_, Or.inl ⟨rfl, hcont (by simp [hs])⟩⟩
          show lX12_checks_102 _ _ _ _ = lX12_checks_102 _ _ _ _
          rw [lX12_checks_102, if_neg (by rw [c28, le_nn (by omega) (by omega)]; omega), if_pos c62, ix10, inb_T (by omega) (by omega), gdT, nI_ck (by omega), if_neg hne, inb_T hj10 (by omega), gdT, nI_ck (by omega), if_pos (by rw [r83, r2', hs]), bq, nI_1]
        · refine ⟨bfC b 3 j (b 285 j), ?_, Or.inr ⟨j, fnd_yes (by simp [hb, hs]) h 10 hj10, hj10, rfl⟩⟩
          show lX12_checks_102 _ _ _ _ = lX12_checks_102 _ _ _ _
          rw [lX12_checks_102, if_neg (by rw [c28, le_nn (by omega) (by omega)]; omega), if_pos c62, ix10, inb_T (by omega) (by omega), gdT, nI_ck (by omega), if_neg hne, inb_T hj10 (by omega), gdT, gdT, nI_ck (by omega), if_neg (by rw [r83, r2', eq_nn (by omega) (by omega)]; exact hs), bf, bq, nI_1]
      · have ec : cG L j = 0 := by unfold cG; rw [if_neg hb]
        refine ⟨b0C b, ?_, Or.inl ⟨rfl, hcont (by simp [hb])⟩⟩
        show lX12_checks_102 _ _ _ _ = lX12_checks_102 _ _ _ _
        rw [lX12_checks_102, if_neg (by rw [c28, le_nn (by omega) (by omega)]; omega), if_pos c62, ix10, inb_T (by omega) (by omega), gdT, nI_ck (by omega), if_pos (by rw [r2, ec]; rfl), bq, nI_1]
    · right
      have c2 : ¬ bfC b 3 m (b 285 m) 269 62 = 1 := by unfold bfC; rw [st2_o _ _ (by omega), st2_o _ _ (by omega), st2_eq]; decide
      refine ⟨_, ?_, Or.inr ⟨m, e1, e2, rfl⟩⟩
      show lX12_checks_102 _ _ _ _ = _
      rw [lX12_checks_102, if_neg (by rw [bfC_9 (by omega), h28, le_nn (by omega) (by omega)]; omega), if_neg c2]
theorem m_checks {b : Mem} {w sp : Nat} {G L : F2} (hM : MWr b w L) (hG : MG b G sp) (hL : okL L) (gG1 : okG G) (hw : w < 4) (hsp : 1 ≤ sp) (h28 : b 269 28 = nI (9 / sp + 1)) (h7 : L 0 7 < 2 ^ (9 / sp + 1)) : ∃ r, fX12_checks (nI w) b = some r ∧ ((stl G L = 0 ∧ pha G L = 0 ∧ r = b0C b) ∨ (∃ m, stl G L = m + 1 ∧ m < 10 ∧ r = bfC b 2 m (b 284 m)) ∨ ∃ m, stl G L = 0 ∧ pha G L = m + 1 ∧ m < 10 ∧ r = bfC b 3 m (b 285 m)) := by
  obtain ⟨r, e1, e2⟩ := m_chk1 hM hG hL gG1 hw
  unfold fX12_checks
  show ∃ r, ((lX12_checks_22 (nI w) FU 0 (b0C b)).bind fun q27 => jX12_checks_100 (nI w) q27) = some r ∧ _
  rw [e1, bq]
  rcases e2 with ⟨z, rfl⟩ | ⟨m, z1, z2, rfl⟩
  · obtain ⟨r2, e3, e4⟩ := m_chk2 hM hG hL gG1 hw hsp h28 h7
    refine ⟨r2, e3, ?_⟩
    rcases e4 with ⟨y, rfl⟩ | ⟨m, y1, y2, rfl⟩
    · exact Or.inl ⟨z, y, rfl⟩
    · exact Or.inr (Or.inr ⟨m, z, y1, y2, rfl⟩)
  · refine ⟨bfC b 2 m (b 284 m), ?_, Or.inr (Or.inl ⟨m, z1, z2, rfl⟩)⟩
    have d9 := dv9 (n := 9) (sp := sp) (by omega)
    have c2 : ¬ bfC b 2 m (b 284 m) 269 62 = 1 := by unfold bfC; rw [st2_o _ _ (by omega), st2_o _ _ (by omega), st2_eq]; decide
    unfold jX12_checks_100
    have : lX12_checks_102 (nI w) FU 0 (bfC b 2 m (b 284 m)) = some (bfC b 2 m (b 284 m)) := by
      show lX12_checks_102 (nI w) (4999 + 1) (nI 0) _ = _
      rw [lX12_checks_102, if_neg (by rw [bfC_9 (by omega), h28, le_nn (by omega) (by omega)]; exact Nat.not_succ_le_zero _), if_neg c2]
    rw [this, bq]
/-! the stamp -/
theorem f_gt {x y : Int32} {σ : Mem} : fX12_greater x y σ = some (if y < x then x else y, σ) := by
  unfold fX12_greater
  by_cases h : x ≤ y
  · rw [if_pos h, if_neg (fun z => absurd (Int32.lt_of_lt_of_le z h) Int32.lt_irrefl)]
  · rw [if_neg h, if_pos (Int32.not_le.mp h)]
theorem f_gt_n {x y : Nat} {σ : Mem} (hx : x < 2147483648) (hy : y < 2147483648) : fX12_greater (nI x) (nI y) σ = some (nI (max x y), σ) := by
  rw [f_gt]
  by_cases h : y < x
  · rw [if_pos ((lt_nn hy hx).mpr h), Nat.max_eq_left (by omega)]
  · rw [if_neg (fun z => h ((lt_nn hy hx).mp z)), Nat.max_eq_right (by omega)]
theorem f_gt_v {x : Nat} {σ : Mem} (hx : x < 2147483648) : fX12_greater (nI x) (-1) σ = some (nI x, σ) := by
  rw [f_gt, if_pos (by rw [v0, lt_vn (by omega) (by omega)]; omega)]
def smF (G L : F2) (k m : Nat) : Nat := let m1 := if (L 0 6).testBit k = true then max m (L 1 k) else m; if (L 0 8).testBit k = true then max m1 (G 1 k) else m1
theorem sm_b {G L : F2} {X : Nat} (hL : ∀ k, k < 10 → (L 0 6).testBit k = true → L 1 k ≤ X) (hG : ∀ k, k < 10 → G 1 k ≤ X) (h4 : L 0 4 ≤ X) : ∀ n, n ≤ 10 → itr (smF G L) 0 n (L 0 4) ≤ X
  | 0, _ => h4
  | n + 1, hn => by
    rw [itr_S]
    have ih := sm_b hL hG h4 n (by omega)
    generalize itr (smF G L) 0 n (L 0 4) = z at *
    have := hG n (by omega)
    unfold smF
    dsimp only
    split
    · split
      · rename_i h1 h2; have := hL n (by omega) h2; omega
      · omega
    · split
      · rename_i h1 h2; have := hL n (by omega) h2; omega
      · exact ih
theorem sm_nxt {G L : F2} {e : Nat} (hst : ∀ k, k < 10 → (L 0 6).testBit k = true → G 1 k = L 1 k) : ∀ n, n ≤ 10 → itr (fun k m => if (L 0 6 ||| L 0 8).testBit k = true then max m (G 1 k) else m) 0 n (max (L 0 4) (100 * e)) = max (itr (smF G L) 0 n (L 0 4)) (100 * e)
  | 0, _ => rfl
  | n + 1, hn => by
    rw [itr_S, itr_S, sm_nxt hst n (by omega)]
    generalize itr (smF G L) 0 n (L 0 4) = z at *
    unfold smF
    dsimp only
    rw [Nat.testBit_or]
    by_cases h6 : (L 0 6).testBit n = true
    · have := hst n (by omega) h6
      rw [h6, Bool.true_or, if_pos rfl, if_pos rfl]
      split <;> omega
    · rw [Bool.eq_false_iff.mpr h6, Bool.false_or, if_neg (show ¬ false = true by decide)]
      split <;> omega
theorem stl_0 {G L : F2} (h : stl G L = 0) : ∀ k, k < 10 → (L 0 6).testBit k = true → G 0 k ≠ 0 ∧ G 1 k = L 1 k := fun k hk hb => by
  have := fnd_z 10 h k hk
  rw [hb, Bool.true_and, Bool.or_eq_true, decide_eq_true_eq, decide_eq_true_eq] at this
  exact ⟨fun z => this (Or.inl z), Classical.byContradiction (fun z => this (Or.inr z))⟩
theorem m_stampFor {b : Mem} {w sp e X : Nat} {G L : F2} (hM : MWr b w L) (hG : MG b G sp) (hL : okL L) (hw : w < 4) (h90 : b 290 w = nI (L 0 4)) (h29 : b 269 29 = nI e) (hX : X ≤ 9999) (h4 : L 0 4 ≤ X) (he : 100 * e ≤ X) (hGX : ∀ k, k < 10 → G 1 k ≤ X) (hst : stl G L = 0) : fX12_stampFor (nI w) b = some (nI (nxt G L e), b) := by
  have hs := stl_0 hst
  have hLX : ∀ k, k < 10 → (L 0 6).testBit k = true → L 1 k ≤ X := fun k hk hb => by rw [← (hs k hk hb).2]; exact hGX k hk
  have hb := sm_b hLX hGX h4
  unfold fX12_stampFor nxt
  rw [sm_nxt (fun k hk h => (hs k hk h).2) 10 (Nat.le_refl _), inb_T hw (by omega), gdT, nI_ck (by omega), h90]
  refine loop_k (fun f j (q : Int32) => lX12_stampFor_9 (nI w) f q (nI j) b) 10 (fun j q => q = nI (itr (smF G L) 0 j (L 0 4))) (fun r => r = (nI (itr (smF G L) 0 10 (L 0 4)), b)) (Nat.zero_le _) (by omega) (s := nI (L 0 4)) rfl ?_ ?_ ?_
  · rintro r e1 rfl
    have e1' : lX12_stampFor_9 (nI w) FU (nI (L 0 4)) 0 b = some _ := e1
    have := hb 10 (Nat.le_refl _)
    rw [e1', bq]
    dsimp only
    rw [h29, show (100 : Int32) = nI 100 from rfl, pk_mul, nI_1, nI_1, f_gt_n (by omega) (by omega), bq]
    generalize itr (smF G L) 0 10 (L 0 4) = z
    rw [show max (z + 1) (100 * e + 1) = max z (100 * e) + 1 by omega]
  · rintro f q rfl
    refine ⟨_, ?_, rfl⟩
    show lX12_stampFor_9 _ _ _ _ _ = _
    rw [lX12_stampFor_9, if_pos (by decide)]
  · rintro f j q hj rfl
    refine ⟨_, ?_, rfl⟩
    show lX12_stampFor_9 _ (f + 1) _ (nI j) b = lX12_stampFor_9 _ f _ (nI (j + 1)) b
    have hbj := hb j (by omega)
    have hgj := hGX j hj
    have hcv := cV_le hL hj
    rw [itr_S]
    generalize itr (smF G L) 0 j (L 0 4) = z at *
    unfold smF
    dsimp only
    rw [lX12_stampFor_9, if_neg (by rw [li10, le_nn (by omega) (by omega)]; omega), ix10, inb_T (show 10 * w + j < 40 by omega) (by omega), nI_ck (show 10 * w + j < 2147483648 by omega), inb_T hj (by omega), nI_ck (show j < 2147483648 by omega)]
    simp only [gdT]
    have g1 : fX12_greater (nI z) (b 292 (10 * w + j)) b = some (nI (if (L 0 6).testBit j = true then max z (L 1 j) else z), b) := by
      rw [hM.2.1 j hj]
      unfold cR
      by_cases h6 : (L 0 6).testBit j = true
      · have := hLX j hj h6
        rw [if_pos h6, if_pos h6, vI_s, f_gt_n (by omega) (by omega)]
      · rw [if_neg h6, if_neg h6]; exact f_gt_v (by omega)
    have g1b : (if (L 0 6).testBit j = true then max z (L 1 j) else z) ≤ X := by
      split
      · rename_i h6; have := hLX j hj h6; omega
      · exact hbj
    rw [g1, bq, nI_1]
    generalize (if (L 0 6).testBit j = true then max z (L 1 j) else z) = z1 at *
    dsimp only
    by_cases h8 : (L 0 8).testBit j = true
    · have ec : cV L j = L 3 j + 1 := by unfold cV; rw [if_pos h8]
      rw [if_neg (by rw [hM.2.2.2 j hj, w0, eq_ww (by omega) (by omega)]; omega), if_pos h8, hG.2.2.2.1 j hj, f_gt_n (by omega) (by omega), bq, bq]
    · have ec : cV L j = 0 := by unfold cV; rw [if_neg h8]
      rw [if_pos (by rw [hM.2.2.2 j hj, ec]; rfl), if_neg h8, bq]
