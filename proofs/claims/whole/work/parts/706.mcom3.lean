/-- a commit's cells -/
theorem mk_e {sp w : Nat} {M : F2} (hw : w < 4) (i30 : M 146 11 < 30) :
    let L := gW M (Wc w); let x := nxt (gG M) L (M 146 3); let Q := itr (brS sp (M 146 12) x L) 0 10 (0, mkA w x M); let N := rtM w (mkM sp w M)
    (∀ j, j ≠ 11 → N 146 j = M 146 j) ∧ N 146 11 = M 146 11 + 1 ∧ (∀ y j, 147 ≤ y → y ≤ 151 → N y j = Q.2 y j) ∧ N 154 (M 146 12) = 1 ∧ N 157 (M 146 12) = x + 1 ∧ (∀ y j, 152 ≤ y → y < 158 → ¬ (y = 154 ∧ j = M 146 12) → ¬ (y = 157 ∧ j = M 146 12) → N y j = M y j) ∧
    (gW N (Wc w) = tkL 0 0 (up L 0 4 x)) ∧ (∀ v, v < 4 → v ≠ w → gW N (Wc v) = gW M (Wc v)) ∧ (∀ y j, 174 ≤ y → y ≠ 174 + 2 * M 146 11 → y ≠ 175 + 2 * M 146 11 → N y j = M y j) ∧
    (N (174 + 2 * M 146 11) 0 = w ∧ N (174 + 2 * M 146 11) 1 = L 0 0 - 1 ∧ N (174 + 2 * M 146 11) 2 = M 146 3 ∧ N (174 + 2 * M 146 11) 3 = x ∧ N (174 + 2 * M 146 11) 4 = L 0 6 ∧ N (174 + 2 * M 146 11) 5 = L 0 7 ∧ N (174 + 2 * M 146 11) 6 = L 0 8 ∧ N (174 + 2 * M 146 11) 7 = Q.1 ∧ N (174 + 2 * M 146 11) 8 = 0 ∧ N (174 + 2 * M 146 11) 9 = 0) ∧ ∀ k, k < 10 → N (175 + 2 * M 146 11) k = L 3 k := by
  intro L x Q N
  have hN : N = rtM w (lnM w x Q.1 L Q.2) := rfl
  have hQ : Q = itr (brS sp (M 146 12) x L) 0 10 (0, mkA w x M) := rfl
  have hL : L = gW M (Wc w) := rfl
  clear_value x
  have mo : ∀ c j, ¬ (c = 154 ∧ j = M 146 12) → ¬ (c = 157 ∧ j = M 146 12) → ¬ (c = Wc w ∧ j = 4) → mkA w x M c j = M c j := fun c j z1 z2 z3 => by unfold mkA; rw [up_o _ z3, up_o _ z2, up_o _ z1]
  have m4 : mkA w x M (Wc w) 4 = x := by unfold mkA; rw [up_e]
  have m154 : mkA w x M 154 (M 146 12) = 1 := by unfold mkA; rw [up_o _ (by unfold Wc; omega), up_o _ (by omega), up_e]
  have m157 : mkA w x M 157 (M 146 12) = x + 1 := by unfold mkA; rw [up_o _ (by unfold Wc; omega), up_e]
  have bo : ∀ c j, ¬ (147 ≤ c ∧ c ≤ 151) → Q.2 c j = mkA w x M c j := fun c j z0 => by rw [hQ]; exact brI_o z0 10
  clear_value Q
  have Q11 : Q.2 146 11 = M 146 11 := by rw [bo _ _ (by omega), mo _ _ (by omega) (by omega) (by unfold Wc; omega)]
  have Q3 : Q.2 146 3 = M 146 3 := by rw [bo _ _ (by omega), mo _ _ (by omega) (by omega) (by unfold Wc; omega)]
  have lo : ∀ c j, c ≠ 174 + 2 * M 146 11 → c ≠ 175 + 2 * M 146 11 → ¬ (c = 146 ∧ j = 11) → lnM w x Q.1 L Q.2 c j = Q.2 c j := fun c j z1 z2 z3 => by
    unfold lnM
    rw [Q11, Q3, up_o _ z3, upr_o _ (by omega), up_o _ (by omega), up_o _ (by omega), up_o _ (by omega), up_o _ (by omega), up_o _ (by omega), up_o _ (by omega), up_o _ (by omega), up_o _ (by omega), up_o _ (by omega), up_o _ (by omega)]
  have l11 : lnM w x Q.1 L Q.2 146 11 = M 146 11 + 1 := by unfold lnM; rw [up_e, Q11]
  have ll : (lnM w x Q.1 L Q.2 (174 + 2 * M 146 11) 0 = w ∧ lnM w x Q.1 L Q.2 (174 + 2 * M 146 11) 1 = L 0 0 - 1 ∧ lnM w x Q.1 L Q.2 (174 + 2 * M 146 11) 2 = M 146 3 ∧ lnM w x Q.1 L Q.2 (174 + 2 * M 146 11) 3 = x ∧ lnM w x Q.1 L Q.2 (174 + 2 * M 146 11) 4 = L 0 6 ∧ lnM w x Q.1 L Q.2 (174 + 2 * M 146 11) 5 = L 0 7 ∧ lnM w x Q.1 L Q.2 (174 + 2 * M 146 11) 6 = L 0 8 ∧ lnM w x Q.1 L Q.2 (174 + 2 * M 146 11) 7 = Q.1 ∧ lnM w x Q.1 L Q.2 (174 + 2 * M 146 11) 8 = 0 ∧ lnM w x Q.1 L Q.2 (174 + 2 * M 146 11) 9 = 0) := by
    unfold lnM
    rw [Q11, Q3]
    refine ⟨?_, ?_, ?_, ?_, ?_, ?_, ?_, ?_, ?_, ?_⟩ <;> simp (disch := omega) only [up_o, upr_o, up_e]
  have lw : ∀ k, k < 10 → lnM w x Q.1 L Q.2 (175 + 2 * M 146 11) k = L 3 k := fun k hk => by
    unfold lnM
    rw [Q11, Q3, up_o _ (by omega), upr_k _ ⟨rfl, hk⟩]
  rw [hN]
  generalize lnM w x Q.1 L Q.2 = X at *
  have ro : ∀ c j, ¬ (158 ≤ c ∧ c < 174) → rtM w X c j = X c j := fun c j h => rtM_o h hw
  have xw : ∀ v, v < 4 → ∀ f j, f < 4 → ¬ (v = w ∧ f = 0 ∧ j = 4) → X (Wc v + f) j = M (Wc v + f) j := fun v hv f j hf hn => by
    rw [lo _ _ (by unfold Wc; omega) (by unfold Wc; omega) (by unfold Wc; omega), bo _ _ (by unfold Wc; omega), mo _ _ (by unfold Wc; omega) (by unfold Wc; omega) (by unfold Wc at *; omega)]
  have x4 : X (Wc w) 4 = x := by rw [lo _ _ (by unfold Wc; omega) (by unfold Wc; omega) (by unfold Wc; omega), bo _ _ (by unfold Wc; omega), m4]
  have xg : gW X (Wc w) = up L 0 4 x := by
    rw [hL]
    funext f j
    by_cases hf : f < 4
    · by_cases e : f = 0 ∧ j = 4
      · obtain ⟨rfl, rfl⟩ := e; rw [gW_e hf, up_e]; exact x4
      · rw [gW_e hf, up_o _ (by omega), gW_e hf, xw w hw f j hf (by omega)]
    · rw [up_o _ (by omega)]; exact (if_neg hf).trans (if_neg hf).symm
  refine ⟨fun j hj => ?_, ?_, fun y j h1 h2 => ?_, ?_, ?_, fun y j h1 h2 h3 h4 => ?_, ?_, fun v hv hvw => ?_, fun y j h1 h2 h3 => ?_, ?_, fun k hk => ?_⟩
  · rw [ro _ _ (by omega), lo _ _ (by omega) (by omega) (by omega), bo _ _ (by omega), mo _ _ (by omega) (by omega) (by unfold Wc; omega)]
  · rw [ro _ _ (by omega)]; exact l11
  · rw [ro _ _ (by omega), lo _ _ (by omega) (by omega) (by omega)]
  · rw [ro _ _ (by omega), lo _ _ (by omega) (by omega) (by omega), bo _ _ (by omega)]; exact m154
  · rw [ro _ _ (by omega), lo _ _ (by omega) (by omega) (by omega), bo _ _ (by omega)]; exact m157
  · rw [ro _ _ (by omega), lo _ _ (by omega) (by omega) (by omega), bo _ _ (by omega), mo _ _ h3 h4 (by unfold Wc; omega)]
  · unfold rtM; rw [gW_pt (nz_tk gW_nf), xg]
  · unfold rtM; rw [gW_po (by unfold Wc; omega)]
    funext f j
    by_cases hf : f < 4
    · rw [gW_e hf, gW_e hf, xw v hv f j hf (by omega)]
    · exact (if_neg hf).trans (if_neg hf).symm
  · rw [ro _ _ (by omega), lo _ _ h2 h3 (by omega), bo _ _ (by omega), mo _ _ (by omega) (by omega) (by unfold Wc; omega)]
  · rw [ro _ _ (by omega), ro _ _ (by omega), ro _ _ (by omega), ro _ _ (by omega), ro _ _ (by omega), ro _ _ (by omega), ro _ _ (by omega), ro _ _ (by omega), ro _ _ (by omega), ro _ _ (by omega)]; exact ll
  · rw [ro _ _ (by omega)]; exact lw k hk
/-- the loop of a commit, in the reference -/
theorem m_comLoop {pl : Prop} {c0 : Mem} {L A : F2} {w sp i x d : Nat} {y : Int32} (hM : MWr c0 w L) (hL : okL L) (hw : w < 4) (hi : i < 64) (h1 : 1 ≤ sp) (h5 : sp ≤ 5) (hG : MG c0 (gG A) sp) (gA : ∀ k, k < 10 → A 147 k ≤ 100) (e54 : c0 269 54 = nI i) (e65 : c0 269 65 = nI x) (e0 : c0 300 i = nI 0) (e1 : c0 301 i = nI 0) (e2 : c0 302 i = nI 0) (hy : pl → y = nI d) (hB : MBy pl c0 A) :
    ∃ r, lX12_commits_102 (nI w) y FU 0 c0 = some r ∧ MG r (gG (itr (brS sp d x L) 0 10 (0, A)).2) sp ∧ r 302 i = nI (itr (brS sp d x L) 0 10 (0, A)).1 ∧ r 300 i = nI (L 0 6) ∧ r 301 i = nI (L 0 7) ∧ (∀ k, k < 10 → r 303 (10 * i + k) = wI (cV L k)) ∧ MBy pl r (itr (brS sp d x L) 0 10 (0, A)).2 ∧ (∀ j, j ≠ 30 → r 269 j = c0 269 j) ∧ (∀ m, m ≠ 269 → ¬ (281 ≤ m ∧ m ≤ 285) → ¬ (300 ≤ m ∧ m ≤ 303) → r m = c0 m) ∧ (∀ m j, 300 ≤ m → m ≤ 302 → j ≠ i → r m j = c0 m j) ∧ ∀ j, ¬ (10 * i ≤ j ∧ j < 10 * i + 10) → r 303 j = c0 303 j := by
  have t6 : L 0 6 % 2 ^ 10 = L 0 6 := Nat.mod_eq_of_lt hL.2.1
  have t7 : L 0 7 % 2 ^ 10 = L 0 7 := Nat.mod_eq_of_lt hL.2.2.1
  refine loop_k (fun f j (q : Mem) => lX12_commits_102 (nI w) y f (nI j) q) 10
    (fun k r => MG r (gG (itr (brS sp d x L) 0 k (0, A)).2) sp ∧ r 302 i = nI (itr (brS sp d x L) 0 k (0, A)).1 ∧ r 300 i = nI (L 0 6 % 2 ^ k) ∧ r 301 i = nI (L 0 7 % 2 ^ k) ∧ (∀ j, j < k → r 303 (10 * i + j) = wI (cV L j)) ∧ MBy pl r (itr (brS sp d x L) 0 k (0, A)).2 ∧ (∀ j, j ≠ 30 → r 269 j = c0 269 j) ∧ (∀ m, m ≠ 269 → ¬ (281 ≤ m ∧ m ≤ 285) → ¬ (300 ≤ m ∧ m ≤ 303) → r m = c0 m) ∧ (∀ m j, 300 ≤ m → m ≤ 302 → j ≠ i → r m j = c0 m j) ∧ ∀ j, ¬ (10 * i ≤ j ∧ j < 10 * i + 10) → r 303 j = c0 303 j)
    (fun r => MG r (gG (itr (brS sp d x L) 0 10 (0, A)).2) sp ∧ r 302 i = nI (itr (brS sp d x L) 0 10 (0, A)).1 ∧ r 300 i = nI (L 0 6 % 2 ^ 10) ∧ r 301 i = nI (L 0 7 % 2 ^ 10) ∧ (∀ j, j < 10 → r 303 (10 * i + j) = wI (cV L j)) ∧ MBy pl r (itr (brS sp d x L) 0 10 (0, A)).2 ∧ (∀ j, j ≠ 30 → r 269 j = c0 269 j) ∧ (∀ m, m ≠ 269 → ¬ (281 ≤ m ∧ m ≤ 285) → ¬ (300 ≤ m ∧ m ≤ 303) → r m = c0 m) ∧ (∀ m j, 300 ≤ m → m ≤ 302 → j ≠ i → r m j = c0 m j) ∧ ∀ j, ¬ (10 * i ≤ j ∧ j < 10 * i + 10) → r 303 j = c0 303 j)
    (Nat.zero_le _) (by omega) (s := c0) ⟨hG, e2, by rw [Nat.pow_zero, Nat.mod_one]; exact e0, by rw [Nat.pow_zero, Nat.mod_one]; exact e1, fun j hj => absurd hj (by omega), hB, fun _ _ => rfl, fun _ _ _ _ => rfl, fun _ _ _ _ _ => rfl, fun _ _ => rfl⟩ ?_ ?_ ?_
  · rintro r z1 ⟨p1, p2, p3, p4, p5⟩
    rw [t6] at p3
    rw [t7] at p4
    exact ⟨r, z1, p1, p2, p3, p4, p5⟩
  · intro f r h
    refine ⟨r, ?_, h⟩
    show lX12_commits_102 _ _ _ _ _ = _
    rw [lX12_commits_102, if_pos (by decide)]
  · rintro f k r hk ⟨p1, p2, p3, p4, p5, p6, p7, p8, p9, p10⟩
    have hcv := cV_le hL hk
    have r54 : r 269 54 = nI i := by rw [p7 _ (by omega)]; exact e54
    have r65 : r 269 65 = nI x := by rw [p7 _ (by omega)]; exact e65
    have r2 : r 292 (10 * w + k) = vI (cR L k) := by rw [p8 292 (by omega) (by omega) (by omega)]; exact hM.2.1 k hk
    have r3 : r 293 (10 * w + k) = vI (cG L k) := by rw [p8 293 (by omega) (by omega) (by omega)]; exact hM.2.2.1 k hk
    have r4 : r 294 (10 * w + k) = wI (cV L k) := by rw [p8 294 (by omega) (by omega) (by omega)]; exact hM.2.2.2 k hk
    have hcr := cR_le hL hk
    have hcg := cG_le hL hk
    have hv7 : (itr (brS sp d x L) 0 k (0, A)).2 147 k = A 147 k := by rw [brI_v, if_neg (by omega)]
    have hS : itr (brS sp d x L) 0 (k + 1) (0, A) = brS sp d x L k (itr (brS sp d x L) 0 k (0, A)) := itr_S _ _ _
    rw [hS, mod_up (th := L 0 6), mod_up (th := L 0 7)]
    have gk : gG (itr (brS sp d x L) 0 k (0, A)).2 0 k ≤ 100 := by show (itr (brS sp d x L) 0 k (0, A)).2 147 k ≤ 100; rw [hv7]; exact gA k hk
    generalize itr (brS sp d x L) 0 k (0, A) = Q at *
    -- the three writes ahead
    have u6 : ((if r 292 (10 * w + k) = -1 then some 0 else some ((1 : Int32) <<< (nI k &&& 31))) : Option Int32) = some (nI (if (L 0 6).testBit k = true then 2 ^ k else 0)) := by
      rw [sh1 (by omega)]
      unfold cR at r2
      by_cases z : (L 0 6).testBit k = true
      · rw [if_pos z] at r2 ⊢
        have := (hL.2.2.2.2 k hk).1 z
        rw [if_neg (by rw [r2, vI_s]; exact nI_m1 (by omega))]
      · rw [if_neg z] at r2 ⊢
        rw [if_pos (by rw [r2]; rfl)]; rfl
    have u7 : ((if r 293 (10 * w + k) = -1 then some 0 else some ((1 : Int32) <<< (nI k &&& 31))) : Option Int32) = some (nI (if (L 0 7).testBit k = true then 2 ^ k else 0)) := by
      rw [sh1 (by omega)]
      unfold cG at r3
      by_cases z : (L 0 7).testBit k = true
      · rw [if_pos z] at r3 ⊢
        have := (hL.2.2.2.2 k hk).2.1 z
        rw [if_neg (by rw [r3, vI_s]; exact nI_m1 (by omega))]
      · rw [if_neg z] at r3 ⊢
        rw [if_pos (by rw [r3]; rfl)]; rfl
    have o6 : (L 0 6 % 2 ^ k ||| if (L 0 6).testBit k = true then 2 ^ k else 0) = if (L 0 6).testBit k = true then L 0 6 % 2 ^ k ||| 2 ^ k else L 0 6 % 2 ^ k := by split <;> simp
    have o7 : (L 0 7 % 2 ^ k ||| if (L 0 7).testBit k = true then 2 ^ k else 0) = if (L 0 7).testBit k = true then L 0 7 % 2 ^ k ||| 2 ^ k else L 0 7 % 2 ^ k := by split <;> simp
    rw [← o6, ← o7]
    generalize hv6 : (if (L 0 6).testBit k = true then 2 ^ k else 0) = v6 at *
    generalize hv7' : (if (L 0 7).testBit k = true then 2 ^ k else 0) = v7 at *
    have ec : lX12_commits_102 (nI w) y (f + 1) (nI k) r = ((if wI (cV L k) = -2 then some (st2 (st2 (st2 r 303 (10 * i + k) (wI (cV L k))) 300 i (nI (L 0 6 % 2 ^ k ||| v6))) 301 i (nI (L 0 7 % 2 ^ k ||| v7))) else ((fX12_writes (nI k) (wI (cV L k)) y (st2 (st2 (st2 r 303 (10 * i + k) (wI (cV L k))) 300 i (nI (L 0 6 % 2 ^ k ||| v6))) 301 i (nI (L 0 7 % 2 ^ k ||| v7)))).bind fun q51 => some q51)) : Option Mem).bind fun q53 => lX12_commits_102 (nI w) y f (nI (k + 1)) q53 := by
      rw [lX12_commits_102, if_neg (by rw [li10, le_nn (by omega) (by omega)]; omega), r54, ix10, ix10, inb_T (show 10 * w + k < 40 by omega) (by omega), nI_ck (show 10 * w + k < 2147483648 by omega), inb_T (show 10 * i + k < 640 by omega) (by omega), nI_ck (show 10 * i + k < 2147483648 by omega), r4, nI_1]
      simp only [gdT]
      rw [st2_o _ _ (show ¬ (269 = 303 ∧ 54 = 10 * i + k) by omega), r54, inb_T hi (by omega), gdT, nI_ck (by omega), st2_o _ _ (show ¬ (292 = 303 ∧ 10 * w + k = 10 * i + k) by omega), u6, bq, gdT, st2_o _ _ (show ¬ (300 = 303 ∧ i = 10 * i + k) by omega), p3, nI_or, bq]
      rw [st2_o _ _ (show ¬ (269 = 300 ∧ 54 = i) by omega), st2_o _ _ (show ¬ (269 = 303 ∧ 54 = 10 * i + k) by omega), r54, inb_T hi (by omega), gdT, nI_ck (by omega), st2_o _ _ (show ¬ (293 = 300 ∧ 10 * w + k = i) by omega), st2_o _ _ (show ¬ (293 = 303 ∧ 10 * w + k = 10 * i + k) by omega), u7, bq, gdT, st2_o _ _ (show ¬ (301 = 300 ∧ i = i) by omega), st2_o _ _ (show ¬ (301 = 303 ∧ i = 10 * i + k) by omega), p4, nI_or]
      rw [st2_o _ _ (show ¬ (294 = 301 ∧ 10 * w + k = i) by omega), st2_o _ _ (show ¬ (294 = 300 ∧ 10 * w + k = i) by omega), st2_o _ _ (show ¬ (294 = 303 ∧ 10 * w + k = 10 * i + k) by omega), r4]
    have so : ∀ m, m ≠ 300 → m ≠ 301 → m ≠ 303 → (st2 (st2 (st2 r 303 (10 * i + k) (wI (cV L k))) 300 i (nI (L 0 6 % 2 ^ k ||| v6))) 301 i (nI (L 0 7 % 2 ^ k ||| v7))) m = r m := fun m m1 m2 m3 => by rw [st2_c _ _ m2, st2_c _ _ m1, st2_c _ _ m3]
    have s300 : ∀ j, (st2 (st2 (st2 r 303 (10 * i + k) (wI (cV L k))) 300 i (nI (L 0 6 % 2 ^ k ||| v6))) 301 i (nI (L 0 7 % 2 ^ k ||| v7))) 300 j = if j = i then nI (L 0 6 % 2 ^ k ||| v6) else r 300 j := fun j => by
      rw [st2_o _ _ (by omega)]
      by_cases e : j = i
      · subst e; rw [st2_eq, if_pos rfl]
      · rw [st2_o _ _ (by omega), st2_o _ _ (by omega), if_neg e]
    have s301 : ∀ j, (st2 (st2 (st2 r 303 (10 * i + k) (wI (cV L k))) 300 i (nI (L 0 6 % 2 ^ k ||| v6))) 301 i (nI (L 0 7 % 2 ^ k ||| v7))) 301 j = if j = i then nI (L 0 7 % 2 ^ k ||| v7) else r 301 j := fun j => by
      by_cases e : j = i
      · subst e; rw [st2_eq, if_pos rfl]
      · rw [st2_o _ _ (by omega), st2_o _ _ (by omega), st2_o _ _ (by omega), if_neg e]
    have s303 : ∀ j, (st2 (st2 (st2 r 303 (10 * i + k) (wI (cV L k))) 300 i (nI (L 0 6 % 2 ^ k ||| v6))) 301 i (nI (L 0 7 % 2 ^ k ||| v7))) 303 j = if j = 10 * i + k then wI (cV L k) else r 303 j := fun j => by
      rw [st2_o _ _ (by omega), st2_o _ _ (by omega)]
      by_cases e : j = 10 * i + k
      · subst e; rw [st2_eq, if_pos rfl]
      · rw [st2_o _ _ (by omega), if_neg e]
    generalize st2 (st2 (st2 r 303 (10 * i + k) (wI (cV L k))) 300 i (nI (L 0 6 % 2 ^ k ||| v6))) 301 i (nI (L 0 7 % 2 ^ k ||| v7)) = s at *
    have sG : MG s (gG Q.2) sp := p1.ot (by rw [so 269 (by omega) (by omega) (by omega)]) (by rw [so 269 (by omega) (by omega) (by omega)]) (fun c _ _ => so c (by omega) (by omega) (by omega))
    by_cases hb : (L 0 8).testBit k = true
    · have ev : cV L k = L 3 k + 1 := by unfold cV; rw [if_pos hb]
      have l3 := (hL.2.2.2.2 k hk).2.2 hb
      obtain ⟨s', t1, t2, t3, t4, t5, t6, t7, t8⟩ := m_writes (y := y) (x := x) (i := i) (k := k) (v := L 3 k) sG gk h1 h5 hi (by rw [so 269 (by omega) (by omega) (by omega)]; exact r54) (by rw [so 269 (by omega) (by omega) (by omega)]; exact r65) (by rw [so 302 (by omega) (by omega) (by omega)]; exact p2) hk l3
      obtain ⟨y1, y2, y3⟩ := br_by (sp := sp) (d := d) (x := x) (k := k) (j := 0) (q := Q) hb
      refine ⟨s', ?_, by rw [gG_br hk hb h1]; exact t2, by rw [y3]; exact t3, ?_, ?_, fun j hj => ?_, fun hp j hj => ?_, fun j hj => by rw [t7 j hj, so 269 (by omega) (by omega) (by omega)]; exact p7 j hj, fun m m1 m2 m3 => by rw [t8 m m1 m2 (by omega), so m (by omega) (by omega) (by omega)]; exact p8 m m1 m2 m3, fun m j m1 m2 hj => ?_, fun j hj => ?_⟩
      · show lX12_commits_102 _ _ _ _ _ = lX12_commits_102 _ _ _ _ _
        rw [ec, if_neg (by rw [w0, eq_ww (by omega) (by omega)]; omega), ev, wI_s, t1, bq, bq]
      · rw [t8 300 (by omega) (by omega) (by omega), s300, if_pos rfl]
      · rw [t8 301 (by omega) (by omega) (by omega), s301, if_pos rfl]
      · rw [t8 303 (by omega) (by omega) (by omega), s303]
        by_cases e : j = k
        · subst e; rw [if_pos rfl]
        · rw [if_neg (by omega)]; exact p5 j (by omega)
      · obtain ⟨y1, y2, -⟩ := br_by (sp := sp) (d := d) (x := x) (k := k) (j := j) (q := Q) hb
        obtain ⟨v1, v2⟩ := p6 hp j hj
        rw [y1, y2, t4 j hj, t5 j hj, so 284 (by omega) (by omega) (by omega), so 285 (by omega) (by omega) (by omega), hy hp, v1, v2]
        refine ⟨?_, ?_⟩
        · split <;> rfl
        · show (if (Q.2 147 k = 0 ↔ L 3 k = 0) then _ else _) = _
          split
          · rfl
          · split <;> rfl
      · by_cases e2 : m = 302
        · subst e2; rw [t6 j hj, so 302 (by omega) (by omega) (by omega)]; exact p9 302 j (by omega) (by omega) hj
        · rw [t8 m (by omega) (by omega) e2]
          rcases (show m = 300 ∨ m = 301 by omega) with rfl | rfl
          · rw [s300, if_neg hj]; exact p9 300 j (by omega) (by omega) hj
          · rw [s301, if_neg hj]; exact p9 301 j (by omega) (by omega) hj
      · rw [t8 303 (by omega) (by omega) (by omega), s303, if_neg (by omega)]; exact p10 j hj
    · have ev : cV L k = 0 := by unfold cV; rw [if_neg hb]
      have eb : brS sp d x L k Q = Q := by unfold brS; rw [if_neg hb]
      rw [eb]
      refine ⟨s, ?_, sG, by rw [so 302 (by omega) (by omega) (by omega)]; exact p2, by rw [s300, if_pos rfl], by rw [s301, if_pos rfl], fun j hj => ?_, fun hp j hj => by rw [so 284 (by omega) (by omega) (by omega), so 285 (by omega) (by omega) (by omega)]; exact p6 hp j hj, fun j hj => by rw [so 269 (by omega) (by omega) (by omega)]; exact p7 j hj, fun m m1 m2 m3 => by rw [so m (by omega) (by omega) (by omega)]; exact p8 m m1 m2 m3, fun m j m1 m2 hj => ?_, fun j hj => by rw [s303, if_neg (by omega)]; exact p10 j hj⟩
      · show lX12_commits_102 _ _ _ _ _ = lX12_commits_102 _ _ _ _ _
        rw [ec, if_pos (by rw [ev]; rfl), bq]
      · rw [s303]
        by_cases e : j = k
        · subst e; rw [if_pos rfl]
        · rw [if_neg (by omega)]; exact p5 j (by omega)
      · rcases (show m = 300 ∨ m = 301 ∨ m = 302 by omega) with rfl | rfl | rfl
        · rw [s300, if_neg hj]; exact p9 300 j (by omega) (by omega) hj
        · rw [s301, if_neg hj]; exact p9 301 j (by omega) (by omega) hj
        · rw [so 302 (by omega) (by omega) (by omega)]; exact p9 302 j (by omega) (by omega) hj
