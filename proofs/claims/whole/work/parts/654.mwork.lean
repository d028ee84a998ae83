/-! ===== the same, the reference's rows ===== -/
def cR (L : Nat → Nat → Nat) (k : Nat) : Nat := if (L 0 6).testBit k = true then L 1 k + 1 else 0
def cG (L : Nat → Nat → Nat) (k : Nat) : Nat := if (L 0 7).testBit k = true then L 2 k + 1 else 0
def cV (L : Nat → Nat → Nat) (k : Nat) : Nat := if (L 0 8).testBit k = true then L 3 k + 1 else 0
def MWr (b : Mem) (w : Nat) (L : Nat → Nat → Nat) : Prop := b 288 w = nI (L 0 3) ∧ (∀ k, k < 10 → b 292 (10 * w + k) = vI (cR L k)) ∧ (∀ k, k < 10 → b 293 (10 * w + k) = vI (cG L k)) ∧ (∀ k, k < 10 → b 294 (10 * w + k) = wI (cV L k))
def frB (w : Nat) (b b' : Mem) : Prop := (∀ c, c ≠ 288 → c ≠ 292 → c ≠ 293 → c ≠ 294 → b' c = b c) ∧ (∀ v, v ≠ w → b' 288 v = b 288 v) ∧ (∀ i, ¬ (10 * w ≤ i ∧ i < 10 * w + 10) → b' 292 i = b 292 i ∧ b' 293 i = b 293 i ∧ b' 294 i = b 294 i)
theorem frB.rf {w : Nat} {b : Mem} : frB w b b := ⟨fun _ _ _ _ _ => rfl, fun _ _ => rfl, fun _ _ => ⟨rfl, rfl, rfl⟩⟩
theorem frB.tr {w : Nat} {b b' b'' : Mem} (h : frB w b b') (h2 : frB w b' b'') : frB w b b'' := ⟨fun c h3 h4 h5 h6 => (h2.1 c h3 h4 h5 h6).trans (h.1 c h3 h4 h5 h6), fun v hv => (h2.2.1 v hv).trans (h.2.1 v hv), fun i hi => ⟨(h2.2.2 i hi).1.trans (h.2.2 i hi).1, (h2.2.2 i hi).2.1.trans (h.2.2 i hi).2.1, (h2.2.2 i hi).2.2.trans (h.2.2 i hi).2.2⟩⟩
theorem frB.sum {w : Nat} {b : Mem} {v : Int32} : frB w b (st2 b 288 w v) := ⟨fun c h _ _ _ => st2_c _ _ h, fun u hu => st2_o _ _ (fun z => hu z.2), fun i _ => ⟨st2_o _ _ (by omega), st2_o _ _ (by omega), st2_o _ _ (by omega)⟩⟩
theorem frB.row {w c k : Nat} {b : Mem} {v : Int32} (hc : c = 292 ∨ c = 293 ∨ c = 294) (hk : k < 10) : frB w b (st2 b c (10 * w + k) v) := ⟨fun n _ h2 h3 h4 => st2_c _ _ (by omega), fun u hu => st2_o _ _ (by omega), fun i hi => ⟨st2_o _ _ (by omega), st2_o _ _ (by omega), st2_o _ _ (by omega)⟩⟩
def MO (m : Option Mem) (w : Nat) (b : Mem) (L : Nat → Nat → Nat) : Prop := ∃ b', m = some b' ∧ MWr b' w L ∧ frB w b b'
theorem MO.rf {w : Nat} {b : Mem} {L : Nat → Nat → Nat} (h : MWr b w L) : MO (some b) w b L := ⟨b, rfl, h, frB.rf⟩
theorem MO.bind {w : Nat} {b : Mem} {L L' : Nat → Nat → Nat} {m : Option Mem} {f : Mem → Option Mem} (h : MO m w b L) (h2 : ∀ b', MWr b' w L → frB w b b' → MO (f b') w b' L') : MO (m.bind f) w b L' := by
  obtain ⟨a1, rfl, h3, h4⟩ := h
  obtain ⟨a2, e, h5, h6⟩ := h2 a1 h3 h4
  exact ⟨a2, e, h5, h4.tr h6⟩
def MG (b : Mem) (G : Nat → Nat → Nat) (sp : Nat) : Prop := b 269 25 = nI sp ∧ b 269 30 = nI (thr (G 0)) ∧ (∀ k, k < 10 → b 281 k = nI (G 0 k - 1)) ∧ (∀ k, k < 10 → b 282 k = nI (G 1 k)) ∧ (∀ k, k < 10 → b 283 k = nI (G 2 k))
theorem MG.fr {b b' : Mem} {G : Nat → Nat → Nat} {sp w : Nat} (h : MG b G sp) (hf : frB w b b') : MG b' G sp := by
  unfold MG
  rw [hf.1 269 (by omega) (by omega) (by omega) (by omega), hf.1 281 (by omega) (by omega) (by omega) (by omega), hf.1 282 (by omega) (by omega) (by omega) (by omega), hf.1 283 (by omega) (by omega) (by omega) (by omega)]
  exact h
theorem m_nodeOf {b : Mem} {sp n : Nat} (h : b 269 25 = nI sp) (h1 : 1 ≤ sp) (h5 : sp ≤ 5) (hn : n ≤ 9) : fX12_nodeOf (nI n) b = some (nI (n / sp), b) := by
  unfold fX12_nodeOf
  rw [h, gd_ite _ _ (decide_eq_true (by rw [li0, eq_nn (by omega) (by omega)]; omega)), nI_dv (by omega) (by omega) (by omega)]
theorem ix10 {w k : Nat} : (10 : Int32) * nI w + nI k = nI (10 * w + k) := by rw [li10, pk_mul, nI_add]
theorem cR_le {L : Nat → Nat → Nat} (h : okL L) {k : Nat} (hk : k < 10) : cR L k ≤ 10000 := by
  unfold cR; split
  · rename_i hb; have := (h.2.2.2.2 k hk).1 hb; omega
  · omega
theorem cG_le {L : Nat → Nat → Nat} (h : okL L) {k : Nat} (hk : k < 10) : cG L k ≤ 10000 := by
  unfold cG; split
  · rename_i hb; have := (h.2.2.2.2 k hk).2.1 hb; omega
  · omega
theorem cV_le {L : Nat → Nat → Nat} (h : okL L) {k : Nat} (hk : k < 10) : cV L k ≤ 101 := by
  unfold cV; split
  · rename_i hb; have := (h.2.2.2.2 k hk).2.2 hb; omega
  · omega
theorem m_isInView {b : Mem} {w k sp : Nat} {G L : Nat → Nat → Nat} (hM : MWr b w L) (hG : MG b G sp) (hL : okL L) (hw : w < 4) (hk : k < 10) : fX12_isInView (nI w) (nI k) b = some (decide (vw G L k ≠ 0), b) := by
  have hc := cV_le hL hk
  have ht := thr_lt (G 0)
  unfold fX12_isInView
  rw [ix10, inb_T (by omega) (by omega), gdT, nI_ck (by omega), hM.2.2.2 k hk]
  unfold vw
  by_cases hb : (L 0 8).testBit k = true
  · have e : cV L k = L 3 k + 1 := by unfold cV; rw [if_pos hb]
    rw [if_neg (by rw [w0, eq_ww (by omega) (by omega)]; omega), if_pos hb]
    by_cases h3 : L 3 k = 0
    · rw [if_pos (by rw [e, h3]; rfl)]; simp [h3]
    · rw [if_neg (by rw [v0, eq_wv (by omega) (by omega)]; omega)]; simp [h3]
  · have e : cV L k = 0 := by unfold cV; rw [if_neg hb]
    rw [if_pos (by rw [e]; rfl), if_neg hb, hG.2.1, f_has (by omega) (by omega), bq, thr_bit hk]
theorem m_view {b : Mem} {w k sp : Nat} {G L : Nat → Nat → Nat} (hM : MWr b w L) (hG : MG b G sp) (hL : okL L) (hw : w < 4) (hk : k < 10) : fX12_view (nI w) (nI k) b = some (nI (vw G L k - 1), b) := by
  have hc := cV_le hL hk
  unfold fX12_view
  rw [m_isInView hM hG hL hw hk, bq, ix10, inb_T (by omega) (by omega), gdT, nI_ck (by omega), hM.2.2.2 k hk]
  dsimp only
  by_cases h0 : vw G L k = 0
  · rw [if_neg (by simp [h0]), h0]; rfl
  · rw [if_pos (by simp [h0])]
    unfold vw at h0 ⊢
    by_cases hb : (L 0 8).testBit k = true
    · have e : cV L k = L 3 k + 1 := by unfold cV; rw [if_pos hb]
      rw [if_pos hb] at h0
      rw [if_neg (by rw [w0, eq_ww (by omega) (by omega)]; omega), if_pos hb, e, wI_s, vI_p (by omega)]
    · have e : cV L k = 0 := by unfold cV; rw [if_neg hb]
      rw [if_pos (by rw [e]; rfl), if_neg hb, inb_T (by omega) (by omega), gdT, nI_ck (by omega), hG.2.2.1 k hk]
theorem st2_id (σ : Mem) {n k : Nat} {v : Int32} (h : σ n k = v) : st2 σ n k v = σ := by
  funext a j
  rw [st2_g]
  split
  · rename_i e; rw [e.1, e.2, h]
  · rfl
theorem MWr.gd {b : Mem} {w n : Nat} {G L : Nat → Nat → Nat} (hM : MWr b w L) (hn : n < 10) (hb : ¬ (L 0 7).testBit n = true) : MWr (st2 b 293 (10 * w + n) (nI (G 2 n))) w (up (up L 0 7 (L 0 7 ||| 2 ^ n)) 2 n (G 2 n)) := by
  obtain ⟨h1, h2, h3, h4⟩ := hM
  refine ⟨by rw [st2_o _ _ (by omega), up_o _ (by omega), up_o _ (by omega)]; exact h1, fun k hk => ?_, fun k hk => ?_, fun k hk => ?_⟩
  · rw [st2_o _ _ (by omega), h2 k hk]; unfold cR; rw [up_o _ (by omega), up_o _ (by omega), up_o _ (by omega), up_o _ (by omega)]
  · unfold cG
    rw [up_o _ (by omega), up_k _ ⟨rfl, rfl⟩]
    by_cases e : k = n
    · subst e; rw [st2_eq, if_pos (or_bit.mpr (Or.inr rfl)), up_e]; rfl
    · rw [st2_o _ _ (by omega), h3 k hk, up_o _ (by omega), up_o _ (by omega)]
      unfold cG
      by_cases hk7 : (L 0 7).testBit k = true
      · rw [if_pos hk7, if_pos (or_bit.mpr (Or.inl hk7))]
      · rw [if_neg hk7, if_neg (fun z => (or_bit.mp z).elim hk7 e)]
  · rw [st2_o _ _ (by omega), h4 k hk]; unfold cV; rw [up_o _ (by omega), up_o _ (by omega), up_o _ (by omega), up_o _ (by omega)]
theorem MWr.rd {b : Mem} {w n : Nat} {G L : Nat → Nat → Nat} (hM : MWr b w L) (hn : n < 10) (hb : ¬ (L 0 6).testBit n = true) : MWr (st2 b 292 (10 * w + n) (nI (G 1 n))) w (up (up L 0 6 (L 0 6 ||| 2 ^ n)) 1 n (G 1 n)) := by
  obtain ⟨h1, h2, h3, h4⟩ := hM
  refine ⟨by rw [st2_o _ _ (by omega), up_o _ (by omega), up_o _ (by omega)]; exact h1, fun k hk => ?_, fun k hk => ?_, fun k hk => ?_⟩
  · unfold cR
    rw [up_o _ (by omega), up_k _ ⟨rfl, rfl⟩]
    by_cases e : k = n
    · subst e; rw [st2_eq, if_pos (or_bit.mpr (Or.inr rfl)), up_e]; rfl
    · rw [st2_o _ _ (by omega), h2 k hk, up_o _ (by omega), up_o _ (by omega)]
      unfold cR
      by_cases hk7 : (L 0 6).testBit k = true
      · rw [if_pos hk7, if_pos (or_bit.mpr (Or.inl hk7))]
      · rw [if_neg hk7, if_neg (fun z => (or_bit.mp z).elim hk7 e)]
  · rw [st2_o _ _ (by omega), h3 k hk]; unfold cG; rw [up_o _ (by omega), up_o _ (by omega), up_o _ (by omega), up_o _ (by omega)]
  · rw [st2_o _ _ (by omega), h4 k hk]; unfold cV; rw [up_o _ (by omega), up_o _ (by omega), up_o _ (by omega), up_o _ (by omega)]
theorem MWr.wr {b : Mem} {w n v : Nat} {L : Nat → Nat → Nat} (hM : MWr b w L) (hn : n < 10) : MWr (st2 b 294 (10 * w + n) (vI v)) w (wrt n v L) := by
  obtain ⟨h1, h2, h3, h4⟩ := hM
  unfold wrt
  refine ⟨by rw [st2_o _ _ (by omega), up_o _ (by omega), up_o _ (by omega)]; exact h1, fun k hk => ?_, fun k hk => ?_, fun k hk => ?_⟩
  · rw [st2_o _ _ (by omega), h2 k hk]; unfold cR; rw [up_o _ (by omega), up_o _ (by omega), up_o _ (by omega), up_o _ (by omega)]
  · rw [st2_o _ _ (by omega), h3 k hk]; unfold cG; rw [up_o _ (by omega), up_o _ (by omega), up_o _ (by omega), up_o _ (by omega)]
  · unfold cV
    rw [up_o _ (by omega), up_k _ ⟨rfl, rfl⟩]
    by_cases e : k = n
    · subst e; rw [st2_eq, if_pos (or_bit.mpr (Or.inr rfl)), up_e]; rfl
    · rw [st2_o _ _ (by omega), h4 k hk, up_o _ (by omega), up_o _ (by omega)]
      unfold cV
      by_cases hk7 : (L 0 8).testBit k = true
      · rw [if_pos hk7, if_pos (or_bit.mpr (Or.inl hk7))]
      · rw [if_neg hk7, if_neg (fun z => (or_bit.mp z).elim hk7 e)]
theorem MWr.sm {b : Mem} {w v : Nat} {L : Nat → Nat → Nat} (hM : MWr b w L) : MWr (st2 b 288 w (nI v)) w (up L 0 3 v) := by
  obtain ⟨h1, h2, h3, h4⟩ := hM
  refine ⟨by rw [st2_eq, up_e], fun k hk => ?_, fun k hk => ?_, fun k hk => ?_⟩
  · rw [st2_o _ _ (by omega), h2 k hk]; unfold cR; rw [up_o _ (by omega), up_o _ (by omega)]
  · rw [st2_o _ _ (by omega), h3 k hk]; unfold cG; rw [up_o _ (by omega), up_o _ (by omega)]
  · rw [st2_o _ _ (by omega), h4 k hk]; unfold cV; rw [up_o _ (by omega), up_o _ (by omega)]
theorem m_guards {b : Mem} {w n sp : Nat} {G L : Nat → Nat → Nat} (hM : MWr b w L) (hG : MG b G sp) (hL : okL L) (hw : w < 4) (hn : n < 10) : MO (fX12_guards (nI w) (nI n) b) w b (nGd G n L) := by
  have hc := cG_le hL hn
  unfold fX12_guards nGd
  rw [ix10, inb_T (show 10 * w + n < 40 by omega) (by omega), inb_T hn (by omega)]
  simp only [gdT]
  rw [nI_ck (show 10 * w + n < 2147483648 by omega), nI_ck (show n < 2147483648 by omega), hG.2.2.2.2 n hn]
  by_cases hb : (L 0 7).testBit n = true
  · have e : cG L n = L 2 n + 1 := by unfold cG; rw [if_pos hb]
    rw [if_neg (by rw [hM.2.2.1 n hn, v0, eq_vv (by omega) (by omega)]; omega), if_pos hb, st2_id _ rfl]; exact MO.rf hM
  · have e : cG L n = 0 := by unfold cG; rw [if_neg hb]
    rw [if_pos (by rw [hM.2.2.1 n hn, e]; rfl), if_neg hb]
    exact ⟨_, rfl, hM.gd hn hb, frB.row (by omega) hn⟩
theorem m_looks {b : Mem} {w k sp : Nat} {G L : Nat → Nat → Nat} (hM : MWr b w L) (hG : MG b G sp) (h1 : 1 ≤ sp) (h5 : sp ≤ 5) (hL : okL L) (gG : okG G) (hw : w < 4) (hk : k < 10) : MO (fX12_looks (nI w) (nI k) b) w b (lk sp G k L) := by
  have hc := cV_le hL hk
  have hr := cR_le hL hk
  have ht := thr_lt (G 0)
  have d9 := dv9 (n := k) (sp := sp) (by omega)
  unfold fX12_looks lk
  rw [ix10, inb_T (show 10 * w + k < 40 by omega) (by omega), inb_T hk (by omega)]
  simp only [gdT]
  rw [nI_ck (show 10 * w + k < 2147483648 by omega), nI_ck (show k < 2147483648 by omega), hM.2.2.2 k hk]
  refine MO.bind (L := lkA sp G k L) ?_ (fun b' hM' hf => ?_)
  · unfold lkA
    by_cases hb : (L 0 8).testBit k = true
    · have e : cV L k = L 3 k + 1 := by unfold cV; rw [if_pos hb]
      have hne : ¬ wI (cV L k) = -2 := by rw [w0, eq_ww (by omega) (by omega)]; omega
      rw [if_neg hne, if_neg hne, if_pos hb]; exact MO.rf hM
    · have e : cV L k = 0 := by unfold cV; rw [if_neg hb]
      have he : wI (cV L k) = -2 := by rw [e]; rfl
      rw [if_pos he, if_neg hb, hG.2.1, f_has (by omega) (by omega), bq, thr_bit hk]
      dsimp only
      by_cases h0 : G 0 k = 0
      · rw [if_neg (by simp [h0]), if_pos h0, if_pos (by rw [hM.2.2.2 k hk]; exact he), m_nodeOf hG.1 h1 h5 (by omega), bq]
        exact MO.bind (m_guards hM hG hL hw (by omega)) (fun b' h _ => MO.rf h)
      · rw [if_pos (by simp [h0]), if_neg h0]
        unfold nRd
        by_cases h6 : (L 0 6).testBit k = true
        · have e6 : cR L k = L 1 k + 1 := by unfold cR; rw [if_pos h6]
          rw [if_neg (by rw [hM.2.1 k hk, v0, eq_vv (by omega) (by omega)]; omega), bq, st2_id _ rfl, if_pos h6]; exact MO.rf hM
        · have e6 : cR L k = 0 := by unfold cR; rw [if_neg h6]
          rw [if_pos (by rw [hM.2.1 k hk, e6]; rfl), bq, if_neg h6, hG.2.2.2.1 k hk]
          exact ⟨_, rfl, hM.rd hk h6, frB.row (by omega) hk⟩
  · have hL' : okL (lkA sp G k L) := hL.olkA gG hk
    have ev : vw G (lkA sp G k L) k = vw G L k := vw_lkA
    have hv := vw_le gG hL hk
    unfold jX12_looks_84
    rw [inb_T hw (by omega), gdT, m_view hM' (hG.fr hf) hL' hw hk, bq, ev, gdT, nI_ck (by omega)]
    dsimp only
    rw [hM'.1, lkA_02 (by omega), nI_add, show (100 : Int32) = nI 100 from rfl, nI_md (by have := hL.1; omega) (by omega) (by omega)]
    exact ⟨_, rfl, hM'.sm, frB.sum⟩
theorem m_scans {b : Mem} {w sp k o : Nat} {G L : Nat → Nat → Nat} (hM : MWr b w L) (hG : MG b G sp) (h1 : 1 ≤ sp) (h5 : sp ≤ 5) (hL : okL L) (gG : okG G) (hw : w < 4) (hk : k ≤ o) (ho : o ≤ 9) : MO (fX12_scans (nI w) (nI k) (nI o) b) w b (scn sp G k o L) := by
  have hd := Nat.div_le_div_right (c := sp) hk
  have d9 := dv9 (n := o) (sp := sp) ho
  unfold fX12_scans scn
  rw [m_nodeOf hG.1 h1 h5 (by omega), bq]
  dsimp only
  refine MO.bind (L := itr (nGd G) (k / sp) (o / sp + 1 - k / sp) L) ?_ (fun b' hM' hf => ?_)
  · refine loop_go (fun f j s => lX12_scans_7 (nI w) (nI k) (nI o) f (nI j) s) (o / sp + 1) (fun j s => k / sp ≤ j ∧ MWr s w (itr (nGd G) (k / sp) (j - k / sp) L) ∧ frB w b s) (fun r => MWr r w (itr (nGd G) (k / sp) (o / sp + 1 - k / sp) L) ∧ frB w b r) ?_ ?_ (by omega) (by omega) ⟨Nat.le_refl _, by rw [Nat.sub_self]; exact hM, frB.rf⟩
    · rintro f q ⟨-, q1, q2⟩
      refine ⟨q, ?_, q1, q2⟩
      show lX12_scans_7 (nI w) (nI k) (nI o) (f + 1) (nI (o / sp + 1)) q = some q
      rw [lX12_scans_7, m_nodeOf (hG.fr q2).1 h1 h5 (by omega), bq]
      dsimp only
      rw [if_pos (by rw [lt_nn (by omega) (by omega)]; omega)]
    · rintro f j q hj ⟨h0, q1, q2⟩
      have hL2 : okL (itr (nGd G) (k / sp) (j - k / sp) L) := okL.oitr (fun k L h1 h2 => h2.onGd gG h1) hL _ (by omega)
      have hG2 := hG.fr q2
      obtain ⟨a', e1, e2, e3⟩ := m_guards (G := G) q1 hG2 hL2 hw (show j < 10 by omega)
      refine ⟨a', ?_, by omega, ?_, q2.tr e3⟩
      · show lX12_scans_7 (nI w) (nI k) (nI o) (f + 1) (nI j) q = lX12_scans_7 (nI w) (nI k) (nI o) f (nI (j + 1)) a'
        rw [lX12_scans_7, m_nodeOf hG2.1 h1 h5 (by omega), bq]
        dsimp only
        rw [if_neg (by rw [lt_nn (by omega) (by omega)]; omega), e1, bq, nI_1]
      · rw [show j + 1 - k / sp = (j - k / sp) + 1 by omega]
        show MWr a' w (nGd G (k / sp + (j - k / sp)) _)
        rw [show k / sp + (j - k / sp) = j by omega]
        exact e2
  · have hL1 : okL (itr (nGd G) (k / sp) (o / sp + 1 - k / sp) L) := okL.oitr (fun k L h1 h2 => h2.onGd gG h1) hL _ (by omega)
    generalize itr (nGd G) (k / sp) (o / sp + 1 - k / sp) L = L1 at *
    have hG1 := hG.fr hf
    refine MO.bind (L := itr (lkT sp G) k (o + 1 - k) L1) ?_ (fun a' h1 _ => MO.rf h1)
    refine loop_go (fun f j s => lX12_scans_33 (nI w) (nI o) f (nI j) s) (o + 1) (fun j s => k ≤ j ∧ MWr s w (itr (lkT sp G) k (j - k) L1) ∧ frB w b' s) (fun r => MWr r w (itr (lkT sp G) k (o + 1 - k) L1) ∧ frB w b' r) ?_ ?_ (by omega) (by omega) ⟨Nat.le_refl _, by rw [Nat.sub_self]; exact hM', frB.rf⟩
    · rintro f q ⟨-, q1, q2⟩
      refine ⟨q, ?_, q1, q2⟩
      show lX12_scans_33 (nI w) (nI o) (f + 1) (nI (o + 1)) q = some q
      rw [lX12_scans_33, if_pos (by rw [lt_nn (by omega) (by omega)]; omega)]
    · rintro f j q hj ⟨h0, q1, q2⟩
      have hL2 : okL (itr (lkT sp G) k (j - k) L1) := okL.oitr (fun k L h1 h2 => h2.olkT gG h1) hL1 _ (by omega)
      have hG2 := hG1.fr q2
      have hv := vw_le gG hL2 (show j < 10 by omega)
      have e5 : itr (lkT sp G) k (j + 1 - k) L1 = lkT sp G j (itr (lkT sp G) k (j - k) L1) := by
        rw [show j + 1 - k = (j - k) + 1 by omega]
        show lkT sp G (k + (j - k)) _ = _
        rw [show k + (j - k) = j by omega]
      have e4 : lX12_scans_33 (nI w) (nI o) (f + 1) (nI j) q = ((if decide (vw G (itr (lkT sp G) k (j - k) L1) j ≠ 0) = true then (fX12_looks (nI w) (nI j) q).bind fun q14 => some q14 else some q) : Option Mem).bind fun q16 => lX12_scans_33 (nI w) (nI o) f (nI (j + 1)) q16 := by
        rw [lX12_scans_33, if_neg (by rw [lt_nn (by omega) (by omega)]; omega), m_isInView q1 hG2 hL2 hw (by omega), bq, nI_1]
      by_cases h0 : vw G (itr (lkT sp G) k (j - k) L1) j = 0
      · refine ⟨q, ?_, by omega, ?_, q2⟩
        · show lX12_scans_33 (nI w) (nI o) (f + 1) (nI j) q = lX12_scans_33 (nI w) (nI o) f (nI (j + 1)) q
          rw [e4, if_neg (by simp [h0]), bq]
        · rw [e5, lkT_z h0]; exact q1
      · obtain ⟨a2, p1, p2, p3⟩ := m_looks q1 hG2 h1 h5 hL2 gG hw (show j < 10 by omega)
        refine ⟨a2, ?_, by omega, ?_, q2.tr p3⟩
        · show lX12_scans_33 (nI w) (nI o) (f + 1) (nI j) q = lX12_scans_33 (nI w) (nI o) f (nI (j + 1)) a2
          rw [e4, if_pos (by simp [h0]), p1, bq, bq]
        · rw [e5, lkT_n h0]; exact p2
theorem m_stepDoes {b : Mem} {w sp t k o : Nat} {G L : Nat → Nat → Nat} (hM : MWr b w L) (hG : MG b G sp) (h1 : 1 ≤ sp) (h5 : sp ≤ 5) (hL : okL L) (gG : okG G) (hw : w < 4) (hs : stepc t k o) : MO (fX12_stepDoes (nI w) (nI t) (nI k) (vI o) b) w b (stp sp G t k o L) := by
  obtain ⟨s1, s2, s3, s4, s5⟩ := hs
  have e99 := hL.1
  unfold fX12_stepDoes
  rw [ix10, inb_T (show 10 * w + k < 40 by omega) (by omega), inb_T hw (by omega), nI_ck (show 10 * w + k < 2147483648 by omega), nI_ck (show w < 2147483648 by omega)]
  simp only [gdT]
  rcases (show t = 0 ∨ t = 1 ∨ t = 2 ∨ t = 3 ∨ t = 4 ∨ t = 5 by omega) with rfl | rfl | rfl | rfl | rfl | rfl
  · rw [if_pos n00]; exact MO.bind (m_looks hM hG h1 h5 hL gG hw (by omega)) (fun a' h1 _ => MO.rf h1)
  · rw [if_neg (by decide), if_pos n11]; exact ⟨_, rfl, hM.wr (v := 0) (by omega), frB.row (by omega) (by omega)⟩
  · rw [if_neg (by decide), if_neg (by decide), if_pos n22, hM.1, ← vI_s (L 0 3)]; exact ⟨_, rfl, hM.wr (by omega), frB.row (by omega) (by omega)⟩
  · rw [if_neg (by decide), if_neg (by decide), if_neg (by decide), if_pos n33]; exact ⟨_, rfl, hM.wr (by omega), frB.row (by omega) (by omega)⟩
  · rw [if_neg (by decide), if_neg (by decide), if_neg (by decide), if_neg (by decide), if_pos n44]
    refine MO.bind (m_looks hM hG h1 h5 hL gG hw (by omega)) (fun b' q1 hf => ?_)
    have hL1 : okL (lk sp G k L) := hL.olk gG (by omega)
    have hv := vw_le gG hL1 (show k < 10 by omega)
    rw [m_view q1 (hG.fr hf) hL1 hw (by omega), bq]
    dsimp only
    rw [vI_p (show 0 < o by omega), nI_add, show (100 : Int32) = nI 100 from rfl, nI_md (by omega) (by omega) (by omega), ← vI_s ((vw G (lk sp G k L) k - 1 + (o - 1)) % 100)]
    exact ⟨_, rfl, q1.wr (by omega), frB.row (by omega) (by omega)⟩
  · rw [if_neg (by decide), if_neg (by decide), if_neg (by decide), if_neg (by decide), if_neg (by decide), vI_p (show 0 < o by omega)]
    exact MO.bind (m_scans hM hG h1 h5 hL gG hw (by omega) (by omega)) (fun a' h1 _ => MO.rf h1)
/-- the book as the reference has it -/
def MB (b : Mem) (B : Nat → Nat → Nat) (n : Nat) : Prop := b 269 24 = nI n ∧ b 269 27 = nI (B 0 0) ∧ MBk (fun i => b 276 (134 * n + i)) B
theorem MB.nt {b : Mem} {B : Nat → Nat → Nat} {n : Nat} (h : MB b B n) (hn : n < 2) (gB : okB B) {t : Nat} (ht : t < B 0 0) : fX12_stepsOf (nI t) b = some (nI (B 1 t), b) := by
  have g1 := gB.1
  unfold fX12_stepsOf
  rw [show (0 : Int32) = nI 0 from rfl, m_ofTask hn h.1 (by omega) (by omega), bq]
  have := (h.2.2.2 t ht).1
  dsimp only at this ⊢
  rw [← this]; congr 2; congr 1; omega
theorem MB.st {b : Mem} {B : Nat → Nat → Nat} {n : Nat} (h : MB b B n) (hn : n < 2) (gB : okB B) {t i : Nat} (ht : t < B 0 0) (hi : i < B 1 t) : fX12_ofTask (nI t) (nI (1 + 3 * i)) b = some (nI (B 2 (6 * t + i)), b) ∧ fX12_ofTask (nI t) (nI (1 + 3 * i + 1)) b = some (nI (B 3 (6 * t + i)), b) ∧ fX12_ofTask (nI t) (nI (1 + 3 * i + 2)) b = some (vI (B 4 (6 * t + i)), b) := by
  have g1 := gB.1
  have g2 := gB.2.1 t
  obtain ⟨k1, k2, k3⟩ := (h.2.2.2 t ht).2 i hi
  dsimp only at k1 k2 k3
  refine ⟨?_, ?_, ?_⟩
  · rw [m_ofTask hn h.1 (by omega) (by omega), ← k1]; congr 2; congr 1; omega
  · rw [m_ofTask hn h.1 (by omega) (by omega), ← k2]; congr 2; congr 1; omega
  · rw [m_ofTask hn h.1 (by omega) (by omega), ← k3]; congr 2; congr 1; omega
/-- nothing but a worker's rows, sum, steps has changed -/
def frS (w : Nat) (b b' : Mem) : Prop := (∀ c, c ≠ 287 → c ≠ 288 → c ≠ 292 → c ≠ 293 → c ≠ 294 → b' c = b c) ∧ (∀ v, v ≠ w → b' 287 v = b 287 v ∧ b' 288 v = b 288 v) ∧ (∀ i, ¬ (10 * w ≤ i ∧ i < 10 * w + 10) → b' 292 i = b 292 i ∧ b' 293 i = b 293 i ∧ b' 294 i = b 294 i)
theorem frS.rf {w : Nat} {b : Mem} : frS w b b := ⟨fun _ _ _ _ _ _ => rfl, fun _ _ => ⟨rfl, rfl⟩, fun _ _ => ⟨rfl, rfl, rfl⟩⟩
theorem frS.tr {w : Nat} {b b' b'' : Mem} (h : frS w b b') (h2 : frS w b' b'') : frS w b b'' := ⟨fun c h7 h3 h4 h5 h6 => (h2.1 c h7 h3 h4 h5 h6).trans (h.1 c h7 h3 h4 h5 h6), fun v hv => ⟨(h2.2.1 v hv).1.trans (h.2.1 v hv).1, (h2.2.1 v hv).2.trans (h.2.1 v hv).2⟩, fun i hi => ⟨(h2.2.2 i hi).1.trans (h.2.2 i hi).1, (h2.2.2 i hi).2.1.trans (h.2.2 i hi).2.1, (h2.2.2 i hi).2.2.trans (h.2.2 i hi).2.2⟩⟩
theorem frB.S {w : Nat} {b b' : Mem} {v : Int32} (h : frB w b b') : frS w b (st2 b' 287 w v) := ⟨fun c h1 h2 h3 h4 h5 => by rw [st2_c _ _ h1]; exact h.1 c h2 h3 h4 h5, fun u hu => ⟨by rw [st2_o _ _ (fun z => hu z.2)]; exact congrFun (h.1 287 (by omega) (by omega) (by omega) (by omega)) u, by rw [st2_o _ _ (by omega)]; exact h.2.1 u hu⟩, fun i hi => ⟨by rw [st2_o _ _ (by omega)]; exact (h.2.2 i hi).1, by rw [st2_o _ _ (by omega)]; exact (h.2.2 i hi).2.1, by rw [st2_o _ _ (by omega)]; exact (h.2.2 i hi).2.2⟩⟩
theorem MG.frS {b b' : Mem} {G : Nat → Nat → Nat} {sp w : Nat} (h : MG b G sp) (hf : frS w b b') : MG b' G sp := by
  unfold MG
  rw [hf.1 269 (by omega) (by omega) (by omega) (by omega) (by omega), hf.1 281 (by omega) (by omega) (by omega) (by omega) (by omega), hf.1 282 (by omega) (by omega) (by omega) (by omega) (by omega), hf.1 283 (by omega) (by omega) (by omega) (by omega) (by omega)]
  exact h
theorem MB.frS {b b' : Mem} {B : Nat → Nat → Nat} {n w : Nat} (h : MB b B n) (hf : frS w b b') : MB b' B n := by
  unfold MB
  rw [hf.1 269 (by omega) (by omega) (by omega) (by omega) (by omega), hf.1 276 (by omega) (by omega) (by omega) (by omega) (by omega)]
  exact h
theorem MWr.st {b : Mem} {w v : Nat} {x : Int32} {L : Nat → Nat → Nat} (hM : MWr b w L) : MWr (st2 b 287 w x) w (up L 0 2 v) := by
  obtain ⟨h1, h2, h3, h4⟩ := hM
  refine ⟨by rw [st2_o _ _ (by omega), up_o _ (by omega)]; exact h1, fun k hk => ?_, fun k hk => ?_, fun k hk => ?_⟩
  · rw [st2_o _ _ (by omega), h2 k hk]; unfold cR; rw [up_o _ (by omega), up_o _ (by omega)]
  · rw [st2_o _ _ (by omega), h3 k hk]; unfold cG; rw [up_o _ (by omega), up_o _ (by omega)]
  · rw [st2_o _ _ (by omega), h4 k hk]; unfold cV; rw [up_o _ (by omega), up_o _ (by omega)]
theorem m_steps {b : Mem} {w sp n t i : Nat} {G B L : Nat → Nat → Nat} (hM : MWr b w L) (hG : MG b G sp) (h1 : 1 ≤ sp) (h5 : sp ≤ 5) (hL : okL L) (gG : okG G) (hw : w < 4) (hB : MB b B n) (hn : n < 2) (gB : okB B) (ht : t < B 0 0) (e0 : b 286 w = nI t) (e2 : b 287 w = nI i) (h0 : L 0 0 = t + 1) (h2 : L 0 2 = i) (hi : i < B 1 t) : ∃ b', fX12_steps (nI w) b = some (true, b') ∧ MWr b' w (dst sp G B L) ∧ b' 287 w = nI (i + 1) ∧ frS w b b' := by
  have g1 := gB.1
  have g2 := gB.2.1 t
  have gs := gB.2.2 (6 * t + i)
  obtain ⟨s1, s2, s3⟩ := hB.st hn gB ht hi
  obtain ⟨b1, p1, p2, p3⟩ := m_stepDoes (o := B 4 (6 * t + i)) hM hG h1 h5 hL gG hw gs
  have e7 : b1 287 = b 287 := p3.1 287 (by omega) (by omega) (by omega) (by omega)
  unfold fX12_steps
  rw [inb_T hw (by omega), nI_ck (show w < 2147483648 by omega), e0, e2, hB.nt hn gB ht]
  simp only [gdT, bq]
  rw [if_neg (nI_m1 (by omega)), if_neg (by rw [eq_nn (by omega) (by omega)]; omega), e2, show (3 : Int32) = nI 3 from rfl, show (1 : Int32) = nI 1 from rfl, show (2 : Int32) = nI 2 from rfl, pk_mul, nI_add, nI_add, nI_add, s1, bq]
  dsimp only
  rw [s2, bq]
  dsimp only
  rw [s3, bq]
  dsimp only
  rw [p1, bq, e7, e2, nI_add]
  refine ⟨_, rfl, ?_, st2_eq _ _ _ _, p3.S⟩
  unfold dst
  rw [h0, h2, show 6 * (t + 1 - 1) + i = 6 * t + i by omega]
  exact p2.st
theorem m_steps_no {b : Mem} {w : Nat} (hw : w < 4) (e0 : b 286 w = -1) : fX12_steps (nI w) b = some (false, b) := by
  unfold fX12_steps
  rw [inb_T hw (by omega), nI_ck (show w < 2147483648 by omega), e0, gdT, if_pos rfl]
theorem m_steps_end {b : Mem} {w n t : Nat} {B : Nat → Nat → Nat} (hw : w < 4) (hB : MB b B n) (hn : n < 2) (gB : okB B) (ht : t < B 0 0) (e0 : b 286 w = nI t) (e2 : b 287 w = nI (B 1 t)) : fX12_steps (nI w) b = some (false, b) := by
  have g1 := gB.1
  unfold fX12_steps
  rw [inb_T hw (by omega), nI_ck (show w < 2147483648 by omega), e0, e2, hB.nt hn gB ht]
  simp only [gdT, bq]
  rw [if_neg (nI_m1 (by omega)), if_pos trivial]
