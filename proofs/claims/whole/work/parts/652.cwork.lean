/-! ===== the worker's methods ===== -/
theorem c_noteGuard {a : Mem} {W n : Nat} {G L : Nat → Nat → Nat} (hW : CW a W L) (hL : okL L) (hn : n < 10) : WO (fX10_noteGuard W (nI n) (nI (G 2 n)) a) W a (nGd G n L) := by
  have h7 := hL.2.2.1
  unfold fX10_noteGuard nGd
  rw [hW.n 7 (by omega)]
  by_cases hb : (L 0 7).testBit n = true
  · rw [if_neg (fun z => (bz (by omega) (by omega)).mp z hb), if_pos hb]; exact WO.rf hW
  · rw [if_pos ((bz (by omega) (by omega)).mpr hb), if_neg hb, inb_T (by omega) (by omega), gdT, nI_ck (by omega), sh1 (by omega), nI_or]
    exact ⟨_, rfl, (hW.s0 (by omega)).s2, (frW.st (by omega)).tr (frW.st (by omega))⟩
theorem c_noteRead {a : Mem} {W n : Nat} {G L : Nat → Nat → Nat} (hW : CW a W L) (hL : okL L) (hn : n < 10) : WO (fX10_noteRead W (nI n) (nI (G 1 n)) a) W a (nRd G n L) := by
  have h7 := hL.2.1
  unfold fX10_noteRead nRd
  rw [hW.n 6 (by omega)]
  by_cases hb : (L 0 6).testBit n = true
  · rw [if_neg (fun z => (bz (by omega) (by omega)).mp z hb), if_pos hb]; exact WO.rf hW
  · rw [if_pos ((bz (by omega) (by omega)).mpr hb), if_neg hb, inb_T (by omega) (by omega), gdT, nI_ck (by omega), sh1 (by omega), nI_or]
    exact ⟨_, rfl, (hW.s0 (by omega)).s1, (frW.st (by omega)).tr (frW.st (by omega))⟩
theorem c_write {a : Mem} {W n v : Nat} {L : Nat → Nat → Nat} (hW : CW a W L) (hn : n < 10) : WO (fX10_write W (nI n) (vI v) a) W a (wrt n v L) := by
  unfold fX10_write wrt
  rw [hW.n 8 (by omega), inb_T (by omega) (by omega), gdT, nI_ck (by omega), sh1 (by omega), nI_or]
  exact ⟨_, rfl, (hW.s0 (by omega)).s3, (frW.st (by omega)).tr (frW.st (by omega))⟩
theorem c_viewOf {a : Mem} {W n s sp : Nat} {G L : Nat → Nat → Nat} (hW : CW a W L) (hG : GX a G s sp) (hL : okL L) (hn : n < 10) : fX3_viewOf W (nI n) a = some (vI (vw G L n), a) := by
  have h8 := hL.2.2.2.1
  unfold fX3_viewOf vw
  rw [hW.n 8 (by omega)]
  by_cases hb : (L 0 8).testBit n = true
  · rw [if_neg (fun z => (bz (by omega) (by omega)).mp z hb), if_pos hb, inb_T (by omega) (by omega), gdT, nI_ck (by omega), hW.w]
  · rw [if_pos ((bz (by omega) (by omega)).mpr hb), if_neg hb, inb_T (by omega) (by omega), gdT, nI_ck (by omega), hG.1 n hn]
theorem c_lookAt {a : Mem} {W n s sp : Nat} {G L : Nat → Nat → Nat} (hW : CW a W L) (hG : GX a G s sp) (hx : okX s sp) (hL : okL L) (gG : okG G) (h158 : 158 ≤ W) (hn : n < 10) : WO (fX3_lookAt W (nI n) a) W a (lk sp G n L) := by
  have h8 := hL.2.2.2.1
  have gn := gG n hn
  have d9 := dv9 (n := n) (sp := sp) (by omega)
  unfold fX3_lookAt lk
  rw [hW.n 8 (by omega), f_hasBit (by omega) (by omega), bq]
  dsimp only
  refine WO.bind (L := lkA sp G n L) ?_ (fun a' hW' hf => ?_)
  · unfold lkA
    by_cases hb : (L 0 8).testBit n = true
    · rw [if_pos hb, if_pos hb]; exact WO.rf hW
    · rw [if_neg hb, if_neg hb, inb_T (by omega) (by omega), gdT, nI_ck (by omega)]
      by_cases h0 : G 0 n = 0
      · rw [if_pos (by rw [hG.1 n hn, h0]; rfl), if_pos h0, c_nodeOf hG hx (by omega), bq, c_nodeOf hG hx (by omega), bq]
        dsimp only
        rw [inb_T (by omega) (by omega), gdT, nI_ck (by omega), hG.2.2.1 _ (by omega)]
        exact WO.bind (c_noteGuard hW hL (by omega)) (fun a' h1 _ => WO.rf h1)
      · rw [if_neg (by rw [hG.1 n hn, v0, eq_vv (by omega) (by omega)]; exact h0), if_neg h0, gdT, hG.2.1 n hn]
        exact WO.bind (c_noteRead hW hL (by omega)) (fun a' h1 _ => WO.rf h1)
  · have hL' : okL (lkA sp G n L) := hL.olkA gG hn
    have e3 : lkA sp G n L 0 3 = L 0 3 := by
      unfold lkA
      split
      · rfl
      · split
        · unfold nGd; split
          · rfl
          · rw [up_o _ (by omega), up_o _ (by omega)]
        · unfold nRd; split
          · rfl
          · rw [up_o _ (by omega), up_o _ (by omega)]
    have ev : vw G (lkA sp G n L) n = vw G L n := vw_lkA
    have hv := vw_le gG hL hn
    rw [c_viewOf hW' (hG.fr hx.1 h158 hf) hL' hn, bq, ev]
    dsimp only
    rw [hW'.n 3 (by omega), e3, show (0 : Int32) = nI 0 from rfl, mx_v (by omega), nI_add, show (100 : Int32) = nI 100 from rfl, nI_md (by have := hL.1; omega) (by omega) (by omega)]
    exact ⟨_, rfl, hW'.s0 (by omega), frW.st (by omega)⟩
theorem c_scanKeys {a : Mem} {W s sp k o : Nat} {G L : Nat → Nat → Nat} (hW : CW a W L) (hG : GX a G s sp) (hx : okX s sp) (hL : okL L) (gG : okG G) (h158 : 158 ≤ W) (hk : k ≤ o) (ho : o ≤ 9) : WO (fX3_scanKeys W (nI k) (nI o) a) W a (scn sp G k o L) := by
  have hd := Nat.div_le_div_right (c := sp) hk
  have d9 := dv9 (n := o) (sp := sp) ho
  unfold fX3_scanKeys scn
  rw [c_nodeOf hG hx (by omega), bq]
  dsimp only
  refine WO.bind (L := itr (nGd G) (k / sp) (o / sp + 1 - k / sp) L) ?_ (fun a' hW' hf => ?_)
  · refine loop_go (fun f j s => lX3_scanKeys_7 W (nI k) (nI o) f (nI j) s) (o / sp + 1) (fun j s => k / sp ≤ j ∧ CW s W (itr (nGd G) (k / sp) (j - k / sp) L) ∧ frW W a s) (fun r => CW r W (itr (nGd G) (k / sp) (o / sp + 1 - k / sp) L) ∧ frW W a r) ?_ ?_ (by omega) (by omega) ⟨Nat.le_refl _, by rw [Nat.sub_self]; exact hW, frW.rf⟩
    · rintro f q ⟨-, h1, h2⟩
      refine ⟨q, ?_, h1, h2⟩
      show lX3_scanKeys_7 W (nI k) (nI o) (f + 1) (nI (o / sp + 1)) q = some q
      rw [lX3_scanKeys_7, c_nodeOf (hG.fr hx.1 h158 h2) hx (by omega), bq]
      dsimp only
      rw [if_pos (by rw [lt_nn (by omega) (by omega)]; omega)]
    · rintro f j q hj ⟨h0, h1, h2⟩
      have hL2 : okL (itr (nGd G) (k / sp) (j - k / sp) L) := okL.oitr (fun k L h1 h2 => h2.onGd gG h1) hL _ (by omega)
      have hG2 := hG.fr hx.1 h158 h2
      obtain ⟨a', e1, e2, e3⟩ := c_noteGuard (G := G) h1 hL2 (show j < 10 by omega)
      refine ⟨a', ?_, by omega, ?_, h2.tr e3⟩
      · show lX3_scanKeys_7 W (nI k) (nI o) (f + 1) (nI j) q = lX3_scanKeys_7 W (nI k) (nI o) f (nI (j + 1)) a'
        rw [lX3_scanKeys_7, c_nodeOf hG2 hx (by omega), bq]
        dsimp only
        rw [if_neg (by rw [lt_nn (by omega) (by omega)]; omega), if_neg (by rw [li10, le_nn (by omega) (by omega)]; omega), inb_T (by omega) (by omega), gdT, nI_ck (by omega), hG2.2.2.1 j (by omega), e1, bq, nI_1]
      · rw [show j + 1 - k / sp = (j - k / sp) + 1 by omega]
        show CW a' W (nGd G (k / sp + (j - k / sp)) _)
        rw [show k / sp + (j - k / sp) = j by omega]
        exact e2
  · unfold jX3_scanKeys_43
    have hL1 : okL (itr (nGd G) (k / sp) (o / sp + 1 - k / sp) L) := okL.oitr (fun k L h1 h2 => h2.onGd gG h1) hL _ (by omega)
    generalize itr (nGd G) (k / sp) (o / sp + 1 - k / sp) L = L1 at *
    have hG1 := hG.fr hx.1 h158 hf
    refine WO.bind (L := itr (lkT sp G) k (o + 1 - k) L1) ?_ (fun a' h1 _ => WO.rf h1)
    refine loop_go (fun f j s => lX3_scanKeys_46 W (nI o) f (nI j) s) (o + 1) (fun j s => k ≤ j ∧ CW s W (itr (lkT sp G) k (j - k) L1) ∧ frW W a' s) (fun r => CW r W (itr (lkT sp G) k (o + 1 - k) L1) ∧ frW W a' r) ?_ ?_ (by omega) (by omega) ⟨Nat.le_refl _, by rw [Nat.sub_self]; exact hW', frW.rf⟩
    · rintro f q ⟨-, h1, h2⟩
      refine ⟨q, ?_, h1, h2⟩
      show lX3_scanKeys_46 W (nI o) (f + 1) (nI (o + 1)) q = some q
      rw [lX3_scanKeys_46, if_pos (by rw [lt_nn (by omega) (by omega)]; omega)]
    · rintro f j q hj ⟨h0, h1, h2⟩
      have hL2 : okL (itr (lkT sp G) k (j - k) L1) := okL.oitr (fun k L h1 h2 => h2.olkT gG h1) hL1 _ (by omega)
      have hG2 := hG1.fr hx.1 h158 h2
      have hv := vw_le gG hL2 (show j < 10 by omega)
      have e5 : itr (lkT sp G) k (j + 1 - k) L1 = lkT sp G j (itr (lkT sp G) k (j - k) L1) := by
        rw [show j + 1 - k = (j - k) + 1 by omega]
        show lkT sp G (k + (j - k)) _ = _
        rw [show k + (j - k) = j by omega]
      have e4 : lX3_scanKeys_46 W (nI o) (f + 1) (nI j) q = ((if vI (vw G (itr (lkT sp G) k (j - k) L1) j) = -1 then some q else (fX3_lookAt W (nI j) q).bind fun q14 => some q14) : Option Mem).bind fun q16 => lX3_scanKeys_46 W (nI o) f (nI (j + 1)) q16 := by
        rw [lX3_scanKeys_46, if_neg (by rw [lt_nn (by omega) (by omega)]; omega), if_neg (by rw [li10, le_nn (by omega) (by omega)]; omega), c_viewOf h1 hG2 hL2 (by omega), bq, nI_1]
      by_cases h0 : vw G (itr (lkT sp G) k (j - k) L1) j = 0
      · refine ⟨q, ?_, by omega, ?_, h2⟩
        · show lX3_scanKeys_46 W (nI o) (f + 1) (nI j) q = lX3_scanKeys_46 W (nI o) f (nI (j + 1)) q
          rw [e4, if_pos (by rw [h0]; rfl), bq]
        · rw [e5, lkT_z h0]; exact h1
      · obtain ⟨a2, q1, q2, q3⟩ := c_lookAt h1 hG2 hx hL2 gG h158 (show j < 10 by omega)
        refine ⟨a2, ?_, by omega, ?_, h2.tr q3⟩
        · show lX3_scanKeys_46 W (nI o) (f + 1) (nI j) q = lX3_scanKeys_46 W (nI o) f (nI (j + 1)) a2
          rw [e4, if_neg (by rw [v0, eq_vv (by omega) (by omega)]; exact h0), q1, bq, bq]
        · rw [e5, lkT_n h0]; exact q2
/-- the book as the engine has it -/
def BX (a : Mem) (B : Nat → Nat → Nat) (n : Nat) : Prop := a 146 1 = nI (10 + 14 * n) ∧ CBk (a (10 + 14 * n)) (a (10 + 14 * n + 1)) (a (10 + 14 * n + 2)) (a (10 + 14 * n + 3)) (a (10 + 14 * n + 4)) B
theorem BX.fr {a a' : Mem} {B : Nat → Nat → Nat} {n W : Nat} (h : BX a B n) (hn : n < 2) (hW : 158 ≤ W) (hf : frW W a a') : BX a' B n := by
  unfold BX
  rw [hf 146 (by omega), hf (10 + 14 * n) (by omega), hf (10 + 14 * n + 1) (by omega), hf (10 + 14 * n + 2) (by omega), hf (10 + 14 * n + 3) (by omega), hf (10 + 14 * n + 4) (by omega)]
  exact h
/-- the next step of a worker -/
def dst (sp : Nat) (G B L : Nat → Nat → Nat) : Nat → Nat → Nat := up (stp sp G (B 2 (6 * (L 0 0 - 1) + L 0 2)) (B 3 (6 * (L 0 0 - 1) + L 0 2)) (B 4 (6 * (L 0 0 - 1) + L 0 2)) L) 0 2 (L 0 2 + 1)
theorem nGd_02 {G L : Nat → Nat → Nat} {n j : Nat} (hj : j < 6) : nGd G n L 0 j = L 0 j := by
  unfold nGd; split
  · rfl
  · rw [up_o _ (by omega), up_o _ (by omega)]
theorem nRd_02 {G L : Nat → Nat → Nat} {n j : Nat} (hj : j < 6) : nRd G n L 0 j = L 0 j := by
  unfold nRd; split
  · rfl
  · rw [up_o _ (by omega), up_o _ (by omega)]
theorem lkA_02 {G L : Nat → Nat → Nat} {sp n j : Nat} (hj : j < 6) : lkA sp G n L 0 j = L 0 j := by
  unfold lkA; split
  · rfl
  · split
    · exact nGd_02 hj
    · exact nRd_02 hj
theorem lk_02 {G L : Nat → Nat → Nat} {sp n j : Nat} (hj : j < 6) (h3 : j ≠ 3) : lk sp G n L 0 j = L 0 j := by
  unfold lk; rw [up_o _ (by omega), lkA_02 hj]
theorem wrt_02 {L : Nat → Nat → Nat} {n v j : Nat} (hj : j < 8) : wrt n v L 0 j = L 0 j := by
  unfold wrt; rw [up_o _ (by omega), up_o _ (by omega)]
theorem itr_02 {f : Nat → (Nat → Nat → Nat) → Nat → Nat → Nat} {j : Nat} (hf : ∀ k L, f k L 0 j = L 0 j) {i : Nat} {L : Nat → Nat → Nat} : ∀ n, itr f i n L 0 j = L 0 j
  | 0 => rfl
  | n + 1 => (hf _ _).trans (itr_02 hf n)
theorem scn_02 {G L : Nat → Nat → Nat} {sp k o j : Nat} (hj : j < 6) (h3 : j ≠ 3) : scn sp G k o L 0 j = L 0 j := by
  unfold scn
  rw [itr_02 (fun k L => by unfold lkT; split; rfl; exact lk_02 hj h3), itr_02 (fun k L => nGd_02 hj)]
theorem stp_02 {G L : Nat → Nat → Nat} {sp w k o j : Nat} (hj : j < 6) (h3 : j ≠ 3) : stp sp G w k o L 0 j = L 0 j := by
  unfold stp
  split
  · exact lk_02 hj h3
  · split
    · exact wrt_02 (by omega)
    · split
      · exact wrt_02 (by omega)
      · split
        · exact wrt_02 (by omega)
        · split
          · rw [wrt_02 (by omega), lk_02 hj h3]
          · exact scn_02 hj h3
theorem c_doStep {a : Mem} {W s sp n t i : Nat} {G B L : Nat → Nat → Nat} (hW : CW a W L) (hG : GX a G s sp) (hx : okX s sp) (hL : okL L) (gG : okG G) (h158 : 158 ≤ W) (hB : BX a B n) (hn : n < 2) (gB : okB B) (ht : t < B 0 0) (h0 : L 0 0 = t + 1) (h2 : L 0 2 = i) (hi : i < B 1 t) : WO (fX3_doStep W a) W a (dst sp G B L) := by
  obtain ⟨hb, c1, c2⟩ := hB
  obtain ⟨g1, g2, g3⟩ := gB
  have gt := g2 t
  have gs := g3 (6 * t + i)
  obtain ⟨k1, k2, k3⟩ := (c2 t ht).2 i hi
  have e : (a W 0 * 6 + a W 2) = nI (6 * t + i) := by
    rw [hW.t, h0, vI_s, hW.n 2 (by omega), h2, show (6 : Int32) = nI 6 from rfl, pk_mul, nI_add]; congr 1; omega
  unfold fX3_doStep dst
  rw [hb, rfN_n (by omega), isB_bk hn, e, inb_T (by omega) (by omega), nI_ck (by omega)]
  simp only [gdT, bq]
  rw [k1, k2, k3, h0, h2, show 6 * (t + 1 - 1) + i = 6 * t + i by omega]
  have e99 := hL.1
  generalize B 2 (6 * t + i) = w at *
  generalize B 3 (6 * t + i) = k at *
  generalize B 4 (6 * t + i) = o at *
  obtain ⟨s1, s2, s3, s4, s5⟩ := gs
  refine WO.bind (L := stp sp G w k o L) ?_ (fun a' h1 _ => ?_)
  · rcases (show w = 0 ∨ w = 1 ∨ w = 2 ∨ w = 3 ∨ w = 4 ∨ w = 5 by omega) with rfl | rfl | rfl | rfl | rfl | rfl
    · rw [if_pos n00]; exact WO.bind (c_lookAt hW hG hx hL gG h158 (by omega)) (fun a' h1 _ => WO.rf h1)
    · rw [if_neg (by decide), if_pos n11]; exact WO.bind (c_write (v := 0) hW (by omega)) (fun a' h1 _ => WO.rf h1)
    · rw [if_neg (by decide), if_neg (by decide), if_pos n22, hW.n 3 (by omega), ← vI_s (L 0 3)]; exact WO.bind (c_write hW (by omega)) (fun a' h1 _ => WO.rf h1)
    · rw [if_neg (by decide), if_neg (by decide), if_neg (by decide), if_pos n33]; exact WO.bind (c_write hW (by omega)) (fun a' h1 _ => WO.rf h1)
    · rw [if_neg (by decide), if_neg (by decide), if_neg (by decide), if_neg (by decide), if_pos n44]
      refine WO.bind (c_lookAt hW hG hx hL gG h158 (by omega)) (fun a' h1 hf => ?_)
      have hL1 : okL (lk sp G k L) := hL.olk gG (by omega)
      have hv := vw_le gG hL1 (show k < 10 by omega)
      rw [c_viewOf h1 (hG.fr hx.1 h158 hf) hL1 (by omega), bq]
      dsimp only
      rw [show (0 : Int32) = nI 0 from rfl, mx_v (by omega), vI_p (show 0 < o by omega), nI_add, show (100 : Int32) = nI 100 from rfl, nI_md (by omega) (by omega) (by omega), ← vI_s ((vw G (lk sp G k L) k - 1 + (o - 1)) % 100)]
      exact WO.bind (c_write h1 (by omega)) (fun a' h1 _ => WO.rf h1)
    · rw [if_neg (by decide), if_neg (by decide), if_neg (by decide), if_neg (by decide), if_neg (by decide), vI_p (show 0 < o by omega)]
      exact WO.bind (c_scanKeys hW hG hx hL gG h158 (by omega) (by omega)) (fun a' h1 _ => WO.rf h1)
  · rw [h1.n 2 (by omega), stp_02 (by omega) (by omega), h2, nI_1]
    exact ⟨_, rfl, h1.s0 (by omega), frW.st (by omega)⟩
