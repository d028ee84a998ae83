theorem k_make {a : Mem} {M B : F2} {s sp wk n nw D w : Nat} {c : Nat → Nat} (h : CX a M s sp wk c n B) (ok : okM sp nw D B M) (hw : w < 4) (hd : M 146 12 < 60) (hl : M 146 11 < 30) (h0 : M (Wc w) 0 ≠ 0) : KO (fX3_makeCommit (nI w) a) a (mkM sp w M) := by
  have gG1 := ok.G
  have l30 := ok.l30
  obtain ⟨⟨o1, o2, o3⟩, ⟨o4, o5⟩, -, o7, o6, -⟩ := ok
  obtain ⟨hL, w2, w3, w4, w5⟩ := o6 w hw
  have w5' := w5 h0
  have gB := h.2.1.2.2.2.1.1
  have kn := k_next (X := 5030) h.1 hw (by omega) hL (by omega) (by omega) (fun k hk => by have := o7 k hk; omega)
  unfold fX3_makeCommit
  rw [inb_T hw (by omega), gdT, nI_ck (by omega), kn, bq]
  dsimp only
  have e12 : a 146 12 = nI (M 146 12) := h.1.e3
  unfold mkM
  dsimp only
  generalize hx : nxt (gG M) (gW M (Wc w)) (M 146 3) = x at *
  rw [e12, inb_T hd (by omega), gdT, nI_ck (by omega), st2_o _ _ (show ¬ (146 = 154 ∧ 12 = M 146 12) by omega), e12, inb_T hd (by omega), gdT, nI_ck (by omega), bq]
  have c1 : CM (st2 (st2 (st2 a 154 (M 146 12) 1) 157 (M 146 12) (nI x)) (158 + 4 * w) 4 (nI x)) (mkA w x M) := ((h.1.stn (x := 1) (by unfold vc; omega)).stv (x := x + 1) (by unfold vc; omega)).stn (c := Wc w) (by unfold vc Wc; omega)
  have f1 : frK a (st2 (st2 (st2 a 154 (M 146 12) 1) 157 (M 146 12) (nI x)) (158 + 4 * w) 4 (nI x)) := ((frK.st (by omega)).tr (frK.st (by omega))).tr (frK.st (by omega))
  generalize st2 (st2 (st2 a 154 (M 146 12) 1) 157 (M 146 12) (nI x)) (158 + 4 * w) 4 (nI x) = a1 at *
  have mo : ∀ c j, ¬ (c = 154) → ¬ (c = 157) → ¬ (c = Wc w ∧ j = 4) → mkA w x M c j = M c j := fun c j z1 z2 z3 => by unfold mkA; rw [up_o _ z3, up_o _ (by omega), up_o _ (by omega)]
  have hX1 : CX a1 (mkA w x M) s sp wk c n B := h.go c1 f1 (mo _ _ (by omega) (by omega) (by unfold Wc; omega)) (mo _ _ (by omega) (by omega) (by unfold Wc; omega))
  obtain ⟨a2, q1, q2, q3⟩ := k_bring (L := gW M (Wc w)) (x := x) hX1 hw (by rw [mo _ _ (by unfold Wc; omega) (by unfold Wc; omega) (by omega)]; rfl) (fun k => by rw [mo _ _ (by unfold Wc; omega) (by unfold Wc; omega) (by unfold Wc; omega)]; rfl) hL.2.2.2.1 (fun k hk hb => (hL.2.2.2.2 k hk).2.2 hb) (fun k hk => by rw [mo _ _ (by omega) (by omega) (by unfold Wc; omega)]; exact (o7 k hk).1)
  have m12 : mkA w x M 146 12 = M 146 12 := mo _ _ (by omega) (by omega) (by unfold Wc; omega)
  rw [m12] at q1 q2
  rw [q1, bq]
  dsimp only
  have bo : ∀ c j, ¬ (147 ≤ c ∧ c ≤ 151) → ¬ (c = 154) → ¬ (c = 157) → ¬ (c = Wc w ∧ j = 4) → (itr (brS sp (M 146 12) x (gW M (Wc w))) 0 10 (0, mkA w x M)).2 c j = M c j := fun c j z0 z1 z2 z3 => by rw [brI_o z0]; exact mo c j z1 z2 z3
  generalize itr (brS sp (M 146 12) x (gW M (Wc w))) 0 10 (0, mkA w x M) = Q at *
  have b11 : Q.2 146 11 = M 146 11 := bo _ _ (by omega) (by omega) (by omega) (by unfold Wc; omega)
  have b3 : Q.2 146 3 = M 146 3 := bo _ _ (by omega) (by omega) (by omega) (by unfold Wc; omega)
  have e11 : a2 146 11 = nI (M 146 11) := by rw [q2.e3, b11]
  have f2 : frK a a2 := f1.tr q3
  have d0 : a2 (158 + 4 * w) 0 = nI (M (Wc w) 0 - 1) := by rw [q2.wt hw, bo _ _ (by unfold Wc; omega) (by unfold Wc; omega) (by unfold Wc; omega) (by omega), vI_p (by omega)]
  have d6 : a2 (158 + 4 * w) 6 = nI (M (Wc w) 6) := by rw [q2.wn hw (by omega), bo _ _ (by unfold Wc; omega) (by unfold Wc; omega) (by unfold Wc; omega) (by omega)]
  have d7 : a2 (158 + 4 * w) 7 = nI (M (Wc w) 7) := by rw [q2.wn hw (by omega), bo _ _ (by unfold Wc; omega) (by unfold Wc; omega) (by unfold Wc; omega) (by omega)]
  have d8 : a2 (158 + 4 * w) 8 = nI (M (Wc w) 8) := by rw [q2.wn hw (by omega), bo _ _ (by unfold Wc; omega) (by unfold Wc; omega) (by unfold Wc; omega) (by omega)]
  have dw : ∀ k, a2 (158 + 4 * w + 3) k = vI (M (Wc w + 3) k) := fun k => by rw [q2.v (c := 158 + 4 * w + 3) (by omega) (by omega) (by unfold vc; omega), bo _ _ (by omega) (by omega) (by omega) (by unfold Wc; omega)]; rfl
  have d3 : a2 146 3 = nI (M 146 3) := by rw [q2.e3, b3]
  unfold lnM
  rw [b11, b3]
  rw [if_pos (by rw [e11, show (30 : Int32) = nI 30 from rfl, lt_nn (by omega) (by omega)]; exact hl), e11, inb_T hl (by omega), gdT, nI_ck (by omega)]
  generalize hi : M 146 11 = i at *
  have g9 : (st2 a2 (174 + 2 * i) 0 (nI w)) (158 + 4 * w) 0 = nI (M (Wc w) 0 - 1) := by rw [st2_o _ _ (by omega)]; exact d0
  rw [g9, bq]
  have c9 := (q2.stn (c := 174 + 2 * i) (j := 0) (x := w) (by unfold vc; omega)).stn (c := 174 + 2 * i) (j := 1) (x := M (Wc w) 0 - 1) (by unfold vc; omega)
  have o9 : ∀ c, c ≠ 174 + 2 * i → (st2 (st2 a2 (174 + 2 * i) 0 (nI w)) (174 + 2 * i) 1 (nI (M (Wc w) 0 - 1))) c = a2 c := fun c hc => by rw [st2_c _ _ hc, st2_c _ _ hc]
  generalize st2 (st2 a2 (174 + 2 * i) 0 (nI w)) (174 + 2 * i) 1 (nI (M (Wc w) 0 - 1)) = s9 at *
  have g10 : (st2 (st2 s9 (174 + 2 * i) 2 (s9 146 3)) (174 + 2 * i) 3 (nI x)) (158 + 4 * w) 6 = nI (M (Wc w) 6) := by rw [st2_o _ _ (by omega), st2_o _ _ (by omega), o9 _ (by omega)]; exact d6
  have g10b : s9 146 3 = nI (M 146 3) := by rw [o9 _ (by omega)]; exact d3
  rw [g10, g10b, bq]
  have c10 := ((c9.stn (c := 174 + 2 * i) (j := 2) (x := M 146 3) (by unfold vc; omega)).stn (c := 174 + 2 * i) (j := 3) (x := x) (by unfold vc; omega)).stn (c := 174 + 2 * i) (j := 4) (x := M (Wc w) 6) (by unfold vc; omega)
  have o10 : ∀ c, c ≠ 174 + 2 * i → (st2 (st2 (st2 s9 (174 + 2 * i) 2 (nI (M 146 3))) (174 + 2 * i) 3 (nI x)) (174 + 2 * i) 4 (nI (M (Wc w) 6))) c = a2 c := fun c hc => by rw [st2_c _ _ hc, st2_c _ _ hc, st2_c _ _ hc, o9 c hc]
  generalize st2 (st2 (st2 s9 (174 + 2 * i) 2 (nI (M 146 3))) (174 + 2 * i) 3 (nI x)) (174 + 2 * i) 4 (nI (M (Wc w) 6)) = s10 at *
  have g11 : s10 (158 + 4 * w) 7 = nI (M (Wc w) 7) := by rw [o10 _ (by omega)]; exact d7
  rw [g11]
  have g11b : (st2 s10 (174 + 2 * i) 5 (nI (M (Wc w) 7))) (158 + 4 * w) 8 = nI (M (Wc w) 8) := by rw [st2_o _ _ (by omega), o10 _ (by omega)]; exact d8
  rw [g11b, bq]
  have c11 := (c10.stn (c := 174 + 2 * i) (j := 5) (x := M (Wc w) 7) (by unfold vc; omega)).stn (c := 174 + 2 * i) (j := 6) (x := M (Wc w) 8) (by unfold vc; omega)
  have o11 : ∀ c, c ≠ 174 + 2 * i → (st2 (st2 s10 (174 + 2 * i) 5 (nI (M (Wc w) 7))) (174 + 2 * i) 6 (nI (M (Wc w) 8))) c = a2 c := fun c hc => by rw [st2_c _ _ hc, st2_c _ _ hc, o10 c hc]
  generalize st2 (st2 s10 (174 + 2 * i) 5 (nI (M (Wc w) 7))) (174 + 2 * i) 6 (nI (M (Wc w) 8)) = s11 at *
  rw [bq]
  have c12 := ((c11.stn (c := 174 + 2 * i) (j := 7) (x := Q.1) (by unfold vc; omega)).stn (c := 174 + 2 * i) (j := 8) (x := 0) (by unfold vc; omega)).stn (c := 174 + 2 * i) (j := 9) (x := 0) (by unfold vc; omega)
  have o12 : ∀ c, c ≠ 174 + 2 * i → (st2 (st2 (st2 s11 (174 + 2 * i) 7 (nI Q.1)) (174 + 2 * i) 8 (nI 0)) (174 + 2 * i) 9 (nI 0)) c = a2 c := fun c hc => by rw [st2_c _ _ hc, st2_c _ _ hc, st2_c _ _ hc, o11 c hc]
  change KO ((fX11_copyKeys (158 + 4 * w + 3) (174 + 2 * i + 1) (st2 (st2 (st2 s11 (174 + 2 * i) 7 (nI Q.1)) (174 + 2 * i) 8 (nI 0)) (174 + 2 * i) 9 (nI 0))).bind _) a _
  generalize st2 (st2 (st2 s11 (174 + 2 * i) 7 (nI Q.1)) (174 + 2 * i) 8 (nI 0)) (174 + 2 * i) 9 (nI 0) = s12 at *
  unfold fX11_copyKeys
  rw [bq]
  have c13 := c12.row (a' := cp2 s12 (158 + 4 * w + 3) (174 + 2 * i + 1) 0 0 10) (c := 175 + 2 * i) (n := 10) (f := gW M (Wc w) 3) (fun j hj => ⟨fun _ => by rw [cp2_g, if_pos ⟨by omega, hj⟩, o12 _ (by omega)]; exact dw j, fun z => absurd (show vc (175 + 2 * i) j by unfold vc; omega) z⟩) (fun j hj => by rw [cp2_g, if_neg (fun z => hj z.2)]) (fun m hm => cp2_c _ (by omega))
  have o13 : ∀ c, c ≠ 174 + 2 * i → c ≠ 175 + 2 * i → (cp2 s12 (158 + 4 * w + 3) (174 + 2 * i + 1) 0 0 10) c = a2 c := fun c h1 h2 => by rw [cp2_c _ (by omega), o12 c h1]
  generalize cp2 s12 (158 + 4 * w + 3) (174 + 2 * i + 1) 0 0 10 = s13 at *
  rw [o13 146 (by omega) (by omega), e11, nI_1]
  exact ⟨_, rfl, c13.stn (c := 146) (j := 11) (x := i + 1) (by unfold vc; omega), f2.tr ((show frK a2 s13 from fun m hm => o13 m (by omega) (by omega)).tr (frK.st (by omega)))⟩
theorem k_refuse {a : Mem} {M : F2} {w how what by_ : Nat} (h : CM a M) (hw : w < 4) (hd : M 146 12 < 60) : KO (fX3_noteRefusal (158 + 4 * w) (nI how) (nI what) (vI by_) a) a (rfM w how what by_ M) := by
  unfold fX3_noteRefusal rfM
  have e12 : a 146 12 = nI (M 146 12) := h.e3
  rw [e12, inb_T hd (by omega), gdT, nI_ck (by omega)]
  rw [show (st2 a 154 (M 146 12) (nI how)) 146 12 = nI (M 146 12) by rw [st2_o _ _ (by omega)]; exact e12, inb_T hd (by omega), gdT, nI_ck (by omega)]
  rw [show (st2 (st2 a 154 (M 146 12) (nI how)) 155 (M 146 12) (nI what)) 146 12 = nI (M 146 12) by rw [st2_o _ _ (by omega), st2_o _ _ (by omega)]; exact e12, inb_T hd (by omega), gdT, nI_ck (by omega), bq]
  have c1 := ((h.stn (c := 154) (j := M 146 12) (x := how) (by unfold vc; omega)).stv (c := 155) (j := M 146 12) (x := what + 1) (by unfold vc; omega)).stv (c := 156) (j := M 146 12) (x := by_) (by unfold vc; omega)
  rw [vI_s] at c1
  rw [c1.e3, up_o _ (by omega), up_o _ (by omega), up_o _ (by omega), c1.wn hw (by omega), up_o _ (by unfold Wc; omega), up_o _ (by unfold Wc; omega), up_o _ (by unfold Wc; omega), nI_add]
  exact ⟨_, rfl, c1.stn (by unfold vc; omega), (((frK.st (by omega)).tr (frK.st (by omega))).tr (frK.st (by omega))).tr (frK.st (by omega))⟩
theorem stl_le (G L : F2) : stl G L ≤ 10 := fnd_le _ 10
theorem pha_le (G L : F2) : pha G L ≤ 10 := fnd_le _ 10
theorem k_ref3 {a : Mem} {M : F2} {w what by_ : Nat} (h : CM a M) (hw : w < 4) (hd : M 146 12 < 60) : KO (fX3_noteRefusal (158 + 4 * w) 3 (nI what) (vI by_) a) a (rfM w 3 what by_ M) := k_refuse (how := 3) h hw hd
theorem k_ref2 {a : Mem} {M : F2} {w what by_ : Nat} (h : CM a M) (hw : w < 4) (hd : M 146 12 < 60) : KO (fX3_noteRefusal (158 + 4 * w) 2 (nI what) (vI by_) a) a (rfM w 2 what by_ M) := k_refuse (how := 2) h hw hd
theorem k_thenRest {m : Option Mem} {a : Mem} {M : F2} {w : Nat} (hw : w < 4) (h : KO m a M) : KO (m.bind fun q6 => (fX10_rest (158 + 4 * w) q6).bind fun q7 => some q7) a (rtM w M) :=
  KO.bind h (fun a' c1 _ => KO.bind (k_rest c1 hw) (fun a2 c2 _ => KO.rf c2))
theorem k_commit {a : Mem} {M B : F2} {s sp wk n nw D w : Nat} {c : Nat → Nat} (h : CX a M s sp wk c n B) (ok : okM sp nw D B M) (hw : w < 4) (hd : M 146 12 < 60) (hl : M 146 11 < 30) (h0 : M (Wc w) 0 ≠ 0) : KO (fX3_tryCommit (nI w) a) a (cmM sp w M) := by
  have gG1 := ok.G
  obtain ⟨hL, -⟩ := ok.2.2.2.2.1 w hw
  have e0 := k_make h ok hw hd hl h0
  have e1 := k_stale h.1 hw gG1 hL
  have e2 := k_phantom h.1 hw gG1 hL
  have s10 := stl_le (gG M) (gW M (Wc w))
  have p10 := pha_le (gG M) (gW M (Wc w))
  unfold cmM
  generalize stl (gG M) (gW M (Wc w)) = x at *
  generalize pha (gG M) (gW M (Wc w)) = y at *
  unfold fX3_tryCommit
  rw [inb_T hw (by omega), gdT, nI_ck (by omega), e1, bq]
  dsimp only
  rw [e2, bq]
  dsimp only
  by_cases z1 : x = 0
  · rw [if_pos (by rw [z1]; rfl), if_pos z1]
    by_cases z2 : y = 0
    · rw [if_pos (by rw [z2]; rfl), if_pos z2]
      exact k_thenRest hw e0
    · rw [if_neg (by rw [v0, eq_vv (by omega) (by omega)]; exact z2), if_neg z2, vI_p (by omega), inb_T (by omega) (by omega), gdT, nI_ck (by omega), h.1.v (c := 151) (by omega) (by omega) (by unfold vc; omega)]
      exact k_thenRest hw (k_ref3 h.1 hw hd)
  · rw [if_neg (by rw [v0, eq_vv (by omega) (by omega)]; exact z1), if_neg z1, vI_p (by omega), inb_T (by omega) (by omega), gdT, nI_ck (by omega), h.1.v (c := 150) (by omega) (by omega) (by unfold vc; omega)]
    exact k_thenRest hw (k_ref2 h.1 hw hd)
