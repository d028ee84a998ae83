/-! ===== the reference's small deeds ===== -/
theorem MN.w {pl : Prop} {b b' : Mem} {M N : F2} {sp w : Nat} (h : MN pl b M sp) (hw : w < 4) (e12 : N 146 12 = M 146 12 + 1) (eo : ∀ x j, ¬ (x = 146 ∧ (j = 12 ∨ j = 17)) → ¬ (154 ≤ x ∧ x ≤ 157 ∧ j = M 146 12) → ¬ (Wc w ≤ x ∧ x < Wc w + 4) → N x j = M x j) (e154 : N 154 (M 146 12) = 0)
    (l30 : M 146 11 ≤ 30) (hL : MWk b' w (gW N (Wc w))) (h57 : b' 269 57 = nI (N 146 17)) (f9 : ∀ j, j ≠ 57 → b' 269 j = b 269 j) (fo : ∀ c, c ≠ 269 → ¬ (286 ≤ c ∧ c ≤ 294) → b' c = b c) (fv : ∀ v, v ≠ w → ∀ c, 286 ≤ c → c ≤ 291 → b' c v = b c v) (fr : ∀ i, ¬ (10 * w ≤ i ∧ i < 10 * w + 10) → b' 292 i = b 292 i ∧ b' 293 i = b 293 i ∧ b' 294 i = b 294 i) : MN pl b' N sp := by
  have hM := h
  obtain ⟨g1, ⟨s1, s2, s3, s4, s5, s6, s7, s8⟩, g3, g4, g5, g6, g7⟩ := h
  have eg : gG N = gG M := by
    funext f k; unfold gG; split
    · exact eo _ _ (by omega) (by omega) (by unfold Wc; omega)
    · rfl
  refine hM.mk' e12 (fun x d hx hd => eo x d (by omega) (by omega) (by unfold Wc; omega)) e154 ?_ ⟨?_, ?_, h57, ?_, ?_⟩ (fun j hj => f9 j (by omega)) (eo _ _ (by omega) (by omega) (by unfold Wc; omega)) (fun hp k hk => ?_) (fun v hv => ?_) (fun i hi => ?_) (fun i hi => eo _ _ (by omega) (by omega) (by unfold Wc; omega)) (fo _ (by omega) (by omega)) (fo _ (by omega) (by omega))
  · rw [eg]
    obtain ⟨m1, m2, m3, m4, m5⟩ := g1
    exact ⟨by rw [f9 _ (by omega)]; exact m1, by rw [f9 _ (by omega)]; exact m2, fun k hk => by rw [fo 281 (by omega) (by omega)]; exact m3 k hk, fun k hk => by rw [fo 282 (by omega) (by omega)]; exact m4 k hk, fun k hk => by rw [fo 283 (by omega) (by omega)]; exact m5 k hk⟩
  · rw [f9 _ (by omega), eo _ _ (by omega) (by omega) (by unfold Wc; omega)]; exact s1
  · rw [f9 _ (by omega), eo _ _ (by omega) (by omega) (by unfold Wc; omega)]; exact s2
  · rw [f9 _ (by omega), eo _ _ (by omega) (by omega) (by unfold Wc; omega)]; exact s7
  · rw [f9 _ (by omega), eo _ _ (by omega) (by omega) (by unfold Wc; omega)]; exact s8
  · rw [fo 284 (by omega) (by omega), fo 285 (by omega) (by omega), eo _ _ (by omega) (by omega) (by unfold Wc; omega), eo _ _ (by omega) (by omega) (by unfold Wc; omega)]; exact g3 hp k hk
  · by_cases e : v = w
    · subst e; exact hL
    · have eg2 : gW N (Wc v) = gW M (Wc v) := by
        funext f k; unfold gW; split
        · exact eo _ _ (by unfold Wc; omega) (by unfold Wc; omega) (by unfold Wc; omega)
        · rfl
      rw [eg2]
      exact (g4 v hv).cgb (fun c h1 h2 => fv v e c h1 h2) (fun k hk => fr _ (by omega))
  · exact (g5 i hi).cg (fun c h1 h2 => fo c (by omega) (by omega)) (by funext j; exact eo _ _ (by omega) (by omega) (by unfold Wc; omega)) (fun k _ => eo _ _ (by omega) (by omega) (by unfold Wc; omega))
/-- a deed on one worker's cells -/
theorem do_pt {sp kind wv tv w : Nat} {c : Nat → Nat} {B M : F2} {f : F2 → F2} (hw : w < 4) (hf : ∀ L, nz L → nz (f L)) (ho : opM sp B c kind wv tv (prM M) = pt (prM M) (Wc w) (f (gW M (Wc w)))) :
    doM sp B c kind wv tv M 146 12 = M 146 12 + 1 ∧ (∀ x j, ¬ (x = 146 ∧ (j = 12 ∨ j = 17)) → ¬ (154 ≤ x ∧ x ≤ 157 ∧ j = M 146 12) → ¬ (Wc w ≤ x ∧ x < Wc w + 4) → doM sp B c kind wv tv M x j = M x j) ∧ doM sp B c kind wv tv M 154 (M 146 12) = 0 ∧ doM sp B c kind wv tv M 146 17 = M 146 17 ∧ gW (doM sp B c kind wv tv M) (Wc w) = f (gW M (Wc w)) := by
  refine ⟨?_, fun x j h1 h2 h3 => ?_, ?_, ?_, ?_⟩
  · unfold doM nxM; rw [up_e, ho, pt_o (by unfold Wc; omega), prM_o (by omega)]
  · rw [do_o (by omega), ho, pt_o h3, prM_o (by omega)]
  · rw [do_o (by omega), ho, pt_o (by unfold Wc; omega)]; exact prM_154
  · rw [do_o (by omega), ho, pt_o (by unfold Wc; omega), prM_o (by omega)]
  · unfold doM nxM; rw [gW_146, ho, gW_pt (hf _ gW_nf)]
theorem m_stepD {pl : Prop} {b : Mem} {M B : F2} {s sp wk n nw w tv : Nat} {c : Nat → Nat} (h : MN pl b M sp) (hH : HD b s sp wk c n B) (hn : n < 2) (os : okS sp wk c) (ok : okM sp nw (M 146 12) B M) (gB : okB B) (hw : w < 4) (h0 : M (Wc w) 0 ≠ 0) (h2 : M (Wc w) 2 < B 1 (M (Wc w) 0 - 1)) : ∃ b', fX12_steps (nI w) b = some (true, b') ∧ MN pl b' (doM sp B c 2 (w + 1) tv M) sp ∧ frO b b' := by
  have gG1 := ok.G
  have l30 := ok.l30
  obtain ⟨q1, -, -, -, q5⟩ := ok.2.2.2.2.1 w hw
  have q5' := q5 h0
  obtain ⟨k1, k2, k3, k4, k5, k6⟩ := h.2.2.2.1 w hw
  have k0 := k6 h0
  obtain ⟨b', e1, e2, e3, e4⟩ := m_steps (t := M (Wc w) 0 - 1) (i := M (Wc w) 2) k0.2 h.1 os.1.1 os.1.2 q1 gG1 hw hH.2.1 hn gB (by omega) (by rw [k1, vI_p (show 0 < gW M (Wc w) 0 0 from by show 0 < M (Wc w) 0; omega)]; rfl) k2 (by show M (Wc w) 0 = _; omega) rfl h2
  have ho : opM sp B c 2 (w + 1) tv (prM M) = pt (prM M) (Wc w) (dst sp (gG M) B (gW M (Wc w))) := by
    unfold opM; rw [if_neg (by omega), if_neg (by omega), if_pos rfl, Nat.add_sub_cancel]; unfold spM; rw [gG_pr, gW_pr hw]
  obtain ⟨d1, d2, d3, d4, d5⟩ := do_pt (tv := tv) (f := fun L => dst sp (gG M) B L) hw (fun L hL => nz_dst hL) ho
  refine ⟨b', e1, h.w hw d1 d2 d3 l30 ?_ ?_ (fun j _ => by rw [e4.1 269 (by omega) (by omega) (by omega) (by omega) (by omega)]) (fun x x1 x2 => e4.1 x (by omega) (by omega) (by omega) (by omega) (by omega)) (fun v hv x x1 x2 => ?_) e4.2.2, e4.O⟩
  · rw [d5]
    have x0 : dst sp (gG M) B (gW M (Wc w)) 0 0 = M (Wc w) 0 := dst_0 (by omega) (by omega) (by omega)
    have x4 : dst sp (gG M) B (gW M (Wc w)) 0 4 = M (Wc w) 4 := dst_0 (by omega) (by omega) (by omega)
    have x5 : dst sp (gG M) B (gW M (Wc w)) 0 5 = M (Wc w) 5 := dst_0 (by omega) (by omega) (by omega)
    have x1 : dst sp (gG M) B (gW M (Wc w)) 0 1 = M (Wc w) 1 := dst_0 (by omega) (by omega) (by omega)
    have x2 : dst sp (gG M) B (gW M (Wc w)) 0 2 = M (Wc w) 2 + 1 := dst_2
    refine ⟨?_, ?_, e2.1, ?_, ?_, fun _ => ⟨?_, e2⟩⟩
    · rw [e4.1 286 (by omega) (by omega) (by omega) (by omega) (by omega), x0]; exact k1
    · rw [e3, x2]
    · rw [e4.1 290 (by omega) (by omega) (by omega) (by omega) (by omega), x4]; exact k4
    · rw [e4.1 291 (by omega) (by omega) (by omega) (by omega) (by omega), x5]; exact k5
    · rw [e4.1 289 (by omega) (by omega) (by omega) (by omega) (by omega), x1]; exact k0.1
  · rw [e4.1 269 (by omega) (by omega) (by omega) (by omega) (by omega), d4]; exact h.2.1.2.2.2.2.2.1
  · by_cases e7 : x = 287
    · rw [e7]; exact (e4.2.1 v hv).1
    · by_cases e8 : x = 288
      · rw [e8]; exact (e4.2.1 v hv).2
      · rw [e4.1 x e7 e8 (by omega) (by omega) (by omega)]
theorem m_beginD {pl : Prop} {b : Mem} {M B : F2} {sp nw w t : Nat} {c : Nat → Nat} (h : MN pl b M sp) (ok : okM sp nw (M 146 12) B M) (hw : w < 4) : ∃ b', fX12_begins (nI w) (nI t) b = some b' ∧ MN pl b' (doM sp B c 6 (w + 1) (t + 1) M) sp ∧ frO b b' := by
  have l30 := ok.l30
  obtain ⟨k1, k2, k3, k4, k5, k6⟩ := h.2.2.2.1 w hw
  obtain ⟨b', e1, e2, e3, e4, e5, e6⟩ := m_begins (b := b) (t := t) hw
  have ho : opM sp B c 6 (w + 1) (t + 1) (prM M) = pt (prM M) (Wc w) (tkL (t + 1) (M 146 3) (gW M (Wc w))) := by
    unfold opM; rw [if_neg (by omega), if_neg (by omega), if_neg (by omega), if_neg (by omega), if_neg (by omega), if_neg (by omega), Nat.add_sub_cancel, Nat.add_sub_cancel]; unfold bgM; rw [prM_o (by omega), gW_pr hw]
  obtain ⟨d1, d2, d3, d4, d5⟩ := do_pt (f := fun L => tkL (t + 1) (M 146 3) L) hw (fun L hL => nz_tk hL) ho
  obtain ⟨t0, t1, t2, t3, t4, t5, t6, t7, t8⟩ := tk_e (t := t + 1) (e := M 146 3) (L := gW M (Wc w))
  have hr := e2 (tkL (t + 1) (M 146 3) (gW M (Wc w))) ⟨t3, t6, t7, t8⟩
  refine ⟨b', e1, h.w hw d1 d2 d3 l30 ?_ ?_ (fun j _ => by rw [e6.1 269 (by omega) (by omega) (by omega) (by omega) (by omega) (by omega) (by omega)]) (fun x x1 x2 => e6.1 x (by omega) (by omega) (by omega) (by omega) (by omega) (by omega) (by omega)) (fun v hv x x1 x2 => ?_) e6.2.2, e6.O⟩
  · rw [d5]
    refine ⟨by rw [e3, t0]; rfl, by rw [e4, t2], hr.1, ?_, ?_, fun _ => ⟨?_, hr⟩⟩
    · rw [e6.1 290 (by omega) (by omega) (by omega) (by omega) (by omega) (by omega) (by omega), t4]; exact k4
    · rw [e6.1 291 (by omega) (by omega) (by omega) (by omega) (by omega) (by omega) (by omega), t5]; exact k5
    · rw [e5, t1]; exact h.2.1.2.1
  · rw [e6.1 269 (by omega) (by omega) (by omega) (by omega) (by omega) (by omega) (by omega), d4]; exact h.2.1.2.2.2.2.2.1
  · rcases (show x = 286 ∨ x = 287 ∨ x = 288 ∨ x = 289 ∨ x = 290 ∨ x = 291 by omega) with rfl | rfl | rfl | rfl | rfl | rfl
    · exact (e6.2.1 v hv).1
    · exact (e6.2.1 v hv).2.1
    · exact (e6.2.1 v hv).2.2.1
    · exact (e6.2.1 v hv).2.2.2
    · rw [e6.1 290 (by omega) (by omega) (by omega) (by omega) (by omega) (by omega) (by omega)]
    · rw [e6.1 291 (by omega) (by omega) (by omega) (by omega) (by omega) (by omega) (by omega)]
theorem m_idle {b : Mem} {w : Nat} (hw : w < 4) : fX12_idle (nI w) b = some (st2 (st2 (st2 b 286 w (-1)) 287 w 0) 288 w 0) := by
  unfold fX12_idle
  rw [inb_T hw (by omega), nI_ck (by omega)]
  simp only [gdT]
theorem MWk.idle {b b' : Mem} {w : Nat} {L L' : F2} (h : MWk b w L) (e4 : L' 0 4 = L 0 4) (e5 : L' 0 5 = L 0 5) (e0 : L' 0 0 = 0) (e2 : L' 0 2 = 0) (e3 : L' 0 3 = 0) (b6 : b' 286 w = -1) (b7 : b' 287 w = 0) (b8 : b' 288 w = 0) (b0 : b' 290 w = b 290 w) (b1 : b' 291 w = b 291 w) : MWk b' w L' := by
  obtain ⟨k1, k2, k3, k4, k5, k6⟩ := h
  exact ⟨by rw [b6, e0]; rfl, by rw [b7, e2]; rfl, by rw [b8, e3]; rfl, by rw [b0, e4]; exact k4, by rw [b1, e5]; exact k5, fun z => absurd e0 z⟩
theorem m_quitD {pl : Prop} {b : Mem} {M B : F2} {sp nw w tv : Nat} {c : Nat → Nat} (h : MN pl b M sp) (ok : okM sp nw (M 146 12) B M) (hw : w < 4) : ∃ b', fX12_idle (nI w) (st2 b 269 57 (b 269 57 + b 287 w)) = some b' ∧ MN pl b' (doM sp B c 4 (w + 1) tv M) sp ∧ frO b b' := by
  have l30 := ok.l30
  obtain ⟨k1, k2, k3, k4, k5, k6⟩ := h.2.2.2.1 w hw
  have k2' : b 287 w = nI (M (Wc w) 2) := k2
  have s57 : b 269 57 = nI (M 146 17) := h.2.1.2.2.2.2.2.1
  obtain ⟨t0, t1, t2, t3, t4, t5, t6, t7, t8⟩ := tk_e (t := 0) (e := 0) (L := gW M (Wc w))
  have ho : opM sp B c 4 (w + 1) tv (prM M) = pt (up (prM M) 146 17 (M 146 17 + M (Wc w) 2)) (Wc w) (tkL 0 0 (gW M (Wc w))) := by
    unfold opM; rw [if_neg (by omega), if_neg (by omega), if_neg (by omega), if_neg (by omega), if_pos rfl, Nat.add_sub_cancel]; unfold quM rtM; rw [prM_o (by omega), prM_o (by unfold Wc; omega), gW_146, gW_pr hw]
  have d1 : doM sp B c 4 (w + 1) tv M 146 12 = M 146 12 + 1 := by unfold doM nxM; rw [up_e, ho, pt_o (by unfold Wc; omega), up_o _ (by omega), prM_o (by omega)]
  have d2 : ∀ x j, ¬ (x = 146 ∧ (j = 12 ∨ j = 17)) → ¬ (154 ≤ x ∧ x ≤ 157 ∧ j = M 146 12) → ¬ (Wc w ≤ x ∧ x < Wc w + 4) → doM sp B c 4 (w + 1) tv M x j = M x j := fun x j h1 h2 h3 => by rw [do_o (by omega), ho, pt_o h3, up_o _ (by omega), prM_o (by omega)]
  have d3 : doM sp B c 4 (w + 1) tv M 154 (M 146 12) = 0 := by rw [do_o (by omega), ho, pt_o (by unfold Wc; omega), up_o _ (by omega)]; exact prM_154
  have d4 : doM sp B c 4 (w + 1) tv M 146 17 = M 146 17 + M (Wc w) 2 := by rw [do_o (by omega), ho, pt_o (by unfold Wc; omega), up_e]
  have d5 : gW (doM sp B c 4 (w + 1) tv M) (Wc w) = tkL 0 0 (gW M (Wc w)) := by unfold doM nxM; rw [gW_146, ho, gW_pt (nz_tk gW_nf)]
  rw [m_idle hw, s57, k2', nI_add]
  refine ⟨_, rfl, h.w hw d1 d2 d3 l30 ?_ ?_ (fun j hj => ?_) (fun x x1 x2 => ?_) (fun v hv x x1 x2 => ?_) (fun i hi => ?_), ?_⟩
  · rw [d5]
    exact MWk.idle ⟨k1, k2, k3, k4, k5, k6⟩ t4 t5 t0 t2 t3 (by rw [st2_o _ _ (by omega), st2_o _ _ (by omega), st2_eq]) (by rw [st2_o _ _ (by omega), st2_eq]) (st2_eq _ _ _ _) (by rw [st2_o _ _ (by omega), st2_o _ _ (by omega), st2_o _ _ (by omega), st2_o _ _ (by omega)]) (by rw [st2_o _ _ (by omega), st2_o _ _ (by omega), st2_o _ _ (by omega), st2_o _ _ (by omega)])
  · rw [st2_o _ _ (by omega), st2_o _ _ (by omega), st2_o _ _ (by omega), st2_eq, d4]
  · rw [st2_o _ _ (by omega), st2_o _ _ (by omega), st2_o _ _ (by omega), st2_o _ _ (by omega)]
  · rw [st2_c _ _ (by omega), st2_c _ _ (by omega), st2_c _ _ (by omega), st2_c _ _ (by omega)]
  · rw [st2_o _ _ (by omega), st2_o _ _ (by omega), st2_o _ _ (by omega), st2_o _ _ (by omega)]
  · exact ⟨by rw [st2_o _ _ (by omega), st2_o _ _ (by omega), st2_o _ _ (by omega), st2_o _ _ (by omega)], by rw [st2_o _ _ (by omega), st2_o _ _ (by omega), st2_o _ _ (by omega), st2_o _ _ (by omega)], by rw [st2_o _ _ (by omega), st2_o _ _ (by omega), st2_o _ _ (by omega), st2_o _ _ (by omega)]⟩
  · exact (((frO.s9 (by omega)).tr (frO.st (by omega))).tr (frO.st (by omega))).tr (frO.st (by omega))
/-- flush, over any state of lines -/
theorem m_flush {b : Mem} {M : F2} {w : Nat} (hw : w < 4) (hl : M 146 11 ≤ 30) (h1 : 1 ≤ M 146 3) (e54 : b 269 54 = nI (M 146 11)) (e29 : b 269 29 = nI (M 146 3)) (hL : ∀ i, i < M 146 11 → MLn b M i) (hb : ∀ i, i < M 146 11 → M (174 + 2 * i) 0 < 4) :
    ∃ b', fX12_flushes (nI w) b = some b' ∧ b' 291 w = nI (M 146 3 - 1) ∧ (∀ i, i < M 146 11 → M (174 + 2 * i) 9 = 0 → b' 299 i = nI (if M (174 + 2 * i) 0 = w then 1 else M (174 + 2 * i) 8)) ∧ (∀ m, m ≠ 291 → m ≠ 299 → b' m = b m) ∧ ∀ v, v ≠ w → b' 291 v = b 291 v := by
  unfold fX12_flushes
  refine loop_k (fun f j (q : Mem) => lX12_flushes_2 (nI w) f (nI j) q) (M 146 11) (fun j q => (∀ i, i < j → M (174 + 2 * i) 9 = 0 → q 299 i = nI (if M (174 + 2 * i) 0 = w then 1 else M (174 + 2 * i) 8)) ∧ (∀ i, j ≤ i → q 299 i = b 299 i) ∧ ∀ m, m ≠ 299 → q m = b m) (fun q => (∀ i, i < M 146 11 → M (174 + 2 * i) 9 = 0 → q 299 i = nI (if M (174 + 2 * i) 0 = w then 1 else M (174 + 2 * i) 8)) ∧ ∀ m, m ≠ 299 → q m = b m) (Nat.zero_le _) (by omega) (s := b) ⟨fun i hi => absurd hi (by omega), fun _ _ => rfl, fun _ _ => rfl⟩ ?_ ?_ ?_
  · rintro r x1 ⟨x2, x3⟩
    have x1' : lX12_flushes_2 (nI w) FU 0 b = some r := x1
    rw [x1', bq, inb_T hw (by omega), gdT, nI_ck (by omega), x3 269 (by omega), e29, show (1 : Int32) = nI 1 from rfl, nI_sub h1]
    refine ⟨_, rfl, st2_eq _ _ _ _, fun i hi z => by rw [st2_o _ _ (by omega)]; exact x2 i hi z, fun m m1 m2 => by rw [st2_c _ _ m1]; exact x3 m m2, fun v hv => by rw [st2_o _ _ (by omega), x3 291 (by omega)]⟩
  · rintro f q ⟨x2, x3, x4⟩
    refine ⟨q, ?_, x2, x4⟩
    show lX12_flushes_2 _ _ _ _ = _
    rw [lX12_flushes_2, if_pos (by rw [x4 269 (by omega), e54, le_nn (by omega) (by omega)]; omega)]
  · rintro f i q hi ⟨x2, x3, x4⟩
    obtain ⟨y1, y2, y3, y4, y5, -⟩ := hL i hi
    have hbi := hb i hi
    have q5 : q 295 i = vI (lcW M i) := by rw [x4 295 (by omega)]; exact y1
    have eL : ∃ v, lX12_flushes_2 (nI w) (f + 1) (nI i) q = lX12_flushes_2 (nI w) f (nI (i + 1)) (st2 q 299 i v) ∧ (M (174 + 2 * i) 9 = 0 → v = nI (if M (174 + 2 * i) 0 = w then 1 else M (174 + 2 * i) 8)) := by
      rw [lX12_flushes_2, if_neg (by rw [x4 269 (by omega), e54, le_nn (by omega) (by omega)]; omega), inb_T (show i < 64 by omega) (by omega), nI_ck (by omega)]
      simp only [gdT]
      rw [nI_1]
      by_cases z : q 295 i = nI w
      · rw [if_pos z, bq]
        refine ⟨1, rfl, fun z9 => ?_⟩
        unfold lcW at q5
        rw [if_pos z9, vI_s, z, eq_nn (by omega) (by omega)] at q5
        rw [if_pos q5.symm]; rfl
      · rw [if_neg z, bq]
        refine ⟨_, rfl, fun z9 => ?_⟩
        unfold lcW at q5
        rw [if_pos z9, vI_s] at q5
        rw [x3 i (by omega), y5 z9, if_neg (fun y => z (by rw [q5, y]))]
    obtain ⟨v, v1, v2⟩ := eL
    refine ⟨st2 q 299 i v, v1, fun k hk z => ?_, fun k hk => by rw [st2_o _ _ (by omega)]; exact x3 k (by omega), fun m hm => by rw [st2_c _ _ hm]; exact x4 m hm⟩
    by_cases e : k = i
    · subst e; rw [st2_eq]; exact v2 z
    · rw [st2_o _ _ (by omega)]; exact x2 k (by omega) z
theorem flM_o {w : Nat} {M : F2} {x j : Nat} (h1 : ¬ (x = Wc w ∧ j = 5)) (h2 : ¬ (174 ≤ x ∧ x % 2 = 0 ∧ j = 8)) : flM w M x j = M x j := by
  unfold flM
  rw [up_o _ h1]
  by_cases h : x % 2 = 1
  · exact itF_p h _
  · exact itF_o (by omega) _
theorem flM_8 {w : Nat} {M : F2} {i : Nat} (hi : i < M 146 11) : flM w M (174 + 2 * i) 8 = if M (174 + 2 * i) 0 = w then 1 else M (174 + 2 * i) 8 := by
  unfold flM
  rw [up_o _ (by unfold Wc; omega), flI_8]
  by_cases h : M (174 + 2 * i) 0 = w
  · rw [if_pos ⟨hi, h⟩, if_pos h]
  · rw [if_neg (fun z => h z.2), if_neg h]
theorem m_flushD {pl : Prop} {b : Mem} {M B : F2} {sp nw w tv : Nat} {c : Nat → Nat} (h : MN pl b M sp) (ok : okM sp nw (M 146 12) B M) (hw : w < 4) : ∃ b', fX12_flushes (nI w) b = some b' ∧ MN pl b' (doM sp B c 5 (w + 1) tv M) sp ∧ frO b b' := by
  have l30 := ok.l30
  have hM := h
  obtain ⟨g1, ⟨s1, s2, s3, s4, s5, s6, s7, s8⟩, g3, g4, g5, g6, g7⟩ := h
  obtain ⟨b', e1, e2, e3, e4, e5⟩ := m_flush hw l30 ok.2.1.1 s3 s2 g5 (fun i hi => by have := (ok.2.2.2.2.2.1 i hi).1; have := ok.1; omega)
  have ho : opM sp B c 5 (w + 1) tv (prM M) = flM w (prM M) := by
    unfold opM; rw [if_neg (by omega), if_neg (by omega), if_neg (by omega), if_neg (by omega), if_neg (by omega), if_pos rfl, Nat.add_sub_cancel]
  have d1 : doM sp B c 5 (w + 1) tv M 146 12 = M 146 12 + 1 := by unfold doM nxM; rw [up_e, ho, flM_o (by unfold Wc; omega) (by omega), prM_o (by omega)]
  have eo : ∀ x j, ¬ (x = 146 ∧ j = 12) → ¬ (154 ≤ x ∧ x ≤ 157 ∧ j = M 146 12) → ¬ (x = Wc w ∧ j = 5) → ¬ (174 ≤ x ∧ x % 2 = 0 ∧ j = 8) → doM sp B c 5 (w + 1) tv M x j = M x j := fun x j h1 h2 h3 h4 => by rw [do_o h1, ho, flM_o h3 h4, prM_o (by omega)]
  have d154 : doM sp B c 5 (w + 1) tv M 154 (M 146 12) = 0 := by rw [do_o (by omega), ho, flM_o (by unfold Wc; omega) (by omega)]; exact prM_154
  have d5 : doM sp B c 5 (w + 1) tv M (Wc w) 5 = M 146 3 - 1 := by rw [do_o (by unfold Wc; omega), ho]; unfold flM; rw [up_e, prM_o (by omega)]
  have d8 : ∀ i, i < M 146 11 → doM sp B c 5 (w + 1) tv M (174 + 2 * i) 8 = if M (174 + 2 * i) 0 = w then 1 else M (174 + 2 * i) 8 := fun i hi => by rw [do_o (by omega), ho, flM_8 (by rw [prM_o (by omega)]; exact hi), prM_o (by omega), prM_o (by omega)]
  generalize doM sp B c 5 (w + 1) tv M = N at *
  have eg : gG N = gG M := by
    funext f k; unfold gG; split
    · exact eo _ _ (by omega) (by omega) (by unfold Wc; omega) (by omega)
    · rfl
  refine ⟨b', e1, hM.mk' d1 (fun x d hx hd => eo x d (by omega) (by omega) (by unfold Wc; omega) (by omega)) d154 ?_ ⟨?_, ?_, ?_, ?_, ?_⟩ (fun j hj => by rw [e4 269 (by omega) (by omega)]) (eo _ _ (by omega) (by omega) (by unfold Wc; omega) (by omega)) (fun hp k hk => ?_) (fun v hv => ?_) (fun i hi => ?_) (fun i hi => eo _ _ (by omega) (by omega) (by unfold Wc; omega) (by omega)) (e4 _ (by omega) (by omega)) (e4 _ (by omega) (by omega)), ⟨fun j _ => by rw [e4 269 (by omega) (by omega)], fun m hm => e4 m (by omega) (by omega)⟩⟩
  · rw [eg]
    unfold MG
    rw [e4 269 (by omega) (by omega), e4 281 (by omega) (by omega), e4 282 (by omega) (by omega), e4 283 (by omega) (by omega)]
    exact g1
  · rw [e4 269 (by omega) (by omega), eo _ _ (by omega) (by omega) (by unfold Wc; omega) (by omega)]; exact s1
  · rw [e4 269 (by omega) (by omega), eo _ _ (by omega) (by omega) (by unfold Wc; omega) (by omega)]; exact s2
  · rw [e4 269 (by omega) (by omega), eo _ _ (by omega) (by omega) (by unfold Wc; omega) (by omega)]; exact s6
  · rw [e4 269 (by omega) (by omega), eo _ _ (by omega) (by omega) (by unfold Wc; omega) (by omega)]; exact s7
  · rw [e4 269 (by omega) (by omega), eo _ _ (by omega) (by omega) (by unfold Wc; omega) (by omega)]; exact s8
  · rw [e4 284 (by omega) (by omega), e4 285 (by omega) (by omega), eo _ _ (by omega) (by omega) (by unfold Wc; omega) (by omega), eo _ _ (by omega) (by omega) (by unfold Wc; omega) (by omega)]; exact g3 hp k hk
  · obtain ⟨k1, k2, k3, k4, k5, k6⟩ := g4 v hv
    have en : ∀ f j, ¬ (v = w ∧ f = 0 ∧ j = 5) → gW N (Wc v) f j = gW M (Wc v) f j := fun f j hh => by
      unfold gW; split
      · exact eo _ _ (by unfold Wc; omega) (by unfold Wc; omega) (by unfold Wc; omega) (by unfold Wc; omega)
      · rfl
    have hr : ∀ {X : F2}, MWr b v (gW M (Wc v)) → MWr b' v (gW N (Wc v)) := fun {X} hm => by
      obtain ⟨m1, m2, m3, m4⟩ := hm
      refine ⟨by rw [e4 288 (by omega) (by omega), en 0 3 (by omega)]; exact m1, fun k hk => ?_, fun k hk => ?_, fun k hk => ?_⟩
      · rw [e4 292 (by omega) (by omega), m2 k hk]; unfold cR; rw [en 0 6 (by omega), en 1 k (by omega)]
      · rw [e4 293 (by omega) (by omega), m3 k hk]; unfold cG; rw [en 0 7 (by omega), en 2 k (by omega)]
      · rw [e4 294 (by omega) (by omega), m4 k hk]; unfold cV; rw [en 0 8 (by omega), en 3 k (by omega)]
    refine ⟨by rw [e4 286 (by omega) (by omega), en 0 0 (by omega)]; exact k1, by rw [e4 287 (by omega) (by omega), en 0 2 (by omega)]; exact k2, by rw [e4 288 (by omega) (by omega), en 0 3 (by omega)]; exact k3, by rw [e4 290 (by omega) (by omega), en 0 4 (by omega)]; exact k4, ?_, fun z => ?_⟩
    · by_cases e : v = w
      · subst e
        rw [e2]
        show nI (M 146 3 - 1) = nI (N (Wc v) 5)
        rw [d5]
      · rw [e5 v e, en 0 5 (by omega)]; exact k5
    · rw [en 0 0 (by omega)] at z
      exact ⟨by rw [e4 289 (by omega) (by omega), en 0 1 (by omega)]; exact (k6 z).1, hr (X := M) (k6 z).2⟩
  · obtain ⟨y1, y2, y3, y4, y5, y6, y7, y8, y9⟩ := g5 i hi
    have x : ∀ j, j ≠ 8 → N (174 + 2 * i) j = M (174 + 2 * i) j := fun j hj => eo _ _ (by omega) (by omega) (by unfold Wc; omega) (by omega)
    refine ⟨?_, by rw [e4 296 (by omega) (by omega), x 1 (by omega)]; exact y2, by rw [e4 297 (by omega) (by omega), x 2 (by omega)]; exact y3, by rw [e4 298 (by omega) (by omega), x 3 (by omega)]; exact y4, fun z => ?_, by rw [e4 300 (by omega) (by omega), x 4 (by omega)]; exact y6, by rw [e4 301 (by omega) (by omega), x 5 (by omega)]; exact y7, by rw [e4 302 (by omega) (by omega), x 7 (by omega)]; exact y8, fun k hk => ?_⟩
    · rw [e4 295 (by omega) (by omega), y1]; unfold lcW; rw [x 9 (by omega), x 0 (by omega)]
    · rw [x 9 (by omega)] at z
      rw [e3 i hi z, d8 i hi]
    · rw [e4 303 (by omega) (by omega), y9 k hk]; unfold lcV; rw [x 6 (by omega), eo _ _ (by omega) (by omega) (by unfold Wc; omega) (by omega)]
