/-! ===== the reference's commit, whole ===== -/
theorem c0C_o {a : Mem} {i m : Nat} {w t e x : Int32} (h : m ≠ 269) (h2 : ¬ (295 ≤ m ∧ m ≤ 302)) : c0C a i w t e x m = a m := by
  unfold c0C; rw [st2_c _ _ (by omega), st2_c _ _ (by omega), st2_c _ _ (by omega), st2_c _ _ (by omega), st2_c _ _ (by omega), st2_c _ _ (by omega), st2_c _ _ (by omega), st2_c _ _ (by omega), st2_c _ _ (by omega)]
theorem c0C_9 {a : Mem} {i j : Nat} {w t e x : Int32} (h : j ≠ 65) : c0C a i w t e x 269 j = a 269 j := by
  unfold c0C; rw [st2_c _ _ (by omega), st2_c _ _ (by omega), st2_c _ _ (by omega), st2_c _ _ (by omega), st2_c _ _ (by omega), st2_c _ _ (by omega), st2_c _ _ (by omega), st2_c _ _ (by omega), st2_o _ _ (by omega)]
theorem c0C_65 {a : Mem} {i : Nat} {w t e x : Int32} : c0C a i w t e x 269 65 = x := by
  unfold c0C; rw [st2_c _ _ (by omega), st2_c _ _ (by omega), st2_c _ _ (by omega), st2_c _ _ (by omega), st2_c _ _ (by omega), st2_c _ _ (by omega), st2_c _ _ (by omega), st2_c _ _ (by omega), st2_eq]
theorem c0C_r {a : Mem} {i m j : Nat} {w t e x : Int32} (h : m ≠ 269) (hj : j ≠ i) : c0C a i w t e x m j = a m j := by
  unfold c0C; rw [st2_o _ _ (by omega), st2_o _ _ (by omega), st2_o _ _ (by omega), st2_o _ _ (by omega), st2_o _ _ (by omega), st2_o _ _ (by omega), st2_o _ _ (by omega), st2_o _ _ (by omega), st2_o _ _ (by omega)]
theorem c0C_i {a : Mem} {i : Nat} {w t e x : Int32} : c0C a i w t e x 295 i = w ∧ c0C a i w t e x 296 i = t ∧ c0C a i w t e x 297 i = e ∧ c0C a i w t e x 298 i = x ∧ c0C a i w t e x 299 i = 0 ∧ c0C a i w t e x 300 i = 0 ∧ c0C a i w t e x 301 i = 0 ∧ c0C a i w t e x 302 i = 0 := by
  unfold c0C
  refine ⟨?_, ?_, ?_, ?_, ?_, ?_, ?_, ?_⟩ <;> simp (disch := omega) only [st2_o, st2_eq]
theorem MLn.cgp {b b' : Mem} {M M' : F2} {i : Nat} (h : MLn b M i) (e : ∀ c, 295 ≤ c → c ≤ 302 → b' c i = b c i) (e3 : ∀ k, k < 10 → b' 303 (10 * i + k) = b 303 (10 * i + k)) (e1 : ∀ j, M' (174 + 2 * i) j = M (174 + 2 * i) j) (e2 : ∀ k, k < 10 → M' (175 + 2 * i) k = M (175 + 2 * i) k) : MLn b' M' i := by
  obtain ⟨h1, h2, h3, h4, h5, h6, h7, h8, h9⟩ := h
  unfold MLn lcW
  rw [e 295 (by omega) (by omega), e 296 (by omega) (by omega), e 297 (by omega) (by omega), e 298 (by omega) (by omega), e 299 (by omega) (by omega), e 300 (by omega) (by omega), e 301 (by omega) (by omega), e 302 (by omega) (by omega), e1, e1, e1, e1, e1, e1, e1, e1, e1]
  refine ⟨h1, h2, h3, h4, h5, h6, h7, h8, fun k hk => ?_⟩
  rw [e3 k hk, h9 k hk]
  unfold lcV
  rw [e1, e2 k hk]
theorem nOft_1 {M M' : F2} {t : Nat} (e11 : M' 146 11 = M 146 11 + 1) (el : ∀ i, i < M 146 11 → M' (174 + 2 * i) 1 = M (174 + 2 * i) 1) : nOft M' t = nOft M t + (if M' (174 + 2 * M 146 11) 1 = t then 1 else 0) := by
  unfold nOft; rw [e11]
  show sm (fun i => if M' (174 + 2 * i) 1 = t then 1 else 0) (M 146 11) + _ = _
  rw [sm_cg (g := fun i => if M (174 + 2 * i) 1 = t then 1 else 0) _ (fun i hi => by rw [el i hi])]
set_option maxHeartbeats 4000000 in
/-- committed -/
theorem m_comD {pl : Prop} {b : Mem} {M B : F2} {sp wk nw w tv : Nat} {c : Nat → Nat} {y : Int32} (h : MN pl b M sp) (os : okS sp wk c) (ok : okM sp nw (M 146 12) B M) (gB : okB B) (hw : w < 4) (h0 : M (Wc w) 0 ≠ 0) (h30 : M 146 11 < 30) (hs : stl (gG M) (gW M (Wc w)) = 0) (hp : pha (gG M) (gW M (Wc w)) = 0) (hy : pl → y = nI (M 146 12)) :
    ∃ b1 b', fX12_commits (nI w) y (b0C b) = some b1 ∧ fX12_idle (nI w) b1 = some b' ∧ MN pl b' (doM sp B c 3 (w + 1) tv M) sp ∧ frO b b' ∧ CAM pl b' (doM sp B c 3 (w + 1) tv M) (M 146 12) := by
  have p3 : prM M 146 3 = M 146 3 := prM_o (by omega)
  have p11 : prM M 146 11 = M 146 11 := prM_o (by omega)
  have p12 : prM M 146 12 = M 146 12 := prM_o (by omega)
  have p155 : prM M 155 (M 146 12) = 0 := by unfold prM; rw [up_o _ (by omega), up_o _ (by omega), up_e]
  have p156 : prM M 156 (M 146 12) = 0 := by unfold prM; rw [up_o _ (by omega), up_e]
  have E := mk_e (sp := sp) (w := w) (M := prM M) hw (by rw [p11]; exact h30)
  dsimp only at E
  rw [gG_pr, gW_pr hw, p3, p11, p12] at E
  have gG1 := ok.G
  obtain ⟨q1, -, q4, -, q5⟩ := ok.2.2.2.2.1 w hw
  have q5' := q5 h0
  have gB1 := gB.1
  have hk4 := ok.2.2.2.1
  have hM := h
  obtain ⟨g1, ⟨s1, s2, s3, s4, s5, s6, s7, s8⟩, g3, g4, g5, g6, g7⟩ := h
  obtain ⟨k1, k2, k3, k4, k5, k6⟩ := g4 w hw
  have k0 := k6 h0
  have o3 := ok.2.1
  -- the stamp
  have mW : MWr (b0C b) w (gW M (Wc w)) := k0.2.cgb (by rw [b0C_o (by omega)]) (fun k _ => ⟨by rw [b0C_o (by omega)], by rw [b0C_o (by omega)], by rw [b0C_o (by omega)]⟩)
  have mG : MG (b0C b) (gG M) sp := g1.ot (b0C_9 (by omega)) (b0C_9 (by omega)) (fun x _ _ => b0C_o (by omega))
  have hst := m_stampFor (b := b0C b) (w := w) (e := M 146 3) (X := 100 * M 146 3 + M 146 11) mW mG q1 hw (by rw [b0C_o (by omega)]; exact k4) (by rw [b0C_9 (by omega)]; exact s2) (by omega) q4 (by omega) (fun k hk => (hk4 k hk).2.1) hs
  -- the engine's side
  have hop : opM sp B c 3 (w + 1) tv (prM M) = rtM w (mkM sp w (prM M)) := by
    rw [op3]; unfold cmM; rw [gG_pr, gW_pr hw, if_pos hs, if_pos hp]
  have dN : ∀ x j, ¬ (x = 146 ∧ j = 12) → doM sp B c 3 (w + 1) tv M x j = rtM w (mkM sp w (prM M)) x j := fun x j hh => by rw [do_o hh, hop]
  have d12 : doM sp B c 3 (w + 1) tv M 146 12 = rtM w (mkM sp w (prM M)) 146 12 + 1 := by unfold doM nxM; rw [up_e, hop]
  have dg : ∀ v, gW (doM sp B c 3 (w + 1) tv M) (Wc v) = gW (rtM w (mkM sp w (prM M))) (Wc v) := fun v => by unfold doM nxM; rw [gW_146, hop]
  generalize doM sp B c 3 (w + 1) tv M = N at *
  generalize rtM w (mkM sp w (prM M)) = R at *
  generalize hx : nxt (gG M) (gW M (Wc w)) (M 146 3) = x at *
  have gA : gG (mkA w x (prM M)) = gG M := by
    refine Eq.trans ?_ gG_pr
    funext f k; unfold gG; split
    · unfold mkA; rw [p12, up_o _ (by unfold Wc; omega), up_o _ (by omega), up_o _ (by omega)]
    · rfl
  have hA : ∀ z k, 147 ≤ z → z ≤ 151 → mkA w x (prM M) z k = M z k := fun z k h1 h2 => by unfold mkA; rw [p12, up_o _ (by unfold Wc; omega), up_o _ (by omega), up_o _ (by omega), prM_o (by omega)]
  generalize mkA w x (prM M) = A at *
  generalize hLL : gW M (Wc w) = L at *
  have l0 : L 0 0 = M (Wc w) 0 := by rw [← hLL]; rfl
  have c0 := c0C_i (a := b0C b) (i := M 146 11) (w := nI w) (t := nI (M (Wc w) 0 - 1)) (e := nI (M 146 3)) (x := nI x)
  have co : ∀ m, m ≠ 269 → ¬ (295 ≤ m ∧ m ≤ 302) → c0C (b0C b) (M 146 11) (nI w) (nI (M (Wc w) 0 - 1)) (nI (M 146 3)) (nI x) m = b m := fun m m1 m2 => by rw [c0C_o m1 m2, b0C_o m1]
  have c9 : ∀ j, j ≠ 65 → c0C (b0C b) (M 146 11) (nI w) (nI (M (Wc w) 0 - 1)) (nI (M 146 3)) (nI x) 269 j = b0C b 269 j := fun j hj => c0C_9 hj
  have c65 : c0C (b0C b) (M 146 11) (nI w) (nI (M (Wc w) 0 - 1)) (nI (M 146 3)) (nI x) 269 65 = nI x := c0C_65
  have cr : ∀ m j, m ≠ 269 → j ≠ M 146 11 → c0C (b0C b) (M 146 11) (nI w) (nI (M (Wc w) 0 - 1)) (nI (M 146 3)) (nI x) m j = b m j := fun m j h1 h2 => by rw [c0C_r h1 h2, b0C_o h1]
  have e86 : b0C b 286 w = nI (M (Wc w) 0 - 1) := by rw [b0C_o (by omega), k1, l0, vI_p (by omega)]
  obtain ⟨r, r1, r2, r3, r4, r5, r6, r7, r8, r9, r10, r11⟩ := m_comLoop (pl := pl) (c0 := c0C (b0C b) (M 146 11) (nI w) (nI (M (Wc w) 0 - 1)) (nI (M 146 3)) (nI x)) (L := L) (A := A) (w := w) (sp := sp) (i := M 146 11) (x := x) (d := M 146 12) (y := y) (k0.2.cgb (by rw [co 288 (by omega) (by omega)]) (fun k _ => ⟨by rw [co 292 (by omega) (by omega)], by rw [co 293 (by omega) (by omega)], by rw [co 294 (by omega) (by omega)]⟩)) q1 hw (by omega) os.1.1 os.1.2 (by rw [gA]; exact g1.ot (by rw [c9 _ (by omega), b0C_9 (by omega)]) (by rw [c9 _ (by omega), b0C_9 (by omega)]) (fun z _ _ => co z (by omega) (by omega))) (fun k hk => by rw [hA _ _ (by omega) (by omega)]; exact (hk4 k hk).1) (by rw [c9 _ (by omega), b0C_9 (by omega)]; exact s3) c65 c0.2.2.2.2.2.1 c0.2.2.2.2.2.2.1 c0.2.2.2.2.2.2.2 hy (fun hpl k hk => by rw [co 284 (by omega) (by omega), co 285 (by omega) (by omega), hA _ _ (by omega) (by omega), hA _ _ (by omega) (by omega)]; exact g3 hpl k hk)
  have hcm := m_commits (a := b0C b) (w := w) (i := M 146 11) (t := M (Wc w) 0 - 1) (e := M 146 3) (x := x) (o := nOft M (M (Wc w) 0 - 1)) (y := y) hw (by omega) (by omega) (by rw [b0C_9 (by omega)]; exact s3) (by rw [b0C_9 (by omega)]; exact s2) e86 (by rw [b0C_9 (by omega)]; exact s4) (by rw [b0C_o (by omega)]; exact g6 _ (by omega)) hst r1 r8 r9
  refine ⟨_, _, hcm, m_idle hw, ?_⟩
  obtain ⟨E1, E2, E3, E4, E5, E6, E7, E8, E9, ⟨F0, F1, F2, F3, F4, F5, F6, F7, F8, F9⟩, E11⟩ := E
  generalize itr (brS sp (M 146 12) x L) 0 10 (0, A) = Q at *
  clear hcm r1 hst hop
  generalize c0C (b0C b) (M 146 11) (nI w) (nI (M (Wc w) 0 - 1)) (nI (M 146 3)) (nI x) = C at *
  generalize hb' : st2 (st2 (st2 (st2 (st2 (st2 (st2 r 269 54 (nI (M 146 11 + 1))) 290 w (nI x)) 269 55 (nI (M 146 11 + 1))) 304 (M (Wc w) 0 - 1) (nI (nOft M (M (Wc w) 0 - 1) + 1))) 286 w (-1)) 287 w 0) 288 w 0 = b'
  have z9 : ∀ j, j ≠ 54 → j ≠ 55 → b' 269 j = r 269 j := fun j h1 h2 => by rw [← hb', st2_o _ _ (by omega), st2_o _ _ (by omega), st2_o _ _ (by omega), st2_o _ _ (by omega), st2_o _ _ (by omega), st2_o _ _ (by omega), st2_o _ _ (by omega)]
  have z54 : b' 269 54 = nI (M 146 11 + 1) := by rw [← hb', st2_o _ _ (by omega), st2_o _ _ (by omega), st2_o _ _ (by omega), st2_o _ _ (by omega), st2_o _ _ (by omega), st2_o _ _ (by omega), st2_eq]
  have z55 : b' 269 55 = nI (M 146 11 + 1) := by rw [← hb', st2_o _ _ (by omega), st2_o _ _ (by omega), st2_o _ _ (by omega), st2_o _ _ (by omega), st2_eq]
  have zo : ∀ m, m ≠ 269 → m ≠ 286 → m ≠ 287 → m ≠ 288 → m ≠ 290 → m ≠ 304 → b' m = r m := fun m h1 h2 h3 h4 h5 h6 => by rw [← hb', st2_c _ _ h4, st2_c _ _ h3, st2_c _ _ h2, st2_c _ _ h6, st2_c _ _ h1, st2_c _ _ h5, st2_c _ _ h1]
  have z86 : b' 286 w = -1 := by rw [← hb', st2_o _ _ (by omega), st2_o _ _ (by omega), st2_eq]
  have z87 : b' 287 w = 0 := by rw [← hb', st2_o _ _ (by omega), st2_eq]
  have z88 : b' 288 w = 0 := by rw [← hb', st2_eq]
  have z90 : b' 290 w = nI x := by rw [← hb', st2_o _ _ (by omega), st2_o _ _ (by omega), st2_o _ _ (by omega), st2_o _ _ (by omega), st2_o _ _ (by omega), st2_eq]
  have zv : ∀ z v, 286 ≤ z → z ≤ 291 → v ≠ w → b' z v = r z v := fun z v h1 h2 h3 => by rw [← hb', st2_o _ _ (by omega), st2_o _ _ (by omega), st2_o _ _ (by omega), st2_o _ _ (by omega), st2_o _ _ (by omega), st2_o _ _ (by omega), st2_o _ _ (by omega)]
  have z04 : ∀ t, b' 304 t = if t = M (Wc w) 0 - 1 then nI (nOft M (M (Wc w) 0 - 1) + 1) else r 304 t := fun t => by
    rw [← hb', st2_o _ _ (by omega), st2_o _ _ (by omega), st2_o _ _ (by omega)]
    by_cases e : t = M (Wc w) 0 - 1
    · subst e; rw [st2_eq, if_pos rfl]
    · rw [st2_o _ _ (by omega), st2_o _ _ (by omega), st2_o _ _ (by omega), st2_o _ _ (by omega), if_neg e]
  clear hb'
  have ro : ∀ m, m ≠ 269 → ¬ (281 ≤ m ∧ m ≤ 285) → ¬ (295 ≤ m ∧ m ≤ 303) → r m = b m := fun m h1 h2 h3 => by rw [r9 m h1 h2 (by omega), co m h1 (by omega)]
  have r9o : ∀ j, j ≠ 30 → j ≠ 65 → ¬ (62 ≤ j ∧ j ≤ 65) → r 269 j = b 269 j := fun j h1 h2 h3 => by rw [r8 j h1, c9 j h2, b0C_9 h3]
  have N12 : N 146 12 = M 146 12 + 1 := by rw [d12, E1 12 (by omega), p12]
  have NM : ∀ j, j ≠ 11 → j ≠ 12 → N 146 j = M 146 j := fun j h1 h2 => by rw [dN _ _ (by omega), E1 j h1, prM_o (by omega)]
  have N11 : N 146 11 = M 146 11 + 1 := by rw [dN _ _ (by omega), E2]
  have N154 : N 154 (M 146 12) = 1 := by rw [dN _ _ (by omega), E4]
  have Nh : ∀ z d, z = 154 ∨ z = 155 → d < M 146 12 → N z d = M z d := fun z d h1 h2 => by rw [dN _ _ (by omega), E6 z d (by omega) (by omega) (by omega) (by omega), prM_o (by omega)]
  have Nl : ∀ z j, 174 ≤ z → z ≠ 174 + 2 * M 146 11 → z ≠ 175 + 2 * M 146 11 → N z j = M z j := fun z j h1 h2 h3 => by rw [dN _ _ (by omega), E9 z j h1 h2 h3, prM_o (by omega)]
  have egN : gG N = gG Q.2 := by
    funext f k; unfold gG; split
    · rw [dN _ _ (by omega), E3 _ _ (by omega) (by omega)]
    · rfl
  obtain ⟨t0, t1, t2, t3, t4, t5, t6, t7, t8⟩ := tk_e (t := 0) (e := 0) (L := up L 0 4 x)
  rw [up_e] at t4
  rw [up_o _ (by omega)] at t5
  refine ⟨⟨?_, ⟨?_, ?_, ?_, ?_, ?_, ?_, ?_, ?_⟩, fun hpl k hk => ?_, fun v hv => ?_, fun i hi => ?_, fun t ht => ?_, fun k hk => ?_⟩, ⟨fun j hj => ?_, fun m hm => ?_⟩, ⟨?_, ?_, fun hpl => ?_, ?_⟩⟩
  · rw [egN]; exact r2.ot (z9 _ (by omega) (by omega)) (z9 _ (by omega) (by omega)) (fun z _ _ => zo z (by omega) (by omega) (by omega) (by omega) (by omega) (by omega))
  · rw [z9 _ (by omega) (by omega), r9o _ (by omega) (by omega) (by omega), NM _ (by omega) (by omega)]; exact s1
  · rw [z9 _ (by omega) (by omega), r9o _ (by omega) (by omega) (by omega), NM _ (by omega) (by omega)]; exact s2
  · rw [z54, N11]
  · rw [z55, N11]
  · rw [z9 _ (by omega) (by omega), r9o _ (by omega) (by omega) (by omega), nRef_cg N12 (fun d hd => Nh 154 d (by omega) hd) (by omega)]; exact s5
  · rw [z9 _ (by omega) (by omega), r9o _ (by omega) (by omega) (by omega), NM _ (by omega) (by omega)]; exact s6
  · rw [z9 _ (by omega) (by omega), r9o _ (by omega) (by omega) (by omega), NM _ (by omega) (by omega)]; exact s7
  · rw [z9 _ (by omega) (by omega), r9o _ (by omega) (by omega) (by omega), NM _ (by omega) (by omega)]; exact s8
  · rw [zo 284 (by omega) (by omega) (by omega) (by omega) (by omega) (by omega), zo 285 (by omega) (by omega) (by omega) (by omega) (by omega) (by omega), dN _ _ (by omega), dN _ _ (by omega), E3 _ _ (by omega) (by omega), E3 _ _ (by omega) (by omega)]; exact r7 hpl k hk
  · by_cases e : v = w
    · subst e
      rw [dg, E7]
      exact ⟨by rw [z86, t0]; rfl, by rw [z87, t2]; rfl, by rw [z88, t3]; rfl, by rw [z90, t4], by rw [zo 291 (by omega) (by omega) (by omega) (by omega) (by omega) (by omega), ro 291 (by omega) (by omega) (by omega), t5]; exact k5, fun z => absurd t0 z⟩
    · rw [dg, E8 v hv e, gW_pr hv]
      refine (g4 v hv).cgb (fun z h1 h2 => ?_) (fun k hk => ⟨by rw [zo 292 (by omega) (by omega) (by omega) (by omega) (by omega) (by omega), ro 292 (by omega) (by omega) (by omega)], by rw [zo 293 (by omega) (by omega) (by omega) (by omega) (by omega) (by omega), ro 293 (by omega) (by omega) (by omega)], by rw [zo 294 (by omega) (by omega) (by omega) (by omega) (by omega) (by omega), ro 294 (by omega) (by omega) (by omega)]⟩)
      rw [zv z v h1 h2 e, ro z (by omega) (by omega) (by omega)]
  · rw [N11] at hi
    by_cases e : i = M 146 11
    · subst e
      have y : ∀ m, 295 ≤ m → m ≤ 303 → b' m = r m := fun m h1 h2 => zo m (by omega) (by omega) (by omega) (by omega) (by omega) (by omega)
      have y2 : ∀ m, 295 ≤ m → m ≤ 299 → r m = C m := fun m h1 h2 => r9 m (by omega) (by omega) (by omega)
      have n : ∀ j, N (174 + 2 * M 146 11) j = R (174 + 2 * M 146 11) j := fun j => dN _ _ (by omega)
      refine ⟨?_, ?_, ?_, ?_, fun _ => ?_, ?_, ?_, ?_, fun k hk => ?_⟩
      · unfold lcW; rw [n, n, F9, F0, if_pos rfl, vI_s, y _ (by omega) (by omega), y2 _ (by omega) (by omega)]; exact c0.1
      · rw [n, F1, l0, y _ (by omega) (by omega), y2 _ (by omega) (by omega)]; exact c0.2.1
      · rw [n, F2, y _ (by omega) (by omega), y2 _ (by omega) (by omega)]; exact c0.2.2.1
      · rw [n, F3, y _ (by omega) (by omega), y2 _ (by omega) (by omega)]; exact c0.2.2.2.1
      · rw [n, F8, y _ (by omega) (by omega), y2 _ (by omega) (by omega)]; exact c0.2.2.2.2.1
      · rw [n, F4, y _ (by omega) (by omega)]; exact r4
      · rw [n, F5, y _ (by omega) (by omega)]; exact r5
      · rw [n, F7, y _ (by omega) (by omega)]; exact r3
      · rw [y _ (by omega) (by omega), r6 k hk]; unfold lcV cV; rw [n, F6, dN _ _ (by omega), E11 k hk]
    · refine (g5 i (by omega)).cgp (fun m h1 h2 => ?_) (fun k hk => ?_) (fun j => Nl _ _ (by omega) (by omega) (by omega)) (fun k hk => Nl _ _ (by omega) (by omega) (by omega))
      · rw [zo m (by omega) (by omega) (by omega) (by omega) (by omega) (by omega)]
        by_cases hm : m ≤ 299
        · rw [r9 m (by omega) (by omega) (by omega), cr m i (by omega) e]
        · rw [r10 m i (by omega) (by omega) e, cr m i (by omega) e]
      · rw [zo 303 (by omega) (by omega) (by omega) (by omega) (by omega) (by omega), r11 _ (by omega), co 303 (by omega) (by omega)]
  · rw [z04, nOft_1 N11 (fun i hi => Nl _ _ (by omega) (by omega) (by omega)), dN _ _ (by omega), F1, l0]
    by_cases e : t = M (Wc w) 0 - 1
    · rw [if_pos e, if_pos e.symm, ← e]
    · rw [if_neg e, if_neg (fun z => e z.symm), Nat.add_zero, ro 304 (by omega) (by omega) (by omega)]; exact g6 t ht
  · rw [nHot_cg N12 Nh (by omega), zo 305 (by omega) (by omega) (by omega) (by omega) (by omega) (by omega), ro 305 (by omega) (by omega) (by omega)]; exact g7 k hk
  · rw [z9 _ (by omega) (by omega), r9o _ (by omega) (by omega) (by omega)]
  · rw [zo m (by omega) (by omega) (by omega) (by omega) (by omega) (by omega), ro m (by omega) (by omega) (by omega)]
  · rw [z9 _ (by omega) (by omega), r8 _ (by omega), c9 _ (by omega), N154]; unfold b0C; rw [st2_o _ _ (by omega), st2_o _ _ (by omega), st2_o _ _ (by omega), st2_eq]; rfl
  · rw [z9 _ (by omega) (by omega), r8 _ (by omega), c9 _ (by omega), dN _ _ (by omega), E6 _ _ (by omega) (by omega) (by omega) (by omega), p155]; unfold b0C; rw [st2_o _ _ (by omega), st2_o _ _ (by omega), st2_eq]; rfl
  · rw [z9 _ (by omega) (by omega), r8 _ (by omega), c9 _ (by omega), dN _ _ (by omega), E6 _ _ (by omega) (by omega) (by omega) (by omega), p156]; unfold b0C; rw [st2_o _ _ (by omega), st2_eq]; rfl
  · rw [z9 _ (by omega) (by omega), r8 _ (by omega), c65, dN _ _ (by omega), E5, vI_s]
set_option maxHeartbeats 4000000 in
theorem m_tries {pl : Prop} {b : Mem} {M B : F2} {s sp wk n nw w tv : Nat} {c : Nat → Nat} {y : Int32} (h : MN pl b M sp) (hH : HD b s sp wk c n B) (hn : n < 2) (os : okS sp wk c) (ok : okM sp nw (M 146 12) B M) (gB : okB B) (hw : w < 4) (hd : M 146 12 < 60) (hy : pl → y = nI (M 146 12)) :
    (M (Wc w) 0 ≠ 0 → B 1 (M (Wc w) 0 - 1) ≤ M (Wc w) 2 → ∃ b', fX12_tries (nI w) y b = some (true, b') ∧ MN pl b' (doM sp B c 3 (w + 1) tv M) sp ∧ frO b b' ∧ CAM pl b' (doM sp B c 3 (w + 1) tv M) (M 146 12)) ∧ ((M (Wc w) 0 = 0 ∨ M (Wc w) 2 < B 1 (M (Wc w) 0 - 1)) → fX12_tries (nI w) y b = some (false, b)) := by
  have gG1 := ok.G
  have o3 := ok.2.2.1
  obtain ⟨q1, q2, q4, -, q5⟩ := ok.2.2.2.2.1 w hw
  have gB1 := gB.1
  obtain ⟨k1, k2, k3, k4, k5, k6⟩ := h.2.2.2.1 w hw
  have k1' : b 286 w = vI (M (Wc w) 0) := k1
  have k2' : b 287 w = nI (M (Wc w) 2) := k2
  by_cases z0 : M (Wc w) 0 = 0
  · refine ⟨fun y => absurd z0 y, fun _ => ?_⟩
    unfold fX12_tries
    rw [inb_T hw (by omega), gdT, nI_ck (by omega), if_pos (by rw [k1', z0]; rfl)]
  have q5' := q5 z0
  have gB2 := gB.2.1 (M (Wc w) 0 - 1)
  obtain ⟨k1n, hst⟩ := stepsOf_w (M := M) (w := w) hH hn gB z0 q5'.2.1 k1'
  have hne : ¬ b 286 w = -1 := by rw [k1n]; exact nI_m1 (by omega)
  refine ⟨fun _ hle => ?_, fun hlt => ?_⟩
  · have hh : ∀ how m yb, fX12_checks (nI w) b = some (bfC b how m yb) → (how = 2 ∨ how = 3) → m < 10 → fX12_tries (nI w) y b = (fX12_idle (nI w) (st2 (st2 (st2 (bfC b how m yb) 269 56 (nI (nRef M + 1))) 269 57 (nI (M 146 17 + M (Wc w) 2))) 305 m (nI (nHot M m + if how = 2 then 1 else 0)))).bind fun q18 => some (true, q18) := fun how m yb hc hhow hm => by
      have x62 : bfC b how m yb 269 62 = nI how := by unfold bfC; rw [st2_o _ _ (by omega), st2_o _ _ (by omega), st2_eq]
      have x63 : bfC b how m yb 269 63 = nI m := by unfold bfC; rw [st2_o _ _ (by omega), st2_eq]
      have x56 : bfC b how m yb 269 56 = nI (nRef M) := by rw [bfC_9 (by omega)]; exact h.2.1.2.2.2.2.1
      have x57 : bfC b how m yb 269 57 = nI (M 146 17) := by rw [bfC_9 (by omega)]; exact h.2.1.2.2.2.2.2.1
      have x87 : bfC b how m yb 287 w = nI (M (Wc w) 2) := by rw [bfC_o (by omega)]; exact k2'
      have x05 : bfC b how m yb 305 m = nI (nHot M m) := by rw [bfC_o (by omega)]; exact h.2.2.2.2.2.2 m hm
      unfold fX12_tries
      rw [inb_T hw (by omega), nI_ck (by omega)]
      simp only [gdT]
      rw [if_neg hne, k1n, hst, bq]
      dsimp only
      rw [k2', if_pos (by rw [le_nn (by omega) (by omega)]; exact hle), hc, bq]
      generalize bfC b how m yb = S at *
      rw [x62, if_neg (by rw [li1, eq_nn (by omega) (by omega)]; omega), bq, x56, nI_1]
      rw [show (st2 S 269 56 (nI (nRef M + 1))) 269 57 = nI (M 146 17) by rw [st2_o _ _ (by omega)]; exact x57, show (st2 S 269 56 (nI (nRef M + 1))) 287 w = nI (M (Wc w) 2) by rw [st2_o _ _ (by omega)]; exact x87, nI_add]
      have y63 : (st2 (st2 S 269 56 (nI (nRef M + 1))) 269 57 (nI (M 146 17 + M (Wc w) 2))) 269 63 = nI m := by rw [st2_o _ _ (by omega), st2_o _ _ (by omega)]; exact x63
      have y62 : (st2 (st2 S 269 56 (nI (nRef M + 1))) 269 57 (nI (M 146 17 + M (Wc w) 2))) 269 62 = nI how := by rw [st2_o _ _ (by omega), st2_o _ _ (by omega)]; exact x62
      have y05 : (st2 (st2 S 269 56 (nI (nRef M + 1))) 269 57 (nI (M 146 17 + M (Wc w) 2))) 305 m = nI (nHot M m) := by rw [st2_o _ _ (by omega), st2_o _ _ (by omega)]; exact x05
      rw [y63, y62, nI_ck (by omega), y05, inb_T hm (by omega)]
      simp only [gdT]
      rcases hhow with rfl | rfl
      · rw [if_pos (show nI 2 = 2 from rfl), bq, b2T, nI_add, if_pos rfl, bq]
      · rw [if_neg (show ¬ nI 3 = 2 by decide), bq, b2F, nI_add, if_neg (by omega), bq]
    obtain ⟨r, hc, hr⟩ := m_checks (k6 z0).2 h.1 q1 gG1 hw os.1.1 hH.2.2.2.2 q2
    rcases hr with ⟨c1, c2, rfl⟩ | ⟨m, c1, c2, rfl⟩ | ⟨m, c1, c2, c3, rfl⟩
    · obtain ⟨b1, b', e1, e2, e3⟩ := m_comD (tv := tv) (c := c) (y := y) h os ok gB hw z0 (by omega) c1 c2 hy
      refine ⟨b', ?_, e3⟩
      unfold fX12_tries
      rw [inb_T hw (by omega), nI_ck (by omega)]
      simp only [gdT]
      rw [if_neg hne, k1n, hst, bq]
      dsimp only
      rw [k2', if_pos (by rw [le_nn (by omega) (by omega)]; exact hle), hc, bq, if_pos (by unfold b0C; rw [st2_o _ _ (by omega), st2_o _ _ (by omega), st2_o _ _ (by omega), st2_eq]), e1, bq, bq, e2, bq]
    · obtain ⟨b', e1, e2⟩ := m_refD (tv := tv) (how := 2) (m := m) (yb := b 284 m) (ybc := M 150 m) (s := s) (wk := wk) (n := n) (c := c) h ok hw c2 (Or.inl rfl) (fun hp => (h.2.2.1 hp m c2).1) (by rw [op3]; unfold cmM; rw [gG_pr, gW_pr hw, if_neg (by omega), c1, Nat.add_sub_cancel, prM_o (by omega)])
      exact ⟨b', by rw [hh 2 m _ hc (Or.inl rfl) c2, e1, bq], e2⟩
    · obtain ⟨b', e1, e2⟩ := m_refD (tv := tv) (how := 3) (m := m) (yb := b 285 m) (ybc := M 151 m) (s := s) (wk := wk) (n := n) (c := c) h ok hw c3 (Or.inr rfl) (fun hp => (h.2.2.1 hp m c3).2) (by rw [op3]; unfold cmM; rw [gG_pr, gW_pr hw, if_pos c1, if_neg (by omega), c2, Nat.add_sub_cancel, prM_o (by omega)])
      exact ⟨b', by rw [hh 3 m _ hc (Or.inr rfl) c3, e1, bq], e2⟩
  · unfold fX12_tries
    rw [inb_T hw (by omega), nI_ck (by omega)]
    simp only [gdT]
    rw [if_neg hne, k1n, hst, bq]
    dsimp only
    rw [k2', if_neg (by rw [le_nn (by omega) (by omega)]; omega)]
