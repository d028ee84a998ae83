/-! ===== weave: one row in the engine ===== -/
theorem can_c {B X : F2} {w t : Nat} (e2 : X 146 2 = 2) (hw : w < 2) (h0 : X (Wc w) 0 = t + 1) (h2 : B 1 t ≤ X (Wc w) 2) : can B 3 (w + 1) 0 X = true := by
  unfold can
  rw [if_neg (by omega), if_neg (by omega), if_neg (by omega), if_neg (by omega), if_pos rfl, Nat.add_sub_cancel, h0, decide_eq_true (show t + 1 ≠ 0 by omega), Bool.true_and, Nat.add_sub_cancel]
  exact decide_eq_true h2
theorem gW_f {X L : F2} {w : Nat} (h : gW X (Wc w) = L) (j : Nat) : X (Wc w) j = L 0 j := congrFun (congrFun h 0) j
set_option maxHeartbeats 4000000 in
theorem c_weaveOnce {a : Mem} {M B : F2} {s sp wk n x y e i : Nat} {c : Nat → Nat} (hX : CX a M s sp wk c n B) (hx : x < B 0 0) (hy : y < B 0 0) (he : e < 2) (hi : i ≤ B 1 (if e = 0 then y else x)) :
    ∃ a' M', fX3_weaveOnce (nI x) (nI y) (nI e) (nI i) a = some (nI (wvd sp B c (if e = 0 then x else y) (if e = 0 then y else x) i), a') ∧ CX a' M' s sp wk c n B ∧ frK a a' := by
  have hE := hX.2.1
  obtain ⟨q1, q2, os, gB, q5, q6⟩ := hE
  have gB1 := gB.1
  have sp1 := os.1.1
  have b6 : ∀ t, B 1 t ≤ 6 := gB.2.1
  have st := st_e (s := s) (n := n) (wk := wk) (c := c) (M := M)
  obtain ⟨a1, s1, s2, s3⟩ := cW_st hX.1 hX.2.1
  -- two workers
  have hC2 : CM (st2 a1 146 2 (nI 2)) (up (stM s n wk c M) 146 2 2) := s2.stn (by unfold vc; omega)
  have f2 : frK a (st2 a1 146 2 (nI 2)) := s3.tr (frK.st (by omega))
  have hX2 : CX (st2 a1 146 2 (nI 2)) (up (stM s n wk c M) 146 2 2) s sp wk c n B := ⟨hC2, hX.2.1.K f2, by rw [up_o _ (by omega)]; exact st.1.1, by rw [up_o _ (by omega)]; exact st.1.2.1⟩
  have gw2 : ∀ w, w < 4 → gW (up (stM s n wk c M) 146 2 2) (Wc w) = rsL 0 (gW (stB0 c (stA0 s n wk M)) (Wc w)) := fun w hw => by rw [gW_146]; exact st.2.2 w hw
  have gg2 : eG (gG (up (stM s n wk c M) 146 2 2)) (G0 c) := fun f k hf hk => by
    obtain ⟨k1, k2, k3, -⟩ := st.2.1 k hk
    rcases (show f = 0 ∨ f = 1 ∨ f = 2 by omega) with rfl | rfl | rfl
    · show up (stM s n wk c M) 146 2 2 147 k = c k; rw [up_o _ (by omega)]; exact k1
    · show up (stM s n wk c M) 146 2 2 148 k = 0; rw [up_o _ (by omega)]; exact k2
    · show up (stM s n wk c M) 146 2 2 149 k = 0; rw [up_o _ (by omega)]; exact k3
  have ok2 : okM sp 2 0 B (up (stM s n wk c M) 146 2 2) := okM2 (K := fun w => gW (stB0 c (stA0 s n wk M)) (Wc w)) (up_e _ _ _ _) (by rw [up_o _ (by omega)]; exact st.1.2.2.2.1) (by rw [up_o _ (by omega)]; exact st.1.2.2.2.2.1) (by rw [up_o _ (by omega)]; exact st.1.2.2.2.2.2.1) (fun k hk => by
    obtain ⟨k1, k2, k3, -⟩ := st.2.1 k hk
    rw [up_o _ (by omega), up_o _ (by omega), up_o _ (by omega)]
    exact ⟨by rw [k1]; exact os.2.2 k, k2, k3⟩) gw2
  have e12 : up (stM s n wk c M) 146 2 2 146 12 = 0 := by rw [up_o _ (by omega)]; exact st.1.2.2.2.2.2.1
  have e3 : up (stM s n wk c M) 146 2 2 146 3 = 1 := by rw [up_o _ (by omega)]; exact st.1.2.2.2.1
  rw [← e12] at ok2
  generalize up (stM s n wk c M) 146 2 2 = X2 at *
  generalize hk0 : gW (stB0 c (stA0 s n wk M)) = K at *
  -- begin, begin
  have z0 : X2 (Wc 0) 0 = 0 := by rw [gW_f (gw2 0 (by omega))]; exact rs_e.1
  have z1 : X2 (Wc 1) 0 = 0 := by rw [gW_f (gw2 1 (by omega))]; exact rs_e.1
  have canb : ∀ (Y : F2) w t, w < 2 → t < B 0 0 → Y 146 2 = 2 → Y (Wc w) 0 = 0 → can B 6 (w + 1) (t + 1) Y = true := fun Y w t hw ht y2 y0 => by
    unfold can
    rw [if_neg (by omega), if_neg (by omega), if_neg (by omega), if_neg (by omega), if_neg (by omega), if_neg (by omega), if_neg (by omega), Nat.add_sub_cancel, decide_eq_true y0, decide_eq_true (show t + 1 ≠ 0 by omega), decide_eq_true (show t + 1 ≤ B 0 0 by omega)]; rfl
  have ho6 : ∀ (Y : F2) w t, w < 2 → opM sp B c 6 (w + 1) (t + 1) (prM Y) = pt (prM Y) (Wc w) (tkL (t + 1) (Y 146 3) (gW Y (Wc w))) := fun Y w t hw => by
    unfold opM; rw [if_neg (by omega), if_neg (by omega), if_neg (by omega), if_neg (by omega), if_neg (by omega), if_neg (by omega), Nat.add_sub_cancel, Nat.add_sub_cancel]; unfold bgM; rw [prM_o (by omega), gW_pr (by omega)]
  obtain ⟨a3, p1, p2, p3, p4, p5⟩ := perfC (kind := 6) (wv := 1) (tv := x + 1) hX2 ok2 (by omega) (by omega) (by omega) (by omega) (canb X2 0 x (by omega) hx ok2.1.2.2 z0)
  obtain ⟨d1, d2, d3, d4⟩ := do_g (w := 0) (wv := 1) (tv := x + 1) (c := c) (f := fun L => tkL (x + 1) (X2 146 3) L) (by omega) (fun L hL => nz_tk hL) (ho6 X2 0 x (by omega))
  generalize doM sp B c 6 1 (x + 1) X2 = X3 at *
  have z1' : X3 (Wc 1) 0 = 0 := (gW_f d3 0).trans z1
  obtain ⟨a4, u1, u2, u3, u4, u5⟩ := perfC (kind := 6) (wv := 2) (tv := y + 1) p2 p3 (by omega) (by omega) (by omega) (by omega) (canb X3 1 y (by omega) hy p3.1.2.2 z1')
  obtain ⟨v1, v2, v3, v4⟩ := do_g (w := 1) (wv := 2) (tv := y + 1) (c := c) (f := fun L => tkL (y + 1) (X3 146 3) L) (by omega) (fun L hL => nz_tk hL) (ho6 X3 1 y (by omega))
  generalize doM sp B c 6 2 (y + 1) X3 = X4 at *
  have g4 : gG X4 = gG X2 := v1.trans d1
  have w0' : gW X4 (Wc 0) = tkL (x + 1) 1 (gW X2 (Wc 0)) := by
    have t : gW X4 (Wc 0) = gW X3 (Wc 0) := v3
    rw [t, d2, e3]
  have w1' : gW X4 (Wc 1) = tkL (y + 1) 1 (gW X2 (Wc 1)) := by
    have t : gW X3 (Wc 1) = gW X2 (Wc 1) := d3
    rw [v2, t, d4, e3]
  have e34 : X4 146 3 = 1 := by rw [v4, d4, e3]
  have hev : ∀ w t, w < 2 → eqL (tkL (t + 1) 1 (gW X2 (Wc w))) (L0 t) := fun w t hw => by
    obtain ⟨t0, t1, t2, t3, t4, t5, t6, t7, t8⟩ := tk_e (t := t + 1) (e := 1) (L := gW X2 (Wc w))
    have t4' : tkL (t + 1) 1 (gW X2 (Wc w)) 0 4 = 0 := by rw [t4, gw2 w (by omega)]; exact rs_e.2.2.2.2.1
    refine ⟨⟨t0, t2, t3, t4', t6, t7, t8⟩, fun k => ⟨fun z => ?_, fun z => ?_, fun z => ?_⟩⟩
    · rw [t6, Nat.zero_testBit] at z; exact absurd z (by decide)
    · rw [t7, Nat.zero_testBit] at z; exact absurd z (by decide)
    · rw [t8, Nat.zero_testBit] at z; exact absurd z (by decide)
  -- the earlier one, the later one
  have hLe : ∃ Le, gW X4 (Wc e) = Le ∧ eqL Le (L0 (if e = 0 then x else y)) ∧ Le 0 0 = (if e = 0 then x else y) + 1 ∧ Le 0 2 = 0 := by
    rcases (show e = 0 ∨ e = 1 by omega) with rfl | rfl
    · exact ⟨_, w0', hev 0 x (by omega), tk_e.1, tk_e.2.2.1⟩
    · exact ⟨_, w1', hev 1 y (by omega), tk_e.1, tk_e.2.2.1⟩
  have hLl : ∃ Ll, gW X4 (Wc (1 - e)) = Ll ∧ eqL Ll (L0 (if e = 0 then y else x)) ∧ Ll 0 0 = (if e = 0 then y else x) + 1 ∧ Ll 0 2 = 0 := by
    rcases (show e = 0 ∨ e = 1 by omega) with rfl | rfl
    · exact ⟨_, w1', hev 1 y (by omega), tk_e.1, tk_e.2.2.1⟩
    · exact ⟨_, w0', hev 0 x (by omega), tk_e.1, tk_e.2.2.1⟩
  have hte : (if e = 0 then x else y) < B 0 0 := by split <;> assumption
  have htl : (if e = 0 then y else x) < B 0 0 := by split <;> assumption
  have one_e : (1 : Int32) - nI e = nI (1 - e) := nI_sub (a := 1) (by omega)
  have p1' : fX3_perform 6 0 (nI x) (st2 a1 146 2 2) = some (true, a3) := p1
  have u1' : fX3_perform 6 1 (nI y) a3 = some (true, a4) := u1
  have h146 : a 146 0 = nI (8 + 14 * s) ∧ a 146 1 = nI (10 + 14 * n) := ⟨by rw [hX.1.e3, hX.2.2.1], by rw [hX.1.e3, hX.2.2.2]⟩
  have hhead : fX3_weaveOnce (nI x) (nI y) (nI e) (nI i) a = (lX3_weaveOnce_43 (nI e) (nI i) (nI (1 - e)) FU 0 a4).bind fun q11 => (lX3_weaveOnce_67 (nI e) (nI i) (nI (1 - e)) FU 0 q11).bind fun q17 => (fX3_perform 3 (nI e) (-1) q17).bind fun q18 => (lX3_weaveOnce_100 (nI (1 - e)) FU 0 q18.2).bind fun q24 => (fX3_perform 3 (nI (1 - e)) (-1) q24).bind fun q25 => if (q25.2 146 12) ≤ 0 then (some (0, q25.2)) else (gd (inb ((q25.2 146 12) - 1) 60) (some ((q25.2 154 (Int32.toNatClampNeg ((q25.2 146 12) - 1))), q25.2))) := by
    unfold fX3_weaveOnce
    rw [h146.1, h146.2, rfN_n (by omega), rfN_n (by omega), isB_st q1, isB_bk q2, gdT, gdT, s1, bq, p1', bq, u1', bq, one_e]
  rw [hhead]
  generalize (if e = 0 then x else y) = te at *
  generalize (if e = 0 then y else x) = tl at *
  obtain ⟨Le, le1, le2, le3, le4⟩ := hLe
  obtain ⟨Ll, ll1, ll2, ll3, ll4⟩ := hLl
  have bte := b6 te
  have btl := b6 tl
  -- all steps of the earlier one
  obtain ⟨a5, X5, m1, m2, m3, m4, m5, m6, m7, m8, m9⟩ := stepsC (lp := lX3_weaveOnce_43 (nI e) (nI i) (nI (1 - e))) (w := e) (m := 6) (t := te) (fun g x σ => rfl) (by omega) he hte u2 u3 (by omega) (by rw [gW_f le1]; exact le3) (by rw [gW_f le1, le4]; omega)
  rw [gW_f le1, le1, le4, Nat.sub_zero, Nat.min_eq_right bte] at m7
  rw [m1, bq]
  -- some steps of the later one
  have n1e : 1 - (1 - e) = e := by omega
  obtain ⟨a6, X6, j1, j2, j3, j4, j5, j6, j7, j8, j9⟩ := stepsC (lp := lX3_weaveOnce_67 (nI e) (nI i) (nI (1 - e))) (w := 1 - e) (m := i) (t := tl) (fun g x σ => rfl) (by omega) (by omega) htl m2 m3 (by omega) (by rw [gW_f (m8.trans ll1)]; exact ll3) (by rw [gW_f (m8.trans ll1), ll4]; omega)
  rw [gW_f (m8.trans ll1), m8, ll1, ll4, Nat.sub_zero, Nat.min_eq_left hi, m6] at j7
  rw [n1e] at j8
  rw [j1, bq]
  have g6 : gG X6 = gG X2 := j6.trans (m6.trans g4)
  have le6 : gW X6 (Wc e) = run sp (gG X2) B (B 1 te) Le := by rw [j8, m7, g4]
  have ll6 : gW X6 (Wc (1 - e)) = run sp (gG X2) B i Ll := by rw [j7, g4]
  have e36 : X6 146 3 = 1 := by rw [j9, m9, e34]
  have eve := le2.rn (G := gG X2) (B := B) (sp := sp) (B 1 te)
  rw [gg2.ern gB (L := L0 te)] at eve
  have l11 : X6 146 11 < 30 := by have := j3.2.2.1; omega
  -- the first commit
  have fr0 : frs (G0 c) (run sp (G0 c) B (B 1 te) (L0 te)) := (frs.emp (L0_emp te)).rn _
  have vr1 : vrd (gG X6) (gW X6 (Wc e)) = 1 := by
    rw [g6, le6, eve.vr]
    unfold vrd
    rw [gg2.estl, gg2.epha, if_pos fr0.vr.1, if_pos fr0.vr.2]
  obtain ⟨k1, k2⟩ := commC (c := c) j3 sp1 he l11
  obtain ⟨k3, k4, k5⟩ := k2 vr1
  obtain ⟨a7, o1, o2, o3, o4, o5⟩ := perfC (kind := 3) (wv := e + 1) (tv := 0) j2 j3 (by omega) (by omega) (by omega) (by omega) (can_c (t := te) j3.1.2.2 he (by rw [gW_f le6, run_0 (by omega) (by omega) (by omega)]; exact le3) (by rw [gW_f le6, run_2, le4]; omega))
  have o1' : fX3_perform 3 (nI e) (-1) a6 = some (true, a7) := o1
  rw [o1', bq]
  dsimp only
  generalize doM sp B c 3 (e + 1) 0 X6 = X7 at *
  have g7 : gG X7 = cmG sp (nxt (gG X2) (run sp (gG X2) B (B 1 te) Le) 1) (run sp (gG X2) B (B 1 te) Le) 10 (gG X2) := by rw [k3, g6, le6, e36]
  have l7 : gW X7 (Wc (1 - e)) = run sp (gG X2) B i Ll := k4.trans ll6
  -- the later one's other steps
  obtain ⟨a8, X8, h1, h2, h3, h4, h5, h6, h7, h8, h9⟩ := stepsC (lp := lX3_weaveOnce_100 (nI (1 - e))) (w := 1 - e) (m := 6) (t := tl) (fun g x σ => rfl) (by omega) (by omega) htl o2 o3 (by omega) (by rw [gW_f l7, run_0 (by omega) (by omega) (by omega)]; exact ll3) (by rw [gW_f l7, run_2, ll4]; omega)
  rw [gW_f l7, run_2, ll4, l7, Nat.zero_add, Nat.min_eq_right (by omega)] at h7
  rw [h1, bq]
  have l12 : X8 146 11 < 30 := by have := h3.2.2.1; omega
  obtain ⟨r1, -⟩ := commC (c := c) h3 sp1 (show 1 - e < 2 by omega) l12
  obtain ⟨a9, t1, t2, t3, t4, t5⟩ := perfC (kind := 3) (wv := (1 - e) + 1) (tv := 0) h2 h3 (by omega) (by omega) (by omega) (by omega) (can_c (t := tl) h3.1.2.2 (by omega) (by rw [gW_f h7, run_0 (by omega) (by omega) (by omega), run_0 (by omega) (by omega) (by omega)]; exact ll3) (by rw [gW_f h7, run_2, run_2, ll4]; omega))
  have t1' : fX3_perform 3 (nI (1 - e)) (-1) a8 = some (true, a9) := t1
  rw [t1', bq]
  dsimp only
  -- the answer
  have e12' : a9 146 12 = nI (X8 146 12 + 1) := by rw [t2.1.e3, t5]
  have e154 : a9 154 (X8 146 12) = nI (wvd sp B c te tl i) := by
    have q : a9 154 (X8 146 12) = nI (doM sp B c 3 (1 - e + 1) 0 X8 154 (X8 146 12)) := t2.1.n (by omega) (by omega) (by unfold vc; omega)
    have evl := ll2.rn (G := gG X2) (B := B) (sp := sp) i
    rw [gg2.ern gB (L := L0 tl)] at evl
    have ge1 : eG (gG X7) (cmG sp (nxt (G0 c) (run sp (G0 c) B (B 1 te) (L0 te)) 1) (run sp (G0 c) B (B 1 te) (L0 te)) 10 (G0 c)) := by
      rw [g7, eve.enxt, gg2.enxt, eve.cm]; exact gg2.ecm 10 (by omega)
    have ev2 := evl.rn (G := gG X7) (B := B) (sp := sp) (B 1 tl - i)
    rw [ge1.ern gB (L := run sp (G0 c) B i (L0 tl))] at ev2
    rw [q, r1, h6, h7, ev2.vr]
    unfold wvd vrd
    rw [ge1.estl, ge1.epha]
  have hn : ¬ a9 146 12 ≤ 0 := by rw [e12', li0, le_nn (by omega) (by omega)]; omega
  have e1m : a9 146 12 - 1 = nI (X8 146 12) := by rw [e12']; exact nI_sub (a := X8 146 12 + 1) (b := 1) (by omega)
  rw [if_neg hn, e1m, inb_T (show X8 146 12 < 60 by omega) (by omega), gdT, nI_ck (by omega), e154]
  exact ⟨a9, _, rfl, t2, f2.tr (p4.tr (u4.tr (m4.tr (j4.tr (o4.tr (h4.tr t4))))))⟩
/-! all rows in the engine -/
theorem wvd_3 {sp te tl i : Nat} {B : F2} {c : Nat → Nat} : wvd sp B c te tl i = 1 ∨ wvd sp B c te tl i = 2 ∨ wvd sp B c te tl i = 3 := by
  unfold wvd vrd
  split
  · split
    · exact Or.inl rfl
    · exact Or.inr (Or.inr rfl)
  · exact Or.inr (Or.inl rfl)
/-- what a row counts for -/
def fw5 (later v j : Nat) : Nat := if j = 0 then 1 else if j = 1 then (if v = 1 then 1 else 0) else if j = 2 then (if later = 0 ∧ v ≠ 1 then 1 else 0) else if j = 3 then (if later = 1 ∧ v ≠ 1 then 1 else 0) else if v = 3 then 1 else 0
theorem c_count {σ : Mem} {o : Nat → Nat} {later v rows : Nat} (ho : ∀ j, j < 5 → σ 266 j = nI (o j)) (hv : v = 1 ∨ v = 2 ∨ v = 3) (hl : later < 2) : ∃ σ', fX11_countWoven (nI later) (nI v) (nI rows) σ = some σ' ∧ (∀ j, j < 5 → σ' 266 j = nI (o j + rows * fw5 later v j)) ∧ ∀ m, m ≠ 266 → σ' m = σ m := by
  unfold fX11_countWoven
  have h0 := ho 0 (by omega)
  have h1 := ho 1 (by omega)
  have h2 := ho 2 (by omega)
  have h3 := ho 3 (by omega)
  have h4 := ho 4 (by omega)
  rw [h0, nI_add]
  by_cases z1 : v = 1
  · rw [if_pos (by rw [z1]; rfl), st2_o _ _ (show ¬ (266 = 266 ∧ 1 = 0) by omega), h1, nI_add]
    refine ⟨_, rfl, fun j hj => ?_, fun m hm => by rw [st2_c _ _ hm, st2_c _ _ hm]⟩
    rcases (show j = 0 ∨ j = 1 ∨ j = 2 ∨ j = 3 ∨ j = 4 by omega) with rfl | rfl | rfl | rfl | rfl
    · rw [st2_o _ _ (by omega), st2_eq, show fw5 later v 0 = 1 from rfl, Nat.mul_one]
    · rw [st2_eq, show fw5 later v 1 = 1 by unfold fw5; rw [if_neg (by omega), if_pos rfl, if_pos z1], Nat.mul_one]
    · rw [st2_o _ _ (by omega), st2_o _ _ (by omega), h2, show fw5 later v 2 = 0 by unfold fw5; rw [if_neg (by omega), if_neg (by omega), if_pos rfl, if_neg (fun y => y.2 z1)]]; rfl
    · rw [st2_o _ _ (by omega), st2_o _ _ (by omega), h3, show fw5 later v 3 = 0 by unfold fw5; rw [if_neg (by omega), if_neg (by omega), if_neg (by omega), if_pos rfl, if_neg (fun y => y.2 z1)]]; rfl
    · rw [st2_o _ _ (by omega), st2_o _ _ (by omega), h4, show fw5 later v 4 = 0 by unfold fw5; rw [if_neg (by omega), if_neg (by omega), if_neg (by omega), if_neg (by omega), if_neg (by omega)]]; rfl
  · rw [if_neg (ne1 z1 (by omega))]
    have hq : ∃ t, ((if nI later = 0 then (some 2) else (some 3)) : Option Int32) = some (nI t) ∧ t = 3 - (1 - later) ∧ (t = 2 ∨ t = 3) := by
      rcases (show later = 0 ∨ later = 1 by omega) with rfl | rfl
      · exact ⟨2, by rw [if_pos (show nI 0 = 0 from rfl)]; rfl, rfl, Or.inl rfl⟩
      · exact ⟨3, by rw [if_neg (by decide)]; rfl, rfl, Or.inr rfl⟩
    obtain ⟨t, t1, t2, t3⟩ := hq
    have ht5 : t < 5 := by omega
    rw [t1, bq, inb_T ht5 (by omega), gdT, gdT, nI_ck (by omega), st2_o _ _ (show ¬ (266 = 266 ∧ t = 0) by omega), ho t ht5, nI_add]
    have f0 : fw5 later v 0 = 1 := rfl
    have f1 : fw5 later v 1 = 0 := by unfold fw5; rw [if_neg (by omega), if_pos rfl, if_neg z1]
    have f2 : fw5 later v 2 = if later = 0 then 1 else 0 := by
      unfold fw5; rw [if_neg (by omega), if_neg (by omega), if_pos rfl]
      exact ifc ⟨fun y => y.1, fun y => ⟨y, z1⟩⟩
    have f3 : fw5 later v 3 = if later = 1 then 1 else 0 := by
      unfold fw5; rw [if_neg (by omega), if_neg (by omega), if_neg (by omega), if_pos rfl]
      exact ifc ⟨fun y => y.1, fun y => ⟨y, z1⟩⟩
    have f4 : fw5 later v 4 = if v = 3 then 1 else 0 := by unfold fw5; rw [if_neg (by omega), if_neg (by omega), if_neg (by omega), if_neg (by omega)]
    by_cases z3 : v = 3
    · rw [if_pos (by rw [z3]; rfl), bq, st2_o _ _ (show ¬ (266 = 266 ∧ 4 = t) by omega), st2_o _ _ (show ¬ (266 = 266 ∧ 4 = 0) by omega), h4, nI_add]
      refine ⟨_, rfl, fun j hj => ?_, fun m hm => by rw [st2_c _ _ hm, st2_c _ _ hm, st2_c _ _ hm]⟩
      rcases (show j = 0 ∨ j = 1 ∨ j = 2 ∨ j = 3 ∨ j = 4 by omega) with rfl | rfl | rfl | rfl | rfl
      · rw [st2_o _ _ (by omega), st2_o _ _ (by omega), st2_eq, f0, Nat.mul_one]
      · rw [st2_o _ _ (by omega), st2_o _ _ (by omega), st2_o _ _ (by omega), h1, f1]; rfl
      · rw [st2_o _ _ (by omega), f2]
        by_cases l0 : later = 0
        · have e : t = 2 := by omega
          rw [e, st2_eq, if_pos l0, Nat.mul_one]
        · rw [st2_o _ _ (by omega), st2_o _ _ (by omega), h2, if_neg l0]; rfl
      · rw [st2_o _ _ (by omega), f3]
        by_cases l0 : later = 1
        · have e : t = 3 := by omega
          rw [e, st2_eq, if_pos l0, Nat.mul_one]
        · rw [st2_o _ _ (by omega), st2_o _ _ (by omega), h3, if_neg l0]; rfl
      · rw [st2_eq, f4, if_pos z3, Nat.mul_one]
    · rw [if_neg (ne3 z3 (by omega))]
      refine ⟨_, rfl, fun j hj => ?_, fun m hm => by rw [st2_c _ _ hm, st2_c _ _ hm]⟩
      rcases (show j = 0 ∨ j = 1 ∨ j = 2 ∨ j = 3 ∨ j = 4 by omega) with rfl | rfl | rfl | rfl | rfl
      · rw [st2_o _ _ (by omega), st2_eq, f0, Nat.mul_one]
      · rw [st2_o _ _ (by omega), st2_o _ _ (by omega), h1, f1]; rfl
      · rw [f2]
        by_cases l0 : later = 0
        · have e : t = 2 := by omega
          rw [e, st2_eq, if_pos l0, Nat.mul_one]
        · rw [st2_o _ _ (by omega), st2_o _ _ (by omega), h2, if_neg l0]; rfl
      · rw [f3]
        by_cases l0 : later = 1
        · have e : t = 3 := by omega
          rw [e, st2_eq, if_pos l0, Nat.mul_one]
        · rw [st2_o _ _ (by omega), st2_o _ _ (by omega), h3, if_neg l0]; rfl
      · rw [st2_o _ _ (by omega), st2_o _ _ (by omega), h4, f4, if_neg z3]; rfl
def wvn (sp : Nat) (B : F2) (c : Nat → Nat) (x y j : Nat) : Nat := sm (fun i => wa (B 1 x) i * fw5 1 (wvd sp B c x y i) j) (fp (B 1 x) (B 1 y)) + sm (fun i => wa (B 1 y) i * fw5 0 (wvd sp B c y x i) j) (sq (B 1 x) (B 1 y))
theorem EN.h {a a' : Mem} {s sp wk n : Nat} {c : Nat → Nat} {B : F2} (h : EN a s sp wk c n B) (e : ∀ m, m < 146 → a' m = a m) : EN a' s sp wk c n B := h.fr e
set_option maxHeartbeats 2000000 in
theorem c_weaveAll {a : Mem} {B : F2} {s sp wk n x y : Nat} {c : Nat → Nat} (hE : EN a s sp wk c n B) (hx : x < B 0 0) (hy : y < B 0 0) : ∃ a', fX11_weaveAll (8 + 14 * s) (10 + 14 * n) (nI x) (nI y) a = some a' ∧ (∀ j, j < 5 → a' 266 j = nI (wvn sp B c x y j)) ∧ ∀ m, ¬ (146 ≤ m ∧ m < 234) → m ≠ 266 → a' m = a m := by
  have gB := hE.2.2.2.1
  have gB1 := gB.1
  have bx := gB.2.1 x
  have by_ := gB.2.1 y
  unfold fX11_weaveAll
  obtain ⟨a1, f1, f2, f3, f4⟩ := fillL a (c := 266) (N := 5) 0 (by omega)
  have hE1 : EN a1 s sp wk c n B := hE.fr (fun m hm => f4 m (by omega))
  obtain ⟨M, cM⟩ := CM.ex a1
  obtain ⟨a2, s1, s2, s3⟩ := cW_st cM hE1
  have st := st_e (s := s) (n := n) (wk := wk) (c := c) (M := M)
  have hX2 : CX a2 (stM s n wk c M) s sp wk c n B := ⟨s2, hE1.K s3, st.1.1, st.1.2.1⟩
  obtain ⟨ex, -⟩ := hX2.2.1.2.2.2.2.2.2 x hx
  obtain ⟨ey, -⟩ := hX2.2.1.2.2.2.2.2.2 y hy
  rw [f1, bq, s1, bq, inb_T (show x < 7 by omega) (by omega), inb_T (show y < 7 by omega) (by omega), gdT, gdT, nI_ck (by omega), nI_ck (by omega), ex, ey]
  have hfp : ((if nI (B 1 x) = 0 then (some 1) else (some (nI (B 1 y)))) : Option Int32) = some (nI (fp (B 1 x) (B 1 y))) := by
    unfold fp
    by_cases z : B 1 x = 0
    · rw [if_pos (by rw [z]; rfl), if_pos z]; rfl
    · rw [if_neg (ne0 z (by omega)), if_neg z]
  have hsq : ((if nI (B 1 y) = 0 then (some (mn 1 (nI (B 1 x)))) else (some (nI (B 1 x)))) : Option Int32) = some (nI (sq (B 1 x) (B 1 y))) := by
    unfold sq
    by_cases z : B 1 y = 0
    · rw [if_pos (by rw [z]; rfl), if_pos z, li1, mn_n (by omega) (by omega)]
    · rw [if_neg (ne0 z (by omega)), if_neg z]
  have l6 : fp (B 1 x) (B 1 y) ≤ 6 := by unfold fp; split <;> omega
  have l7 : sq (B 1 x) (B 1 y) ≤ 6 := by unfold sq; split <;> omega
  have li : ∀ i, i < fp (B 1 x) (B 1 y) → i ≤ B 1 y := fun i hi => by unfold fp at hi; split at hi <;> omega
  have lj : ∀ i, i < sq (B 1 x) (B 1 y) → i ≤ B 1 x := fun i hi => by unfold sq at hi; split at hi <;> omega
  rw [hfp, bq, hsq]
  -- the first one ahead
  have lp1 : ∃ a3 M3, lX11_weaveAll_50 (nI x) (nI y) (nI (B 1 x)) (nI (B 1 y)) (nI (fp (B 1 x) (B 1 y))) FU 0 a2 = some a3 ∧ CX a3 M3 s sp wk c n B ∧ (∀ j, j < 5 → a3 266 j = nI (sm (fun i => wa (B 1 x) i * fw5 1 (wvd sp B c x y i) j) (fp (B 1 x) (B 1 y)))) ∧ ∀ m, ¬ (146 ≤ m ∧ m < 234) → m ≠ 266 → a3 m = a2 m := by
    refine loop_k (fun f i (q : Mem × F2) => lX11_weaveAll_50 (nI x) (nI y) (nI (B 1 x)) (nI (B 1 y)) (nI (fp (B 1 x) (B 1 y))) f (nI i) q.1) (fp (B 1 x) (B 1 y)) (fun i q => CX q.1 q.2 s sp wk c n B ∧ (∀ j, j < 5 → q.1 266 j = nI (sm (fun i => wa (B 1 x) i * fw5 1 (wvd sp B c x y i) j) i)) ∧ ∀ m, ¬ (146 ≤ m ∧ m < 234) → m ≠ 266 → q.1 m = a2 m) (fun a3 => ∃ M3, CX a3 M3 s sp wk c n B ∧ (∀ j, j < 5 → a3 266 j = nI (sm (fun i => wa (B 1 x) i * fw5 1 (wvd sp B c x y i) j) (fp (B 1 x) (B 1 y)))) ∧ ∀ m, ¬ (146 ≤ m ∧ m < 234) → m ≠ 266 → a3 m = a2 m) (Nat.zero_le _) (by omega) (s := (a2, stM s n wk c M)) ⟨hX2, fun j hj => by show a2 266 j = nI 0; rw [s3 266 (by omega)]; exact f2 j hj, fun _ _ _ => rfl⟩ ?_ ?_ ?_
    · rintro a3 e1 ⟨M3, e2⟩; exact ⟨a3, M3, e1, e2⟩
    · rintro f ⟨q, Y⟩ h
      refine ⟨q, ?_, Y, h⟩
      show lX11_weaveAll_50 (nI x) (nI y) (nI (B 1 x)) (nI (B 1 y)) (nI (fp (B 1 x) (B 1 y))) (f + 1) (nI (fp (B 1 x) (B 1 y))) q = _
      rw [lX11_weaveAll_50, if_pos (by rw [le_nn (by omega) (by omega)]; omega)]
    · rintro f i ⟨q, Y⟩ hi ⟨h1, h2, h3⟩
      dsimp only at h1 h2 h3
      obtain ⟨q', Y', w1, w2, w3⟩ := c_weaveOnce (e := 0) (i := i) h1 hx hy (by omega) (by rw [if_pos rfl]; exact li i hi)
      rw [if_pos rfl, if_pos rfl] at w1
      have w1' : fX3_weaveOnce (nI x) (nI y) 0 (nI i) q = some (nI (wvd sp B c x y i), q') := w1
      obtain ⟨q'', c1, c2, c3⟩ := c_count (σ := q') (later := 1) (v := wvd sp B c x y i) (rows := wa (B 1 x) i) (fun j hj => by rw [w3 266 (by omega)]; exact h2 j hj) wvd_3 (by omega)
      have c1' : fX11_countWoven 1 (nI (wvd sp B c x y i)) (nI (wa (B 1 x) i)) q' = some q'' := c1
      refine ⟨(q'', Y'), ?_, ⟨w2.1.fr (fun m m1 m2 => c3 m (by omega)), w2.2.1.fr (fun m hm => c3 m (by omega)), w2.2.2⟩, fun j hj => c2 j hj, fun m m1 m2 => by show q'' m = _; rw [c3 m m2, w3 m m1]; exact h3 m m1 m2⟩
      show lX11_weaveAll_50 (nI x) (nI y) (nI (B 1 x)) (nI (B 1 y)) (nI (fp (B 1 x) (B 1 y))) (f + 1) (nI i) q = lX11_weaveAll_50 (nI x) (nI y) (nI (B 1 x)) (nI (B 1 y)) (nI (fp (B 1 x) (B 1 y))) f (nI (i + 1)) q''
      rw [lX11_weaveAll_50, if_neg (by rw [le_nn (by omega) (by omega)]; omega), w1', bq]
      dsimp only
      rw [c_ways (by omega) (by omega), bq]
      dsimp only
      rw [c1', bq, nI_1]
  obtain ⟨a3, M3, u1, u2, u3, u4⟩ := lp1
  rw [u1, bq, bq]
  have lp2 : ∃ a4 M4, lX11_weaveAll_109 (nI x) (nI y) (nI (B 1 y)) (nI (sq (B 1 x) (B 1 y))) FU 0 a3 = some a4 ∧ CX a4 M4 s sp wk c n B ∧ (∀ j, j < 5 → a4 266 j = nI (wvn sp B c x y j)) ∧ ∀ m, ¬ (146 ≤ m ∧ m < 234) → m ≠ 266 → a4 m = a3 m := by
    refine loop_k (fun f i (q : Mem × F2) => lX11_weaveAll_109 (nI x) (nI y) (nI (B 1 y)) (nI (sq (B 1 x) (B 1 y))) f (nI i) q.1) (sq (B 1 x) (B 1 y)) (fun i q => CX q.1 q.2 s sp wk c n B ∧ (∀ j, j < 5 → q.1 266 j = nI (sm (fun i => wa (B 1 x) i * fw5 1 (wvd sp B c x y i) j) (fp (B 1 x) (B 1 y)) + sm (fun i => wa (B 1 y) i * fw5 0 (wvd sp B c y x i) j) i)) ∧ ∀ m, ¬ (146 ≤ m ∧ m < 234) → m ≠ 266 → q.1 m = a3 m) (fun a4 => ∃ M4, CX a4 M4 s sp wk c n B ∧ (∀ j, j < 5 → a4 266 j = nI (wvn sp B c x y j)) ∧ ∀ m, ¬ (146 ≤ m ∧ m < 234) → m ≠ 266 → a4 m = a3 m) (Nat.zero_le _) (by omega) (s := (a3, M3)) ⟨u2, u3, fun _ _ _ => rfl⟩ ?_ ?_ ?_
    · rintro a4 e1 ⟨M4, e2⟩; exact ⟨a4, M4, e1, e2⟩
    · rintro f ⟨q, Y⟩ h
      refine ⟨q, ?_, Y, h⟩
      show lX11_weaveAll_109 (nI x) (nI y) (nI (B 1 y)) (nI (sq (B 1 x) (B 1 y))) (f + 1) (nI (sq (B 1 x) (B 1 y))) q = _
      rw [lX11_weaveAll_109, if_pos (by rw [le_nn (by omega) (by omega)]; omega)]
    · rintro f i ⟨q, Y⟩ hi ⟨h1, h2, h3⟩
      dsimp only at h1 h2 h3
      obtain ⟨q', Y', w1, w2, w3⟩ := c_weaveOnce (e := 1) (i := i) h1 hx hy (by omega) (by rw [if_neg (by omega)]; exact lj i hi)
      rw [if_neg (by omega), if_neg (by omega)] at w1
      have w1' : fX3_weaveOnce (nI x) (nI y) 1 (nI i) q = some (nI (wvd sp B c y x i), q') := w1
      obtain ⟨q'', c1, c2, c3⟩ := c_count (σ := q') (later := 0) (v := wvd sp B c y x i) (rows := wa (B 1 y) i) (fun j hj => by rw [w3 266 (by omega)]; exact h2 j hj) wvd_3 (by omega)
      have c1' : fX11_countWoven 0 (nI (wvd sp B c y x i)) (nI (wa (B 1 y) i)) q' = some q'' := c1
      refine ⟨(q'', Y'), ?_, ⟨w2.1.fr (fun m m1 m2 => c3 m (by omega)), w2.2.1.fr (fun m hm => c3 m (by omega)), w2.2.2⟩, fun j hj => by show q'' 266 j = _; rw [c2 j hj, Nat.add_assoc]; rfl, fun m m1 m2 => by show q'' m = _; rw [c3 m m2, w3 m m1]; exact h3 m m1 m2⟩
      show lX11_weaveAll_109 (nI x) (nI y) (nI (B 1 y)) (nI (sq (B 1 x) (B 1 y))) (f + 1) (nI i) q = lX11_weaveAll_109 (nI x) (nI y) (nI (B 1 y)) (nI (sq (B 1 x) (B 1 y))) f (nI (i + 1)) q''
      rw [lX11_weaveAll_109, if_neg (by rw [le_nn (by omega) (by omega)]; omega), w1', bq]
      dsimp only
      rw [c_ways (by omega) (by omega), bq]
      dsimp only
      rw [c1', bq, nI_1]
  obtain ⟨a4, M4, t1, t2, t3, t4⟩ := lp2
  rw [t1, bq]
  exact ⟨a4, rfl, t3, fun m m1 m2 => by rw [t4 m m1 m2, u4 m m1 m2, s3 m m1, f4 m m2]⟩
