/-! ===== weave: the reference's rows ===== -/
/-- a worker at its task: k steps done -/
def WKs (sp : Nat) (b : Mem) (w t k : Nat) (L : F2) : Prop := MWr b w L ∧ b 286 w = nI t ∧ b 287 w = nI k ∧ b 290 w = nI 0 ∧ okL L ∧ L 0 0 = t + 1 ∧ L 0 2 = k ∧ L 0 4 = 0 ∧ L 0 7 < 2 ^ (9 / sp + 1)
/-- nothing of worker v has changed -/
def frV (v : Nat) (b b' : Mem) : Prop := (∀ m, 286 ≤ m → m ≤ 291 → b' m v = b m v) ∧ ∀ k, k < 10 → b' 292 (10 * v + k) = b 292 (10 * v + k) ∧ b' 293 (10 * v + k) = b 293 (10 * v + k) ∧ b' 294 (10 * v + k) = b 294 (10 * v + k)
theorem WKs.fr {sp : Nat} {b b' : Mem} {w t k : Nat} {L : F2} (h : WKs sp b w t k L) (e : frV w b b') : WKs sp b' w t k L := by
  obtain ⟨h1, h2, h3, h4, h5⟩ := h
  exact ⟨h1.cgb (e.1 288 (by omega) (by omega)) e.2, by rw [e.1 286 (by omega) (by omega)]; exact h2, by rw [e.1 287 (by omega) (by omega)]; exact h3, by rw [e.1 290 (by omega) (by omega)]; exact h4, h5⟩
theorem frS.V {w v : Nat} {b b' : Mem} (h : frS w b b') (hv : v ≠ w) : frV v b b' := by
  refine ⟨fun m h1 h2 => ?_, fun k hk => h.2.2 _ (by omega)⟩
  by_cases e7 : m = 287
  · rw [e7]; exact (h.2.1 v hv).1
  · by_cases e8 : m = 288
    · rw [e8]; exact (h.2.1 v hv).2
    · rw [h.1 m e7 e8 (by omega) (by omega) (by omega)]
theorem g7_dst {sp : Nat} {G B L : F2} (gB : okB B) (h : L 0 7 < 2 ^ (9 / sp + 1)) : dst sp G B L 0 7 < 2 ^ (9 / sp + 1) := by
  unfold dst; rw [up_o _ (by omega)]; exact g7_stp h (gB.2.2 _)
theorem stepW {b : Mem} {G B L : F2} {s sp wk n w t k : Nat} {c : Nat → Nat} (h : WKs sp b w t k L) (hG : MG b G sp) (gG1 : okG G) (hH : HD b s sp wk c n B) (hn : n < 2) (os : okS sp wk c) (gB : okB B) (hw : w < 2) (ht : t < B 0 0) (hk : k < B 1 t) : ∃ b', fX12_steps (nI w) b = some (true, b') ∧ WKs sp b' w t (k + 1) (dst sp G B L) ∧ frS w b b' := by
  obtain ⟨h1, h2, h3, h4, h5, h6, h7, h8, h9⟩ := h
  obtain ⟨b', e1, e2, e3, e4⟩ := m_steps h1 hG os.1.1 os.1.2 h5 gG1 (by omega : w < 4) hH.2.1 hn gB ht h2 h3 h6 h7 hk
  exact ⟨b', e1, ⟨e2, by rw [e4.1 286 (by omega) (by omega) (by omega) (by omega) (by omega)]; exact h2, e3, by rw [e4.1 290 (by omega) (by omega) (by omega) (by omega) (by omega)]; exact h4, h5.odst gG1 gB, by rw [dst_0 (by omega) (by omega) (by omega)]; exact h6, by rw [dst_2, h7], by rw [dst_0 (by omega) (by omega) (by omega)]; exact h8, g7_dst gB h9⟩, e4⟩
/-- what a commit or a refusal leaves -/
def frT (w : Nat) (b b' : Mem) : Prop := (∀ j, j < 30 ∨ 69 ≤ j → b' 269 j = b 269 j) ∧ (∀ m, m < 269 ∨ (270 ≤ m ∧ m ≤ 280) ∨ 308 ≤ m → b' m = b m) ∧ ∀ v, v ≠ w → frV v b b'
theorem idle_T {b : Mem} {w : Nat} : frT w b (st2 (st2 (st2 b 286 w (-1)) 287 w 0) 288 w 0) := ⟨fun j _ => by rw [st2_o _ _ (by omega), st2_o _ _ (by omega), st2_o _ _ (by omega)], fun m hm => by rw [st2_c _ _ (by omega), st2_c _ _ (by omega), st2_c _ _ (by omega)], fun v hv => ⟨fun m m1 m2 => by rw [st2_o _ _ (by omega), st2_o _ _ (by omega), st2_o _ _ (by omega)], fun k _ => ⟨by rw [st2_o _ _ (by omega), st2_o _ _ (by omega), st2_o _ _ (by omega)], by rw [st2_o _ _ (by omega), st2_o _ _ (by omega), st2_o _ _ (by omega)], by rw [st2_o _ _ (by omega), st2_o _ _ (by omega), st2_o _ _ (by omega)]⟩⟩⟩
theorem frT.tr {w : Nat} {b b' b'' : Mem} (h : frT w b b') (h2 : frT w b' b'') : frT w b b'' := ⟨fun j hj => (h2.1 j hj).trans (h.1 j hj), fun m hm => (h2.2.1 m hm).trans (h.2.1 m hm), fun v hv => ⟨fun m m1 m2 => ((h2.2.2 v hv).1 m m1 m2).trans ((h.2.2 v hv).1 m m1 m2), fun k hk => ⟨((h2.2.2 v hv).2 k hk).1.trans ((h.2.2 v hv).2 k hk).1, ((h2.2.2 v hv).2 k hk).2.1.trans ((h.2.2 v hv).2 k hk).2.1, ((h2.2.2 v hv).2 k hk).2.2.trans ((h.2.2 v hv).2 k hk).2.2⟩⟩⟩
set_option maxHeartbeats 4000000 in
/-- a task tries to commit -/
theorem triesW {b : Mem} {G B L : F2} {s sp wk n w t i o : Nat} {c : Nat → Nat} (h : WKs sp b w t (B 1 t) L) (hG : MG b G sp) (gG1 : okG G) (hH : HD b s sp wk c n B) (hn : n < 2) (os : okS sp wk c) (gB : okB B) (hw : w < 2) (ht : t < B 0 0) (hi : i < 60) (e29 : b 269 29 = nI 1) (e54 : b 269 54 = nI i) (e55 : b 269 55 = nI i) (e04 : b 304 t = nI o) :
    ∃ b', fX12_tries (nI w) (-1) b = some (true, b') ∧ b' 269 62 = nI (vrd G L) ∧ frT w b b' ∧ (vrd G L = 1 → MG b' (cmG sp (nxt G L 1) L 10 G) sp ∧ b' 269 54 = nI (i + 1) ∧ b' 269 55 = nI (i + 1) ∧ b' 304 t = nI (o + 1) ∧ ∀ u, u ≠ t → b' 304 u = b 304 u) := by
  obtain ⟨h1, h2, h3, h4, h5, h6, h7, h8, h9⟩ := h
  have gB1 := gB.1
  have bt := gB.2.1 t
  have hw4 : w < 4 := by omega
  have hst : fX12_stepsOf (nI t) b = some (nI (B 1 t), b) := hH.2.1.nt hn gB ht
  have hne : ¬ b 286 w = -1 := by rw [h2]; exact nI_m1 (by omega)
  have hle : nI (B 1 t) ≤ b 287 w := by rw [h3, le_nn (by omega) (by omega)]; omega
  have hhead : ∀ r, fX12_checks (nI w) b = some r → fX12_tries (nI w) (-1) b = ((if (r 269 62) = 1 then ((fX12_commits (nI w) (-1) r).bind fun q15 => some q15) else (gd (inb (nI w) 4) ((some (st2 (st2 r 269 56 ((r 269 56) + 1)) 269 57 (((st2 r 269 56 ((r 269 56) + 1)) 269 57) + ((st2 r 269 56 ((r 269 56) + 1)) 287 w)))).bind fun s9 => gd (inb (s9 269 63) 10) ((if (s9 269 62) = 2 then (some true) else (some false) : Option (Bool)).bind fun q12 => gd (inb (s9 269 63) 10) (some (st2 s9 305 (Int32.toNatClampNeg (s9 269 63)) ((s9 305 (Int32.toNatClampNeg (s9 269 63))) + (b2 q12)))))))) : Option Mem).bind fun q17 => (fX12_idle (nI w) q17).bind fun q18 => some (true, q18) := fun r hr => by
    unfold fX12_tries
    rw [inb_T hw4 (by omega), gdT, nI_ck (by omega), if_neg hne, gdT, h2, hst, bq]
    dsimp only
    rw [if_pos hle, hr, bq]
  have href : ∀ how m yb, fX12_checks (nI w) b = some (bfC b how m yb) → (how = 2 ∨ how = 3) → m < 10 → ∃ b', fX12_tries (nI w) (-1) b = some (true, b') ∧ b' 269 62 = nI how ∧ frT w b b' := fun how m yb hc hhow hm => by
    have x62 : bfC b how m yb 269 62 = nI how := by unfold bfC; rw [st2_o _ _ (by omega), st2_o _ _ (by omega), st2_eq]
    have x63 : bfC b how m yb 269 63 = nI m := by unfold bfC; rw [st2_o _ _ (by omega), st2_eq]
    have fb : frT w b (bfC b how m yb) := ⟨fun j hj => bfC_9 (by omega), fun k hk => bfC_o (by omega), fun v hv => ⟨fun k k1 k2 => by rw [bfC_o (by omega)], fun k _ => ⟨by rw [bfC_o (by omega)], by rw [bfC_o (by omega)], by rw [bfC_o (by omega)]⟩⟩⟩
    rw [hhead _ hc]
    generalize bfC b how m yb = S at *
    rw [if_neg (by rw [x62, li1, eq_nn (by omega) (by omega)]; omega), inb_T hw4 (by omega), gdT, bq]
    generalize hs9 : st2 (st2 S 269 56 (S 269 56 + 1)) 269 57 ((st2 S 269 56 (S 269 56 + 1)) 269 57 + (st2 S 269 56 (S 269 56 + 1)) 287 w) = s9
    have y63 : s9 269 63 = nI m := by rw [← hs9, st2_o _ _ (by omega), st2_o _ _ (by omega)]; exact x63
    have y62 : s9 269 62 = nI how := by rw [← hs9, st2_o _ _ (by omega), st2_o _ _ (by omega)]; exact x62
    have f9 : frT w S s9 := ⟨fun j hj => by rw [← hs9, st2_o _ _ (by omega), st2_o _ _ (by omega)], fun k hk => by rw [← hs9, st2_c _ _ (by omega), st2_c _ _ (by omega)], fun v hv => ⟨fun k k1 k2 => by rw [← hs9, st2_o _ _ (by omega), st2_o _ _ (by omega)], fun k _ => ⟨by rw [← hs9, st2_o _ _ (by omega), st2_o _ _ (by omega)], by rw [← hs9, st2_o _ _ (by omega), st2_o _ _ (by omega)], by rw [← hs9, st2_o _ _ (by omega), st2_o _ _ (by omega)]⟩⟩⟩
    clear hs9
    have hq : ∃ q, ((if (s9 269 62) = 2 then (some true) else (some false)) : Option Bool) = some q := by
      by_cases z : s9 269 62 = 2
      · exact ⟨true, by rw [if_pos z]⟩
      · exact ⟨false, by rw [if_neg z]⟩
    obtain ⟨q, hq⟩ := hq
    rw [hq, bq, y63, inb_T hm (by omega), gdT, gdT, nI_ck (by omega), bq, m_idle hw4, bq]
    refine ⟨_, rfl, ?_, fb.tr (f9.tr (frT.tr ⟨fun j hj => st2_o _ _ (by omega), fun k hk => st2_c _ _ (by omega), fun v hv => ⟨fun k k1 k2 => st2_o _ _ (by omega), fun k _ => ⟨st2_o _ _ (by omega), st2_o _ _ (by omega), st2_o _ _ (by omega)⟩⟩⟩ idle_T))⟩
    rw [st2_o _ _ (by omega), st2_o _ _ (by omega), st2_o _ _ (by omega), st2_o _ _ (by omega)]; exact y62
  obtain ⟨r, hc, hr⟩ := m_checks h1 hG h5 gG1 hw4 os.1.1 hH.2.2.2.2 h9
  rcases hr with ⟨c1, c2, rfl⟩ | ⟨m, c1, c2, rfl⟩ | ⟨m, c1, c2, c3, rfl⟩
  · have ev : vrd G L = 1 := by unfold vrd; rw [if_pos c1, if_pos c2]
    rw [ev]
    have mW : MWr (b0C b) w L := h1.cgb (by rw [b0C_o (by omega)]) (fun k _ => ⟨by rw [b0C_o (by omega)], by rw [b0C_o (by omega)], by rw [b0C_o (by omega)]⟩)
    have mG : MG (b0C b) G sp := hG.ot (b0C_9 (by omega)) (b0C_9 (by omega)) (fun x _ _ => b0C_o (by omega))
    have hs := m_stampFor (b := b0C b) (w := w) (e := 1) (X := 9999) mW mG h5 hw4 (by rw [b0C_o (by omega), h8]; exact h4) (by rw [b0C_9 (by omega)]; exact e29) (by omega) (by omega) (by omega) (fun k hk => (gG1 k hk).2.1) c1
    generalize nxt G L 1 = x at *
    have c0 := c0C_i (a := b0C b) (i := i) (w := nI w) (t := nI t) (e := nI 1) (x := nI x)
    have co : ∀ m, m ≠ 269 → ¬ (295 ≤ m ∧ m ≤ 302) → c0C (b0C b) i (nI w) (nI t) (nI 1) (nI x) m = b m := fun m m1 m2 => by rw [c0C_o m1 m2, b0C_o m1]
    have c9 : ∀ j, j ≠ 65 → c0C (b0C b) i (nI w) (nI t) (nI 1) (nI x) 269 j = b0C b 269 j := fun j hj => c0C_9 hj
    have c65 : c0C (b0C b) i (nI w) (nI t) (nI 1) (nI x) 269 65 = nI x := c0C_65
    have gA : eG (gG (fun z k => G (z - 147) k)) G := fun f k hf hk => by
      show (if f < 3 then G (147 + f - 147) k else 0) = _
      rw [if_pos hf, show 147 + f - 147 = f by omega]
    obtain ⟨r, r1, r2, r3, r4, r5, r6, r7, r8, r9, r10, r11⟩ := m_comLoop (pl := False) (c0 := c0C (b0C b) i (nI w) (nI t) (nI 1) (nI x)) (L := L) (A := fun z k => G (z - 147) k) (w := w) (sp := sp) (i := i) (x := x) (d := 0) (y := -1) (h1.cgb (by rw [co 288 (by omega) (by omega)]) (fun k _ => ⟨by rw [co 292 (by omega) (by omega)], by rw [co 293 (by omega) (by omega)], by rw [co 294 (by omega) (by omega)]⟩)) h5 hw4 (by omega) os.1.1 os.1.2 ((hG.ot (by rw [c9 _ (by omega), b0C_9 (by omega)]) (by rw [c9 _ (by omega), b0C_9 (by omega)]) (fun z _ _ => co z (by omega) (by omega))).cg (fun f k hf hk => gA f k hf hk)) (fun k hk => (gG1 k hk).1) (by rw [c9 _ (by omega), b0C_9 (by omega)]; exact e54) c65 c0.2.2.2.2.2.1 c0.2.2.2.2.2.2.1 c0.2.2.2.2.2.2.2 (fun z => z.elim) (fun z => z.elim)
    rw [brI_G os.1.1 10 (by omega)] at r2
    have hcm := m_commits (a := b0C b) (w := w) (i := i) (t := t) (e := 1) (x := x) (o := o) (y := -1) hw4 (by omega) (by omega) (by rw [b0C_9 (by omega)]; exact e54) (by rw [b0C_9 (by omega)]; exact e29) (by rw [b0C_o (by omega)]; exact h2) (by rw [b0C_9 (by omega)]; exact e55) (by rw [b0C_o (by omega)]; exact e04) hs r1 r8 r9
    have z62 : b0C b 269 62 = 1 := by unfold b0C; rw [st2_o _ _ (by omega), st2_o _ _ (by omega), st2_o _ _ (by omega), st2_eq]
    rw [hhead _ hc, if_pos z62, hcm, bq, bq, m_idle hw4, bq]
    have ro : ∀ m, m ≠ 269 → ¬ (281 ≤ m ∧ m ≤ 285) → ¬ (295 ≤ m ∧ m ≤ 303) → r m = b m := fun m m1 m2 m3 => by rw [r9 m m1 m2 (by omega), co m m1 (by omega)]
    have r9o : ∀ j, j ≠ 30 → ¬ (62 ≤ j ∧ j ≤ 65) → r 269 j = b 269 j := fun j j1 j2 => by rw [r8 j j1, c9 j (by omega), b0C_9 j2]
    have r62 : r 269 62 = 1 := by rw [r8 _ (by omega), c9 _ (by omega)]; exact z62
    have fr1 : frT w b (st2 (st2 (st2 (st2 r 269 54 (nI (i + 1))) 290 w (nI x)) 269 55 (nI (i + 1))) 304 t (nI (o + 1))) := ⟨fun j hj => by rw [st2_o _ _ (by omega), st2_o _ _ (by omega), st2_o _ _ (by omega), st2_o _ _ (by omega)]; exact r9o j (by omega) (by omega), fun m hm => by rw [st2_c _ _ (by omega), st2_c _ _ (by omega), st2_c _ _ (by omega), st2_c _ _ (by omega)]; exact ro m (by omega) (by omega) (by omega), fun v hv => ⟨fun m m1 m2 => by rw [st2_o _ _ (by omega), st2_o _ _ (by omega), st2_o _ _ (by omega), st2_o _ _ (by omega), ro m (by omega) (by omega) (by omega)], fun k _ => ⟨by rw [st2_o _ _ (by omega), st2_o _ _ (by omega), st2_o _ _ (by omega), st2_o _ _ (by omega), ro 292 (by omega) (by omega) (by omega)], by rw [st2_o _ _ (by omega), st2_o _ _ (by omega), st2_o _ _ (by omega), st2_o _ _ (by omega), ro 293 (by omega) (by omega) (by omega)], by rw [st2_o _ _ (by omega), st2_o _ _ (by omega), st2_o _ _ (by omega), st2_o _ _ (by omega), ro 294 (by omega) (by omega) (by omega)]⟩⟩⟩
    refine ⟨_, rfl, ?_, fr1.tr idle_T, fun _ => ⟨?_, ?_, ?_, ?_, fun u hu => ?_⟩⟩
    · simp (disch := omega) only [st2_o]; exact r62
    · refine (MG.cg ?_ (fun f k hf hk => ((gA.ecm (L := L) (sp := sp) (x := x) 10 (by omega)) f k hf hk).symm)).ot (b := r) ?_ ?_ ?_
      · exact r2
      · simp (disch := omega) only [st2_o]
      · simp (disch := omega) only [st2_o]
      · intro z z1 z2; rw [st2_c _ _ (by omega), st2_c _ _ (by omega), st2_c _ _ (by omega), st2_c _ _ (by omega), st2_c _ _ (by omega), st2_c _ _ (by omega), st2_c _ _ (by omega)]
    · simp (disch := omega) only [st2_o, st2_eq]
    · simp (disch := omega) only [st2_o, st2_eq]
    · simp (disch := omega) only [st2_o, st2_eq]
    · rw [st2_o _ _ (by omega), st2_o _ _ (by omega), st2_o _ _ (by omega), st2_o _ _ (by omega), st2_o _ _ (by omega), st2_o _ _ (by omega), st2_o _ _ (by omega), ro 304 (by omega) (by omega) (by omega)]
  · have ev : vrd G L = 2 := by unfold vrd; rw [if_neg (by omega)]
    obtain ⟨b', p1, p2, p3⟩ := href 2 m _ hc (Or.inl rfl) c2
    rw [ev]
    exact ⟨b', p1, p2, p3, fun z => absurd z (by omega)⟩
  · have ev : vrd G L = 3 := by unfold vrd; rw [if_pos c1, if_neg (by omega)]
    obtain ⟨b', p1, p2, p3⟩ := href 3 m _ hc (Or.inr rfl) c3
    rw [ev]
    exact ⟨b', p1, p2, p3, fun z => absurd z (by omega)⟩
