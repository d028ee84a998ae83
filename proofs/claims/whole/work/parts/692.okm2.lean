/-! ===== okM behind a commit, a crash ===== -/
theorem okM.rf {sp nw D w how what by_ : Nat} {B M : F2} (ok : okM sp nw D B M) : okM sp nw D B (rfM w how what by_ M) := by
  have e : ∀ c j, ¬ (c = 146 ∧ j = 17) → ¬ (154 ≤ c ∧ c ≤ 156 ∧ j = M 146 12) → rfM w how what by_ M c j = M c j := fun c j h1 h2 => by unfold rfM; rw [up_o _ h1, up_o _ (by omega), up_o _ (by omega), up_o _ (by omega)]
  exact ok.cg (e _ _ (by omega) (by omega)) (e _ _ (by omega) (by omega)) (e _ _ (by omega) (by omega)) (e _ _ (by omega) (by omega)) (fun c k _ _ _ => e _ _ (by omega) (by omega)) (fun c k _ _ => e _ _ (by omega) (by omega)) (fun c d _ _ => e _ _ (by omega) (by omega))
theorem brI_8 {sp d x : Nat} {L : F2} {q : Nat × F2} {j : Nat} : ∀ n, (itr (brS sp d x L) 0 n q).2 148 j = if (L 0 8).testBit j = true ∧ j < n then x else q.2 148 j
  | 0 => by rw [if_neg (by omega)]; rfl
  | n + 1 => by
    rw [itr_S]
    have ih := brI_8 (sp := sp) (d := d) (x := x) (L := L) (q := q) (j := j) n
    generalize itr (brS sp d x L) 0 n q = Q at *
    have hs : (brS sp d x L n Q).2 148 j = if (L 0 8).testBit n = true ∧ j = n then x else Q.2 148 j := by
      unfold brS
      by_cases hb : (L 0 8).testBit n = true
      · rw [if_pos hb]
        by_cases hq : (Q.2 147 n = 0 ↔ L 3 n = 0)
        · rw [if_pos hq]
          dsimp only
          rw [up_o _ (by omega)]
          by_cases e : j = n
          · subst e; rw [up_e, if_pos ⟨hb, rfl⟩]
          · rw [up_o _ (by omega), up_o _ (by omega), if_neg (fun z => e z.2)]
        · rw [if_neg hq]
          dsimp only
          rw [up_o _ (by omega)]
          by_cases e : j = n
          · subst e; rw [up_e, if_pos ⟨hb, rfl⟩]
          · rw [up_o _ (by omega), up_o _ (by omega), up_o _ (by omega), up_o _ (by omega), if_neg (fun z => e z.2)]
      · rw [if_neg hb, if_neg (fun z => hb z.1)]
    rw [hs, ih]
    by_cases e : j = n
    · subst e
      by_cases hb : (L 0 8).testBit j = true
      · rw [if_pos ⟨hb, rfl⟩, if_pos ⟨hb, by omega⟩]
      · rw [if_neg (fun z => hb z.1), if_neg (fun z => hb z.1), if_neg (fun z => hb z.1)]
    · rw [if_neg (fun z => e z.2)]
      by_cases hb : (L 0 8).testBit j = true ∧ j < n
      · rw [if_pos hb, if_pos ⟨hb.1, by omega⟩]
      · rw [if_neg hb, if_neg (fun z => hb ⟨z.1, by omega⟩)]
theorem brI_9 {sp d x : Nat} {L : F2} {q : Nat × F2} {j : Nat} : ∀ n, (itr (brS sp d x L) 0 n q).2 149 j ≤ q.2 149 j + n
  | 0 => Nat.le_refl _
  | n + 1 => by
    rw [itr_S]
    have ih := brI_9 (sp := sp) (d := d) (x := x) (L := L) (q := q) (j := j) n
    generalize itr (brS sp d x L) 0 n q = Q at *
    unfold brS
    split
    · split
      · dsimp only; rw [up_o _ (by omega), up_o _ (by omega), up_o _ (by omega)]; omega
      · dsimp only
        rw [up_o _ (by omega), up_o _ (by omega), up_o _ (by omega), up_o _ (by omega)]
        by_cases e : j = n / sp
        · subst e; rw [up_e]; omega
        · rw [up_o _ (by omega)]; omega
    · omega
theorem nxt_g {G L : F2} {e : Nat} : ∀ n, max (L 0 4) (100 * e) ≤ itr (fun k m => if (L 0 6 ||| L 0 8).testBit k = true then max m (G 1 k) else m) 0 n (max (L 0 4) (100 * e))
  | 0 => Nat.le_refl _
  | n + 1 => by
    rw [itr_S]
    have := nxt_g (G := G) (L := L) (e := e) n
    split <;> omega
theorem okM.mk {sp nw D w : Nat} {B M : F2} (ok : okM sp nw D B M) (hw : w < 4) (h0 : M (Wc w) 0 ≠ 0) (hD : D < 60) : okM sp nw (D + 1) B (rtM w (mkM sp w M)) ∧ (rtM w (mkM sp w M)) 146 12 = M 146 12 ∧ (rtM w (mkM sp w M)) 146 0 = M 146 0 ∧ (rtM w (mkM sp w M)) 146 1 = M 146 1 ∧ (rtM w (mkM sp w M)) 154 (M 146 12) = 1 ∧ (rtM w (mkM sp w M)) 155 (M 146 12) = M 155 (M 146 12) := by
  have l30 := ok.l30
  obtain ⟨⟨o11, o12, o13⟩, ⟨o21, o22⟩, o3, o4, o5, o6, o7, o8, o9⟩ := ok
  obtain ⟨q1, q2, q3, q4, q5⟩ := o5 w hw
  have q5' := q5 h0
  -- the stamp
  have xle : nxt (gG M) (gW M (Wc w)) (M 146 3) ≤ 100 * M 146 3 + M 146 11 + 1 := by
    unfold nxt
    have := nxt_b (G := gG M) (L := gW M (Wc w)) (e := M 146 3) (X := 100 * M 146 3 + M 146 11) q3 (by omega) (fun k hk => (o4 k hk).2.1) 10 (Nat.le_refl _)
    omega
  have xge : M (Wc w) 4 < nxt (gG M) (gW M (Wc w)) (M 146 3) ∧ 100 * M 146 3 < nxt (gG M) (gW M (Wc w)) (M 146 3) := by
    unfold nxt
    have h1 := nxt_g (G := gG M) (L := gW M (Wc w)) (e := M 146 3) 10
    have e4 : gW M (Wc w) 0 4 = M (Wc w) 4 := rfl
    rw [e4] at h1 ⊢
    generalize itr (fun k m => if (gW M (Wc w) 0 6 ||| gW M (Wc w) 0 8).testBit k = true then max m (gG M 1 k) else m) 0 10 (max (M (Wc w) 4) (100 * M 146 3)) = z at *
    omega
  have i11 : M 146 11 < 30 := by omega
  unfold mkM
  dsimp only
  generalize nxt (gG M) (gW M (Wc w)) (M 146 3) = x at *
  have mo : ∀ c j, ¬ (c = 154 ∧ j = M 146 12) → ¬ (c = 157) → ¬ (c = Wc w ∧ j = 4) → mkA w x M c j = M c j := fun c j z1 z2 z3 => by unfold mkA; rw [up_o _ z3, up_o _ (by omega), up_o _ (by omega)]
  have m4 : mkA w x M (Wc w) 4 = x := by unfold mkA; rw [up_e]
  have m154 : mkA w x M 154 (M 146 12) = 1 := by unfold mkA; rw [up_o _ (by unfold Wc; omega), up_o _ (by omega), up_e]
  have bo : ∀ c j, ¬ (147 ≤ c ∧ c ≤ 151) → (itr (brS sp (M 146 12) x (gW M (Wc w))) 0 10 (0, mkA w x M)).2 c j = mkA w x M c j := fun c j z0 => brI_o z0 10
  have b7 : ∀ k, k < 10 → (itr (brS sp (M 146 12) x (gW M (Wc w))) 0 10 (0, mkA w x M)).2 147 k ≤ 100 := fun k hk => by
    rw [brI_v]
    split
    · rename_i z; exact (q1.2.2.2.2 k hk).2.2 z.1
    · show mkA w x M 147 k ≤ 100; rw [mo _ _ (by omega) (by omega) (by unfold Wc; omega)]; exact (o4 k hk).1
  have b8 : ∀ k, k < 10 → (itr (brS sp (M 146 12) x (gW M (Wc w))) 0 10 (0, mkA w x M)).2 148 k ≤ 100 * M 146 3 + M 146 11 + 1 := fun k hk => by
    rw [brI_8]
    split
    · exact xle
    · show mkA w x M 148 k ≤ _; rw [mo _ _ (by omega) (by omega) (by unfold Wc; omega)]; have := o4 k hk; omega
  have b9 : ∀ k, k < 10 → (itr (brS sp (M 146 12) x (gW M (Wc w))) 0 10 (0, mkA w x M)).2 149 k ≤ 10 * M 146 11 + 10 := fun k hk => by
    have h1 := brI_9 (sp := sp) (d := M 146 12) (x := x) (L := gW M (Wc w)) (q := (0, mkA w x M)) (j := k) 10
    have h2 : mkA w x M 149 k = M 149 k := mo _ _ (by omega) (by omega) (by unfold Wc; omega)
    have h3 : ((0, mkA w x M) : Nat × F2).2 149 k = M 149 k := h2
    rw [h3] at h1
    have := o4 k hk
    omega
  have b1 := brI_1 (sp := sp) (d := M 146 12) (x := x) (L := gW M (Wc w)) (q := (0, mkA w x M)) (by show 0 < 1024; omega) 10 (Nat.le_refl _)
  generalize itr (brS sp (M 146 12) x (gW M (Wc w))) 0 10 (0, mkA w x M) = Q at *
  have Q11 : Q.2 146 11 = M 146 11 := by rw [bo _ _ (by omega), mo _ _ (by omega) (by omega) (by unfold Wc; omega)]
  have Q3 : Q.2 146 3 = M 146 3 := by rw [bo _ _ (by omega), mo _ _ (by omega) (by omega) (by unfold Wc; omega)]
  -- the line
  have lo : ∀ c j, c ≠ 174 + 2 * M 146 11 → c ≠ 175 + 2 * M 146 11 → ¬ (c = 146 ∧ j = 11) → lnM w x Q.1 (gW M (Wc w)) Q.2 c j = Q.2 c j := fun c j z1 z2 z3 => by
    unfold lnM
    rw [Q11, Q3, up_o _ z3, upr_o _ (by omega), up_o _ (by omega), up_o _ (by omega), up_o _ (by omega), up_o _ (by omega), up_o _ (by omega), up_o _ (by omega), up_o _ (by omega), up_o _ (by omega), up_o _ (by omega), up_o _ (by omega)]
  have l11 : lnM w x Q.1 (gW M (Wc w)) Q.2 146 11 = M 146 11 + 1 := by unfold lnM; rw [up_e, Q11]
  have ll : (lnM w x Q.1 (gW M (Wc w)) Q.2 (174 + 2 * M 146 11) 0 = w ∧ lnM w x Q.1 (gW M (Wc w)) Q.2 (174 + 2 * M 146 11) 1 = M (Wc w) 0 - 1 ∧ lnM w x Q.1 (gW M (Wc w)) Q.2 (174 + 2 * M 146 11) 2 = M 146 3 ∧ lnM w x Q.1 (gW M (Wc w)) Q.2 (174 + 2 * M 146 11) 3 = x ∧ lnM w x Q.1 (gW M (Wc w)) Q.2 (174 + 2 * M 146 11) 4 = M (Wc w) 6) ∧ (lnM w x Q.1 (gW M (Wc w)) Q.2 (174 + 2 * M 146 11) 5 = M (Wc w) 7 ∧ lnM w x Q.1 (gW M (Wc w)) Q.2 (174 + 2 * M 146 11) 6 = M (Wc w) 8 ∧ lnM w x Q.1 (gW M (Wc w)) Q.2 (174 + 2 * M 146 11) 7 = Q.1 ∧ lnM w x Q.1 (gW M (Wc w)) Q.2 (174 + 2 * M 146 11) 8 = 0 ∧ lnM w x Q.1 (gW M (Wc w)) Q.2 (174 + 2 * M 146 11) 9 = 0) := by
    unfold lnM
    rw [Q11, Q3]
    refine ⟨⟨?_, ?_, ?_, ?_, ?_⟩, ?_, ?_, ?_, ?_, ?_⟩ <;> simp (disch := omega) only [up_o, upr_o, up_e] <;> rfl
  have lw : ∀ k, k < 10 → lnM w x Q.1 (gW M (Wc w)) Q.2 (175 + 2 * M 146 11) k = M (Wc w + 3) k := fun k hk => by
    unfold lnM
    rw [Q11, Q3, up_o _ (by omega), upr_k _ ⟨rfl, hk⟩]; rfl
  generalize lnM w x Q.1 (gW M (Wc w)) Q.2 = N at *
  have nWo : ∀ v, v < 4 → ∀ f j, f < 4 → ¬ (v = w ∧ f = 0 ∧ j = 4) → N (Wc v + f) j = M (Wc v + f) j := fun v hv f j hf hn => by
    rw [lo _ _ (by unfold Wc; omega) (by unfold Wc; omega) (by unfold Wc; omega), bo _ _ (by unfold Wc; omega), mo _ _ (by unfold Wc; omega) (by unfold Wc; omega) (by unfold Wc at *; omega)]
  have nW4 : N (Wc w) 4 = x := by rw [lo _ _ (by unfold Wc; omega) (by unfold Wc; omega) (by unfold Wc; omega), bo _ _ (by unfold Wc; omega), m4]
  obtain ⟨t0, t1, t2, t3, t4, t5, t6, t7, t8⟩ := tk_e (t := 0) (e := 0) (L := gW N (Wc w))
  have ro : ∀ c, ¬ (158 ≤ c ∧ c < 174) → rtM w N c = N c := fun c h => pt_o (by unfold Wc; omega)
  have rw_ : ∀ v, v < 4 → v ≠ w → rtM w N (Wc v) = N (Wc v) := fun v _ hv => pt_o (by unfold Wc; omega)
  have rk : ∀ j, rtM w N (Wc w) j = tkL 0 0 (gW N (Wc w)) 0 j := fun j => pt_k (f := 0) (by omega)
  have rg : gW (rtM w N) (Wc w) = tkL 0 0 (gW N (Wc w)) := gW_pt (nz_tk gW_nf)
  have rgo : ∀ v, v < 4 → v ≠ w → gW (rtM w N) (Wc v) = gW N (Wc v) := fun v _ hv => gW_po (by unfold Wc; omega)
  have ngo : ∀ v, v < 4 → v ≠ w → gW N (Wc v) = gW M (Wc v) := fun v hv hvw => by
    funext f j
    by_cases hf : f < 4
    · rw [gW_e hf, gW_e hf, nWo v hv f j hf (by omega)]
    · exact (if_neg hf).trans (if_neg hf).symm
  have nv : ∀ v, v < 4 → v ≠ w → N (Wc v) = M (Wc v) := fun v hv hvw => by funext j; exact nWo v hv 0 j (by omega) (by omega)
  have hb := bzy_pt (M := N) (L := tkL 0 0 (gW N (Wc w))) hw
  have hN0 : N (Wc w) 0 = M (Wc w) 0 := nWo w hw 0 0 (by omega) (by omega)
  have hbN : bzy N = bzy M := sm_cg 4 (fun v hv => by rw [show N (Wc v) 0 = M (Wc v) 0 from nWo v hv 0 0 (by omega) (by omega)])
  rw [t0, if_pos rfl, hN0, if_neg h0, hbN] at hb
  have r11 : rtM w N 146 11 = M 146 11 + 1 := by rw [ro 146 (by omega)]; exact l11
  have N3 : N 146 3 = M 146 3 := by rw [lo _ _ (by omega) (by omega) (by omega)]; exact Q3
  have r3 : rtM w N 146 3 = M 146 3 := by rw [ro 146 (by omega)]; exact N3
  have h146 : ∀ j, j ≠ 11 → rtM w N 146 j = M 146 j := fun j hj => by rw [ro 146 (by omega), lo _ _ (by omega) (by omega) (by omega), bo _ _ (by omega), mo _ _ (by omega) (by omega) (by unfold Wc; omega)]
  have oldL : ∀ i, i < M 146 11 → rtM w N (174 + 2 * i) = M (174 + 2 * i) ∧ rtM w N (175 + 2 * i) = M (175 + 2 * i) := fun i hi => by
    refine ⟨?_, ?_⟩
    · rw [ro _ (by omega)]; funext j; rw [lo _ _ (by omega) (by omega) (by omega), bo _ _ (by omega), mo _ _ (by omega) (by omega) (by unfold Wc; omega)]
    · rw [ro _ (by omega)]; funext j; rw [lo _ _ (by omega) (by omega) (by omega), bo _ _ (by omega), mo _ _ (by omega) (by omega) (by unfold Wc; omega)]
  have newL : rtM w N (174 + 2 * M 146 11) = N (174 + 2 * M 146 11) := ro _ (by omega)
  have newL2 : rtM w N (175 + 2 * M 146 11) = N (175 + 2 * M 146 11) := ro _ (by omega)
  have hist : ∀ c d, c = 154 ∨ c = 155 → ¬ (c = 154 ∧ d = M 146 12) → rtM w N c d = M c d := fun c d hc hd => by rw [ro _ (by omega), lo _ _ (by omega) (by omega) (by omega), bo _ _ (by omega), mo _ _ hd (by omega) (by unfold Wc; omega)]
  obtain ⟨⟨a0, a1, a2, a3, a4⟩, a5, a6, a7, a8, a9⟩ := ll
  refine ⟨⟨⟨o11, o12, by rw [h146 2 (by omega)]; exact o13⟩, by rw [r3]; exact ⟨o21, o22⟩, ?_, fun k hk => ?_, fun v hv => ?_, fun i hi => ?_, fun i j hij hj => ?_, fun d hd => ?_, fun v v1 v2 => ?_⟩, h146 12 (by omega), h146 0 (by omega), h146 1 (by omega), ?_, hist 155 _ (by omega) (by omega)⟩
  · rw [r11]
    have hbb : bzy (rtM w N) + 1 = bzy M := hb
    omega
  · rw [r3, r11, ro 147 (by omega), ro 148 (by omega), ro 149 (by omega), lo _ _ (by omega) (by omega) (by omega), lo _ _ (by omega) (by omega) (by omega), lo _ _ (by omega) (by omega) (by omega)]
    have h1 := b7 k hk
    have h2 := b8 k hk
    have h3 := b9 k hk
    omega
  · by_cases e : v = w
    · subst e
      unfold wkO
      rw [rg, rk, rk, rk, rk, r3, r11, t7, t4, t5, t0]
      have g4 : gW N (Wc v) 0 4 = x := nW4
      have g5 : gW N (Wc v) 0 5 = M (Wc v) 5 := nWo v hv 0 5 (by omega) (by omega)
      rw [g4, g5]
      exact ⟨okL_tk, Nat.two_pow_pos _, by omega, q4, fun z => absurd rfl z⟩
    · obtain ⟨y1, y2, y3, y4, y5⟩ := o5 v hv
      unfold wkO
      rw [rgo v hv e, ngo v hv e, rw_ v hv e, nv v hv e, r3, r11]
      exact ⟨y1, y2, by omega, y4, y5⟩
  · rw [r11] at hi
    by_cases e : i = M 146 11
    · subst e
      unfold lnO
      rw [newL, newL2, a0, a1, a2, a3, a4, a5, a6, a7, a8, a9, r3, rk, t4]
      have g4 : gW N (Wc w) 0 4 = x := nW4
      rw [g4]
      exact ⟨q5'.1, by omega, by omega, by omega, q1.2.1, q1.2.2.1, q1.2.2.2.1, b1, by omega, by omega, fun k hk hbk => by rw [lw k hk]; exact (q1.2.2.2.2 k hk).2.2 hbk, fun _ => ⟨by omega, by omega, by omega, Or.inl (Nat.le_refl _)⟩⟩
    · obtain ⟨p1, p2, p3, p4, p5, p6, p7, p8, p9, p10, p11, p12⟩ := o6 i (by omega)
      unfold lnO
      rw [(oldL i (by omega)).1, (oldL i (by omega)).2, r3]
      refine ⟨p1, p2, p3, p4, p5, p6, p7, p8, p9, p10, p11, fun z => ?_⟩
      obtain ⟨z1, z2, z3, z4⟩ := p12 z
      refine ⟨z1, z2, z3, ?_⟩
      by_cases ew : M (174 + 2 * i) 0 = w
      · rw [ew, rk, t4]
        have g4 : gW N (Wc w) 0 4 = x := nW4
        rw [g4]
        rw [ew] at z4
        omega
      · rw [rw_ _ (by omega) ew, nv _ (by omega) ew]; exact z4
  · rw [r11] at hj
    by_cases e : j = M 146 11
    · subst e
      rw [newL, (oldL i hij).1, a9, a0, a3]
      intro z1 _ z3
      obtain ⟨y1, y2, y3, y4⟩ := (o6 i hij).2.2.2.2.2.2.2.2.2.2.2 z1
      rw [z3] at y4
      omega
    · rw [(oldL i (by omega)).1, (oldL j (by omega)).1]; exact o7 i j hij (by omega)
  · rw [h146 12 (by omega)] at hd
    rw [hist 154 d (by omega) (by omega), hist 155 d (by omega) (by omega)]; exact o8 d hd
  · by_cases e : v = w
    · exact absurd q5'.1 (by omega)
    · rw [rw_ v v2 e, nv v v2 e]; exact o9 v v1 v2
  · rw [ro 154 (by omega), lo _ _ (by omega) (by omega) (by omega), bo _ _ (by omega)]; exact m154
