/-! ===== okM: what it looks at ===== -/
theorem okM.cg {sp nw D : Nat} {B M M' : F2} (ok : okM sp nw D B M) (e2 : M' 146 2 = M 146 2) (e3 : M' 146 3 = M 146 3) (e11 : M' 146 11 = M 146 11) (e12 : M' 146 12 = M 146 12) (er : ∀ c k, 147 ≤ c → c ≤ 149 → k < 10 → M' c k = M c k) (ew : ∀ c j, 158 ≤ c → c < 234 → M' c j = M c j) (eh : ∀ c d, c = 154 ∨ c = 155 → d < M 146 12 → M' c d = M c d) : okM sp nw D B M' := by
  have l30 := ok.l30
  obtain ⟨o1, o2, o3, o4, o5, o6, o7, o8, o9⟩ := ok
  have eW : ∀ w, w < 4 → M' (Wc w) = M (Wc w) := fun w hw => by funext j; exact ew _ _ (by unfold Wc; omega) (by unfold Wc; omega)
  have eL : ∀ i, i < M 146 11 → M' (174 + 2 * i) = M (174 + 2 * i) := fun i hi => by funext j; exact ew _ _ (by omega) (by omega)
  have eL2 : ∀ i, i < M 146 11 → M' (175 + 2 * i) = M (175 + 2 * i) := fun i hi => by funext j; exact ew _ _ (by omega) (by omega)
  have eg : ∀ w, w < 4 → gW M' (Wc w) = gW M (Wc w) := fun w hw => by
    funext f j
    by_cases hf : f < 4
    · rw [gW_e hf, gW_e hf]; exact ew _ _ (by unfold Wc; omega) (by unfold Wc; omega)
    · exact (if_neg hf).trans (if_neg hf).symm
  refine ⟨by rw [e2]; exact o1, by rw [e3]; exact o2, ?_, fun k hk => ?_, fun w hw => ?_, fun i hi => ?_, fun i j hij hj => ?_, fun d hd => ?_, fun w h1 h2 => ?_⟩
  · have : bzy M' = bzy M := sm_cg 4 (fun w hw => by rw [eW w hw])
    rw [this, e11]; exact o3
  · rw [e3, e11, er 147 k (by omega) (by omega) hk, er 148 k (by omega) (by omega) hk, er 149 k (by omega) (by omega) hk]; exact o4 k hk
  · unfold wkO; rw [eg w hw, eW w hw, e3, e11]; exact o5 w hw
  · rw [e11] at hi
    have := o6 i hi
    unfold lnO; rw [eL i hi, eL2 i hi, e3]
    obtain ⟨p1, p2, p3, p4, p5, p6, p7, p8, p9, p10, p11, p12⟩ := this
    refine ⟨p1, p2, p3, p4, p5, p6, p7, p8, p9, p10, p11, fun z => ?_⟩
    rw [eW _ (by omega)]; exact p12 z
  · rw [e11] at hj
    rw [eL i (by omega), eL j hj]; exact o7 i j hij hj
  · rw [e12] at hd
    rw [eh 154 d (by omega) hd, eh 155 d (by omega) hd]; exact o8 d hd
  · rw [eW w h2]; exact o9 w h1 h2
theorem dur_cg {f : Nat} {M M' : F2} (e2 : M' 146 2 = M 146 2) (e3 : M' 146 3 = M 146 3) (h4 : M 146 2 ≤ 4) (ew : ∀ w, w < 4 → M' (Wc w) 5 = M (Wc w) 5) : dur f M' = dur f M := by
  unfold dur
  rw [e2]
  refine itr_cg _ (fun w _ hw m => ?_)
  rw [e3, ew w (by omega)]
theorem srv_cg {f d i : Nat} {M M' : F2} (e : M' (174 + 2 * i) = M (174 + 2 * i)) : srv f d M' i = srv f d M i := by unfold srv; rw [e]
theorem gnS_o {d i c j : Nat} {M : F2} (h : ¬ (c = 174 + 2 * i ∧ j = 9)) : gnS d i M c j = M c j := by unfold gnS; exact up_o _ h
theorem gnI_o {d c j : Nat} {M : F2} (h : ¬ (174 ≤ c ∧ c % 2 = 0 ∧ j = 9)) : ∀ n, itr (gnS d) 0 n M c j = M c j
  | 0 => rfl
  | n + 1 => by rw [itr_S, gnS_o (by omega)]; exact gnI_o h n
theorem gnI_f {d i : Nat} {M : F2} : ∀ n, n ≤ i → ∀ j, itr (gnS d) 0 n M (174 + 2 * i) j = M (174 + 2 * i) j
  | 0, _, _ => rfl
  | n + 1, h, j => by rw [itr_S, gnS_o (by omega)]; exact gnI_f n (by omega) j
theorem gnI_9 {d i : Nat} {M : F2} : ∀ n, itr (gnS d) 0 n M (174 + 2 * i) 9 = if i < n then (if srv 0 d M i = true then 0 else 1) else M (174 + 2 * i) 9
  | 0 => by rw [if_neg (by omega)]; rfl
  | n + 1 => by
    rw [itr_S]
    by_cases e : i = n
    · subst e
      have hs : srv 0 d (itr (gnS d) 0 i M) i = srv 0 d M i := srv_cg (by funext j; exact gnI_f i (Nat.le_refl _) j)
      rw [if_pos (show i < i + 1 by omega), ← hs]
      generalize itr (gnS d) 0 i M = X
      unfold gnS
      rw [up_e]
    · rw [gnS_o (by omega), gnI_9 n]
      by_cases h : i < n
      · rw [if_pos h, if_pos (show i < n + 1 by omega)]
      · rw [if_neg h, if_neg (show ¬ i < n + 1 by omega)]
theorem srv9 {f d i : Nat} {M : F2} (h : srv f d M i = true) : M (174 + 2 * i) 9 = 0 ∧ M (174 + 2 * i) 2 ≤ d := by
  unfold srv at h
  rw [Bool.and_eq_true, Bool.and_eq_true, decide_eq_true_eq, decide_eq_true_eq] at h
  exact ⟨h.1.1, h.2⟩
/-- fewer lines are left -/
theorem okM.gn {sp nw D d : Nat} {B M : F2} (ok : okM sp nw D B M) : okM sp nw D B (itr (gnS d) 0 (M 146 11) M) := by
  have l30 := ok.l30
  obtain ⟨o1, o2, o3, o4, o5, o6, o7, o8, o9⟩ := ok
  have e0 : ∀ c j, ¬ (174 ≤ c ∧ c % 2 = 0 ∧ j = 9) → itr (gnS d) 0 (M 146 11) M c j = M c j := fun c j h => gnI_o h _
  have e9 : ∀ i, i < M 146 11 → itr (gnS d) 0 (M 146 11) M (174 + 2 * i) 9 = if srv 0 d M i = true then 0 else 1 := fun i hi => by rw [gnI_9, if_pos hi]
  generalize itr (gnS d) 0 (M 146 11) M = M' at *
  have a9 : ∀ i, i < M 146 11 → M' (174 + 2 * i) 9 = 0 → M (174 + 2 * i) 9 = 0 := fun i hi z => by
    rw [e9 i hi] at z
    by_cases hs : srv 0 d M i = true
    · exact (srv9 hs).1
    · rw [if_neg hs] at z; exact absurd z (by omega)
  have e11 : M' 146 11 = M 146 11 := e0 _ _ (by omega)
  have e3 : M' 146 3 = M 146 3 := e0 _ _ (by omega)
  have eW : ∀ w, w < 4 → M' (Wc w) = M (Wc w) := fun w hw => by funext j; exact e0 _ _ (by unfold Wc; omega)
  have eg : ∀ w, w < 4 → gW M' (Wc w) = gW M (Wc w) := fun w hw => by
    funext f j
    by_cases hf : f < 4
    · rw [gW_e hf, gW_e hf]; exact e0 _ _ (by unfold Wc; omega)
    · exact (if_neg hf).trans (if_neg hf).symm
  refine ⟨by rw [e0 146 2 (by omega)]; exact o1, by rw [e3]; exact o2, ?_, fun k hk => ?_, fun w hw => ?_, fun i hi => ?_, fun i j hij hj => ?_, fun d hd => ?_, fun w h1 h2 => ?_⟩
  · have : bzy M' = bzy M := sm_cg 4 (fun w hw => by rw [eW w hw])
    rw [this, e11]; exact o3
  · rw [e3, e11, e0 147 k (by omega), e0 148 k (by omega), e0 149 k (by omega)]; exact o4 k hk
  · unfold wkO; rw [eg w hw, eW w hw, e3, e11]; exact o5 w hw
  · rw [e11] at hi
    obtain ⟨p1, p2, p3, p4, p5, p6, p7, p8, p9, p10, p11, p12⟩ := o6 i hi
    have x : ∀ j, j ≠ 9 → M' (174 + 2 * i) j = M (174 + 2 * i) j := fun j hj => e0 _ _ (by omega)
    unfold lnO
    rw [x 0 (by omega), x 1 (by omega), x 2 (by omega), x 3 (by omega), x 4 (by omega), x 5 (by omega), x 6 (by omega), x 7 (by omega), x 8 (by omega), e3, eW _ (by omega)]
    refine ⟨p1, p2, p3, p4, p5, p6, p7, p8, p9, ?_, fun k hk hb => by rw [e0 _ _ (by omega)]; exact p11 k hk hb, fun z => p12 (a9 i hi z)⟩
    rw [e9 i hi]; split <;> omega
  · rw [e11] at hj
    rw [e0 (174 + 2 * i) 0 (by omega), e0 (174 + 2 * j) 0 (by omega), e0 (174 + 2 * i) 3 (by omega), e0 (174 + 2 * j) 3 (by omega)]
    exact fun z1 z2 => o7 i j hij hj (a9 i (by omega) z1) (a9 j hj z2)
  · rw [e0 146 12 (by omega)] at hd
    rw [e0 154 d (by omega), e0 155 d (by omega)]; exact o8 d hd
  · rw [eW w h2]; exact o9 w h1 h2
theorem rsS_o {d w c j : Nat} {M : F2} (h : ¬ (c = 146 ∧ j = 17)) (h2 : ¬ (158 ≤ c ∧ c < 174)) (hw : w < 4) : rsS d w M c j = M c j := by
  unfold rsS; rw [pt_o (by unfold Wc; omega), up_o _ h]
theorem rsI_o {d c j : Nat} {M : F2} (h : ¬ (c = 146 ∧ j = 17)) (h2 : ¬ (158 ≤ c ∧ c < 174)) : ∀ n, n ≤ 4 → itr (rsS d) 0 n M c j = M c j
  | 0, _ => rfl
  | n + 1, hn => by rw [itr_S, rsS_o h h2 (by omega)]; exact rsI_o h h2 n (by omega)
theorem rsI_w {d w : Nat} {M : F2} (hw : w < 4) : ∀ n, n ≤ 4 → gW (itr (rsS d) 0 n M) (Wc w) = if w < n then rsL d (gW M (Wc w)) else gW M (Wc w)
  | 0, _ => by rw [if_neg (by omega)]; rfl
  | n + 1, hn => by
    rw [itr_S]
    have ih := rsI_w (d := d) (M := M) hw n (by omega)
    have eU : ∀ (X : F2) v, gW (up X 146 17 v) (Wc w) = gW X (Wc w) := fun X v => by
      funext f j
      by_cases hf : f < 4
      · rw [gW_e hf, gW_e hf, up_o _ (by unfold Wc; omega)]
      · exact (if_neg hf).trans (if_neg hf).symm
    generalize itr (rsS d) 0 n M = X at *
    unfold rsS
    by_cases e : w = n
    · subst e
      rw [gW_pt (nz_rs gW_nf), ih, if_neg (show ¬ w < w by omega), if_pos (show w < w + 1 by omega)]
    · rw [gW_po (by unfold Wc; omega), eU, ih]
      by_cases h : w < n
      · rw [if_pos h, if_pos (show w < n + 1 by omega)]
      · rw [if_neg h, if_neg (show ¬ w < n + 1 by omega)]
theorem gW_146 {M : F2} {w j v : Nat} : gW (up M 146 j v) (Wc w) = gW M (Wc w) := by
  funext f i
  by_cases hf : f < 4
  · rw [gW_e hf, gW_e hf, up_o _ (by unfold Wc; omega)]
  · exact (if_neg hf).trans (if_neg hf).symm
theorem okM.u {sp nw D j v : Nat} {B M : F2} (ok : okM sp nw D B M) (hj : j = 17 ∨ j = 18 ∨ j = 19) : okM sp nw D B (up M 146 j v) :=
  ok.cg (up_o _ (by omega)) (up_o _ (by omega)) (up_o _ (by omega)) (up_o _ (by omega)) (fun c k _ _ _ => up_o _ (by omega)) (fun c k _ _ => up_o _ (by omega)) (fun c d _ _ => up_o _ (by omega))
theorem lst_cg {M M' : F2} (e2 : M' 146 2 = M 146 2) (e3 : M' 146 3 = M 146 3) (e11 : M' 146 11 = M 146 11) (h4 : M 146 2 ≤ 4) (h30 : M 146 11 ≤ 30) (ew : ∀ c j, 158 ≤ c → c < 234 → M' c j = M c j) : lst M' = lst M := by
  unfold lst
  rw [e11, dur_cg e2 e3 h4 (fun w hw => ew _ _ (by unfold Wc; omega) (by unfold Wc; omega))]
  refine sm_cg _ (fun i hi => ?_)
  have e : M' (174 + 2 * i) = M (174 + 2 * i) := by funext j; exact ew _ _ (by omega) (by omega)
  rw [srv_cg e, e]
theorem k_crash {a : Mem} {M B : F2} {s sp wk n nw D : Nat} {c : Nat → Nat} (hX : CX a M s sp wk c n B) (ok : okM sp nw D B M) : KO (fX3_breakDown a) a (crM c M) := by
  have l30 := ok.l30
  have kd : fX3_durableWith 0 a = some (nI (dur 0 M), a) := k_dur (f := 0) hX.1 ok (by omega)
  have d50 := dur50 0 M
  obtain ⟨o1, o2, o3⟩ := ok.1
  have h := hX.1
  unfold fX3_breakDown crM
  rw [kd, bq]
  dsimp only
  have c1 : CM (st2 a 146 18 (nI (M 146 18 + 1))) (up M 146 18 (M 146 18 + 1)) := h.stn (by unfold vc; omega)
  have kl := k_lost c1 (ok.u (by omega))
  rw [lst_cg (up_o _ (by omega)) (up_o _ (by omega)) (up_o _ (by omega)) (by omega) l30 (fun c j _ _ => up_o _ (by omega))] at kl
  rw [h.e3, nI_1, kl, bq]
  dsimp only
  generalize dur 0 M = d at *
  generalize lst M = l at *
  have e19 : (st2 a 146 18 (nI (M 146 18 + 1))) 146 19 = nI (M 146 19) := by rw [st2_o _ _ (by omega)]; exact h.e3
  rw [e19, nI_add]
  have c2 : CM (st2 (st2 a 146 18 (nI (M 146 18 + 1))) 146 19 (nI (M 146 19 + l))) (up (up M 146 18 (M 146 18 + 1)) 146 19 (M 146 19 + l)) := c1.stn (by unfold vc; omega)
  have f2 : frK a (st2 (st2 a 146 18 (nI (M 146 18 + 1))) 146 19 (nI (M 146 19 + l))) := (frK.st (by omega)).tr (frK.st (by omega))
  have ok2 : okM sp nw D B (up (up M 146 18 (M 146 18 + 1)) 146 19 (M 146 19 + l)) := (ok.u (by omega)).u (by omega)
  have hX2 := hX.go c2 f2 (by rw [up_o _ (by omega), up_o _ (by omega)]) (by rw [up_o _ (by omega), up_o _ (by omega)])
  have m11 : (up (up M 146 18 (M 146 18 + 1)) 146 19 (M 146 19 + l)) 146 11 = M 146 11 := by rw [up_o _ (by omega), up_o _ (by omega)]
  have m2 : (up (up M 146 18 (M 146 18 + 1)) 146 19 (M 146 19 + l)) 146 2 = M 146 2 := by rw [up_o _ (by omega), up_o _ (by omega)]
  rw [← m11, ← m2]
  generalize up (up M 146 18 (M 146 18 + 1)) 146 19 (M 146 19 + l) = M1 at *
  generalize st2 (st2 a 146 18 (nI (M 146 18 + 1))) 146 19 (nI (M 146 19 + l)) = a1 at *
  have l30' := ok2.l30
  have o8 := ok2.2.2.2.2.2.1
  refine loop_k (fun g j (x : Mem) => lX3_breakDown_31 (nI d) g (nI j) x) (M1 146 11) (fun j x => CM x (itr (gnS d) 0 j M1) ∧ frK a x) (fun x => CM x (itr (gnS d) 0 (M1 146 11) M1) ∧ frK a x) (Nat.zero_le _) (by omega) (s := a1) ⟨c2, f2⟩ ?_ ?_ ?_
  · rintro r e1 ⟨e2, e3⟩
    have e1' : lX3_breakDown_31 (nI d) FU 0 a1 = some r := e1
    rw [e1', bq]
    have ok3 : okM sp nw D B (itr (gnS d) 0 (M1 146 11) M1) := ok2.gn
    have hX3 : CX r (itr (gnS d) 0 (M1 146 11) M1) s sp wk c n B := hX.go e2 e3 ((gnI_o (by omega) _).trans (hX2.2.2.1.trans hX.2.2.1.symm)) ((gnI_o (by omega) _).trans (hX2.2.2.2.trans hX.2.2.2.symm))
    have g2 : (itr (gnS d) 0 (M1 146 11) M1) 146 2 = M1 146 2 := gnI_o (by omega) _
    rw [← g2]
    have nw2 : (itr (gnS d) 0 (M1 146 11) M1) 146 2 = nw := ok3.1.2.2
    generalize itr (gnS d) 0 (M1 146 11) M1 = M2 at *
    obtain ⟨a3, r1, r2, r3, r4, r5⟩ := k_recover (n := 147) (m := 148) (f := 0) hX3 ok3 (by omega) (by omega) (by omega) (by omega)
    have r1' : fX3_recover 0 147 148 r = some a3 := r1
    rw [r1', bq]
    generalize rcv 0 c M2 = q at *
    have c3 : CM a3 (upr (upr M2 147 10 (q 0)) 148 10 (q 1)) := fun x j x1 x2 => by
      by_cases e7 : x = 147
      · subst e7
        rw [upr_o _ (by omega)]
        by_cases hj : j < 10
        · rw [upr_k _ ⟨rfl, hj⟩]; exact ⟨fun _ => r2 j hj, fun z => absurd (show vc 147 j by unfold vc; omega) z⟩
        · rw [upr_o _ (fun z => hj z.2), (r5 j hj).1]; exact hX3.1 147 j x1 x2
      · by_cases e8 : x = 148
        · subst e8
          by_cases hj : j < 10
          · rw [upr_k _ ⟨rfl, hj⟩]; exact ⟨fun z => absurd z (by unfold vc; omega), fun _ => r3 j hj⟩
          · rw [upr_o _ (fun z => hj z.2), upr_o _ (by omega), (r5 j hj).2]; exact hX3.1 148 j x1 x2
        · rw [upr_o _ (by omega), upr_o _ (by omega), r4 x e7 e8]; exact hX3.1 x j x1 x2
    have f3 : frK a a3 := e3.tr (fun m hm => r4 m (by omega) (by omega))
    obtain ⟨a4, s1, s2, s3⟩ := c3.filln (c := 149) (N := 10) (x := 0) (by omega) (fun j => by unfold vc; omega) (by omega)
    have s1' : fJ7_fill_53178 149 10 0 a3 = some a4 := s1
    rw [s1', bq]
    have f4 : frK a a4 := f3.tr s3
    have u2 : (upr (upr (upr M2 147 10 (q 0)) 148 10 (q 1)) 149 10 (fun _ => 0)) 146 2 = M2 146 2 := by rw [upr_o _ (by omega), upr_o _ (by omega), upr_o _ (by omega)]
    generalize upr (upr (upr M2 147 10 (q 0)) 148 10 (q 1)) 149 10 (fun _ => 0) = M3 at *
    refine loop_k (fun g j (x : Mem) => lX3_breakDown_96 (nI d) g (nI j) x) (M2 146 2) (fun j x => CM x (itr (rsS d) 0 j M3) ∧ frK a x) (fun x => CM x (itr (rsS d) 0 (M2 146 2) M3) ∧ frK a x) (Nat.zero_le _) (by omega) (s := a4) ⟨s2, f4⟩ ?_ ?_ ?_
    · rintro t t1 ⟨t2, t3⟩
      have t1' : lX3_breakDown_96 (nI d) FU 0 a4 = some t := t1
      rw [t1', bq, nI_1]
      exact ⟨_, rfl, t2.stn (by unfold vc; omega), t3.tr (frK.st (by omega))⟩
    · rintro g x ⟨t2, t3⟩
      refine ⟨x, ?_, t2, t3⟩
      show lX3_breakDown_96 _ _ _ _ = _
      rw [lX3_breakDown_96, if_pos (by rw [t2.e3, rsI_o (by omega) (by omega) _ (by omega), u2, le_nn (by omega) (by omega)]; omega)]
    · rintro g w x hw ⟨t2, t3⟩
      have hw4 : w < 4 := by omega
      have c5 : CM (st2 x 146 17 (nI ((itr (rsS d) 0 w M3) 146 17 + (itr (rsS d) 0 w M3) (Wc w) 2))) (up (itr (rsS d) 0 w M3) 146 17 ((itr (rsS d) 0 w M3) 146 17 + (itr (rsS d) 0 w M3) (Wc w) 2)) := t2.stn (by unfold vc; omega)
      obtain ⟨x', y1, y2, y3⟩ := c_reset (d := d) (c5.W hw4)
      rw [gW_146] at y2
      have y1' : fX10_reset (158 + 4 * w) (nI d) (st2 x 146 17 (nI ((itr (rsS d) 0 w M3) 146 17 + (itr (rsS d) 0 w M3) (Wc w) 2))) = some x' := y1
      refine ⟨x', ?_, ?_, t3.tr ((frK.st (by omega)).tr (frW.K hw4 y3))⟩
      · show lX3_breakDown_96 _ _ _ _ = lX3_breakDown_96 _ _ _ _
        rw [lX3_breakDown_96, if_neg (by rw [t2.e3, rsI_o (by omega) (by omega) _ (by omega), u2, le_nn (by omega) (by omega)]; omega), inb_T hw4 (by omega), gdT, gdT, nI_ck (by omega), t2.e3, t2.wn hw4 (by omega), nI_add, y1', bq, nI_1]
      · rw [itr_S]
        exact c5.ptW hw4 y2 y3
  · rintro g x ⟨e2, e3⟩
    refine ⟨x, ?_, e2, e3⟩
    show lX3_breakDown_31 _ _ _ _ = _
    rw [lX3_breakDown_31, if_pos (by rw [e2.e3, gnI_o (by omega), le_nn (by omega) (by omega)]; omega)]
  · rintro g i x hi ⟨e2, e3⟩
    have xl : ∀ j, x (174 + 2 * i) j = nI (M1 (174 + 2 * i) j) := fun j => by rw [e2.ln (by omega), gnI_f i (Nat.le_refl _)]
    have ks : fX3_survives (174 + 2 * i) 0 (nI d) x = some (srv 0 d M1 i, x) := k_srv (f := 0) xl (o8 i hi) o2 (by omega) (by omega)
    have hs : srv 0 d (itr (gnS d) 0 i M1) i = srv 0 d M1 i := srv_cg (by funext j; exact gnI_f i (Nat.le_refl _) j)
    refine ⟨st2 x (174 + 2 * i) 9 (nI (if srv 0 d M1 i = true then 0 else 1)), ?_, ?_, e3.tr (frK.st (by omega))⟩
    · show lX3_breakDown_31 _ _ _ _ = lX3_breakDown_31 _ _ _ _
      rw [lX3_breakDown_31, if_neg (by rw [e2.e3, gnI_o (by omega), le_nn (by omega) (by omega)]; omega), inb_T (show i < 30 by omega) (by omega), gdT, gdT, nI_ck (by omega), ks, bq, nI_1]
      dsimp only
      by_cases hz : srv 0 d M1 i = true
      · rw [if_pos hz, if_pos hz, bq]; rfl
      · rw [if_neg hz, if_neg hz, bq]; rfl
    · rw [itr_S, ← hs]
      unfold gnS
      exact e2.stn (by unfold vc; omega)
