/-! ===== the engine's run: start, small deeds ===== -/
def stA0 (s n wk : Nat) (M : F2) : F2 := up (up (up (up M 146 0 (8 + 14 * s)) 146 1 (10 + 14 * n)) 146 2 wk) 146 3 1
def stB0 (c : Nat → Nat) (M : F2) : F2 := upr (upr (upr (upr (upr M 147 10 c) 148 10 (fun _ => 0)) 149 10 (fun _ => 0)) 150 10 (fun _ => 0)) 151 10 (fun _ => 0)
def stC0 (M : F2) : F2 := itr (fun w M => pt M (Wc w) (rsL 0 (gW M (Wc w)))) 0 4 M
def stD0 (M : F2) : F2 := up (up (up (up (up M 146 11 0) 146 12 0) 146 17 0) 146 18 0) 146 19 0
def stM (s n wk : Nat) (c : Nat → Nat) (M : F2) : F2 := stD0 (stC0 (stB0 c (stA0 s n wk M)))
theorem cW_st {a : Mem} {s n sp wk : Nat} {c : Nat → Nat} {B M : F2} (h : CM a M) (hE : EN a s sp wk c n B) : ∃ a', fX3_start (8 + 14 * s) (10 + 14 * n) a = some a' ∧ CM a' (stM s n wk c M) ∧ frK a a' := by
  obtain ⟨h1, h2, h3, h4, ⟨k1, k2, k3⟩, h6⟩ := hE
  unfold fX3_start
  have ew : (st2 (st2 a 146 0 (nI (8 + 14 * s))) 146 1 (nI (10 + 14 * n))) (8 + 14 * s) 1 = nI wk := by rw [st2_o _ _ (by omega), st2_o _ _ (by omega)]; exact k2
  rw [ew]
  have c0 : CM (st2 (st2 (st2 (st2 a 146 0 (nI (8 + 14 * s))) 146 1 (nI (10 + 14 * n))) 146 2 (nI wk)) 146 3 1) (stA0 s n wk M) := (((h.stn (by unfold vc; omega)).stn (by unfold vc; omega)).stn (by unfold vc; omega)).stn (x := 1) (by unfold vc; omega)
  have f0 : frK a (st2 (st2 (st2 (st2 a 146 0 (nI (8 + 14 * s))) 146 1 (nI (10 + 14 * n))) 146 2 (nI wk)) 146 3 1) := (((frK.st (by omega)).tr (frK.st (by omega))).tr (frK.st (by omega))).tr (frK.st (by omega))
  generalize st2 (st2 (st2 (st2 a 146 0 (nI (8 + 14 * s))) 146 1 (nI (10 + 14 * n))) 146 2 (nI wk)) 146 3 1 = a0 at *
  unfold fX11_copyKeys
  rw [bq]
  have c1 : CM (cp2 a0 (8 + 14 * s + 1) 147 0 0 10) (upr (stA0 s n wk M) 147 10 c) := c0.row (fun j hj => ⟨fun _ => by rw [cp2_g, if_pos ⟨rfl, hj⟩, f0 _ (by omega)]; exact k3 j hj, fun z => absurd (show vc 147 j by unfold vc; omega) z⟩) (fun j hj => by rw [cp2_g, if_neg (fun z => hj z.2)]) (fun m hm => cp2_c _ hm)
  have f1 : frK a (cp2 a0 (8 + 14 * s + 1) 147 0 0 10) := f0.tr (fun m hm => cp2_c _ (by omega))
  generalize cp2 a0 (8 + 14 * s + 1) 147 0 0 10 = a1 at *
  obtain ⟨a2, p1, p2, p3⟩ := c1.filln (c := 148) (N := 10) (x := 0) (by omega) (fun j => by unfold vc; omega) (by omega)
  obtain ⟨a3, q1, q2, q3⟩ := p2.filln (c := 149) (N := 10) (x := 0) (by omega) (fun j => by unfold vc; omega) (by omega)
  obtain ⟨a4, r1, r2, r3⟩ := q2.fillv (c := 150) (N := 10) (x := 0) (by omega) (fun j => by unfold vc; omega) (by omega)
  obtain ⟨a5, s1, s2, s3⟩ := r2.fillv (c := 151) (N := 10) (x := 0) (by omega) (fun j => by unfold vc; omega) (by omega)
  have p1' : fJ7_fill_53178 148 10 0 a1 = some a2 := p1
  have q1' : fJ7_fill_53178 149 10 0 a2 = some a3 := q1
  have r1' : fJ7_fill_53178 150 10 (-1) a3 = some a4 := r1
  have s1' : fJ7_fill_53178 151 10 (-1) a4 = some a5 := s1
  rw [p1', bq, q1', bq, r1', bq, s1', bq]
  have f5 : frK a a5 := (((f1.tr p3).tr q3).tr r3).tr s3
  refine loop_k (fun f j (q : Mem) => lX3_start_68 f (nI j) q) 4 (fun j q => CM q (itr (fun w M => pt M (Wc w) (rsL 0 (gW M (Wc w)))) 0 j (stB0 c (stA0 s n wk M))) ∧ frK a q) (fun q => CM q (stC0 (stB0 c (stA0 s n wk M))) ∧ frK a q) (Nat.zero_le _) (by omega) (s := a5) ⟨s2, f5⟩ ?_ ?_ ?_
  · rintro r e1 ⟨e2, e3⟩
    have e1' : lX3_start_68 FU 0 a5 = some r := e1
    rw [e1', bq]
    exact ⟨_, rfl, ((((e2.stn (x := 0) (by unfold vc; omega)).stn (x := 0) (by unfold vc; omega)).stn (x := 0) (by unfold vc; omega)).stn (x := 0) (by unfold vc; omega)).stn (x := 0) (by unfold vc; omega), e3.tr (((((frK.st (by omega)).tr (frK.st (by omega))).tr (frK.st (by omega))).tr (frK.st (by omega))).tr (frK.st (by omega)))⟩
  · rintro f q ⟨e2, e3⟩
    refine ⟨q, ?_, e2, e3⟩
    show lX3_start_68 _ _ _ = _
    rw [lX3_start_68, if_pos (by decide)]
  · rintro f w q hw ⟨e2, e3⟩
    obtain ⟨q', d1, d2, d3⟩ := c_reset (d := 0) (e2.W hw)
    have d1' : fX10_reset (158 + 4 * w) 0 q = some q' := d1
    refine ⟨q', ?_, ?_, e3.tr (frW.K hw d3)⟩
    · show lX3_start_68 _ _ _ = lX3_start_68 _ _ _
      rw [lX3_start_68, if_neg (by rw [li4, le_nn (by omega) (by omega)]; omega), inb_T hw (by omega), gdT, nI_ck (by omega), d1', bq, nI_1]
    · rw [itr_S]; exact e2.ptW hw d2 d3
/-! reading the run's numbers -/
theorem CM.e3 {a : Mem} {M : F2} (h : CM a M) {j : Nat} : a 146 j = nI (M 146 j) := h.n (by omega) (by omega) (by unfold vc; omega)
theorem CM.wt {a : Mem} {M : F2} (h : CM a M) {w : Nat} (hw : w < 4) : a (158 + 4 * w) 0 = vI (M (Wc w) 0) := h.v (by omega) (by omega) (by unfold vc; omega)
theorem CM.wn {a : Mem} {M : F2} (h : CM a M) {w j : Nat} (hw : w < 4) (hj : 0 < j) : a (158 + 4 * w) j = nI (M (Wc w) j) := h.n (by omega) (by omega) (by unfold vc; omega)
theorem CM.ln {a : Mem} {M : F2} (h : CM a M) {i j : Nat} (hi : i < 30) : a (174 + 2 * i) j = nI (M (174 + 2 * i) j) := h.n (by omega) (by omega) (by unfold vc; omega)
theorem CM.lw {a : Mem} {M : F2} (h : CM a M) {i j : Nat} (hi : i < 30) : a (174 + 2 * i + 1) j = vI (M (175 + 2 * i) j) := by
  rw [show 174 + 2 * i + 1 = 175 + 2 * i by omega]; exact h.v (by omega) (by omega) (by unfold vc; omega)
theorem okM.l30 {sp nw D : Nat} {B M : F2} (h : okM sp nw D B M) : M 146 11 ≤ 30 := by
  obtain ⟨h1, h2, h3, -⟩ := h
  omega
theorem c_canTurn {a : Mem} {sp nw D : Nat} {B M : F2} (h : CM a M) (gB : okB B) (ok : okM sp nw D B M) : fX3_canTurnEpoch a = some (epOK M, a) := by
  obtain ⟨⟨o1, o2, o3⟩, ⟨o4, o5⟩, -, -, o6, -⟩ := ok
  unfold fX3_canTurnEpoch epOK
  by_cases h50 : M 146 3 < 50
  · rw [if_pos (by rw [h.e3, show (50 : Int32) = nI 50 from rfl, lt_nn (by omega) (by omega)]; exact h50)]
    have he : decide (M 146 3 < 50) = true := decide_eq_true h50
    rw [he, Bool.true_and]
    refine loop_x (fun f j (q : Mem) => lX3_canTurnEpoch_13 f (nI j) q) nw (fun j q => q = a ∧ ∀ w, w < j → ¬ (decide (M (Wc w) 0 ≠ 0) && decide (M (Wc w) 1 < M 146 3)) = true) (fun r => if fnd (fun w => decide (M (Wc w) 0 ≠ 0) && decide (M (Wc w) 1 < M 146 3)) 0 nw = 0 then r = .inr a else r = .inl (false, a)) (Nat.zero_le _) (by omega) (s := a) ⟨rfl, fun w hw => absurd hw (by omega)⟩ ?_ ?_ ?_
    · intro r e1 e2
      have e1' : lX3_canTurnEpoch_13 FU 0 a = some r := e1
      rw [e1', bq, o3]
      by_cases hz : fnd (fun w => decide (M (Wc w) 0 ≠ 0) && decide (M (Wc w) 1 < M 146 3)) 0 nw = 0
      · rw [if_pos hz] at e2; rw [e2, decide_eq_true hz]; rfl
      · rw [if_neg hz] at e2; rw [e2, decide_eq_false hz]; rfl
    · rintro f q ⟨rfl, e2⟩
      refine ⟨.inr q, ?_, by rw [if_pos (fnd_no _ e2)]⟩
      show lX3_canTurnEpoch_13 _ _ _ = _
      rw [lX3_canTurnEpoch_13, if_pos (by rw [h.e3, o3, le_nn (by omega) (by omega)]; omega)]
    · rintro f w q hw ⟨rfl, e2⟩
      obtain ⟨-, -, -, -, w5⟩ := o6 w (by omega)
      by_cases h0 : M (Wc w) 0 = 0
      · left
        refine ⟨q, ?_, rfl, fun v hv => ?_⟩
        · show lX3_canTurnEpoch_13 _ _ _ = lX3_canTurnEpoch_13 _ _ _
          rw [lX3_canTurnEpoch_13, if_neg (by rw [h.e3, o3, le_nn (by omega) (by omega)]; omega), inb_T (show w < 4 by omega) (by omega), gdT, nI_ck (by omega), if_pos (by rw [h.wt (by omega), h0]; rfl), nI_1]
        · by_cases e : v = w
          · subst e; simp [h0]
          · exact e2 v (by omega)
      · have w5' := w5 h0
        have hne : ¬ q (158 + 4 * w) 0 = -1 := by
          rw [h.wt (by omega), vI_p (by omega)]
          exact nI_m1 (by have := gB.1; omega)
        by_cases h1 : M (Wc w) 1 < M 146 3
        · right
          have hp : (decide (M (Wc w) 0 ≠ 0) && decide (M (Wc w) 1 < M 146 3)) = true := by simp [h0, h1]
          refine ⟨.inl (false, q), ?_, ?_⟩
          · show lX3_canTurnEpoch_13 _ _ _ = _
            rw [lX3_canTurnEpoch_13, if_neg (by rw [h.e3, o3, le_nn (by omega) (by omega)]; omega), inb_T (show w < 4 by omega) (by omega), gdT, nI_ck (by omega), if_neg hne, gdT, if_neg (by rw [h.e3, h.wn (by omega) (by omega), le_nn (by omega) (by omega)]; omega)]
          · rw [fnd_yes hp e2 nw hw, if_neg (by omega)]
        · left
          refine ⟨q, ?_, rfl, fun v hv => ?_⟩
          · show lX3_canTurnEpoch_13 _ _ _ = lX3_canTurnEpoch_13 _ _ _
            rw [lX3_canTurnEpoch_13, if_neg (by rw [h.e3, o3, le_nn (by omega) (by omega)]; omega), inb_T (show w < 4 by omega) (by omega), gdT, nI_ck (by omega), if_neg hne, gdT, if_pos (by rw [h.e3, h.wn (by omega) (by omega), le_nn (by omega) (by omega)]; omega), nI_1]
          · by_cases e : v = w
            · subst e; simp [h1]
            · exact e2 v (by omega)
  · rw [if_neg (by rw [h.e3, show (50 : Int32) = nI 50 from rfl, lt_nn (by omega) (by omega)]; exact h50)]
    simp [h50]
/-- a run of deeds at store s, with book n -/
def CX (a : Mem) (M : F2) (s sp wk : Nat) (c : Nat → Nat) (n : Nat) (B : F2) : Prop := CM a M ∧ EN a s sp wk c n B ∧ M 146 0 = 8 + 14 * s ∧ M 146 1 = 10 + 14 * n
theorem c_can {a : Mem} {sp nw D kind wv tv s wk n : Nat} {c : Nat → Nat} {B M : F2} (hX : CX a M s sp wk c n B) (ok : okM sp nw D B M) (hk : kind < 7) (hd : M 146 12 < 60) (hw : wv ≤ 4) (ht : tv ≤ 7) : fX3_can (nI kind) (vI wv) (vI tv) a = some (can B kind wv tv M, a) := by
  obtain ⟨h, ⟨e1, e2, e3, gB, e5, e6⟩, h0, h1⟩ := hX
  have ok' := ok
  obtain ⟨⟨o1, o2, o3⟩, ⟨o4, o5⟩, -, -, o6, -⟩ := ok'
  have g1 := gB.1
  unfold fX3_can can
  rw [if_pos (by rw [h.e3, show (60 : Int32) = nI 60 from rfl, lt_nn (by omega) (by omega)]; exact hd)]
  by_cases k0 : kind = 0
  · rw [if_pos (by rw [k0]; rfl), if_pos k0, c_canTurn h gB ok, bq]
  · rw [if_neg (ne0 k0 (by omega)), if_neg k0]
    by_cases k1 : kind = 1
    · rw [if_pos (by rw [k1]; rfl), if_pos k1]
    · rw [if_neg (ne1 k1 (by omega)), if_neg k1]
      by_cases w0 : wv = 0
      · rw [if_pos (by rw [w0]; decide), if_pos (Or.inl w0)]
      · obtain ⟨w, rfl⟩ : ∃ w, wv = w + 1 := ⟨wv - 1, by omega⟩
        have e146 : a 146 1 = nI (10 + 14 * n) := by rw [h.e3, h1]
        rw [vI_s, if_neg (nI_pos (by omega)), Nat.add_sub_cancel]
        by_cases hw2 : w < nw
        · rw [if_pos (by rw [h.e3, o3, lt_nn (by omega) (by omega)]; exact hw2), if_neg (show ¬ (w + 1 = 0 ∨ M 146 2 < w + 1) by omega), inb_T (show w < 4 by omega) (by omega), gdT, nI_ck (by omega), e146, rfN_n (by omega), isB_bk e2]
          simp only [gdT]
          obtain ⟨-, -, -, -, w5⟩ := o6 w (by omega)
          have hw0 : (if a (158 + 4 * w) 0 = -1 then some false else some true : Option Bool) = some (decide (M (Wc w) 0 ≠ 0)) := by
            by_cases z : M (Wc w) 0 = 0
            · rw [if_pos (by rw [h.wt (by omega), z]; rfl)]; simp [z]
            · have := w5 z
              rw [if_neg (by rw [h.wt (by omega), vI_p (by omega)]; exact nI_m1 (by omega))]; simp [z]
          rw [hw0, bq]
          by_cases z : M (Wc w) 0 = 0
          · have zd : decide (M (Wc w) 0 ≠ 0) = false := by simp [z]
            have zd2 : decide (M (Wc w) 0 = 0) = true := by simp [z]
            rw [zd, zd2]
            rcases (show kind = 2 ∨ kind = 3 ∨ kind = 4 ∨ kind = 5 ∨ kind = 6 by omega) with rfl | rfl | rfl | rfl | rfl
            · rfl
            · rfl
            · rfl
            · rfl
            · show (if (6 : Int32) = 2 then _ else _) = _
              rw [if_neg (by decide), if_neg (by decide), if_neg (by decide), if_neg (by decide), if_pos (by decide), if_neg (by decide), if_neg (by decide), if_neg (by decide), if_neg (by decide), if_neg (by decide), Bool.true_and]
              rcases c_holds (x := vI tv) e6.1 g1 with ⟨f2, f3⟩ | ⟨t, ht2, f4, f2⟩
              · rw [f2, bq]
                have : ¬ (tv ≠ 0 ∧ tv ≤ B 0 0) := by
                  rintro ⟨t1, t2⟩
                  rcases f3 with f3 | ⟨j, j1, j2, j3⟩
                  · rw [vI_p (by omega)] at f3; exact nI_pos (by omega) f3
                  · rw [vI_p (by omega), eq_nn (by omega) j1] at j3; omega
                rw [show (decide (tv ≠ 0) && decide (tv ≤ B 0 0)) = false by rw [← Bool.decide_and]; exact decide_eq_false this]
                rfl
              · rw [f2, bq]
                have : tv ≠ 0 ∧ tv ≤ B 0 0 := by
                  by_cases t0 : tv = 0
                  · rw [t0, eq_vn (by omega) (by omega)] at f4; omega
                  · rw [vI_p (by omega), eq_nn (by omega) (by omega)] at f4; omega
                rw [show (decide (tv ≠ 0) && decide (tv ≤ B 0 0)) = true by rw [← Bool.decide_and]; exact decide_eq_true this]
                rfl
          · have w5' := w5 z
            have zd : decide (M (Wc w) 0 ≠ 0) = true := by simp [z]
            have zd2 : decide (M (Wc w) 0 = 0) = false := by simp [z]
            have hs := (e6.2 (M (Wc w) 0 - 1) (by omega)).1
            have g2 := gB.2.1 (M (Wc w) 0 - 1)
            rw [zd, zd2]
            rcases (show kind = 2 ∨ kind = 3 ∨ kind = 4 ∨ kind = 5 ∨ kind = 6 by omega) with rfl | rfl | rfl | rfl | rfl
            · show gd (inb (a (158 + 4 * w) 0) 7) (if a (10 + 14 * n + 1) (Int32.toNatClampNeg (a (158 + 4 * w) 0)) ≤ a (158 + 4 * w) 2 then some (false, a) else some (true, a)) = some (true && decide (M (Wc w) 2 < B 1 (M (Wc w) 0 - 1)), a)
              rw [h.wt (by omega), vI_p (by omega), inb_T (show M (Wc w) 0 - 1 < 7 by omega) (by omega), nI_ck (by omega), hs, h.wn (by omega) (by omega), Bool.true_and, gdT]
              by_cases q : M (Wc w) 2 < B 1 (M (Wc w) 0 - 1)
              · rw [if_neg (by rw [le_nn (by omega) (by omega)]; omega), decide_eq_true q]
              · rw [if_pos (by rw [le_nn (by omega) (by omega)]; omega), decide_eq_false q]
            · show gd (inb (a (158 + 4 * w) 0) 7) (if a (158 + 4 * w) 2 < a (10 + 14 * n + 1) (Int32.toNatClampNeg (a (158 + 4 * w) 0)) then some (false, a) else some (true, a)) = some (true && decide (B 1 (M (Wc w) 0 - 1) ≤ M (Wc w) 2), a)
              rw [h.wt (by omega), vI_p (by omega), inb_T (show M (Wc w) 0 - 1 < 7 by omega) (by omega), nI_ck (by omega), hs, h.wn (by omega) (by omega), Bool.true_and, gdT]
              by_cases q : M (Wc w) 2 < B 1 (M (Wc w) 0 - 1)
              · rw [if_pos (by rw [lt_nn (by omega) (by omega)]; omega), decide_eq_false (by omega)]
              · rw [if_neg (by rw [lt_nn (by omega) (by omega)]; omega), decide_eq_true (by omega)]
            · rfl
            · rfl
            · rfl
        · rw [if_neg (by rw [h.e3, o3, lt_nn (by omega) (by omega)]; exact hw2), if_pos (by omega)]
