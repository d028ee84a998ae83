theorem dur_m {f : Nat} {M : F2} {w : Nat} : ∀ n, w < n → itr (fun w m => min m (if f.testBit w = true then M 146 3 - 1 else M (Wc w) 5)) 0 n 50 ≤ (if f.testBit w = true then M 146 3 - 1 else M (Wc w) 5)
  | 0, h => absurd h (by omega)
  | n + 1, h => by
    rw [itr_S]
    by_cases e : w = n
    · subst e; exact Nat.min_le_right _ _
    · exact Nat.le_trans (Nat.min_le_left _ _) (dur_m n (by omega))
theorem dur_lt {sp nw D : Nat} {B M : F2} (ok : okM sp nw D B M) : dur 0 M < M 146 3 := by
  obtain ⟨⟨o1, o2, o3⟩, -, -, -, o5, -⟩ := ok
  obtain ⟨-, -, -, q4, -⟩ := o5 0 (by omega)
  have h := dur_m (f := 0) (M := M) (w := 0) (M 146 2) (by omega)
  rw [Nat.zero_testBit, if_neg (by decide)] at h
  unfold dur
  omega
def qB (X : Nat) (q : F2) : Prop := ∀ k, k < 10 → q 0 k ≤ 100 ∧ q 1 k ≤ X
theorem qB.rd {X i k : Nat} {M q : F2} (h : qB X q) (h1 : M (174 + 2 * i) 3 ≤ X) (h2 : ∀ k, k < 10 → (M (174 + 2 * i) 6).testBit k = true → M (175 + 2 * i) k ≤ 100) : qB X (rdS M i k q) := by
  unfold rdS
  split
  · rename_i z
    intro j hj
    by_cases e : j = k
    · subst e
      refine ⟨by rw [up_o _ (by omega), up_e]; exact h2 j hj z.1, by rw [up_e]; exact h1⟩
    · rw [up_o _ (by omega), up_o _ (by omega), up_o _ (by omega), up_o _ (by omega)]; exact h j hj
  · exact h
theorem qB.rdI {X i : Nat} {M q : F2} (h : qB X q) (h1 : M (174 + 2 * i) 3 ≤ X) (h2 : ∀ k, k < 10 → (M (174 + 2 * i) 6).testBit k = true → M (175 + 2 * i) k ≤ 100) : ∀ n, qB X (itr (rdS M i) 0 n q)
  | 0 => h
  | n + 1 => by rw [itr_S]; exact (qB.rdI h h1 h2 n).rd h1 h2
theorem qB.oI {X f d w : Nat} {M q : F2} (h : qB X q) : ∀ n, (∀ i, i < n → srv f d M i = true → M (174 + 2 * i) 3 ≤ X ∧ ∀ k, k < 10 → (M (174 + 2 * i) 6).testBit k = true → M (175 + 2 * i) k ≤ 100) → qB X (itr (rcL f d w M) 0 n q)
  | 0, _ => h
  | n + 1, hs => by
    rw [itr_S]
    have ih := qB.oI (f := f) (d := d) (w := w) h n (fun i hi => hs i (by omega))
    generalize itr (rcL f d w M) 0 n q = Q at *
    unfold rcL
    split
    · rename_i z
      have := hs n (by omega) z.2
      exact ih.rdI this.1 this.2 10
    · exact ih
theorem qB.oW {X f d m : Nat} {M q : F2} (h : qB X q) (hs : ∀ i, i < m → srv f d M i = true → M (174 + 2 * i) 3 ≤ X ∧ ∀ k, k < 10 → (M (174 + 2 * i) 6).testBit k = true → M (175 + 2 * i) k ≤ 100) : ∀ n, qB X (itr (fun w q => itr (rcL f d w M) 0 m q) 0 n q)
  | 0 => h
  | n + 1 => by rw [itr_S]; exact (qB.oW h hs n).oI _ hs
theorem rs_e {d : Nat} {L : F2} : (rsL d L) 0 0 = 0 ∧ (rsL d L) 0 1 = 0 ∧ (rsL d L) 0 2 = 0 ∧ (rsL d L) 0 3 = 0 ∧ (rsL d L) 0 4 = 0 ∧ (rsL d L) 0 5 = d ∧ (rsL d L) 0 6 = 0 ∧ (rsL d L) 0 7 = 0 ∧ (rsL d L) 0 8 = 0 := by
  unfold rsL tkL
  refine ⟨?_, ?_, ?_, ?_, ?_, ?_, ?_, ?_, ?_⟩ <;> simp (disch := omega) only [up_o, up_e]
theorem okL_rs {d : Nat} {L : F2} : okL (rsL d L) := okL.emp ⟨rs_e.2.2.2.1, rs_e.2.2.2.2.2.2.1, rs_e.2.2.2.2.2.2.2.1, rs_e.2.2.2.2.2.2.2.2⟩
/-- what a crash leaves -/
theorem cr_e {sp nw D : Nat} {B M : F2} {c : Nat → Nat} (ok : okM sp nw D B M) : crM c M 146 3 = dur 0 M + 1 ∧ (∀ j, j ≠ 3 → j ≠ 17 → j ≠ 18 → j ≠ 19 → crM c M 146 j = M 146 j) ∧ crM c M 146 18 = M 146 18 + 1 ∧ crM c M 146 19 = M 146 19 + lst M ∧
    (∀ k, k < 10 → crM c M 147 k = rcv 0 c (itr (gnS (dur 0 M)) 0 (M 146 11) M) 0 k ∧ crM c M 148 k = rcv 0 c (itr (gnS (dur 0 M)) 0 (M 146 11) M) 1 k ∧ crM c M 149 k = 0) ∧
    (∀ x j, 150 ≤ x → x < 158 → crM c M x j = M x j) ∧ (∀ w, w < 4 → gW (crM c M) (Wc w) = if w < nw then rsL (dur 0 M) (gW M (Wc w)) else gW M (Wc w)) ∧
    (∀ x j, 174 ≤ x → crM c M x j = itr (gnS (dur 0 M)) 0 (M 146 11) M x j) := by
  obtain ⟨⟨o1, o2, o3⟩, -⟩ := ok
  unfold crM
  dsimp only
  generalize dur 0 M = d
  generalize lst M = l
  rw [o3]
  have g0 : ∀ x j, ¬ (174 ≤ x ∧ x % 2 = 0 ∧ j = 9) → itr (gnS d) 0 (M 146 11) (up (up M 146 18 (M 146 18 + 1)) 146 19 (M 146 19 + l)) x j = (up (up M 146 18 (M 146 18 + 1)) 146 19 (M 146 19 + l)) x j := fun x j h => gnI_o h _
  have g1 : ∀ x j, 158 ≤ x → itr (gnS d) 0 (M 146 11) (up (up M 146 18 (M 146 18 + 1)) 146 19 (M 146 19 + l)) x j = itr (gnS d) 0 (M 146 11) M x j := fun x j h => by
    by_cases hh : 174 ≤ x ∧ x % 2 = 0 ∧ j = 9
    · obtain ⟨i, rfl⟩ : ∃ i, x = 174 + 2 * i := ⟨(x - 174) / 2, by omega⟩
      rw [hh.2.2, gnI_9, gnI_9, srv_cg (f := 0) (d := d) (M := M) (by rw [up_c _ (by omega), up_c _ (by omega)]), up_o _ (by omega), up_o _ (by omega)]
    · rw [g0 x j hh, gnI_o hh, up_o _ (by omega), up_o _ (by omega)]
  have hrcv : rcv 0 c (itr (gnS d) 0 (M 146 11) (up (up M 146 18 (M 146 18 + 1)) 146 19 (M 146 19 + l))) = rcv 0 c (itr (gnS d) 0 (M 146 11) M) := by
    have e2 : itr (gnS d) 0 (M 146 11) (up (up M 146 18 (M 146 18 + 1)) 146 19 (M 146 19 + l)) 146 2 = itr (gnS d) 0 (M 146 11) M 146 2 := by rw [g0 _ _ (by omega), gnI_o (by omega), up_o _ (by omega), up_o _ (by omega)]
    have e3 : itr (gnS d) 0 (M 146 11) (up (up M 146 18 (M 146 18 + 1)) 146 19 (M 146 19 + l)) 146 3 = itr (gnS d) 0 (M 146 11) M 146 3 := by rw [g0 _ _ (by omega), gnI_o (by omega), up_o _ (by omega), up_o _ (by omega)]
    have e11 : itr (gnS d) 0 (M 146 11) (up (up M 146 18 (M 146 18 + 1)) 146 19 (M 146 19 + l)) 146 11 = itr (gnS d) 0 (M 146 11) M 146 11 := by rw [g0 _ _ (by omega), gnI_o (by omega), up_o _ (by omega), up_o _ (by omega)]
    have n2 : itr (gnS d) 0 (M 146 11) M 146 2 ≤ 4 := by rw [gnI_o (by omega)]; omega
    generalize itr (gnS d) 0 (M 146 11) (up (up M 146 18 (M 146 18 + 1)) 146 19 (M 146 19 + l)) = X at *
    generalize itr (gnS d) 0 (M 146 11) M = Y at *
    have hX : ∀ i, X (174 + 2 * i) = Y (174 + 2 * i) := fun i => by funext j; exact g1 _ _ (by omega)
    have hX2 : ∀ i, X (175 + 2 * i) = Y (175 + 2 * i) := fun i => by funext j; exact g1 _ _ (by omega)
    unfold rcv
    rw [e2, e11, dur_cg e2 e3 n2 (fun w hw => g1 _ _ (by unfold Wc; omega))]
    have hf : (fun w q => itr (rcL 0 (dur 0 Y) w X) 0 (Y 146 11) q) = (fun w q => itr (rcL 0 (dur 0 Y) w Y) 0 (Y 146 11) q) := by
      funext w q
      have : rcL 0 (dur 0 Y) w X = rcL 0 (dur 0 Y) w Y := by
        funext i p
        unfold rcL
        rw [hX i, srv_cg (hX i)]
        have : rdS X i = rdS Y i := by funext k p; unfold rdS; rw [hX i, hX2 i]
        rw [this]
      rw [this]
    rw [hf]
  rw [hrcv]
  generalize rcv 0 c (itr (gnS d) 0 (M 146 11) M) = q
  have ro : ∀ x j, ¬ (x = 146 ∧ j = 17) → ¬ (158 ≤ x ∧ x < 174) → ¬ (x = 146 ∧ j = 3) → (up (itr (rsS d) 0 nw (upr (upr (upr (itr (gnS d) 0 (M 146 11) (up (up M 146 18 (M 146 18 + 1)) 146 19 (M 146 19 + l))) 147 10 (q 0)) 148 10 (q 1)) 149 10 (fun _ => 0))) 146 3 (d + 1)) x j = (upr (upr (upr (itr (gnS d) 0 (M 146 11) (up (up M 146 18 (M 146 18 + 1)) 146 19 (M 146 19 + l))) 147 10 (q 0)) 148 10 (q 1)) 149 10 (fun _ => 0)) x j := fun x j h1 h2 h3 => by rw [up_o _ h3, rsI_o h1 h2 _ (by omega)]
  refine ⟨up_e _ _ _ _, fun j h1 h2 h3 h4 => ?_, ?_, ?_, fun k hk => ⟨?_, ?_, ?_⟩, fun x j h1 h2 => ?_, fun w hw => ?_, fun x j h1 => ?_⟩
  · rw [ro _ _ (by omega) (by omega) (by omega), upr_o _ (by omega), upr_o _ (by omega), upr_o _ (by omega), g0 _ _ (by omega), up_o _ (by omega), up_o _ (by omega)]
  · rw [ro _ _ (by omega) (by omega) (by omega), upr_o _ (by omega), upr_o _ (by omega), upr_o _ (by omega), g0 _ _ (by omega), up_o _ (by omega), up_e]
  · rw [ro _ _ (by omega) (by omega) (by omega), upr_o _ (by omega), upr_o _ (by omega), upr_o _ (by omega), g0 _ _ (by omega), up_e]
  · rw [ro _ _ (by omega) (by omega) (by omega), upr_o _ (by omega), upr_o _ (by omega), upr_k _ ⟨rfl, hk⟩]
  · rw [ro _ _ (by omega) (by omega) (by omega), upr_o _ (by omega), upr_k _ ⟨rfl, hk⟩]
  · rw [ro _ _ (by omega) (by omega) (by omega), upr_k _ ⟨rfl, hk⟩]
  · rw [ro _ _ (by omega) (by omega) (by omega), upr_o _ (by omega), upr_o _ (by omega), upr_o _ (by omega), g0 _ _ (by omega), up_o _ (by omega), up_o _ (by omega)]
  · rw [gW_146, rsI_w hw _ (by omega)]
    have eM : gW (upr (upr (upr (itr (gnS d) 0 (M 146 11) (up (up M 146 18 (M 146 18 + 1)) 146 19 (M 146 19 + l))) 147 10 (q 0)) 148 10 (q 1)) 149 10 (fun _ => 0)) (Wc w) = gW M (Wc w) := by
      funext f j
      by_cases hf : f < 4
      · rw [gW_e hf, gW_e hf, upr_o _ (by unfold Wc; omega), upr_o _ (by unfold Wc; omega), upr_o _ (by unfold Wc; omega), g0 _ _ (by unfold Wc; omega), up_o _ (by unfold Wc; omega), up_o _ (by unfold Wc; omega)]
      · exact (if_neg hf).trans (if_neg hf).symm
    rw [eM]
  · rw [ro _ _ (by omega) (by omega) (by omega), upr_o _ (by omega), upr_o _ (by omega), upr_o _ (by omega), g1 _ _ (by omega)]
theorem okM.cr {sp nw D : Nat} {B M : F2} {c : Nat → Nat} (ok : okM sp nw D B M) (hc : ∀ k, c k ≤ 100) : okM sp nw D B (crM c M) := by
  have l30 := ok.l30
  have dl := dur_lt ok
  obtain ⟨c3, c0, c18, c19, cr, ch, cw, cl⟩ := cr_e (c := c) ok
  have okg : okM sp nw D B (itr (gnS (dur 0 M)) 0 (M 146 11) M) := ok.gn
  have g9 : ∀ i, i < M 146 11 → itr (gnS (dur 0 M)) 0 (M 146 11) M (174 + 2 * i) 9 = 0 → M (174 + 2 * i) 9 = 0 ∧ M (174 + 2 * i) 2 ≤ dur 0 M := fun i hi z => by
    rw [gnI_9, if_pos hi] at z
    by_cases hs : srv 0 (dur 0 M) M i = true
    · exact srv9 hs
    · rw [if_neg hs] at z; exact absurd z (by omega)
  have go : ∀ x j, ¬ (174 ≤ x ∧ x % 2 = 0 ∧ j = 9) → itr (gnS (dur 0 M)) 0 (M 146 11) M x j = M x j := fun x j h => gnI_o h _
  -- rows that are left
  have hq : qB (100 * dur 0 M + 31) (rcv 0 c (itr (gnS (dur 0 M)) 0 (M 146 11) M)) := by
    have e11 : itr (gnS (dur 0 M)) 0 (M 146 11) M 146 11 = M 146 11 := go _ _ (by omega)
    have ed : dur 0 (itr (gnS (dur 0 M)) 0 (M 146 11) M) = dur 0 M := dur_cg (go _ _ (by omega)) (go _ _ (by omega)) (by have := ok.1; omega) (fun w hw => go _ _ (by unfold Wc; omega))
    unfold rcv
    rw [ed, e11]
    refine qB.oW (fun k hk => ⟨hc k, by show 0 ≤ _; omega⟩) (fun i hi hs => ?_) _
    obtain ⟨p1, p2, p3, p4, p5, p6, p7, p8, p9, p10, p11, p12⟩ := okg.2.2.2.2.2.1 i (by rw [e11]; exact hi)
    obtain ⟨s1, s2⟩ := srv9 hs
    obtain ⟨z1, z2, -, -⟩ := p12 s1
    exact ⟨by omega, p11⟩
  generalize rcv 0 c (itr (gnS (dur 0 M)) 0 (M 146 11) M) = q at *
  have ce : ∀ w j, w < 4 → crM c M (Wc w) j = if w < nw then rsL (dur 0 M) (gW M (Wc w)) 0 j else M (Wc w) j := fun w j hw => by
    have h := congrFun (congrFun (cw w hw) 0) j
    have e1 : gW (crM c M) (Wc w) 0 j = crM c M (Wc w) j := rfl
    rw [← e1, h]
    split <;> rfl
  generalize crM c M = N at *
  generalize dur 0 M = d at *
  obtain ⟨⟨o11, o12, o13⟩, ⟨o21, o22⟩, o3, o4, o5, o6, o7, o8, o9⟩ := ok
  have N11 : N 146 11 = M 146 11 := c0 11 (by omega) (by omega) (by omega) (by omega)
  refine ⟨⟨o11, o12, by rw [c0 2 (by omega) (by omega) (by omega) (by omega)]; exact o13⟩, by rw [c3]; omega, ?_, fun k hk => ?_, fun w hw => ?_, fun i hi => ?_, fun i j hij hj => ?_, fun x hx => ?_, fun w h1 h2 => ?_⟩
  · have : bzy N = 0 := sm_zero 4 (fun w hw => by
      rw [ce w 0 hw]
      by_cases hn : w < nw
      · rw [if_pos hn, rs_e.1]; rfl
      · rw [if_neg hn]
        by_cases z : M (Wc w) 0 = 0
        · rw [if_pos z]
        · exact absurd ((o5 w hw).2.2.2.2 z).1 hn)
    rw [this, N11]; omega
  · rw [c3, N11, (cr k hk).1, (cr k hk).2.1, (cr k hk).2.2]
    have := hq k hk
    omega
  · unfold wkO
    rw [cw w hw, ce w 7 hw, ce w 4 hw, ce w 5 hw, ce w 0 hw, ce w 2 hw, ce w 1 hw, c3, N11]
    by_cases hn : w < nw
    · rw [if_pos hn, if_pos hn, if_pos hn, if_pos hn, if_pos hn, rs_e.2.2.2.2.2.2.2.1, rs_e.2.2.2.2.1, rs_e.2.2.2.2.2.1, rs_e.1]
      exact ⟨okL_rs, Nat.two_pow_pos _, by omega, by omega, fun z => absurd rfl z⟩
    · rw [if_neg hn, if_neg hn, if_neg hn, if_neg hn, if_neg hn, if_neg hn, if_neg hn]
      obtain ⟨q1, q2, q3, q4, q5⟩ := o5 w hw
      obtain ⟨r1, r2⟩ := o9 w (by omega) hw
      exact ⟨q1, q2, by omega, by omega, fun z => absurd (q5 z).1 hn⟩
  · rw [N11] at hi
    obtain ⟨p1, p2, p3, p4, p5, p6, p7, p8, p9, p10, p11, p12⟩ := okg.2.2.2.2.2.1 i (by rw [go _ _ (by omega)]; exact hi)
    have ex : N (174 + 2 * i) = itr (gnS d) 0 (M 146 11) M (174 + 2 * i) := by funext j; exact cl _ _ (by omega)
    have ex2 : N (175 + 2 * i) = itr (gnS d) 0 (M 146 11) M (175 + 2 * i) := by funext j; exact cl _ _ (by omega)
    unfold lnO
    rw [ex, ex2, c3]
    refine ⟨p1, p2, p3, p4, p5, p6, p7, p8, p9, p10, p11, fun z => ?_⟩
    obtain ⟨z1, z2, z3, z4⟩ := p12 z
    have hd := (g9 i hi z).2
    have e2 : itr (gnS d) 0 (M 146 11) M (174 + 2 * i) 2 = M (174 + 2 * i) 2 := go _ _ (by omega)
    rw [← e2] at hd
    exact ⟨z1, z2, by omega, Or.inr (by omega)⟩
  · rw [N11] at hj
    have ex : ∀ i, N (174 + 2 * i) = itr (gnS d) 0 (M 146 11) M (174 + 2 * i) := fun i => by funext j; exact cl _ _ (by omega)
    rw [ex i, ex j]
    exact okg.2.2.2.2.2.2.1 i j hij (by rw [go _ _ (by omega)]; exact hj)
  · rw [c0 12 (by omega) (by omega) (by omega) (by omega)] at hx
    rw [ch 154 x (by omega) (by omega), ch 155 x (by omega) (by omega)]; exact o8 x hx
  · rw [ce w 4 h2, ce w 5 h2, if_neg (by omega), if_neg (by omega)]; exact o9 w h1 h2
