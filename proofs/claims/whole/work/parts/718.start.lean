/-! ===== the start of a run, both sides ===== -/
theorem stI_o {M : F2} {x j : Nat} (h : ¬ (158 ≤ x ∧ x < 174)) : ∀ n, n ≤ 4 → itr (fun w M => pt M (Wc w) (rsL 0 (gW M (Wc w)))) 0 n M x j = M x j
  | 0, _ => rfl
  | n + 1, hn => by
    rw [itr_S, pt_o (by unfold Wc; omega)]
    exact stI_o h n (by omega)
theorem stI_w {w : Nat} {M : F2} (hw : w < 4) : ∀ n, n ≤ 4 → gW (itr (fun w M => pt M (Wc w) (rsL 0 (gW M (Wc w)))) 0 n M) (Wc w) = if w < n then rsL 0 (gW M (Wc w)) else gW M (Wc w)
  | 0, _ => by rw [if_neg (by omega)]; rfl
  | n + 1, hn => by
    rw [itr_S]
    have ih := stI_w (M := M) hw n (by omega)
    generalize itr (fun w M => pt M (Wc w) (rsL 0 (gW M (Wc w)))) 0 n M = X at *
    by_cases e : w = n
    · subst e
      rw [gW_pt (nz_rs gW_nf), ih, if_neg (show ¬ w < w by omega), if_pos (show w < w + 1 by omega)]
    · rw [gW_po (by unfold Wc; omega), ih]
      by_cases h : w < n
      · rw [if_pos h, if_pos (show w < n + 1 by omega)]
      · rw [if_neg h, if_neg (show ¬ w < n + 1 by omega)]
theorem st_e {s n wk : Nat} {c : Nat → Nat} {M : F2} : (stM s n wk c M 146 0 = 8 + 14 * s ∧ stM s n wk c M 146 1 = 10 + 14 * n ∧ stM s n wk c M 146 2 = wk ∧ stM s n wk c M 146 3 = 1 ∧ stM s n wk c M 146 11 = 0 ∧ stM s n wk c M 146 12 = 0 ∧ stM s n wk c M 146 17 = 0 ∧ stM s n wk c M 146 18 = 0 ∧ stM s n wk c M 146 19 = 0) ∧ (∀ k, k < 10 → stM s n wk c M 147 k = c k ∧ stM s n wk c M 148 k = 0 ∧ stM s n wk c M 149 k = 0 ∧ stM s n wk c M 150 k = 0 ∧ stM s n wk c M 151 k = 0) ∧ ∀ w, w < 4 → gW (stM s n wk c M) (Wc w) = rsL 0 (gW (stB0 c (stA0 s n wk M)) (Wc w)) := by
  have co : ∀ x j, ¬ (158 ≤ x ∧ x < 174) → stC0 (stB0 c (stA0 s n wk M)) x j = stB0 c (stA0 s n wk M) x j := fun x j h => stI_o h 4 (by omega)
  have bo : ∀ j, stB0 c (stA0 s n wk M) 146 j = stA0 s n wk M 146 j := fun j => by
    unfold stB0; rw [upr_o _ (by omega), upr_o _ (by omega), upr_o _ (by omega), upr_o _ (by omega), upr_o _ (by omega)]
  refine ⟨⟨?_, ?_, ?_, ?_, ?_, ?_, ?_, ?_, ?_⟩, fun k hk => ⟨?_, ?_, ?_, ?_, ?_⟩, fun w hw => ?_⟩
  · unfold stM stD0; rw [up_o _ (by omega), up_o _ (by omega), up_o _ (by omega), up_o _ (by omega), up_o _ (by omega), co _ _ (by omega), bo]; unfold stA0; rw [up_o _ (by omega), up_o _ (by omega), up_o _ (by omega), up_e]
  · unfold stM stD0; rw [up_o _ (by omega), up_o _ (by omega), up_o _ (by omega), up_o _ (by omega), up_o _ (by omega), co _ _ (by omega), bo]; unfold stA0; rw [up_o _ (by omega), up_o _ (by omega), up_e]
  · unfold stM stD0; rw [up_o _ (by omega), up_o _ (by omega), up_o _ (by omega), up_o _ (by omega), up_o _ (by omega), co _ _ (by omega), bo]; unfold stA0; rw [up_o _ (by omega), up_e]
  · unfold stM stD0; rw [up_o _ (by omega), up_o _ (by omega), up_o _ (by omega), up_o _ (by omega), up_o _ (by omega), co _ _ (by omega), bo]; unfold stA0; rw [up_e]
  · unfold stM stD0; rw [up_o _ (by omega), up_o _ (by omega), up_o _ (by omega), up_o _ (by omega), up_e]
  · unfold stM stD0; rw [up_o _ (by omega), up_o _ (by omega), up_o _ (by omega), up_e]
  · unfold stM stD0; rw [up_o _ (by omega), up_o _ (by omega), up_e]
  · unfold stM stD0; rw [up_o _ (by omega), up_e]
  · unfold stM stD0; rw [up_e]
  · unfold stM stD0; rw [up_o _ (by omega), up_o _ (by omega), up_o _ (by omega), up_o _ (by omega), up_o _ (by omega), co _ _ (by omega)]; unfold stB0; rw [upr_o _ (by omega), upr_o _ (by omega), upr_o _ (by omega), upr_o _ (by omega), upr_k _ ⟨rfl, hk⟩]
  · unfold stM stD0; rw [up_o _ (by omega), up_o _ (by omega), up_o _ (by omega), up_o _ (by omega), up_o _ (by omega), co _ _ (by omega)]; unfold stB0; rw [upr_o _ (by omega), upr_o _ (by omega), upr_o _ (by omega), upr_k _ ⟨rfl, hk⟩]
  · unfold stM stD0; rw [up_o _ (by omega), up_o _ (by omega), up_o _ (by omega), up_o _ (by omega), up_o _ (by omega), co _ _ (by omega)]; unfold stB0; rw [upr_o _ (by omega), upr_o _ (by omega), upr_k _ ⟨rfl, hk⟩]
  · unfold stM stD0; rw [up_o _ (by omega), up_o _ (by omega), up_o _ (by omega), up_o _ (by omega), up_o _ (by omega), co _ _ (by omega)]; unfold stB0; rw [upr_o _ (by omega), upr_k _ ⟨rfl, hk⟩]
  · unfold stM stD0; rw [up_o _ (by omega), up_o _ (by omega), up_o _ (by omega), up_o _ (by omega), up_o _ (by omega), co _ _ (by omega)]; unfold stB0; rw [upr_k _ ⟨rfl, hk⟩]
  · unfold stM stD0; rw [gW_146, gW_146, gW_146, gW_146, gW_146]; unfold stC0; rw [stI_w hw 4 (by omega), if_pos hw]
theorem st_ok {s n sp wk : Nat} {c : Nat → Nat} {B M : F2} (os : okS sp wk c) : okM sp wk 0 B (stM s n wk c M) := by
  obtain ⟨⟨e0, e1, e2, e3, e11, e12, e17, e18, e19⟩, ek, ew⟩ := st_e (s := s) (n := n) (wk := wk) (c := c) (M := M)
  have f : ∀ w, w < 4 → ∀ j, stM s n wk c M (Wc w) j = rsL 0 (gW (stB0 c (stA0 s n wk M)) (Wc w)) 0 j := fun w hw j => congrFun (congrFun (ew w hw) 0) j
  have r : ∀ w, _ := fun w => rs_e (d := 0) (L := gW (stB0 c (stA0 s n wk M)) (Wc w))
  generalize stM s n wk c M = X at *
  refine ⟨⟨os.2.1.1, os.2.1.2, e2⟩, ⟨by omega, by omega⟩, ⟨?_, by omega⟩, fun k hk => ?_, fun w hw => ?_, fun i hi => absurd hi (by omega), fun i j _ hj => absurd hj (by omega), fun d hd => absurd hd (by omega), fun w _ hw => ⟨by rw [f w hw]; exact (r w).2.2.2.2.1, by rw [f w hw]; exact (r w).2.2.2.2.2.1⟩⟩
  · have : bzy X = 0 := sm_zero _ (fun w hw => by show (if X (Wc w) 0 = 0 then 0 else 1) = 0; rw [if_pos (by rw [f w hw]; exact (r w).1)])
    omega
  · obtain ⟨k1, k2, k3, -⟩ := ek k hk
    have := os.2.2 k
    omega
  · refine ⟨by rw [ew w hw]; exact okL_rs, ?_, ?_, ?_, fun z => absurd (by rw [f w hw]; exact (r w).1) z⟩
    · rw [f w hw, (r w).2.2.2.2.2.2.2.1]; exact Nat.two_pow_pos _
    · rw [f w hw, (r w).2.2.2.2.1]; omega
    · rw [f w hw, (r w).2.2.2.2.2.1]; omega
theorem st_mn {pl : Prop} {b : Mem} {s n sp wk : Nat} {c : Nat → Nat} {M : F2} (hB : BP b c sp) (h26 : b 269 26 = nI wk) : MN pl b (stM s n wk c M) sp := by
  obtain ⟨⟨e0, e1, e2, e3, e11, e12, e17, e18, e19⟩, ek, ew⟩ := st_e (s := s) (n := n) (wk := wk) (c := c) (M := M)
  have r : ∀ w, _ := fun w => rs_e (d := 0) (L := gW (stB0 c (stA0 s n wk M)) (Wc w))
  generalize stM s n wk c M = X at *
  obtain ⟨g1, ⟨s1, s2, s3, s4, s5, s6, s7⟩, g3, g4, g5⟩ := hB
  refine ⟨g1.cg (fun f k hf hk => ?_), ⟨by rw [h26, e2], by rw [s1, e3], by rw [s2, e11], by rw [s3, e11], ?_, by rw [s5, e17], by rw [s6, e18], by rw [s7, e19]⟩, fun _ k hk => ?_, fun w hw => ?_, fun i hi => absurd hi (by omega), fun t ht => ?_, fun k hk => ?_⟩
  · obtain ⟨k1, k2, k3, -⟩ := ek k hk
    rcases (show f = 0 ∨ f = 1 ∨ f = 2 by omega) with rfl | rfl | rfl
    · exact k1
    · exact k2
    · exact k3
  · unfold nRef; rw [e12]; exact s4
  · obtain ⟨-, -, -, k4, k5⟩ := ek k hk
    rw [k4, k5]; exact ⟨(g3 k hk).1, (g3 k hk).2.1⟩
  · obtain ⟨u0, u1, u2, u3, u4, u5, -⟩ := r w
    obtain ⟨v1, v2, v3, v4, v5⟩ := g5 w hw
    rw [ew w hw]
    exact ⟨by rw [v1, u0], by rw [v2, u2], by rw [v3, u3], by rw [v4, u4], by rw [v5, u5], fun z => absurd u0 z⟩
  · unfold nOft; rw [e11]; exact g4 t ht
  · unfold nHot; rw [e12]; exact (g3 k hk).2.2
theorem plan_at {a b : Mem} (hR : RR a b) {k : Nat} (hk : k < 2) (hm : nI k < a 3 2) : ∃ P, okP P ∧ CPl (a (15 + 14 * k)) (a (15 + 14 * k + 1)) (a (15 + 14 * k + 2)) (a (15 + 14 * k + 3)) P ∧ MPl (fun i => b 277 (121 * k + i)) P := by
  have h := hR.1.2.2.2.2.2.2.2.1 k hk hm
  unfold PR at h
  rw [show 1 + 14 + 14 * k = 15 + 14 * k by omega, show 242 * 0 + 121 * k = 121 * k by omega] at h
  exact h.ab
/-! the run of a schedule -/
def rnS (sp : Nat) (B : F2) (c : Nat → Nat) (P : F2) (k : Nat) (X : F2) : F2 := if X 146 12 = k ∧ can B (P 1 k) (P 2 k) (P 3 k) X = true then doM sp B c (P 1 k) (P 2 k) (P 3 k) X else X
def rnP (sp : Nat) (B : F2) (c : Nat → Nat) (P : F2) (m : Nat) (X : F2) : F2 := itr (rnS sp B c P) 0 m X
theorem rnP_S {sp : Nat} {B P X : F2} {c : Nat → Nat} {m : Nat} : rnP sp B c P (m + 1) X = rnS sp B c P m (rnP sp B c P m X) := itr_S _ _ _
theorem P_c {P : F2} (h : okP P) (i : Nat) : P 1 i < 7 ∧ P 2 i ≤ 4 ∧ P 3 i ≤ 7 := by
  obtain ⟨h1, h2, h3, h4, h5⟩ := h.2 i
  omega
theorem rn_ok {sp nw : Nat} {B P X : F2} {c : Nat → Nat} (gB : okB B) (gP : okP P) (hc : ∀ k, c k ≤ 100) (ok : okM sp nw 0 B X) (e : X 146 12 = 0) : ∀ m, m ≤ 40 → okM sp nw (rnP sp B c P m X 146 12) B (rnP sp B c P m X) ∧ rnP sp B c P m X 146 12 ≤ m ∧ rnP sp B c P m X 146 0 = X 146 0 ∧ rnP sp B c P m X 146 1 = X 146 1 := by
  intro m
  induction m with
  | zero => intro _; exact ⟨by show okM sp nw (X 146 12) B X; rw [e]; exact ok, by show X 146 12 ≤ 0; omega, rfl, rfl⟩
  | succ m ih =>
    intro hm
    obtain ⟨h1, h2, h3, h4⟩ := ih (by omega)
    rw [rnP_S]
    generalize rnP sp B c P m X = Y at *
    unfold rnS
    split
    · rename_i hh
      obtain ⟨p1, p2, p3⟩ := P_c gP m
      obtain ⟨d1, d2, d3, d4, -⟩ := do_ok (c := c) (tv := P 3 m) h1 gB hc p1 (by omega) p2 hh.2
      exact ⟨d1, by omega, by rw [d3]; exact h3, by rw [d4]; exact h4⟩
    · exact ⟨h1, by omega, h3, h4⟩
/-- the history stays; what stopped stays -/
theorem rn_h {sp nw : Nat} {B P X : F2} {c : Nat → Nat} (gB : okB B) (gP : okP P) (hc : ∀ k, c k ≤ 100) (ok : okM sp nw 0 B X) (e : X 146 12 = 0) {j : Nat} : ∀ m, j + m ≤ 40 → (rnP sp B c P j X 146 12 ≤ rnP sp B c P (j + m) X 146 12) ∧ (∀ x d, 154 ≤ x → x ≤ 157 → d < rnP sp B c P j X 146 12 → rnP sp B c P (j + m) X x d = rnP sp B c P j X x d) ∧ (rnP sp B c P j X 146 12 < j → rnP sp B c P (j + m) X = rnP sp B c P j X) := by
  intro m
  induction m with
  | zero => intro _; exact ⟨Nat.le_refl _, fun _ _ _ _ _ => rfl, fun _ => rfl⟩
  | succ m ih =>
    intro hm
    obtain ⟨h1, h2, h3⟩ := ih (by omega)
    obtain ⟨k1, k2, -⟩ := rn_ok gB gP hc ok e (j + m) (by omega)
    rw [← Nat.add_assoc, rnP_S]
    generalize rnP sp B c P (j + m) X = Y at *
    unfold rnS
    split
    · rename_i hh
      obtain ⟨p1, p2, p3⟩ := P_c gP (j + m)
      obtain ⟨d1, d2, d3, d4, d5⟩ := do_ok (c := c) (tv := P 3 (j + m)) k1 gB hc p1 (by omega) p2 hh.2
      refine ⟨by omega, fun x d x1 x2 hd => by rw [d5 x d x1 x2 (by omega)]; exact h2 x d x1 x2 hd, fun z => ?_⟩
      exfalso
      rw [h3 z] at hh
      omega
    · exact ⟨h1, h2, h3⟩
theorem rn_full {sp nw : Nat} {B P X : F2} {c : Nat → Nat} (gB : okB B) (gP : okP P) (hc : ∀ k, c k ≤ 100) (ok : okM sp nw 0 B X) (e : X 146 12 = 0) {j m : Nat} (hj : j ≤ m) (hm : m ≤ 40) (h : j ≤ rnP sp B c P m X 146 12) : rnP sp B c P j X 146 12 = j := by
  obtain ⟨m', rfl⟩ : ∃ m', m = j + m' := ⟨m - j, by omega⟩
  have k2 := (rn_ok (c := c) gB gP hc ok e j (by omega)).2.1
  have h3 := (rn_h (c := c) (j := j) gB gP hc ok e m' hm).2.2
  by_cases z : rnP sp B c P j X 146 12 < j
  · rw [h3 z] at h; omega
  · omega
theorem rn_no {sp : Nat} {B P Y : F2} {c : Nat → Nat} {k m : Nat} (h : Y 146 12 < k) : itr (rnS sp B c P) k m Y = Y := by
  induction m with
  | zero => rfl
  | succ m ih =>
    show rnS sp B c P (k + m) (itr (rnS sp B c P) k m Y) = Y
    rw [ih]
    unfold rnS
    rw [if_neg (fun z => absurd z.1 (by omega))]
/-! the engine plays -/
set_option maxHeartbeats 2000000 in
theorem c_playL {a : Mem} {X B P : F2} {s sp wk n p m : Nat} {c : Nat → Nat} (hX : CX a X s sp wk c n B) (ok : okM sp wk 0 B X) (e : X 146 12 = 0) (gP : okP P) (hp : p < 2) (hP : CPl (a (15 + 14 * p)) (a (15 + 14 * p + 1)) (a (15 + 14 * p + 2)) (a (15 + 14 * p + 3)) P) (hm : m < 2147483648) : ∃ a', lX11_play_80 (nI m) (15 + 14 * p) FU 1 0 a = some a' ∧ CX a' (rnP sp B c P (min m (P 0 0)) X) s sp wk c n B ∧ frK a a' := by
  have gB := hX.2.1.2.2.2.1
  have hc := hX.2.1.2.2.1.2.2
  have p40 := gP.1
  refine loop_x (fun f k (st : Bool × Mem) => lX11_play_80 (nI m) (15 + 14 * p) f (b2 st.1) (nI k) st.2) (min m (P 0 0)) (fun k st => st.1 = decide (rnP sp B c P k X 146 12 = k) ∧ CM st.2 (rnP sp B c P k X) ∧ frK a st.2) (fun r => CX r (rnP sp B c P (min m (P 0 0)) X) s sp wk c n B ∧ frK a r) (Nat.zero_le _) (by omega) (s := (true, a)) ⟨(decide_eq_true e).symm, hX.1, frK.rf⟩ ?_ ?_ ?_
  · intro r e1 e2; exact ⟨r, e1, e2⟩
  · rintro f ⟨t, r⟩ ⟨h1, h2, h3⟩
    dsimp only at h1 h2 h3
    obtain ⟨k1, k2, k3, k4⟩ := rn_ok (c := c) gB gP hc ok e (min m (P 0 0)) (by omega)
    refine ⟨r, ?_, hX.go h2 h3 k3 k4, h3⟩
    show lX11_play_80 (nI m) (15 + 14 * p) (f + 1) (b2 t) (nI (min m (P 0 0))) r = _
    have es : r (15 + 14 * p) 0 = nI (P 0 0) := by rw [h3 _ (by omega)]; exact hP.1
    rw [lX11_play_80]
    by_cases z : m ≤ min m (P 0 0)
    · rw [if_pos (by rw [le_nn hm (by omega)]; exact z)]
    · rw [if_neg (by rw [le_nn hm (by omega)]; exact z), es, if_pos (by rw [le_nn (by omega) (by omega)]; omega)]
  · rintro f k ⟨t, r⟩ hk ⟨h1, h2, h3⟩
    dsimp only at h1 h2 h3
    obtain ⟨k1, k2, k3, k4⟩ := rn_ok (c := c) gB gP hc ok e k (by omega)
    have es : r (15 + 14 * p) 0 = nI (P 0 0) := by rw [h3 _ (by omega)]; exact hP.1
    obtain ⟨f1, f2, f3⟩ := hP.2 k (by omega)
    have f1' : r (15 + 14 * p + 1) k = nI (P 1 k) := by rw [h3 _ (by omega)]; exact f1
    have f2' : r (15 + 14 * p + 2) k = vI (P 2 k) := by rw [h3 _ (by omega)]; exact f2
    have f3' : r (15 + 14 * p + 3) k = vI (P 3 k) := by rw [h3 _ (by omega)]; exact f3
    obtain ⟨p1, p2, p3⟩ := P_c gP k
    have hXk : CX r (rnP sp B c P k X) s sp wk c n B := hX.go h2 h3 k3 k4
    rw [rnP_S]
    have hst : ∀ (h12 : rnP sp B c P k X 146 12 < k), rnP sp B c P (min m (P 0 0)) X = rnP sp B c P k X := fun h12 => by
      obtain ⟨j, hj⟩ : ∃ j, min m (P 0 0) = k + j := ⟨min m (P 0 0) - k, by omega⟩
      rw [hj]
      exact (rn_h (c := c) gB gP hc ok e j (by omega)).2.2 h12
    generalize rnP sp B c P k X = Y at *
    have h1' : t = decide (Y 146 12 = k) := h1
    by_cases z : Y 146 12 = k
    · left
      rw [decide_eq_true z] at h1'
      subst h1'
      cases hcan : can B (P 1 k) (P 2 k) (P 3 k) Y
      · refine ⟨(false, r), ?_, ?_, ?_, h3⟩
        · show lX11_play_80 (nI m) (15 + 14 * p) (f + 1) (b2 true) (nI k) r = lX11_play_80 (nI m) (15 + 14 * p) f (b2 false) (nI (k + 1)) r
          rw [lX11_play_80, if_neg (by rw [le_nn hm (by omega)]; omega), es, if_neg (by rw [le_nn (by omega) (by omega)]; omega), if_neg (show ¬ b2 true = 0 by decide), inb_T (show k < 40 by omega) (by omega), nI_ck (by omega)]
          simp only [gdT]
          rw [f1', f2', f3', k_no hXk k1 p1 (by omega) p2 p3 hcan, bq, nI_1]
        · unfold rnS; rw [if_neg (fun y => by rw [hcan] at y; exact absurd y.2 (by decide)), decide_eq_false (by omega)]
        · unfold rnS; rw [if_neg (fun y => by rw [hcan] at y; exact absurd y.2 (by decide))]; exact h2
      · obtain ⟨r', d1, d2, d3⟩ := k_do (tv := P 3 k) hXk k1 p1 (by omega) p2 p3 hcan
        have d12 := (do_ok (c := c) (tv := P 3 k) k1 gB hc p1 (by omega) p2 hcan).2.1
        refine ⟨(true, r'), ?_, ?_, ?_, h3.tr d3⟩
        · show lX11_play_80 (nI m) (15 + 14 * p) (f + 1) (b2 true) (nI k) r = lX11_play_80 (nI m) (15 + 14 * p) f (b2 true) (nI (k + 1)) r'
          rw [lX11_play_80, if_neg (by rw [le_nn hm (by omega)]; omega), es, if_neg (by rw [le_nn (by omega) (by omega)]; omega), if_neg (show ¬ b2 true = 0 by decide), inb_T (show k < 40 by omega) (by omega), nI_ck (by omega)]
          simp only [gdT]
          rw [f1', f2', f3', d1, bq, nI_1]
        · unfold rnS; rw [if_pos ⟨z, hcan⟩, decide_eq_true (by omega)]
        · unfold rnS; rw [if_pos ⟨z, hcan⟩]; exact d2
    · right
      rw [decide_eq_false z] at h1'
      subst h1'
      refine ⟨r, ?_, by rw [hst (by omega)]; exact hXk, h3⟩
      show lX11_play_80 (nI m) (15 + 14 * p) (f + 1) (b2 false) (nI k) r = _
      rw [lX11_play_80, if_neg (by rw [le_nn hm (by omega)]; omega), es, if_neg (by rw [le_nn (by omega) (by omega)]; omega), if_pos (show b2 false = 0 by decide)]
/-! the reference plays -/
theorem m_deeds {b : Mem} {P : F2} {p : Nat} (hp : p < 2) (e69 : b 269 69 = nI p) (hP : MPl (fun i => b 277 (121 * p + i)) P) : fX12_deeds b = some (nI (P 0 0), b) := by
  unfold fX12_deeds
  rw [e69, show (121 : Int32) = nI 121 from rfl, pk_mul, inb_T (by omega) (by omega), gdT, nI_ck (by omega)]
  have := hP.1
  dsimp only at this
  rw [Nat.add_zero] at this
  rw [this]
theorem m_deedOf {b : Mem} {P : F2} {p k : Nat} (hp : p < 2) (gP : okP P) (e69 : b 269 69 = nI p) (hP : MPl (fun i => b 277 (121 * p + i)) P) (hk : k < P 0 0) : fX12_deedOf (nI k) 0 b = some (nI (P 1 k), b) ∧ fX12_deedOf (nI k) 1 b = some (vI (P 2 k), b) ∧ fX12_deedOf (nI k) 2 b = some (vI (P 3 k), b) := by
  have g := gP.1
  obtain ⟨h1, h2, h3⟩ := hP.2 k hk
  dsimp only at h1 h2 h3
  have go : ∀ u, u < 3 → fX12_deedOf (nI k) (nI u) b = some (b 277 (121 * p + (1 + u + 3 * k)), b) := fun u hu => by
    unfold fX12_deedOf
    rw [e69, show (121 : Int32) = nI 121 from rfl, show (3 : Int32) = nI 3 from rfl, show (1 : Int32) = nI 1 from rfl, pk_mul, pk_mul, nI_add, nI_add, nI_add, inb_T (by omega) (by omega), gdT, nI_ck (by omega), show 121 * p + 1 + 3 * k + u = 121 * p + (1 + u + 3 * k) by omega]
  refine ⟨?_, ?_, ?_⟩
  · have := go 0 (by omega); rw [h1] at this; exact this
  · have := go 1 (by omega); rw [h2] at this; exact this
  · have := go 2 (by omega); rw [h3] at this; exact this
set_option maxHeartbeats 2000000 in
theorem m_play {pl : Prop} {b : Mem} {X B P : F2} {s sp wk n p m : Nat} {c : Nat → Nat} (h : MN pl b X sp) (hH : HD b s sp wk c n B) (hs : s < 2) (hn : n < 2) (os : okS sp wk c) (gB : okB B) (gP : okP P) (ok : okM sp wk 0 B X) (e : X 146 12 = 0) (hp : p < 2) (e69 : b 269 69 = nI p) (hP : MPl (fun i => b 277 (121 * p + i)) P) (hm : m ≤ P 0 0) :
    ∃ b', fX12_play (nI m) b = some (nI (rnP sp B c P m X 146 12), b') ∧ MN pl b' (rnP sp B c P m X) sp ∧ frO b b' ∧ (rnP sp B c P m X 146 12 = m → 0 < m → P 1 (m - 1) = 3 → CAM pl b' (rnP sp B c P m X) (m - 1)) := by
  have hc := os.2.2
  have p40 := gP.1
  unfold fX12_play
  refine loop_x (fun f k (r : Mem) => lX12_play_2 (nI m) f (nI k) r) m (fun k r => rnP sp B c P k X 146 12 = k ∧ MN pl r (rnP sp B c P k X) sp ∧ frO b r ∧ (0 < k → P 1 (k - 1) = 3 → CAM pl r (rnP sp B c P k X) (k - 1))) (fun q => q.1 = nI (rnP sp B c P m X 146 12) ∧ MN pl q.2 (rnP sp B c P m X) sp ∧ frO b q.2 ∧ (rnP sp B c P m X 146 12 = m → 0 < m → P 1 (m - 1) = 3 → CAM pl q.2 (rnP sp B c P m X) (m - 1))) (Nat.zero_le _) (by omega) (s := b) ⟨e, h, frO.rf, fun z => absurd z (by omega)⟩ ?_ ?_ ?_
  · rintro ⟨q1, q2⟩ e1 ⟨e2, e3, e4⟩
    have e1' : lX12_play_2 (nI m) FU 0 b = some (q1, q2) := e1
    rw [e1', bq]
    dsimp only at e2 e3 e4 ⊢
    rw [e2]
    exact ⟨q2, rfl, e3, e4⟩
  · rintro f r ⟨h1, h2, h3, h4⟩
    refine ⟨(nI m, r), ?_, by rw [h1], h2, h3, fun _ => h4⟩
    show lX12_play_2 _ _ _ _ = _
    rw [lX12_play_2, if_pos (by rw [le_nn (by omega) (by omega)]; omega)]
  · rintro f k r hk ⟨h1, h2, h3, h4⟩
    obtain ⟨k1, k2, k3, k4⟩ := rn_ok (c := c) gB gP hc ok e k (by omega)
    obtain ⟨p1, p2, p3⟩ := P_c gP k
    have e69' : r 269 69 = nI p := by rw [h3.1 69 (by omega)]; exact e69
    have hP' : MPl (fun i => r 277 (121 * p + i)) P := by rw [h3.2 277 (by omega)]; exact hP
    obtain ⟨d1, d2, d3⟩ := m_deedOf (k := k) hp gP e69' hP' (by omega)
    obtain ⟨w1, w2⟩ := m_does (kind := P 1 k) (wv := P 2 k) (tv := P 3 k) (y := nI k) h2 (hH.O h3) hs hn os k1 gB (by omega) p1 p2 p3 (fun _ => by rw [h1])
    rw [h1] at w1
    have hst : rnP sp B c P (k + 1) X 146 12 < k + 1 → rnP sp B c P m X = rnP sp B c P (k + 1) X := fun h12 => by
      obtain ⟨j, hj⟩ : ∃ j, m = (k + 1) + j := ⟨m - (k + 1), by omega⟩
      rw [hj]
      exact (rn_h (c := c) gB gP hc ok e j (by omega)).2.2 h12
    have eS := rnP_S (sp := sp) (B := B) (P := P) (X := X) (c := c) (m := k)
    generalize rnP sp B c P k X = Y at *
    cases hcan : can B (P 1 k) (P 2 k) (P 3 k) Y
    · right
      have eY : rnP sp B c P (k + 1) X = Y := by rw [eS]; unfold rnS; rw [if_neg (fun y => by rw [hcan] at y; exact absurd y.2 (by decide))]
      have em := hst (by rw [eY]; omega)
      rw [eY] at em
      refine ⟨(nI k, r), ?_, by rw [em, h1], by rw [em]; exact h2, h3, fun z => ?_⟩
      · show lX12_play_2 _ _ _ _ = _
        rw [lX12_play_2, if_neg (by rw [le_nn (by omega) (by omega)]; omega), d1, bq]
        dsimp only
        rw [d2, bq]
        dsimp only
        rw [d3, bq]
        dsimp only
        rw [w2 hcan, bq]
        rfl
      · rw [em, h1] at z; omega
    · left
      obtain ⟨r', q1, q2, q3, q4⟩ := w1 hcan
      have d12 := (do_ok (c := c) (tv := P 3 k) k1 gB hc p1 (by omega) p2 hcan).2.1
      have eY : rnP sp B c P (k + 1) X = doM sp B c (P 1 k) (P 2 k) (P 3 k) Y := by rw [eS]; unfold rnS; rw [if_pos ⟨h1, hcan⟩]
      rw [eY]
      refine ⟨r', ?_, by omega, q2, h3.tr q3, fun _ z => q4 z⟩
      show lX12_play_2 _ _ _ _ = lX12_play_2 _ _ _ _
      rw [lX12_play_2, if_neg (by rw [le_nn (by omega) (by omega)]; omega), d1, bq]
      dsimp only
      rw [d2, bq]
      dsimp only
      rw [d3, bq]
      dsimp only
      rw [q1, bq, nI_1]
      rfl
