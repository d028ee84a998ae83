/-! ===== a deed in the reference ===== -/
theorem m_isWorker {b : Mem} {nw wv : Nat} (e : b 269 26 = nI nw) (h1 : 1 ≤ nw) (h4 : nw ≤ 4) (hw : wv ≤ 100) : fX12_isWorker (vI wv) b = some (decide (wv ≠ 0 ∧ wv ≤ nw), b) := by
  unfold fX12_isWorker
  rw [e, li1, nI_sub h1, f_in, bq]
  dsimp only
  by_cases z : wv = 0
  · rw [decide_eq_false (fun y => y.1 (by rw [z]; decide)), decide_eq_false (fun y => y.1 z)]
  · rw [vI_p (by omega)]
    by_cases z2 : wv ≤ nw
    · rw [decide_eq_true ⟨by rw [li0, lt_nn (by omega) (by omega)]; omega, by rw [lt_nn (by omega) (by omega)]; omega⟩, decide_eq_true ⟨z, z2⟩]
    · rw [decide_eq_false (fun y => y.2 (by rw [lt_nn (by omega) (by omega)]; omega)), decide_eq_false (fun y => z2 y.2)]
set_option maxHeartbeats 4000000 in
theorem m_does {pl : Prop} {b : Mem} {M B : F2} {s sp wk n nw kind wv tv : Nat} {c : Nat → Nat} {y : Int32} (h : MN pl b M sp) (hH : HD b s sp wk c n B) (hs : s < 2) (hn : n < 2) (os : okS sp wk c) (ok : okM sp nw (M 146 12) B M) (gB : okB B) (hd : M 146 12 < 60) (hk : kind < 7) (hw : wv ≤ 4) (ht : tv ≤ 7) (hy : pl → y = nI (M 146 12)) :
    (can B kind wv tv M = true → ∃ b', fX12_does (nI kind) (vI wv) (vI tv) y b = some (true, b') ∧ MN pl b' (doM sp B c kind wv tv M) sp ∧ frO b b' ∧ (kind = 3 → CAM pl b' (doM sp B c kind wv tv M) (M 146 12))) ∧ (can B kind wv tv M = false → fX12_does (nI kind) (vI wv) (vI tv) y b = some (false, b)) := by
  have s1 := h.2.1.1
  obtain ⟨o1, o2, o3⟩ := ok.1
  have gB1 := gB.1
  unfold fX12_does
  by_cases k0 : kind = 0
  · subst k0
    rw [if_pos (show nI 0 = 0 from rfl)]
    obtain ⟨p1, p2⟩ := m_epoch (c := c) (wv := wv) (tv := tv) h ok gB
    have hc : can B 0 wv tv M = epOK M := by unfold can; rw [if_pos rfl]
    rw [hc]
    refine ⟨fun z => ?_, fun z => by rw [p2 z]; rfl⟩
    obtain ⟨b', e1, e2, e3⟩ := p1 z
    exact ⟨b', by rw [e1]; rfl, e2, e3, fun q => absurd q (by omega)⟩
  rw [if_neg (ne0 k0 (by omega))]
  by_cases k1 : kind = 1
  · subst k1
    rw [if_pos (show nI 1 = 1 from rfl)]
    obtain ⟨b', e1, e2, e3, -⟩ := m_crashD (wv := wv) (tv := tv) h hH hs ok
    have hc : can B 1 wv tv M = true := by unfold can; rw [if_neg (by omega), if_pos rfl]
    rw [hc]
    exact ⟨fun _ => ⟨b', by rw [e1]; rfl, e2, e3, fun q => absurd q (by omega)⟩, fun z => absurd z (by decide)⟩
  rw [if_neg (ne1 k1 (by omega)), m_isWorker (nw := nw) (by rw [s1, o3]) o1 o2 (by omega), bq]
  dsimp only
  by_cases hwv : wv = 0 ∨ M 146 2 < wv
  · have hc : can B kind wv tv M = false := by unfold can; rw [if_neg k0, if_neg k1, if_pos hwv]
    rw [decide_eq_false (by omega), if_neg (by decide), hc]
    exact ⟨fun z => absurd z (by decide), fun _ => rfl⟩
  obtain ⟨w, rfl⟩ : ∃ w, wv = w + 1 := ⟨wv - 1, by omega⟩
  rw [decide_eq_true (by omega), if_pos rfl, vI_s]
  have hw4 : w < 4 := by omega
  obtain ⟨q1, q2, q4, -, q5⟩ := ok.2.2.2.2.1 w hw4
  obtain ⟨a1, a2, a3, a4, a5, a6⟩ := h.2.2.2.1 w hw4
  have a1' : b 286 w = vI (M (Wc w) 0) := a1
  have a2' : b 287 w = nI (M (Wc w) 2) := a2
  by_cases k2 : kind = 2
  · subst k2
    rw [if_pos (show nI 2 = 2 from rfl)]
    have hcan : can B 2 (w + 1) tv M = (decide (M (Wc w) 0 ≠ 0) && decide (M (Wc w) 2 < B 1 (M (Wc w) 0 - 1))) := by unfold can; rw [if_neg (by omega), if_neg (by omega), if_neg hwv, if_pos rfl, Nat.add_sub_cancel]
    rw [hcan]
    by_cases z0 : M (Wc w) 0 = 0
    · rw [decide_eq_false (show ¬ M (Wc w) 0 ≠ 0 by omega), Bool.false_and]
      exact ⟨fun z => absurd z (by decide), fun _ => by rw [m_steps_no hw4 (by rw [a1', z0]; rfl)]; rfl⟩
    · have q5' := q5 z0
      by_cases z2 : M (Wc w) 2 < B 1 (M (Wc w) 0 - 1)
      · rw [decide_eq_true z0, decide_eq_true z2, Bool.true_and]
        obtain ⟨b', e1, e2, e3⟩ := m_stepD (tv := tv) h hH hn os ok gB hw4 z0 z2
        exact ⟨fun _ => ⟨b', by rw [e1]; rfl, e2, e3, fun q => absurd q (by omega)⟩, fun z => absurd z (by decide)⟩
      · rw [decide_eq_false z2, Bool.and_false]
        refine ⟨fun z => absurd z (by decide), fun _ => ?_⟩
        rw [m_steps_end (t := M (Wc w) 0 - 1) hw4 hH.2.1 hn gB (by omega) (by rw [a1', vI_p (by omega)]) (by rw [a2']; congr 1; omega)]
        rfl
  rw [if_neg (ne2 k2 (by omega))]
  by_cases k3 : kind = 3
  · subst k3
    rw [if_pos (show nI 3 = 3 from rfl)]
    have hcan : can B 3 (w + 1) tv M = (decide (M (Wc w) 0 ≠ 0) && decide (B 1 (M (Wc w) 0 - 1) ≤ M (Wc w) 2)) := by unfold can; rw [if_neg (by omega), if_neg (by omega), if_neg hwv, if_neg (by omega), if_pos rfl, Nat.add_sub_cancel]
    rw [hcan]
    obtain ⟨p1, p2⟩ := m_tries (tv := tv) (y := y) h hH hn os ok gB hw4 hd hy
    by_cases z0 : M (Wc w) 0 = 0
    · rw [decide_eq_false (show ¬ M (Wc w) 0 ≠ 0 by omega), Bool.false_and]
      exact ⟨fun z => absurd z (by decide), fun _ => by rw [p2 (Or.inl z0)]; rfl⟩
    · by_cases z2 : B 1 (M (Wc w) 0 - 1) ≤ M (Wc w) 2
      · rw [decide_eq_true z0, decide_eq_true z2, Bool.true_and]
        obtain ⟨b', e1, e2, e3, e4⟩ := p1 z0 z2
        exact ⟨fun _ => ⟨b', by rw [e1]; rfl, e2, e3, fun _ => e4⟩, fun z => absurd z (by decide)⟩
      · rw [decide_eq_false z2, Bool.and_false]
        exact ⟨fun z => absurd z (by decide), fun _ => by rw [p2 (Or.inr (by omega))]; rfl⟩
  rw [if_neg (ne3 k3 (by omega))]
  by_cases k4 : kind = 4
  · subst k4
    rw [if_pos (show nI 4 = 4 from rfl), inb_T hw4 (by omega), nI_ck (by omega)]
    simp only [gdT]
    have hcan : can B 4 (w + 1) tv M = decide (M (Wc w) 0 ≠ 0) := by unfold can; rw [if_neg (by omega), if_neg (by omega), if_neg hwv, if_neg (by omega), if_neg (by omega), if_pos rfl, Nat.add_sub_cancel]
    rw [hcan]
    by_cases z0 : M (Wc w) 0 = 0
    · rw [decide_eq_false (show ¬ M (Wc w) 0 ≠ 0 by omega), if_pos (by rw [a1', z0]; rfl)]
      exact ⟨fun z => absurd z (by decide), fun _ => rfl⟩
    · have q5' := q5 z0
      obtain ⟨b', e1, e2, e3⟩ := m_quitD (tv := tv) (c := c) h ok hw4
      rw [decide_eq_true z0, if_neg (by rw [a1', vI_p (by omega)]; exact nI_m1 (by omega)), e1, bq]
      exact ⟨fun _ => ⟨b', rfl, e2, e3, fun q => absurd q (by omega)⟩, fun z => absurd z (by decide)⟩
  rw [if_neg (ne4 k4 (by omega))]
  by_cases k5 : kind = 5
  · subst k5
    obtain ⟨b', e1, e2, e3⟩ := m_flushD (tv := tv) (c := c) h ok hw4
    have hcan : can B 5 (w + 1) tv M = true := by unfold can; rw [if_neg (by omega), if_neg (by omega), if_neg hwv, if_neg (by omega), if_neg (by omega), if_neg (by omega), if_pos rfl]
    rw [if_pos (show nI 5 = 5 from rfl), e1, bq, hcan]
    exact ⟨fun _ => ⟨b', rfl, e2, e3, fun q => absurd q (by omega)⟩, fun z => absurd z (by decide)⟩
  rw [if_neg (ne5 k5 (by omega)), inb_T hw4 (by omega), gdT, nI_ck (by omega)]
  have k6 : kind = 6 := by omega
  subst k6
  have hcan : can B 6 (w + 1) tv M = (decide (M (Wc w) 0 = 0) && (decide (tv ≠ 0) && decide (tv ≤ B 0 0))) := by unfold can; rw [if_neg (by omega), if_neg (by omega), if_neg hwv, if_neg (by omega), if_neg (by omega), if_neg (by omega), if_neg (by omega), Nat.add_sub_cancel]
  rw [hcan]
  by_cases z0 : M (Wc w) 0 = 0
  · rw [decide_eq_true z0, Bool.true_and, if_pos (by rw [a1', z0]; rfl)]
    by_cases z1 : tv ≠ 0 ∧ tv ≤ B 0 0
    · obtain ⟨t, rfl⟩ : ∃ t, tv = t + 1 := ⟨tv - 1, by omega⟩
      rw [decide_eq_true z1.1, decide_eq_true z1.2, Bool.true_and, vI_s, m_isTask hH.2.1.2.1 gB.1 (by omega), bq]
      dsimp only
      obtain ⟨b', e1, e2, e3⟩ := m_beginD (t := t) (c := c) h ok hw4
      rw [if_pos rfl, e1, bq]
      exact ⟨fun _ => ⟨b', rfl, e2, e3, fun q => absurd q (by omega)⟩, fun z => absurd z (by decide)⟩
    · have hf : (decide (tv ≠ 0) && decide (tv ≤ B 0 0)) = false := by
        by_cases y1 : tv = 0
        · rw [decide_eq_false (show ¬ tv ≠ 0 by omega), Bool.false_and]
        · rw [decide_eq_false (show ¬ tv ≤ B 0 0 by omega), Bool.and_false]
      have hx : vI tv < 0 ∨ ∃ j, j < 2147483648 ∧ B 0 0 ≤ j ∧ vI tv = nI j := by
        by_cases y1 : tv = 0
        · left; rw [y1]; decide
        · exact Or.inr ⟨tv - 1, by omega, by omega, vI_p (by omega)⟩
      rw [hf, m_noTask hH.2.1.2.1 gB.1 hx, bq]
      exact ⟨fun z => absurd z (by decide), fun _ => rfl⟩
  · have q5' := q5 z0
    rw [decide_eq_false z0, Bool.false_and, if_neg (by rw [a1', vI_p (by omega)]; exact nI_m1 (by omega))]
    exact ⟨fun z => absurd z (by decide), fun _ => rfl⟩
/-- a deed that is no commit has no verdict -/
theorem op_h0 {sp nw kind wv tv : Nat} {c : Nat → Nat} {B M : F2} (ok : okM sp nw (M 146 12) B M) (hk : kind < 7) (h3 : kind ≠ 3) (hw : wv ≤ 4) (hcan : can B kind wv tv M = true) : ∀ x, 154 ≤ x → x ≤ 157 → doM sp B c kind wv tv M x (M 146 12) = 0 := fun x x1 x2 => by
  have hp : prM M x (M 146 12) = 0 := by
    unfold prM
    rcases (show x = 154 ∨ x = 155 ∨ x = 156 ∨ x = 157 by omega) with rfl | rfl | rfl | rfl
    · rw [up_o _ (by omega), up_o _ (by omega), up_o _ (by omega), up_e]
    · rw [up_o _ (by omega), up_o _ (by omega), up_e]
    · rw [up_o _ (by omega), up_e]
    · rw [up_e]
  have o2 := ok.1
  rw [do_o (by omega)]
  unfold opM
  by_cases k0 : kind = 0
  · rw [if_pos k0]; unfold epM; rw [up_o _ (by omega)]; exact hp
  rw [if_neg k0]
  by_cases k1 : kind = 1
  · rw [if_pos k1]
    obtain ⟨-, -, -, -, -, ch, -⟩ := cr_e (c := c) ok.pr
    rw [ch x _ (by omega) (by omega)]; exact hp
  rw [if_neg k1]
  have hwv := can_w hcan k0 k1
  by_cases k2 : kind = 2
  · rw [if_pos k2]; unfold spM; rw [pt_o (by unfold Wc; omega)]; exact hp
  rw [if_neg k2, if_neg h3]
  by_cases k4 : kind = 4
  · rw [if_pos k4]; unfold quM; rw [rtM_o (by omega) (by omega), up_o _ (by omega)]; exact hp
  rw [if_neg k4]
  by_cases k5 : kind = 5
  · rw [if_pos k5, flM_o (by unfold Wc; omega) (by omega)]; exact hp
  rw [if_neg k5]; unfold bgM; rw [pt_o (by unfold Wc; omega)]; exact hp
