theorem rtM_o {w c j : Nat} {M : F2} (h : ¬ (158 ≤ c ∧ c < 174)) (hw : w < 4) : rtM w M c j = M c j := by unfold rtM; rw [pt_o (by unfold Wc; omega)]
/-- behind the deed, ahead of its count -/
theorem op_ok {sp nw kind wv tv : Nat} {c : Nat → Nat} {B M : F2} (ok : okM sp nw (M 146 12) B M) (gB : okB B) (hc : ∀ k, c k ≤ 100) (hk : kind < 7) (hd : M 146 12 < 60) (hw : wv ≤ 4) (hcan : can B kind wv tv M = true) :
    okM sp nw (M 146 12 + 1) B (opM sp B c kind wv tv (prM M)) ∧ (opM sp B c kind wv tv (prM M)) 146 12 = M 146 12 ∧ (opM sp B c kind wv tv (prM M)) 146 0 = M 146 0 ∧ (opM sp B c kind wv tv (prM M)) 146 1 = M 146 1 ∧ (opM sp B c kind wv tv (prM M)) 154 (M 146 12) ≤ 3 ∧ (opM sp B c kind wv tv (prM M)) 155 (M 146 12) ≤ 10 ∧ ∀ x d, 154 ≤ x → x ≤ 157 → d < M 146 12 → (opM sp B c kind wv tv (prM M)) x d = M x d := by
  have okp := ok.pr
  have p12 : prM M 146 12 = M 146 12 := prM_o (by omega)
  have p0 : prM M 146 0 = M 146 0 := prM_o (by omega)
  have p1 : prM M 146 1 = M 146 1 := prM_o (by omega)
  have p3 : prM M 146 3 = M 146 3 := prM_o (by omega)
  have p154 : prM M 154 (M 146 12) = 0 := by unfold prM; rw [up_o _ (by omega), up_o _ (by omega), up_o _ (by omega), up_e]
  have p155 : prM M 155 (M 146 12) = 0 := by unfold prM; rw [up_o _ (by omega), up_o _ (by omega), up_e]
  have pW : ∀ w, prM M (Wc w) = M (Wc w) := fun w => by funext j; exact prM_o (by unfold Wc; omega)
  have ph : ∀ x d, d < M 146 12 → prM M x d = M x d := fun x d hd => prM_o (by omega)
  have nw4 := ok.1
  -- a deed that leaves the head and the diary of verdicts
  have gen : ∀ N : F2, okM sp nw (M 146 12 + 1) B N → (∀ c j, (c = 146 ∧ (j = 0 ∨ j = 1 ∨ j = 12)) ∨ (154 ≤ c ∧ c ≤ 157) → N c j = prM M c j) → okM sp nw (M 146 12 + 1) B N ∧ N 146 12 = M 146 12 ∧ N 146 0 = M 146 0 ∧ N 146 1 = M 146 1 ∧ N 154 (M 146 12) ≤ 3 ∧ N 155 (M 146 12) ≤ 10 ∧ ∀ x d, 154 ≤ x → x ≤ 157 → d < M 146 12 → N x d = M x d := fun N h1 h2 =>
    ⟨h1, by rw [h2 _ _ (by omega)]; exact p12, by rw [h2 _ _ (by omega)]; exact p0, by rw [h2 _ _ (by omega)]; exact p1, by rw [h2 _ _ (by omega), p154]; omega, by rw [h2 _ _ (by omega), p155]; omega, fun x d x1 x2 hd => by rw [h2 _ _ (by omega)]; exact ph x d hd⟩
  have mono : ∀ {N : F2}, okM sp nw (M 146 12) B N → okM sp nw (M 146 12 + 1) B N := fun h => h.mono (by omega) (by omega)
  unfold opM
  rcases (show kind = 0 ∨ kind = 1 ∨ (2 ≤ kind ∧ kind ≤ 6) by omega) with rfl | rfl | hk2
  · rw [if_pos rfl]
    have h50 : M 146 3 < 50 := by
      unfold can at hcan
      rw [if_pos rfl] at hcan
      unfold epOK at hcan
      rw [Bool.and_eq_true, decide_eq_true_eq] at hcan
      exact hcan.1
    exact gen _ (mono (okp.ep (by rw [p3]; exact h50))) (fun c j h => up_o _ (by omega))
  · rw [if_neg (by omega), if_pos rfl]
    obtain ⟨-, c0, -, -, -, ch, -, -⟩ := cr_e (c := c) okp
    refine gen _ (mono (okp.cr hc)) (fun x j h => ?_)
    rcases h with ⟨rfl, h⟩ | h
    · exact c0 j (by omega) (by omega) (by omega) (by omega)
    · exact ch x j (by omega) (by omega)
  · obtain ⟨hw1, hw2⟩ := can_w hcan (by omega) (by omega)
    obtain ⟨w, rfl⟩ : ∃ w, wv = w + 1 := ⟨wv - 1, by omega⟩
    have w4 : w < 4 := by omega
    have wn : w < nw := by omega
    rw [if_neg (show ¬ kind = 0 by omega), if_neg (show ¬ kind = 1 by omega), Nat.add_sub_cancel]
    have gpt : ∀ L : F2, ∀ c j, (c = 146 ∧ (j = 0 ∨ j = 1 ∨ j = 12)) ∨ (154 ≤ c ∧ c ≤ 157) → pt (prM M) (Wc w) L c j = prM M c j := fun L c j h => by rw [pt_o (by unfold Wc; omega)]
    rcases (show kind = 2 ∨ kind = 3 ∨ kind = 4 ∨ kind = 5 ∨ kind = 6 by omega) with rfl | rfl | rfl | rfl | rfl
    · obtain ⟨x1, x2⟩ := can_2 hcan
      rw [if_pos rfl]
      exact gen _ (mono (okp.sp gB w4 (by rw [pW]; exact x1) (by rw [pW]; exact x2))) (gpt _)
    · obtain ⟨x1, x2⟩ := can_3 hcan
      rw [if_neg (by omega), if_pos rfl]
      unfold cmM
      have s10 := stl_le (gG (prM M)) (gW (prM M) (Wc w))
      have q10 := pha_le (gG (prM M)) (gW (prM M) (Wc w))
      generalize stl (gG (prM M)) (gW (prM M) (Wc w)) = x at *
      generalize pha (gG (prM M)) (gW (prM M) (Wc w)) = y at *
      have rfc : ∀ how what by_, how ≤ 3 → what + 1 ≤ 10 → okM sp nw (M 146 12 + 1) B (rtM w (rfM w how what by_ (prM M))) ∧ (rtM w (rfM w how what by_ (prM M))) 146 12 = M 146 12 ∧ (rtM w (rfM w how what by_ (prM M))) 146 0 = M 146 0 ∧ (rtM w (rfM w how what by_ (prM M))) 146 1 = M 146 1 ∧ (rtM w (rfM w how what by_ (prM M))) 154 (M 146 12) ≤ 3 ∧ (rtM w (rfM w how what by_ (prM M))) 155 (M 146 12) ≤ 10 ∧ ∀ x d, 154 ≤ x → x ≤ 157 → d < M 146 12 → (rtM w (rfM w how what by_ (prM M))) x d = M x d := fun how what by_ h1 h2 => by
        have e : ∀ c j, ¬ (c = 146 ∧ j = 17) → ¬ (154 ≤ c ∧ c ≤ 156 ∧ j = M 146 12) → ¬ (158 ≤ c ∧ c < 174) → rtM w (rfM w how what by_ (prM M)) c j = prM M c j := fun c j z1 z2 z3 => by
          rw [rtM_o z3 w4]; unfold rfM; rw [p12, up_o _ z1, up_o _ (by omega), up_o _ (by omega), up_o _ (by omega)]
        refine ⟨mono (okp.rf.rt w4), by rw [e _ _ (by omega) (by omega) (by omega)]; exact p12, by rw [e _ _ (by omega) (by omega) (by omega)]; exact p0, by rw [e _ _ (by omega) (by omega) (by omega)]; exact p1, ?_, ?_, fun x d _ _ hd => by rw [e _ _ (by omega) (by omega) (by omega)]; exact ph x d hd⟩
        · rw [rtM_o (by omega) w4]; unfold rfM; rw [p12, up_o _ (by omega), up_o _ (by omega), up_o _ (by omega), up_e]; exact h1
        · rw [rtM_o (by omega) w4]; unfold rfM; rw [p12, up_o _ (by omega), up_o _ (by omega), up_e]; exact h2
      by_cases z1 : x = 0
      · rw [if_pos z1]
        by_cases z2 : y = 0
        · rw [if_pos z2]
          obtain ⟨m1, m2, m3, m4, m5, m6⟩ := okp.mk w4 (by rw [pW]; exact x1) (by omega)
          rw [p12] at m2 m5 m6
          refine ⟨m1, m2, by rw [m3]; exact p0, by rw [m4]; exact p1, by rw [m5]; omega, by rw [m6, p155]; omega, fun x d x1 x2 hd => ?_⟩
          rw [rtM_o (by omega) w4]
          unfold mkM lnM
          try dsimp only
          rw [up_o _ (by omega), upr_o _ (by omega), up_o _ (by omega), up_o _ (by omega), up_o _ (by omega), up_o _ (by omega), up_o _ (by omega), up_o _ (by omega), up_o _ (by omega), up_o _ (by omega), up_o _ (by omega), up_o _ (by omega), brI_o (by omega)]
          show mkA _ _ _ x d = _
          unfold mkA
          rw [p12, up_o _ (by unfold Wc; omega), up_o _ (by omega), up_o _ (by omega)]
          exact ph x d hd
        · rw [if_neg z2]; exact rfc 3 _ _ (by omega) (by omega)
      · rw [if_neg z1]; exact rfc 2 _ _ (by omega) (by omega)
    · rw [if_neg (by omega), if_neg (by omega), if_pos rfl]
      refine gen _ (mono ((okp.u (by omega)).rt w4)) (fun c j h => ?_)
      unfold quM; rw [rtM_o (by omega) w4, up_o _ (by omega)]
    · rw [if_neg (by omega), if_neg (by omega), if_neg (by omega), if_pos rfl]
      refine gen _ (mono (okp.fl wn)) (fun c j h => ?_)
      unfold flM; rw [up_o _ (by unfold Wc; omega), itF_o (by omega)]
    · obtain ⟨x1, x2, x3⟩ := can_6 hcan
      rw [if_neg (by omega), if_neg (by omega), if_neg (by omega), if_neg (by omega)]
      exact gen _ (okp.bg wn (by omega) (by omega)) (gpt _)
theorem do_ok {sp nw kind wv tv : Nat} {c : Nat → Nat} {B M : F2} (ok : okM sp nw (M 146 12) B M) (gB : okB B) (hc : ∀ k, c k ≤ 100) (hk : kind < 7) (hd : M 146 12 < 60) (hw : wv ≤ 4) (hcan : can B kind wv tv M = true) :
    okM sp nw (doM sp B c kind wv tv M 146 12) B (doM sp B c kind wv tv M) ∧ doM sp B c kind wv tv M 146 12 = M 146 12 + 1 ∧ doM sp B c kind wv tv M 146 0 = M 146 0 ∧ doM sp B c kind wv tv M 146 1 = M 146 1 ∧ ∀ x d, 154 ≤ x → x ≤ 157 → d < M 146 12 → doM sp B c kind wv tv M x d = M x d := by
  obtain ⟨h1, h2, h3, h4, h5, h6, h7⟩ := op_ok ok gB hc hk hd hw hcan
  have e12 : doM sp B c kind wv tv M 146 12 = M 146 12 + 1 := by unfold doM nxM; rw [up_e, h2]
  rw [e12]
  unfold doM
  refine ⟨h1.nx (by rw [h2]; exact h5) (by rw [h2]; exact h6), rfl, ?_, ?_, fun x d x1 x2 hd => ?_⟩
  · unfold nxM; rw [up_o _ (by omega)]; exact h3
  · unfold nxM; rw [up_o _ (by omega)]; exact h4
  · unfold nxM; rw [up_o _ (by omega)]; exact h7 x d x1 x2 hd
