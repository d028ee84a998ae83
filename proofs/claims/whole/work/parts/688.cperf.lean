theorem prM_o {M : F2} {c j : Nat} (h : ¬ (154 ≤ c ∧ c ≤ 157 ∧ j = M 146 12)) : prM M c j = M c j := by
  unfold prM; rw [up_o _ (by omega), up_o _ (by omega), up_o _ (by omega), up_o _ (by omega)]
theorem okM.pr {sp nw D : Nat} {B M : F2} (ok : okM sp nw D B M) : okM sp nw D B (prM M) :=
  ok.cg (prM_o (by omega)) (prM_o (by omega)) (prM_o (by omega)) (prM_o (by omega)) (fun c k _ _ _ => prM_o (by omega)) (fun c k _ _ => prM_o (by omega)) (fun c d _ _ => prM_o (by omega))
theorem KO.fin {m : Option Mem} {a : Mem} {M : F2} (h : KO m a M) : ∃ a', (m.bind fun q => some (true, st2 q 146 12 (q 146 12 + 1))) = some (true, a') ∧ CM a' (nxM M) ∧ frK a a' := by
  obtain ⟨a1, rfl, h1, h2⟩ := h
  rw [bq, h1.e3, nI_1]
  exact ⟨_, rfl, h1.stn (by unfold vc; omega), h2.tr (frK.st (by omega))⟩
theorem KO.id {m : Option Mem} {a : Mem} {M : F2} (h : KO m a M) : KO (m.bind fun q => some q) a M := KO.bind h (fun _ h1 _ => KO.rf h1)
theorem k_no {a : Mem} {sp nw D kind wv tv s wk n : Nat} {c : Nat → Nat} {B M : F2} (hX : CX a M s sp wk c n B) (ok : okM sp nw D B M) (hk : kind < 7) (hd : M 146 12 < 60) (hw : wv ≤ 4) (ht : tv ≤ 7) (hc : can B kind wv tv M = false) : fX3_perform (nI kind) (vI wv) (vI tv) a = some (false, a) := by
  unfold fX3_perform
  rw [c_can hX ok hk hd hw ht, bq, hc]
  rfl
theorem can_w {B M : F2} {kind wv tv : Nat} (hc : can B kind wv tv M = true) (h0 : kind ≠ 0) (h1 : kind ≠ 1) : 1 ≤ wv ∧ wv ≤ M 146 2 := by
  unfold can at hc
  rw [if_neg h0, if_neg h1] at hc
  by_cases z : wv = 0 ∨ M 146 2 < wv
  · rw [if_pos z] at hc; exact absurd hc (by decide)
  · omega
theorem can_2 {B M : F2} {w tv : Nat} (hc : can B 2 (w + 1) tv M = true) : M (Wc w) 0 ≠ 0 ∧ M (Wc w) 2 < B 1 (M (Wc w) 0 - 1) := by
  have hw := can_w hc (by omega) (by omega)
  unfold can at hc
  rw [if_neg (by omega), if_neg (by omega), if_neg (by omega), if_pos rfl, Nat.add_sub_cancel, Bool.and_eq_true, decide_eq_true_eq, decide_eq_true_eq] at hc
  exact hc
theorem can_3 {B M : F2} {w tv : Nat} (hc : can B 3 (w + 1) tv M = true) : M (Wc w) 0 ≠ 0 ∧ B 1 (M (Wc w) 0 - 1) ≤ M (Wc w) 2 := by
  have hw := can_w hc (by omega) (by omega)
  unfold can at hc
  rw [if_neg (by omega), if_neg (by omega), if_neg (by omega), if_neg (by omega), if_pos rfl, Nat.add_sub_cancel, Bool.and_eq_true, decide_eq_true_eq, decide_eq_true_eq] at hc
  exact hc
theorem can_4 {B M : F2} {w tv : Nat} (hc : can B 4 (w + 1) tv M = true) : M (Wc w) 0 ≠ 0 := by
  have hw := can_w hc (by omega) (by omega)
  unfold can at hc
  rw [if_neg (by omega), if_neg (by omega), if_neg (by omega), if_neg (by omega), if_neg (by omega), if_pos rfl, Nat.add_sub_cancel, decide_eq_true_eq] at hc
  exact hc
theorem can_6 {B M : F2} {w tv : Nat} (hc : can B 6 (w + 1) tv M = true) : M (Wc w) 0 = 0 ∧ tv ≠ 0 ∧ tv ≤ B 0 0 := by
  have hw := can_w hc (by omega) (by omega)
  unfold can at hc
  rw [if_neg (by omega), if_neg (by omega), if_neg (by omega), if_neg (by omega), if_neg (by omega), if_neg (by omega), if_neg (by omega), Nat.add_sub_cancel, Bool.and_eq_true, Bool.and_eq_true, decide_eq_true_eq, decide_eq_true_eq, decide_eq_true_eq] at hc
  exact hc
theorem k_do {a : Mem} {sp nw kind wv tv s wk n : Nat} {c : Nat → Nat} {B M : F2} (hX : CX a M s sp wk c n B) (ok : okM sp nw (M 146 12) B M) (hk : kind < 7) (hd : M 146 12 < 60) (hw : wv ≤ 4) (ht : tv ≤ 7) (hc : can B kind wv tv M = true) : ∃ a', fX3_perform (nI kind) (vI wv) (vI tv) a = some (true, a') ∧ CM a' (doM sp B c kind wv tv M) ∧ frK a a' := by
  have hcan := c_can hX ok hk hd hw ht
  have l29 : M 146 11 < 30 := by have := ok.2.2.1.1; omega
  have h := hX.1
  have e12 : a 146 12 = nI (M 146 12) := h.e3
  have okp := ok.pr
  unfold fX3_perform
  rw [hcan, bq, hc]
  dsimp only
  rw [if_pos rfl, e12, inb_T hd (by omega), gdT, nI_ck (by omega)]
  rw [show (st2 a 154 (M 146 12) 0) 146 12 = nI (M 146 12) by rw [st2_o _ _ (by omega)]; exact e12, inb_T hd (by omega), gdT, nI_ck (by omega), bq]
  have z12 : (st2 (st2 a 154 (M 146 12) 0) 155 (M 146 12) (-1)) 146 12 = nI (M 146 12) := by rw [st2_o _ _ (by omega), st2_o _ _ (by omega)]; exact e12
  have y12 : (st2 (st2 (st2 a 154 (M 146 12) 0) 155 (M 146 12) (-1)) 156 (M 146 12) (-1)) 146 12 = nI (M 146 12) := by rw [st2_o _ _ (by omega)]; exact z12
  rw [z12, nI_ck (by omega), y12, nI_ck (by omega), inb_T hd (by omega), gdT, gdT]
  have cp : CM (st2 (st2 (st2 (st2 a 154 (M 146 12) 0) 155 (M 146 12) (-1)) 156 (M 146 12) (-1)) 157 (M 146 12) (-1)) (prM M) := (((h.stn (x := 0) (by unfold vc; omega)).stv (x := 0) (by unfold vc; omega)).stv (x := 0) (by unfold vc; omega)).stv (x := 0) (by unfold vc; omega)
  have fp : frK a (st2 (st2 (st2 (st2 a 154 (M 146 12) 0) 155 (M 146 12) (-1)) 156 (M 146 12) (-1)) 157 (M 146 12) (-1)) := (((frK.st (by omega)).tr (frK.st (by omega))).tr (frK.st (by omega))).tr (frK.st (by omega))
  generalize st2 (st2 (st2 (st2 a 154 (M 146 12) 0) 155 (M 146 12) (-1)) 156 (M 146 12) (-1)) 157 (M 146 12) (-1) = p at *
  have hXp : CX p (prM M) s sp wk c n B := hX.go cp fp (prM_o (by omega)) (prM_o (by omega))
  have p12 : prM M 146 12 = M 146 12 := prM_o (by omega)
  have p11 : prM M 146 11 = M 146 11 := prM_o (by omega)
  have p3 : prM M 146 3 = M 146 3 := prM_o (by omega)
  have pW : ∀ w, prM M (Wc w) = M (Wc w) := fun w => by funext j; exact prM_o (by unfold Wc; omega)
  have fin : ∀ {m : Option Mem}, KO m p (opM sp B c kind wv tv (prM M)) → ∃ a', (m.bind fun q => some (true, st2 q 146 12 (q 146 12 + 1))) = some (true, a') ∧ CM a' (doM sp B c kind wv tv M) ∧ frK a a' := fun {m} hm => by
    obtain ⟨a', x1, x2, x3⟩ := hm.fin
    exact ⟨a', x1, x2, fp.tr x3⟩
  have nw4 := ok.1.2.1
  have nwe := ok.1.2.2
  rcases (show kind = 0 ∨ kind = 1 ∨ (2 ≤ kind ∧ kind ≤ 6) by omega) with rfl | rfl | hk2
  · rw [if_pos n00]
    refine fin ?_
    rw [cp.e3, nI_1, bq]
    exact ⟨_, rfl, cp.stn (by unfold vc; omega), frK.st (by omega)⟩
  · rw [if_neg (by decide), if_pos n11]
    exact fin (k_crash hXp okp).id
  · obtain ⟨hw1, hw2⟩ := can_w hc (by omega) (by omega)
    obtain ⟨w, rfl⟩ : ∃ w, wv = w + 1 := ⟨wv - 1, by omega⟩
    have w4 : w < 4 := by omega
    rw [vI_s, nI_ck (show w < 2147483648 by omega), inb_T w4 (by omega)]
    simp only [gdT]
    rcases (show kind = 2 ∨ kind = 3 ∨ kind = 4 ∨ kind = 5 ∨ kind = 6 by omega) with rfl | rfl | rfl | rfl | rfl
    · obtain ⟨x1, x2⟩ := can_2 hc
      rw [if_neg (by decide), if_neg (by decide), if_pos n22]
      exact fin (k_step hXp okp w4 (by rw [pW]; exact x1) (by rw [pW]; exact x2)).id
    · obtain ⟨x1, x2⟩ := can_3 hc
      rw [if_neg (by decide), if_neg (by decide), if_neg (by decide), if_pos n33]
      exact fin (k_commit hXp okp w4 (by rw [p12]; exact hd) (by rw [p11]; exact l29) (by rw [pW]; exact x1)).id
    · rw [if_neg (by decide), if_neg (by decide), if_neg (by decide), if_neg (by decide), if_pos n44, bq]
      exact fin (k_quit cp w4).id
    · rw [if_neg (by decide), if_neg (by decide), if_neg (by decide), if_neg (by decide), if_neg (by decide), if_pos n55]
      exact fin (k_flush cp w4 (by omega) (by have := ok.2.1; omega) (fun i hi => by have := okp.2.2.2.2.2.1 i hi; have := this.1; omega)).id
    · obtain ⟨x1, x2, x3⟩ := can_6 hc
      rw [if_neg (by decide), if_neg (by decide), if_neg (by decide), if_neg (by decide), if_neg (by decide), if_neg (by decide), vI_p (show 0 < tv by omega)]
      exact fin (k_begin cp w4).id
