/-! ===== text: a line judged, in the class ===== -/
theorem sa_234 : ∀ w, w < 19 → saV 2 w = nI (loW w) ∧ saV 3 w = nI (hiW w) ∧ saV 4 w = nI (h2W w) ∧ loW w ≤ 99 ∧ hiW w ≤ 99 ∧ h2W w ≤ 99 := by decide +kernel
theorem af_n {c : Bool} {k x : Nat} {f : Nat × Nat} (h : f.1 ≠ 0) : af c k x f = f := by unfold af; rw [if_neg (fun q => h q.2)]
theorem af_t {k x : Nat} {f : Nat × Nat} (h : f.1 = 0) : af true k x f = (k, x) := by unfold af; rw [if_pos ⟨rfl, h⟩]
def FC (a a' : Mem) (f : Nat × Nat) : Prop := a' 143 13 = nI f.1 ∧ (f.1 = 0 → a' 143 14 = a 143 14) ∧ (f.1 ≠ 0 → a' 143 14 = nI f.2)
theorem lf_tm {T : Nat → Nat} {n i w : Nat} : lft T n i w true (0, 0) = (3, pj T n i 0) := by
  have e : lf1 T n i w true (0, 0) = (3, pj T n i 0) := by
    unfold lf1
    rw [af_t rfl]
    by_cases z : 1 ≤ nwd w
    · rw [if_pos z, af_n (by show 3 ≠ 0; omega)]
    · rw [if_neg z]
  unfold lft
  rw [e]
  by_cases z : 2 ≤ nwd w
  · rw [if_pos z, af_n (by show 3 ≠ 0; omega)]
  · rw [if_neg z]
theorem lf_1 {T : Nat → Nat} {n i w : Nat} (z : 1 ≤ nwd w) (h : inR (tN T n (pj T n i 1)) (loW w) (hiW w) = false) : lft T n i w false (0, 0) = (2, pj T n i 1) := by
  have e : lf1 T n i w false (0, 0) = (2, pj T n i 1) := by
    unfold lf1
    rw [if_pos z, h, af_f]
    exact af_t rfl
  unfold lft
  rw [e]
  by_cases z : 2 ≤ nwd w
  · rw [if_pos z, af_n (by show 2 ≠ 0; omega)]
  · rw [if_neg z]
theorem lf_10 {T : Nat → Nat} {n i w : Nat} (h : 1 ≤ nwd w → inR (tN T n (pj T n i 1)) (loW w) (hiW w) = true) : lf1 T n i w false (0, 0) = (0, 0) := by
  unfold lf1
  by_cases z : 1 ≤ nwd w
  · rw [if_pos z, h z, af_f]; exact af_f
  · rw [if_neg z]; exact af_f
theorem lf_2 {T : Nat → Nat} {n i w : Nat} (h : 1 ≤ nwd w → inR (tN T n (pj T n i 1)) (loW w) (hiW w) = true) (z : 2 ≤ nwd w) (h2 : inR (tN T n (pj T n i 2)) (if w = 8 then tN T n (pj T n i 1) else 0) (h2W w) = false) : lft T n i w false (0, 0) = (2, pj T n i 2) := by
  unfold lft
  rw [if_pos z, lf_10 h, h2]
  exact af_t rfl
theorem lf_0 {T : Nat → Nat} {n i w : Nat} (h : nof T n i w) : lft T n i w false (0, 0) = (0, 0) := by
  unfold lft
  rw [lf_10 h.1]
  by_cases z : 2 ≤ nwd w
  · rw [if_pos z, h.2 z]; exact af_f
  · rw [if_neg z]
def jlB (c : Mem) : Option Mem := gd (inb (c 143 7) 19) (if (saV 1 (Int32.toNatClampNeg (c 143 7))) ≤ 0 then (jX5_judgeLine_79 c) else (gd (inb (c 143 7) 19) (if (c 144 0) < (saV 2 (Int32.toNatClampNeg (c 143 7))) then ((fX5_blame 2 (c 145 0) c).bind fun q26 => some q26) else (gd (inb (c 143 7) 19) (if (c 144 0) ≤ (saV 3 (Int32.toNatClampNeg (c 143 7))) then (jX5_judgeLine_79 c) else ((fX5_blame 2 (c 145 0) c).bind fun q32 => some q32))))))
set_option maxHeartbeats 1000000 in
theorem c_jl {a : Mem} {T : Nat → Nat} {n i s w tt ll : Nat} (hs : s < 4) (hw : w < 19) (hall : ∀ j, 1 ≤ j → j ≤ nwd w → tK T n (pj T n i j) = 3) (h7 : a 143 7 = nI w) (h8 : a 143 8 = nI (pj T n i 0)) (v1 : a 144 0 = ov T n i w 1) (v2 : a 144 1 = ov T n i w 2) (q1 : 1 ≤ nwd w → a 145 0 = nI (pj T n i 1)) (q2 : 2 ≤ nwd w → a 145 1 = nI (pj T n i 2)) (h11 : a 143 11 = nI tt) (h12 : a 143 12 = nI ll) (ht : tt < 1000) (hl : ll < 1000) (h13 : a 143 13 = 0) :
    ∃ a', fX5_judgeLine (nI s) a = some a' ∧ FC a a' (lft T n i w (tmC s w tt ll) (0, 0)) ∧ a' 143 11 = nI (ttC s w tt) ∧ a' 143 12 = nI (llC s w ll) ∧ (∀ j, ¬ (11 ≤ j ∧ j ≤ 14) → a' 143 j = a 143 j) ∧ ∀ m, m ≠ 143 → a' m = a m := by
  obtain ⟨c, c1, c2, c3, c4, c5⟩ := c_much hs hw h7 h11 h12 ht hl
  have hN := nwd_ok w hw
  obtain ⟨s2, s3, s4, b1, b2', b3⟩ := sa_234 w hw
  have c7 : c 143 7 = nI w := by rw [c4 7 (by omega) (by omega)]; exact h7
  have c144 : c 144 = a 144 := c5 144 (by omega)
  have c145 : c 145 = a 145 := c5 145 (by omega)
  have bl_ : ∀ (k p : Nat), k ≠ 0 → ∃ a', (fX5_blame (nI k) (nI p) c).bind (fun q => some q) = some a' ∧ FC a a' (k, p) ∧ a' 143 11 = nI (ttC s w tt) ∧ a' 143 12 = nI (llC s w ll) ∧ (∀ j, ¬ (11 ≤ j ∧ j ≤ 14) → a' 143 j = a 143 j) ∧ ∀ m, m ≠ 143 → a' m = a m := fun k p hk => by
    unfold fX5_blame
    rw [bq]
    exact ⟨_, rfl, ⟨by rw [st2_o _ _ (by omega), st2_eq], fun q => absurd q hk, fun _ => st2_eq _ _ _ _⟩, by rw [st2_o _ _ (by omega), st2_o _ _ (by omega)]; exact c2, by rw [st2_o _ _ (by omega), st2_o _ _ (by omega)]; exact c3, fun j hj => by rw [st2_o _ _ (by omega), st2_o _ _ (by omega)]; exact c4 j (by omega) (by omega), fun m hm => by rw [st2_c _ _ hm, st2_c _ _ hm]; exact c5 m hm⟩
  have keep : ∃ a', some c = some a' ∧ FC a a' (0, 0) ∧ a' 143 11 = nI (ttC s w tt) ∧ a' 143 12 = nI (llC s w ll) ∧ (∀ j, ¬ (11 ≤ j ∧ j ≤ 14) → a' 143 j = a 143 j) ∧ ∀ m, m ≠ 143 → a' m = a m := ⟨c, rfl, ⟨by rw [c4 13 (by omega) (by omega)]; exact h13, fun _ => c4 14 (by omega) (by omega), fun q => absurd rfl q⟩, c2, c3, fun j hj => c4 j (by omega) (by omega), c5⟩
  have hcode : fX5_judgeLine (nI s) a = if tmC s w tt ll = true then ((fX5_blame 3 (c 143 8) c).bind fun q34 => some q34) else jlB c := by
    unfold fX5_judgeLine
    rw [c1, bq]
    rfl
  rw [hcode]
  by_cases z : tmC s w tt ll = true
  · rw [if_pos z, z, lf_tm, c4 8 (by omega) (by omega), h8]
    exact bl_ 3 _ (by omega)
  · rw [if_neg z, show tmC s w tt ll = false from Bool.eq_false_iff.mpr z]
    unfold jlB
    rw [c7, inb_T hw (by omega), gdT, gdT, gdT, nI_ck (by omega), hN.1, s2, s3]
    -- the second number
    have h79 : (1 ≤ nwd w → inR (tN T n (pj T n i 1)) (loW w) (hiW w) = true) → ∃ a', jX5_judgeLine_79 c = some a' ∧ FC a a' (lft T n i w false (0, 0)) ∧ a' 143 11 = nI (ttC s w tt) ∧ a' 143 12 = nI (llC s w ll) ∧ (∀ j, ¬ (11 ≤ j ∧ j ≤ 14) → a' 143 j = a 143 j) ∧ ∀ m, m ≠ 143 → a' m = a m := fun hin => by
      unfold jX5_judgeLine_79 fX5_isScanBackwards
      rw [c7, inb_T hw (by omega), gdT, gdT, nI_ck (by omega), hN.1, s4, c144, c145]
      by_cases z2 : 2 ≤ nwd w
      · have t1 := tN_b (hall 1 (by omega) (by omega))
        have t2 := tN_b (hall 2 (by omega) (by omega))
        have e1 : a 144 0 = nI (tN T n (pj T n i 1)) := by rw [v1]; exact if_pos (by omega)
        have e2 : a 144 1 = nI (tN T n (pj T n i 2)) := by rw [v2]; exact if_pos z2
        rw [if_neg (show ¬ nI (nwd w) ≤ 1 from fun q => absurd ((le_nn (b := 1) (by omega) (by omega)).mp q) (by omega)), e1, e2, q2 z2]
        by_cases z3 : h2W w < tN T n (pj T n i 2)
        · rw [if_pos (by rw [lt_nn (by omega) (by omega)]; exact z3), lf_2 hin z2 (decide_eq_false (by omega))]
          exact bl_ 2 _ (by omega)
        · rw [if_neg (by rw [lt_nn (by omega) (by omega)]; exact z3)]
          by_cases z8 : w = 8
          · rw [if_pos (by rw [z8]; rfl)]
            by_cases z4 : tN T n (pj T n i 1) ≤ tN T n (pj T n i 2)
            · rw [if_pos (by rw [le_nn (by omega) (by omega)]; exact z4), bq]
              dsimp only
              rw [if_neg (by decide), lf_0 ⟨hin, fun _ => decide_eq_true (by rw [if_pos z8]; omega)⟩]
              exact keep
            · rw [if_neg (by rw [le_nn (by omega) (by omega)]; exact z4), bq]
              dsimp only
              rw [if_pos (show true = true from rfl), lf_2 hin z2 (decide_eq_false (by rw [if_pos z8]; omega)), c145, q2 z2]
              exact bl_ 2 _ (by omega)
          · rw [if_neg (show ¬ nI w = 8 from lit_ne (m := 8) z8 (by omega) (by omega)), bq]
            dsimp only
            rw [if_neg (by decide), lf_0 ⟨hin, fun _ => decide_eq_true (by rw [if_neg z8]; omega)⟩]
            exact keep
      · rw [if_pos (show nI (nwd w) ≤ 1 from (le_nn (b := 1) (by omega) (by omega)).mpr (by omega)), lf_0 ⟨hin, fun q => absurd q z2⟩]
        exact keep
    by_cases z1 : 1 ≤ nwd w
    · have t1 := tN_b (hall 1 (by omega) (by omega))
      have e1 : a 144 0 = nI (tN T n (pj T n i 1)) := by rw [v1]; exact if_pos z1
      rw [if_neg (show ¬ nI (nwd w) ≤ 0 from fun q => absurd ((le_nn (b := 0) (by omega) (by omega)).mp q) (by omega)), c144, c145, e1, q1 z1]
      by_cases z3 : tN T n (pj T n i 1) < loW w
      · rw [if_pos (by rw [lt_nn (by omega) (by omega)]; exact z3), lf_1 z1 (decide_eq_false (by omega))]
        exact bl_ 2 _ (by omega)
      · rw [if_neg (by rw [lt_nn (by omega) (by omega)]; exact z3)]
        by_cases z4 : tN T n (pj T n i 1) ≤ hiW w
        · rw [if_pos (by rw [le_nn (by omega) (by omega)]; exact z4)]
          exact h79 (fun _ => decide_eq_true (by omega))
        · rw [if_neg (by rw [le_nn (by omega) (by omega)]; exact z4), lf_1 z1 (decide_eq_false (by omega))]
          exact bl_ 2 _ (by omega)
    · rw [if_pos (show nI (nwd w) ≤ 0 from (le_nn (b := 0) (by omega) (by omega)).mpr (by omega))]
      exact h79 (fun q => absurd q z1)
