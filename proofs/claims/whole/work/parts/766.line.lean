/-! ===== text: a line, in the class ===== -/
/-- the places of the tokens from i on -/
def pj (T : Nat → Nat) (n i : Nat) : Nat → Nat
  | 0 => tP T n i
  | j + 1 => tP T n (tE T n (pj T n i j))
theorem pj_le {T : Nat → Nat} {n i : Nat} (hi : i ≤ n) : ∀ j, pj T n i j ≤ n
  | 0 => (tP_le hi).2
  | j + 1 => (tP_le (tE_le (pj_le hi j)).2.1).2
theorem pj_lt {T : Nat → Nat} {n i : Nat} (hi : i ≤ n) {j : Nat} (h : tK T n (pj T n i j) ≠ 0) : pj T n i j < tE T n (pj T n i j) ∧ tE T n (pj T n i j) ≤ pj T n i (j + 1) := by
  have h1 := pj_le (T := T) hi j
  have h2 := tE_le (T := T) h1
  have h3 : pj T n i j < n := by
    by_cases z : pj T n i j < n
    · exact z
    · exact absurd (show tK T n (pj T n i j) = 0 by unfold tK; rw [if_pos (by omega)]) h
  exact ⟨h2.2.2 h3, (tP_le h2.2.1).1⟩
def nwd (w : Nat) : Nat := (saV 1 w).toNatClampNeg
theorem nwd_ok : ∀ w, w < 19 → saV 1 w = nI (nwd w) ∧ nwd w ≤ 2 := by decide +kernel
/-- a line's word: 0 is none -/
def wrd (T : Nat → Nat) (n s i : Nat) : Nat := if tK T n (pj T n i 0) = 2 then wdS T s (pj T n i 0) (tE T n (pj T n i 0)) else 0
def brk (T : Nat → Nat) (n s i pl : Nat) : Prop := (tK T n (pj T n i 0) ≠ 0 ∧ wrd T n s i = 0 ∧ pl = pj T n i 0) ∨ ∃ w, wrd T n s i = w + 1 ∧ ((1 ≤ nwd w ∧ tK T n (pj T n i 1) ≠ 3 ∧ pl = pj T n i 1) ∨ (nwd w = 2 ∧ tK T n (pj T n i 1) = 3 ∧ tK T n (pj T n i 2) ≠ 3 ∧ pl = pj T n i 2) ∨ ((∀ j, 1 ≤ j → j ≤ nwd w → tK T n (pj T n i j) = 3) ∧ tK T n (pj T n i (nwd w + 1)) ≠ 4 ∧ pl = pj T n i (nwd w + 1)))
def good (T : Nat → Nat) (n s i w : Nat) : Prop := wrd T n s i = w + 1 ∧ (∀ j, 1 ≤ j → j ≤ nwd w → tK T n (pj T n i j) = 3) ∧ tK T n (pj T n i (nwd w + 1)) = 4
theorem wrd_lt {T : Nat → Nat} {n s i w : Nat} (hs : s < 4) (h : wrd T n s i = w + 1) : tK T n (pj T n i 0) = 2 ∧ fs s ≤ w ∧ w < fs (s + 1) ∧ w < 19 ∧ spl T (pj T n i 0) (tE T n (pj T n i 0)) w = true := by
  unfold wrd at h
  by_cases z : tK T n (pj T n i 0) = 2
  · rw [if_pos z] at h
    obtain ⟨h1, h2, h3⟩ := fnw_pos _ _ _ h
    have := fs_b s hs
    exact ⟨z, h2, by omega, by omega, h1⟩
  · rw [if_neg z] at h; exact absurd h (by omega)
theorem line3 {T : Nat → Nat} {n s i : Nat} (hs : s < 4) : tK T n (pj T n i 0) = 0 ∨ (∃ pl, brk T n s i pl) ∨ ∃ w, good T n s i w := by
  by_cases z0 : tK T n (pj T n i 0) = 0
  · exact Or.inl z0
  · right
    cases hw : wrd T n s i with
    | zero => exact Or.inl ⟨_, Or.inl ⟨z0, hw, rfl⟩⟩
    | succ w =>
      have hN := (nwd_ok w (wrd_lt hs hw).2.2.2.1).2
      by_cases z1 : 1 ≤ nwd w ∧ tK T n (pj T n i 1) ≠ 3
      · exact Or.inl ⟨_, Or.inr ⟨w, hw, Or.inl ⟨z1.1, z1.2, rfl⟩⟩⟩
      · by_cases z2 : nwd w = 2 ∧ tK T n (pj T n i 2) ≠ 3
        · refine Or.inl ⟨_, Or.inr ⟨w, hw, Or.inr (Or.inl ⟨z2.1, ?_, z2.2, rfl⟩)⟩⟩
          exact Classical.not_not.mp (fun q => z1 ⟨by omega, q⟩)
        · have hall : ∀ j, 1 ≤ j → j ≤ nwd w → tK T n (pj T n i j) = 3 := fun j h1 h2 => by
            rcases (show j = 1 ∨ j = 2 by omega) with rfl | rfl
            · exact Classical.not_not.mp (fun q => z1 ⟨by omega, q⟩)
            · exact Classical.not_not.mp (fun q => z2 ⟨by omega, q⟩)
          by_cases z3 : tK T n (pj T n i (nwd w + 1)) = 4
          · exact Or.inr ⟨w, hw, hall, z3⟩
          · exact Or.inl ⟨_, Or.inr ⟨w, hw, Or.inr (Or.inr ⟨hall, z3, rfl⟩)⟩⟩
theorem cK_ne {k m : Nat} (hk : k < 5) (h : k ≠ 0) : ¬ nI (cK k) = 0 := by
  rcases (show k = 1 ∨ k = 2 ∨ k = 3 ∨ k = 4 by omega) with rfl | rfl | rfl | rfl <;> decide
theorem tK_lt {T : Nat → Nat} {n p : Nat} : tK T n p < 5 := by
  unfold tK
  split
  · omega
  · split
    · omega
    · split
      · split <;> omega
      · split <;> omega
theorem cK_1 : ∀ k, k < 5 → (nI (cK k) = 1 ↔ k = 2) := by decide
theorem cK_2 : ∀ k, k < 5 → (nI (cK k) = 2 ↔ k = 3) := by decide
theorem cK_3 : ∀ k, k < 5 → (nI (cK k) = 3 ↔ k = 4) := by decide
theorem cK_0 : ∀ k, k < 5 → (nI (cK k) = 0 ↔ k = 0) := by decide
/-- numbers of a line; what reading it leaves alone -/
def frLn (a a' : Mem) : Prop := (∀ j, 9 ≤ j → a' 143 j = a 143 j) ∧ ∀ m, m ≠ 143 → m ≠ 144 → m ≠ 145 → a' m = a m
theorem frLn.tr {a a' a'' : Mem} (h : frLn a a') (h2 : frLn a' a'') : frLn a a'' := ⟨fun j hj => (h2.1 j hj).trans (h.1 j hj), fun m h1 h3 h4 => (h2.2 m h1 h3 h4).trans (h.2 m h1 h3 h4)⟩
theorem frTk.L {a a' : Mem} (h : frTk a a') : frLn a a' := ⟨fun j hj => h.1 j (by omega), fun m h1 _ _ => h.2 m h1⟩
theorem CI.L {a a' : Mem} {T : Nat → Nat} {n i : Nat} (h : CI a T n i) (e : a' 2 = a 2) (e1 : a' 143 1 = a 143 1) (e2 : a' 143 2 = a 143 2) : CI a' T n i := ⟨h.1.c e, e1.trans h.2.1, e2.trans h.2.2⟩
theorem c_rl0 {a : Mem} {g w j : Nat} (hw : w < 19) (h7 : a 143 7 = nI w) (hj : nwd w ≤ j) (hj2 : j ≤ 2) : lX5_readLine_73 (g + 1) (nI j) a = some (.inr a) := by
  have := nwd_ok w hw
  rw [lX5_readLine_73, h7, inb_T hw (by omega), gdT, nI_ck (by omega), this.1, if_pos (by rw [le_nn (by omega) (by omega)]; exact hj)]
theorem c_rl1 {a : Mem} {T : Nat → Nat} {n i g w j : Nat} (oT : okT T) (hn : n ≤ 600) (hi : i ≤ n) (hC : CI a T n i) (hw : w < 19) (h7 : a 143 7 = nI w) (hj : j < nwd w) : ∃ a', CI a' T n (tE T n (tP T n i)) ∧ frLn a a' ∧ a' 143 4 = nI (tP T n i) ∧ (∀ k, 6 < k → a' 143 k = a 143 k) ∧
    ((tK T n (tP T n i) = 3 ∧ lX5_readLine_73 (g + 1) (nI j) a = lX5_readLine_73 g (nI (j + 1)) a' ∧ a' 144 j = nI (tN T n (tP T n i)) ∧ a' 145 j = nI (tP T n i) ∧ a' 143 6 = a 143 6 ∧ ∀ k, k ≠ j → a' 144 k = a 144 k ∧ a' 145 k = a 145 k) ∨
     (tK T n (tP T n i) ≠ 3 ∧ lX5_readLine_73 (g + 1) (nI j) a = some (.inl (false, a')) ∧ a' 143 6 = 1)) := by
  have hN := nwd_ok w hw
  obtain ⟨b, t1, t2, t3, t4, t5, t6⟩ := c_tok oT hn hi hC
  have hk := tK_lt (T := T) (n := n) (p := tP T n i)
  have e0 : lX5_readLine_73 (g + 1) (nI j) a = if (b 143 3) = 2 then (lX5_readLine_73 g (nI (j + 1)) (st2 (st2 b 144 j (b 143 5)) 145 j ((st2 b 144 j (b 143 5)) 143 4))) else (some (.inl (false, (st2 b 143 6 1)))) := by
    rw [lX5_readLine_73, h7, inb_T hw (by omega), gdT, nI_ck (by omega), hN.1, if_neg (by rw [le_nn (by omega) (by omega)]; omega), t1, bq, inb_T (show j < 2 by omega) (by omega), gdT, gdT, nI_ck (by omega), nI_1]
  by_cases z : tK T n (tP T n i) = 3
  · rw [if_pos (show b 143 3 = 2 by rw [t4]; exact (cK_2 _ hk).mpr z), st2_o _ _ (show ¬ (143 = 144 ∧ 4 = j) by omega), t3, t5 z] at e0
    refine ⟨_, t2.L (by rw [st2_c _ _ (by omega), st2_c _ _ (by omega)]) (by rw [st2_o _ _ (by omega), st2_o _ _ (by omega)]) (by rw [st2_o _ _ (by omega), st2_o _ _ (by omega)]), t6.L.tr ⟨fun k hk => by rw [st2_o _ _ (by omega), st2_o _ _ (by omega)], fun m m1 m2 m3 => by rw [st2_c _ _ m3, st2_c _ _ m2]⟩, by rw [st2_o _ _ (by omega), st2_o _ _ (by omega)]; exact t3, fun k hk => by rw [st2_o _ _ (by omega), st2_o _ _ (by omega)]; exact t6.1 k (by omega), Or.inl ⟨z, e0, by rw [st2_o _ _ (by omega), st2_eq], st2_eq _ _ _ _, by rw [st2_o _ _ (by omega), st2_o _ _ (by omega)]; exact t6.1 6 (by omega), fun k hk => ⟨by rw [st2_o _ _ (by omega), st2_o _ _ (by omega), t6.2 144 (by omega)], by rw [st2_o _ _ (by omega), st2_o _ _ (by omega), t6.2 145 (by omega)]⟩⟩⟩
  · rw [if_neg (show ¬ b 143 3 = 2 by rw [t4]; exact fun q => z ((cK_2 _ hk).mp q))] at e0
    exact ⟨_, t2.L (st2_c _ _ (by omega)) (st2_o _ _ (by omega)) (st2_o _ _ (by omega)), t6.L.tr ⟨fun k hk => st2_o _ _ (by omega), fun m m1 _ _ => st2_c _ _ m1⟩, by rw [st2_o _ _ (by omega)]; exact t3, fun k hk => by rw [st2_o _ _ (by omega)]; exact t6.1 k (by omega), Or.inr ⟨z, e0, st2_eq _ _ _ _⟩⟩
theorem c_end {a : Mem} {T : Nat → Nat} {n s i : Nat} (oT : okT T) (hn : n ≤ 600) (hi : i ≤ n) (hC : CI a T n i) (h : tK T n (pj T n i 0) = 0) : ∃ a', fX5_readLine (nI s) a = some (false, a') ∧ a' 143 6 = a 143 6 ∧ frLn a a' := by
  obtain ⟨b, t1, t2, t3, t4, t5, t6⟩ := c_tok oT hn hi hC
  have h' : tK T n (tP T n i) = 0 := h
  unfold fX5_readLine
  rw [t1, bq, if_pos (show b 143 3 = 0 by rw [t4, h']; rfl)]
  exact ⟨b, rfl, t6.1 6 (by omega), t6.L⟩
/-- the head of a line -/
theorem c_head {a : Mem} {T : Nat → Nat} {n s i : Nat} (oT : okT T) (hn : n ≤ 600) (hs : s < 4) (hi : i ≤ n) (hC : CI a T n i) (h0 : tK T n (pj T n i 0) ≠ 0) : ∃ b, CI b T n (tE T n (pj T n i 0)) ∧ b 143 4 = nI (pj T n i 0) ∧ b 143 6 = a 143 6 ∧ frLn a b ∧
    fX5_readLine (nI s) a = if ((st2 b 143 7 (vI (wrd T n s i))) 143 7) = (-1) then (some (false, (st2 (st2 b 143 7 (vI (wrd T n s i))) 143 6 1))) else ((lX5_readLine_73 FU 0 (st2 (st2 (st2 (st2 b 143 7 (vI (wrd T n s i))) 143 8 ((st2 b 143 7 (vI (wrd T n s i))) 143 4)) 144 0 (-1)) 144 1 (-1))).bind fun q26 => Sum.elim (fun q34 => some q34) (fun q26 => (fX5_readToken q26).bind fun q27 => (if (q27 143 3) = 3 then (some false) else (some true) : Option (Bool)).bind fun q29 => if ((st2 q27 143 6 (b2 q29)) 143 6) = 0 then (some (true, (st2 q27 143 6 (b2 q29)))) else (some (false, (st2 q27 143 6 (b2 q29))))) q26) := by
  obtain ⟨b, t1, t2, t3, t4, t5, t6⟩ := c_tok oT hn hi hC
  have hp := tP_le (T := T) hi
  have he := tE_le (T := T) hp.2
  have hk := tK_lt (T := T) (n := n) (p := tP T n i)
  have h0' : tK T n (tP T n i) ≠ 0 := h0
  refine ⟨b, t2, t3, t6.1 6 (by omega), t6.L, ?_⟩
  have hq : ((if (b 143 3) = 1 then ((fX5_wordOfSort (nI s) b).bind fun q4 => some (q4.1, q4.2)) else (some ((-1), b))) : Option (Int32 × Mem)) = some (vI (wrd T n s i), b) := by
    rw [t4]
    by_cases z : tK T n (tP T n i) = 2
    · have ew : wrd T n s i = wdS T s (tP T n i) (tE T n (tP T n i)) := if_pos z
      rw [if_pos ((cK_1 _ hk).mpr z), c_wos hs oT t2.1 he.1 (by omega) t2.2.2 t3, bq, ew]
    · have ew : wrd T n s i = 0 := if_neg z
      rw [if_neg (fun q => z ((cK_1 _ hk).mp q)), ew]
      rfl
  unfold fX5_readLine
  rw [t1, bq, if_neg (show ¬ b 143 3 = 0 by rw [t4]; exact fun q => h0' ((cK_0 _ hk).mp q)), hq, bq]
