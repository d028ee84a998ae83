/-! ===== loops; functions of two indices; a worker's own cells ===== -/
theorem loop_up {S R : Type} (L : Nat → Nat → S → Option R) (N : Nat) (P : Nat → S → Prop) (Q : R → Prop)
    (hx : ∀ f s, P N s → ∃ r, L (f + 1) N s = some r ∧ Q r)
    (hs : ∀ f j s, j < N → P j s → (∃ s', L (f + 1) j s = L f (j + 1) s' ∧ P (j + 1) s') ∨ (∃ r, L (f + 1) j s = some r ∧ Q r)) :
    ∀ (m j f : Nat) (s : S), j + m = N → m < f → P j s → ∃ r, L f j s = some r ∧ Q r := by
  intro m
  induction m with
  | zero =>
    intro j f s hj hf hp
    obtain ⟨g, rfl⟩ : ∃ g, f = g + 1 := ⟨f - 1, by omega⟩
    have e : j = N := by omega
    subst e
    exact hx g s hp
  | succ m ih =>
    intro j f s hj hf hp
    obtain ⟨g, rfl⟩ : ∃ g, f = g + 1 := ⟨f - 1, by omega⟩
    rcases hs g j s (by omega) hp with ⟨s', e, h⟩ | h
    · rw [e]; exact ih (j + 1) g s' (by omega) (by omega) h
    · exact h
theorem loop_fu {S R : Type} (L : Nat → Nat → S → Option R) (N : Nat) (P : Nat → S → Prop) (Q : R → Prop)
    (hx : ∀ f s, P N s → ∃ r, L (f + 1) N s = some r ∧ Q r)
    (hs : ∀ f j s, j < N → P j s → (∃ s', L (f + 1) j s = L f (j + 1) s' ∧ P (j + 1) s') ∨ (∃ r, L (f + 1) j s = some r ∧ Q r))
    {j : Nat} (hj : j ≤ N) (hN : N < 5000) {s : S} (h : P j s) : ∃ r, L FU j s = some r ∧ Q r :=
  loop_up L N P Q hx hs (N - j) j FU s (by omega) (by show N - j < 5000; omega) h
/-- loops that go to their end -/
theorem loop_go {S R : Type} (L : Nat → Nat → S → Option R) (N : Nat) (P : Nat → S → Prop) (Q : R → Prop)
    (hx : ∀ f s, P N s → ∃ r, L (f + 1) N s = some r ∧ Q r)
    (hs : ∀ f j s, j < N → P j s → ∃ s', L (f + 1) j s = L f (j + 1) s' ∧ P (j + 1) s')
    {j : Nat} (hj : j ≤ N) (hN : N < 5000) {s : S} (h : P j s) : ∃ r, L FU j s = some r ∧ Q r :=
  loop_fu L N P Q hx (fun f j s h1 h2 => Or.inl (hs f j s h1 h2)) hj hN h
/-- the same, with what comes behind -/
theorem loop_k {S R : Type} (L : Nat → Nat → S → Option R) (N : Nat) (P : Nat → S → Prop) (Q : R → Prop) {C : Prop}
    {j : Nat} (hj : j ≤ N) (hN : N < 5000) {s : S} (h : P j s) (hk : ∀ r, L FU j s = some r → Q r → C)
    (hx : ∀ f s, P N s → ∃ r, L (f + 1) N s = some r ∧ Q r)
    (hs : ∀ f j s, j < N → P j s → ∃ s', L (f + 1) j s = L f (j + 1) s' ∧ P (j + 1) s') : C := by
  obtain ⟨r, e1, e2⟩ := loop_go L N P Q hx hs hj hN h
  exact hk r e1 e2
theorem loop_x {S R : Type} (L : Nat → Nat → S → Option R) (N : Nat) (P : Nat → S → Prop) (Q : R → Prop) {C : Prop}
    {j : Nat} (hj : j ≤ N) (hN : N < 5000) {s : S} (h : P j s) (hk : ∀ r, L FU j s = some r → Q r → C)
    (hx : ∀ f s, P N s → ∃ r, L (f + 1) N s = some r ∧ Q r)
    (hs : ∀ f j s, j < N → P j s → (∃ s', L (f + 1) j s = L f (j + 1) s' ∧ P (j + 1) s') ∨ (∃ r, L (f + 1) j s = some r ∧ Q r)) : C := by
  obtain ⟨r, e1, e2⟩ := loop_fu L N P Q hx hs hj hN h
  exact hk r e1 e2
def up (L : Nat → Nat → Nat) (f j v : Nat) : Nat → Nat → Nat := fun a b => if a = f ∧ b = j then v else L a b
theorem up_k (L : Nat → Nat → Nat) {f j v a b : Nat} (h : a = f ∧ b = j) : up L f j v a b = v := if_pos h
theorem up_o (L : Nat → Nat → Nat) {f j v a b : Nat} (h : ¬ (a = f ∧ b = j)) : up L f j v a b = L a b := if_neg h
theorem up_c (L : Nat → Nat → Nat) {f j v a : Nat} (h : ¬ a = f) : up L f j v a = L a := by funext b; exact if_neg (fun z => h z.1)
theorem up_e (L : Nat → Nat → Nat) (f j v : Nat) : up L f j v f j = v := if_pos ⟨rfl, rfl⟩
/-- f at i, i + 1 .., n of them -/
def itr {X : Type} (f : Nat → X → X) (i : Nat) : Nat → X → X
  | 0, x => x
  | n + 1, x => f (i + n) (itr f i n x)
theorem bz {x k : Nat} (hx : x < 2147483648) (hk : k < 32) : ((nI x >>> (nI k &&& 31)) &&& 1) = 0 ↔ ¬ x.testBit k = true := by
  rw [bit_nI hx hk, li0, eq_nn (by have := Nat.mod_lt (x / 2 ^ k) (show 0 < 2 by omega); omega) (by omega), ← bit_t]
  have := Nat.mod_lt (x / 2 ^ k) (show 0 < 2 by omega)
  omega
/-- a worker: its object, what it read, guarded, wrote -/
def CW (a : Mem) (W : Nat) (L : Nat → Nat → Nat) : Prop := a W 0 = vI (L 0 0) ∧ (∀ j, 0 < j → a W j = nI (L 0 j)) ∧ (∀ j, a (W + 1) j = nI (L 1 j)) ∧ (∀ j, a (W + 2) j = nI (L 2 j)) ∧ (∀ j, a (W + 3) j = vI (L 3 j))
theorem CW.t {a : Mem} {W : Nat} {L : Nat → Nat → Nat} (h : CW a W L) : a W 0 = vI (L 0 0) := h.1
theorem CW.n {a : Mem} {W : Nat} {L : Nat → Nat → Nat} (h : CW a W L) (j : Nat) (hj : 0 < j) : a W j = nI (L 0 j) := h.2.1 j hj
theorem CW.r {a : Mem} {W : Nat} {L : Nat → Nat → Nat} (h : CW a W L) (j : Nat) : a (W + 1) j = nI (L 1 j) := h.2.2.1 j
theorem CW.g {a : Mem} {W : Nat} {L : Nat → Nat → Nat} (h : CW a W L) (j : Nat) : a (W + 2) j = nI (L 2 j) := h.2.2.2.1 j
theorem CW.w {a : Mem} {W : Nat} {L : Nat → Nat → Nat} (h : CW a W L) (j : Nat) : a (W + 3) j = vI (L 3 j) := h.2.2.2.2 j
theorem CW.s0 {a : Mem} {W : Nat} {L : Nat → Nat → Nat} (h : CW a W L) {j v : Nat} (hj : 0 < j) : CW (st2 a W j (nI v)) W (up L 0 j v) := by
  obtain ⟨h1, h2, h3, h4, h5⟩ := h
  refine ⟨by rw [st2_o _ _ (by omega), up_o _ (by omega)]; exact h1, fun i hi => ?_, fun i => by rw [st2_o _ _ (by omega), up_o _ (by omega)]; exact h3 i, fun i => by rw [st2_o _ _ (by omega), up_o _ (by omega)]; exact h4 i, fun i => by rw [st2_o _ _ (by omega), up_o _ (by omega)]; exact h5 i⟩
  by_cases e : i = j
  · subst e; rw [st2_eq, up_e]
  · rw [st2_o _ _ (by omega), up_o _ (by omega)]; exact h2 i hi
theorem CW.st {a : Mem} {W : Nat} {L : Nat → Nat → Nat} (h : CW a W L) {v : Nat} : CW (st2 a W 0 (vI v)) W (up L 0 0 v) := by
  obtain ⟨h1, h2, h3, h4, h5⟩ := h
  exact ⟨by rw [st2_eq, up_e], fun i hi => by rw [st2_o _ _ (by omega), up_o _ (by omega)]; exact h2 i hi, fun i => by rw [st2_o _ _ (by omega), up_o _ (by omega)]; exact h3 i, fun i => by rw [st2_o _ _ (by omega), up_o _ (by omega)]; exact h4 i, fun i => by rw [st2_o _ _ (by omega), up_o _ (by omega)]; exact h5 i⟩
theorem CW.s1 {a : Mem} {W : Nat} {L : Nat → Nat → Nat} (h : CW a W L) {j v : Nat} : CW (st2 a (W + 1) j (nI v)) W (up L 1 j v) := by
  obtain ⟨h1, h2, h3, h4, h5⟩ := h
  refine ⟨by rw [st2_o _ _ (by omega), up_o _ (by omega)]; exact h1, fun i hi => by rw [st2_o _ _ (by omega), up_o _ (by omega)]; exact h2 i hi, fun i => ?_, fun i => by rw [st2_o _ _ (by omega), up_o _ (by omega)]; exact h4 i, fun i => by rw [st2_o _ _ (by omega), up_o _ (by omega)]; exact h5 i⟩
  by_cases e : i = j
  · subst e; rw [st2_eq, up_e]
  · rw [st2_o _ _ (by omega), up_o _ (by omega)]; exact h3 i
theorem CW.s2 {a : Mem} {W : Nat} {L : Nat → Nat → Nat} (h : CW a W L) {j v : Nat} : CW (st2 a (W + 2) j (nI v)) W (up L 2 j v) := by
  obtain ⟨h1, h2, h3, h4, h5⟩ := h
  refine ⟨by rw [st2_o _ _ (by omega), up_o _ (by omega)]; exact h1, fun i hi => by rw [st2_o _ _ (by omega), up_o _ (by omega)]; exact h2 i hi, fun i => by rw [st2_o _ _ (by omega), up_o _ (by omega)]; exact h3 i, fun i => ?_, fun i => by rw [st2_o _ _ (by omega), up_o _ (by omega)]; exact h5 i⟩
  by_cases e : i = j
  · subst e; rw [st2_eq, up_e]
  · rw [st2_o _ _ (by omega), up_o _ (by omega)]; exact h4 i
theorem CW.s3 {a : Mem} {W : Nat} {L : Nat → Nat → Nat} (h : CW a W L) {j v : Nat} : CW (st2 a (W + 3) j (vI v)) W (up L 3 j v) := by
  obtain ⟨h1, h2, h3, h4, h5⟩ := h
  refine ⟨by rw [st2_o _ _ (by omega), up_o _ (by omega)]; exact h1, fun i hi => by rw [st2_o _ _ (by omega), up_o _ (by omega)]; exact h2 i hi, fun i => by rw [st2_o _ _ (by omega), up_o _ (by omega)]; exact h3 i, fun i => by rw [st2_o _ _ (by omega), up_o _ (by omega)]; exact h4 i, fun i => ?_⟩
  by_cases e : i = j
  · subst e; rw [st2_eq, up_e]
  · rw [st2_o _ _ (by omega), up_o _ (by omega)]; exact h5 i
/-- nothing but the worker's four cells has changed -/
def frW (W : Nat) (a a' : Mem) : Prop := ∀ c, ¬ (W ≤ c ∧ c < W + 4) → a' c = a c
theorem frW.rf {W : Nat} {a : Mem} : frW W a a := fun _ _ => rfl
theorem frW.tr {W : Nat} {a a' a'' : Mem} (h : frW W a a') (h2 : frW W a' a'') : frW W a a'' := fun c hc => (h2 c hc).trans (h c hc)
theorem frW.st {W : Nat} {a : Mem} {f j : Nat} {v : Int32} (h : W ≤ f ∧ f < W + 4) : frW W a (st2 a f j v) := fun c hc => st2_c _ _ (fun e => hc (by omega))
def WO (m : Option Mem) (W : Nat) (a : Mem) (L : Nat → Nat → Nat) : Prop := ∃ a', m = some a' ∧ CW a' W L ∧ frW W a a'
theorem WO.rf {W : Nat} {a : Mem} {L : Nat → Nat → Nat} (h : CW a W L) : WO (some a) W a L := ⟨a, rfl, h, frW.rf⟩
theorem WO.bind {W : Nat} {a : Mem} {L L' : Nat → Nat → Nat} {m : Option Mem} {f : Mem → Option Mem} (h : WO m W a L) (h2 : ∀ a', CW a' W L → frW W a a' → WO (f a') W a' L') : WO (m.bind f) W a L' := by
  obtain ⟨a1, rfl, h3, h4⟩ := h
  obtain ⟨a2, e, h5, h6⟩ := h2 a1 h3 h4
  exact ⟨a2, e, h5, h4.tr h6⟩
/-- keys' values, stamps, nodes' versions; the store's span -/
def GX (a : Mem) (G : Nat → Nat → Nat) (s sp : Nat) : Prop := (∀ k, k < 10 → a 147 k = vI (G 0 k)) ∧ (∀ k, k < 10 → a 148 k = nI (G 1 k)) ∧ (∀ k, k < 10 → a 149 k = nI (G 2 k)) ∧ a 146 0 = nI (8 + 14 * s) ∧ a (8 + 14 * s) 0 = nI sp
def okG (G : Nat → Nat → Nat) : Prop := ∀ k, k < 10 → G 0 k ≤ 100 ∧ G 1 k ≤ 9999 ∧ G 2 k ≤ 9999
def okX (s sp : Nat) : Prop := s < 2 ∧ 1 ≤ sp ∧ sp ≤ 5
theorem GX.fr {a a' : Mem} {G : Nat → Nat → Nat} {s sp W : Nat} (h : GX a G s sp) (hs : s < 2) (hW : 158 ≤ W) (hf : frW W a a') : GX a' G s sp := by
  obtain ⟨h1, h2, h3, h4, h5⟩ := h
  refine ⟨fun k hk => ?_, fun k hk => ?_, fun k hk => ?_, ?_, ?_⟩
  · rw [hf 147 (by omega)]; exact h1 k hk
  · rw [hf 148 (by omega)]; exact h2 k hk
  · rw [hf 149 (by omega)]; exact h3 k hk
  · rw [hf 146 (by omega)]; exact h4
  · rw [hf _ (by omega)]; exact h5
theorem isB_st {s : Nat} (h : s < 2) : isB (8 + 14 * s) 7 = true := by
  rcases (show s = 0 ∨ s = 1 by omega) with rfl | rfl <;> decide
theorem isB_bk {s : Nat} (h : s < 2) : isB (10 + 14 * s) 8 = true := by
  rcases (show s = 0 ∨ s = 1 by omega) with rfl | rfl <;> decide
theorem dv9 {n sp : Nat} (h : n ≤ 9) : n / sp ≤ 9 := Nat.le_trans (Nat.div_le_self _ _) h
theorem c_nodeOf {a : Mem} {G : Nat → Nat → Nat} {s sp n : Nat} (h : GX a G s sp) (hx : okX s sp) (hn : n ≤ 9) : fX3_nodeOf (nI n) a = some (nI (n / sp), a) := by
  obtain ⟨h1, h2, h3, h4, h5⟩ := h
  obtain ⟨x1, x2, x3⟩ := hx
  unfold fX3_nodeOf
  rw [h4, rfN_n (by omega), isB_st x1, gdT, h5, if_neg (by rw [li0, le_nn (by omega) (by omega)]; omega), gdT, gd_ite _ _ (decide_eq_true (by rw [li0, eq_nn (by omega) (by omega)]; omega)), nI_dv (by omega) (by omega) (by omega)]
/-! ===== what a worker does: over its cells L, the store's rows G ===== -/
def vw (G L : Nat → Nat → Nat) (k : Nat) : Nat := if (L 0 8).testBit k = true then L 3 k else G 0 k
def nRd (G : Nat → Nat → Nat) (k : Nat) (L : Nat → Nat → Nat) : Nat → Nat → Nat := if (L 0 6).testBit k = true then L else up (up L 0 6 (L 0 6 ||| 2 ^ k)) 1 k (G 1 k)
def nGd (G : Nat → Nat → Nat) (n : Nat) (L : Nat → Nat → Nat) : Nat → Nat → Nat := if (L 0 7).testBit n = true then L else up (up L 0 7 (L 0 7 ||| 2 ^ n)) 2 n (G 2 n)
def lkA (sp : Nat) (G : Nat → Nat → Nat) (k : Nat) (L : Nat → Nat → Nat) : Nat → Nat → Nat := if (L 0 8).testBit k = true then L else if G 0 k = 0 then nGd G (k / sp) L else nRd G k L
def lk (sp : Nat) (G : Nat → Nat → Nat) (k : Nat) (L : Nat → Nat → Nat) : Nat → Nat → Nat := up (lkA sp G k L) 0 3 ((L 0 3 + (vw G L k - 1)) % 100)
def wrt (k v : Nat) (L : Nat → Nat → Nat) : Nat → Nat → Nat := up (up L 0 8 (L 0 8 ||| 2 ^ k)) 3 k v
def lkT (sp : Nat) (G : Nat → Nat → Nat) (k : Nat) (L : Nat → Nat → Nat) : Nat → Nat → Nat := if vw G L k = 0 then L else lk sp G k L
def scn (sp : Nat) (G : Nat → Nat → Nat) (k o : Nat) (L : Nat → Nat → Nat) : Nat → Nat → Nat := itr (lkT sp G) k (o + 1 - k) (itr (nGd G) (k / sp) (o / sp + 1 - k / sp) L)
def stp (sp : Nat) (G : Nat → Nat → Nat) (w k o : Nat) (L : Nat → Nat → Nat) : Nat → Nat → Nat :=
  if w = 0 then lk sp G k L else if w = 1 then wrt k 0 L else if w = 2 then wrt k (L 0 3 + 1) L else if w = 3 then wrt k o L
  else if w = 4 then wrt k ((vw G (lk sp G k L) k - 1 + (o - 1)) % 100 + 1) (lk sp G k L) else scn sp G k (o - 1) L
def okL (L : Nat → Nat → Nat) : Prop := L 0 3 ≤ 99 ∧ L 0 6 < 1024 ∧ L 0 7 < 1024 ∧ L 0 8 < 1024 ∧ ∀ k, k < 10 → ((L 0 6).testBit k = true → L 1 k ≤ 9999) ∧ ((L 0 7).testBit k = true → L 2 k ≤ 9999) ∧ ((L 0 8).testBit k = true → L 3 k ≤ 100)
theorem or_lt {x k : Nat} (hx : x < 1024) (hk : k < 10) : x ||| 2 ^ k < 1024 := Nat.or_lt_two_pow (n := 10) hx (Nat.pow_lt_pow_right (by decide) hk)
theorem or_bit {x k j : Nat} : (x ||| 2 ^ k).testBit j = true ↔ (x.testBit j = true ∨ j = k) := by
  rw [Nat.testBit_or, Nat.testBit_two_pow, Bool.or_eq_true, decide_eq_true_eq]
  exact or_congr Iff.rfl ⟨Eq.symm, Eq.symm⟩
theorem vw_le {G L : Nat → Nat → Nat} (hG : okG G) (hL : okL L) {k : Nat} (hk : k < 10) : vw G L k ≤ 100 := by
  unfold vw
  split
  · rename_i h; exact (hL.2.2.2.2 k hk).2.2 h
  · exact (hG k hk).1
theorem okL.onRd {G L : Nat → Nat → Nat} (hL : okL L) (hG : okG G) {k : Nat} (hk : k < 10) : okL (nRd G k L) := by
  unfold nRd
  split
  · exact hL
  · obtain ⟨h1, h2, h3, h4, h5⟩ := hL
    refine ⟨by rw [up_o _ (by omega), up_o _ (by omega)]; exact h1, by rw [up_o _ (by omega), up_k _ ⟨rfl, rfl⟩]; exact or_lt h2 hk, by rw [up_o _ (by omega), up_o _ (by omega)]; exact h3, by rw [up_o _ (by omega), up_o _ (by omega)]; exact h4, fun j hj => ⟨fun h => ?_, fun h => ?_, fun h => ?_⟩⟩
    · by_cases e : j = k
      · subst e; rw [up_e]; exact (hG j hj).2.1
      · rw [up_o _ (by omega), up_k _ ⟨rfl, rfl⟩, or_bit] at h
        rw [up_o _ (by omega), up_o _ (by omega)]; exact (h5 j hj).1 (h.resolve_right e)
    · rw [up_o _ (by omega), up_o _ (by omega)] at h ⊢; exact (h5 j hj).2.1 h
    · rw [up_o _ (by omega), up_o _ (by omega)] at h ⊢; exact (h5 j hj).2.2 h
theorem okL.onGd {G L : Nat → Nat → Nat} (hL : okL L) (hG : okG G) {k : Nat} (hk : k < 10) : okL (nGd G k L) := by
  unfold nGd
  split
  · exact hL
  · obtain ⟨h1, h2, h3, h4, h5⟩ := hL
    refine ⟨by rw [up_o _ (by omega), up_o _ (by omega)]; exact h1, by rw [up_o _ (by omega), up_o _ (by omega)]; exact h2, by rw [up_o _ (by omega), up_k _ ⟨rfl, rfl⟩]; exact or_lt h3 hk, by rw [up_o _ (by omega), up_o _ (by omega)]; exact h4, fun j hj => ⟨fun h => ?_, fun h => ?_, fun h => ?_⟩⟩
    · rw [up_o _ (by omega), up_o _ (by omega)] at h ⊢; exact (h5 j hj).1 h
    · by_cases e : j = k
      · subst e; rw [up_e]; exact (hG j hj).2.2
      · rw [up_o _ (by omega), up_k _ ⟨rfl, rfl⟩, or_bit] at h
        rw [up_o _ (by omega), up_o _ (by omega)]; exact (h5 j hj).2.1 (h.resolve_right e)
    · rw [up_o _ (by omega), up_o _ (by omega)] at h ⊢; exact (h5 j hj).2.2 h
theorem okL.olkA {G L : Nat → Nat → Nat} (hL : okL L) (hG : okG G) {sp k : Nat} (hk : k < 10) : okL (lkA sp G k L) := by
  unfold lkA
  split
  · exact hL
  · split
    · exact hL.onGd hG (by have := dv9 (n := k) (sp := sp) (by omega); omega)
    · exact hL.onRd hG hk
theorem okL.sum {L : Nat → Nat → Nat} (hL : okL L) {v : Nat} (hv : v ≤ 99) : okL (up L 0 3 v) := by
  obtain ⟨h1, h2, h3, h4, h5⟩ := hL
  refine ⟨by rw [up_e]; exact hv, by rw [up_o _ (by omega)]; exact h2, by rw [up_o _ (by omega)]; exact h3, by rw [up_o _ (by omega)]; exact h4, fun j hj => ?_⟩
  rw [up_o _ (by omega), up_o _ (by omega), up_o _ (by omega), up_o _ (by omega), up_o _ (by omega), up_o _ (by omega)]
  exact h5 j hj
theorem okL.olk {G L : Nat → Nat → Nat} (hL : okL L) (hG : okG G) {sp k : Nat} (hk : k < 10) : okL (lk sp G k L) :=
  (hL.olkA hG hk).sum (by have := Nat.mod_lt (L 0 3 + (vw G L k - 1)) (show 0 < 100 by omega); omega)
theorem okL.owrt {L : Nat → Nat → Nat} (hL : okL L) {k v : Nat} (hk : k < 10) (hv : v ≤ 100) : okL (wrt k v L) := by
  unfold wrt
  obtain ⟨h1, h2, h3, h4, h5⟩ := hL
  refine ⟨by rw [up_o _ (by omega), up_o _ (by omega)]; exact h1, by rw [up_o _ (by omega), up_o _ (by omega)]; exact h2, by rw [up_o _ (by omega), up_o _ (by omega)]; exact h3, by rw [up_o _ (by omega), up_k _ ⟨rfl, rfl⟩]; exact or_lt h4 hk, fun j hj => ⟨fun h => ?_, fun h => ?_, fun h => ?_⟩⟩
  · rw [up_o _ (by omega), up_o _ (by omega)] at h ⊢; exact (h5 j hj).1 h
  · rw [up_o _ (by omega), up_o _ (by omega)] at h ⊢; exact (h5 j hj).2.1 h
  · by_cases e : j = k
    · subst e; rw [up_e]; exact hv
    · rw [up_o _ (by omega), up_k _ ⟨rfl, rfl⟩, or_bit] at h
      rw [up_o _ (by omega), up_o _ (by omega)]; exact (h5 j hj).2.2 (h.resolve_right e)
theorem okL.olkT {G L : Nat → Nat → Nat} (hL : okL L) (hG : okG G) {sp k : Nat} (hk : k < 10) : okL (lkT sp G k L) := by
  unfold lkT
  split
  · exact hL
  · exact hL.olk hG hk
theorem okL.oitr {f : Nat → (Nat → Nat → Nat) → Nat → Nat → Nat} (hf : ∀ k L, k < 10 → okL L → okL (f k L)) {L : Nat → Nat → Nat} (hL : okL L) {i : Nat} : ∀ n, i + n ≤ 10 → okL (itr f i n L)
  | 0, _ => hL
  | n + 1, h => hf _ _ (by omega) (okL.oitr hf hL n (by omega))
theorem okL.oscn {G L : Nat → Nat → Nat} (hL : okL L) (hG : okG G) {sp k o : Nat} (hko : k ≤ o) (ho : o ≤ 9) : okL (scn sp G k o L) := by
  unfold scn
  refine okL.oitr (fun k L h1 h2 => h2.olkT hG h1) (okL.oitr (fun k L h1 h2 => h2.onGd hG h1) hL _ ?_) _ (by omega)
  have := dv9 (n := o) (sp := sp) ho
  have := Nat.div_le_div_right (c := sp) hko
  omega
theorem okL.ostp {G L : Nat → Nat → Nat} (hL : okL L) (hG : okG G) {sp w k o : Nat} (h : stepc w k o) : okL (stp sp G w k o L) := by
  obtain ⟨s1, s2, s3, s4, s5⟩ := h
  have h99 := hL.1
  unfold stp
  split
  · exact hL.olk hG (by omega)
  · split
    · exact hL.owrt (by omega) (by omega)
    · split
      · exact hL.owrt (by omega) (by omega)
      · split
        · exact hL.owrt (by omega) (by omega)
        · split
          · refine (hL.olk hG (by omega)).owrt (by omega) ?_
            have := Nat.mod_lt (vw G (lk sp G k L) k - 1 + (o - 1)) (show 0 < 100 by omega)
            omega
          · exact hL.oscn hG (by omega) (by omega)
theorem vw_nGd {G L : Nat → Nat → Nat} {n k : Nat} : vw G (nGd G n L) k = vw G L k := by
  unfold nGd; split
  · rfl
  · unfold vw; rw [up_o _ (by omega), up_o _ (by omega), up_o _ (by omega), up_o _ (by omega)]
theorem vw_nRd {G L : Nat → Nat → Nat} {n k : Nat} : vw G (nRd G n L) k = vw G L k := by
  unfold nRd; split
  · rfl
  · unfold vw; rw [up_o _ (by omega), up_o _ (by omega), up_o _ (by omega), up_o _ (by omega)]
theorem vw_lkA {G L : Nat → Nat → Nat} {sp n k : Nat} : vw G (lkA sp G n L) k = vw G L k := by
  unfold lkA; split
  · rfl
  · split
    · exact vw_nGd
    · exact vw_nRd
theorem lkT_z {sp : Nat} {G L : Nat → Nat → Nat} {k : Nat} (h : vw G L k = 0) : lkT sp G k L = L := if_pos h
theorem lkT_n {sp : Nat} {G L : Nat → Nat → Nat} {k : Nat} (h : ¬ vw G L k = 0) : lkT sp G k L = lk sp G k L := if_neg h
theorem n00 : nI 0 = 0 := rfl
theorem n11 : nI 1 = 1 := rfl
theorem n22 : nI 2 = 2 := rfl
theorem n33 : nI 3 = 3 := rfl
theorem n44 : nI 4 = 4 := rfl
theorem n55 : nI 5 = 5 := rfl
theorem n66 : nI 6 = 6 := rfl
theorem lit_ne {n m : Nat} (h : n ≠ m) (hn : n < 2147483648) (hm : m < 2147483648) : ¬ nI n = nI m := by rw [eq_nn hn hm]; exact h
theorem ne0 {n : Nat} (h : n ≠ 0) (hn : n < 2147483648) : ¬ nI n = 0 := lit_ne (m := 0) h hn (by decide)
theorem ne1 {n : Nat} (h : n ≠ 1) (hn : n < 2147483648) : ¬ nI n = 1 := lit_ne (m := 1) h hn (by decide)
theorem ne2 {n : Nat} (h : n ≠ 2) (hn : n < 2147483648) : ¬ nI n = 2 := lit_ne (m := 2) h hn (by decide)
theorem ne3 {n : Nat} (h : n ≠ 3) (hn : n < 2147483648) : ¬ nI n = 3 := lit_ne (m := 3) h hn (by decide)
theorem ne4 {n : Nat} (h : n ≠ 4) (hn : n < 2147483648) : ¬ nI n = 4 := lit_ne (m := 4) h hn (by decide)
theorem ne5 {n : Nat} (h : n ≠ 5) (hn : n < 2147483648) : ¬ nI n = 5 := lit_ne (m := 5) h hn (by decide)
