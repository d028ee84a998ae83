/-! ===== the pure part: small rows over Mem and Int32 ===== -/
theorem st2_g (σ : Mem) (n k : Nat) (v : Int32) (a j : Nat) : st2 σ n k v a j = if a = n ∧ j = k then v else σ a j := by
  unfold st2
  by_cases h : a = n
  · subst h
    rw [if_pos rfl]
    unfold upd
    by_cases h2 : j = k
    · rw [if_pos h2, if_pos ⟨rfl, h2⟩]
    · rw [if_neg h2, if_neg (fun z => h2 z.2)]
  · rw [if_neg h, if_neg (fun z => h z.1)]
theorem st2_eq (σ : Mem) (n k : Nat) (v : Int32) : st2 σ n k v n k = v := by rw [st2_g, if_pos ⟨rfl, rfl⟩]
theorem st2_nc (σ : Mem) {n a : Nat} (k : Nat) (v : Int32) (j : Nat) (h : a ≠ n) : st2 σ n k v a j = σ a j := by rw [st2_g, if_neg (fun z => h z.1)]
theorem st2_ns (σ : Mem) {n k j : Nat} (v : Int32) (a : Nat) (h : j ≠ k) : st2 σ n k v a j = σ a j := by rw [st2_g, if_neg (fun z => h z.2)]
theorem gdT {α : Type} (x : Option α) : gd true x = x := rfl
theorem gdF {α : Type} (x : Option α) : gd false x = none := rfl
theorem inb_iff {j N : Nat} (hj : j < 2 ^ 31) : inb (nI j) N = true ↔ j < N := by
  unfold inb
  rw [nI_clamp hj]
  simp [nI_pos hj]
theorem cl_nI {j : Nat} (hj : j < 2 ^ 31) : Int32.toNatClampNeg (nI j) = j := nI_clamp hj
theorem bq {α β : Type} (x : α) (f : α → Option β) : (some x).bind f = f x := rfl
/-- class and model apart: a call of the one leaves the other's cells -/
def frC (σ σ' : Mem) : Prop := ∀ n, 269 ≤ n → σ' n = σ n
def frM (σ σ' : Mem) : Prop := ∀ n, n < 269 → σ' n = σ n
theorem frC.rf {σ : Mem} : frC σ σ := fun _ _ => rfl
theorem frM.rf {σ : Mem} : frM σ σ := fun _ _ => rfl
theorem frC.tr {σ σ' σ'' : Mem} (h : frC σ σ') (h2 : frC σ' σ'') : frC σ σ'' := fun n hn => (h2 n hn).trans (h n hn)
theorem frM.tr {σ σ' σ'' : Mem} (h : frM σ σ') (h2 : frM σ' σ'') : frM σ σ'' := fun n hn => (h2 n hn).trans (h n hn)
theorem frC.st {σ : Mem} {n : Nat} (k : Nat) (v : Int32) (h : n < 269) : frC σ (st2 σ n k v) := fun a ha => st2_ne σ k v (by omega)
theorem frM.st {σ : Mem} {n : Nat} (k : Nat) (v : Int32) (h : 269 ≤ n) : frM σ (st2 σ n k v) := fun a ha => st2_ne σ k v (by omega)
/-! ===== what is told: the class's block t against the model's row o ===== -/
def isByt (x : Int32) : Prop := fits .byte (.int x) = true
/-- a store: the object's slots, its values; the model's 13 -/
def SRf (p v r : Nat → Int32) : Prop := ∃ sp w th : Nat, (1 ≤ sp ∧ sp ≤ 5) ∧ (1 ≤ w ∧ w ≤ 4) ∧ th < 1024 ∧ p 0 = nI sp ∧ r 0 = nI sp ∧ p 1 = nI w ∧ r 1 = nI w ∧ r 2 = nI th ∧
  ∀ k, k < 10 → if th.testBit k = true then ∃ x, x ≤ 99 ∧ v k = nI x ∧ r (3 + k) = nI x else v k = -1 ∧ r (3 + k) = 0
/-- a step: what, key, other -/
def stepOK (w k : Nat) (o : Int32) : Prop := w < 6 ∧ k ≤ 9 ∧ (w < 3 → o = -1) ∧ (w = 3 ∨ w = 4 → ∃ v, v ≤ 99 ∧ o = nI v) ∧ (w = 5 → ∃ v, k ≤ v ∧ v ≤ 9 ∧ o = nI v)
/-- tasks: size, steps, kind, key, other; the model's 134 -/
def BRf (p st kd ky ot r : Nat → Int32) : Prop := ∃ T : Nat, T ≤ 7 ∧ p 0 = nI T ∧ r 0 = nI T ∧ ∀ t, t < T → ∃ S : Nat, S ≤ 6 ∧ st t = nI S ∧ r (1 + 19 * t) = nI S ∧
  ∀ i, i < S → ∃ w k : Nat, stepOK w k (ot (6 * t + i)) ∧ kd (6 * t + i) = nI w ∧ ky (6 * t + i) = nI k ∧ r (1 + 19 * t + 1 + 3 * i) = nI w ∧ r (1 + 19 * t + 2 + 3 * i) = nI k ∧ r (1 + 19 * t + 3 + 3 * i) = ot (6 * t + i)
def deedOK (w : Nat) (x y : Int32) : Prop := w < 7 ∧ (w < 2 → x = -1) ∧ (2 ≤ w → ∃ v, v ≤ 3 ∧ x = nI v) ∧ (w < 6 → y = -1) ∧ (w = 6 → ∃ v, v ≤ 6 ∧ y = nI v)
def PRf (p kd wk tk r : Nat → Int32) : Prop := ∃ S : Nat, S ≤ 40 ∧ p 0 = nI S ∧ r 0 = nI S ∧ ∀ i, i < S → ∃ w : Nat, deedOK w (wk i) (tk i) ∧ kd i = nI w ∧ r (1 + 3 * i) = nI w ∧ r (2 + 3 * i) = wk i ∧ r (3 + 3 * i) = tk i
def DRf (p ky v r : Nat → Int32) : Prop := ∃ S : Nat, S ≤ 8 ∧ p 0 = nI S ∧ r 0 = nI S ∧ ∀ i, i < S → ∃ k : Nat, k ≤ 9 ∧ ky i = nI k ∧ r (1 + 2 * i) = nI k ∧ r (2 + 2 * i) = v i ∧ (v i = -1 ∨ ∃ x, x ≤ 99 ∧ v i = nI x)
def SR (a b : Mem) (n m : Nat) : Prop := SRf (a n) (a (n + 1)) (fun i => b 275 (m + i))
def BR (a b : Mem) (n m : Nat) : Prop := BRf (a n) (a (n + 1)) (a (n + 2)) (a (n + 3)) (a (n + 4)) (fun i => b 276 (m + i))
def PR (a b : Mem) (n m : Nat) : Prop := PRf (a n) (a (n + 1)) (a (n + 2)) (a (n + 3)) (fun i => b 277 (m + i))
def DR (a b : Mem) (n m : Nat) : Prop := DRf (a n) (a (n + 1)) (a (n + 2)) (fun i => b 278 (m + i))
/-- how many texts of a sort -/
def MR (a b : Mem) (t o j : Nat) : Prop := ∃ n : Nat, n ≤ 2 ∧ a (t + 2) j = nI n ∧ b 274 (4 * o + j) = nI n
def TR (a b : Mem) (t o : Nat) : Prop :=
  (∃ n : Nat, n ≤ 600 ∧ a t 1 = nI n ∧ b 271 o = nI n) ∧ (∀ i, i < 600 → isByt (a (t + 1) i) ∧ b 270 (600 * o + i) = a (t + 1) i) ∧ b 272 o = a t 2 ∧ b 273 o = a t 3 ∧ (∀ j, j < 4 → MR a b t o j) ∧
  (∀ k : Nat, k < 2 → nI k < a (t + 2) 0 → SR a b (t + 7 + 14 * k) (26 * o + 13 * k)) ∧ (∀ k : Nat, k < 2 → nI k < a (t + 2) 1 → BR a b (t + 9 + 14 * k) (268 * o + 134 * k)) ∧
  (∀ k : Nat, k < 2 → nI k < a (t + 2) 2 → PR a b (t + 14 + 14 * k) (242 * o + 121 * k)) ∧ (∀ k : Nat, k < 2 → nI k < a (t + 2) 3 → DR a b (t + 18 + 14 * k) (34 * o + 17 * k))
def IR (a b : Mem) (j : Nat) : Prop := b 313 j = a 142 j ∧ (a 142 j = 0 ∨ (a 142 j = 1 ∧ TR a b (37 + 35 * j) (j + 1)))
/-- the class's cells of a, the model's of b -/
def RR (a b : Mem) : Prop := TR a b 1 0 ∧ ∀ j, j < 3 → IR a b j
def INV (σ : Mem) : Prop := RR σ σ
theorem SRf.cg {p v r r' : Nat → Int32} (h : SRf p v r) (e : ∀ i, i < 13 → r' i = r i) : SRf p v r' := by
  obtain ⟨sp, w, th, h1, h2, h3, h4, h5, h6, h7, h8, h9⟩ := h
  refine ⟨sp, w, th, h1, h2, h3, h4, by rw [e 0 (by omega)]; exact h5, h6, by rw [e 1 (by omega)]; exact h7, by rw [e 2 (by omega)]; exact h8, fun k hk => ?_⟩
  have := h9 k hk
  rw [e (3 + k) (by omega)]
  exact this
theorem BRf.cg {p st kd ky ot r r' : Nat → Int32} (h : BRf p st kd ky ot r) (e : ∀ i, i < 134 → r' i = r i) : BRf p st kd ky ot r' := by
  obtain ⟨T, h1, h2, h3, h4⟩ := h
  refine ⟨T, h1, h2, by rw [e 0 (by omega)]; exact h3, fun t ht => ?_⟩
  obtain ⟨S, g1, g2, g3, g4⟩ := h4 t ht
  refine ⟨S, g1, g2, by rw [e _ (by omega)]; exact g3, fun i hi => ?_⟩
  obtain ⟨w, k, f1, f2, f3, f4, f5, f6⟩ := g4 i hi
  exact ⟨w, k, f1, f2, f3, by rw [e _ (by omega)]; exact f4, by rw [e _ (by omega)]; exact f5, by rw [e _ (by omega)]; exact f6⟩
theorem PRf.cg {p kd wk tk r r' : Nat → Int32} (h : PRf p kd wk tk r) (e : ∀ i, i < 121 → r' i = r i) : PRf p kd wk tk r' := by
  obtain ⟨S, h1, h2, h3, h4⟩ := h
  refine ⟨S, h1, h2, by rw [e 0 (by omega)]; exact h3, fun i hi => ?_⟩
  obtain ⟨w, f1, f2, f3, f4, f5⟩ := h4 i hi
  exact ⟨w, f1, f2, by rw [e _ (by omega)]; exact f3, by rw [e _ (by omega)]; exact f4, by rw [e _ (by omega)]; exact f5⟩
theorem DRf.cg {p ky v r r' : Nat → Int32} (h : DRf p ky v r) (e : ∀ i, i < 17 → r' i = r i) : DRf p ky v r' := by
  obtain ⟨S, h1, h2, h3, h4⟩ := h
  refine ⟨S, h1, h2, by rw [e 0 (by omega)]; exact h3, fun i hi => ?_⟩
  obtain ⟨k, f1, f2, f3, f4, f5⟩ := h4 i hi
  exact ⟨k, f1, f2, by rw [e _ (by omega)]; exact f3, by rw [e _ (by omega)]; exact f4, f5⟩
/-- the model's row o is as it was -/
def rowM (o : Nat) (b b' : Mem) : Prop := b' 271 o = b 271 o ∧ (∀ i, i < 600 → b' 270 (600 * o + i) = b 270 (600 * o + i)) ∧ b' 272 o = b 272 o ∧ b' 273 o = b 273 o ∧ (∀ j, j < 4 → b' 274 (4 * o + j) = b 274 (4 * o + j)) ∧ (∀ i, i < 26 → b' 275 (26 * o + i) = b 275 (26 * o + i)) ∧ (∀ i, i < 268 → b' 276 (268 * o + i) = b 276 (268 * o + i)) ∧ (∀ i, i < 242 → b' 277 (242 * o + i) = b 277 (242 * o + i)) ∧ (∀ i, i < 34 → b' 278 (34 * o + i) = b 278 (34 * o + i))
/-- the class's block t is as it was -/
def blkC (t : Nat) (a a' : Mem) : Prop := ∀ c, c ≤ 34 → a' (t + c) = a (t + c)
theorem TR.cgR {a b a' b' : Mem} {t o : Nat} (h : TR a b t o) (h1 : blkC t a a') (h2 : rowM o b b') : TR a' b' t o := by
  have e0 : a' t = a t := h1 0 (by omega)
  have e1 : a' (t + 1) = a (t + 1) := h1 1 (by omega)
  have e2 : a' (t + 2) = a (t + 2) := h1 2 (by omega)
  have ee : ∀ x, t ≤ x → x ≤ t + 34 → a' x = a x := fun x g1 g2 => by rw [show x = t + (x - t) by omega]; exact h1 _ (by omega)
  obtain ⟨f1, f2, f3, f4, f5, f6, f7, f8, f9⟩ := h2
  obtain ⟨q1, q2, q3, q4, q5, q6, q7, q8, q9⟩ := h
  refine ⟨?_, ?_, ?_, ?_, ?_, ?_, ?_, ?_, ?_⟩
  · rw [e0, f1]; exact q1
  · intro i hi; rw [e1, f2 i hi]; exact q2 i hi
  · rw [e0, f3]; exact q3
  · rw [e0, f4]; exact q4
  · intro j hj; unfold MR; rw [e2, f5 j hj]; exact q5 j hj
  · intro k hk hm; rw [e2] at hm
    have h := q6 k hk hm
    unfold SR at h ⊢
    rw [ee _ (by omega) (by omega), ee (t + 7 + 14 * k + 1) (by omega) (by omega)]
    exact h.cg (fun i hi => by rw [Nat.add_assoc]; exact f6 _ (by omega))
  · intro k hk hm; rw [e2] at hm
    have h := q7 k hk hm
    unfold BR at h ⊢
    rw [ee _ (by omega) (by omega), ee (t + 9 + 14 * k + 1) (by omega) (by omega), ee (t + 9 + 14 * k + 2) (by omega) (by omega), ee (t + 9 + 14 * k + 3) (by omega) (by omega), ee (t + 9 + 14 * k + 4) (by omega) (by omega)]
    exact h.cg (fun i hi => by rw [Nat.add_assoc]; exact f7 _ (by omega))
  · intro k hk hm; rw [e2] at hm
    have h := q8 k hk hm
    unfold PR at h ⊢
    rw [ee _ (by omega) (by omega), ee (t + 14 + 14 * k + 1) (by omega) (by omega), ee (t + 14 + 14 * k + 2) (by omega) (by omega), ee (t + 14 + 14 * k + 3) (by omega) (by omega)]
    exact h.cg (fun i hi => by rw [Nat.add_assoc]; exact f8 _ (by omega))
  · intro k hk hm; rw [e2] at hm
    have h := q9 k hk hm
    unfold DR at h ⊢
    rw [ee _ (by omega) (by omega), ee (t + 18 + 14 * k + 1) (by omega) (by omega), ee (t + 18 + 14 * k + 2) (by omega) (by omega)]
    exact h.cg (fun i hi => by rw [Nat.add_assoc]; exact f9 _ (by omega))
/-- told cells are as they were -/
def tC (a a' : Mem) : Prop := ∀ n, 1 ≤ n → n ≤ 142 → a' n = a n
def tM (b b' : Mem) : Prop := ∀ n, (270 ≤ n ∧ n ≤ 278) ∨ n = 313 → b' n = b n
theorem tC.rf {a : Mem} : tC a a := fun _ _ _ => rfl
theorem tM.rf {a : Mem} : tM a a := fun _ _ => rfl
theorem tC.tr {a a' a'' : Mem} (h : tC a a') (h2 : tC a' a'') : tC a a'' := fun n x y => (h2 n x y).trans (h n x y)
theorem tM.tr {a a' a'' : Mem} (h : tM a a') (h2 : tM a' a'') : tM a a'' := fun n x => (h2 n x).trans (h n x)
theorem tM.st {σ : Mem} {n : Nat} (k : Nat) (v : Int32) (h : ¬ ((270 ≤ n ∧ n ≤ 278) ∨ n = 313)) : tM σ (st2 σ n k v) := fun a ha => st2_ne σ k v (fun e => h (by rw [← e]; exact ha))
theorem tC.st {σ : Mem} {n : Nat} (k : Nat) (v : Int32) (h : ¬ (1 ≤ n ∧ n ≤ 142)) : tC σ (st2 σ n k v) := fun a h1 h2 => st2_ne σ k v (fun e => h (by rw [← e]; exact ⟨h1, h2⟩))
theorem TR.cg {a b a' b' : Mem} {t o : Nat} (h : TR a b t o) (ht : 1 ≤ t ∧ t + 34 ≤ 142) (h1 : tC a a') (h2 : tM b b') : TR a' b' t o := by
  have f : ∀ n, 270 ≤ n → n ≤ 278 → b' n = b n := fun n x y => h2 n (Or.inl ⟨x, y⟩)
  refine h.cgR (fun c hc => h1 _ (by omega) (by omega)) ⟨?_, ?_, ?_, ?_, ?_, ?_, ?_, ?_, ?_⟩
  · rw [f 271 (by omega) (by omega)]
  · intro i _; rw [f 270 (by omega) (by omega)]
  · rw [f 272 (by omega) (by omega)]
  · rw [f 273 (by omega) (by omega)]
  · intro i _; rw [f 274 (by omega) (by omega)]
  · intro i _; rw [f 275 (by omega) (by omega)]
  · intro i _; rw [f 276 (by omega) (by omega)]
  · intro i _; rw [f 277 (by omega) (by omega)]
  · intro i _; rw [f 278 (by omega) (by omega)]
theorem RR.cg {a b a' b' : Mem} (h : RR a b) (h1 : tC a a') (h2 : tM b b') : RR a' b' := by
  refine ⟨h.1.cg (by omega) h1 h2, fun j hj => ?_⟩
  obtain ⟨q1, q2⟩ := h.2 j hj
  refine ⟨by rw [h1 142 (by omega) (by omega), h2 313 (Or.inr rfl)]; exact q1, ?_⟩
  rw [h1 142 (by omega) (by omega)]
  exact q2.imp id (fun z => ⟨z.1, z.2.cg (by omega) h1 h2⟩)
theorem frC.t {a a' : Mem} (h : frC a a') : tM a a' := fun n hn => h n (by omega)
theorem frM.t {a a' : Mem} (h : frM a a') : tC a a' := fun n h1 h2 => h n (by omega)
/-- the class's answer is the model's -/
def PAIR {α : Type} (f g : Mem → Option (α × Mem)) : Prop := ∀ a b : Mem, RR a b → ∃ (r : α) (a' b' : Mem), f a = some (r, a') ∧ g b = some (r, b') ∧ frC a a' ∧ frM b b' ∧ RR a' b'
theorem PAIR.step {α : Type} {f g : Mem → Option (α × Mem)} (h : PAIR f g) {σ : Mem} (hI : INV σ) : ∃ r σ1 σ2, f σ = some (r, σ1) ∧ g σ1 = some (r, σ2) ∧ INV σ2 := by
  obtain ⟨r, a', b', h1, h2, h3, h4, h5⟩ := h σ σ hI
  have hI2 : RR σ a' := RR.cg hI tC.rf h3.t
  obtain ⟨r2, a2, b2, k1, k2, k3, k4, k5⟩ := h σ a' hI2
  have e := Option.some.inj (h1.symm.trans k1)
  have er : r2 = r := (congrArg Prod.fst e).symm
  have ea : a2 = a' := (congrArg Prod.snd e).symm
  subst er
  subst ea
  exact ⟨r2, a2, b2, h1, k2, RR.cg k5 k4.t tM.rf⟩
theorem PAIR.q {α : Type} {f g : Mem → Option (α × Mem)} (h : ∀ a b : Mem, RR a b → ∃ (r : α) (a' b' : Mem), f a = some (r, a') ∧ g b = some (r, b') ∧ frC a a' ∧ frM b b' ∧ tC a a' ∧ tM b b') : PAIR f g := fun a b hR => by
  obtain ⟨r, a', b', h1, h2, h3, h4, h5, h6⟩ := h a b hR
  exact ⟨r, a', b', h1, h2, h3, h4, hR.cg h5 h6⟩
