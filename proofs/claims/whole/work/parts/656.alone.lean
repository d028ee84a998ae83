/-! ===== a task by itself ===== -/
def upf (c : Nat → Nat) (k v : Nat) : Nat → Nat := fun j => if j = k then v else c j
theorem upf_k (c : Nat → Nat) {k v j : Nat} (h : j = k) : upf c k v j = v := if_pos h
theorem upf_o (c : Nat → Nat) {k v j : Nat} (h : ¬ j = k) : upf c k v j = c j := if_neg h
/-- sum, row -/
def stA (w k o : Nat) (q : Nat × (Nat → Nat)) : Nat × (Nat → Nat) :=
  if w = 0 then ((q.1 + (q.2 k - 1)) % 100, q.2) else if w = 1 then (q.1, upf q.2 k 0) else if w = 2 then (q.1, upf q.2 k (q.1 + 1)) else if w = 3 then (q.1, upf q.2 k o)
  else if w = 4 then ((q.1 + (q.2 k - 1)) % 100, upf q.2 k ((q.2 k - 1 + (o - 1)) % 100 + 1)) else (itr (fun j s => s + (q.2 j - 1)) k (o - k) q.1 % 100, q.2)
def okQ (q : Nat × (Nat → Nat)) : Prop := q.1 ≤ 99 ∧ ∀ k, k < 10 → q.2 k ≤ 100
def rnA (B : Nat → Nat → Nat) (t n : Nat) (q : Nat × (Nat → Nat)) : Nat × (Nat → Nat) := itr (fun i q => stA (B 2 (6 * t + i)) (B 3 (6 * t + i)) (B 4 (6 * t + i)) q) 0 n q
theorem itr_S {X : Type} (f : Nat → X → X) (n : Nat) (x : X) : itr f 0 (n + 1) x = f n (itr f 0 n x) := by
  show f (0 + n) _ = _
  rw [Nat.zero_add]
theorem upf_le {c : Nat → Nat} {k v : Nat} (h : ∀ k, k < 10 → c k ≤ 100) (hv : v ≤ 100) : ∀ j, j < 10 → upf c k v j ≤ 100 := fun j hj => by
  unfold upf; split
  · exact hv
  · exact h j hj
theorem okQ.st {q : Nat × (Nat → Nat)} (h : okQ q) {w k o : Nat} (hs : stepc w k o) : okQ (stA w k o q) := by
  obtain ⟨s1, s2, s3, s4, s5⟩ := hs
  obtain ⟨h1, h2⟩ := h
  have m1 := Nat.mod_lt (q.1 + (q.2 k - 1)) (show 0 < 100 by omega)
  have m2 := Nat.mod_lt (q.2 k - 1 + (o - 1)) (show 0 < 100 by omega)
  have m3 := Nat.mod_lt (itr (fun j s => s + (q.2 j - 1)) k (o - k) q.1) (show 0 < 100 by omega)
  unfold stA
  split
  · exact ⟨by show _ % 100 ≤ 99; omega, h2⟩
  · split
    · exact ⟨h1, upf_le h2 (by omega)⟩
    · split
      · exact ⟨h1, upf_le h2 (by omega)⟩
      · split
        · exact ⟨h1, upf_le h2 (by omega)⟩
        · split
          · exact ⟨by show _ % 100 ≤ 99; omega, upf_le h2 (by omega)⟩
          · exact ⟨by show _ % 100 ≤ 99; omega, h2⟩
theorem okQ.rn {q : Nat × (Nat → Nat)} {B : Nat → Nat → Nat} (gB : okB B) (h : okQ q) (t : Nat) : ∀ n, okQ (rnA B t n q)
  | 0 => h
  | n + 1 => by
    unfold rnA
    rw [itr_S]
    exact okQ.st (okQ.rn gB h t n) (gB.2.2 _)
/-- a worker's sum and view -/
def ag (G L : Nat → Nat → Nat) (q : Nat × (Nat → Nat)) : Prop := L 0 3 = q.1 ∧ ∀ k, k < 10 → vw G L k = q.2 k
theorem vw_lk {G L : Nat → Nat → Nat} {sp n k : Nat} : vw G (lk sp G n L) k = vw G L k := by
  show (if (up (lkA sp G n L) 0 3 _ 0 8).testBit k = true then up (lkA sp G n L) 0 3 _ 3 k else G 0 k) = vw G L k
  rw [up_o _ (by omega), up_o _ (by omega)]
  exact vw_lkA
theorem vw_wrt {G L : Nat → Nat → Nat} {n v k : Nat} : vw G (wrt n v L) k = if k = n then v else vw G L k := by
  unfold vw wrt
  rw [up_o _ (by omega), up_k _ ⟨rfl, rfl⟩]
  by_cases e : k = n
  · subst e; rw [if_pos (or_bit.mpr (Or.inr rfl)), up_e, if_pos rfl]
  · rw [up_o _ (by omega), up_o _ (by omega), if_neg e]
    by_cases h : (L 0 8).testBit k = true
    · rw [if_pos (or_bit.mpr (Or.inl h)), if_pos h]
    · rw [if_neg (fun z => (or_bit.mp z).elim h e), if_neg h]
theorem lk_03 {G L : Nat → Nat → Nat} {sp n : Nat} : lk sp G n L 0 3 = (L 0 3 + (vw G L n - 1)) % 100 := by unfold lk; rw [up_e]
theorem lkT_ag {G L : Nat → Nat → Nat} {sp n : Nat} (h : L 0 3 ≤ 99) : lkT sp G n L 0 3 = (L 0 3 + (vw G L n - 1)) % 100 ∧ ∀ k, vw G (lkT sp G n L) k = vw G L k := by
  unfold lkT
  split
  · rename_i e; rw [e]; exact ⟨by omega, fun _ => rfl⟩
  · exact ⟨lk_03, fun _ => vw_lk⟩
theorem sc_ag {G L : Nat → Nat → Nat} {sp i : Nat} (h : L 0 3 ≤ 99) : ∀ n, itr (lkT sp G) i n L 0 3 = itr (fun j s => s + (vw G L j - 1)) i n (L 0 3) % 100 ∧ ∀ k, vw G (itr (lkT sp G) i n L) k = vw G L k
  | 0 => ⟨by show L 0 3 = L 0 3 % 100; omega, fun _ => rfl⟩
  | n + 1 => by
    obtain ⟨h1, h2⟩ := sc_ag (sp := sp) (i := i) h n
    have h3 : itr (lkT sp G) i n L 0 3 ≤ 99 := by
      rw [h1]
      have := Nat.mod_lt (itr (fun j s => s + (vw G L j - 1)) i n (L 0 3)) (show 0 < 100 by omega)
      omega
    obtain ⟨q1, q2⟩ := lkT_ag (sp := sp) (n := i + n) h3
    refine ⟨?_, fun k => (q2 k).trans (h2 k)⟩
    show lkT sp G (i + n) (itr (lkT sp G) i n L) 0 3 = (itr (fun j s => s + (vw G L j - 1)) i n (L 0 3) + (vw G L (i + n) - 1)) % 100
    rw [q1, h1, h2]
    omega
theorem vw_itG {G : Nat → Nat → Nat} {i k : Nat} {L : Nat → Nat → Nat} : ∀ n, vw G (itr (nGd G) i n L) k = vw G L k
  | 0 => rfl
  | n + 1 => vw_nGd.trans (vw_itG n)
theorem itr_cg {f g : Nat → Nat → Nat} {i : Nat} {s : Nat} : ∀ n, (∀ j, i ≤ j → j < i + n → ∀ s, f j s = g j s) → itr f i n s = itr g i n s
  | 0, _ => rfl
  | n + 1, h => by
    show f (i + n) _ = g (i + n) _
    rw [itr_cg n (fun j h1 h2 => h j h1 (by omega)), h (i + n) (by omega) (by omega)]
theorem ag.st {G L : Nat → Nat → Nat} {q : Nat × (Nat → Nat)} (h : ag G L q) (h9 : L 0 3 ≤ 99) {sp w k o : Nat} (hs : stepc w k o) : ag G (stp sp G w k o L) (stA w k o q) := by
  obtain ⟨s1, s2, s3, s4, s5⟩ := hs
  obtain ⟨h1, h2⟩ := h
  unfold stp stA
  split
  · exact ⟨by rw [lk_03, h1, h2 k (by omega)], fun j hj => by rw [vw_lk]; exact h2 j hj⟩
  · split
    · exact ⟨by rw [wrt_02 (by omega)]; exact h1, fun j hj => by rw [vw_wrt]; show _ = upf _ _ _ _; unfold upf; rw [h2 j hj]⟩
    · split
      · exact ⟨by rw [wrt_02 (by omega)]; exact h1, fun j hj => by rw [vw_wrt]; show _ = upf _ _ _ _; unfold upf; rw [h2 j hj, h1]⟩
      · split
        · exact ⟨by rw [wrt_02 (by omega)]; exact h1, fun j hj => by rw [vw_wrt]; show _ = upf _ _ _ _; unfold upf; rw [h2 j hj]⟩
        · split
          · exact ⟨by rw [wrt_02 (by omega), lk_03, h1, h2 k (by omega)], fun j hj => by rw [vw_wrt, vw_lk, vw_lk]; show _ = upf _ _ _ _; unfold upf; rw [h2 j hj, h2 k (by omega)]⟩
          · unfold scn
            have h9' : itr (nGd G) (k / sp) ((o - 1) / sp + 1 - k / sp) L 0 3 = L 0 3 := itr_02 (fun _ _ => nGd_02 (by omega)) _
            obtain ⟨q1, q2⟩ := sc_ag (G := G) (L := itr (nGd G) (k / sp) ((o - 1) / sp + 1 - k / sp) L) (sp := sp) (i := k) (by rw [h9']; exact h9) (o - 1 + 1 - k)
            refine ⟨?_, fun j hj => by rw [q2, vw_itG]; exact h2 j hj⟩
            rw [q1, h9', h1, show o - 1 + 1 - k = o - k by omega]
            dsimp only
            rw [itr_cg (g := fun j s => s + (q.2 j - 1)) _ (fun j h3 h4 s => by rw [vw_itG, h2 j (by omega)])]
/-! ===== the same in the engine ===== -/
def RW (a : Mem) (n : Nat) (c : Nat → Nat) : Prop := ∀ k, k < 10 → a n k = vI (c k)
def frN (n : Nat) (a a' : Mem) : Prop := ∀ m, m ≠ n → a' m = a m
theorem frN.rf {n : Nat} {a : Mem} : frN n a a := fun _ _ => rfl
theorem frN.tr {n : Nat} {a a' a'' : Mem} (h : frN n a a') (h2 : frN n a' a'') : frN n a a'' := fun m hm => (h2 m hm).trans (h m hm)
theorem frN.st {n : Nat} {a : Mem} {k : Nat} {v : Int32} : frN n a (st2 a n k v) := fun m hm => st2_c _ _ hm
theorem RW.st {a : Mem} {n : Nat} {c : Nat → Nat} (h : RW a n c) {k v : Nat} : RW (st2 a n k (vI v)) n (upf c k v) := fun j hj => by
  by_cases e : j = k
  · subst e; rw [st2_eq, upf_k _ rfl]
  · rw [st2_o _ _ (by omega), upf_o _ e]; exact h j hj
theorem cp2_g (σ : Mem) (x y : Nat) (c j n : Nat) : cp2 σ x y 0 0 n c j = if c = y ∧ j < n then σ x j else σ c j := by
  unfold cp2 va_cpy
  by_cases h : c = y
  · subst h
    rw [if_pos rfl]
    by_cases h2 : j < n
    · rw [if_pos ⟨by omega, by omega⟩, if_pos ⟨rfl, h2⟩, Nat.zero_add, Nat.sub_zero]
    · rw [if_neg (by omega), if_neg (fun z => h2 z.2)]
  · rw [if_neg h, if_neg (fun z => h z.1)]
theorem cp2_c (σ : Mem) {x y c n : Nat} (h : c ≠ y) : cp2 σ x y 0 0 n c = σ c := by funext j; rw [cp2_g, if_neg (fun z => h z.1)]
theorem c_copyKeys {a : Mem} {x y : Nat} {c : Nat → Nat} (h : RW a x c) : ∃ a', fX11_copyKeys x y a = some a' ∧ RW a' y c ∧ frN y a a' :=
  ⟨_, rfl, fun k hk => by rw [cp2_g, if_pos ⟨rfl, hk⟩]; exact h k hk, fun m hm => cp2_c _ hm⟩
/-- a book's cells, from n on -/
def BK (a : Mem) (n : Nat) (B : Nat → Nat → Nat) : Prop := CBk (a n) (a (n + 1)) (a (n + 2)) (a (n + 3)) (a (n + 4)) B
theorem BK.fr {a a' : Mem} {n m : Nat} {B : Nat → Nat → Nat} (h : BK a n B) (hm : ¬ (n ≤ m ∧ m ≤ n + 4)) (hf : frN m a a') : BK a' n B := by
  unfold BK
  rw [hf n (by omega), hf (n + 1) (by omega), hf (n + 2) (by omega), hf (n + 3) (by omega), hf (n + 4) (by omega)]
  exact h
theorem c_stepAlone {a : Mem} {n m t i : Nat} {B : Nat → Nat → Nat} {q : Nat × (Nat → Nat)} (hB : BK a n B) (gB : okB B) (hm : ¬ (n ≤ m ∧ m ≤ n + 4)) (ht : t < B 0 0) (hi : i < B 1 t) (hq : okQ q) (hr : RW a m q.2) :
    ∃ a', fX8_stepAlone n (nI (6 * t + i)) m (nI q.1) a = some (nI (stA (B 2 (6 * t + i)) (B 3 (6 * t + i)) (B 4 (6 * t + i)) q).1, a') ∧ RW a' m (stA (B 2 (6 * t + i)) (B 3 (6 * t + i)) (B 4 (6 * t + i)) q).2 ∧ frN m a a' := by
  have g1 := gB.1
  have g2 := gB.2.1 t
  have gs := gB.2.2 (6 * t + i)
  obtain ⟨k1, k2, k3⟩ := (hB.2 t ht).2 i hi
  unfold fX8_stepAlone
  rw [inb_T (show 6 * t + i < 42 by omega) (by omega), nI_ck (show 6 * t + i < 2147483648 by omega), k1, k2, k3]
  have hl : ∀ f x6 x7 σ, lX8_stepAlone_129 n (nI (6 * t + i)) m (f + 1) x6 x7 σ = if σ (n + 4) (6 * t + i) < x7 then some (x6, σ) else if 10 ≤ x7 then some (x6, σ) else gd (inb x7 10) (lX8_stepAlone_129 n (nI (6 * t + i)) m f (x6 + mx (σ m (Int32.toNatClampNeg x7)) 0) (x7 + 1) σ) := fun f x6 x7 σ => by
    rw [lX8_stepAlone_129, inb_T (show 6 * t + i < 42 by omega) (by omega), nI_ck (show 6 * t + i < 2147483648 by omega), gdT]
  have k3' := k3
  generalize B 2 (6 * t + i) = w at *
  generalize B 3 (6 * t + i) = k at *
  generalize B 4 (6 * t + i) = o at *
  obtain ⟨s1, s2, s3, s4, s5⟩ := gs
  obtain ⟨q1, q2⟩ := hq
  have hk := q2 k (by omega)
  rw [inb_T (show k < 10 by omega) (by omega), nI_ck (show k < 2147483648 by omega), hr k (by omega)]
  simp only [gdT, bq]
  unfold stA
  rcases (show w = 0 ∨ w = 1 ∨ w = 2 ∨ w = 3 ∨ w = 4 ∨ w = 5 by omega) with rfl | rfl | rfl | rfl | rfl | rfl
  · rw [if_pos n00, if_pos rfl, show (0 : Int32) = nI 0 from rfl, mx_v (by omega), nI_add, show (100 : Int32) = nI 100 from rfl, nI_md (by omega) (by omega) (by omega)]
    exact ⟨a, rfl, hr, frN.rf⟩
  · rw [if_neg (by decide), if_pos n11, if_neg (by decide), if_pos rfl]; exact ⟨_, rfl, hr.st (v := 0), frN.st⟩
  · rw [if_neg (by decide), if_neg (by decide), if_pos n22, if_neg (by decide), if_neg (by decide), if_pos rfl]; exact ⟨_, rfl, hr.st (v := q.1 + 1), frN.st⟩
  · rw [if_neg (by decide), if_neg (by decide), if_neg (by decide), if_pos n33, if_neg (by decide), if_neg (by decide), if_neg (by decide), if_pos rfl]; exact ⟨_, rfl, hr.st, frN.st⟩
  · rw [if_neg (by decide), if_neg (by decide), if_neg (by decide), if_neg (by decide), if_pos n44, if_neg (by decide), if_neg (by decide), if_neg (by decide), if_neg (by decide), if_pos rfl, show (0 : Int32) = nI 0 from rfl, mx_v (by omega), vI_p (show 0 < o by omega), nI_add, nI_add, show (100 : Int32) = nI 100 from rfl, nI_md (by omega) (by omega) (by omega), nI_md (by omega) (by omega) (by omega), ← vI_s ((q.2 k - 1 + (o - 1)) % 100)]
    exact ⟨_, rfl, hr.st, frN.st⟩
  · rw [if_neg (by decide), if_neg (by decide), if_neg (by decide), if_neg (by decide), if_neg (by decide), if_neg (by decide), if_neg (by decide), if_neg (by decide), if_neg (by decide), if_neg (by decide)]
    have hb : ∀ d, d ≤ 10 → k + d ≤ 10 → itr (fun j s => s + (q.2 j - 1)) k d q.1 ≤ 99 + 99 * d := by
      intro d
      induction d with
      | zero => intro _ _; show q.1 ≤ _; omega
      | succ d ih =>
        intro h1 h2
        have := ih (by omega) (by omega)
        have := q2 (k + d) (by omega)
        show itr (fun j s => s + (q.2 j - 1)) k d q.1 + (q.2 (k + d) - 1) ≤ _
        omega
    refine loop_k (fun f j s => lX8_stepAlone_129 n (nI (6 * t + i)) m f s (nI j) a) o (fun j s => k ≤ j ∧ s = nI (itr (fun j s => s + (q.2 j - 1)) k (j - k) q.1)) (fun r => r = (nI (itr (fun j s => s + (q.2 j - 1)) k (o - k) q.1), a)) (show k ≤ o by omega) (by omega) (s := nI q.1) ⟨Nat.le_refl _, by rw [Nat.sub_self]; rfl⟩ ?_ ?_ ?_
    · rintro r e1 e2
      try dsimp only at e1
      rw [e1, e2, bq]
      dsimp only
      have := hb (o - k) (by omega) (by omega)
      rw [show (100 : Int32) = nI 100 from rfl, nI_md (by omega) (by omega) (by omega)]
      exact ⟨a, rfl, hr, frN.rf⟩
    · rintro f s ⟨-, rfl⟩
      refine ⟨_, ?_, rfl⟩
      show lX8_stepAlone_129 _ _ _ _ _ _ _ = _
      rw [hl, k3', vI_p (show 0 < o by omega), if_pos (by rw [lt_nn (by omega) (by omega)]; omega)]
    · rintro f j s hj ⟨h0, rfl⟩
      have := q2 j (by omega)
      refine ⟨nI (itr (fun j s => s + (q.2 j - 1)) k (j + 1 - k) q.1), ?_, by omega, rfl⟩
      show lX8_stepAlone_129 _ _ _ _ _ _ _ = lX8_stepAlone_129 _ _ _ _ _ _ _
      rw [hl, k3', vI_p (show 0 < o by omega), if_neg (by rw [lt_nn (by omega) (by omega)]; omega), if_neg (by rw [li10, le_nn (by omega) (by omega)]; omega), inb_T (by omega) (by omega), gdT, nI_ck (by omega), hr j (by omega), show (0 : Int32) = nI 0 from rfl, mx_v (by omega), nI_add, nI_1]
      congr 2
      rw [show j + 1 - k = (j - k) + 1 by omega]
      show _ = itr (fun j s => s + (q.2 j - 1)) k (j - k) q.1 + (q.2 (k + (j - k)) - 1)
      rw [show k + (j - k) = j by omega]
theorem c_runAlone {a : Mem} {n m t : Nat} {B : Nat → Nat → Nat} {c : Nat → Nat} (hB : BK a n B) (gB : okB B) (hm : ¬ (n ≤ m ∧ m ≤ n + 4)) (ht : t < B 0 0) (hq : ∀ k, k < 10 → c k ≤ 100) (hr : RW a m c) :
    ∃ a', fX8_runAlone n (nI t) m a = some (nI (rnA B t (B 1 t) (0, c)).1, a') ∧ RW a' m (rnA B t (B 1 t) (0, c)).2 ∧ frN m a a' := by
  have g1 := gB.1
  have g2 := gB.2.1 t
  have hq0 : okQ (0, c) := ⟨by show 0 ≤ 99; omega, hq⟩
  unfold fX8_runAlone
  refine loop_k (fun f j s => lX8_runAlone_5 n (nI t) m f s.1 (nI j) s.2) (B 1 t) (fun j s => s.1 = nI (rnA B t j (0, c)).1 ∧ RW s.2 m (rnA B t j (0, c)).2 ∧ frN m a s.2) (fun r => r.1 = nI (rnA B t (B 1 t) (0, c)).1 ∧ RW r.2 m (rnA B t (B 1 t) (0, c)).2 ∧ frN m a r.2) (Nat.zero_le _) (by omega) (s := ((0 : Int32), a)) ⟨rfl, hr, frN.rf⟩ ?_ ?_ ?_
  · rintro r e1 ⟨e2, e3, e4⟩
    try dsimp only at e1
    have e1' : lX8_runAlone_5 n (nI t) m FU 0 0 a = some r := e1
    rw [e1', bq]
    exact ⟨r.2, by rw [← e2], e3, e4⟩
  · rintro f ⟨x, s⟩ ⟨h1, h2, h3⟩
    refine ⟨(x, s), ?_, h1, h2, h3⟩
    show lX8_runAlone_5 _ _ _ _ _ _ _ = _
    have hB' := hB.fr hm h3
    rw [lX8_runAlone_5, inb_T (show t < 7 by omega) (by omega), gdT, nI_ck (by omega), (hB'.2 t ht).1, if_pos (by rw [le_nn (by omega) (by omega)]; omega)]
  · rintro f j ⟨x, s⟩ hj ⟨h1, h2, h3⟩
    have hB' := hB.fr hm h3
    obtain ⟨a', p1, p2, p3⟩ := c_stepAlone (q := rnA B t j (0, c)) hB' gB hm ht hj (okQ.rn gB hq0 t j) h2
    refine ⟨(nI (stA (B 2 (6 * t + j)) (B 3 (6 * t + j)) (B 4 (6 * t + j)) (rnA B t j (0, c))).1, a'), ?_, ?_, ?_, h3.tr p3⟩
    · show lX8_runAlone_5 _ _ _ _ _ _ _ = lX8_runAlone_5 _ _ _ _ _ _ _
      dsimp only at h1
      rw [lX8_runAlone_5, inb_T (show t < 7 by omega) (by omega), gdT, nI_ck (by omega), (hB'.2 t ht).1, if_neg (by rw [le_nn (by omega) (by omega)]; omega), show (6 : Int32) = nI 6 from rfl, pk_mul, nI_add, show t * 6 + j = 6 * t + j by omega, h1, p1, bq, nI_1]
    · dsimp only; unfold rnA; rw [itr_S]
    · unfold rnA; rw [itr_S]; exact p2
