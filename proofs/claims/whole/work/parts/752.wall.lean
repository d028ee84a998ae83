/-! ===== weave: all rows of the reference; the calls ===== -/
theorem ph_S {A N set m : Nat} {q : WS} : phF A N set (m + 1) q = wst A N (set.testBit m) (phF A N set m q) := itr_S _ _ _
theorem wst_e {A N : Nat} {bit : Bool} {q : WS} : (wst A N bit q).1 = q.1 + (if bit = true then 1 else 0) ∧ (wst A N bit q).2.1 = q.2.1 + (if bit = true then 0 else 1) := by
  unfold wst
  cases bit
  · exact ⟨rfl, rfl⟩
  · exact ⟨rfl, rfl⟩
theorem ph_sum {A N set : Nat} : ∀ m, (phF A N set m (wi A N)).1 + (phF A N set m (wi A N)).2.1 = m
  | 0 => rfl
  | m + 1 => by
    have := ph_sum (A := A) (N := N) (set := set) m
    rw [ph_S, wst_e.1, wst_e.2]
    split <;> omega
theorem ph_mono {A N set m : Nat} : ∀ k, (phF A N set m (wi A N)).1 ≤ (phF A N set (m + k) (wi A N)).1 ∧ (phF A N set m (wi A N)).2.1 ≤ (phF A N set (m + k) (wi A N)).2.1
  | 0 => ⟨Nat.le_refl _, Nat.le_refl _⟩
  | k + 1 => by
    have := ph_mono (A := A) (N := N) (set := set) (m := m) k
    rw [← Nat.add_assoc, ph_S, wst_e.1, wst_e.2]
    omega
theorem m_bitsIn {A N set n : Nat} {σ : Mem} (hs : set < 2 ^ 31) (hn : n ≤ 12) : fX12_bitsIn (nI set) (nI n) σ = some (nI (phF A N set n (wi A N)).1, σ) := by
  unfold fX12_bitsIn
  refine loop_k (fun f j (s : Nat) => lX12_bitsIn_4 (nI set) (nI n) f (nI s) (nI j) σ) n (fun j s => s = (phF A N set j (wi A N)).1) (fun x => x = (nI (phF A N set n (wi A N)).1, σ)) (Nat.zero_le _) (by omega) (s := 0) rfl ?_ ?_ ?_
  · intro x e1 e2
    have e1' : lX12_bitsIn_4 (nI set) (nI n) FU 0 0 σ = some x := e1
    rw [e1', bq, e2]
  · intro f s hs
    refine ⟨(nI s, σ), ?_, by rw [hs]⟩
    show lX12_bitsIn_4 _ _ _ _ _ _ = _
    rw [lX12_bitsIn_4, if_pos (by rw [le_nn (by omega) (by omega)]; omega)]
  · intro f j s hj hs'
    refine ⟨s + (if set.testBit j = true then 1 else 0), ?_, by rw [ph_S, wst_e.1, ← hs']⟩
    show lX12_bitsIn_4 _ _ _ _ _ _ = lX12_bitsIn_4 _ _ _ _ _ _
    rw [lX12_bitsIn_4, if_neg (by rw [le_nn (by omega) (by omega)]; omega), f_has hs (by omega), bq]
    dsimp only
    rw [nI_1]
    by_cases z : set.testBit j = true
    · rw [if_pos z, if_pos z, bq, b2T, nI_add]
    · rw [if_neg z, if_neg z, bq, b2F, nI_add]
/-- where a row stands -/
def IQ (b : Mem) (s sp wk : Nat) (c : Nat → Nat) (n : Nat) (B : F2) (x y : Nat) (q : WS) : Prop :=
  (q.2.2 = 0 ∧ q.1 < B 1 x ∧ q.2.1 < B 1 y ∧ PA b s sp wk c n B x y q.1 q.2.1) ∨
  (∃ i, i < 6 ∧ q.2.2 = 1 + i ∧ q.1 = B 1 x ∧ i ≤ q.2.1 ∧ ((q.2.1 < B 1 y ∧ PB b s sp wk c n B 0 x y i q.2.1) ∨ (q.2.1 = B 1 y ∧ PC b s sp wk c n B 0 x y i))) ∨
  (∃ i, i < 6 ∧ q.2.2 = 7 + i ∧ q.2.1 = B 1 y ∧ i ≤ q.1 ∧ ((q.1 < B 1 x ∧ PB b s sp wk c n B 1 y x i q.1) ∨ (q.1 = B 1 x ∧ PC b s sp wk c n B 1 y x i)))
set_option maxHeartbeats 2000000 in
theorem IQ.next {b : Mem} {B : F2} {s sp wk n x y : Nat} {c : Nat → Nat} {q : WS} {bit : Bool} (hn : n < 2) (os : okS sp wk c) (gB : okB B) (hx : x < B 0 0) (hy : y < B 0 0) (h : IQ b s sp wk c n B x y q) (v0' : (wst (B 1 x) (B 1 y) bit q).1 ≤ B 1 x) (v1 : (wst (B 1 x) (B 1 y) bit q).2.1 ≤ B 1 y) :
    ∃ b1 b2, fX12_steps (nI (if bit = true then 0 else 1)) b = some (true, b1) ∧ fX12_endsOf (nI (if bit = true then 0 else 1)) b1 = some b2 ∧ IQ b2 s sp wk c n B x y (wst (B 1 x) (B 1 y) bit q) ∧ frJ b b2 := by
  obtain ⟨q0, q1, fin⟩ := q
  have b6x := gB.2.1 x
  have b6y := gB.2.1 y
  rcases h with ⟨h1, h2, h3, h4⟩ | ⟨i, h1, h2, h3, h4, h5⟩ | ⟨i, h1, h2, h3, h4, h5⟩
  · dsimp only at h1 h2 h3 h4
    subst h1
    cases bit
    · rw [if_neg (by decide)]
      obtain ⟨b1, e1, e2, e3, -⟩ := h4.step (w := 1) hn os gB hx hy (by omega) (by rw [if_neg (by omega), if_neg (by omega)]; exact h3)
      rw [if_neg (by omega), if_neg (by omega)] at e2
      by_cases z : q1 + 1 = B 1 y
      · obtain ⟨b2, e4, e5, e6⟩ := e2.end (w := 1) hn os gB hx hy (by omega) (by rw [if_neg (by omega), if_neg (by omega)]; exact z)
        rw [if_neg (by omega), if_neg (by omega), if_neg (by omega)] at e5
        refine ⟨b1, b2, e1, e4, Or.inr (Or.inr ⟨q0, by omega, ?_, z, Nat.le_refl _, Or.inl ⟨h2, e5⟩⟩), e3.tr e6⟩
        show (if (0 : Nat) = 0 ∧ q1 + 1 = B 1 y then 7 + q0 else 0) = 7 + q0
        rw [if_pos ⟨rfl, z⟩]
      · refine ⟨b1, b1, e1, e2.end_no (w := 1) hn gB hx hy (by omega) (by rw [if_neg (by omega), if_neg (by omega)]; have : q1 + 1 ≤ B 1 y := v1; omega), Or.inl ⟨?_, h2, by show q1 + 1 < B 1 y; have : q1 + 1 ≤ B 1 y := v1; omega, e2⟩, e3⟩
        show (if (0 : Nat) = 0 ∧ q1 + 1 = B 1 y then 7 + q0 else 0) = 0
        rw [if_neg (fun y => z y.2)]
    · rw [if_pos rfl]
      obtain ⟨b1, e1, e2, e3, -⟩ := h4.step (w := 0) hn os gB hx hy (by omega) (by rw [if_pos rfl, if_pos rfl]; exact h2)
      rw [if_pos rfl, if_pos rfl] at e2
      by_cases z : q0 + 1 = B 1 x
      · obtain ⟨b2, e4, e5, e6⟩ := e2.end (w := 0) hn os gB hx hy (by omega) (by rw [if_pos rfl, if_pos rfl]; exact z)
        rw [if_pos rfl, if_pos rfl, if_pos rfl] at e5
        refine ⟨b1, b2, e1, e4, Or.inr (Or.inl ⟨q1, by omega, ?_, z, Nat.le_refl _, Or.inl ⟨h3, e5⟩⟩), e3.tr e6⟩
        show (if (0 : Nat) = 0 ∧ q0 + 1 = B 1 x then 1 + q1 else 0) = 1 + q1
        rw [if_pos ⟨rfl, z⟩]
      · refine ⟨b1, b1, e1, e2.end_no (w := 0) hn gB hx hy (by omega) (by rw [if_pos rfl, if_pos rfl]; have : q0 + 1 ≤ B 1 x := v0'; omega), Or.inl ⟨?_, by show q0 + 1 < B 1 x; have : q0 + 1 ≤ B 1 x := v0'; omega, h3, e2⟩, e3⟩
        show (if (0 : Nat) = 0 ∧ q0 + 1 = B 1 x then 1 + q1 else 0) = 0
        rw [if_neg (fun y => z y.2)]
  · dsimp only at h1 h2 h3 h4 h5
    cases bit
    · rw [if_neg (by decide)]
      have v1' : q1 + 1 ≤ B 1 y := v1
      have hfin : (wst (B 1 x) (B 1 y) false (q0, q1, fin)) = (q0, q1 + 1, fin) := by
        show (q0, q1 + 1, if fin = 0 ∧ q1 + 1 = B 1 y then 7 + q0 else fin) = _
        rw [if_neg (by omega)]
      rw [hfin]
      rcases h5 with ⟨h5, h6⟩ | ⟨h5, h6⟩
      · obtain ⟨b1, e1, e2, e3⟩ := h6.step hn os gB hy (by omega) h5 h4
        by_cases z : q1 + 1 = B 1 y
        · obtain ⟨b2, e4, e5, e6⟩ := e2.end hn os gB hy (by omega) z
          exact ⟨b1, b2, e1, e4, Or.inr (Or.inl ⟨i, h1, h2, h3, by show i ≤ q1 + 1; omega, Or.inr ⟨z, e5⟩⟩), e3.tr e6⟩
        · exact ⟨b1, b1, e1, e2.end_no hn gB hy (by omega) (by omega), Or.inr (Or.inl ⟨i, h1, h2, h3, by show i ≤ q1 + 1; omega, Or.inl ⟨by show q1 + 1 < B 1 y; omega, e2⟩⟩), e3⟩
      · exact absurd v1' (by omega)
    · have v0'' : q0 + 1 ≤ B 1 x := v0'
      exact absurd v0'' (by omega)
  · dsimp only at h1 h2 h3 h4 h5
    cases bit
    · have v1' : q1 + 1 ≤ B 1 y := v1
      exact absurd v1' (by omega)
    · rw [if_pos rfl]
      have v0'' : q0 + 1 ≤ B 1 x := v0'
      have hfin : (wst (B 1 x) (B 1 y) true (q0, q1, fin)) = (q0 + 1, q1, fin) := by
        show (q0 + 1, q1, if fin = 0 ∧ q0 + 1 = B 1 x then 1 + q1 else fin) = _
        rw [if_neg (by omega)]
      rw [hfin]
      rcases h5 with ⟨h5, h6⟩ | ⟨h5, h6⟩
      · obtain ⟨b1, e1, e2, e3⟩ := h6.step hn os gB hx (by omega) h5 h4
        by_cases z : q0 + 1 = B 1 x
        · obtain ⟨b2, e4, e5, e6⟩ := e2.end hn os gB hx (by omega) z
          exact ⟨b1, b2, e1, e4, Or.inr (Or.inr ⟨i, h1, h2, h3, by show i ≤ q0 + 1; omega, Or.inr ⟨z, e5⟩⟩), e3.tr e6⟩
        · exact ⟨b1, b1, e1, e2.end_no hn gB hx (by omega) (by omega), Or.inr (Or.inr ⟨i, h1, h2, h3, by show i ≤ q0 + 1; omega, Or.inl ⟨by show q0 + 1 < B 1 x; omega, e2⟩⟩), e3⟩
      · exact absurd v0'' (by omega)
/-- what a kind of row counts for -/
def Fk (sp : Nat) (B : F2) (c : Nat → Nat) (x y j κ : Nat) : Nat := if κ ≤ 6 then fw5 1 (wvd sp B c x y (κ - 1)) j else fw5 0 (wvd sp B c y x (κ - 7)) j
/-- the end of a row: counts -/
theorem b2d {p : Prop} [Decidable p] : b2 (decide p) = nI (if p then 1 else 0) := by
  by_cases h : p
  · rw [decide_eq_true h, if_pos h]; rfl
  · rw [decide_eq_false h, if_neg h]; rfl
set_option maxHeartbeats 2000000 in
theorem m_tail {b q : Mem} {o : Nat → Nat} {x3 x4 : Int32} {u v : Nat} (hl : lX12_weaves_45 x3 x4 FU 0 b = some q) (h89 : q 269 89 = nI u) (h90 : q 269 90 = nI v) (hu : 1 ≤ u ∧ u ≤ 3) (hv : 1 ≤ v ∧ v ≤ 3) (ho : ∀ j, j < 5 → q 269 (84 + j) = nI (o j)) :
    ∃ b', jX12_weaves_42 x3 x4 b = some b' ∧ b' 269 84 = nI (o 0 + 1) ∧ b' 269 85 = nI (o 1 + if u = 1 ∧ v = 1 then 1 else 0) ∧ b' 269 86 = nI (o 2 + if u ≠ 1 then 1 else 0) ∧ b' 269 87 = nI (o 3 + if v ≠ 1 then 1 else 0) ∧ b' 269 88 = nI (o 4 + if u = 3 ∨ v = 3 then 1 else 0) ∧ (∀ j, ¬ (84 ≤ j ∧ j ≤ 88) → b' 269 j = q 269 j) ∧ ∀ m, m ≠ 269 → b' m = q m := by
  have h84 : q 269 84 = nI (o 0) := ho 0 (by omega)
  have h85 : q 269 85 = nI (o 1) := ho 1 (by omega)
  have h86 : q 269 86 = nI (o 2) := ho 2 (by omega)
  have h87 : q 269 87 = nI (o 3) := ho 3 (by omega)
  have h88 : q 269 88 = nI (o 4) := ho 4 (by omega)
  unfold jX12_weaves_42
  rw [hl, bq, h84, nI_1]
  generalize hs1 : st2 q 269 84 (nI (o 0 + 1)) = s1
  have a9 : ∀ j, j ≠ 84 → s1 269 j = q 269 j := fun j hj => by rw [← hs1, st2_o _ _ (by omega)]
  have a84 : s1 269 84 = nI (o 0 + 1) := by rw [← hs1, st2_eq]
  have ao : ∀ m, m ≠ 269 → s1 m = q m := fun m hm => by rw [← hs1, st2_c _ _ hm]
  clear hs1
  have k1 : ((if s1 269 89 = 1 then (if s1 269 90 = 1 then (some true) else (some false)) else (some false)) : Option Bool) = some (decide (u = 1 ∧ v = 1)) := by
    rw [a9 89 (by omega), a9 90 (by omega), h89, h90]
    by_cases z : u = 1
    · rw [if_pos (by rw [z]; rfl)]
      by_cases z2 : v = 1
      · rw [if_pos (by rw [z2]; rfl), decide_eq_true ⟨z, z2⟩]
      · rw [if_neg (ne1 z2 (by omega)), decide_eq_false (fun y => z2 y.2)]
    · rw [if_neg (ne1 z (by omega)), decide_eq_false (fun y => z y.1)]
  rw [k1, bq, a9 85 (by omega), h85, b2d, nI_add]
  generalize hs2 : st2 s1 269 85 (nI (o 1 + if u = 1 ∧ v = 1 then 1 else 0)) = s2
  have c9 : ∀ j, j ≠ 84 → j ≠ 85 → s2 269 j = q 269 j := fun j j1 j2 => by rw [← hs2, st2_o _ _ (by omega)]; exact a9 j j1
  have c84 : s2 269 84 = nI (o 0 + 1) := by rw [← hs2, st2_o _ _ (by omega)]; exact a84
  have c85 : s2 269 85 = nI (o 1 + if u = 1 ∧ v = 1 then 1 else 0) := by rw [← hs2, st2_eq]
  have co : ∀ m, m ≠ 269 → s2 m = q m := fun m hm => by rw [← hs2, st2_c _ _ hm]; exact ao m hm
  clear hs2
  have k2 : ((if s2 269 89 ≤ 1 then (some false) else (some true)) : Option Bool) = some (decide (u ≠ 1)) := by
    rw [c9 89 (by omega) (by omega), h89]
    by_cases z : u = 1
    · rw [if_pos (by rw [z]; decide), decide_eq_false (fun y => y z)]
    · rw [if_neg (by rw [li1, le_nn (by omega) (by omega)]; omega), decide_eq_true z]
  rw [k2, bq, c9 86 (by omega) (by omega), h86, b2d, nI_add, bq]
  generalize hs3 : st2 s2 269 86 (nI (o 2 + if u ≠ 1 then 1 else 0)) = s3
  have d9 : ∀ j, j ≠ 84 → j ≠ 85 → j ≠ 86 → s3 269 j = q 269 j := fun j j1 j2 j3 => by rw [← hs3, st2_o _ _ (by omega)]; exact c9 j j1 j2
  have d84 : s3 269 84 = nI (o 0 + 1) := by rw [← hs3, st2_o _ _ (by omega)]; exact c84
  have d85 : s3 269 85 = nI (o 1 + if u = 1 ∧ v = 1 then 1 else 0) := by rw [← hs3, st2_o _ _ (by omega)]; exact c85
  have d86 : s3 269 86 = nI (o 2 + if u ≠ 1 then 1 else 0) := by rw [← hs3, st2_eq]
  have do_ : ∀ m, m ≠ 269 → s3 m = q m := fun m hm => by rw [← hs3, st2_c _ _ hm]; exact co m hm
  clear hs3
  have k3 : ((if s3 269 90 ≤ 1 then (some false) else (some true)) : Option Bool) = some (decide (v ≠ 1)) := by
    rw [d9 90 (by omega) (by omega) (by omega), h90]
    by_cases z : v = 1
    · rw [if_pos (by rw [z]; decide), decide_eq_false (fun y => y z)]
    · rw [if_neg (by rw [li1, le_nn (by omega) (by omega)]; omega), decide_eq_true z]
  rw [k3, bq, d9 87 (by omega) (by omega) (by omega), h87, b2d, nI_add]
  generalize hs4 : st2 s3 269 87 (nI (o 3 + if v ≠ 1 then 1 else 0)) = s4
  have e9 : ∀ j, j ≠ 84 → j ≠ 85 → j ≠ 86 → j ≠ 87 → s4 269 j = q 269 j := fun j j1 j2 j3 j4 => by rw [← hs4, st2_o _ _ (by omega)]; exact d9 j j1 j2 j3
  have e84 : s4 269 84 = nI (o 0 + 1) := by rw [← hs4, st2_o _ _ (by omega)]; exact d84
  have e85 : s4 269 85 = nI (o 1 + if u = 1 ∧ v = 1 then 1 else 0) := by rw [← hs4, st2_o _ _ (by omega)]; exact d85
  have e86 : s4 269 86 = nI (o 2 + if u ≠ 1 then 1 else 0) := by rw [← hs4, st2_o _ _ (by omega)]; exact d86
  have e87 : s4 269 87 = nI (o 3 + if v ≠ 1 then 1 else 0) := by rw [← hs4, st2_eq]
  have eo : ∀ m, m ≠ 269 → s4 m = q m := fun m hm => by rw [← hs4, st2_c _ _ hm]; exact do_ m hm
  clear hs4
  have x89 : s4 269 89 = nI u := by rw [e9 89 (by omega) (by omega) (by omega) (by omega)]; exact h89
  have x90 : s4 269 90 = nI v := by rw [e9 90 (by omega) (by omega) (by omega) (by omega)]; exact h90
  have x88 : s4 269 88 = nI (o 4) := by rw [e9 88 (by omega) (by omega) (by omega) (by omega)]; exact h88
  have k4 : ((if s4 269 89 = 3 then (some (st2 s4 269 88 (s4 269 88 + 1))) else (if s4 269 90 = 3 then (some (st2 s4 269 88 (s4 269 88 + 1))) else (some (st2 s4 269 88 (s4 269 88 + 0))))) : Option Mem) = some (st2 s4 269 88 (nI (o 4 + if u = 3 ∨ v = 3 then 1 else 0))) := by
    rw [x88, nI_1, li0, nI_add]
    by_cases z : u = 3
    · rw [if_pos (by rw [x89, z]; rfl), if_pos (Or.inl z)]
    · rw [if_neg (by rw [x89]; exact ne3 z (by omega))]
      by_cases z2 : v = 3
      · rw [if_pos (by rw [x90, z2]; rfl), if_pos (Or.inr z2)]
      · rw [if_neg (by rw [x90]; exact ne3 z2 (by omega)), if_neg (fun y => y.elim z z2)]
  rw [k4]
  exact ⟨_, rfl, by rw [st2_o _ _ (by omega)]; exact e84, by rw [st2_o _ _ (by omega)]; exact e85, by rw [st2_o _ _ (by omega)]; exact e86, by rw [st2_o _ _ (by omega)]; exact e87, st2_eq _ _ _ _, fun j hj => by rw [st2_o _ _ (by omega)]; exact e9 j (by omega) (by omega) (by omega) (by omega), fun m hm => by rw [st2_c _ _ hm]; exact eo m hm⟩
