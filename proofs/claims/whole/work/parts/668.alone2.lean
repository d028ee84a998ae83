/-! ===== alone, swaps ===== -/
def eqR (c d : Nat → Nat) : Nat → Bool
  | 0 => true
  | n + 1 => eqR c d n && decide (c n = d n)
theorem eqR_iff {c d : Nat → Nat} : ∀ n, eqR c d n = true ↔ ∀ k, k < n → c k = d k
  | 0 => ⟨fun _ k hk => absurd hk (by omega), fun _ => rfl⟩
  | n + 1 => by
    unfold eqR
    rw [Bool.and_eq_true, decide_eq_true_eq, eqR_iff n]
    constructor
    · rintro ⟨h1, h2⟩ k hk
      by_cases e : k = n
      · rw [e]; exact h2
      · exact h1 k (by omega)
    · intro h; exact ⟨fun k hk => h k (by omega), h n (by omega)⟩
theorem eqR_t {c d : Nat → Nat} {n : Nat} (h : ∀ k, k < n → c k = d k) : eqR c d n = true := (eqR_iff n).mpr h
theorem eqR_f {c d : Nat → Nat} {n : Nat} (h : ¬ ∀ k, k < n → c k = d k) : eqR c d n = false := Bool.eq_false_iff.mpr (fun z => h ((eqR_iff n).mp z))
theorem c_sameKeys {a : Mem} {x y : Nat} {c d : Nat → Nat} (hx : RW a x c) (hy : RW a y d) (hc : ∀ k, k < 10 → c k ≤ 100) (hd : ∀ k, k < 10 → d k ≤ 100) : fX11_sameKeys x y a = some (eqR c d 10, a) := by
  unfold fX11_sameKeys
  refine loop_x (fun f j (s : Mem) => lX11_sameKeys_2 x y f (nI j) s) 10 (fun j s => s = a ∧ ∀ k, k < j → c k = d k) (fun r => if eqR c d 10 = true then r = .inr a else r = .inl (false, a)) (Nat.zero_le _) (by omega) (s := a) ⟨rfl, fun k hk => absurd hk (by omega)⟩ ?_ ?_ ?_
  · intro r e1 e2
    have e1' : lX11_sameKeys_2 x y FU 0 a = some r := e1
    rw [e1', bq]
    by_cases h : ∀ k, k < 10 → c k = d k
    · rw [if_pos (eqR_t h)] at e2; rw [e2, eqR_t h]; rfl
    · rw [if_neg (by rw [eqR_f h]; decide)] at e2; rw [e2, eqR_f h]; rfl
  · rintro f s ⟨rfl, h⟩
    refine ⟨.inr s, ?_, by rw [if_pos (eqR_t h)]⟩
    show lX11_sameKeys_2 _ _ _ _ _ = _
    rw [lX11_sameKeys_2, if_pos (by decide)]
  · rintro f j s hj ⟨rfl, h⟩
    have h1 := hc j hj
    have h2 := hd j hj
    by_cases e : c j = d j
    · left
      refine ⟨s, ?_, rfl, fun k hk => ?_⟩
      · show lX11_sameKeys_2 _ _ _ _ _ = lX11_sameKeys_2 _ _ _ _ _
        rw [lX11_sameKeys_2, if_neg (by rw [li10, le_nn (by omega) (by omega)]; omega), inb_T hj (by omega), gdT, gdT, nI_ck (by omega), if_pos (by rw [hx j hj, hy j hj, e]), nI_1]
      · by_cases ek : k = j
        · rw [ek]; exact e
        · exact h k (by omega)
    · right
      refine ⟨.inl (false, s), ?_, by rw [if_neg (fun z => e ((eqR_iff 10).mp z j hj))]⟩
      show lX11_sameKeys_2 _ _ _ _ _ = _
      rw [lX11_sameKeys_2, if_neg (by rw [li10, le_nn (by omega) (by omega)]; omega), inb_T hj (by omega), gdT, gdT, nI_ck (by omega), if_neg (by rw [hx j hj, hy j hj, eq_vv (by omega) (by omega)]; exact e)]
def okR (c : Nat → Nat) : Prop := ∀ k, k < 10 → c k ≤ 100
/-- a row behind a task -/
def rA (B : Nat → Nat → Nat) (t : Nat) (c : Nat → Nat) : Nat → Nat := (rnA B t (B 1 t) (0, c)).2
theorem okR.rA {B : Nat → Nat → Nat} {c : Nat → Nat} (gB : okB B) (h : okR c) (t : Nat) : okR (rA B t c) := (okQ.rn gB (q := (0, c)) ⟨by show 0 ≤ 99; omega, h⟩ t (B 1 t)).2
theorem c_runBoth {a : Mem} {s n m t u : Nat} {B : Nat → Nat → Nat} {c : Nat → Nat} (hB : BK a n B) (gB : okB B) (hm : ¬ (n ≤ m ∧ m ≤ n + 4)) (hms : m ≠ s + 1) (ht : t < B 0 0) (hu : u < B 0 0) (hc : okR c) (hr : RW a (s + 1) c) : ∃ a', fX11_runBoth s n (nI t) (nI u) m a = some a' ∧ RW a' m (rA B u (rA B t c)) ∧ frN m a a' := by
  obtain ⟨a1, p1, p2, p3⟩ := c_copyKeys (y := m) hr
  obtain ⟨a2, q1, q2, q3⟩ := c_runAlone (hB.fr hm p3) gB hm ht hc p2
  obtain ⟨a3, r1, r2, r3⟩ := c_runAlone ((hB.fr hm p3).fr hm q3) gB hm hu (okR.rA gB hc t) q2
  unfold fX11_runBoth
  rw [p1, bq, q1, bq]
  dsimp only
  rw [r1, bq]
  exact ⟨a3, rfl, r2, (p3.tr q3).tr r3⟩
/-- both ways lead to the same -/
def swp (B : Nat → Nat → Nat) (c : Nat → Nat) (x y : Nat) : Nat := if eqR (rA B y (rA B x c)) (rA B x (rA B y c)) 10 = true then 1 else 0
theorem c_swaps1 {a : Mem} {s n x z0 : Nat} {B : Nat → Nat → Nat} {c : Nat → Nat} (hs : s < 2) (hn : n < 2) (hB : BK a (10 + 14 * n) B) (gB : okB B) (hc : okR c) (hr : RW a (8 + 14 * s + 1) c) (hx : x < B 0 0) : ∃ a', lX11_swaps_57 (nI s) (10 + 14 * n) (nI x) FU (nI z0) (nI (x + 1)) a = some (nI (z0 + sm (fun y => if x < y then swp B c x y else 0) (B 0 0)), a') ∧ ∀ m, m ≠ 267 → m ≠ 268 → a' m = a m := by
  have g1 := gB.1
  refine loop_k (fun f j (q : Int32 × Mem) => lX11_swaps_57 (nI s) (10 + 14 * n) (nI x) f q.1 (nI j) q.2) (B 0 0) (fun j q => x < j ∧ q.1 = nI (z0 + sm (fun y => if x < y then swp B c x y else 0) j) ∧ ∀ m, m ≠ 267 → m ≠ 268 → q.2 m = a m) (fun r => r.1 = nI (z0 + sm (fun y => if x < y then swp B c x y else 0) (B 0 0)) ∧ ∀ m, m ≠ 267 → m ≠ 268 → r.2 m = a m) (j := x + 1) (by omega) (by omega) (s := (nI z0, a)) ⟨by omega, by rw [sm_zero _ (fun i hi => if_neg (by omega)), Nat.add_zero], fun _ _ _ => rfl⟩ ?_ ?_ ?_
  · rintro ⟨r1, r2⟩ e1 ⟨e2, e3⟩
    dsimp only at e2 e3
    exact ⟨r2, by rw [← e2]; exact e1, e3⟩
  · rintro f ⟨q1, q2⟩ ⟨-, h2, h3⟩
    dsimp only at h2 h3
    refine ⟨(q1, q2), ?_, h2, h3⟩
    show lX11_swaps_57 _ _ _ _ _ _ _ = _
    have hB0 : q2 (10 + 14 * n) 0 = nI (B 0 0) := by rw [h3 _ (by omega) (by omega)]; exact hB.1
    dsimp only
    rw [lX11_swaps_57, if_pos (by rw [hB0, le_nn (by omega) (by omega)]; omega)]
  · rintro f y ⟨q1, q2⟩ hy ⟨hxy, h2, h3⟩
    dsimp only at h2 h3
    have hB' : BK q2 (10 + 14 * n) B := by
      unfold BK
      rw [h3 _ (by omega) (by omega), h3 (10 + 14 * n + 1) (by omega) (by omega), h3 (10 + 14 * n + 2) (by omega) (by omega), h3 (10 + 14 * n + 3) (by omega) (by omega), h3 (10 + 14 * n + 4) (by omega) (by omega)]
      exact hB
    have hr' : RW q2 (8 + 14 * s + 1) c := by
      unfold RW
      rw [h3 _ (by omega) (by omega)]
      exact hr
    obtain ⟨a1, p1, p2, p3⟩ := c_runBoth (m := 267) hB' gB (by omega) (by omega) hx hy hc hr'
    obtain ⟨a2, t1, t2, t3⟩ := c_runBoth (m := 268) (hB'.fr (by omega) p3) gB (by omega) (by omega) hy hx hc (show RW a1 (8 + 14 * s + 1) c by unfold RW; rw [p3 _ (by omega)]; exact hr')
    have p2' : RW a2 267 (rA B y (rA B x c)) := by unfold RW; rw [t3 _ (by omega)]; exact p2
    have t5 := c_sameKeys p2' t2 (okR.rA gB (okR.rA gB hc x) y) (okR.rA gB (okR.rA gB hc y) x)
    refine ⟨(nI (z0 + sm (fun y => if x < y then swp B c x y else 0) (y + 1)), a2), ?_, by omega, rfl, fun m m1 m2 => by dsimp only; rw [t3 m m2, p3 m m1]; exact h3 m m1 m2⟩
    show lX11_swaps_57 _ _ _ _ _ _ _ = lX11_swaps_57 _ _ _ _ (nI (z0 + (sm (fun y => if x < y then swp B c x y else 0) y + if x < y then swp B c x y else 0))) _ _
    dsimp only
    rw [lX11_swaps_57, if_neg (by rw [show q2 (10 + 14 * n) 0 = nI (B 0 0) from hB'.1, le_nn (by omega) (by omega)]; omega), inb_T hs (by omega), gdT, nI_ck (by omega), p1, bq, gdT, t1, bq, t5, bq, if_pos hxy]
    dsimp only
    unfold swp
    by_cases hw : eqR (rA B y (rA B x c)) (rA B x (rA B y c)) 10 = true
    · rw [if_pos hw, if_pos hw, bq, h2, nI_1, nI_1, Nat.add_assoc]; rfl
    · rw [if_neg hw, if_neg hw, bq, h2, nI_1]; rfl
theorem c_swaps {a : Mem} {s n : Nat} {B : Nat → Nat → Nat} {c : Nat → Nat} (hs : s < 2) (hn : n < 2) (hB : BK a (10 + 14 * n) B) (gB : okB B) (hc : okR c) (hr : RW a (8 + 14 * s + 1) c) : ∃ a', lX11_swaps_42 (nI s) (10 + 14 * n) FU 0 0 a = some (nI (sm (fun x => sm (fun y => if x < y then swp B c x y else 0) (B 0 0)) (B 0 0)), a') ∧ ∀ m, m ≠ 267 → m ≠ 268 → a' m = a m := by
  have g1 := gB.1
  refine loop_k (fun f j (q : Int32 × Mem) => lX11_swaps_42 (nI s) (10 + 14 * n) f q.1 (nI j) q.2) (B 0 0) (fun j q => q.1 = nI (sm (fun x => sm (fun y => if x < y then swp B c x y else 0) (B 0 0)) j) ∧ ∀ m, m ≠ 267 → m ≠ 268 → q.2 m = a m) (fun r => r.1 = nI (sm (fun x => sm (fun y => if x < y then swp B c x y else 0) (B 0 0)) (B 0 0)) ∧ ∀ m, m ≠ 267 → m ≠ 268 → r.2 m = a m) (Nat.zero_le _) (by omega) (s := (nI 0, a)) ⟨rfl, fun _ _ _ => rfl⟩ ?_ ?_ ?_
  · rintro ⟨r1, r2⟩ e1 ⟨e2, e3⟩
    dsimp only at e2 e3
    exact ⟨r2, by rw [← e2]; exact e1, e3⟩
  · rintro f ⟨q1, q2⟩ ⟨h2, h3⟩
    dsimp only at h2 h3
    refine ⟨(q1, q2), ?_, h2, h3⟩
    show lX11_swaps_42 _ _ _ _ _ _ = _
    have hB0 : q2 (10 + 14 * n) 0 = nI (B 0 0) := by rw [h3 _ (by omega) (by omega)]; exact hB.1
    dsimp only
    rw [lX11_swaps_42, if_pos (by rw [hB0, le_nn (by omega) (by omega)]; omega)]
  · rintro f x ⟨q1, q2⟩ hx ⟨h2, h3⟩
    dsimp only at h2 h3
    have hB' : BK q2 (10 + 14 * n) B := by
      unfold BK
      rw [h3 _ (by omega) (by omega), h3 (10 + 14 * n + 1) (by omega) (by omega), h3 (10 + 14 * n + 2) (by omega) (by omega), h3 (10 + 14 * n + 3) (by omega) (by omega), h3 (10 + 14 * n + 4) (by omega) (by omega)]
      exact hB
    have hr' : RW q2 (8 + 14 * s + 1) c := by
      unfold RW
      rw [h3 _ (by omega) (by omega)]
      exact hr
    obtain ⟨a1, p1, p2⟩ := c_swaps1 (z0 := sm (fun x => sm (fun y => if x < y then swp B c x y else 0) (B 0 0)) x) hs hn hB' gB hc hr' hx
    refine ⟨(nI (sm (fun x => sm (fun y => if x < y then swp B c x y else 0) (B 0 0)) (x + 1)), a1), ?_, rfl, fun m m1 m2 => by dsimp only; rw [p2 m m1 m2]; exact h3 m m1 m2⟩
    show lX11_swaps_42 _ _ _ _ _ _ = lX11_swaps_42 _ _ _ _ _ _
    dsimp only
    rw [lX11_swaps_42, if_neg (by rw [show q2 (10 + 14 * n) 0 = nI (B 0 0) from hB'.1, le_nn (by omega) (by omega)]; omega), h2, nI_1, p1, bq]
    rfl
/-! the reference -/
theorem m_keepEnd {b : Mem} {G : Nat → Nat → Nat} {sp : Nat} (hG : MG b G sp) : ∃ b', fX12_keepEnd b = some b' ∧ b' 269 72 = nI (thr (G 0)) ∧ (∀ k, k < 10 → b' 309 k = nI (G 0 k - 1)) ∧ (∀ j, j ≠ 72 → b' 269 j = b 269 j) ∧ ∀ m, m ≠ 269 → m ≠ 309 → b' m = b m := by
  unfold fX12_keepEnd
  refine loop_k (fun f j (q : Mem) => lX12_keepEnd_10 f (nI j) q) 10 (fun j q => (∀ k, k < j → q 309 k = nI (G 0 k - 1)) ∧ q 269 = (st2 b 269 72 (b 269 30)) 269 ∧ ∀ m, m ≠ 269 → m ≠ 309 → q m = b m) (fun q => (∀ k, k < 10 → q 309 k = nI (G 0 k - 1)) ∧ q 269 = (st2 b 269 72 (b 269 30)) 269 ∧ ∀ m, m ≠ 269 → m ≠ 309 → q m = b m) (Nat.zero_le _) (by omega) (s := st2 b 269 72 (b 269 30)) ⟨fun k hk => absurd hk (by omega), rfl, fun m hm _ => st2_c _ _ hm⟩ ?_ ?_ ?_
  · rintro r e1 ⟨e2, e3, e4⟩
    have e1' : lX12_keepEnd_10 FU 0 (st2 b 269 72 (b 269 30)) = some r := e1
    rw [e1', bq]
    exact ⟨r, rfl, by rw [e3, st2_eq]; exact hG.2.1, e2, fun j hj => by rw [e3, st2_o _ _ (by omega)], e4⟩
  · intro f q h
    refine ⟨q, ?_, h⟩
    show lX12_keepEnd_10 _ _ _ = _
    rw [lX12_keepEnd_10, if_pos (by decide)]
  · rintro f j q hj ⟨h1, h2, h3⟩
    refine ⟨st2 q 309 j (nI (G 0 j - 1)), ?_, fun k hk => ?_, by rw [st2_c _ _ (by omega)]; exact h2, fun m m1 m2 => by rw [st2_c _ _ m2]; exact h3 m m1 m2⟩
    · show lX12_keepEnd_10 _ _ _ = lX12_keepEnd_10 _ _ _
      rw [lX12_keepEnd_10, if_neg (by rw [li10, le_nn (by omega) (by omega)]; omega), inb_T hj (by omega), gdT, gdT, nI_ck (by omega), h3 281 (by omega) (by omega), hG.2.2.1 j hj, nI_1]
    · by_cases e : k = j
      · subst e; rw [st2_eq]
      · rw [st2_o _ _ (by omega)]; exact h1 k (by omega)
theorem m_isEnd {b : Mem} {G : Nat → Nat → Nat} {c : Nat → Nat} {sp : Nat} (hG : MG b G sp) (gG : okG G) (hc : okR c) (h72 : b 269 72 = nI (thr c)) (h309 : ∀ k, k < 10 → b 309 k = nI (c k - 1)) : fX12_isEnd b = some (eqR c (G 0) 10, b) := by
  have t1 := thr_lt (G 0)
  have t2 := thr_lt c
  unfold fX12_isEnd
  by_cases ht : thr (G 0) = thr c
  · have hz : ∀ k, k < 10 → (c k = 0 ↔ G 0 k = 0) := fun k hk => by
      have h1 := thr_b (G 0) k
      have h2 := thr_b c k
      rw [ht, h2] at h1
      simp [hk] at h1
      exact h1
    rw [if_pos (by rw [hG.2.1, h72, ht]), bq]
    refine loop_k (fun f j (q : Int32) => lX12_isEnd_19 f q (nI j) b) 10 (fun j q => q = b2 (eqR c (G 0) j)) (fun r => r = (b2 (eqR c (G 0) 10), b)) (Nat.zero_le _) (by omega) (s := b2 true) rfl ?_ ?_ ?_
    · rintro r e1 rfl
      have e1' : lX12_isEnd_19 FU (b2 true) 0 b = some _ := e1
      rw [e1', bq]
      dsimp only
      by_cases h : ∀ k, k < 10 → c k = G 0 k
      · rw [eqR_t h]; rfl
      · rw [eqR_f h]; rfl
    · rintro f q rfl
      refine ⟨_, ?_, rfl⟩
      show lX12_isEnd_19 _ _ _ _ = _
      rw [lX12_isEnd_19, if_pos (by decide)]
    · rintro f j q hj rfl
      refine ⟨_, ?_, rfl⟩
      show lX12_isEnd_19 (f + 1) _ (nI j) b = lX12_isEnd_19 f _ (nI (j + 1)) b
      have h1 := hc j hj
      have h2 := (gG j hj).1
      rw [lX12_isEnd_19, if_neg (by rw [li10, le_nn (by omega) (by omega)]; omega), nI_1]
      by_cases h : ∀ k, k < j → c k = G 0 k
      · rw [eqR_t h, if_neg (by decide), hG.2.1, f_has (by omega) (by omega), bq, thr_b]
        dsimp only
        by_cases h0 : G 0 j = 0
        · have : ∀ k, k < j + 1 → c k = G 0 k := fun k hk => by
            by_cases e : k = j
            · rw [e, h0]; exact (hz j hj).mpr h0
            · exact h k (by omega)
          rw [if_neg (by simp [h0]), bq, eqR_t this]
        · rw [if_pos (by simp [h0, hj]), inb_T hj (by omega), gdT, gdT, nI_ck (by omega)]
          by_cases e : c j = G 0 j
          · have : ∀ k, k < j + 1 → c k = G 0 k := fun k hk => by
              by_cases e2 : k = j
              · rw [e2]; exact e
              · exact h k (by omega)
            rw [if_pos (by rw [hG.2.2.1 j hj, h309 j hj, e]), bq, eqR_t this]
          · have hcz : c j ≠ 0 := fun z => h0 ((hz j hj).mp z)
            rw [if_neg (by rw [hG.2.2.1 j hj, h309 j hj, eq_nn (by omega) (by omega)]; omega), bq, eqR_f (fun z => e (z j (by omega)))]
      · rw [eqR_f h, if_pos (by decide), bq, eqR_f (fun z => h (fun k hk => z k (by omega)))]
  · rw [if_neg (by rw [hG.2.1, h72, eq_nn (by omega) (by omega)]; exact ht), bq]
    have hne : ¬ ∀ k, k < 10 → c k = G 0 k := fun z => ht (thr_cg (fun k hk => (z k hk).symm))
    refine loop_k (fun f j (q : Int32) => lX12_isEnd_19 f q (nI j) b) 10 (fun j q => q = 0) (fun r => r = (0, b)) (Nat.zero_le _) (by omega) (s := b2 false) rfl ?_ ?_ ?_
    · rintro r e1 rfl
      have e1' : lX12_isEnd_19 FU (b2 false) 0 b = some _ := e1
      rw [e1', bq, eqR_f hne]
      rfl
    · rintro f q rfl
      refine ⟨_, ?_, rfl⟩
      show lX12_isEnd_19 _ _ _ _ = _
      rw [lX12_isEnd_19, if_pos (by decide)]
    · rintro f j q hj rfl
      refine ⟨_, ?_, rfl⟩
      show lX12_isEnd_19 (f + 1) _ (nI j) b = lX12_isEnd_19 f _ (nI (j + 1)) b
      rw [lX12_isEnd_19, if_neg (by rw [li10, le_nn (by omega) (by omega)]; omega), nI_1, if_pos rfl, bq]
      rfl
