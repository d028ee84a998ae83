/-! ===== weave: how many rows ===== -/
def wa (A i : Nat) : Nat := if A = 0 then 1 else itr (fun j w => w * (A - 1 + (j + 1)) / (j + 1)) 0 i 1
theorem wa_b : ∀ A, A < 7 → ∀ i, i < 7 → wa A i < 1000 := by decide +kernel
theorem c_ways {A i : Nat} {σ : Mem} (hA : A ≤ 6) (hi : i ≤ 6) : fX11_waysAhead (nI A) (nI i) σ = some (nI (wa A i), σ) := by
  unfold fX11_waysAhead
  by_cases z : A = 0
  · have e : wa A i = 1 := if_pos z
    rw [e]
    show (lX11_waysAhead_4 _ _ (4999 + 1) _ _ _).bind _ = _
    rw [lX11_waysAhead_4]
    by_cases z2 : nI i < 1
    · rw [if_pos z2]; rfl
    · rw [if_neg z2, if_pos (by rw [z]; decide)]; rfl
  · refine loop_k (fun f j (s : Nat) => lX11_waysAhead_4 (nI A) (nI i) f (nI s) (nI j) σ) (i + 1) (fun j s => 1 ≤ j ∧ s = wa A (j - 1)) (fun x => x = (nI (wa A i), σ)) (j := 1) (by omega) (by omega) (s := 1) ⟨by omega, by show 1 = wa A 0; unfold wa; rw [if_neg z]; rfl⟩ ?_ ?_ ?_
    · rintro x e1 rfl
      have e1' : lX11_waysAhead_4 (nI A) (nI i) FU 1 1 σ = some (nI (wa A i), σ) := e1
      rw [e1', bq]
    · rintro f s ⟨-, h2⟩
      refine ⟨(nI s, σ), ?_, by rw [h2, Nat.add_sub_cancel]⟩
      show lX11_waysAhead_4 _ _ _ _ _ _ = _
      rw [lX11_waysAhead_4, if_pos (by rw [lt_nn (by omega) (by omega)]; omega)]
    · rintro f j s hj ⟨h1, h2⟩
      have hb := wa_b A (by omega) (j - 1) (by omega)
      rw [← h2] at hb
      have eS : wa A j = s * (A - 1 + j) / j := by
        obtain ⟨m, rfl⟩ : ∃ m, j = m + 1 := ⟨j - 1, by omega⟩
        rw [h2, Nat.add_sub_cancel]
        unfold wa
        rw [if_neg z, if_neg z, itr_S]
      have hm : s * (A - 1 + j) ≤ 1000 * 20 := Nat.mul_le_mul (by omega) (by omega)
      refine ⟨s * (A - 1 + j) / j, ?_, by omega, by rw [Nat.add_sub_cancel, eS]⟩
      show lX11_waysAhead_4 _ _ _ _ _ _ = lX11_waysAhead_4 _ _ _ _ _ _
      have e1 : nI A - 1 = nI (A - 1) := nI_sub (b := 1) (by omega)
      rw [lX11_waysAhead_4, if_neg (by rw [lt_nn (by omega) (by omega)]; omega), if_neg (by rw [li0, le_nn (by omega) (by omega)]; omega), gd_ite _ _ (decide_eq_true (ne0 (show j ≠ 0 by omega) (by omega))), e1, nI_add, pk_mul, nI_dv (by omega) (by omega) (by omega), nI_1]
/-! rows as bits: ones and zeros so far, who was first and how far the other was then -/
abbrev WS : Type := Nat × Nat × Nat
def wst (A N : Nat) (bit : Bool) (q : WS) : WS := if bit = true then (q.1 + 1, q.2.1, if q.2.2 = 0 ∧ q.1 + 1 = A then 1 + q.2.1 else q.2.2) else (q.1, q.2.1 + 1, if q.2.2 = 0 ∧ q.2.1 + 1 = N then 7 + q.1 else q.2.2)
def wi (A N : Nat) : WS := (0, 0, if A = 0 then 1 else if N = 0 then 7 else 0)
def phF (A N : Nat) (set m : Nat) (q : WS) : WS := itr (fun i q => wst A N (set.testBit i) q) 0 m q
def tre (A N : Nat) (H : WS → Nat) : Nat → WS → Nat
  | 0, q => H q
  | m + 1, q => tre A N H m (wst A N false q) + tre A N H m (wst A N true q)
theorem itr_sh {X : Type} {f : Nat → X → X} {x : X} : ∀ m, itr f 0 (m + 1) x = itr (fun i => f (i + 1)) 0 m (f 0 x)
  | 0 => rfl
  | m + 1 => by rw [itr_S, itr_sh m, itr_S]
theorem phF_sh {A N set m : Nat} {q : WS} : phF A N set (m + 1) q = phF A N (set / 2) m (wst A N (set.testBit 0) q) := by
  unfold phF
  rw [itr_sh]
  refine itr_cgX _ (fun i _ y => ?_)
  rw [Nat.testBit_succ]
theorem sm_two {g : Nat → Nat} : ∀ k, sm g (2 * k) = sm (fun s => g (2 * s) + g (2 * s + 1)) k
  | 0 => rfl
  | k + 1 => by
    show sm g (2 * k + 1 + 1) = sm (fun s => g (2 * s) + g (2 * s + 1)) k + (g (2 * k) + g (2 * k + 1))
    show sm g (2 * k) + g (2 * k) + g (2 * k + 1) = _
    rw [sm_two k]; omega
theorem sm_tre {A N : Nat} {H : WS → Nat} : ∀ m q, sm (fun set => H (phF A N set m q)) (2 ^ m) = tre A N H m q
  | 0, q => by show 0 + H q = H q; omega
  | m + 1, q => by
    rw [show 2 ^ (m + 1) = 2 * 2 ^ m by rw [Nat.pow_succ]; omega, sm_two]
    have e0 : ∀ s, phF A N (2 * s) (m + 1) q = phF A N s m (wst A N false q) := fun s => by
      rw [phF_sh, show 2 * s / 2 = s by omega, show (2 * s).testBit 0 = false by rw [Nat.testBit_zero]; exact decide_eq_false (by omega)]
    have e1 : ∀ s, phF A N (2 * s + 1) (m + 1) q = phF A N s m (wst A N true q) := fun s => by
      rw [phF_sh, show (2 * s + 1) / 2 = s by omega, show (2 * s + 1).testBit 0 = true by rw [Nat.testBit_zero]; exact decide_eq_true (by omega)]
    rw [sm_cg (g := fun s => H (phF A N s m (wst A N false q)) + H (phF A N s m (wst A N true q))) _ (fun s _ => by rw [e0, e1]), sm_add, sm_tre m, sm_tre m]
    rfl
/-- rows of one kind -/
def nk (A N κ : Nat) : Nat → WS → Nat := tre A N (fun q => if q.1 = A ∧ q.2.2 = κ then 1 else 0)
theorem wst_b {A N : Nat} {bit : Bool} {q : WS} {m : Nat} (h : q.1 + q.2.1 + (m + 1) ≤ 12) (h2 : q.2.2 < 20) : (wst A N bit q).1 + (wst A N bit q).2.1 + m ≤ 12 ∧ (wst A N bit q).2.2 < 20 := by
  unfold wst
  cases bit
  · rw [if_neg (by decide)]
    refine ⟨by show q.1 + (q.2.1 + 1) + m ≤ 12; omega, ?_⟩
    show (if q.2.2 = 0 ∧ q.2.1 + 1 = N then 7 + q.1 else q.2.2) < 20
    split <;> omega
  · rw [if_pos rfl]
    refine ⟨by show q.1 + 1 + q.2.1 + m ≤ 12; omega, ?_⟩
    show (if q.2.2 = 0 ∧ q.1 + 1 = A then 1 + q.2.1 else q.2.2) < 20
    split <;> omega
theorem sm_one {F : Nat → Nat} {p : Prop} [Decidable p] {v : Nat} : ∀ K, v < K → sm (fun κ => (if p ∧ v = κ then 1 else 0) * F κ) K = if p then F v else 0
  | 0, h => absurd h (by omega)
  | K + 1, h => by
    show sm (fun κ => (if p ∧ v = κ then 1 else 0) * F κ) K + (if p ∧ v = K then 1 else 0) * F K = _
    by_cases e : v = K
    · rw [sm_zero K (fun i hi => by rw [if_neg (fun z => absurd z.2 (by omega)), Nat.zero_mul])]
      by_cases hp : p
      · rw [if_pos ⟨hp, e⟩, if_pos hp, e]; omega
      · rw [if_neg (fun z => hp z.1), if_neg hp]; omega
    · rw [sm_one K (by omega), if_neg (show ¬ (p ∧ v = K) from fun z => e z.2)]; omega
theorem tre_nk {A N : Nat} {F : Nat → Nat} : ∀ m q, q.1 + q.2.1 + m ≤ 12 → q.2.2 < 20 → tre A N (fun q => if q.1 = A then F q.2.2 else 0) m q = sm (fun κ => nk A N κ m q * F κ) 20
  | 0, q, _, h2 => (sm_one 20 h2).symm
  | m + 1, q, h, h2 => by
    obtain ⟨a1, a2⟩ := wst_b (A := A) (N := N) (bit := false) h h2
    obtain ⟨b1, b2'⟩ := wst_b (A := A) (N := N) (bit := true) h h2
    show tre A N _ m _ + tre A N _ m _ = _
    rw [tre_nk m _ a1 a2, tre_nk m _ b1 b2', ← sm_add]
    refine sm_cg _ (fun κ _ => ?_)
    rw [← Nat.add_mul]
    rfl
def fp (A N : Nat) : Nat := if A = 0 then 1 else N
def sq (A N : Nat) : Nat := if N = 0 then min 1 A else A
def wy (A N κ : Nat) : Nat := if κ = 0 then 0 else if κ ≤ 6 then (if κ - 1 < fp A N then wa A (κ - 1) else 0) else if κ ≤ 12 then (if κ - 7 < sq A N then wa N (κ - 7) else 0) else 0
theorem nk_wy : ∀ A, A < 7 → ∀ N, N < 7 → ∀ κ, κ < 20 → nk A N κ (A + N) (wi A N) = wy A N κ := by decide +kernel
theorem sm_if {x : Nat → Nat} {p : Nat} : ∀ n, p ≤ n → sm (fun i => if i < p then x i else 0) n = sm x p := by
  intro n
  induction n with
  | zero => intro h; rw [show p = 0 by omega]; rfl
  | succ n ih =>
    intro h
    show sm (fun i => if i < p then x i else 0) n + (if n < p then x n else 0) = _
    by_cases e : p = n + 1
    · rw [if_pos (by omega), e, sm_cg (g := x) n (fun i hi => if_pos (by omega))]; rfl
    · rw [ih (by omega), if_neg (by omega)]; rfl
theorem sm_split {f : Nat → Nat} (z0 : f 0 = 0) (z1 : ∀ κ, 13 ≤ κ → f κ = 0) : sm f 20 = sm (fun i => f (1 + i)) 6 + sm (fun i => f (7 + i)) 6 := by
  have g3 := z1 13 (by omega)
  have g4 := z1 14 (by omega)
  have g5 := z1 15 (by omega)
  have g6 := z1 16 (by omega)
  have g7 := z1 17 (by omega)
  have g8 := z1 18 (by omega)
  have g9 := z1 19 (by omega)
  simp only [sm, Nat.reduceAdd]
  omega
/-- rows and what they come to, together -/
theorem rows_eq {A N : Nat} {F : Nat → Nat} (hA : A ≤ 6) (hN : N ≤ 6) : sm (fun set => if (phF A N set (A + N) (wi A N)).1 = A then F (phF A N set (A + N) (wi A N)).2.2 else 0) (2 ^ (A + N)) = sm (fun i => wa A i * F (1 + i)) (fp A N) + sm (fun i => wa N i * F (7 + i)) (sq A N) := by
  have h1 := sm_tre (A := A) (N := N) (H := fun q => if q.1 = A then F q.2.2 else 0) (A + N) (wi A N)
  have hw : (wi A N).1 + (wi A N).2.1 + (A + N) ≤ 12 := by show 0 + 0 + (A + N) ≤ 12; omega
  have hw2 : (wi A N).2.2 < 20 := by
    show (if A = 0 then 1 else if N = 0 then 7 else 0) < 20
    split
    · omega
    · split <;> omega
  refine h1.trans ?_
  rw [tre_nk _ _ hw hw2, sm_cg (g := fun κ => wy A N κ * F κ) _ (fun κ hκ => by rw [nk_wy A (by omega) N (by omega) κ hκ])]
  have hfp : fp A N ≤ 6 := by unfold fp; split <;> omega
  have hsq : sq A N ≤ 6 := by unfold sq; split <;> omega
  rw [← sm_if 6 hfp, ← sm_if 6 hsq]
  have e1 : ∀ i, i < 6 → (if i < fp A N then wa A i * F (1 + i) else 0) = wy A N (1 + i) * F (1 + i) := fun i hi => by
    have ew : wy A N (1 + i) = if i < fp A N then wa A i else 0 := by
      unfold wy
      rw [if_neg (by omega), if_pos (by omega), show 1 + i - 1 = i by omega]
    rw [ew]
    split
    · rfl
    · rw [Nat.zero_mul]
  have e2 : ∀ i, i < 6 → (if i < sq A N then wa N i * F (7 + i) else 0) = wy A N (7 + i) * F (7 + i) := fun i hi => by
    have ew : wy A N (7 + i) = if i < sq A N then wa N i else 0 := by
      unfold wy
      rw [if_neg (by omega), if_neg (by omega), if_pos (by omega), show 7 + i - 7 = i by omega]
    rw [ew]
    split
    · rfl
    · rw [Nat.zero_mul]
  rw [sm_cg 6 e1, sm_cg 6 e2]
  have z0 : wy A N 0 * F 0 = 0 := by show 0 * _ = 0; rw [Nat.zero_mul]
  have z1 : ∀ κ, 13 ≤ κ → wy A N κ * F κ = 0 := fun κ h => by unfold wy; rw [if_neg (by omega), if_neg (by omega), if_neg (by omega), Nat.zero_mul]
  exact sm_split (f := fun κ => wy A N κ * F κ) z0 z1
