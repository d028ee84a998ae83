/-! ===== text: kept ===== -/
theorem RR.flt {a b a' b' : Mem} (h : RR a b) (hc : ∀ m, 2 ≤ m → m ≤ 142 → a' m = a m) (h1 : ∃ n : Nat, n ≤ 600 ∧ a' 1 1 = nI n ∧ b' 271 0 = nI n) (hb : ∀ m, m = 270 ∨ (274 ≤ m ∧ m ≤ 278) ∨ m = 313 → b' m = b m) (hj : ∀ m, 271 ≤ m → m ≤ 273 → ∀ j, j ≠ 0 → b' m j = b m j) (h2 : b' 272 0 = a' 1 2) (h3 : b' 273 0 = a' 1 3) : RR a' b' := by
  refine ⟨h.1.hd (fun c c1 c2 => hc _ (by omega) (by omega)) (fun x hx => hb x (by omega)) h1 h2 h3, fun j hj3 => (h.2 j hj3).keep hj3 (fun x x1 x2 => hc x (by omega) x2) ⟨?_, ?_, ?_, ?_, ?_, ?_, ?_, ?_, ?_⟩ (hb 313 (by omega))⟩
  · exact hj 271 (by omega) (by omega) _ (by omega)
  · intro i _; rw [hb 270 (by omega)]
  · exact hj 272 (by omega) (by omega) _ (by omega)
  · exact hj 273 (by omega) (by omega) _ (by omega)
  · intro i _; rw [hb 274 (by omega)]
  · intro i _; rw [hb 275 (by omega)]
  · intro i _; rw [hb 276 (by omega)]
  · intro i _; rw [hb 277 (by omega)]
  · intro i _; rw [hb 278 (by omega)]
def wdt (s : Nat) : Nat := if s = 0 then 13 else if s = 1 then 134 else if s = 2 then 121 else 17
theorem wdt_v : wdt 0 = 13 ∧ wdt 1 = 134 ∧ wdt 2 = 121 ∧ wdt 3 = 17 := by decide
/-- a text put into its place -/
theorem RR.put {a b a' b' : Mem} {s pl c c' t u : Nat} {R : Nat → Int32} (h : RR a b) (hs : s < 4) (hpl : pl < 2) (hc : c ≤ 2) (hcs : a 3 s = nI c) (hcc : (c' = c ∧ pl < c) ∨ (c' = c + 1 ∧ pl = c))
    (A : ∀ m, 2 ≤ m → m ≤ 142 → m ≠ 3 → ¬ bk s pl m → a' m = a m) (A1 : ∃ n : Nat, n ≤ 600 ∧ a' 1 1 = nI n ∧ b' 271 0 = nI n) (A3 : a' 3 s = nI c') (A4 : ∀ j, j ≠ s → a' 3 j = a 3 j)
    (B : ∀ m, m = 270 ∨ m = 313 → b' m = b m) (Bj : ∀ m, 271 ≤ m → m ≤ 273 → ∀ j, j ≠ 0 → b' m j = b m j) (B2 : b' 272 0 = a' 1 2) (B3 : b' 273 0 = a' 1 3) (B4 : b' 274 s = nI c') (B5 : ∀ j, j ≠ s → b' 274 j = b 274 j)
    (B6 : ∀ m, 275 ≤ m → m ≤ 278 → m ≠ 275 + s → b' m = b m) (B7 : ∀ j, j < wdt s → b' (275 + s) (wdt s * pl + j) = R j) (B8 : ∀ j, ¬ (wdt s * pl ≤ j ∧ j < wdt s * pl + wdt s) → b' (275 + s) j = b (275 + s) j) (hP : PO s pl a' R t u) : RR a' b' := by
  obtain ⟨w0, w1, w2, w3⟩ := wdt_v
  have hbk : ∀ m, bk s pl m → m ≤ 36 := fun m q => by unfold bk at q; omega
  obtain ⟨⟨q1, q2, q3, q4, q5, q6, q7, q8, q9⟩, hI⟩ := h
  have hcnt : ∀ j, j < 4 → j ≠ s → a' (1 + 2) j = a (1 + 2) j := fun j _ e => A4 j e
  have hlt : ∀ k, nI k < a' (1 + 2) s → k < 2 → k < c' := fun k q hk => by
    rw [show a' (1 + 2) s = nI c' from A3] at q
    exact (lt_nn (by omega) (by omega)).mp q
  have hlt2 : ∀ k, k < c' → k ≠ pl → nI k < a (1 + 2) s := fun k q e => by
    rw [show a (1 + 2) s = nI c from hcs, lt_nn (by omega) (by omega)]; omega
  refine ⟨⟨A1, ?_, B2, B3, ?_, ?_, ?_, ?_, ?_⟩, fun j hj => (hI j hj).keep hj (fun x x1 x2 => A x (by omega) x2 (by omega) (fun q => by unfold bk at q; omega)) ⟨?_, ?_, ?_, ?_, ?_, ?_, ?_, ?_, ?_⟩ (B 313 (by omega))⟩
  · intro i hi
    rw [A (1 + 1) (by omega) (by omega) (by omega) (fun q => by unfold bk at q; omega), B 270 (by omega)]
    exact q2 i hi
  · intro j hj
    unfold MR
    by_cases e : j = s
    · subst e
      rw [show 4 * 0 + j = j by omega]
      exact ⟨c', by omega, A3, B4⟩
    · rw [hcnt j hj e, show 4 * 0 + j = j by omega, B5 j e]
      have := q5 j hj
      unfold MR at this
      rw [show 4 * 0 + j = j by omega] at this
      exact this
  · intro k hk hm
    unfold SR
    by_cases es : s = 0
    · subst es
      rw [w0] at B7 B8
      by_cases ek : k = pl
      · subst ek
        exact (hP.1 rfl).cg (fun i hi => by rw [show 26 * 0 + 13 * k + i = 13 * k + i by omega]; exact B7 i hi)
      · have h := q6 k hk (hlt2 k (hlt k hm hk) ek)
        unfold SR at h
        rw [A (1 + 7 + 14 * k) (by omega) (by omega) (by omega) (fun q => by unfold bk at q; omega), A (1 + 7 + 14 * k + 1) (by omega) (by omega) (by omega) (fun q => by unfold bk at q; omega)]
        exact h.cg (fun i hi => B8 _ (by omega))
    · rw [hcnt 0 (by omega) (by omega)] at hm
      have h := q6 k hk hm
      unfold SR at h
      rw [A (1 + 7 + 14 * k) (by omega) (by omega) (by omega) (fun q => by unfold bk at q; omega), A (1 + 7 + 14 * k + 1) (by omega) (by omega) (by omega) (fun q => by unfold bk at q; omega), B6 275 (by omega) (by omega) (by omega)]
      exact h
  · intro k hk hm
    unfold BR
    by_cases es : s = 1
    · subst es
      rw [w1] at B7 B8
      by_cases ek : k = pl
      · subst ek
        exact (hP.2.1 rfl).2.2.1.cg (fun i hi => by rw [show 268 * 0 + 134 * k + i = 134 * k + i by omega]; exact B7 i hi)
      · have h := q7 k hk (hlt2 k (hlt k hm hk) ek)
        unfold BR at h
        rw [A (1 + 9 + 14 * k) (by omega) (by omega) (by omega) (fun q => by unfold bk at q; omega), A (1 + 9 + 14 * k + 1) (by omega) (by omega) (by omega) (fun q => by unfold bk at q; omega), A (1 + 9 + 14 * k + 2) (by omega) (by omega) (by omega) (fun q => by unfold bk at q; omega), A (1 + 9 + 14 * k + 3) (by omega) (by omega) (by omega) (fun q => by unfold bk at q; omega), A (1 + 9 + 14 * k + 4) (by omega) (by omega) (by omega) (fun q => by unfold bk at q; omega)]
        exact h.cg (fun i hi => B8 _ (by omega))
    · rw [hcnt 1 (by omega) (by omega)] at hm
      have h := q7 k hk hm
      unfold BR at h
      rw [A (1 + 9 + 14 * k) (by omega) (by omega) (by omega) (fun q => by unfold bk at q; omega), A (1 + 9 + 14 * k + 1) (by omega) (by omega) (by omega) (fun q => by unfold bk at q; omega), A (1 + 9 + 14 * k + 2) (by omega) (by omega) (by omega) (fun q => by unfold bk at q; omega), A (1 + 9 + 14 * k + 3) (by omega) (by omega) (by omega) (fun q => by unfold bk at q; omega), A (1 + 9 + 14 * k + 4) (by omega) (by omega) (by omega) (fun q => by unfold bk at q; omega), B6 276 (by omega) (by omega) (by omega)]
      exact h
  · intro k hk hm
    unfold PR
    by_cases es : s = 2
    · subst es
      rw [w2] at B7 B8
      by_cases ek : k = pl
      · subst ek
        exact (hP.2.2.1 rfl).cg (fun i hi => by rw [show 242 * 0 + 121 * k + i = 121 * k + i by omega]; exact B7 i hi)
      · have h := q8 k hk (hlt2 k (hlt k hm hk) ek)
        unfold PR at h
        rw [A (1 + 14 + 14 * k) (by omega) (by omega) (by omega) (fun q => by unfold bk at q; omega), A (1 + 14 + 14 * k + 1) (by omega) (by omega) (by omega) (fun q => by unfold bk at q; omega), A (1 + 14 + 14 * k + 2) (by omega) (by omega) (by omega) (fun q => by unfold bk at q; omega), A (1 + 14 + 14 * k + 3) (by omega) (by omega) (by omega) (fun q => by unfold bk at q; omega)]
        exact h.cg (fun i hi => B8 _ (by omega))
    · rw [hcnt 2 (by omega) (by omega)] at hm
      have h := q8 k hk hm
      unfold PR at h
      rw [A (1 + 14 + 14 * k) (by omega) (by omega) (by omega) (fun q => by unfold bk at q; omega), A (1 + 14 + 14 * k + 1) (by omega) (by omega) (by omega) (fun q => by unfold bk at q; omega), A (1 + 14 + 14 * k + 2) (by omega) (by omega) (by omega) (fun q => by unfold bk at q; omega), A (1 + 14 + 14 * k + 3) (by omega) (by omega) (by omega) (fun q => by unfold bk at q; omega), B6 277 (by omega) (by omega) (by omega)]
      exact h
  · intro k hk hm
    unfold DR
    by_cases es : s = 3
    · subst es
      rw [w3] at B7 B8
      by_cases ek : k = pl
      · subst ek
        exact (hP.2.2.2 rfl).cg (fun i hi => by rw [show 34 * 0 + 17 * k + i = 17 * k + i by omega]; exact B7 i hi)
      · have h := q9 k hk (hlt2 k (hlt k hm hk) ek)
        unfold DR at h
        rw [A (1 + 18 + 14 * k) (by omega) (by omega) (by omega) (fun q => by unfold bk at q; omega), A (1 + 18 + 14 * k + 1) (by omega) (by omega) (by omega) (fun q => by unfold bk at q; omega), A (1 + 18 + 14 * k + 2) (by omega) (by omega) (by omega) (fun q => by unfold bk at q; omega)]
        exact h.cg (fun i hi => B8 _ (by omega))
    · rw [hcnt 3 (by omega) (by omega)] at hm
      have h := q9 k hk hm
      unfold DR at h
      rw [A (1 + 18 + 14 * k) (by omega) (by omega) (by omega) (fun q => by unfold bk at q; omega), A (1 + 18 + 14 * k + 1) (by omega) (by omega) (by omega) (fun q => by unfold bk at q; omega), A (1 + 18 + 14 * k + 2) (by omega) (by omega) (by omega) (fun q => by unfold bk at q; omega), B6 278 (by omega) (by omega) (by omega)]
      exact h
  · exact Bj 271 (by omega) (by omega) _ (by omega)
  · intro i _; rw [B 270 (by omega)]
  · exact Bj 272 (by omega) (by omega) _ (by omega)
  · exact Bj 273 (by omega) (by omega) _ (by omega)
  · intro i _; exact B5 _ (by omega)
  · intro i hi
    by_cases es : s = 0
    · subst es; rw [w0] at B8; exact B8 _ (by omega)
    · rw [B6 275 (by omega) (by omega) (by omega)]
  · intro i hi
    by_cases es : s = 1
    · subst es; rw [w1] at B8; exact B8 _ (by omega)
    · rw [B6 276 (by omega) (by omega) (by omega)]
  · intro i hi
    by_cases es : s = 2
    · subst es; rw [w2] at B8; exact B8 _ (by omega)
    · rw [B6 277 (by omega) (by omega) (by omega)]
  · intro i hi
    by_cases es : s = 3
    · subst es; rw [w3] at B8; exact B8 _ (by omega)
    · rw [B6 278 (by omega) (by omega) (by omega)]
theorem m_keep {n1 N1 W k : Nat} {σ : Mem} (h1 : n1 ≠ 279) (hW : W ≤ 134) (hN : W * k + W ≤ N1) (hN1 : N1 < 5000) : ∃ σ', fX12_keep n1 N1 (nI W) (nI k) σ = some σ' ∧ (∀ j, j < W → σ' n1 (W * k + j) = σ 279 j) ∧ (∀ j, ¬ (W * k ≤ j ∧ j < W * k + W) → σ' n1 j = σ n1 j) ∧ ∀ m, m ≠ n1 → σ' m = σ m := by
  unfold fX12_keep
  refine loop_k (fun f j (q : Mem) => lX12_keep_3 n1 N1 (nI W) (nI k) f (nI j) q) W (fun i c => (∀ j, j < i → c n1 (W * k + j) = σ 279 j) ∧ (∀ j, ¬ (W * k ≤ j ∧ j < W * k + i) → c n1 j = σ n1 j) ∧ ∀ m, m ≠ n1 → c m = σ m) (fun c => (∀ j, j < W → c n1 (W * k + j) = σ 279 j) ∧ (∀ j, ¬ (W * k ≤ j ∧ j < W * k + W) → c n1 j = σ n1 j) ∧ ∀ m, m ≠ n1 → c m = σ m) (Nat.zero_le _) (by omega) (s := σ) ⟨fun t ht => absurd ht (by omega), fun _ _ => rfl, fun _ _ => rfl⟩ ?_ ?_ ?_
  · intro c e1 e2
    have e1' : lX12_keep_3 n1 N1 (nI W) (nI k) FU 0 σ = some c := e1
    rw [e1', bq]
    exact ⟨c, rfl, e2⟩
  · rintro f c ⟨g1, g2, g3⟩
    refine ⟨c, ?_, g1, g2, g3⟩
    show lX12_keep_3 _ _ _ _ _ _ _ = _
    rw [lX12_keep_3, if_pos (show nI W ≤ nI W from (le_nn (by omega) (by omega)).mpr (by omega))]
  · rintro f i c hi ⟨g1, g2, g3⟩
    refine ⟨st2 c n1 (W * k + i) (c 279 i), ?_, fun j hj => ?_, fun j hj => ?_, fun m hm => by rw [st2_c _ _ hm]; exact g3 m hm⟩
    · show lX12_keep_3 _ _ _ _ _ _ _ = lX12_keep_3 _ _ _ _ _ _ _
      rw [lX12_keep_3, if_neg (show ¬ nI W ≤ nI i from fun q => absurd ((le_nn (by omega) (by omega)).mp q) (by omega)), pk_mul, nI_add, inb_T (show i < 134 by omega) (by omega), gdT, inb_T (show W * k + i < N1 by omega) (by omega), gdT, nI_ck (show W * k + i < 2147483648 by omega), nI_ck (show i < 2147483648 by omega), nI_1]
    · by_cases e : j = i
      · rw [e, st2_eq, g3 279 (fun q => h1 q.symm)]
      · rw [st2_o _ _ (by omega)]; exact g1 j (by omega)
    · rw [st2_o _ _ (by omega)]; exact g2 j (by omega)
theorem m_keepOf {s pl : Nat} {σ : Mem} (hs : s < 4) (hpl : pl < 2) : ∃ σ', fX12_keepOf (nI s) (nI pl) σ = some σ' ∧ (∀ j, j < wdt s → σ' (275 + s) (wdt s * pl + j) = σ 279 j) ∧ (∀ j, ¬ (wdt s * pl ≤ j ∧ j < wdt s * pl + wdt s) → σ' (275 + s) j = σ (275 + s) j) ∧ ∀ m, m ≠ 275 + s → σ' m = σ m := by
  obtain ⟨w0, w1, w2, w3⟩ := wdt_v
  unfold fX12_keepOf
  rcases (show s = 0 ∨ s = 1 ∨ s = 2 ∨ s = 3 by omega) with rfl | rfl | rfl | rfl
  · rw [w0]
    obtain ⟨σ', r1, r2⟩ := m_keep (n1 := 275) (N1 := 104) (W := 13) (k := pl) (σ := σ) (by omega) (by omega) (by omega) (by omega)
    have r1' : fX12_keep 275 104 13 (nI pl) σ = some σ' := r1
    rw [if_pos (show nI 0 = 0 from rfl), r1', bq]
    exact ⟨σ', rfl, r2⟩
  · rw [w1]
    obtain ⟨σ', r1, r2⟩ := m_keep (n1 := 276) (N1 := 1072) (W := 134) (k := pl) (σ := σ) (by omega) (by omega) (by omega) (by omega)
    have r1' : fX12_keep 276 1072 134 (nI pl) σ = some σ' := r1
    rw [if_neg (show ¬ nI 1 = 0 by decide), if_pos (show nI 1 = 1 from rfl), r1', bq]
    exact ⟨σ', rfl, r2⟩
  · rw [w2]
    obtain ⟨σ', r1, r2⟩ := m_keep (n1 := 277) (N1 := 968) (W := 121) (k := pl) (σ := σ) (by omega) (by omega) (by omega) (by omega)
    have r1' : fX12_keep 277 968 121 (nI pl) σ = some σ' := r1
    rw [if_neg (show ¬ nI 2 = 0 by decide), if_neg (show ¬ nI 2 = 1 by decide), if_pos (show nI 2 = 2 from rfl), r1', bq]
    exact ⟨σ', rfl, r2⟩
  · rw [w3]
    obtain ⟨σ', r1, r2⟩ := m_keep (n1 := 278) (N1 := 136) (W := 17) (k := pl) (σ := σ) (by omega) (by omega) (by omega) (by omega)
    have r1' : fX12_keep 278 136 17 (nI pl) σ = some σ' := r1
    rw [if_neg (show ¬ nI 3 = 0 by decide), if_neg (show ¬ nI 3 = 1 by decide), if_neg (show ¬ nI 3 = 2 by decide), r1', bq]
    exact ⟨σ', rfl, r2⟩
