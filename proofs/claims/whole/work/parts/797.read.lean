/-! ===== text: begun and ended ===== -/
theorem m_fill {b : Mem} {s : Nat} (hs : s < 4) : ∃ c, lX12_readText_2 (nI s) FU 0 b = some c ∧ (∀ j, j < 134 → c 279 j = if s = 0 ∧ j < 2 then 2 else 0) ∧ ∀ m, m ≠ 279 → c m = b m := by
  refine loop_k (fun f j (q : Mem) => lX12_readText_2 (nI s) f (nI j) q) 134 (fun i c => (∀ j, j < i → c 279 j = if s = 0 ∧ j < 2 then 2 else 0) ∧ ∀ m, m ≠ 279 → c m = b m) (fun c => (∀ j, j < 134 → c 279 j = if s = 0 ∧ j < 2 then 2 else 0) ∧ ∀ m, m ≠ 279 → c m = b m) (Nat.zero_le _) (by omega) (s := b) ⟨fun t ht => absurd ht (by omega), fun _ _ => rfl⟩ ?_ ?_ ?_
  · intro c e1 e2; exact ⟨c, e1, e2⟩
  · rintro f c ⟨g1, g2⟩
    refine ⟨c, ?_, g1, g2⟩
    show lX12_readText_2 _ _ _ _ = _
    rw [lX12_readText_2, if_pos (show (134 : Int32) ≤ nI 134 by decide)]
  · rintro f i c hi ⟨g1, g2⟩
    refine ⟨st2 c 279 i (if s = 0 ∧ i < 2 then 2 else 0), ?_, fun j hj => ?_, fun m hm => by rw [st2_c _ _ hm]; exact g2 m hm⟩
    · show lX12_readText_2 _ _ _ _ = lX12_readText_2 _ _ _ _
      have hq : ((if nI s = 0 then (if 2 ≤ nI i then (some 0) else (some 2)) else (some 0)) : Option Int32) = some (if s = 0 ∧ i < 2 then 2 else 0) := by
        by_cases z : s = 0
        · rw [if_pos (show nI s = 0 by rw [z]; rfl)]
          by_cases z2 : i < 2
          · rw [if_neg (show ¬ 2 ≤ nI i from fun q => absurd ((le_nn (a := 2) (by omega) (by omega)).mp q) (by omega)), if_pos ⟨z, z2⟩]
          · rw [if_pos (show 2 ≤ nI i from (le_nn (a := 2) (by omega) (by omega)).mpr (by omega)), if_neg (fun q => z2 q.2)]
        · rw [if_neg (ne0 z (by omega)), if_neg (fun q => z q.1)]
      rw [lX12_readText_2, if_neg (show ¬ (134 : Int32) ≤ nI i from fun q => absurd ((le_nn (a := 134) (by omega) (by omega)).mp q) (by omega)), hq, bq, inb_T hi (by omega), gdT, nI_ck (by omega), nI_1]
    · by_cases e : j = i
      · rw [e, st2_eq]
      · rw [st2_o _ _ (by omega)]; exact g1 j (by omega)
theorem m_init {T : Nat → Nat} {n s : Nat} {b : Mem} (oT : okT T) (hn : n ≤ 600) (hs : s < 4) (hMT : MT b T) (h11 : b 269 11 = nI n) : ∃ c b0, lX12_readText_2 (nI s) FU 0 b = some c ∧ fX12_token (st2 (st2 (st2 c 269 22 0) 269 10 0) 269 17 0) = some b0 ∧ LB b0 T n 0 (0, 0) ∧ CN s b0 0 0 0 ∧ (∀ j, j < 134 → b0 279 j = if s = 0 ∧ j < 2 then 2 else 0) ∧ fr4 b b0 := by
  obtain ⟨c, c1, c2, c3⟩ := m_fill (b := b) hs
  generalize hd : st2 (st2 (st2 c 269 22 0) 269 10 0) 269 17 0 = d
  have dm : ∀ m, m ≠ 269 → d m = c m := fun m hm => by rw [← hd, st2_c _ _ hm, st2_c _ _ hm, st2_c _ _ hm]
  have d11 : d 269 11 = nI n := by rw [← hd, st2_o _ _ (by omega), st2_o _ _ (by omega), st2_o _ _ (by omega), c3 269 (by omega)]; exact h11
  have d10 : d 269 10 = nI 0 := by rw [← hd, st2_o _ _ (by omega), st2_eq]; rfl
  have d17 : d 269 17 = nI 0 := by rw [← hd, st2_eq]; rfl
  have d22 : d 269 22 = nI 0 := by rw [← hd, st2_o _ _ (by omega), st2_o _ _ (by omega), st2_eq]; rfl
  obtain ⟨b0, t1, t2, t3⟩ := m_tok oT hn (Nat.zero_le n) (show MIt d T n 0 from ⟨hMT.c (by rw [dm _ (by omega), c3 _ (by omega)]), d11, d10⟩)
  have h279 : ∀ j, j < 134 → b0 279 j = if s = 0 ∧ j < 2 then 2 else 0 := fun j hj => by rw [t3.2 279 (by omega), dm _ (by omega)]; exact c2 j hj
  have hz : s ≠ 0 → ∀ j, j < 134 → b0 279 j = nI 0 := fun z j hj => by rw [h279 j hj, if_neg (fun q => z q.1)]; rfl
  have e17 : b0 269 17 = nI 0 := by rw [t3.1 17 (by unfold jT; omega)]; exact d17
  have e22 : b0 269 22 = nI 0 := by rw [t3.1 22 (by unfold jT; omega)]; exact d22
  refine ⟨c, b0, c1, by rw [hd]; exact t1, ⟨t2, ⟨by show 0 ≤ 3; omega, e17, fun q => absurd rfl q⟩, fun q => absurd rfl q⟩, ⟨fun es => ⟨by omega, by omega, hz (by omega) 0 (by omega), e22, fun q => absurd q (by omega), fun v hv => ⟨0, by omega, hz (by omega) _ (by omega)⟩⟩, fun es => ⟨hz (by omega) 0 (by omega), by omega⟩, fun es => ⟨hz (by omega) 0 (by omega), by omega⟩⟩, h279, fun m m1 m2 _ => by rw [t3.2 m m1, dm m m1, c3 m m2]⟩
theorem c_rew {n : Nat} {a : Mem} (hn : n ≤ 600) : fX5_rewind (nI n) a = some (st2 (st2 (st2 a 143 1 (nI n)) 143 2 0) 143 6 0) := by
  unfold fX5_rewind mn
  rw [if_neg (show ¬ 600 < nI n from fun q => absurd ((lt_nn (a := 600) (by omega) (by omega)).mp q) (by omega))]
/-- a place cleared -/
theorem c_clear {s pl : Nat} {a b0 : Mem} (hs : s < 4) (hpl : pl < 2) (h : ∀ j, j < 134 → b0 279 j = if s = 0 ∧ j < 2 then 2 else 0) : ∃ a', fX9_clearPlace 1 (nI s) (nI pl) a = some a' ∧ PO s pl a' (b0 279) 0 0 ∧ ∀ m, ¬ bk s pl m → a' m = a m := by
  have hz : s ≠ 0 → ∀ j, j < 134 → b0 279 j = nI 0 := fun z j hj => by rw [h j hj, if_neg (fun q => z q.1)]; rfl
  unfold fX9_clearPlace
  rw [inb_T hpl (by omega), gdT, gdT, gdT, gdT, nI_ck (by omega)]
  rcases (show s = 0 ∨ s = 1 ∨ s = 2 ∨ s = 3 by omega) with rfl | rfl | rfl | rfl
  · obtain ⟨a1, f1, f2, f3, f4⟩ := fillL (st2 (st2 a (1 + 7 + 14 * pl) 0 2) (1 + 7 + 14 * pl) 1 2) (c := 1 + 7 + 14 * pl + 1) (N := 10) (-1) (by omega)
    unfold fX7_clear
    rw [if_pos (show nI 0 = 0 from rfl), f1, bq, bq]
    refine ⟨a1, rfl, ⟨fun _ => ⟨2, 2, 0, by omega, by omega, by omega, ?_, ?_, ?_, ?_, ?_, fun k hk => ?_⟩, no_s (by omega), no_s (by omega), no_s (by omega)⟩, fun m hm => ?_⟩
    · rw [f4 _ (by omega), st2_o _ _ (by omega), st2_eq]; rfl
    · rw [h 0 (by omega), if_pos (by omega)]; rfl
    · rw [f4 _ (by omega), st2_eq]; rfl
    · rw [h 1 (by omega), if_pos (by omega)]; rfl
    · rw [h 2 (by omega), if_neg (by omega)]; rfl
    · rw [Nat.zero_testBit, if_neg (by decide)]
      exact ⟨f2 k hk, by rw [h _ (by omega), if_neg (by omega)]⟩
    · unfold bk at hm
      rw [f4 m (by omega), st2_c _ _ (by omega), st2_c _ _ (by omega)]
  · rw [if_neg (show ¬ nI 1 = 0 by decide), if_pos (show nI 1 = 1 from rfl)]
    refine ⟨_, rfl, ⟨no_s (by omega), fun _ => ⟨rfl, by omega, ⟨0, by omega, by rw [st2_eq]; rfl, hz (by omega) 0 (by omega), fun t ht => absurd ht (by omega)⟩, fun v _ v2 => hz (by omega) _ (by omega)⟩, no_s (by omega), no_s (by omega)⟩, fun m hm => by unfold bk at hm; exact st2_c _ _ (by omega)⟩
  · rw [if_neg (show ¬ nI 2 = 0 by decide), if_neg (show ¬ nI 2 = 1 by decide), if_pos (show nI 2 = 2 from rfl)]
    refine ⟨_, rfl, ⟨no_s (by omega), no_s (by omega), fun _ => ⟨0, by omega, by rw [st2_eq]; rfl, hz (by omega) 0 (by omega), fun t ht => absurd ht (by omega)⟩, no_s (by omega)⟩, fun m hm => by unfold bk at hm; exact st2_c _ _ (by omega)⟩
  · rw [if_neg (show ¬ nI 3 = 0 by decide), if_neg (show ¬ nI 3 = 1 by decide), if_neg (show ¬ nI 3 = 2 by decide)]
    refine ⟨_, rfl, ⟨no_s (by omega), no_s (by omega), no_s (by omega), fun _ => ⟨0, by omega, by rw [st2_eq]; rfl, hz (by omega) 0 (by omega), fun t ht => absurd ht (by omega)⟩⟩, fun m hm => by unfold bk at hm; exact st2_c _ _ (by omega)⟩
/-- a text poured -/
theorem c_pour {T : Nat → Nat} {n s pl : Nat} {c b0 b1 : Mem} (oT : okT T) (hn : n ≤ 600) (hs : s < 4) (hpl : pl < 2) (hCT : CT c T) (i3 : LB b0 T n 0 (0, 0)) (i4 : CN s b0 0 0 0) (i5 : ∀ j, j < 134 → b0 279 j = if s = 0 ∧ j < 2 then 2 else 0) (he : lX12_allLines_2 (nI s) FU true b0 = some (true, b1)) (h17 : b1 269 17 = nI 0) : ∃ c' t' u', fX5_pour (nI s) (nI n) 1 (nI pl) c = some c' ∧ PO s pl c' (b1 279) t' u' ∧ frPo s pl c c' := by
  unfold fX5_pour
  rw [c_rew hn, bq]
  generalize hd : st2 (st2 (st2 c 143 1 (nI n)) 143 2 0) 143 6 0 = d
  have dm : ∀ m, m ≠ 143 → d m = c m := fun m hm => by rw [← hd, st2_c _ _ hm, st2_c _ _ hm, st2_c _ _ hm]
  have d1 : d 143 1 = nI n := by rw [← hd, st2_o _ _ (by omega), st2_o _ _ (by omega), st2_eq]
  have d2 : d 143 2 = nI 0 := by rw [← hd, st2_o _ _ (by omega), st2_eq]; rfl
  obtain ⟨e, e1, e2, e3⟩ := c_clear (a := d) hs hpl i5
  have nb : ∀ m, m < 8 ∨ 36 < m → ¬ bk s pl m := fun m hm q => by unfold bk at q; omega
  have hC : CI e T n 0 := ⟨hCT.c (by rw [e3 2 (nb 2 (by omega)), dm 2 (by omega)]), by rw [e3 143 (nb 143 (by omega))]; exact d1, by rw [e3 143 (nb 143 (by omega))]; exact d2⟩
  obtain ⟨c', t', u', o1, o2, o3⟩ := p_loop oT hn hs hpl n 4999 4998 0 0 e b0 b1 0 0 0 (by omega) (by omega) (by omega) (by omega) (by omega) hC i3 i4 e2 he h17
  have o1' : lX5_pour_15 (nI s) 1 (nI pl) FU 0 e = some c' := o1
  rw [e1, bq, o1', bq]
  exact ⟨c', t', u', rfl, o2, fun m m0 m1 m2 m3 => by rw [o3 m m0 m1 m2 m3, e3 m m0, dm m m1]⟩
/-- what judging and reading give -/
def RD (T : Nat → Nat) (n s : Nat) (a b : Mem) (k : Nat) (a' b'' : Mem) : Prop := k ≤ 3 ∧ fX5_judge (nI s) (nI n) a = some a' ∧ a' 143 13 = nI k ∧ frJ3 a a' ∧ fX12_readText (nI s) b = some (decide (k = 0), b'') ∧ b'' 272 0 = nI k ∧ b'' 273 0 = a' 143 14 ∧ (k = 0 → a' 143 14 = -1 ∧ ∀ (c : Mem) (pl : Nat), pl < 2 → CT c T → ∃ c' t' u', fX5_pour (nI s) (nI n) 1 (nI pl) c = some c' ∧ PO s pl c' (b'' 279) t' u' ∧ frPo s pl c c') ∧ (∀ m, m ≠ 269 → m ≠ 279 → m ≠ 280 → m ≠ 272 → m ≠ 273 → b'' m = b m) ∧ (∀ j, j ≠ 0 → b'' 272 j = b 272 j ∧ b'' 273 j = b 273 j)
theorem m_last {s : Nat} {b c b0 b1 : Mem} {r : Bool} (i1 : lX12_readText_2 (nI s) FU 0 b = some c) (i2 : fX12_token (st2 (st2 (st2 c 269 22 0) 269 10 0) 269 17 0) = some b0) (he : lX12_allLines_2 (nI s) FU true b0 = some (r, b1)) : fX12_readText (nI s) b = (if r = true then (some (b1 269 17)) else (some 1) : Option (Int32)).bind fun q16 => (if r = true then (if ((st2 b1 272 0 q16) 269 17) ≤ 0 then (some (-1)) else (some ((st2 b1 272 0 q16) 269 18))) else (some ((st2 b1 272 0 q16) 269 16)) : Option (Int32)).bind fun q19 => if ((st2 (st2 b1 272 0 q16) 273 0 q19) 272 0) = 0 then (some (true, (st2 (st2 b1 272 0 q16) 273 0 q19))) else (some (false, (st2 (st2 b1 272 0 q16) 273 0 q19))) := by
  unfold fX12_readText fX12_allLines
  rw [i1, bq, i2, bq, he]
  rfl
theorem m_set {b1 : Mem} {k : Nat} {v : Int32} (hk : k ≤ 3) : ((if ((st2 (st2 b1 272 0 (nI k)) 273 0 v) 272 0) = 0 then (some (true, (st2 (st2 b1 272 0 (nI k)) 273 0 v))) else (some (false, (st2 (st2 b1 272 0 (nI k)) 273 0 v)))) : Option (Bool × Mem)) = some (decide (k = 0), st2 (st2 b1 272 0 (nI k)) 273 0 v) := by
  have e : (st2 (st2 b1 272 0 (nI k)) 273 0 v) 272 0 = nI k := by rw [st2_o _ _ (by omega), st2_eq]
  rw [e]
  by_cases z : k = 0
  · rw [if_pos (by rw [z]; rfl), decide_eq_true z]
  · rw [if_neg (ne0 z (by omega)), decide_eq_false z]
theorem m_sfr {b b0 b1 : Mem} {x v : Int32} (h1 : fr4 b b0) (h2 : fr4 b0 b1) : (∀ m, m ≠ 269 → m ≠ 279 → m ≠ 280 → m ≠ 272 → m ≠ 273 → (st2 (st2 b1 272 0 x) 273 0 v) m = b m) ∧ (∀ j, j ≠ 0 → (st2 (st2 b1 272 0 x) 273 0 v) 272 j = b 272 j ∧ (st2 (st2 b1 272 0 x) 273 0 v) 273 j = b 273 j) := by
  have h : ∀ m, m ≠ 269 → m ≠ 279 → m ≠ 280 → b1 m = b m := fun m x y z => (h2 m x y z).trans (h1 m x y z)
  refine ⟨fun m m1 m2 m3 m4 m5 => by rw [st2_c _ _ m5, st2_c _ _ m4, h m m1 m2 m3], fun j hj => ⟨?_, ?_⟩⟩
  · rw [st2_o _ _ (by omega), st2_o _ _ (by omega), h 272 (by omega) (by omega) (by omega)]
  · rw [st2_o _ _ (by omega), st2_o _ _ (by omega), h 273 (by omega) (by omega) (by omega)]
theorem rd {T : Nat → Nat} {n s : Nat} {a b : Mem} (oT : okT T) (hn : n ≤ 600) (hs : s < 4) (hCT : CT a T) (hMT : MT b T) (h11 : b 269 11 = nI n) : ∃ k a' b'', RD T n s a b k a' b'' := by
  obtain ⟨c, b0, i1, i2, i3, i4, i5, i6⟩ := m_init oT hn hs hMT h11
  have hjd : fX5_judge (nI s) (nI n) a = (lX5_judge_27 (nI s) FU 0 (st2 (st2 (st2 (st2 (st2 (st2 (st2 a 143 1 (nI n)) 143 2 0) 143 6 0) 143 13 0) 143 14 (-1)) 143 11 0) 143 12 0)).bind fun q18 => if (q18 143 6) = 0 then (some q18) else ((fX5_blame 1 (q18 143 4) q18).bind fun q20 => some q20) := by
    unfold fX5_judge
    rw [c_rew hn, bq]
  generalize hd : st2 (st2 (st2 (st2 (st2 (st2 (st2 a 143 1 (nI n)) 143 2 0) 143 6 0) 143 13 0) 143 14 (-1)) 143 11 0) 143 12 0 = d at hjd
  have dm : ∀ m, m ≠ 143 → d m = a m := fun m hm => by rw [← hd, st2_c _ _ hm, st2_c _ _ hm, st2_c _ _ hm, st2_c _ _ hm, st2_c _ _ hm, st2_c _ _ hm, st2_c _ _ hm]
  have d1 : d 143 1 = nI n := by rw [← hd, st2_o _ _ (by omega), st2_o _ _ (by omega), st2_o _ _ (by omega), st2_o _ _ (by omega), st2_o _ _ (by omega), st2_o _ _ (by omega), st2_eq]
  have d2 : d 143 2 = nI 0 := by rw [← hd, st2_o _ _ (by omega), st2_o _ _ (by omega), st2_o _ _ (by omega), st2_o _ _ (by omega), st2_o _ _ (by omega), st2_eq]; rfl
  have d6 : d 143 6 = 0 := by rw [← hd, st2_o _ _ (by omega), st2_o _ _ (by omega), st2_o _ _ (by omega), st2_o _ _ (by omega), st2_eq]
  have d13 : d 143 13 = nI 0 := by rw [← hd, st2_o _ _ (by omega), st2_o _ _ (by omega), st2_o _ _ (by omega), st2_eq]; rfl
  have d14 : d 143 14 = -1 := by rw [← hd, st2_o _ _ (by omega), st2_o _ _ (by omega), st2_eq]
  have d11 : d 143 11 = nI 0 := by rw [← hd, st2_o _ _ (by omega), st2_eq]; rfl
  have d12 : d 143 12 = nI 0 := by rw [← hd, st2_eq]; rfl
  have hz : s ≠ 0 → ∀ j, j < 134 → b0 279 j = nI 0 := fun z j hj => by rw [i5 j hj, if_neg (fun q => z q.1)]; rfl
  have hC : CI d T n 0 := ⟨hCT.c (dm 2 (by omega)), d1, d2⟩
  have hF : FJ d (0, 0) := ⟨d13, fun _ => d14, fun q => absurd rfl q⟩
  have hJ : JC s d b0 0 0 0 0 := ⟨0, 0, d11, d12, by omega, by omega, fun es => ⟨rfl, rfl, rfl, by omega, fun v _ hv => hz (by omega) _ (by omega)⟩, fun _ => rfl, fun _ => rfl⟩
  obtain ⟨a1, b1, r, e1, e2, e3, e4, e5⟩ := j_loop oT hn hs n 4999 4998 0 0 d b0 (0, 0) 0 0 0 (by omega) (by omega) (by omega) (by omega) (by omega) hC d6 hF (fun _ => rfl) i3 i4 (fun _ => hJ)
  have e1' : lX5_judge_27 (nI s) FU 0 d = some a1 := e1
  have e2' : lX12_allLines_2 (nI s) FU true b0 = some (r, b1) := e2
  rw [e1', bq] at hjd
  have hml := m_last i1 i2 e2'
  have hfr : frJ3 a a1 := fun m x y z => (e4 m x y z).trans (dm m x)
  rcases e5 with ⟨rfl, h6, f', g1, g2, g3⟩ | ⟨rfl, h6, pl, g1, g2⟩
  · rw [if_pos h6] at hjd
    obtain ⟨k1, k2, k3⟩ := g1
    obtain ⟨c1, c2, c3⟩ := g2
    have e17 : ∀ y, (st2 b1 272 0 y) 269 17 = nI f'.1 := fun y => by rw [st2_o _ _ (by omega)]; exact k2
    have e18 : ∀ y, (st2 b1 272 0 y) 269 18 = b1 269 18 := fun y => by rw [st2_o _ _ (by omega)]
    rw [if_pos rfl, bq, if_pos rfl, k2, e17, e18] at hml
    have hv : ((if nI f'.1 ≤ 0 then (some (-1)) else (some (b1 269 18))) : Option Int32) = some (a1 143 14) := by
      by_cases z : f'.1 = 0
      · rw [if_pos (show nI f'.1 ≤ 0 by rw [z]; decide), c2 z]
      · rw [if_neg (show ¬ nI f'.1 ≤ 0 from fun q => absurd ((le_nn (b := 0) (by omega) (by omega)).mp q) (by omega)), c3 z, k3 z]
    rw [hv, bq, m_set k1] at hml
    have hs1 := m_sfr (x := nI f'.1) (v := a1 143 14) i6 e3
    refine ⟨f'.1, a1, _, k1, hjd, c1, hfr, hml, by rw [st2_o _ _ (by omega), st2_eq], st2_eq _ _ _ _, fun z => ⟨c2 z, fun c pl hpl hc => ?_⟩, hs1.1, hs1.2⟩
    obtain ⟨c', t', u', o1, o2, o3⟩ := c_pour oT hn hs hpl hc i3 i4 i5 e2' (by rw [k2, z])
    exact ⟨c', t', u', o1, by rw [st2_c _ _ (by omega), st2_c _ _ (by omega)]; exact o2, o3⟩
  · have hb : fX5_judge (nI s) (nI n) a = some (st2 (st2 a1 143 13 1) 143 14 (nI pl)) := by
      rw [hjd, if_neg (by rw [h6]; decide), g1]
      unfold fX5_blame
      rw [bq]
    have e16 : ∀ y, (st2 b1 272 0 y) 269 16 = nI pl := fun y => by rw [st2_o _ _ (by omega)]; exact g2
    rw [if_neg (by decide), bq, if_neg (by decide), e16, bq, show (1 : Int32) = nI 1 from rfl, m_set (by omega)] at hml
    have hs1 := m_sfr (x := nI 1) (v := nI pl) i6 e3
    refine ⟨1, _, _, by omega, hb, by rw [st2_o _ _ (by omega), st2_eq]; rfl, fun m x y z => by rw [st2_c _ _ x, st2_c _ _ x]; exact hfr m x y z, hml, by rw [st2_o _ _ (by omega), st2_eq], by rw [st2_eq, st2_eq], fun z => absurd z (by omega), hs1.1, hs1.2⟩
