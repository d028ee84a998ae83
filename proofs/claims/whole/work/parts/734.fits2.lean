/-! ===== fits: the sets that fit ===== -/
/-- sets below m that agree; r: the keys by a set -/
def fts (D : F2) (r : Nat → Nat → Nat) : Nat → List Nat
  | 0 => []
  | m + 1 => if agr D (r m) = true then fts D r m ++ [m] else fts D r m
theorem fts_len {D : F2} {r : Nat → Nat → Nat} : ∀ m, (fts D r m).length ≤ m
  | 0 => Nat.le_refl _
  | m + 1 => by
    have := fts_len (D := D) (r := r) m
    unfold fts
    split
    · rw [List.length_append]; show _ + 1 ≤ _; omega
    · omega
theorem fts_lt {D : F2} {r : Nat → Nat → Nat} {i : Nat} : ∀ m, i < (fts D r m).length → gL (fts D r m) i < m
  | 0, h => absurd h (by show ¬ i < 0; omega)
  | m + 1, h => by
    have ih := fts_lt (D := D) (r := r) (i := i) m
    unfold fts at h ⊢
    split
    · rename_i z
      rw [if_pos z, List.length_append] at h
      have h' : i < (fts D r m).length + 1 := h
      by_cases e : i < (fts D r m).length
      · rw [gL_l e]; have := ih e; omega
      · have e' : i = (fts D r m).length := by omega
        rw [e', gL_r]; omega
    · rename_i z
      rw [if_neg z] at h
      have := ih h
      omega
/-- over a list's members, one behind the other -/
def acc {Y : Type} (φ : Nat → Y → Y) (F : List Nat) (x : Y) : Y := itr (fun j s => φ (gL F j) s) 0 F.length x
theorem acc_s {Y : Type} {φ : Nat → Y → Y} {F : List Nat} {f : Nat} {x : Y} : acc φ (F ++ [f]) x = φ f (acc φ F x) := by
  unfold acc
  rw [List.length_append]
  show itr _ 0 (F.length + 1) x = _
  rw [itr_S, gL_r, itr_cgX (g := fun j s => φ (gL F j) s) _ (fun j hj y => by rw [gL_l hj])]
def pc (f : Nat) : Nat := sm (fun k => if f.testBit k = true then 1 else 0) 10
theorem pc_le (f : Nat) : pc f ≤ 10 := sm1 (fun i _ => by show (if f.testBit i = true then 1 else 0) ≤ 1; split <;> omega)
def cd (x : Nat) : Nat := if x = 0 then 100 else x - 1
def ctS (r : Nat → Nat → Nat) (k v f s : Nat) : Nat := s + if cd (r f k) = v then 1 else 0
def ct (r : Nat → Nat → Nat) (k v : Nat) (F : List Nat) : Nat := acc (ctS r k v) F 0
def fwS (f s : Nat) : Nat := if s = 0 then pc f + 1 else if s ≤ pc f + 1 then s else pc f + 1
def fw (F : List Nat) : Nat := acc fwS F 0
def wtS (w f s : Nat) : Nat := s + if f.testBit w = true then 1 else 0
def wt (w : Nat) (F : List Nat) : Nat := acc (wtS w) F 0
/-! the engine's sets -/
theorem c_sets {a : Mem} {X B D : F2} {s sp wk n y : Nat} {c : Nat → Nat} (hX : CX a X s sp wk c n B) (ok : okM sp wk (X 146 12) B X) (hy : y < 2) (gD : okD D) (hD : CDi (a (19 + 14 * y)) (a (19 + 14 * y + 1)) (a (19 + 14 * y + 2)) D) (hr : ∀ f k, f < 2 ^ wk → k < 10 → rcv f c X 0 k ≤ 100) :
    ∃ a', fX6_gather (19 + 14 * y) a = some a' ∧ a' 246 3 = nI (fts D (fun f => rcv f c X 0) (2 ^ wk)).length ∧ (∀ j, j < (fts D (fun f => rcv f c X 0) (2 ^ wk)).length → a' 247 j = nI (gL (fts D (fun f => rcv f c X 0) (2 ^ wk)) j) ∧ RW a' (249 + j) (rcv (gL (fts D (fun f => rcv f c X 0) (2 ^ wk)) j) c X 0)) ∧ ∀ m, m < 246 ∨ 266 ≤ m → a' m = a m := by
  obtain ⟨o1, o2, o3⟩ := ok.1
  have p16 : 2 ^ wk ≤ 16 := (Nat.pow_le_pow_right (by decide) o2 : 2 ^ wk ≤ 2 ^ 4)
  unfold fX6_gather
  refine loop_k (fun f j (q : Mem) => lX6_gather_7 (19 + 14 * y) f (nI j) q) (2 ^ wk) (fun m q => q 246 3 = nI (fts D (fun f => rcv f c X 0) m).length ∧ (∀ j, j < (fts D (fun f => rcv f c X 0) m).length → q 247 j = nI (gL (fts D (fun f => rcv f c X 0) m) j) ∧ RW q (249 + j) (rcv (gL (fts D (fun f => rcv f c X 0) m) j) c X 0)) ∧ ∀ x, x < 246 ∨ 266 ≤ x → q x = a x) (fun q => q 246 3 = nI (fts D (fun f => rcv f c X 0) (2 ^ wk)).length ∧ (∀ j, j < (fts D (fun f => rcv f c X 0) (2 ^ wk)).length → q 247 j = nI (gL (fts D (fun f => rcv f c X 0) (2 ^ wk)) j) ∧ RW q (249 + j) (rcv (gL (fts D (fun f => rcv f c X 0) (2 ^ wk)) j) c X 0)) ∧ ∀ x, x < 246 ∨ 266 ≤ x → q x = a x) (Nat.zero_le _) (by omega) (s := st2 a 246 3 0) ⟨st2_eq _ _ _ _, fun j hj => absurd hj (by show ¬ j < 0; omega), fun x hx => st2_c _ _ (by omega)⟩ ?_ ?_ ?_
  · intro r e1 e2
    have e1' : lX6_gather_7 (19 + 14 * y) FU 0 (st2 a 246 3 0) = some r := e1
    rw [e1', bq]; exact ⟨r, rfl, e2⟩
  · rintro f q ⟨h1, h2, h3⟩
    refine ⟨q, ?_, h1, h2, h3⟩
    show lX6_gather_7 _ _ _ _ = _
    rw [lX6_gather_7, h3 146 (by omega), hX.1.e3, o3, sh1 (by omega), if_pos (by rw [le_nn (by omega) (by omega)]; omega)]
  · rintro g f q hf ⟨h1, h2, h3⟩
    have hl := fts_len (D := D) (r := fun f => rcv f c X 0) f
    have hXq : CX q X s sp wk c n B := ⟨hX.1.fr (fun m m1 m2 => h3 m (by omega)), hX.2.1.fr (fun m hm => h3 m (by omega)), hX.2.2⟩
    generalize hF : fts D (fun f => rcv f c X 0) f = F at *
    obtain ⟨q1, r1, r2, r3, r4, r5⟩ := k_recover (n := 249 + F.length) (m := 265) (f := f) hXq ok (by omega) (by omega) (by omega) (by omega)
    have e3 : q1 246 3 = nI F.length := by rw [r4 246 (by omega) (by omega)]; exact h1
    have hag := c_agrees (a := q1) (n0 := 19 + 14 * y) (n1 := 249 + F.length) (r := rcv f c X 0) gD (by rw [r4 _ (by omega) (by omega), r4 (19 + 14 * y + 1) (by omega) (by omega), r4 (19 + 14 * y + 2) (by omega) (by omega), h3 _ (by omega), h3 (19 + 14 * y + 1) (by omega), h3 (19 + 14 * y + 2) (by omega)]; exact hD) r2 (fun k hk => hr f k hf hk)
    have hc : lX6_gather_7 (19 + 14 * y) (g + 1) (nI f) q = ((if agr D (rcv f c X 0) = true then (some (st2 (st2 q1 247 F.length (nI f)) 246 3 (nI (F.length + 1)))) else (some q1)) : Option Mem).bind fun q18 => lX6_gather_7 (19 + 14 * y) g (nI (f + 1)) q18 := by
      rw [lX6_gather_7, h3 146 (by omega), hX.1.e3, o3, sh1 (by omega), if_neg (by rw [le_nn (by omega) (by omega)]; omega), h1, if_neg (by rw [li16, le_nn (by omega) (by omega)]; omega), inb_T (show F.length < 16 by omega) (by omega), gdT, nI_ck (by omega), Nat.one_mul, r1, bq, e3, inb_T (show F.length < 16 by omega) (by omega), gdT, nI_ck (by omega), Nat.one_mul, hag, bq]
      dsimp only
      rw [e3, inb_T (show F.length < 16 by omega) (by omega), gdT, nI_ck (by omega), st2_o _ _ (show ¬ (246 = 247 ∧ 3 = F.length) by omega), e3, nI_1, nI_1]
    by_cases z : agr D (rcv f c X 0) = true
    · have eF : fts D (fun f => rcv f c X 0) (f + 1) = F ++ [f] := by
        show (if agr D (rcv f c X 0) = true then fts D (fun f => rcv f c X 0) f ++ [f] else fts D (fun f => rcv f c X 0) f) = _
        rw [if_pos z, hF]
      rw [eF]
      refine ⟨st2 (st2 q1 247 F.length (nI f)) 246 3 (nI (F.length + 1)), ?_, by rw [st2_eq, List.length_append]; rfl, fun j hj => ?_, fun x hx => by rw [st2_c _ _ (by omega), st2_c _ _ (by omega), r4 x (by omega) (by omega)]; exact h3 x hx⟩
      · show lX6_gather_7 _ _ _ _ = lX6_gather_7 _ _ _ _
        rw [hc, if_pos z, bq]
      · rw [List.length_append] at hj
        have hj' : j < F.length + 1 := hj
        rw [st2_o _ _ (by omega)]
        by_cases e : j < F.length
        · obtain ⟨u1, u2⟩ := h2 j e
          rw [gL_l e, st2_o _ _ (by omega), r4 247 (by omega) (by omega)]
          exact ⟨u1, fun k hk => by rw [st2_c _ _ (by omega), st2_c _ _ (by omega), r4 (249 + j) (by omega) (by omega)]; exact u2 k hk⟩
        · have e' : j = F.length := by omega
          rw [e', gL_r, st2_eq]
          exact ⟨rfl, fun k hk => by rw [st2_c _ _ (by omega), st2_c _ _ (by omega)]; exact r2 k hk⟩
    · have eF : fts D (fun f => rcv f c X 0) (f + 1) = F := by
        show (if agr D (rcv f c X 0) = true then fts D (fun f => rcv f c X 0) f ++ [f] else fts D (fun f => rcv f c X 0) f) = _
        rw [if_neg z, hF]
      rw [eF]
      refine ⟨q1, ?_, e3, fun j hj => ?_, fun x hx => by rw [r4 x (by omega) (by omega)]; exact h3 x hx⟩
      · show lX6_gather_7 _ _ _ _ = lX6_gather_7 _ _ _ _
        rw [hc, if_neg z, bq]
      · obtain ⟨u1, u2⟩ := h2 j hj
        rw [r4 247 (by omega) (by omega)]
        exact ⟨u1, fun k hk => by rw [r4 (249 + j) (by omega) (by omega)]; exact u2 k hk⟩
/-! its answers -/
def bcI (x : Int32) : Int32 := match fJ6_bitCount_0f7a4 x (fun _ _ => 0) with
  | some p => p.1
  | none => 0
theorem bc_r (x : Int32) (σ : Mem) : fJ6_bitCount_0f7a4 x σ = some (bcI x, σ) := rfl
theorem bc_e : ∀ f, f < 16 → bcI (nI f) = nI (pc f) := by decide +kernel
theorem fw_b {F : List Nat} : ∀ m, itr (fun j s => fwS (gL F j) s) 0 m 0 ≤ 11
  | 0 => by show 0 ≤ 11; omega
  | m + 1 => by
    have ih := fw_b (F := F) m
    rw [itr_S]
    generalize itr (fun j s => fwS (gL F j) s) 0 m 0 = s at *
    have := pc_le (gL F m)
    unfold fwS; split
    · omega
    · split <;> omega
def SF (a : Mem) (F : List Nat) (r : Nat → Nat → Nat) : Prop := a 246 3 = nI F.length ∧ F.length ≤ 16 ∧ ∀ j, j < F.length → a 247 j = nI (gL F j) ∧ gL F j < 16 ∧ RW a (249 + j) (r (gL F j)) ∧ ∀ k, k < 10 → r (gL F j) k ≤ 100
theorem c_fewest {a : Mem} {F : List Nat} {r : Nat → Nat → Nat} (h : SF a F r) : fX6_fewest a = some (vI (fw F), a) := by
  obtain ⟨h1, h2, h3⟩ := h
  unfold fX6_fewest
  refine loop_k (fun f j (s : Nat) => lX6_fewest_4 f (vI s) (nI j) a) F.length (fun j s => s = itr (fun j s => fwS (gL F j) s) 0 j 0) (fun x => x = (vI (fw F), a)) (Nat.zero_le _) (by omega) (s := 0) rfl ?_ ?_ ?_
  · rintro x e1 rfl
    have e1' : lX6_fewest_4 FU (-1) 0 a = some (vI (fw F), a) := e1
    rw [e1', bq]
  · rintro f s rfl
    refine ⟨_, ?_, rfl⟩
    show lX6_fewest_4 _ _ _ _ = _
    rw [lX6_fewest_4, h1, if_pos (by rw [le_nn (by omega) (by omega)]; omega)]
    rfl
  · rintro f j s hj rfl
    have hb := fw_b (F := F) j
    obtain ⟨u1, u2, -⟩ := h3 j hj
    have hp := pc_le (gL F j)
    rw [itr_S]
    generalize itr (fun j s => fwS (gL F j) s) 0 j 0 = s at *
    refine ⟨_, ?_, rfl⟩
    show lX6_fewest_4 _ _ _ _ = lX6_fewest_4 _ _ _ _
    rw [lX6_fewest_4, h1, if_neg (by rw [le_nn (by omega) (by omega)]; omega), inb_T (show j < 16 by omega) (by omega), gdT, nI_ck (by omega), u1, bc_r, bq]
    dsimp only
    rw [bc_e _ u2, nI_1]
    unfold fwS
    by_cases z : s = 0
    · rw [if_pos (by rw [z]; rfl), bq, if_pos z, vI_s]
    · rw [if_neg (by rw [v0, eq_vv (by omega) (by omega)]; exact z), if_neg z]
      by_cases z2 : s ≤ pc (gL F j) + 1
      · rw [if_pos (by rw [le_vn (by omega) (by omega)]; exact z2), bq, if_pos z2]
      · rw [if_neg (by rw [le_vn (by omega) (by omega)]; exact z2), bq, if_neg z2, vI_s]
theorem wt_b {F : List Nat} {w : Nat} : ∀ m, itr (fun j s => wtS w (gL F j) s) 0 m 0 ≤ m
  | 0 => Nat.le_refl _
  | m + 1 => by
    have ih := wt_b (F := F) (w := w) m
    rw [itr_S]; unfold wtS at *; split <;> omega
theorem c_sure {a : Mem} {F : List Nat} {r : Nat → Nat → Nat} {w : Nat} (h : SF a F r) (hw : w < 4) : fX6_sure (nI w) a = some (if F.length = 0 then vI 0 else if 0 < wt w F ∧ wt w F < F.length then vI 0 else if 0 < wt w F then vI 2 else vI 1, a) := by
  obtain ⟨h1, h2, h3⟩ := h
  have hb : wt w F ≤ F.length := wt_b _
  unfold fX6_sure
  refine loop_k (fun f j (s : Nat) => lX6_sure_4 (nI w) f (nI s) (nI j) a) F.length (fun j s => s = itr (fun j s => wtS w (gL F j) s) 0 j 0) (fun x => x = (nI (wt w F), a)) (Nat.zero_le _) (by omega) (s := 0) rfl ?_ ?_ ?_
  · rintro x e1 rfl
    have e1' : lX6_sure_4 (nI w) FU 0 0 a = some (nI (wt w F), a) := e1
    rw [e1', bq]
    dsimp only
    by_cases z : F.length = 0
    · rw [if_pos (show a 246 3 = 0 by rw [h1, z]; rfl), if_pos z]; rfl
    · rw [if_neg (show ¬ a 246 3 = 0 by rw [h1]; exact ne0 z (by omega)), if_neg z]
      by_cases z0 : wt w F = 0
      · have y : nI (wt w F) ≤ 0 := by rw [z0]; decide
        rw [if_pos y, if_pos y, if_neg (by omega), if_neg (by omega)]; rfl
      · have y : ¬ nI (wt w F) ≤ 0 := by rw [li0, le_nn (by omega) (by omega)]; omega
        rw [if_neg y]
        by_cases z1 : wt w F < F.length
        · rw [if_neg (show ¬ a 246 3 ≤ nI (wt w F) by rw [h1, le_nn (by omega) (by omega)]; omega), if_pos ⟨by omega, z1⟩]; rfl
        · rw [if_pos (show a 246 3 ≤ nI (wt w F) by rw [h1, le_nn (by omega) (by omega)]; omega), if_neg y, if_neg (fun y => z1 y.2), if_pos (by omega)]; rfl
  · rintro f s rfl
    refine ⟨_, ?_, rfl⟩
    show lX6_sure_4 _ _ _ _ _ = _
    rw [lX6_sure_4, h1, if_pos (by rw [le_nn (by omega) (by omega)]; omega)]
    rfl
  · rintro f j s hj rfl
    obtain ⟨u1, u2, -⟩ := h3 j hj
    rw [itr_S]
    generalize itr (fun j s => wtS w (gL F j) s) 0 j 0 = s at *
    refine ⟨_, ?_, rfl⟩
    show lX6_sure_4 _ _ _ _ _ = lX6_sure_4 _ _ _ _ _
    rw [lX6_sure_4, h1, if_neg (by rw [le_nn (by omega) (by omega)]; omega), inb_T (show j < 16 by omega) (by omega), gdT, nI_ck (by omega), u1, f_hasBit (by omega) (by omega), bq]
    dsimp only
    rw [nI_1, nI_1]
    unfold wtS
    by_cases z : (gL F j).testBit w = true
    · rw [if_pos z, if_pos z, bq]
    · rw [if_neg z, if_neg z, bq]; rfl
/-! the key to ask for -/
def mxF (g : Nat → Nat) (n : Nat) : Nat := itr (fun i m => max m (g i)) 0 n 0
theorem mxF_S {g : Nat → Nat} {n : Nat} : mxF g (n + 1) = max (mxF g n) (g n) := itr_S _ _ _
theorem mxF_le {g : Nat → Nat} {x : Nat} : ∀ n, (∀ i, i < n → g i ≤ x) → mxF g n ≤ x
  | 0, _ => Nat.zero_le _
  | n + 1, h => by
    rw [mxF_S]
    have := mxF_le n (fun i hi => h i (by omega))
    have := h n (by omega)
    omega
theorem mxF_ge {g : Nat → Nat} {i : Nat} : ∀ n, i < n → g i ≤ mxF g n
  | 0, h => absurd h (by omega)
  | n + 1, h => by
    rw [mxF_S]
    by_cases e : i = n
    · rw [e]; omega
    · have := mxF_ge (g := g) (i := i) n (by omega)
      omega
theorem ct_b {r : Nat → Nat → Nat} {k v : Nat} {F : List Nat} : ∀ m, itr (fun j s => ctS r k v (gL F j) s) 0 m 0 ≤ m
  | 0 => Nat.le_refl _
  | m + 1 => by
    have ih := ct_b (r := r) (k := k) (v := v) (F := F) m
    rw [itr_S]; unfold ctS at *; split <;> omega
theorem ct_z {r : Nat → Nat → Nat} {k v : Nat} {F : List Nat} : ∀ m, 0 < itr (fun j s => ctS r k v (gL F j) s) 0 m 0 → ∃ j, j < m ∧ cd (r (gL F j) k) = v
  | 0, h => absurd h (by show ¬ 0 < 0; omega)
  | m + 1, h => by
    rw [itr_S] at h
    by_cases z : cd (r (gL F m) k) = v
    · exact ⟨m, by omega, z⟩
    · unfold ctS at h
      rw [if_neg z, Nat.add_zero] at h
      obtain ⟨j, hj, e⟩ := ct_z m h
      exact ⟨j, by omega, e⟩
/-- the greatest share: by members, by values -/
theorem share_eq {r : Nat → Nat → Nat} {k : Nat} {F : List Nat} (h : ∀ j, j < F.length → r (gL F j) k ≤ 100) : mxF (fun i => ct r k (cd (r (gL F i) k)) F) F.length = mxF (fun v => ct r k v F) 101 := by
  apply Nat.le_antisymm
  · refine mxF_le _ (fun i hi => ?_)
    have := h i hi
    refine mxF_ge (g := fun v => ct r k v F) (i := cd (r (gL F i) k)) 101 ?_
    unfold cd; split <;> omega
  · refine mxF_le _ (fun v hv => ?_)
    by_cases z : ct r k v F = 0
    · rw [z]; omega
    · obtain ⟨j, hj, e⟩ := ct_z (r := r) (k := k) (v := v) (F := F) F.length (by unfold ct acc at z; omega)
      have := mxF_ge (g := fun i => ct r k (cd (r (gL F i) k)) F) (i := j) F.length hj
      rw [e] at this
      exact this
theorem cd_i {x y : Nat} (hx : x ≤ 100) (hy : y ≤ 100) : cd x = cd y ↔ x = y := by
  unfold cd
  by_cases zx : x = 0
  · rw [if_pos zx]
    by_cases zy : y = 0
    · rw [if_pos zy]; omega
    · rw [if_neg zy]; omega
  · rw [if_neg zx]
    by_cases zy : y = 0
    · rw [if_pos zy]; omega
    · rw [if_neg zy]; omega
theorem c_share {a : Mem} {F : List Nat} {r : Nat → Nat → Nat} {k : Nat} (h : SF a F r) (hk : k < 10) : fX6_greatestShare (nI k) a = some (nI (mxF (fun v => ct r k v F) 101), a) := by
  have hS := h
  obtain ⟨h1, h2, h3⟩ := h
  rw [← share_eq (fun j hj => (h3 j hj).2.2.2 k hk)]
  have inner : ∀ x2 i, i < F.length → lX6_greatestShare_18 (nI k) x2 (nI i) FU 0 0 a = some (nI (ct r k (cd (r (gL F i) k)) F), a) := fun x2 i hi => by
    obtain ⟨-, -, u3, u4⟩ := h3 i hi
    have u4k := u4 k hk
    refine loop_k (fun f j (s : Nat) => lX6_greatestShare_18 (nI k) x2 (nI i) f (nI s) (nI j) a) F.length (fun j s => s = itr (fun j s => ctS r k (cd (r (gL F i) k)) (gL F j) s) 0 j 0) (fun x => x = (nI (ct r k (cd (r (gL F i) k)) F), a)) (Nat.zero_le _) (by omega) (s := 0) rfl ?_ ?_ ?_
    · rintro x e1 rfl; exact e1
    · rintro f s rfl
      refine ⟨_, ?_, rfl⟩
      show lX6_greatestShare_18 _ _ _ _ _ _ _ = _
      rw [lX6_greatestShare_18, h1, if_pos (by rw [le_nn (by omega) (by omega)]; omega)]
      rfl
    · rintro f j s hj rfl
      obtain ⟨-, -, w3, w4⟩ := h3 j hj
      have w4k := w4 k hk
      rw [itr_S]
      generalize itr (fun j s => ctS r k (cd (r (gL F i) k)) (gL F j) s) 0 j 0 = s at *
      refine ⟨_, ?_, rfl⟩
      show lX6_greatestShare_18 _ _ _ _ _ _ _ = lX6_greatestShare_18 _ _ _ _ _ _ _
      rw [lX6_greatestShare_18, h1, if_neg (by rw [le_nn (by omega) (by omega)]; omega), inb_T (show i < 16 by omega) (by omega), inb_T (show j < 16 by omega) (by omega), inb_T hk (by omega), nI_ck (show i < 2147483648 by omega), nI_ck (show j < 2147483648 by omega), nI_ck (show k < 2147483648 by omega), Nat.one_mul, Nat.one_mul, u3 k hk, w3 k hk, nI_1, nI_1]
      simp only [gdT]
      unfold ctS
      by_cases z : r (gL F i) k = r (gL F j) k
      · rw [if_pos (by rw [z]), bq, if_pos (by rw [z])]
      · rw [if_neg (by rw [eq_vv (by omega) (by omega)]; exact z), bq, if_neg (fun y => z ((cd_i (by omega) (by omega)).mp y).symm)]; rfl
  have hb : ∀ i, ct r k (cd (r (gL F i) k)) F ≤ 16 := fun i => Nat.le_trans (ct_b _) h2
  unfold fX6_greatestShare
  refine loop_k (fun f j (s : Nat) => lX6_greatestShare_4 (nI k) f (nI s) (nI j) a) F.length (fun j s => s = mxF (fun i => ct r k (cd (r (gL F i) k)) F) j) (fun x => x = (nI (mxF (fun i => ct r k (cd (r (gL F i) k)) F) F.length), a)) (Nat.zero_le _) (by omega) (s := 0) rfl ?_ ?_ ?_
  · rintro x e1 rfl
    have e1' : lX6_greatestShare_4 (nI k) FU 0 0 a = some (nI (mxF (fun i => ct r k (cd (r (gL F i) k)) F) F.length), a) := e1
    rw [e1', bq]
  · rintro f s rfl
    refine ⟨_, ?_, rfl⟩
    show lX6_greatestShare_4 _ _ _ _ _ = _
    rw [lX6_greatestShare_4, h1, if_pos (by rw [le_nn (by omega) (by omega)]; omega)]
  · rintro f j s hj rfl
    have hm := mxF_le (g := fun i => ct r k (cd (r (gL F i) k)) F) (x := 16) j (fun i _ => hb i)
    have hbj := hb j
    refine ⟨mxF (fun i => ct r k (cd (r (gL F i) k)) F) (j + 1), ?_, rfl⟩
    show lX6_greatestShare_4 _ _ _ _ _ = lX6_greatestShare_4 _ _ _ _ _
    rw [lX6_greatestShare_4, h1, if_neg (by rw [le_nn (by omega) (by omega)]; omega), inner _ j hj, bq, mxF_S]
    dsimp only
    rw [mx_n (by omega) (by omega), nI_1]
/-- the least of greatest shares -/
def bq17 (g : Nat → Nat) (x : Nat) (n : Nat) : Nat × Nat := itr (fun k q => if q.2 ≤ g k then q else (k + 1, g k)) 0 n (0, x)
theorem bq17_S {g : Nat → Nat} {x n : Nat} : bq17 g x (n + 1) = if (bq17 g x n).2 ≤ g n then bq17 g x n else (n + 1, g n) := itr_S _ _ _
theorem bq17_e {g : Nat → Nat} {x : Nat} (h : ∀ k, g k ≤ 16) (hx : 17 ≤ x) : ∀ n, bq17 g x (n + 1) = bq17 g 17 (n + 1) ∧ (bq17 g x (n + 1)).2 ≤ 16
  | 0 => by
    have := h 0
    rw [bq17_S, bq17_S]
    show (if x ≤ g 0 then _ else _) = (if 17 ≤ g 0 then _ else _) ∧ (if x ≤ g 0 then _ else _ : Nat × Nat).2 ≤ 16
    rw [if_neg (by omega), if_neg (by omega)]
    exact ⟨rfl, this⟩
  | n + 1 => by
    have ih := bq17_e h hx n
    have := h (n + 1)
    rw [bq17_S, bq17_S (x := 17), ih.1]
    refine ⟨rfl, ?_⟩
    split
    · rw [← ih.1]; exact ih.2
    · exact this
theorem bq17_b {g : Nat → Nat} {x : Nat} (h : ∀ k, g k ≤ 16) : ∀ n, (bq17 g x n).2 ≤ x + 16 ∧ (bq17 g x n).1 ≤ n
  | 0 => ⟨by show x ≤ x + 16; omega, Nat.le_refl _⟩
  | n + 1 => by
    have ih := bq17_b (x := x) h n
    have := h n
    rw [bq17_S]
    split
    · exact ⟨ih.1, by omega⟩
    · exact ⟨by show g n ≤ x + 16; omega, Nat.le_refl _⟩
theorem shr_b {r : Nat → Nat → Nat} {F : List Nat} (h2 : F.length ≤ 16) : ∀ k, mxF (fun v => ct r k v F) 101 ≤ 16 := fun k => mxF_le _ (fun v _ => Nat.le_trans (ct_b _) h2)
theorem c_bestG {a : Mem} {g : Nat → Nat} {N : Nat} (h1 : a 246 3 = nI N) (h2 : N ≤ 16) (hb : ∀ k, g k ≤ 16) (hs : ∀ k, k < 10 → fX6_greatestShare (nI k) a = some (nI (g k), a)) : fX6_bestQuestion a = some (if N = 0 then vI 0 else vI (bq17 g 17 10).1, a) := by
  unfold fX6_bestQuestion
  by_cases z : N = 0
  · rw [if_pos z]
    show (lX6_bestQuestion_7 (4999 + 1) _ _ _ _).bind _ = _
    rw [lX6_bestQuestion_7, if_neg (by decide), h1, z, if_pos (by decide), bq]; rfl
  · rw [if_neg z]
    refine loop_k (fun f j (q : Nat × Nat) => lX6_bestQuestion_7 f (vI q.1) (nI q.2) (nI j) a) 10 (fun j q => q = bq17 g 17 j) (fun x => x = (vI (bq17 g 17 10).1, a)) (Nat.zero_le _) (by omega) (s := (0, 17)) rfl ?_ ?_ ?_
    · intro x e1 e2
      have e1' : lX6_bestQuestion_7 FU (-1) 17 0 a = some x := e1
      rw [e1', bq, e2]
    · intro f q hq
      refine ⟨(vI q.1, a), ?_, by rw [hq]⟩
      show lX6_bestQuestion_7 _ _ _ _ _ = _
      rw [lX6_bestQuestion_7, if_pos (by decide)]
    · intro f k q hk hq
      have b1 := bq17_b (x := 17) hb k
      have b2' := hb k
      have eS := bq17_S (g := g) (x := 17) (n := k)
      rw [← hq] at b1 eS
      refine ⟨bq17 g 17 (k + 1), ?_, rfl⟩
      show lX6_bestQuestion_7 _ (vI q.1) (nI q.2) _ _ = lX6_bestQuestion_7 _ (vI (bq17 g 17 (k + 1)).1) (nI (bq17 g 17 (k + 1)).2) _ _
      rw [lX6_bestQuestion_7, if_neg (by rw [li10, le_nn (by omega) (by omega)]; omega), h1, if_neg (by rw [li0, le_nn (by omega) (by omega)]; omega), hs k hk, bq, nI_1, eS]
      dsimp only
      by_cases y : q.2 ≤ g k
      · rw [if_pos (by rw [le_nn (by omega) (by omega)]; exact y), bq, if_pos y]
      · rw [if_neg (by rw [le_nn (by omega) (by omega)]; exact y), bq, if_neg y]
        rfl
theorem c_best {a : Mem} {F : List Nat} {r : Nat → Nat → Nat} (h : SF a F r) : fX6_bestQuestion a = some (if F.length = 0 then vI 0 else vI (bq17 (fun k => mxF (fun v => ct r k v F) 101) 17 10).1, a) := c_bestG h.1 h.2.1 (shr_b h.2.1) (fun k hk => c_share h hk)
