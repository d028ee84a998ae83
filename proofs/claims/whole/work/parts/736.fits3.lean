/-! ===== fits: the reference's sets ===== -/
def FSt (b : Mem) (F : List Nat) (r : Nat → Nat → Nat) (x : Int32) (e0 : Nat) : Prop := b 269 77 = nI F.length ∧ ((∀ j, j < F.length → x = nI j → b 269 78 = nI (gL F j)) ∧ ((∀ j, j < F.length → ¬ x = nI j) → b 269 78 = -2)) ∧ b 269 79 = vI (fw F) ∧ b 269 80 = nI (acc (fun f s => s &&& f) F e0) ∧ b 269 81 = nI (acc (fun f s => s ||| f) F 0) ∧ ∀ k v, k < 10 → v < 101 → b 312 (101 * k + v) = nI (ct r k v F)
theorem FSt.fr {b b' : Mem} {F : List Nat} {r : Nat → Nat → Nat} {x : Int32} {e0 : Nat} (h : FSt b F r x e0) (e : frO b b') : FSt b' F r x e0 := by
  obtain ⟨h1, h2, h3, h4, h5, h6⟩ := h
  unfold FSt
  rw [e.1 77 (by omega), e.1 78 (by omega), e.1 79 (by omega), e.1 80 (by omega), e.1 81 (by omega), e.2 312 (by omega)]
  exact ⟨h1, h2, h3, h4, h5, h6⟩
theorem m_ones {f : Nat} {σ : Mem} (hf : f < 1024) : fX12_ones (nI f) σ = some (nI (pc f), σ) := by
  unfold fX12_ones
  refine loop_k (fun g j (s : Nat) => lX12_ones_4 (nI f) g (nI s) (nI j) σ) 10 (fun j s => s = sm (fun k => if f.testBit k = true then 1 else 0) j) (fun x => x = (nI (pc f), σ)) (Nat.zero_le _) (by omega) (s := 0) rfl ?_ ?_ ?_
  · rintro x e1 rfl
    have e1' : lX12_ones_4 (nI f) FU 0 0 σ = some (nI (pc f), σ) := e1
    rw [e1', bq]
  · rintro g s rfl
    refine ⟨_, ?_, rfl⟩
    show lX12_ones_4 _ _ _ _ _ = _
    rw [lX12_ones_4, if_pos (by decide)]
    rfl
  · rintro g j s hj hs
    refine ⟨s + (if f.testBit j = true then 1 else 0), ?_, by rw [hs]; rfl⟩
    show lX12_ones_4 _ _ _ _ _ = lX12_ones_4 _ _ _ _ _
    rw [lX12_ones_4, if_neg (by rw [li10, le_nn (by omega) (by omega)]; omega), f_has (by omega) (by omega), bq]
    dsimp only
    rw [nI_1]
    by_cases z : f.testBit j = true
    · rw [if_pos z, if_pos z, bq, b2T, nI_add]
    · rw [if_neg z, if_neg z, bq, b2F, nI_add]
theorem cd_le {x : Nat} (h : x ≤ 100) : cd x ≤ 100 := by unfold cd; split <;> omega
theorem fw_le (F : List Nat) : fw F ≤ 11 := fw_b _
theorem ct_le (r : Nat → Nat → Nat) (k v : Nat) (F : List Nat) : ct r k v F ≤ F.length := ct_b _
set_option maxHeartbeats 2000000 in
theorem m_noteFit {b : Mem} {F : List Nat} {r : Nat → Nat → Nat} {x : Int32} {e0 f sp : Nat} {G : F2} (h : FSt b F r x e0) (hG : MG b G sp) (hr : ∀ k, k < 10 → G 0 k = r f k ∧ r f k ≤ 100) (hf : f < 16) (hl : F.length < 16) : ∃ b', fX12_noteFit (nI f) x b = some b' ∧ FSt b' (F ++ [f]) r x e0 ∧ (∀ j, ¬ (77 ≤ j ∧ j ≤ 81) → b' 269 j = b 269 j) ∧ ∀ m, m ≠ 269 → m ≠ 312 → b' m = b m := by
  obtain ⟨h1, ⟨h2, h2'⟩, h3, h4, h5, h6⟩ := h
  have hp := pc_le f
  have hfw := fw_le F
  unfold fX12_noteFit
  have a1 : ∃ v, ((if (b 269 77) = x then (some (nI f)) else (some (b 269 78))) : Option Int32) = some v ∧ (nI F.length = x → v = nI f) ∧ (¬ nI F.length = x → v = b 269 78) := by
    rw [h1]
    by_cases z : nI F.length = x
    · exact ⟨nI f, by rw [if_pos z], fun _ => rfl, fun y => absurd z y⟩
    · exact ⟨b 269 78, by rw [if_neg z], fun y => absurd y z, fun _ => rfl⟩
  obtain ⟨v, v1, v2, v3⟩ := a1
  rw [v1, bq, show (st2 b 269 78 v) 269 77 = nI F.length by rw [st2_o _ _ (by omega)]; exact h1, nI_1]
  generalize hs1 : st2 (st2 b 269 78 v) 269 77 (nI (F.length + 1)) = s1
  have x9 : ∀ j, j ≠ 77 → j ≠ 78 → s1 269 j = b 269 j := fun j j1 j2 => by rw [← hs1, st2_o _ _ (by omega), st2_o _ _ (by omega)]
  have x77 : s1 269 77 = nI (F.length + 1) := by rw [← hs1, st2_eq]
  have x78 : s1 269 78 = v := by rw [← hs1, st2_o _ _ (by omega), st2_eq]
  have xo : ∀ m, m ≠ 269 → s1 m = b m := fun m hm => by rw [← hs1, st2_c _ _ hm, st2_c _ _ hm]
  clear hs1
  have a2 : ((if (s1 269 79) = (-1) then ((fX12_ones (nI f) s1).bind fun q4 => some (q4.1, q4.2)) else ((fX12_ones (nI f) s1).bind fun q6 => if (q6.2 269 79) ≤ q6.1 then (some ((q6.2 269 79), q6.2)) else ((fX12_ones (nI f) q6.2).bind fun q8 => some (q8.1, q8.2)))) : Option (Int32 × Mem)) = some (vI (fwS f (fw F)), s1) := by
    have e79 : s1 269 79 = vI (fw F) := by rw [x9 79 (by omega) (by omega)]; exact h3
    have mo := m_ones (f := f) (σ := s1) (by omega)
    unfold fwS
    by_cases z : fw F = 0
    · rw [if_pos (show s1 269 79 = -1 by rw [e79, z]; rfl), mo, bq, if_pos z, vI_s]
    · rw [if_neg (show ¬ s1 269 79 = -1 by rw [e79, v0, eq_vv (by omega) (by omega)]; exact z), mo, bq, if_neg z]
      show (if s1 269 79 ≤ nI (pc f) then some (s1 269 79, s1) else (fX12_ones (nI f) s1).bind fun q8 => some (q8.1, q8.2)) = _
      by_cases z2 : fw F ≤ pc f + 1
      · rw [if_pos (show s1 269 79 ≤ nI (pc f) by rw [e79, le_vn (by omega) (by omega)]; exact z2), if_pos z2, e79]
      · rw [if_neg (show ¬ s1 269 79 ≤ nI (pc f) by rw [e79, le_vn (by omega) (by omega)]; exact z2), mo, bq, if_neg z2, vI_s]
  rw [a2, bq]
  dsimp only
  rw [show (st2 s1 269 79 (vI (fwS f (fw F)))) 269 80 = nI (acc (fun f s => s &&& f) F e0) by rw [st2_o _ _ (by omega), x9 _ (by omega) (by omega)]; exact h4, nI_and]
  rw [show (st2 (st2 s1 269 79 (vI (fwS f (fw F)))) 269 80 (nI (acc (fun f s => s &&& f) F e0 &&& f))) 269 81 = nI (acc (fun f s => s ||| f) F 0) by rw [st2_o _ _ (by omega), st2_o _ _ (by omega), x9 _ (by omega) (by omega)]; exact h5, nI_or, bq]
  generalize hs2 : st2 (st2 (st2 s1 269 79 (vI (fwS f (fw F)))) 269 80 (nI (acc (fun f s => s &&& f) F e0 &&& f))) 269 81 (nI (acc (fun f s => s ||| f) F 0 ||| f)) = s2
  have y9 : ∀ j, ¬ (79 ≤ j ∧ j ≤ 81) → s2 269 j = s1 269 j := fun j hj => by rw [← hs2, st2_o _ _ (by omega), st2_o _ _ (by omega), st2_o _ _ (by omega)]
  have y79 : s2 269 79 = vI (fwS f (fw F)) := by rw [← hs2, st2_o _ _ (by omega), st2_o _ _ (by omega), st2_eq]
  have y80 : s2 269 80 = nI (acc (fun f s => s &&& f) F e0 &&& f) := by rw [← hs2, st2_o _ _ (by omega), st2_eq]
  have y81 : s2 269 81 = nI (acc (fun f s => s ||| f) F 0 ||| f) := by rw [← hs2, st2_eq]
  have yo : ∀ m, m ≠ 269 → s2 m = b m := fun m hm => by rw [← hs2, st2_c _ _ hm, st2_c _ _ hm, st2_c _ _ hm]; exact xo m hm
  clear hs2
  have ctn : ∀ k v, ct r k v (F ++ [f]) = ct r k v F + if cd (r f k) = v then 1 else 0 := fun k v => acc_s
  refine loop_k (fun g j (q : Mem) => lX12_noteFit_86 g (nI j) q) 10 (fun j q => (∀ k v, k < 10 → v < 101 → q 312 (101 * k + v) = nI (if k < j then ct r k v (F ++ [f]) else ct r k v F)) ∧ ∀ m, m ≠ 312 → q m = s2 m) (fun q => (∀ k v, k < 10 → v < 101 → q 312 (101 * k + v) = nI (ct r k v (F ++ [f]))) ∧ ∀ m, m ≠ 312 → q m = s2 m) (Nat.zero_le _) (by omega) (s := s2) ⟨fun k v hk hv => by rw [if_neg (by omega), yo 312 (by omega)]; exact h6 k v hk hv, fun _ _ => rfl⟩ ?_ ?_ ?_
  · rintro q e1 ⟨e2, e3⟩
    have e1' : lX12_noteFit_86 FU 0 s2 = some q := e1
    rw [e1', bq]
    refine ⟨q, rfl, ⟨?_, ⟨fun j hj hx => ?_, fun hx => ?_⟩, ?_, ?_, ?_, e2⟩, fun j hj => ?_, fun m m1 m2 => by rw [e3 m m2]; exact yo m m1⟩
    · rw [e3 269 (by omega), y9 _ (by omega), x77, List.length_append]; rfl
    · rw [List.length_append] at hj
      have hj' : j < F.length + 1 := hj
      rw [e3 269 (by omega), y9 _ (by omega), x78]
      by_cases e : j < F.length
      · rw [gL_l e, v3 (by rw [hx, eq_nn (by omega) (by omega)]; omega)]; exact h2 j e hx
      · have e' : j = F.length := by omega
        rw [e', gL_r]; exact v2 (by rw [hx, e'])
    · rw [e3 269 (by omega), y9 _ (by omega), x78, v3 (fun y => hx F.length (by rw [List.length_append]; show F.length < F.length + 1; omega) y.symm)]
      exact h2' (fun j hj => hx j (by rw [List.length_append]; show j < F.length + 1; omega))
    · rw [e3 269 (by omega), y79]; unfold fw; rw [acc_s]
    · rw [e3 269 (by omega), y80, acc_s]
    · rw [e3 269 (by omega), y81, acc_s]
    · rw [e3 269 (by omega), y9 _ (by omega), x9 _ (by omega) (by omega)]
  · rintro g q ⟨e2, e3⟩
    refine ⟨q, ?_, fun k v hk hv => by rw [e2 k v hk hv, if_pos hk], e3⟩
    show lX12_noteFit_86 _ _ _ = _
    rw [lX12_noteFit_86, if_pos (by decide)]
  · rintro g k q hk ⟨e2, e3⟩
    obtain ⟨g1, g2⟩ := hr k hk
    have hcd := cd_le g2
    have ht := thr_lt (G 0)
    have e30 : q 269 30 = nI (thr (G 0)) := by rw [e3 269 (by omega), y9 _ (by omega), x9 _ (by omega) (by omega)]; exact hG.2.1
    have e81 : q 281 k = nI (G 0 k - 1) := by rw [e3 281 (by omega), yo 281 (by omega)]; exact hG.2.2.1 k hk
    have a3 : ((if (thr (G 0)).testBit k = true then (gd (inb (nI k) 10) (some (q 281 (Int32.toNatClampNeg (nI k))))) else (some 100)) : Option Int32) = some (nI (cd (r f k))) := by
      rw [thr_bit hk, g1, inb_T hk (by omega), gdT, nI_ck (by omega), e81, g1]
      unfold cd
      by_cases z : r f k = 0
      · rw [decide_eq_false (fun y => y z), if_neg (by decide), if_pos z]; rfl
      · rw [decide_eq_true z, if_pos rfl, if_neg z]
    have e312 := e2 k (cd (r f k)) hk (by omega)
    rw [if_neg (by omega)] at e312
    have hct := ct_le r k (cd (r f k)) F
    refine ⟨st2 q 312 (101 * k + cd (r f k)) (nI (ct r k (cd (r f k)) F + 1)), ?_, fun k' v' hk' hv' => ?_, fun m hm => by rw [st2_c _ _ hm]; exact e3 m hm⟩
    · show lX12_noteFit_86 _ _ _ = lX12_noteFit_86 _ _ _
      rw [lX12_noteFit_86, if_neg (by rw [li10, le_nn (by omega) (by omega)]; omega), e30, f_has (by omega) (by omega), bq]
      dsimp only
      rw [a3, bq, show (101 : Int32) = nI 101 from rfl, pk_mul, nI_add, inb_T (show 101 * k + cd (r f k) < 1010 by omega) (by omega), gdT, gdT, nI_ck (by omega), e312, nI_1, nI_1]
    · by_cases e : k' = k ∧ v' = cd (r f k)
      · obtain ⟨rfl, rfl⟩ := e
        rw [st2_eq, if_pos (by omega), ctn, if_pos rfl]
      · rw [st2_o _ _ (by omega), e2 k' v' hk' hv']
        by_cases ek : k' = k
        · rw [if_neg (by omega), if_pos (by omega), ctn, if_neg (fun y => e ⟨ek, by rw [← y, ek]⟩), Nat.add_zero]
        · have hc : (k' < k) ↔ (k' < k + 1) := by omega
          rw [ifc hc]
/-- the frame of finding sets -/
def frQ (b b' : Mem) : Prop := (∀ j, j < 29 ∨ (69 ≤ j ∧ j < 77) → b' 269 j = b 269 j) ∧ ∀ m, m < 269 ∨ (270 ≤ m ∧ m ≤ 280) ∨ m = 313 → b' m = b m
theorem frQ.tr {b b' b'' : Mem} (h : frQ b b') (h2 : frQ b' b'') : frQ b b'' := ⟨fun j hj => (h2.1 j hj).trans (h.1 j hj), fun m hm => (h2.2 m hm).trans (h.2 m hm)⟩
theorem frO.Q {b b' : Mem} (h : frO b b') : frQ b b' := ⟨fun j hj => h.1 j (by omega), fun m hm => h.2 m (by omega)⟩
theorem HD.Q {b b' : Mem} {s sp wk n : Nat} {c : Nat → Nat} {B : F2} (h : HD b s sp wk c n B) (e : frQ b b') : HD b' s sp wk c n B := h.fr (fun j hj => e.1 j (by omega)) (e.2 275 (by omega)) (e.2 276 (by omega))
set_option maxHeartbeats 2000000 in
theorem m_findSets {b : Mem} {X B P D : F2} {s sp wk n p y : Nat} {c : Nat → Nat} {x : Int32} (hH : HD b s sp wk c n B) (hs : s < 2) (hn : n < 2) (os : okS sp wk c) (gB : okB B) (gP : okP P) (ok : okM sp wk 0 B X) (e : X 146 12 = 0) (hBP : ∀ b2 : Mem, BP b2 c sp → b2 269 26 = nI wk → MN True b2 X sp) (hp : p < 2) (e69 : b 269 69 = nI p) (hP : MPl (fun i => b 277 (121 * p + i)) P) (hy : y < 2) (gD : okD D) (e76 : b 269 76 = nI y) (hD : MDi (fun i => b 278 (17 * y + i)) D) (hr : ∀ f k, f < 2 ^ wk → k < 10 → rcv f c (rnP sp B c P (P 0 0) X) 0 k ≤ 100) :
    ∃ b', fX12_findSets x b = some b' ∧ FSt b' (fts D (fun f => rcv f c (rnP sp B c P (P 0 0) X) 0) (2 ^ wk)) (fun f => rcv f c (rnP sp B c P (P 0 0) X) 0) x (2 ^ wk - 1) ∧ frQ b b' := by
  have o1 := os.2.1
  have p16 : 2 ^ wk ≤ 16 := (Nat.pow_le_pow_right (by decide) o1.2 : 2 ^ wk ≤ 2 ^ 4)
  have p1 : 1 ≤ 2 ^ wk := Nat.one_le_two_pow
  generalize hrr : (fun f => rcv f c (rnP sp B c P (P 0 0) X) 0) = r at *
  have hr' : ∀ f k, f < 2 ^ wk → k < 10 → r f k ≤ 100 := fun f k hf hk => by rw [← hrr]; exact hr f k hf hk
  have err : ∀ f k, r f k = rcv f c (rnP sp B c P (P 0 0) X) 0 k := fun f k => by rw [← hrr]
  unfold fX12_findSets
  rw [bq]
  have e26 : (st2 (st2 (st2 b 269 77 0) 269 78 (-2)) 269 79 (-1)) 269 26 = nI wk := by rw [st2_o _ _ (by omega), st2_o _ _ (by omega), st2_o _ _ (by omega)]; exact hH.2.2.2.1
  rw [e26, sh1 (by omega), show nI (2 ^ wk) - 1 = nI (2 ^ wk - 1) from nI_sub p1]
  generalize hs0 : st2 (st2 (st2 (st2 (st2 b 269 77 0) 269 78 (-2)) 269 79 (-1)) 269 80 (nI (2 ^ wk - 1))) 269 81 0 = s0
  have z9 : ∀ j, ¬ (77 ≤ j ∧ j ≤ 81) → s0 269 j = b 269 j := fun j hj => by rw [← hs0, st2_o _ _ (by omega), st2_o _ _ (by omega), st2_o _ _ (by omega), st2_o _ _ (by omega), st2_o _ _ (by omega)]
  have zo : ∀ m, m ≠ 269 → s0 m = b m := fun m hm => by rw [← hs0, st2_c _ _ hm, st2_c _ _ hm, st2_c _ _ hm, st2_c _ _ hm, st2_c _ _ hm]
  have z5 : s0 269 77 = 0 ∧ s0 269 78 = -2 ∧ s0 269 79 = -1 ∧ s0 269 80 = nI (2 ^ wk - 1) ∧ s0 269 81 = 0 := by
    rw [← hs0]
    refine ⟨?_, ?_, ?_, ?_, ?_⟩ <;> simp (disch := omega) only [st2_o, st2_eq]
  clear hs0
  have init : ∃ b1, lX12_findSets_35 x FU 0 s0 = some b1 ∧ (∀ i, i < 1010 → b1 312 i = nI 0) ∧ ∀ m, m ≠ 312 → b1 m = s0 m := by
    refine loop_k (fun f j (q : Mem) => lX12_findSets_35 x f (nI j) q) 1010 (fun j q => (∀ i, i < j → q 312 i = nI 0) ∧ ∀ m, m ≠ 312 → q m = s0 m) (fun q => (∀ i, i < 1010 → q 312 i = nI 0) ∧ ∀ m, m ≠ 312 → q m = s0 m) (Nat.zero_le _) (by omega) (s := s0) ⟨fun i hi => absurd hi (by omega), fun _ _ => rfl⟩ ?_ ?_ ?_
    · intro q e1 e2; exact ⟨q, e1, e2⟩
    · intro f q h
      refine ⟨q, ?_, h⟩
      show lX12_findSets_35 _ _ _ _ = _
      rw [lX12_findSets_35, if_pos (by decide)]
    · rintro f j q hj ⟨h1, h2⟩
      refine ⟨st2 q 312 j (nI 0), ?_, fun i hi => ?_, fun m hm => by rw [st2_c _ _ hm]; exact h2 m hm⟩
      · show lX12_findSets_35 _ _ _ _ = lX12_findSets_35 _ _ _ _
        rw [lX12_findSets_35, if_neg (by rw [li1010, le_nn (by omega) (by omega)]; omega), inb_T hj (by omega), gdT, nI_ck (by omega), nI_1]
        rfl
      · by_cases e : i = j
        · rw [e, st2_eq]
        · rw [st2_o _ _ (by omega)]; exact h1 i (by omega)
  obtain ⟨b1, i1, i2, i3⟩ := init
  rw [i1, bq]
  have fr1 : frQ b b1 := ⟨fun j hj => by rw [i3 269 (by omega)]; exact z9 j (by omega), fun m hm => by rw [i3 m (by omega)]; exact zo m (by omega)⟩
  have hF0 : FSt b1 [] r x (2 ^ wk - 1) := by
    unfold FSt
    rw [i3 269 (by omega)]
    exact ⟨z5.1, ⟨fun j hj => absurd hj (by show ¬ j < 0; omega), fun _ => z5.2.1⟩, z5.2.2.1, z5.2.2.2.1, z5.2.2.2.2, fun k v hk hv => i2 _ (by omega)⟩
  refine loop_k (fun f j (q : Mem) => lX12_findSets_57 x f (nI j) q) (2 ^ wk) (fun m q => FSt q (fts D r m) r x (2 ^ wk - 1) ∧ frQ b q) (fun q => FSt q (fts D r (2 ^ wk)) r x (2 ^ wk - 1) ∧ frQ b q) (Nat.zero_le _) (by omega) (s := b1) ⟨hF0, fr1⟩ ?_ ?_ ?_
  · intro q e1 e2
    have e1' : lX12_findSets_57 x FU 0 b1 = some q := e1
    rw [e1', bq]; exact ⟨q, rfl, e2⟩
  · rintro f q ⟨h1, h2⟩
    refine ⟨q, ?_, h1, h2⟩
    show lX12_findSets_57 _ _ _ _ = _
    rw [lX12_findSets_57, h2.1 26 (by omega), hH.2.2.2.1, sh1 (by omega), if_pos (by rw [le_nn (by omega) (by omega)]; omega)]
  · rintro g f q hf ⟨h1, h2⟩
    have hl := fts_len (D := D) (r := r) f
    obtain ⟨q1, G, t1, t2, t3, t4⟩ := m_playFlushed (f := f) (hH.Q h2) hs hn os gB gP ok e hBP hp (by rw [h2.1 69 (by omega)]; exact e69) (by rw [h2.2 277 (by omega)]; exact hP) hf
    have fr2 := h2.tr t4.Q
    have hg : ∀ k, k < 10 → G 0 k = r f k ∧ r f k ≤ 100 := fun k hk => ⟨by rw [err]; exact t3 k hk, hr' f k hf hk⟩
    have hso := m_isSo (b := q1) hy gD (by rw [fr2.1 76 (by omega)]; exact e76) (by rw [fr2.2 278 (by omega)]; exact hD) t2 (fun k hk => by rw [(hg k hk).1]; exact (hg k hk).2)
    rw [agr_cg gD (fun k hk => (hg k hk).1)] at hso
    have h1' := h1.fr t4
    have hc : lX12_findSets_57 x (g + 1) (nI f) q = ((if agr D (r f) = true then ((fX12_noteFit (nI f) x q1).bind fun q18 => some q18) else (some q1)) : Option Mem).bind fun q20 => lX12_findSets_57 x g (nI (f + 1)) q20 := by
      rw [lX12_findSets_57, h2.1 26 (by omega), hH.2.2.2.1, sh1 (by omega), if_neg (by rw [le_nn (by omega) (by omega)]; omega), t1, bq, hso, bq, nI_1]
    by_cases z : agr D (r f) = true
    · obtain ⟨q2, u1, u2, u3, u4⟩ := m_noteFit h1' t2 hg (by omega) (by omega)
      have eF : fts D r (f + 1) = fts D r f ++ [f] := if_pos z
      refine ⟨q2, ?_, by rw [eF]; exact u2, fr2.tr ⟨fun j hj => u3 j (by omega), fun m hm => u4 m (by omega) (by omega)⟩⟩
      show lX12_findSets_57 _ _ _ _ = lX12_findSets_57 _ _ _ _
      rw [hc, if_pos z, u1, bq, bq]
    · have eF : fts D r (f + 1) = fts D r f := if_neg z
      refine ⟨q1, ?_, by rw [eF]; exact h1', fr2⟩
      show lX12_findSets_57 _ _ _ _ = lX12_findSets_57 _ _ _ _
      rw [hc, if_neg z, bq]
theorem m_askG {b : Mem} {g : Nat → Nat} {N : Nat} (h1 : b 269 77 = nI N) (h2 : N ≤ 16) (hb : ∀ k, g k ≤ 16) (hs : ∀ x1 x2 k, k < 10 → lX12_askWhat_27 x1 x2 (nI k) FU 0 0 b = some (nI (g k), b)) : fX12_askWhat b = some (if N = 0 then vI 0 else vI (bq17 g 17 10).1, b) := by
  unfold fX12_askWhat
  by_cases z : N = 0
  · rw [if_pos z]
    show (lX12_askWhat_8 (4999 + 1) _ _ _ _).bind _ = _
    rw [lX12_askWhat_8, if_neg (by decide), h1, z, if_pos (by decide), bq]; rfl
  · rw [if_neg z, ← (bq17_e (x := 1000000) hb (by omega) 9).1]
    refine loop_k (fun f j (q : Nat × Nat) => lX12_askWhat_8 f (vI q.1) (nI q.2) (nI j) b) 10 (fun j q => q = bq17 g 1000000 j) (fun x => x = (vI (bq17 g 1000000 (9 + 1)).1, b)) (Nat.zero_le _) (by omega) (s := (0, 1000000)) rfl ?_ ?_ ?_
    · intro x e1 e2
      have e1' : lX12_askWhat_8 FU (-1) 1000000 0 b = some x := e1
      rw [e1', bq, e2]
    · intro f q hq
      refine ⟨(vI q.1, b), ?_, by rw [hq]⟩
      show lX12_askWhat_8 _ _ _ _ _ = _
      rw [lX12_askWhat_8, if_pos (by decide)]
    · intro f k q hk hq
      have b1 := bq17_b (x := 1000000) hb k
      have b2' := hb k
      have eS := bq17_S (g := g) (x := 1000000) (n := k)
      rw [← hq] at b1 eS
      refine ⟨bq17 g 1000000 (k + 1), ?_, rfl⟩
      show lX12_askWhat_8 _ (vI q.1) (nI q.2) _ _ = lX12_askWhat_8 _ (vI (bq17 g 1000000 (k + 1)).1) (nI (bq17 g 1000000 (k + 1)).2) _ _
      rw [lX12_askWhat_8, if_neg (by rw [li10, le_nn (by omega) (by omega)]; omega), h1, if_neg (by rw [li0, le_nn (by omega) (by omega)]; omega), hs _ _ k hk, bq, eS]
      dsimp only
      rw [f_ls (by omega) (by omega), nI_1]
      by_cases y : q.2 ≤ g k
      · rw [if_pos (by rw [le_nn (by omega) (by omega)]; exact y), bq, bq, if_pos y, Nat.min_eq_left y]
      · rw [if_neg (by rw [le_nn (by omega) (by omega)]; exact y), bq, bq, if_neg y, Nat.min_eq_right (by omega)]
        rfl
theorem m_askWhat {b : Mem} {F : List Nat} {r : Nat → Nat → Nat} {x : Int32} {e0 : Nat} (h : FSt b F r x e0) (h2 : F.length ≤ 16) : fX12_askWhat b = some (if F.length = 0 then vI 0 else vI (bq17 (fun k => mxF (fun v => ct r k v F) 101) 17 10).1, b) := by
  have h6 := h.2.2.2.2.2
  refine m_askG h.1 h2 (shr_b h2) (fun x1 x2 k hk => ?_)
  have hgen : ∀ (g : Nat → Nat), (∀ v, v < 101 → b 312 (101 * k + v) = nI (g v)) → (∀ v, g v ≤ 16) → lX12_askWhat_27 x1 x2 (nI k) FU 0 0 b = some (nI (mxF g 101), b) := fun g hg1 hg2 => by
    refine loop_k (fun f j (s : Nat) => lX12_askWhat_27 x1 x2 (nI k) f (nI s) (nI j) b) 101 (fun j s => s = mxF g j) (fun x => x = (nI (mxF g 101), b)) (Nat.zero_le _) (by omega) (s := 0) rfl ?_ ?_ ?_
    · intro x e1 e2; rw [← e2]; exact e1
    · intro f s hs
      refine ⟨(nI s, b), ?_, by rw [hs]⟩
      show lX12_askWhat_27 _ _ _ _ _ _ _ = _
      rw [lX12_askWhat_27, if_pos (by decide)]
    · intro f v s hv hs
      have c1 := hg2 v
      have c2 := mxF_le (g := g) (x := 16) v (fun i _ => hg2 i)
      rw [← hs] at c2
      refine ⟨max s (g v), ?_, by rw [hs]; exact mxF_S.symm⟩
      show lX12_askWhat_27 _ _ _ _ _ _ _ = lX12_askWhat_27 _ _ _ _ _ _ _
      rw [lX12_askWhat_27, if_neg (by rw [show (101 : Int32) = nI 101 from rfl, le_nn (by omega) (by omega)]; omega), show (101 : Int32) = nI 101 from rfl, pk_mul, nI_add, inb_T (show 101 * k + v < 1010 by omega) (by omega), gdT, nI_ck (by omega), hg1 v hv, f_gt_n (by omega) (by omega), bq]
      dsimp only
      rw [nI_1]
  exact hgen (fun v => ct r k v F) (fun v hv => h6 k v hk hv) (fun v => Nat.le_trans (ct_le r k v F) h2)
theorem ev_wt {D : F2} {r : Nat → Nat → Nat} {wk w : Nat} (hw : w < wk) (h4 : wk ≤ 4) : ∀ m, m ≤ 2 ^ wk → ((acc (fun f s => s &&& f) (fts D r m) (2 ^ wk - 1)).testBit w = true ↔ wt w (fts D r m) = (fts D r m).length) ∧ ((acc (fun f s => s ||| f) (fts D r m) 0).testBit w = true ↔ 0 < wt w (fts D r m)) ∧ acc (fun f s => s &&& f) (fts D r m) (2 ^ wk - 1) < 16 ∧ acc (fun f s => s ||| f) (fts D r m) 0 < 16 := by
  have p16 : 2 ^ wk ≤ 16 := (Nat.pow_le_pow_right (by decide) h4 : 2 ^ wk ≤ 2 ^ 4)
  intro m
  induction m with
  | zero =>
    intro _
    refine ⟨?_, ?_, ?_, by show 0 < 16; omega⟩
    · show (2 ^ wk - 1).testBit w = true ↔ 0 = 0
      rw [Nat.testBit_two_pow_sub_one, decide_eq_true hw]; simp
    · show (0 : Nat).testBit w = true ↔ 0 < 0
      rw [Nat.zero_testBit]; simp
    · show 2 ^ wk - 1 < 16; omega
  | succ m ih =>
    intro hm
    obtain ⟨h1, h2, h3, h5⟩ := ih (by omega)
    unfold fts
    by_cases z : agr D (r m) = true
    · have hwl : wt w (fts D r m) ≤ (fts D r m).length := wt_b _
      have ew : wt w (fts D r m ++ [m]) = wt w (fts D r m) + if m.testBit w = true then 1 else 0 := acc_s
      rw [if_pos z, acc_s, acc_s, ew, List.length_append, Nat.testBit_and, Nat.testBit_or, Bool.and_eq_true, Bool.or_eq_true, h1, h2]
      generalize wt w (fts D r m) = a at *
      generalize (fts D r m).length = l at *
      have hm16 : m < 16 := by omega
      refine ⟨?_, ?_, ?_, Nat.or_lt_two_pow (n := 4) h5 hm16⟩
      · show a = l ∧ m.testBit w = true ↔ (a + if m.testBit w = true then 1 else 0) = l + 1
        by_cases y : m.testBit w = true
        · rw [if_pos y]; constructor
          · intro t; have := t.1; omega
          · intro t; exact ⟨by omega, y⟩
        · rw [if_neg y]; constructor
          · intro t; exact absurd t.2 y
          · intro t; omega
      · by_cases y : m.testBit w = true
        · rw [if_pos y]; constructor
          · intro t; omega
          · intro t; exact Or.inr y
        · rw [if_neg y]; constructor
          · intro t; rcases t with t | t
            · omega
            · exact absurd t y
          · intro t; exact Or.inl (by omega)
      · exact Nat.lt_of_le_of_lt Nat.and_le_left h3
    · rw [if_neg z]; exact ⟨h1, h2, h3, h5⟩
