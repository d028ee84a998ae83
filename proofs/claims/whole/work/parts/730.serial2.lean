/-! ===== serial: the reference's rows; the call ===== -/
def frR (b b' : Mem) : Prop := (∀ j, j ≠ 30 → b' 269 j = b 269 j) ∧ ∀ m, m ≠ 269 → ¬ (281 ≤ m ∧ m ≤ 294) → m ≠ 310 → m ≠ 311 → b' m = b m
theorem frR.rf {b : Mem} : frR b b := ⟨fun _ _ => rfl, fun _ _ _ _ _ => rfl⟩
theorem frR.tr {b b' b'' : Mem} (h : frR b b') (h2 : frR b' b'') : frR b b'' := ⟨fun j hj => (h2.1 j hj).trans (h.1 j hj), fun m m1 m2 m3 m4 => (h2.2 m m1 m2 m3 m4).trans (h.2 m m1 m2 m3 m4)⟩
theorem frA.R {b b' : Mem} (h : frA b b') : frR b b' := ⟨h.1, fun m m1 m2 m3 m4 => h.2 m m1 (by omega) (by omega) (by omega) (by omega) (by omega) (by omega) (by omega) (by omega)⟩
def SRE (b : Mem) (s sp wk : Nat) (c : Nat → Nat) (n : Nat) (B : F2) (N : Nat) (ix tk e : Nat → Nat) : Prop := HD b s sp wk c n B ∧ b 269 72 = nI (thr e) ∧ (∀ k, k < 10 → b 309 k = nI (e k - 1)) ∧ b 269 71 = nI N ∧ ∀ j, j < N → b 308 j = nI (ix j) ∧ ix j < 30 ∧ b 296 (ix j) = nI (tk j) ∧ tk j < B 0 0
theorem SRE.fr {b b' : Mem} {s sp wk n N : Nat} {c ix tk e : Nat → Nat} {B : F2} (h : SRE b s sp wk c n B N ix tk e) (f : frR b b') : SRE b' s sp wk c n B N ix tk e := by
  obtain ⟨h1, h2, h3, h4, h5⟩ := h
  exact ⟨h1.fr (fun j hj => f.1 j (by omega)) (f.2 275 (by omega) (by omega) (by omega) (by omega)) (f.2 276 (by omega) (by omega) (by omega) (by omega)), by rw [f.1 _ (by omega)]; exact h2, fun k hk => by rw [f.2 309 (by omega) (by omega) (by omega) (by omega)]; exact h3 k hk, by rw [f.1 _ (by omega)]; exact h4, fun j hj => by rw [f.2 308 (by omega) (by omega) (by omega) (by omega), f.2 296 (by omega) (by omega) (by omega) (by omega)]; exact h5 j hj⟩
def MQq (b : Mem) (N : Nat) (q : Nat × List Nat) : Prop := 0 < q.1 → ∀ k, k < N → b 311 k = nI (gL q.2 k)
/-- one row's tasks -/
theorem m_rowRun {b : Mem} {s sp wk n N : Nat} {c ix tk e : Nat → Nat} {B : F2} {r : Nat → Nat} {x1 : Int32} (hs : s < 2) (hn : n < 2) (os : okS sp wk c) (gB : okB B) (hN : N ≤ 6) (h : SRE b s sp wk c n B N ix tk e) (hG : MG b (G0 c) sp) (hr : RO b N r) (h9 : ∀ k, k < N → r k < N) :
    ∃ b' G, lX12_serialRows_39 x1 FU 0 b = some b' ∧ MG b' G sp ∧ okG G ∧ G 0 = rwV B tk c (lsR N r) ∧ frR b b' ∧ b' 310 = b 310 ∧ b' 311 = b 311 := by
  refine loop_k (fun f i (q : Mem) => lX12_serialRows_39 x1 f (nI i) q) N (fun i q => ∃ G, MG q G sp ∧ okG G ∧ G 0 = rwV B tk c (lsR i r) ∧ frR b q ∧ q 310 = b 310 ∧ q 311 = b 311) (fun q => ∃ G, MG q G sp ∧ okG G ∧ G 0 = rwV B tk c (lsR N r) ∧ frR b q ∧ q 310 = b 310 ∧ q 311 = b 311) (Nat.zero_le _) (by omega) (s := b) ⟨G0 c, hG, okG0 os.2.2, rfl, frR.rf, rfl, rfl⟩ ?_ ?_ ?_
  · rintro q e1 ⟨G, e2⟩; exact ⟨q, G, e1, e2⟩
  · rintro f q ⟨G, g1, g2, g3, g4, g5, g6⟩
    refine ⟨q, ?_, G, g1, g2, g3, g4, g5, g6⟩
    show lX12_serialRows_39 _ _ _ _ = _
    rw [lX12_serialRows_39, (h.fr g4).2.2.2.1, if_pos (by rw [le_nn (by omega) (by omega)]; omega)]
  · rintro f i q hi ⟨G, g1, g2, g3, g4, g5, g6⟩
    have hq := h.fr g4
    have hri := h9 i hi
    obtain ⟨u1, u2, u3, u4⟩ := hq.2.2.2.2 (r i) hri
    obtain ⟨q1, t1, t2, t3, t4⟩ := m_runAlone g1 os.1.1 os.1.2 g2 hq.1.2.1 hn gB u4
    refine ⟨q1, ?_, rG B (tk (r i)) G, t2, g2.rG gB _, ?_, g4.tr t4.R, by rw [t4.2 310 (by omega) (by omega) (by omega) (by omega) (by omega) (by omega) (by omega) (by omega) (by omega)]; exact g5, by rw [t4.2 311 (by omega) (by omega) (by omega) (by omega) (by omega) (by omega) (by omega) (by omega) (by omega)]; exact g6⟩
    · show lX12_serialRows_39 _ _ _ _ = lX12_serialRows_39 _ _ _ _
      rw [lX12_serialRows_39, hq.2.2.2.1, if_neg (by rw [le_nn (by omega) (by omega)]; omega), inb_T (show i < 6 by omega) (by omega), gdT, nI_ck (by omega), g5, hr i hi, inb_T (show r i < 64 by omega) (by omega), gdT, nI_ck (by omega), u1, inb_T (show ix (r i) < 64 by omega) (by omega), gdT, nI_ck (by omega), u3, t1, bq, nI_1]
    · rw [lsR_S, rwV_s, ← g3]
      rfl
theorem m_cp81 {b : Mem} {q : Nat} {is : Bool} (hq : q < 1000) : ∃ b', lX12_serialRows_81 (nI q) is FU 0 b = some b' ∧ frN 311 b b' ∧ (is = true → q = 0 → ∀ k, k < 6 → b' 311 k = b 310 k) ∧ ((is = false ∨ q ≠ 0) → b' = b) := by
  by_cases z : is = true ∧ q = 0
  · obtain ⟨rfl, rfl⟩ := z
    refine loop_k (fun f i (s : Mem) => lX12_serialRows_81 (nI 0) true f (nI i) s) 6 (fun i s => frN 311 b s ∧ ∀ k, k < i → s 311 k = b 310 k) (fun s => frN 311 b s ∧ ∀ k, k < 6 → s 311 k = b 310 k) (Nat.zero_le _) (by omega) (s := b) ⟨frN.rf, fun k hk => absurd hk (by omega)⟩ ?_ ?_ ?_
    · rintro s e1 ⟨e2, e3⟩; exact ⟨s, e1, e2, fun _ _ => e3, fun w => w.elim (fun y => absurd y (by decide)) (fun y => absurd rfl y)⟩
    · intro f s h
      refine ⟨s, ?_, h⟩
      show lX12_serialRows_81 _ _ _ _ _ = _
      rw [lX12_serialRows_81, if_pos (by decide)]
    · rintro f i s hi ⟨h1, h2⟩
      refine ⟨st2 s 311 i (b 310 i), ?_, fun m hm => by rw [st2_c _ _ hm]; exact h1 m hm, fun k hk => ?_⟩
      · show lX12_serialRows_81 _ _ _ _ _ = lX12_serialRows_81 _ _ _ _ _
        rw [lX12_serialRows_81, if_neg (by rw [li6, le_nn (by omega) (by omega)]; omega), if_pos rfl, if_pos (by rfl), inb_T hi (by omega), gdT, gdT, nI_ck (by omega), h1 310 (by omega), nI_1]
      · by_cases e : k = i
        · rw [e, st2_eq]
        · rw [st2_o _ _ (by omega)]; exact h2 k (by omega)
  · refine ⟨b, ?_, frN.rf, fun h1 h2 => absurd ⟨h1, h2⟩ z, fun _ => rfl⟩
    show lX12_serialRows_81 _ _ (4999 + 1) _ _ = _
    rw [lX12_serialRows_81, if_neg (by decide)]
    cases is
    · rw [if_neg (by decide)]
    · rw [if_pos rfl, if_neg (ne0 (fun y => z ⟨rfl, y⟩) (by omega))]
set_option maxHeartbeats 2000000 in
theorem m_rows {s sp wk n N : Nat} {c ix tk e : Nat → Nat} {B : F2} (hs : s < 2) (hn : n < 2) (os : okS sp wk c) (gB : okB B) (hN : N ≤ 6) (he : okR e) : ∀ (L : List (List Nat)) (x : List Nat) (f : Nat) (b : Mem) (q : Nat × List Nat), L.length + 1 < f → q.1 + L.length + 1 < 1000 → chn N (x :: L) = true → RO b N (gL x) → SRE b s sp wk c n B N ix tk e → MQq b N q →
    ∃ b', lX12_serialRows_29 f (nI q.1) 1 b = some (nI ((x :: L).foldl (nte (vdR B tk c e)) q).1, b') ∧ MQq b' N ((x :: L).foldl (nte (vdR B tk c e)) q) ∧ frR b b' := by
  intro L
  induction L with
  | nil =>
    intro x f b q hf h9 hc hr h hq
    obtain ⟨g, rfl⟩ : ∃ g, f = g + 1 + 1 := ⟨f - 2, by have : [].length + 1 < f := hf; show f = f - 2 + 1 + 1; simp at this; omega⟩
    have hc' : (decide (fdI (gL x) (N - 1) = 0) && okx N x) = true := hc
    rw [Bool.and_eq_true, decide_eq_true_eq] at hc'
    obtain ⟨o1, o2⟩ := okx_p hc'.2
    obtain ⟨b1, k1, k2, k3, k4⟩ := m_keysAsTold hs h.1.1 h.1.2.2.1
    have fr1 : frR b b1 := ⟨k3, fun m m1 m2 _ _ => k4 m m1 (by omega) (by omega) (by omega)⟩
    obtain ⟨b2, G, r1, r2, r3, r4, r5, r6, r7⟩ := m_rowRun (x1 := nI q.1) hs hn os gB hN (h.fr fr1) k2 (fun k hk => by rw [k4 310 (by omega) (by omega) (by omega) (by omega)]; exact hr k hk) o2
    have h2 := (h.fr fr1).fr r5
    have hE := m_isEnd r2 r3 he h2.2.1 h2.2.2.1
    have ev : eqR e (G 0) 10 = vdR B tk c e x := by rw [r4, o1, eqR_comm]; rfl
    rw [ev] at hE
    have hq9 : q.1 < 1000 := by omega
    obtain ⟨b3, p1, p2, p3, p4⟩ := m_cp81 (b := b2) (q := q.1) (is := vdR B tk c e x) hq9
    have fr3 : frR b b3 := (fr1.tr r5).tr ⟨fun j _ => by rw [p2 269 (by omega)], fun m _ _ _ m4 => p2 m m4⟩
    have e310 : ∀ k, k < N → b3 310 k = nI (gL x k) := fun k hk => by rw [p2 310 (by omega), r6, k4 310 (by omega) (by omega) (by omega) (by omega)]; exact hr k hk
    have hnr := (m_nextRow hN e310 (fun k hk => by have := o2 k hk; omega)).1 hc'.1
    have e71 : b3 269 71 = nI N := (h.fr fr3).2.2.2.1
    refine ⟨b3, ?_, ?_, fr3⟩
    · rw [lX12_serialRows_29, if_neg (by decide), k1, bq, r1, bq, hE, bq]
      dsimp only
      rw [p1, bq, e71]
      show (if vdR B tk c e x = true then some true else some false : Option Bool).bind _ = some (nI (nte (vdR B tk c e) q x).1, b3)
      unfold nte
      by_cases z : vdR B tk c e x = true
      · rw [if_pos z, bq, hnr, bq, if_pos z, b2T, nI_add]
        dsimp only
        rw [lX12_serialRows_29, if_pos (by decide)]
      · rw [if_neg z, bq, hnr, bq, if_neg z, b2F, nI_add]
        dsimp only
        rw [lX12_serialRows_29, if_pos (by decide)]
        rfl
    · show MQq b3 N (nte (vdR B tk c e) q x)
      unfold nte
      by_cases z : vdR B tk c e x = true
      · rw [if_pos z]
        intro _ k hk
        show b3 311 k = nI (gL (if q.1 = 0 then x else q.2) k)
        by_cases z0 : q.1 = 0
        · rw [if_pos z0, p3 z z0 k (by omega), r6, k4 310 (by omega) (by omega) (by omega) (by omega)]; exact hr k hk
        · rw [if_neg z0, p4 (Or.inr z0), r7, k4 311 (by omega) (by omega) (by omega) (by omega)]; exact hq (by omega) k hk
      · rw [if_neg z, p4 (Or.inl (Bool.eq_false_iff.mpr z))]
        intro hp k hk
        rw [r7, k4 311 (by omega) (by omega) (by omega) (by omega)]; exact hq hp k hk
  | cons y L ih =>
    intro x f b q hf h9 hc hr h hq
    rw [List.length_cons] at hf h9
    obtain ⟨g, rfl⟩ : ∃ g, f = g + 1 := ⟨f - 1, by omega⟩
    have hc' : ((decide (fdI (gL x) (N - 1) ≠ 0) && decide (lsR N (nxR N (gL x)) = y)) && okx N x && chn N (y :: L)) = true := hc
    rw [Bool.and_eq_true, Bool.and_eq_true, Bool.and_eq_true, decide_eq_true_eq, decide_eq_true_eq] at hc'
    obtain ⟨⟨⟨c1, c2⟩, c3⟩, c4⟩ := hc'
    obtain ⟨o1, o2⟩ := okx_p c3
    obtain ⟨b1, k1, k2, k3, k4⟩ := m_keysAsTold hs h.1.1 h.1.2.2.1
    have fr1 : frR b b1 := ⟨k3, fun m m1 m2 _ _ => k4 m m1 (by omega) (by omega) (by omega)⟩
    obtain ⟨b2, G, r1, r2, r3, r4, r5, r6, r7⟩ := m_rowRun (x1 := nI q.1) hs hn os gB hN (h.fr fr1) k2 (fun k hk => by rw [k4 310 (by omega) (by omega) (by omega) (by omega)]; exact hr k hk) o2
    have h2 := (h.fr fr1).fr r5
    have hE := m_isEnd r2 r3 he h2.2.1 h2.2.2.1
    have ev : eqR e (G 0) 10 = vdR B tk c e x := by rw [r4, o1, eqR_comm]; rfl
    rw [ev] at hE
    obtain ⟨b3, p1, p2, p3, p4⟩ := m_cp81 (b := b2) (q := q.1) (is := vdR B tk c e x) (by omega)
    have fr3 : frR b b3 := (fr1.tr r5).tr ⟨fun j _ => by rw [p2 269 (by omega)], fun m _ _ _ m4 => p2 m m4⟩
    have e310 : ∀ k, k < N → b3 310 k = nI (gL x k) := fun k hk => by rw [p2 310 (by omega), r6, k4 310 (by omega) (by omega) (by omega) (by omega)]; exact hr k hk
    obtain ⟨b4, n1, n2, n3⟩ := (m_nextRow hN e310 (fun k hk => by have := o2 k hk; omega)).2 c1
    have e71 : b3 269 71 = nI N := (h.fr fr3).2.2.2.1
    have fr4 : frR b b4 := fr3.tr ⟨fun j _ => by rw [n3 269 (by omega)], fun m _ _ m3 _ => n3 m m3⟩
    have hr4 : RO b4 N (gL y) := fun k hk => by rw [n2 k hk, ← c2, gL_ls hk]
    have hq4 : MQq b4 N (nte (vdR B tk c e) q x) := by
      unfold nte
      by_cases z : vdR B tk c e x = true
      · rw [if_pos z]
        intro _ k hk
        show b4 311 k = nI (gL (if q.1 = 0 then x else q.2) k)
        rw [n3 311 (by omega)]
        by_cases z0 : q.1 = 0
        · rw [if_pos z0, p3 z z0 k (by omega), r6, k4 310 (by omega) (by omega) (by omega) (by omega)]; exact hr k hk
        · rw [if_neg z0, p4 (Or.inr z0), r7, k4 311 (by omega) (by omega) (by omega) (by omega)]; exact hq (by omega) k hk
      · rw [if_neg z]
        intro hp k hk
        rw [n3 311 (by omega), p4 (Or.inl (Bool.eq_false_iff.mpr z)), r7, k4 311 (by omega) (by omega) (by omega) (by omega)]; exact hq hp k hk
    have hq1 : (nte (vdR B tk c e) q x).1 ≤ q.1 + 1 := by
      unfold nte; split
      · exact Nat.le_refl _
      · omega
    obtain ⟨b5, t1, t2, t3⟩ := ih y g b4 (nte (vdR B tk c e) q x) (by omega) (by omega) c4 hr4 (h.fr fr4) hq4
    refine ⟨b5, ?_, by rw [List.foldl_cons]; exact t2, fr4.tr t3⟩
    rw [lX12_serialRows_29, if_neg (by decide), k1, bq, r1, bq, hE, bq]
    dsimp only
    rw [p1, bq, e71, List.foldl_cons]
    have e1 : (nte (vdR B tk c e) q x).1 = if vdR B tk c e x = true then q.1 + 1 else q.1 := by unfold nte; split <;> rfl
    rw [e1] at t1
    by_cases z : vdR B tk c e x = true
    · rw [if_pos z] at t1
      rw [if_pos z, bq, n1, bq, b2T, nI_add]
      exact t1
    · rw [if_neg z] at t1
      rw [if_neg z, bq, n1, bq, b2F, nI_add]
      exact t1
theorem m_serialRows {b : Mem} {G : F2} {s sp wk n N : Nat} {c ix tk : Nat → Nat} {B : F2} (hs : s < 2) (hn : n < 2) (os : okS sp wk c) (gB : okB B) (hN : N ≤ 6) (hG : MG b G sp) (gG : okG G) (hH : HD b s sp wk c n B) (e71 : b 269 71 = nI N) (h5 : ∀ j, j < N → b 308 j = nI (ix j) ∧ ix j < 30 ∧ b 296 (ix j) = nI (tk j) ∧ tk j < B 0 0) :
    ∃ b', fX12_serialRows b = some (nI ((dfs N N []).foldl (nte (vdR B tk c (G 0))) (0, [])).1, b') ∧ MQq b' N ((dfs N N []).foldl (nte (vdR B tk c (G 0))) (0, [])) ∧ tM b b' ∧ frM b b' := by
  unfold fX12_serialRows
  obtain ⟨b1, k1, k2, k3, k4, k5⟩ := m_keepEnd hG
  rw [k1, bq]
  have init : ∃ b2, lX12_serialRows_6 FU 0 b1 = some b2 ∧ (∀ k, k < 6 → b2 310 k = nI k) ∧ frN 310 b1 b2 := by
    refine loop_k (fun f j (q : Mem) => lX12_serialRows_6 f (nI j) q) 6 (fun j q => (∀ k, k < j → q 310 k = nI k) ∧ frN 310 b1 q) (fun q => (∀ k, k < 6 → q 310 k = nI k) ∧ frN 310 b1 q) (Nat.zero_le _) (by omega) (s := b1) ⟨fun k hk => absurd hk (by omega), frN.rf⟩ ?_ ?_ ?_
    · intro r e1 e2; exact ⟨r, e1, e2⟩
    · intro f q h
      refine ⟨q, ?_, h⟩
      show lX12_serialRows_6 _ _ _ = _
      rw [lX12_serialRows_6, if_pos (by decide)]
    · rintro f j q hj ⟨h1, h2⟩
      refine ⟨st2 q 310 j (nI j), ?_, fun k hk => ?_, fun m hm => by rw [st2_c _ _ hm]; exact h2 m hm⟩
      · show lX12_serialRows_6 _ _ _ = lX12_serialRows_6 _ _ _
        rw [lX12_serialRows_6, if_neg (by rw [li6, le_nn (by omega) (by omega)]; omega), inb_T hj (by omega), gdT, nI_ck (by omega), nI_1]
      · by_cases e : k = j
        · rw [e, st2_eq]
        · rw [st2_o _ _ (by omega)]; exact h1 k (by omega)
  obtain ⟨b2, i1, i2, i3⟩ := init
  rw [i1, bq]
  have e9 : ∀ j, j ≠ 72 → b2 269 j = b 269 j := fun j hj => by rw [i3 269 (by omega)]; exact k4 j hj
  have eo : ∀ m, m ≠ 269 → m ≠ 309 → m ≠ 310 → b2 m = b m := fun m m1 m2 m3 => by rw [i3 m m3]; exact k5 m m1 m2
  have hS : SRE b2 s sp wk c n B N ix tk (G 0) := ⟨hH.fr (fun j hj => e9 j (by omega)) (eo _ (by omega) (by omega) (by omega)) (eo _ (by omega) (by omega) (by omega)), by rw [i3 269 (by omega)]; exact k2, fun k hk => by rw [i3 309 (by omega)]; exact k3 k hk, by rw [e9 _ (by omega)]; exact e71, fun j hj => by rw [eo 308 (by omega) (by omega) (by omega), eo 296 (by omega) (by omega) (by omega)]; exact h5 j hj⟩
  have hch := chn_all hN
  obtain ⟨d1, d2⟩ := dfs_hd N hN
  generalize dfs N N [] = L at *
  cases L with
  | nil => exact absurd d1 (by simp)
  | cons x L =>
    have ex : x = lsR N id := by simpa using d1
    rw [List.length_cons] at d2
    obtain ⟨b3, t1, t2, t3⟩ := m_rows (c := c) (ix := ix) (tk := tk) (e := G 0) hs hn os gB hN (fun k hk => (gG k hk).1) L x FU b2 (0, []) (by show L.length + 1 < 5000; omega) (by show 0 + L.length + 1 < 1000; omega) hch (fun k hk => by rw [i2 k (by omega), ex, gL_ls hk]; rfl) hS (fun z => absurd z (by show ¬ 0 < 0; omega))
    have t1' : lX12_serialRows_29 FU 0 1 b2 = some (nI ((x :: L).foldl (nte (vdR B tk c (G 0))) (0, [])).1, b3) := t1
    rw [t1', bq]
    refine ⟨b3, rfl, t2, fun m hm => ?_, fun m hm => ?_⟩
    · rw [t3.2 m (by omega) (by omega) (by omega) (by omega), eo m (by omega) (by omega) (by omega)]
    · rw [t3.2 m (by omega) (by omega) (by omega) (by omega), eo m (by omega) (by omega) (by omega)]
theorem c_tryOrders {a : Mem} {X B : F2} {s sp wk n N : Nat} {c ix tk : Nat → Nat} (hX : CX a X s sp wk c n B) (hN : N ≤ 6) (he : okR (X 147)) (h1 : a 234 1 = nI N) (h2 : ∀ j, j < N → a 235 j = nI (174 + 2 * ix j) ∧ ix j < 30 ∧ a (174 + 2 * ix j) 1 = nI (tk j) ∧ tk j < B 0 0) :
    ∃ a', fX0_tryOrders a = some a' ∧ NT a' N ((dfs N N []).foldl (nte (vdR B tk c (X 147))) (0, [])) ∧ a' 234 1 = nI N ∧ frC a a' ∧ tC a a' := by
  obtain ⟨q1, q2, q3, q4, q5, q6⟩ := hX.2.1
  have e0 : (st2 a 234 5 0) 146 0 = nI (8 + 14 * s) := by rw [st2_c _ _ (by omega), hX.1.e3, hX.2.2.1]
  unfold fX0_tryOrders
  rw [e0, rfN_n (by omega), isB_st q1, gdT]
  have hr : RW (st2 a 234 5 0) (8 + 14 * s + 1) c := fun k hk => by rw [st2_c _ _ (by omega)]; exact q5.2.2 k hk
  obtain ⟨a1, v1, v2, v3⟩ := c_copyKeys (y := 237) hr
  have v1' : fX11_copyKeys (8 + 14 * s + 1) (237 + 1 * 0) (st2 a 234 5 0) = some a1 := v1
  rw [v1', bq]
  have eo : ∀ m, m ≠ 234 → m ≠ 237 → a1 m = a m := fun m m1 m2 => by rw [v3 m m2, st2_c _ _ m1]
  have hS : SEN a1 N n B ix tk (X 147) := by
    refine ⟨by rw [v3 234 (by omega), st2_o _ _ (by omega)]; exact h1, fun j hj => ?_, by rw [eo 146 (by omega) (by omega), hX.1.e3, hX.2.2.2], ?_, fun k hk => by rw [eo 147 (by omega) (by omega)]; exact hX.1.v (by omega) (by omega) (by unfold vc; omega)⟩
    · obtain ⟨u1, u2, u3, u4⟩ := h2 j hj
      exact ⟨by rw [eo 235 (by omega) (by omega)]; exact u1, u2, by rw [eo _ (by omega) (by omega)]; exact u3, u4⟩
    · unfold BK; rw [eo _ (by omega) (by omega), eo (10 + 14 * n + 1) (by omega) (by omega), eo (10 + 14 * n + 2) (by omega) (by omega), eo (10 + 14 * n + 3) (by omega) (by omega), eo (10 + 14 * n + 4) (by omega) (by omega)]; exact q6
  obtain ⟨d1, d2⟩ := dfs_hd N hN
  obtain ⟨a2, t1, t2, t3⟩ := c_extend (c := c) q2 he q4 (fun k _ => q3.2.2 k) hN N 8 [] 0 a1 (0, []) (by omega) (by show 0 + N = N; omega) (fun j hj => absurd hj (by show ¬ j < 0; omega)) v2 (by omega) (fun x _ => ⟨fun z => absurd z (by rw [Nat.zero_testBit]; decide), fun z => absurd z (by simp)⟩) ⟨by rw [v3 234 (by omega), st2_eq]; rfl, fun z => absurd z (by show ¬ 0 < 0; omega)⟩ (by show 0 + _ < 1000; omega) hS
  have t1' : fX0_extend 8 0 0 a1 = some a2 := t1
  rw [t1', bq]
  refine ⟨a2, rfl, t2, (hS.fr q2 t3).1, fun m hm => ?_, fun m m1 m2 => ?_⟩
  · rw [t3.1 m (by omega) (by show ¬ (237 + 0 < m ∧ m ≤ 243); omega) (by omega) (by omega), eo m (by omega) (by omega)]
  · rw [t3.1 m (by omega) (by show ¬ (237 + 0 < m ∧ m ≤ 243); omega) (by omega) (by omega), eo m (by omega) (by omega)]
set_option maxHeartbeats 4000000 in
theorem p_serial (x y z v : Int32) : PAIR (fX11_serial x y z v) (fX12_serial x y z v) := PAIR.q (fun a b hR => by
  unfold fX11_serial fX12_serial
  rcases setup hR x y z with ⟨s, n, p, sp, wk, c, B, P, X0, rfl, rfl, rfl, hs, hn, hp, os, gB, gP, ok, e12, hBP, hC, b1, l1, l2, l3, l4, l5, l6, l7, -⟩ | ⟨hC, b1, l1, l6, l7⟩
  · obtain ⟨a1, c1, c2, c3⟩ := hC 40 (by omega)
    have c1' : fX11_play (nI s) (nI n) (nI p) 40 a = some (true, a1) := c1
    rw [c1', bq, l1, bq]
    dsimp only
    rw [if_pos rfl, if_pos rfl, m_deeds hp l4 l5, bq]
    dsimp only
    obtain ⟨b2, d1, d2, d3, -⟩ := m_play (m := P 0 0) l3 l2 hs hn os gB gP ok e12 hp l4 l5 (Nat.le_refl _)
    rw [d1, bq]
    dsimp only
    have em : min 40 (P 0 0) = P 0 0 := by have := gP.1; omega
    rw [em] at c2
    have okY := (rn_ok (c := c) gB gP os.2.2 ok e12 (P 0 0) gP.1).1
    have hH2 := l2.O d3
    generalize rnP sp B c P (P 0 0) X0 = X at *
    have l30 := okY.l30
    have ln := okY.2.2.2.2.2.1
    obtain ⟨a2, g1, g2, g3, g4, g5⟩ := c_gather c2.1 okY
    obtain ⟨b3, h1, h2, h3, h4, h5⟩ := m_layCommits d2 okY
    rw [g1, bq, h1, bq, f_in, bq]
    dsimp only
    have hkl := kpt_len (X := X) (X 146 11)
    have hki : ∀ i, i < (kpt X (X 146 11)).length → gL (kpt X (X 146 11)) i < X 146 11 := fun i hi => (kpt_lt _ hi).1
    generalize kpt X (X 146 11) = K at *
    have fa2 : frC a a2 := c3.C.tr (fun m hm => g5 m (by omega) (by omega))
    have ta2 : tC a a2 := c3.t.tr (fun m m1 m2 => g5 m (by omega) (by omega))
    have fb3 : frM b b3 := (l7.tr d3.M).tr (fun m hm => h5 m (by omega) (by omega))
    have tb3 : tM b b3 := (l6.tr d3.t).tr (fun m hm => h5 m (by omega) (by omega))
    have hc2 : CX a2 X s sp wk c n B := ⟨c2.1.fr (fun m m1 m2 => g5 m (by omega) (by omega)), c2.2.1.fr (fun m hm => g5 m (by omega) (by omega)), c2.2.2⟩
    have hH3 : HD b3 s sp wk c n B := hH2.fr (fun j hj => h4 j (by omega)) (h5 _ (by omega) (by omega)) (h5 _ (by omega) (by omega))
    have hG3 : MG b3 (gG X) sp := d2.1.ot (h4 _ (by omega)) (h4 _ (by omega)) (fun m m1 m2 => h5 m (by omega) (by omega))
    have he : okR (X 147) := fun k hk => (okY.2.2.2.1 k hk).1
    have done : ∀ r : Int32, ∃ (r' : Int32) (a' b' : Mem), (some (r, a2) : Option (Int32 × Mem)) = some (r', a') ∧ (some (r, b3) : Option (Int32 × Mem)) = some (r', b') ∧ frC a a' ∧ frM b b' ∧ tC a a' ∧ tM b b' := fun r => ⟨r, a2, b3, rfl, rfl, fa2, fb3, ta2, tb3⟩
    have t2 : ∀ j, j < K.length → a2 235 j = nI (174 + 2 * gL K j) ∧ gL K j < 30 ∧ a2 (174 + 2 * gL K j) 1 = nI (X (174 + 2 * gL K j) 1) ∧ X (174 + 2 * gL K j) 1 < B 0 0 := fun j hj => by
      have := hki j hj
      exact ⟨g3 j hj, by omega, hc2.1.ln (by omega), (ln _ this).2.1⟩
    have t3 : ∀ j, j < K.length → b3 308 j = nI (gL K j) ∧ gL K j < 30 ∧ b3 296 (gL K j) = nI (X (174 + 2 * gL K j) 1) ∧ X (174 + 2 * gL K j) 1 < B 0 0 := fun j hj => by
      have := hki j hj
      exact ⟨h3 j hj, by omega, by rw [h5 296 (by omega) (by omega)]; exact (d2.2.2.2.2.1 _ this).2.1, (ln _ this).2.1⟩
    have orders : K.length ≤ 6 → ∃ (q : Nat × List Nat) (a3 b4 : Mem), fX0_tryOrders a2 = some a3 ∧ fX12_serialRows b3 = some (nI q.1, b4) ∧ NT a3 K.length q ∧ MQq b4 K.length q ∧ a3 234 1 = nI K.length ∧ frC a a3 ∧ tC a a3 ∧ frM b b4 ∧ tM b b4 ∧ q.1 < 1000 := fun hN => by
      obtain ⟨a3, u1, u2, u3, u4, u5⟩ := c_tryOrders (ix := gL K) (tk := fun j => X (174 + 2 * gL K j) 1) hc2 hN he g2 t2
      obtain ⟨b4, w1, w2, w3, w4⟩ := m_serialRows (ix := gL K) (tk := fun j => X (174 + 2 * gL K j) 1) hs hn os gB hN hG3 okY.G hH3 h2 t3
      have hnt := nte_1 (v := vdR B (fun j => X (174 + 2 * gL K j) 1) c (X 147)) (l := dfs K.length K.length []) (q := (0, []))
      have hdl := (dfs_hd K.length hN).2
      have h00 : ((0 : Nat), ([] : List Nat)).1 = 0 := rfl
      exact ⟨(dfs K.length K.length []).foldl (nte (vdR B (fun j => X (174 + 2 * gL K j) 1) c (X 147))) (0, []), a3, b4, u1, w1, u2, w2, u3, fa2.tr u4, ta2.tr u5, fb3.tr w4, tb3.tr w3, by omega⟩
    by_cases v0' : v = 0
    · rw [if_pos v0', v0', decide_eq_true ⟨by decide, by decide⟩, if_pos rfl, if_pos rfl, g2, h2]; exact done _
    rw [if_neg v0']
    by_cases v1 : v = 1
    · rw [if_pos v1, v1, decide_eq_true ⟨by decide, by decide⟩, if_pos rfl, if_neg (by decide)]
      unfold fX11_ofOrders
      by_cases hN : K.length ≤ 6
      · obtain ⟨q, a3, b4, u1, u2, u3, u4, u5, u6, u7, u8, u9, -⟩ := orders hN
        rw [if_pos (show a2 234 1 ≤ 6 by rw [g2, li6, le_nn (by omega) (by omega)]; exact hN), if_pos (show b3 269 71 ≤ 6 by rw [h2, li6, le_nn (by omega) (by omega)]; exact hN), u1, bq, u2, bq, if_pos rfl, bq, u3.1]
        exact ⟨_, _, _, rfl, rfl, u6, u8, u7, u9⟩
      · rw [if_neg (show ¬ a2 234 1 ≤ 6 by rw [g2, li6, le_nn (by omega) (by omega)]; exact hN), if_neg (show ¬ b3 269 71 ≤ 6 by rw [h2, li6, le_nn (by omega) (by omega)]; exact hN), bq]
        exact done _
    rw [if_neg v1, decide_eq_false (fun q => by
      obtain ⟨i, hi, rfl⟩ := nI_of q.1
      have h3' := q.2
      rw [li1, lt_nn (by omega) (by omega)] at h3'
      rcases (show i = 0 ∨ i = 1 by omega) with rfl | rfl
      · exact v0' rfl
      · exact v1 rfl), if_neg (show ¬ false = true by decide), f_inTen, bq]
    dsimp only
    by_cases v10 : v < 10
    · rw [decide_eq_false (fun q => q.1 (Int32.lt_of_lt_of_le v10 (by decide))), if_neg (show ¬ false = true by decide), if_pos v10, if_pos v10]; exact done _
    obtain ⟨i, hi, rfl⟩ := nI_of (x := v) (fun q => v10 (Int32.lt_of_lt_of_le q (by decide)))
    have v10' := v10
    rw [li10, lt_nn (by omega) (by omega)] at v10'
    have edv : nI i / 10 = nI (i / 10) := by rw [li10, nI_dv (by omega) (by omega) (by omega)]
    have emd : nI i % 10 = nI (i % 10) := by rw [li10, nI_md (by omega) (by omega) (by omega)]
    have hm10 : i % 10 < 10 := Nat.mod_lt _ (by omega)
    have cM : (nI (i % 10) < b3 269 71) ↔ i % 10 < K.length := by rw [h2, lt_nn (by omega) (by omega)]
    have cC : (nI (i % 10) < a2 234 1) ↔ i % 10 < K.length := by rw [g2, lt_nn (by omega) (by omega)]
    rw [edv, emd, if_neg v10, if_neg v10]
    by_cases v5 : 50 ≤ i ∧ i < 60
    · have k3 : nI i - 50 = nI (i % 10) := by rw [li50, nI_sub (by omega)]; congr 1; omega
      rw [decide_eq_true ⟨by rw [li50, lt_nn (by omega) (by omega)]; omega, by rw [li50, li10, nI_add, le_nn (by omega) (by omega)]; omega⟩, if_pos rfl]
      unfold fX11_ofOrders
      rw [k3]
      by_cases hN : K.length ≤ 6
      · obtain ⟨q, a3, b4, u1, u2, u3, u4, u5, u6, u7, u8, u9, u10⟩ := orders hN
        rw [if_pos (show a2 234 1 ≤ 6 by rw [g2, li6, le_nn (by omega) (by omega)]; exact hN), u1, bq, if_neg v1]
        by_cases hk : i % 10 < K.length
        · rw [if_pos (cM.mpr hk), if_neg (show ¬ a3 234 1 ≤ nI (i % 10) by rw [u5, le_nn (by omega) (by omega)]; omega), if_neg (ne1 (show i / 10 ≠ 1 by omega) (by omega)), if_neg (ne2 (show i / 10 ≠ 2 by omega) (by omega)), if_neg (ne3 (show i / 10 ≠ 3 by omega) (by omega)), if_neg (ne4 (show i / 10 ≠ 4 by omega) (by omega)), if_pos (show nI (i / 10) = 5 by rw [show i / 10 = 5 by omega]; rfl), if_neg (show ¬ (6 : Int32) < b3 269 71 by rw [h2, li6, lt_nn (by omega) (by omega)]; omega), u2, bq]
          dsimp only
          by_cases q0 : q.1 = 0
          · rw [if_pos (show a3 234 5 ≤ 0 by rw [u3.1, q0]; decide), if_pos (show nI q.1 = 0 by rw [q0]; rfl)]
            exact ⟨_, _, _, rfl, rfl, u6, u8, u7, u9⟩
          · rw [if_neg (show ¬ a3 234 5 ≤ 0 by rw [u3.1, li0, le_nn (by omega) (by omega)]; omega), if_neg (ne0 q0 (by omega)), inb_T (show i % 10 < 6 by omega) (by omega), gdT, gdT, nI_ck (by omega), u3.2 (by omega) _ hk, u4 (by omega) _ hk]
            exact ⟨_, _, _, rfl, rfl, u6, u8, u7, u9⟩
        · rw [if_neg (fun t => hk (cM.mp t)), if_pos (show a3 234 1 ≤ nI (i % 10) by rw [u5, le_nn (by omega) (by omega)]; omega)]
          exact ⟨_, _, _, rfl, rfl, u6, fb3, u7, tb3⟩
      · rw [if_neg (show ¬ a2 234 1 ≤ 6 by rw [g2, li6, le_nn (by omega) (by omega)]; exact hN), bq]
        by_cases hk : i % 10 < K.length
        · rw [if_pos (cM.mpr hk), if_neg (ne1 (show i / 10 ≠ 1 by omega) (by omega)), if_neg (ne2 (show i / 10 ≠ 2 by omega) (by omega)), if_neg (ne3 (show i / 10 ≠ 3 by omega) (by omega)), if_neg (ne4 (show i / 10 ≠ 4 by omega) (by omega)), if_pos (show nI (i / 10) = 5 by rw [show i / 10 = 5 by omega]; rfl), if_pos (show (6 : Int32) < b3 269 71 by rw [h2, li6, lt_nn (by omega) (by omega)]; omega)]
          exact done _
        · rw [if_neg (fun t => hk (cM.mp t))]; exact done _
    · rw [decide_eq_false (fun q => v5 (by
        have q1 := q.1
        have q2 := q.2
        rw [li50, lt_nn (by omega) (by omega)] at q1
        rw [li50, li10, nI_add, le_nn (by omega) (by omega)] at q2
        omega)), if_neg (show ¬ false = true by decide)]
      by_cases v40 : 40 ≤ i
      · rw [if_pos (show (40 : Int32) ≤ nI i by rw [li40, le_nn (by omega) (by omega)]; exact v40)]
        by_cases hk : i % 10 < K.length
        · rw [if_pos (cM.mpr hk), if_neg (ne1 (show i / 10 ≠ 1 by omega) (by omega)), if_neg (ne2 (show i / 10 ≠ 2 by omega) (by omega)), if_neg (ne3 (show i / 10 ≠ 3 by omega) (by omega))]
          by_cases d4 : i / 10 = 4
          · rw [if_pos (by rw [d4]; rfl)]; exact done _
          · rw [if_neg (ne4 d4 (by omega)), if_neg (ne5 (show i / 10 ≠ 5 by omega) (by omega))]; exact done _
        · rw [if_neg (fun t => hk (cM.mp t))]; exact done _
      · rw [if_neg (show ¬ (40 : Int32) ≤ nI i by rw [li40, le_nn (by omega) (by omega)]; exact v40)]
        by_cases hk : i % 10 < K.length
        · obtain ⟨w1, w2, w3, w4⟩ := t2 _ hk
          obtain ⟨x1, x2, x3, x4⟩ := t3 _ hk
          have hgi := hki _ hk
          rw [if_pos (cC.mpr hk), if_pos (cM.mpr hk)]
          by_cases v20 : 20 ≤ i
          · rw [if_pos (show (20 : Int32) ≤ nI i by rw [li20, le_nn (by omega) (by omega)]; exact v20), if_neg (ne1 (show i / 10 ≠ 1 by omega) (by omega))]
            by_cases v30 : 30 ≤ i
            · rw [if_pos (show (30 : Int32) ≤ nI i by rw [li30, le_nn (by omega) (by omega)]; exact v30), if_neg (ne2 (show i / 10 ≠ 2 by omega) (by omega)), if_pos (show nI (i / 10) = 3 by rw [show i / 10 = 3 by omega]; rfl), c_hangs hc2.1 okY (fun j hj => ⟨(t2 j hj).1, hki j hj⟩) hk (by omega), m_hangs (b := b2) d2 okY (fun m m1 m2 => h5 m (by omega) (by omega)) (fun j hj => ⟨(t3 j hj).1, hki j hj⟩) hk (by omega) hm10]
              exact done _
            · rw [if_neg (show ¬ (30 : Int32) ≤ nI i by rw [li30, le_nn (by omega) (by omega)]; exact v30), if_pos (show nI (i / 10) = 2 by rw [show i / 10 = 2 by omega]; rfl), inb_T (show i % 10 < 30 by omega) (by omega), inb_T (show i % 10 < 64 by omega) (by omega), gdT, gdT, nI_ck (by omega), gd_ite _ _ (decide_eq_true (show ¬ a2 235 (i % 10) < 0 by rw [w1, li0, lt_nn (by omega) (by omega)]; omega)), w1, rfN_n (by omega), isB_ln w2, gdT, hc2.1.ln (by omega), x1, inb_T (show gL K (i % 10) < 64 by omega) (by omega), gdT, nI_ck (by omega), h5 298 (by omega) (by omega), (d2.2.2.2.2.1 _ hgi).2.2.2.1]
              exact done _
          · rw [if_neg (show ¬ (20 : Int32) ≤ nI i by rw [li20, le_nn (by omega) (by omega)]; exact v20), if_pos (show nI (i / 10) = 1 by rw [show i / 10 = 1 by omega]; rfl), inb_T (show i % 10 < 30 by omega) (by omega), inb_T (show i % 10 < 64 by omega) (by omega), gdT, gdT, nI_ck (by omega), gd_ite _ _ (decide_eq_true (show ¬ a2 235 (i % 10) < 0 by rw [w1, li0, lt_nn (by omega) (by omega)]; omega)), w1, rfN_n (by omega), isB_ln w2, gdT, w3, x1, inb_T (show gL K (i % 10) < 64 by omega) (by omega), gdT, nI_ck (by omega), x3]
            exact done _
        · rw [if_neg (fun t => hk (cC.mp t)), if_neg (fun t => hk (cM.mp t))]; exact done _
  · rw [hC, bq, l1, bq]
    exact ⟨_, _, _, rfl, rfl, frC.rf, l7, tC.rf, l6⟩)
