/-! ===== a task by itself, in the reference ===== -/
theorem thr_b (c : Nat → Nat) (i : Nat) : (thr c).testBit i = (decide (i < 10) && decide (c i ≠ 0)) := by unfold thr; rw [bs_bit]
theorem thr_cg {c d : Nat → Nat} (h : ∀ k, k < 10 → c k = d k) : thr c = thr d := by
  apply Nat.eq_of_testBit_eq
  intro i
  rw [thr_b, thr_b]
  by_cases hi : i < 10
  · rw [h i hi]
  · simp [hi]
theorem thr_set {c : Nat → Nat} {k v : Nat} (hk : k < 10) (hv : v ≠ 0) : thr (upf c k v) = thr c ||| 2 ^ k := by
  apply Nat.eq_of_testBit_eq
  intro i
  rw [thr_b, Nat.testBit_or, thr_b, Nat.testBit_two_pow]
  by_cases e : i = k
  · subst e; rw [upf_k _ rfl]; simp [hk, hv]
  · rw [upf_o _ e]
    have : ¬ k = i := fun z => e z.symm
    simp [this]
theorem thr_clr {c : Nat → Nat} {k : Nat} (i : Nat) : (thr (upf c k 0)).testBit i = ((thr c).testBit i && decide (i ≠ k)) := by
  rw [thr_b, thr_b]
  by_cases e : i = k
  · subst e; rw [upf_k _ rfl]; simp
  · rw [upf_o _ e]; simp [e]
theorem nI_clr {x y k : Nat} (h : ∀ i, y.testBit i = (x.testBit i && decide (i ≠ k))) : nI x &&& (nI (2 ^ k) ^^^ -1) = nI y := by
  apply Int32.toBitVec_inj.mp
  apply BitVec.eq_of_getLsbD_eq
  intro i hi
  show (BitVec.ofNat 32 x &&& (BitVec.ofNat 32 (2 ^ k) ^^^ BitVec.allOnes 32)).getLsbD i = (BitVec.ofNat 32 y).getLsbD i
  rw [BitVec.getLsbD_and, BitVec.getLsbD_xor, BitVec.getLsbD_allOnes, BitVec.getLsbD_ofNat, BitVec.getLsbD_ofNat, BitVec.getLsbD_ofNat, h i, Nat.testBit_two_pow]
  by_cases e : i = k
  · subst e; simp [hi]
  · have : ¬ k = i := fun z => e z.symm
    simp [hi, e, this]
theorem MG.cg {b : Mem} {G G' : Nat → Nat → Nat} {sp : Nat} (h : MG b G sp) (e : ∀ f k, f < 3 → k < 10 → G' f k = G f k) : MG b G' sp := by
  obtain ⟨h1, h2, h3, h4, h5⟩ := h
  refine ⟨h1, by rw [h2, thr_cg (fun k hk => (e 0 k (by omega) hk).symm)], fun k hk => by rw [e 0 k (by omega) hk]; exact h3 k hk, fun k hk => by rw [e 1 k (by omega) hk]; exact h4 k hk, fun k hk => by rw [e 2 k (by omega) hk]; exact h5 k hk⟩
/-- a key's value in the reference's rows -/
theorem MG.put {b : Mem} {G : Nat → Nat → Nat} {sp k v : Nat} (h : MG b G sp) (hk : k < 10) {x y : Int32} (hx : x = nI (thr (upf (G 0) k v))) (hy : y = nI (v - 1)) : MG (st2 (st2 b 269 30 x) 281 k y) (up G 0 k v) sp := by
  obtain ⟨h1, h2, h3, h4, h5⟩ := h
  subst hx hy
  have e : (up G 0 k v) 0 = upf (G 0) k v := by funext j; unfold up upf; simp
  refine ⟨by rw [st2_o _ _ (by omega), st2_o _ _ (by omega)]; exact h1, by rw [st2_o _ _ (by omega), st2_eq, e], fun j hj => ?_, fun j hj => by rw [st2_o _ _ (by omega), st2_o _ _ (by omega), up_o _ (by omega)]; exact h4 j hj, fun j hj => by rw [st2_o _ _ (by omega), st2_o _ _ (by omega), up_o _ (by omega)]; exact h5 j hj⟩
  by_cases ej : j = k
  · subst ej; rw [st2_eq, up_e]
  · rw [st2_o _ _ (by omega), st2_o _ _ (by omega), up_o _ (by omega)]; exact h3 j hj
/-- begin: rows made empty -/
def frG (w : Nat) (b b' : Mem) : Prop := (∀ c, c ≠ 286 → c ≠ 287 → c ≠ 288 → c ≠ 289 → c ≠ 292 → c ≠ 293 → c ≠ 294 → b' c = b c) ∧ (∀ v, v ≠ w → b' 286 v = b 286 v ∧ b' 287 v = b 287 v ∧ b' 288 v = b 288 v ∧ b' 289 v = b 289 v) ∧ (∀ i, ¬ (10 * w ≤ i ∧ i < 10 * w + 10) → b' 292 i = b 292 i ∧ b' 293 i = b 293 i ∧ b' 294 i = b 294 i)
def empL (L : Nat → Nat → Nat) : Prop := L 0 3 = 0 ∧ L 0 6 = 0 ∧ L 0 7 = 0 ∧ L 0 8 = 0
theorem m_begins {b : Mem} {w t : Nat} (hw : w < 4) : ∃ b', fX12_begins (nI w) (nI t) b = some b' ∧ (∀ L, empL L → MWr b' w L) ∧ b' 286 w = nI t ∧ b' 287 w = nI 0 ∧ b' 289 w = b 269 29 ∧ frG w b b' := by
  unfold fX12_begins
  rw [inb_T hw (by omega), nI_ck (show w < 2147483648 by omega)]
  simp only [gdT, bq]
  rw [st2_o _ _ (show ¬ (269 = 288 ∧ 29 = w) by omega), st2_o _ _ (show ¬ (269 = 287 ∧ 29 = w) by omega), st2_o _ _ (show ¬ (269 = 286 ∧ 29 = w) by omega)]
  have hs : ∃ s1 : Mem, s1 = st2 (st2 (st2 (st2 b 286 w (nI t)) 287 w 0) 288 w 0) 289 w (b 269 29) := ⟨_, rfl⟩
  obtain ⟨s1, hs⟩ := hs
  rw [← hs]
  have z1 : s1 286 w = nI t := by rw [hs, st2_o _ _ (by omega), st2_o _ _ (by omega), st2_o _ _ (by omega), st2_eq]
  have z2 : s1 287 w = nI 0 := by rw [hs, st2_o _ _ (by omega), st2_o _ _ (by omega), st2_eq]; rfl
  have z3 : s1 288 w = nI 0 := by rw [hs, st2_o _ _ (by omega), st2_eq]; rfl
  have z4 : s1 289 w = b 269 29 := by rw [hs, st2_eq]
  have z5 : frG w b s1 := by
    refine ⟨fun c h1 h2 h3 h4 h5 h6 h7 => by rw [hs, st2_c _ _ h4, st2_c _ _ h3, st2_c _ _ h2, st2_c _ _ h1], fun v hv => ⟨?_, ?_, ?_, ?_⟩, fun i hi => ⟨?_, ?_, ?_⟩⟩ <;> rw [hs, st2_o _ _ (by omega), st2_o _ _ (by omega), st2_o _ _ (by omega), st2_o _ _ (by omega)]
  clear hs
  refine loop_k (fun f j s => lX12_begins_33 (nI w) f (nI j) s) 10 (fun j s => (∀ k, k < j → s 292 (10 * w + k) = -1 ∧ s 293 (10 * w + k) = -1 ∧ s 294 (10 * w + k) = -2) ∧ frG w b s ∧ s 286 w = nI t ∧ s 287 w = nI 0 ∧ s 288 w = nI 0 ∧ s 289 w = b 269 29) (fun s => (∀ k, k < 10 → s 292 (10 * w + k) = -1 ∧ s 293 (10 * w + k) = -1 ∧ s 294 (10 * w + k) = -2) ∧ frG w b s ∧ s 286 w = nI t ∧ s 287 w = nI 0 ∧ s 288 w = nI 0 ∧ s 289 w = b 269 29) (Nat.zero_le _) (by omega) (s := s1) ⟨fun k hk => absurd hk (by omega), z5, z1, z2, z3, z4⟩ ?_ ?_ ?_
  · rintro r e1 ⟨e2, e3, e4, e5, e6⟩
    have e1' : lX12_begins_33 (nI w) FU 0 s1 = some r := e1
    rw [e1', bq]
    refine ⟨r, rfl, fun L ⟨l1, l2, l3, l4⟩ => ⟨by rw [l1]; exact e6.1, fun k hk => ?_, fun k hk => ?_, fun k hk => ?_⟩, e4, e5, e6.2, e3⟩
    · unfold cR; rw [l2, Nat.zero_testBit, if_neg (by decide)]; exact (e2 k hk).1
    · unfold cG; rw [l3, Nat.zero_testBit, if_neg (by decide)]; exact (e2 k hk).2.1
    · unfold cV; rw [l4, Nat.zero_testBit, if_neg (by decide)]; exact (e2 k hk).2.2
  · intro f s h
    refine ⟨s, ?_, h⟩
    show lX12_begins_33 _ _ _ _ = _
    rw [lX12_begins_33, if_pos (by decide)]
  · rintro f j s hj ⟨h1, h2, h3, h4, h5, h6⟩
    refine ⟨st2 (st2 (st2 s 292 (10 * w + j) (-1)) 293 (10 * w + j) (-1)) 294 (10 * w + j) (-2), ?_, ?_⟩
    · show lX12_begins_33 (nI w) (f + 1) (nI j) s = lX12_begins_33 (nI w) f (nI (j + 1)) (st2 (st2 (st2 s 292 (10 * w + j) (-1)) 293 (10 * w + j) (-1)) 294 (10 * w + j) (-2))
      rw [lX12_begins_33, if_neg (by rw [li10, le_nn (by omega) (by omega)]; omega), ix10, inb_T (by omega) (by omega), nI_ck (by omega), nI_1]
      simp only [gdT, bq]
    · refine ⟨fun k hk => ?_, ⟨fun c c1 c2 c3 c4 c5 c6 c7 => ?_, fun v hv => ?_, fun i hi => ?_⟩, ?_, ?_, ?_, ?_⟩
      · by_cases e : k = j
        · subst e
          exact ⟨by rw [st2_o _ _ (by omega), st2_o _ _ (by omega), st2_eq], by rw [st2_o _ _ (by omega), st2_eq], st2_eq _ _ _ _⟩
        · rw [st2_o _ _ (by omega), st2_o _ _ (by omega), st2_o _ _ (by omega), st2_o _ _ (by omega), st2_o _ _ (by omega), st2_o _ _ (by omega), st2_o _ _ (by omega), st2_o _ _ (by omega), st2_o _ _ (by omega)]
          exact h1 k (by omega)
      · rw [st2_c _ _ c7, st2_c _ _ c6, st2_c _ _ c5]; exact h2.1 c c1 c2 c3 c4 c5 c6 c7
      · rw [st2_c _ _ (show ¬ 286 = 294 by omega), st2_c _ _ (show ¬ 286 = 293 by omega), st2_c _ _ (show ¬ 286 = 292 by omega), st2_c _ _ (show ¬ 287 = 294 by omega), st2_c _ _ (show ¬ 287 = 293 by omega), st2_c _ _ (show ¬ 287 = 292 by omega), st2_c _ _ (show ¬ 288 = 294 by omega), st2_c _ _ (show ¬ 288 = 293 by omega), st2_c _ _ (show ¬ 288 = 292 by omega), st2_c _ _ (show ¬ 289 = 294 by omega), st2_c _ _ (show ¬ 289 = 293 by omega), st2_c _ _ (show ¬ 289 = 292 by omega)]
        exact h2.2.1 v hv
      · rw [st2_o _ _ (by omega), st2_o _ _ (by omega), st2_o _ _ (by omega), st2_o _ _ (by omega), st2_o _ _ (by omega), st2_o _ _ (by omega), st2_o _ _ (by omega), st2_o _ _ (by omega), st2_o _ _ (by omega)]
        exact h2.2.2 i hi
      · rw [st2_o _ _ (by omega), st2_o _ _ (by omega), st2_o _ _ (by omega)]; exact h3
      · rw [st2_o _ _ (by omega), st2_o _ _ (by omega), st2_o _ _ (by omega)]; exact h4
      · rw [st2_o _ _ (by omega), st2_o _ _ (by omega), st2_o _ _ (by omega)]; exact h5
      · rw [st2_o _ _ (by omega), st2_o _ _ (by omega), st2_o _ _ (by omega)]; exact h6
theorem MG.frG {b b' : Mem} {G : Nat → Nat → Nat} {sp w : Nat} (h : MG b G sp) (hf : frG w b b') : MG b' G sp := by
  unfold MG
  rw [hf.1 269 (by omega) (by omega) (by omega) (by omega) (by omega) (by omega) (by omega), hf.1 281 (by omega) (by omega) (by omega) (by omega) (by omega) (by omega) (by omega), hf.1 282 (by omega) (by omega) (by omega) (by omega) (by omega) (by omega) (by omega), hf.1 283 (by omega) (by omega) (by omega) (by omega) (by omega) (by omega) (by omega)]
  exact h
theorem MB.frG {b b' : Mem} {B : Nat → Nat → Nat} {n w : Nat} (h : MB b B n) (hf : frG w b b') : MB b' B n := by
  unfold MB
  rw [hf.1 269 (by omega) (by omega) (by omega) (by omega) (by omega) (by omega) (by omega), hf.1 276 (by omega) (by omega) (by omega) (by omega) (by omega) (by omega) (by omega)]
  exact h
def L0 (t : Nat) : Nat → Nat → Nat := fun f j => if f = 0 ∧ j = 0 then t + 1 else 0
theorem L0_emp (t : Nat) : empL (L0 t) := ⟨rfl, rfl, rfl, rfl⟩
theorem okL.emp {L : Nat → Nat → Nat} (h : empL L) : okL L := by
  obtain ⟨h1, h2, h3, h4⟩ := h
  refine ⟨by omega, by omega, by omega, by omega, fun k _ => ⟨fun z => ?_, fun z => ?_, fun z => ?_⟩⟩
  · rw [h2, Nat.zero_testBit] at z; exact absurd z (by decide)
  · rw [h3, Nat.zero_testBit] at z; exact absurd z (by decide)
  · rw [h4, Nat.zero_testBit] at z; exact absurd z (by decide)
theorem vw_emp {G L : Nat → Nat → Nat} (h : empL L) (k : Nat) : vw G L k = G 0 k := by
  unfold vw; rw [h.2.2.2, Nat.zero_testBit, if_neg (by decide)]
/-- a worker's first n steps -/
def run (sp : Nat) (G B : Nat → Nat → Nat) (n : Nat) (L : Nat → Nat → Nat) : Nat → Nat → Nat := itr (fun _ L => dst sp G B L) 0 n L
theorem run_S {sp : Nat} {G B : Nat → Nat → Nat} {n : Nat} {L : Nat → Nat → Nat} : run sp G B (n + 1) L = dst sp G B (run sp G B n L) := itr_S _ _ _
theorem okL.up02 {L : Nat → Nat → Nat} (h : okL L) {v : Nat} : okL (up L 0 2 v) := by
  obtain ⟨h1, h2, h3, h4, h5⟩ := h
  refine ⟨by rw [up_o _ (by omega)]; exact h1, by rw [up_o _ (by omega)]; exact h2, by rw [up_o _ (by omega)]; exact h3, by rw [up_o _ (by omega)]; exact h4, fun k hk => ?_⟩
  rw [up_o _ (by omega), up_o _ (by omega), up_o _ (by omega), up_o _ (by omega), up_o _ (by omega), up_o _ (by omega)]
  exact h5 k hk
theorem okL.odst {sp : Nat} {G B L : Nat → Nat → Nat} (h : okL L) (gG : okG G) (gB : okB B) : okL (dst sp G B L) := (h.ostp gG (gB.2.2 _)).up02
theorem dst_0 {sp : Nat} {G B L : Nat → Nat → Nat} {j : Nat} (hj : j < 6) (h2 : j ≠ 2) (h3 : j ≠ 3) : dst sp G B L 0 j = L 0 j := by
  unfold dst; rw [up_o _ (by omega), stp_02 hj h3]
theorem dst_2 {sp : Nat} {G B L : Nat → Nat → Nat} : dst sp G B L 0 2 = L 0 2 + 1 := by unfold dst; rw [up_e]
theorem okL.orun {sp : Nat} {G B L : Nat → Nat → Nat} (h : okL L) (gG : okG G) (gB : okB B) : ∀ n, okL (run sp G B n L)
  | 0 => h
  | n + 1 => by rw [run_S]; exact (okL.orun h gG gB n).odst gG gB
theorem run_0 {sp : Nat} {G B L : Nat → Nat → Nat} {j : Nat} (hj : j < 6) (h2 : j ≠ 2) (h3 : j ≠ 3) : ∀ n, run sp G B n L 0 j = L 0 j
  | 0 => rfl
  | n + 1 => by rw [run_S, dst_0 hj h2 h3]; exact run_0 hj h2 h3 n
theorem run_2 {sp : Nat} {G B L : Nat → Nat → Nat} : ∀ n, run sp G B n L 0 2 = L 0 2 + n
  | 0 => rfl
  | n + 1 => by rw [run_S, dst_2, run_2 n]; rfl
theorem run_ag {sp t : Nat} {G B L : Nat → Nat → Nat} (gG : okG G) (gB : okB B) (hL : empL L) (h0 : L 0 0 = t + 1) (h2 : L 0 2 = 0) : ∀ n, ag G (run sp G B n L) (rnA B t n (0, G 0))
  | 0 => ⟨hL.1, fun k _ => vw_emp hL k⟩
  | n + 1 => by
    have ih := run_ag (sp := sp) gG gB hL h0 h2 n
    have hk := (okL.emp hL).orun (sp := sp) gG gB n
    unfold rnA
    rw [run_S, itr_S]
    have h3 := ag.st ih hk.1 (sp := sp) (gB.2.2 (6 * t + n))
    unfold dst
    rw [run_0 (by omega) (by omega) (by omega), run_2, h0, h2, show 6 * (t + 1 - 1) + (0 + n) = 6 * t + n by omega]
    refine ⟨by rw [up_o _ (by omega)]; exact h3.1, fun k hk => ?_⟩
    refine Eq.trans ?_ (h3.2 k hk)
    unfold vw
    rw [up_o _ (by omega), up_o _ (by omega)]
/-- the store's rows behind a task that was run alone -/
def rG (B : Nat → Nat → Nat) (t : Nat) (G : Nat → Nat → Nat) : Nat → Nat → Nat := fun f k => if f = 0 then (rnA B t (B 1 t) (0, G 0)).2 k else G f k
theorem okG.rG {B G : Nat → Nat → Nat} (gB : okB B) (gG : okG G) (t : Nat) : okG (rG B t G) := fun k hk => ⟨(okQ.rn gB (q := (0, G 0)) ⟨by show 0 ≤ 99; omega, fun k hk => (gG k hk).1⟩ t (B 1 t)).2 k hk, (gG k hk).2⟩
def frA (b b' : Mem) : Prop := (∀ j, j ≠ 30 → b' 269 j = b 269 j) ∧ ∀ c, c ≠ 269 → c ≠ 281 → c ≠ 286 → c ≠ 287 → c ≠ 288 → c ≠ 289 → c ≠ 292 → c ≠ 293 → c ≠ 294 → b' c = b c
theorem frA.rf {b : Mem} : frA b b := ⟨fun _ _ => rfl, fun _ _ _ _ _ _ _ _ _ _ => rfl⟩
theorem frA.tr {b b' b'' : Mem} (h : frA b b') (h2 : frA b' b'') : frA b b'' := ⟨fun j hj => (h2.1 j hj).trans (h.1 j hj), fun c c1 c2 c3 c4 c5 c6 c7 c8 c9 => (h2.2 c c1 c2 c3 c4 c5 c6 c7 c8 c9).trans (h.2 c c1 c2 c3 c4 c5 c6 c7 c8 c9)⟩
theorem frG.A {w : Nat} {b b' : Mem} (h : frG w b b') : frA b b' := ⟨fun j _ => by rw [h.1 269 (by omega) (by omega) (by omega) (by omega) (by omega) (by omega) (by omega)], fun c c1 c2 c3 c4 c5 c6 c7 c8 c9 => h.1 c c3 c4 c5 c6 c7 c8 c9⟩
theorem frS.A {w : Nat} {b b' : Mem} (h : frS w b b') : frA b b' := ⟨fun j _ => by rw [h.1 269 (by omega) (by omega) (by omega) (by omega) (by omega)], fun c c1 c2 c3 c4 c5 c6 c7 c8 c9 => h.1 c c4 c5 c7 c8 c9⟩
theorem MB.frA {b b' : Mem} {B : Nat → Nat → Nat} {n : Nat} (h : MB b B n) (hf : frA b b') : MB b' B n := by
  unfold MB
  rw [hf.1 24 (by omega), hf.1 27 (by omega), hf.2 276 (by omega) (by omega) (by omega) (by omega) (by omega) (by omega) (by omega) (by omega) (by omega)]
  exact h
theorem m_runAlone {b : Mem} {sp n t : Nat} {G B : Nat → Nat → Nat} (hG : MG b G sp) (h1 : 1 ≤ sp) (h5 : sp ≤ 5) (gG : okG G) (hB : MB b B n) (hn : n < 2) (gB : okB B) (ht : t < B 0 0) :
    ∃ b', fX12_runAlone (nI t) b = some b' ∧ MG b' (rG B t G) sp ∧ b' 288 0 = nI (rnA B t (B 1 t) (0, G 0)).1 ∧ frA b b' := by
  have g1 := gB.1
  have g2 := gB.2.1 t
  obtain ⟨b1, p1, p2, p3, p4, p5, p6⟩ := m_begins (b := b) (t := t) (show 0 < 4 by omega)
  have hG1 := hG.frG p6
  have hB1 := hB.frG p6
  have hA1 := p6.A
  have hM1 := p2 (L0 t) (L0_emp t)
  have hk0 : okL (L0 t) := okL.emp (L0_emp t)
  unfold fX12_runAlone
  rw [show (0 : Int32) = nI 0 from rfl, p1, bq]
  have hr : ∀ i, okL (run sp G B i (L0 t)) := hk0.orun gG gB
  refine loop_k (fun f j (s : Bool × Mem) => lX12_runAlone_8 f s.1 s.2) (B 1 t + 1) (fun j s => MWr s.2 0 (run sp G B (min j (B 1 t)) (L0 t)) ∧ s.2 286 0 = nI t ∧ s.2 287 0 = nI (min j (B 1 t)) ∧ MG s.2 G sp ∧ MB s.2 B n ∧ frA b s.2 ∧ (s.1 = true ↔ j ≤ B 1 t)) (fun r => MWr r 0 (run sp G B (B 1 t) (L0 t)) ∧ MG r G sp ∧ frA b r) (Nat.zero_le _) (by omega) (s := (true, b1)) ⟨by rw [Nat.zero_min]; exact hM1, p3, by rw [Nat.zero_min]; exact p4, hG1, hB1, hA1, by simp⟩ ?_ ?_ ?_
  · rintro b2 e1 ⟨e2, e3, e4⟩
    try dsimp only at e1
    rw [e1, bq]
    have ha := run_ag (sp := sp) gG gB (L0_emp t) rfl rfl (B 1 t)
    have hok := hr (B 1 t)
    generalize run sp G B (B 1 t) (L0 t) = L at *
    have hV : ∀ k, k < 10 → b2 294 k = wI (cV L k) := fun k hk => by rw [← e2.2.2.2 k hk]; congr 1; omega
    refine loop_k (fun f j s => lX12_runAlone_23 f (nI j) s) 10 (fun j s => MG s (fun f k => if f = 0 ∧ k < j then vw G L k else G f k) sp ∧ (∀ i, i ≠ 30 → s 269 i = b2 269 i) ∧ ∀ c, c ≠ 269 → c ≠ 281 → s c = b2 c) (fun s => MG s (fun f k => if f = 0 ∧ k < 10 then vw G L k else G f k) sp ∧ (∀ i, i ≠ 30 → s 269 i = b2 269 i) ∧ ∀ c, c ≠ 269 → c ≠ 281 → s c = b2 c) (Nat.zero_le _) (by omega) (s := b2) ⟨e3.cg (fun f k _ _ => if_neg (by omega)), fun _ _ => rfl, fun _ _ _ => rfl⟩ ?_ ?_ ?_
    · rintro b3 d1 ⟨d2, d3, d4⟩
      try dsimp only at d1
      rw [d1, bq]
      refine ⟨b3, rfl, d2.cg (fun f k hf hk => ?_), ?_, e4.tr ⟨d3, fun c c1 c2 _ _ _ _ _ _ _ => d4 c c1 c2⟩⟩
      · unfold rG
        by_cases h0 : f = 0
        · rw [if_pos h0, if_pos ⟨h0, hk⟩, ha.2 k hk]
        · rw [if_neg h0, if_neg (fun z => h0 z.1)]
      · rw [d4 288 (by omega) (by omega), e2.1, ha.1]
    · intro f s h
      refine ⟨s, ?_, h⟩
      show lX12_runAlone_23 _ _ _ = _
      rw [lX12_runAlone_23, if_pos (by decide)]
    · rintro f j s hj ⟨q1, q2, q3⟩
      have hc := cV_le hok hj
      have hs : s 294 j = wI (cV L j) := by rw [q3 294 (by omega) (by omega)]; exact hV j hj
      have ht := thr_lt (fun k => if 0 = 0 ∧ k < j then vw G L k else G 0 k)
      have q1b := q1.2.1
      have hup : ∀ f k, f < 3 → k < 10 → (if f = 0 ∧ k < j + 1 then vw G L k else G f k) = up (fun f k => if f = 0 ∧ k < j then vw G L k else G f k) 0 j (vw G L j) f k := fun f k _ _ => by
        unfold up
        by_cases e : f = 0 ∧ k = j
        · rw [if_pos e, if_pos ⟨e.1, by omega⟩, e.2]
        · rw [if_neg e]
          show (if f = 0 ∧ k < j + 1 then vw G L k else G f k) = (if f = 0 ∧ k < j then vw G L k else G f k)
          by_cases e2 : f = 0 ∧ k < j
          · rw [if_pos e2, if_pos ⟨e2.1, by omega⟩]
          · rw [if_neg e2, if_neg (fun z => by have : k ≠ j := fun y => e ⟨z.1, y⟩; exact e2 ⟨z.1, by omega⟩)]
      by_cases hb : (L 0 8).testBit j = true
      · have hcv : cV L j = L 3 j + 1 := by unfold cV; rw [if_pos hb]
        have hvw : vw G L j = L 3 j := by unfold vw; rw [if_pos hb]
        by_cases h3 : L 3 j = 0
        · refine ⟨st2 (st2 s 269 30 (nI (thr (upf (fun k => if 0 = 0 ∧ k < j then vw G L k else G 0 k) j 0)))) 281 j (nI 0), ?_, ?_, fun i hi => by rw [st2_o _ _ (by omega), st2_o _ _ (by omega)]; exact q2 i hi, fun c c1 c2 => by rw [st2_c _ _ c2, st2_c _ _ c1]; exact q3 c c1 c2⟩
          · show lX12_runAlone_23 _ _ _ = lX12_runAlone_23 _ _ _
            rw [lX12_runAlone_23, if_neg (by rw [li10, le_nn (by omega) (by omega)]; omega), inb_T (by omega) (by omega), gdT, nI_ck (by omega), hs, hcv, h3, if_neg (by decide), if_pos (by decide), bq, if_pos (by decide), bq, inb_T (by omega) (by omega), gdT, bq, q1b, sh1 (by omega), nI_clr (thr_clr (c := fun k => if 0 = 0 ∧ k < j then vw G L k else G 0 k)), nI_1]
            rfl
          · refine (MG.put q1 hj rfl rfl).cg (fun f k hf hk => ?_)
            rw [hup f k hf hk, hvw, h3]
        · refine ⟨st2 (st2 s 269 30 (nI (thr (upf (fun k => if 0 = 0 ∧ k < j then vw G L k else G 0 k) j (L 3 j))))) 281 j (nI (L 3 j - 1)), ?_, ?_, fun i hi => by rw [st2_o _ _ (by omega), st2_o _ _ (by omega)]; exact q2 i hi, fun c c1 c2 => by rw [st2_c _ _ c2, st2_c _ _ c1]; exact q3 c c1 c2⟩
          · show lX12_runAlone_23 _ _ _ = lX12_runAlone_23 _ _ _
            have n1 : ¬ wI (L 3 j + 1) = -2 := by rw [w0, eq_ww (by omega) (by omega)]; omega
            have n2 : ¬ wI (L 3 j + 1) = -1 := by rw [v0, eq_wv (by omega) (by omega)]; omega
            rw [lX12_runAlone_23, if_neg (by rw [li10, le_nn (by omega) (by omega)]; omega), inb_T (by omega) (by omega), gdT, nI_ck (by omega), hs, hcv, if_neg n1, if_neg n2, bq, if_neg n2, bq, inb_T (by omega) (by omega), gdT, bq, q1b, sh1 (by omega), nI_or, thr_set hj h3, wI_s, vI_p (by omega), nI_1]
          · refine (MG.put q1 hj rfl rfl).cg (fun f k hf hk => ?_)
            rw [hup f k hf hk, hvw]
      · have hcv : cV L j = 0 := by unfold cV; rw [if_neg hb]
        have hvw : vw G L j = G 0 j := by unfold vw; rw [if_neg hb]
        refine ⟨s, ?_, q1.cg (fun f k hf hk => ?_), q2, q3⟩
        · show lX12_runAlone_23 _ _ _ = lX12_runAlone_23 _ _ _
          rw [lX12_runAlone_23, if_neg (by rw [li10, le_nn (by omega) (by omega)]; omega), inb_T (by omega) (by omega), gdT, nI_ck (by omega), hs, hcv, if_pos (by decide), bq, nI_1]
        · rw [hup f k hf hk]
          unfold up
          by_cases e : f = 0 ∧ k = j
          · rw [if_pos e, if_neg (by omega), hvw, e.1, e.2]
          · rw [if_neg e]
  · rintro f ⟨x, s⟩ ⟨q1, q2, q3, q4, q5, q6, q7⟩
    rw [Nat.min_eq_right (by omega)] at q1
    have hx : ¬ x = true := fun z => absurd (q7.mp z) (by omega)
    refine ⟨s, ?_, q1, q4, q6⟩
    show lX12_runAlone_8 _ _ _ = _
    rw [lX12_runAlone_8, if_neg hx]
  · rintro f j ⟨x, s⟩ hj ⟨q1, q2, q3, q4, q5, q6, q7⟩
    have hx : x = true := q7.mpr (by omega)
    subst hx
    dsimp only at q1 q2 q3 q4 q5 q6
    by_cases hjS : j < B 1 t
    · rw [Nat.min_eq_left (by omega)] at q1 q3
      obtain ⟨b', r1, r2, r3, r4⟩ := m_steps q1 q4 h1 h5 (hr j) gG (by omega) q5 hn gB ht q2 q3 (by rw [run_0 (by omega) (by omega) (by omega)]; rfl) (by rw [run_2]; exact Nat.zero_add j) hjS
      refine ⟨(true, b'), ?_, ?_, ?_, ?_, q4.frS r4, q5.frS r4, q6.tr r4.A, by simp; omega⟩
      · show lX12_runAlone_8 _ _ _ = lX12_runAlone_8 _ _ _
        rw [lX12_runAlone_8, if_pos rfl, show (0 : Int32) = nI 0 from rfl, r1, bq]
      · rw [Nat.min_eq_left (by omega), run_S]; exact r2
      · dsimp only; rw [r4.1 286 (by omega) (by omega) (by omega) (by omega) (by omega)]; exact q2
      · dsimp only; rw [Nat.min_eq_left (by omega)]; exact r3
    · have ej : j = B 1 t := by omega
      subst ej
      rw [Nat.min_self] at q1 q3
      have r1 := m_steps_end (w := 0) (by omega) q5 hn gB ht q2 q3
      refine ⟨(false, s), ?_, ?_, q2, ?_, q4, q5, q6, by simp⟩
      · show lX12_runAlone_8 _ _ _ = lX12_runAlone_8 _ _ _
        rw [lX12_runAlone_8, if_pos rfl, show (0 : Int32) = nI 0 from rfl, r1, bq]
      · rw [Nat.min_eq_right (by omega)]; exact q1
      · rw [Nat.min_eq_right (by omega)]; exact q3
