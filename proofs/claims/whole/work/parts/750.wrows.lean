/-! ===== weave: a row of the reference, bit by bit ===== -/
def frU (w : Nat) (b b' : Mem) : Prop := (∀ j, j < 30 ∨ (69 ≤ j ∧ j ≠ 89 ∧ j ≠ 90) → b' 269 j = b 269 j) ∧ (∀ m, m < 269 ∨ (270 ≤ m ∧ m ≤ 280) ∨ 308 ≤ m → b' m = b m) ∧ ∀ v, v ≠ w → frV v b b'
theorem endsW_no {b : Mem} {B L : F2} {s sp wk n w t k : Nat} {c : Nat → Nat} (h : WKs sp b w t k L) (hH : HD b s sp wk c n B) (hn : n < 2) (gB : okB B) (hw : w < 2) (ht : t < B 0 0) (hk : k < B 1 t) : fX12_endsOf (nI w) b = some b := by
  have gB1 := gB.1
  have bt := gB.2.1 t
  unfold fX12_endsOf
  rw [inb_T (show w < 4 by omega) (by omega), gdT, gdT, nI_ck (by omega), h.2.1, hH.2.1.nt hn gB ht, bq]
  dsimp only
  rw [if_neg (show ¬ b 287 w = nI (B 1 t) by rw [h.2.2.1, eq_nn (by omega) (by omega)]; omega)]
theorem endsW {b : Mem} {G B L : F2} {s sp wk n w t i o : Nat} {c : Nat → Nat} (h : WKs sp b w t (B 1 t) L) (hG : MG b G sp) (gG1 : okG G) (hH : HD b s sp wk c n B) (hn : n < 2) (os : okS sp wk c) (gB : okB B) (hw : w < 2) (ht : t < B 0 0) (hi : i < 60) (e29 : b 269 29 = nI 1) (e54 : b 269 54 = nI i) (e55 : b 269 55 = nI i) (e04 : b 304 t = nI o) :
    ∃ b', fX12_endsOf (nI w) b = some b' ∧ b' 269 (89 + w) = nI (vrd G L) ∧ b' 269 (90 - w) = b 269 (90 - w) ∧ frU w b b' ∧ (vrd G L = 1 → MG b' (cmG sp (nxt G L 1) L 10 G) sp ∧ b' 269 54 = nI (i + 1) ∧ b' 269 55 = nI (i + 1) ∧ b' 304 t = nI (o + 1) ∧ ∀ u, u ≠ t → b' 304 u = b 304 u) := by
  obtain ⟨b1, t1, t2, t3, t4⟩ := triesW h hG gG1 hH hn os gB hw ht hi e29 e54 e55 e04
  have he : fX12_endsOf (nI w) b = ((if nI w = 0 then (some (b1 269 62)) else (some (b1 269 89))) : Option Int32).bind fun q7 => if nI w = 1 then (some (st2 (st2 b1 269 89 q7) 269 90 ((st2 b1 269 89 q7) 269 62))) else (some (st2 (st2 b1 269 89 q7) 269 90 ((st2 b1 269 89 q7) 269 90))) := by
    unfold fX12_endsOf
    rw [inb_T (show w < 4 by omega) (by omega), gdT, gdT, nI_ck (by omega), h.2.1, hH.2.1.nt hn gB ht, bq]
    dsimp only
    rw [if_pos (show b 287 w = nI (B 1 t) by rw [h.2.2.1]), t1, bq]
  have hfr : ∀ u v : Int32, frU w b (st2 (st2 b1 269 89 u) 269 90 v) := fun u v => ⟨fun j hj => by rw [st2_o _ _ (by omega), st2_o _ _ (by omega)]; exact t3.1 j (by omega), fun m hm => by rw [st2_c _ _ (by omega), st2_c _ _ (by omega)]; exact t3.2.1 m hm, fun x hx => ⟨fun m m1 m2 => by rw [st2_c _ _ (by omega), st2_c _ _ (by omega)]; exact (t3.2.2 x hx).1 m m1 m2, fun k hk => by rw [st2_c _ _ (by omega), st2_c _ _ (by omega), st2_c _ _ (by omega), st2_c _ _ (by omega), st2_c _ _ (by omega), st2_c _ _ (by omega)]; exact (t3.2.2 x hx).2 k hk⟩⟩
  have hvr : ∀ u v : Int32, vrd G L = 1 → MG (st2 (st2 b1 269 89 u) 269 90 v) (cmG sp (nxt G L 1) L 10 G) sp ∧ (st2 (st2 b1 269 89 u) 269 90 v) 269 54 = nI (i + 1) ∧ (st2 (st2 b1 269 89 u) 269 90 v) 269 55 = nI (i + 1) ∧ (st2 (st2 b1 269 89 u) 269 90 v) 304 t = nI (o + 1) ∧ ∀ z, z ≠ t → (st2 (st2 b1 269 89 u) 269 90 v) 304 z = b 304 z := fun u v hv => by
    obtain ⟨q1, q2, q3, q4, q5⟩ := t4 hv
    refine ⟨q1.ot ?_ ?_ (fun z _ _ => by rw [st2_c _ _ (by omega), st2_c _ _ (by omega)]), ?_, ?_, ?_, fun z hz => ?_⟩
    · rw [st2_o _ _ (by omega), st2_o _ _ (by omega)]
    · rw [st2_o _ _ (by omega), st2_o _ _ (by omega)]
    · rw [st2_o _ _ (by omega), st2_o _ _ (by omega)]; exact q2
    · rw [st2_o _ _ (by omega), st2_o _ _ (by omega)]; exact q3
    · rw [st2_o _ _ (by omega), st2_o _ _ (by omega)]; exact q4
    · rw [st2_o _ _ (by omega), st2_o _ _ (by omega)]; exact q5 z hz
  rcases (show w = 0 ∨ w = 1 by omega) with rfl | rfl
  · rw [if_pos (show nI 0 = 0 from rfl), bq, if_neg (show ¬ nI 0 = 1 by decide)] at he
    refine ⟨_, he, ?_, ?_, hfr _ _, hvr _ _⟩
    · rw [st2_o _ _ (by omega), st2_eq]; exact t2
    · rw [st2_eq, st2_o _ _ (by omega)]; exact t3.1 90 (by omega)
  · rw [if_neg (show ¬ nI 1 = 0 by decide), bq, if_pos (show nI 1 = 1 from rfl)] at he
    refine ⟨_, he, ?_, ?_, hfr _ _, hvr _ _⟩
    · rw [st2_eq, st2_o _ _ (by omega)]; exact t2
    · rw [st2_o _ _ (by omega), st2_eq]; exact t3.1 89 (by omega)
theorem cmG_ok {sp x : Nat} {L G : F2} {X Y : Nat} (hL : okL L) (hx : x ≤ X) (h : ∀ k, k < 10 → G 0 k ≤ 100 ∧ G 1 k ≤ X ∧ G 2 k ≤ Y) : ∀ n, n ≤ 10 → ∀ k, k < 10 → cmG sp x L n G 0 k ≤ 100 ∧ cmG sp x L n G 1 k ≤ X ∧ cmG sp x L n G 2 k ≤ Y + n
  | 0, _, k, hk => by have := h k hk; exact ⟨this.1, this.2.1, this.2.2⟩
  | n + 1, hn, k, hk => by
    have ih := cmG_ok (sp := sp) hL hx h n (by omega)
    unfold cmG at ih ⊢
    rw [itr_S]
    generalize itr (fun k G => if (L 0 8).testBit k = true then wrG sp x k (L 3 k) G else G) 0 n G = H at *
    have ihk := ih k hk
    by_cases z : (L 0 8).testBit n = true
    · have l3 := (hL.2.2.2.2 n (by omega)).2.2 z
      rw [if_pos z]
      unfold wrG
      refine ⟨?_, ?_, ?_⟩
      · rw [up_o _ (by omega)]
        by_cases e : k = n
        · rw [up_k _ ⟨rfl, e⟩]; exact l3
        · rw [up_o _ (by omega)]
          split
          · exact ihk.1
          · rw [up_o _ (by omega)]; exact ihk.1
      · by_cases e : k = n
        · rw [up_k _ ⟨rfl, e⟩]; exact hx
        · rw [up_o _ (by omega), up_o _ (by omega)]
          split
          · exact ihk.2.1
          · rw [up_o _ (by omega)]; exact ihk.2.1
      · rw [up_o _ (by omega), up_o _ (by omega)]
        split
        · have := ihk.2.2; omega
        · by_cases e : k = n / sp
          · have e2 := (ih (n / sp) (by omega)).2.2
            rw [e, up_e]; omega
          · rw [up_o _ (by omega)]; have := ihk.2.2; omega
    · rw [if_neg z]; exact ⟨ihk.1, ihk.2.1, by omega⟩
/-- keys behind the first commit -/
def wG1 (sp : Nat) (B : F2) (c : Nat → Nat) (te : Nat) : F2 := cmG sp (nxt (G0 c) (run sp (G0 c) B (B 1 te) (L0 te)) 1) (run sp (G0 c) B (B 1 te) (L0 te)) 10 (G0 c)
theorem wG1_ok {sp te : Nat} {B : F2} {c : Nat → Nat} (gB : okB B) (hc : ∀ k, c k ≤ 100) : okG (wG1 sp B c te) := by
  have hL : okL (run sp (G0 c) B (B 1 te) (L0 te)) := (okL.emp (L0_emp te)).orun (okG0 hc) gB _
  have h4 : run sp (G0 c) B (B 1 te) (L0 te) 0 4 = 0 := run_0 (by omega) (by omega) (by omega) _
  have hx : nxt (G0 c) (run sp (G0 c) B (B 1 te) (L0 te)) 1 ≤ 101 := by
    have := nxt_b (G := G0 c) (L := run sp (G0 c) B (B 1 te) (L0 te)) (e := 1) (X := 100) (by rw [h4]; omega) (by omega) (fun k _ => by show 0 ≤ 100; omega) 10 (by omega)
    unfold nxt; omega
  intro k hk
  have := cmG_ok (sp := sp) (G := G0 c) (X := 9999) (Y := 0) hL (Nat.le_trans hx (by omega)) (fun k _ => ⟨hc k, by show 0 ≤ 9999; omega, Nat.le_refl _⟩) 10 (by omega) k hk
  unfold wG1
  exact ⟨this.1, this.2.1, by omega⟩
def EW (b : Mem) (s sp wk : Nat) (c : Nat → Nat) (n : Nat) (B : F2) : Prop := HD b s sp wk c n B ∧ b 269 29 = nI 1
/-- both at work -/
def PA (b : Mem) (s sp wk : Nat) (c : Nat → Nat) (n : Nat) (B : F2) (x y k0 k1 : Nat) : Prop := EW b s sp wk c n B ∧ MG b (G0 c) sp ∧ WKs sp b 0 x k0 (run sp (G0 c) B k0 (L0 x)) ∧ WKs sp b 1 y k1 (run sp (G0 c) B k1 (L0 y)) ∧ b 269 54 = nI 0 ∧ b 269 55 = nI 0 ∧ ∀ t, t < 7 → b 304 t = nI 0
/-- w has committed, the other had done i -/
def PB (b : Mem) (s sp wk : Nat) (c : Nat → Nat) (n : Nat) (B : F2) (w te tl i k : Nat) : Prop := EW b s sp wk c n B ∧ b 269 (89 + w) = nI 1 ∧ MG b (wG1 sp B c te) sp ∧ WKs sp b (1 - w) tl k (run sp (wG1 sp B c te) B (k - i) (run sp (G0 c) B i (L0 tl))) ∧ b 269 54 = nI 1 ∧ b 269 55 = nI 1 ∧ ∃ o, b 304 tl = nI o
def PC (b : Mem) (s sp wk : Nat) (c : Nat → Nat) (n : Nat) (B : F2) (w te tl i : Nat) : Prop := EW b s sp wk c n B ∧ b 269 (89 + w) = nI 1 ∧ b 269 (90 - w) = nI (wvd sp B c te tl i)
def frJ (b b' : Mem) : Prop := (∀ j, j < 30 ∨ (69 ≤ j ∧ j ≠ 89 ∧ j ≠ 90) → b' 269 j = b 269 j) ∧ ∀ m, m < 269 ∨ (270 ≤ m ∧ m ≤ 280) ∨ 308 ≤ m → b' m = b m
theorem frJ.rf {b : Mem} : frJ b b := ⟨fun _ _ => rfl, fun _ _ => rfl⟩
theorem frJ.tr {b b' b'' : Mem} (h : frJ b b') (h2 : frJ b' b'') : frJ b b'' := ⟨fun j hj => (h2.1 j hj).trans (h.1 j hj), fun m hm => (h2.2 m hm).trans (h.2 m hm)⟩
theorem frU.J {w : Nat} {b b' : Mem} (h : frU w b b') : frJ b b' := ⟨h.1, h.2.1⟩
theorem frS.J {w : Nat} {b b' : Mem} (h : frS w b b') : frJ b b' := ⟨fun j _ => by rw [h.1 269 (by omega) (by omega) (by omega) (by omega) (by omega)], fun m hm => h.1 m (by omega) (by omega) (by omega) (by omega) (by omega)⟩
theorem EW.J {b b' : Mem} {s sp wk n : Nat} {c : Nat → Nat} {B : F2} (h : EW b s sp wk c n B) (e : frJ b b') : EW b' s sp wk c n B := ⟨h.1.fr (fun j hj => e.1 j (by omega)) (e.2 275 (by omega)) (e.2 276 (by omega)), by rw [e.1 29 (by omega)]; exact h.2⟩
section
variable {b : Mem} {B : F2} {s sp wk n x y : Nat} {c : Nat → Nat} (hn : n < 2) (os : okS sp wk c) (gB : okB B) (hx : x < B 0 0) (hy : y < B 0 0)
theorem PA.step {k0 k1 w : Nat} (hn : n < 2) (os : okS sp wk c) (gB : okB B) (hx : x < B 0 0) (hy : y < B 0 0) (h : PA b s sp wk c n B x y k0 k1) (hw : w < 2) (hk : (if w = 0 then k0 else k1) < B 1 (if w = 0 then x else y)) : ∃ b', fX12_steps (nI w) b = some (true, b') ∧ PA b' s sp wk c n B x y (if w = 0 then k0 + 1 else k0) (if w = 0 then k1 else k1 + 1) ∧ frJ b b' ∧ b' 269 = b 269 := by
  obtain ⟨h1, h2, h3, h4, h5, h6, h7⟩ := h
  have g0 := okG0 os.2.2
  rcases (show w = 0 ∨ w = 1 by omega) with rfl | rfl
  · rw [if_pos rfl, if_pos rfl] at hk
    obtain ⟨b', e1, e2, e3⟩ := stepW h3 h2 g0 h1.1 hn os gB (by omega) hx hk
    have e9 : b' 269 = b 269 := e3.1 269 (by omega) (by omega) (by omega) (by omega) (by omega)
    rw [if_pos rfl, if_pos rfl]
    refine ⟨b', e1, ⟨h1.J e3.J, h2.frS e3, by rw [run_S]; exact e2, h4.fr (e3.V (by omega)), by rw [e9]; exact h5, by rw [e9]; exact h6, fun t ht => by rw [e3.1 304 (by omega) (by omega) (by omega) (by omega) (by omega)]; exact h7 t ht⟩, e3.J, e9⟩
  · rw [if_neg (by omega), if_neg (by omega)] at hk
    obtain ⟨b', e1, e2, e3⟩ := stepW h4 h2 g0 h1.1 hn os gB (by omega) hy hk
    have e9 : b' 269 = b 269 := e3.1 269 (by omega) (by omega) (by omega) (by omega) (by omega)
    rw [if_neg (by omega), if_neg (by omega)]
    refine ⟨b', e1, ⟨h1.J e3.J, h2.frS e3, h3.fr (e3.V (by omega)), by rw [run_S]; exact e2, by rw [e9]; exact h5, by rw [e9]; exact h6, fun t ht => by rw [e3.1 304 (by omega) (by omega) (by omega) (by omega) (by omega)]; exact h7 t ht⟩, e3.J, e9⟩
theorem PA.end_no {k0 k1 w : Nat} (hn : n < 2) (gB : okB B) (hx : x < B 0 0) (hy : y < B 0 0) (h : PA b s sp wk c n B x y k0 k1) (hw : w < 2) (hk : (if w = 0 then k0 else k1) < B 1 (if w = 0 then x else y)) : fX12_endsOf (nI w) b = some b := by
  obtain ⟨h1, h2, h3, h4, h5⟩ := h
  rcases (show w = 0 ∨ w = 1 by omega) with rfl | rfl
  · rw [if_pos rfl, if_pos rfl] at hk; exact endsW_no h3 h1.1 hn gB (by omega) hx hk
  · rw [if_neg (by omega), if_neg (by omega)] at hk; exact endsW_no h4 h1.1 hn gB (by omega) hy hk
theorem PA.end {k0 k1 w : Nat} (hn : n < 2) (os : okS sp wk c) (gB : okB B) (hx : x < B 0 0) (hy : y < B 0 0) (h : PA b s sp wk c n B x y k0 k1) (hw : w < 2) (hk : (if w = 0 then k0 else k1) = B 1 (if w = 0 then x else y)) : ∃ b', fX12_endsOf (nI w) b = some b' ∧ PB b' s sp wk c n B w (if w = 0 then x else y) (if w = 0 then y else x) (if w = 0 then k1 else k0) (if w = 0 then k1 else k0) ∧ frJ b b' := by
  obtain ⟨h1, h2, h3, h4, h5, h6, h7⟩ := h
  have g0 := okG0 os.2.2
  have gB1 := gB.1
  rcases (show w = 0 ∨ w = 1 by omega) with rfl | rfl
  · rw [if_pos rfl, if_pos rfl] at hk
    subst hk
    have fr0 : frs (G0 c) (run sp (G0 c) B (B 1 x) (L0 x)) := (frs.emp (L0_emp x)).rn _
    have ev : vrd (G0 c) (run sp (G0 c) B (B 1 x) (L0 x)) = 1 := by unfold vrd; rw [if_pos fr0.vr.1, if_pos fr0.vr.2]
    obtain ⟨b', e1, e2, e3, e4, e5⟩ := endsW (i := 0) (o := 0) h3 h2 g0 h1.1 hn os gB (by omega) hx (by omega) h1.2 h5 h6 (h7 x (by omega))
    rw [ev] at e2
    obtain ⟨q1, q2, q3, q4, q5⟩ := e5 ev
    rw [if_pos rfl, if_pos rfl, if_pos rfl]
    refine ⟨b', e1, ⟨h1.J e4.J, e2, q1, by rw [Nat.sub_self k1]; exact h4.fr (e4.2.2 1 (by omega)), q2, q3, ?_⟩, e4.J⟩
    by_cases e : y = x
    · rw [e]; exact ⟨_, q4⟩
    · exact ⟨0, by rw [q5 y e]; exact h7 y (by omega)⟩
  · rw [if_neg (by omega), if_neg (by omega)] at hk
    subst hk
    have fr0 : frs (G0 c) (run sp (G0 c) B (B 1 y) (L0 y)) := (frs.emp (L0_emp y)).rn _
    have ev : vrd (G0 c) (run sp (G0 c) B (B 1 y) (L0 y)) = 1 := by unfold vrd; rw [if_pos fr0.vr.1, if_pos fr0.vr.2]
    obtain ⟨b', e1, e2, e3, e4, e5⟩ := endsW (i := 0) (o := 0) h4 h2 g0 h1.1 hn os gB (by omega) hy (by omega) h1.2 h5 h6 (h7 y (by omega))
    rw [ev] at e2
    obtain ⟨q1, q2, q3, q4, q5⟩ := e5 ev
    rw [if_neg (by omega), if_neg (by omega), if_neg (by omega)]
    refine ⟨b', e1, ⟨h1.J e4.J, e2, q1, by rw [Nat.sub_self k0]; exact h3.fr (e4.2.2 0 (by omega)), q2, q3, ?_⟩, e4.J⟩
    by_cases e : x = y
    · rw [e]; exact ⟨_, q4⟩
    · exact ⟨0, by rw [q5 x e]; exact h7 x (by omega)⟩
theorem PB.step {w te tl i k : Nat} (hn : n < 2) (os : okS sp wk c) (gB : okB B) (htl : tl < B 0 0) (h : PB b s sp wk c n B w te tl i k) (hw : w < 2) (hk : k < B 1 tl) (hi : i ≤ k) : ∃ b', fX12_steps (nI (1 - w)) b = some (true, b') ∧ PB b' s sp wk c n B w te tl i (k + 1) ∧ frJ b b' := by
  obtain ⟨h1, h2, h3, h4, h5, h6, o, h7⟩ := h
  obtain ⟨b', e1, e2, e3⟩ := stepW h4 h3 (wG1_ok gB os.2.2) h1.1 hn os gB (by omega) htl hk
  have e9 : b' 269 = b 269 := e3.1 269 (by omega) (by omega) (by omega) (by omega) (by omega)
  refine ⟨b', e1, ⟨h1.J e3.J, by rw [e9]; exact h2, h3.frS e3, ?_, by rw [e9]; exact h5, by rw [e9]; exact h6, o, by rw [e3.1 304 (by omega) (by omega) (by omega) (by omega) (by omega)]; exact h7⟩, e3.J⟩
  rw [show k + 1 - i = k - i + 1 by omega, run_S]; exact e2
theorem PB.end_no {w te tl i k : Nat} (hn : n < 2) (gB : okB B) (htl : tl < B 0 0) (h : PB b s sp wk c n B w te tl i k) (hw : w < 2) (hk : k < B 1 tl) : fX12_endsOf (nI (1 - w)) b = some b := by
  obtain ⟨h1, h2, h3, h4, h5⟩ := h
  exact endsW_no h4 h1.1 hn gB (by omega) htl hk
theorem PB.end {w te tl i k : Nat} (hn : n < 2) (os : okS sp wk c) (gB : okB B) (htl : tl < B 0 0) (h : PB b s sp wk c n B w te tl i k) (hw : w < 2) (hk : k = B 1 tl) : ∃ b', fX12_endsOf (nI (1 - w)) b = some b' ∧ PC b' s sp wk c n B w te tl i ∧ frJ b b' := by
  obtain ⟨h1, h2, h3, h4, h5, h6, o, h7⟩ := h
  subst hk
  obtain ⟨b', e1, e2, e3, e4, -⟩ := endsW (i := 1) (o := o) h4 h3 (wG1_ok gB os.2.2) h1.1 hn os gB (by omega) htl (by omega) h1.2 h5 h6 h7
  refine ⟨b', e1, ⟨h1.J e4.J, ?_, ?_⟩, e4.J⟩
  · rw [show 89 + w = 90 - (1 - w) by omega, e3, show 90 - (1 - w) = 89 + w by omega]; exact h2
  · rw [show 90 - w = 89 + (1 - w) by omega]; exact e2
end
