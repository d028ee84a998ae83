/-! ===== weave: the engine's rows ===== -/
def eG (G H : F2) : Prop := ∀ f k, f < 3 → k < 10 → G f k = H f k
theorem eG.evw {G H L : F2} (h : eG G H) {k : Nat} (hk : k < 10) : vw G L k = vw H L k := by unfold vw; rw [h 0 k (by omega) hk]
theorem eG.erd {G H L : F2} (h : eG G H) {k : Nat} (hk : k < 10) : nRd G k L = nRd H k L := by unfold nRd; rw [h 1 k (by omega) hk]
theorem eG.egd {G H L : F2} (h : eG G H) {k : Nat} (hk : k < 10) : nGd G k L = nGd H k L := by unfold nGd; rw [h 2 k (by omega) hk]
theorem eG.elk {G H L : F2} (h : eG G H) {sp k : Nat} (hk : k < 10) : lk sp G k L = lk sp H k L := by
  unfold lk lkA
  rw [h.evw hk, h.erd hk, h.egd (show k / sp < 10 by have := dv9 (n := k) (sp := sp) (by omega); omega), h 0 k (by omega) hk]
theorem itr_cgI {X : Type} {f g : Nat → X → X} {i : Nat} {x : X} : ∀ n, (∀ j, i ≤ j → j < i + n → ∀ y, f j y = g j y) → itr f i n x = itr g i n x
  | 0, _ => rfl
  | n + 1, h => by
    show f (i + n) (itr f i n x) = g (i + n) (itr g i n x)
    rw [itr_cgI n (fun j h1 h2 => h j h1 (by omega)), h (i + n) (by omega) (by omega)]
theorem eG.est {G H L : F2} (h : eG G H) {sp w k o : Nat} (hs : stepc w k o) : stp sp G w k o L = stp sp H w k o L := by
  obtain ⟨s1, s2, s3, s4, s5⟩ := hs
  unfold stp
  rw [h.elk (L := L) (sp := sp) (show k < 10 by omega), h.evw (L := lk sp H k L) (show k < 10 by omega)]
  by_cases z : w = 5
  · subst z
    have s5' := s5 rfl
    rw [if_neg (by omega), if_neg (by omega), if_neg (by omega), if_neg (by omega), if_neg (by omega), if_neg (by omega), if_neg (by omega), if_neg (by omega), if_neg (by omega), if_neg (by omega)]
    unfold scn
    have d1 := dv9 (n := o - 1) (sp := sp) (by omega)
    have d2 := Nat.div_le_div_right (c := sp) (show k ≤ o - 1 by omega)
    rw [itr_cgI (f := nGd G) (g := nGd H) _ (fun j _ h2 y => h.egd (by omega))]
    refine itr_cgI _ (fun j _ h2 y => ?_)
    unfold lkT
    rw [h.evw (show j < 10 by omega), h.elk (show j < 10 by omega)]
  · by_cases z0 : w = 0
    · rw [if_pos z0, if_pos z0]
    · rw [if_neg z0, if_neg z0]
      by_cases z1 : w = 1
      · rw [if_pos z1, if_pos z1]
      · rw [if_neg z1, if_neg z1]
        by_cases z2 : w = 2
        · rw [if_pos z2, if_pos z2]
        · rw [if_neg z2, if_neg z2]
          by_cases z3 : w = 3
          · rw [if_pos z3, if_pos z3]
          · rw [if_neg z3, if_neg z3, if_pos (show w = 4 by omega), if_pos (show w = 4 by omega)]
theorem eG.ern {G H B : F2} (h : eG G H) (gB : okB B) {sp : Nat} {L : F2} : ∀ n, run sp G B n L = run sp H B n L
  | 0 => rfl
  | n + 1 => by
    rw [run_S, run_S, eG.ern h gB n]
    unfold dst
    rw [h.est (gB.2.2 _)]
theorem eG.estl {G H L : F2} (h : eG G H) : stl G L = stl H L := by
  unfold stl
  exact fnd_cg _ (fun k hk => by rw [h 0 k (by omega) hk, h 1 k (by omega) hk])
theorem eG.epha {G H L : F2} (h : eG G H) : pha G L = pha H L := by
  unfold pha
  exact fnd_cg _ (fun k hk => by rw [h 2 k (by omega) hk])
theorem eG.enxt {G H L : F2} (h : eG G H) {e : Nat} : nxt G L e = nxt H L e := by
  unfold nxt
  rw [itr_cgX (g := fun k m => if (L 0 6 ||| L 0 8).testBit k = true then max m (H 1 k) else m) 10 (fun k hk y => by rw [h 1 k (by omega) hk])]
theorem eG.ewr {G H : F2} (h : eG G H) {sp x k v : Nat} (hk : k < 10) : eG (wrG sp x k v G) (wrG sp x k v H) := fun f j hf hj => by
  have hs : k / sp < 10 := by have := dv9 (n := k) (sp := sp) (by omega); omega
  unfold wrG
  rw [h 0 k (by omega) hk, h 2 (k / sp) (by omega) hs]
  by_cases e1 : f = 1 ∧ j = k
  · rw [up_k _ e1, up_k _ e1]
  · rw [up_o _ e1, up_o _ e1]
    by_cases e0 : f = 0 ∧ j = k
    · rw [up_k _ e0, up_k _ e0]
    · rw [up_o _ e0, up_o _ e0]
      split
      · exact h f j hf hj
      · by_cases e2 : f = 2 ∧ j = k / sp
        · rw [up_k _ e2, up_k _ e2]
        · rw [up_o _ e2, up_o _ e2]; exact h f j hf hj
theorem eG.ecm {G H L : F2} (h : eG G H) {sp x : Nat} : ∀ n, n ≤ 10 → eG (cmG sp x L n G) (cmG sp x L n H)
  | 0, _ => h
  | n + 1, hn => by
    have ih := eG.ecm (L := L) (sp := sp) (x := x) h n (by omega)
    unfold cmG at ih ⊢
    rw [itr_S, itr_S]
    split
    · exact ih.ewr (by omega)
    · exact ih
/-- a run's start, two workers -/
theorem okM2 {sp : Nat} {B X : F2} {K : Nat → F2} (e2 : X 146 2 = 2) (e3 : X 146 3 = 1) (e11 : X 146 11 = 0) (e12 : X 146 12 = 0) (ek : ∀ k, k < 10 → X 147 k ≤ 100 ∧ X 148 k = 0 ∧ X 149 k = 0) (ew : ∀ w, w < 4 → gW X (Wc w) = rsL 0 (K w)) : okM sp 2 0 B X := by
  have f : ∀ w, w < 4 → ∀ j, X (Wc w) j = rsL 0 (K w) 0 j := fun w hw j => congrFun (congrFun (ew w hw) 0) j
  have r : ∀ w, _ := fun w => rs_e (d := 0) (L := K w)
  refine ⟨⟨by omega, by omega, e2⟩, ⟨by omega, by omega⟩, ⟨?_, by omega⟩, fun k hk => ?_, fun w hw => ?_, fun i hi => absurd hi (by omega), fun i j _ hj => absurd hj (by omega), fun d hd => absurd hd (by omega), fun w _ hw => ⟨by rw [f w hw]; exact (r w).2.2.2.2.1, by rw [f w hw]; exact (r w).2.2.2.2.2.1⟩⟩
  · have : bzy X = 0 := sm_zero _ (fun w hw => by show (if X (Wc w) 0 = 0 then 0 else 1) = 0; rw [if_pos (by rw [f w hw]; exact (r w).1)])
    omega
  · obtain ⟨k1, k2, k3⟩ := ek k hk
    omega
  · refine ⟨by rw [ew w hw]; exact okL_rs, ?_, ?_, ?_, fun z => absurd (by rw [f w hw]; exact (r w).1) z⟩
    · rw [f w hw, (r w).2.2.2.2.2.2.2.1]; exact Nat.two_pow_pos _
    · rw [f w hw, (r w).2.2.2.2.1]; omega
    · rw [f w hw, (r w).2.2.2.2.2.1]; omega
theorem perfC {a : Mem} {X B : F2} {s sp wk n kind wv tv : Nat} {c : Nat → Nat} (hX : CX a X s sp wk c n B) (ok : okM sp 2 (X 146 12) B X) (hd : X 146 12 < 60) (hk : kind < 7) (hw : wv ≤ 4) (ht : tv ≤ 7) (hcan : can B kind wv tv X = true) : ∃ a', fX3_perform (nI kind) (vI wv) (vI tv) a = some (true, a') ∧ CX a' (doM sp B c kind wv tv X) s sp wk c n B ∧ okM sp 2 (doM sp B c kind wv tv X 146 12) B (doM sp B c kind wv tv X) ∧ frK a a' ∧ doM sp B c kind wv tv X 146 12 = X 146 12 + 1 := by
  obtain ⟨a', d1, d2, d3⟩ := k_do (tv := tv) hX ok hk hd hw ht hcan
  obtain ⟨g1, g2, g3, g4, -⟩ := do_ok (c := c) (tv := tv) ok hX.2.1.2.2.2.1 hX.2.1.2.2.1.2.2 hk hd hw hcan
  exact ⟨a', d1, hX.go d2 d3 g3 g4, g1, d3, g2⟩
/-- a deed on one worker -/
theorem do_g {sp kind wv tv w : Nat} {c : Nat → Nat} {B X : F2} {f : F2 → F2} (hw : w < 2) (hf : ∀ L, nz L → nz (f L)) (ho : opM sp B c kind wv tv (prM X) = pt (prM X) (Wc w) (f (gW X (Wc w)))) : gG (doM sp B c kind wv tv X) = gG X ∧ gW (doM sp B c kind wv tv X) (Wc w) = f (gW X (Wc w)) ∧ gW (doM sp B c kind wv tv X) (Wc (1 - w)) = gW X (Wc (1 - w)) ∧ doM sp B c kind wv tv X 146 3 = X 146 3 := by
  obtain ⟨d1, d2, d3, d4, d5⟩ := do_pt (tv := tv) (f := f) (by omega : w < 4) hf ho
  refine ⟨?_, d5, ?_, d2 _ _ (by omega) (by omega) (by unfold Wc; omega)⟩
  · funext x k; unfold gG; split
    · exact d2 _ _ (by omega) (by omega) (by unfold Wc; omega)
    · rfl
  · funext x k; unfold gW; split
    · exact d2 _ _ (by unfold Wc; omega) (by unfold Wc; omega) (by unfold Wc; omega)
    · rfl
set_option maxHeartbeats 2000000 in
theorem stepsC {lp : Nat → Int32 → Mem → Option Mem} {s sp wk n w m t : Nat} {c : Nat → Nat} {B : F2} (hl : ∀ g x σ, lp (g + 1) x σ = if nI m ≤ x then some σ else (fX3_perform 2 (nI w) (-1) σ).bind fun q => lp g (x + 1) q.2) (hm : m ≤ 6) (hw : w < 2) (ht : t < B 0 0) {X : F2} {a : Mem} (hX : CX a X s sp wk c n B) (ok : okM sp 2 (X 146 12) B X) (hd : X 146 12 ≤ 40) (h0 : X (Wc w) 0 = t + 1) (hk : X (Wc w) 2 ≤ B 1 t) :
    ∃ a' X', lp FU 0 a = some a' ∧ CX a' X' s sp wk c n B ∧ okM sp 2 (X' 146 12) B X' ∧ frK a a' ∧ X' 146 12 ≤ X 146 12 + m ∧ gG X' = gG X ∧ gW X' (Wc w) = run sp (gG X) B (min m (B 1 t - X (Wc w) 2)) (gW X (Wc w)) ∧ gW X' (Wc (1 - w)) = gW X (Wc (1 - w)) ∧ X' 146 3 = X 146 3 := by
  have gB := hX.2.1.2.2.2.1
  have gB1 := gB.1
  refine loop_k (fun f j (st : Mem × F2) => lp f (nI j) st.1) m (fun j st => CX st.1 st.2 s sp wk c n B ∧ okM sp 2 (st.2 146 12) B st.2 ∧ frK a st.1 ∧ st.2 146 12 ≤ X 146 12 + j ∧ gG st.2 = gG X ∧ gW st.2 (Wc w) = run sp (gG X) B (min j (B 1 t - X (Wc w) 2)) (gW X (Wc w)) ∧ gW st.2 (Wc (1 - w)) = gW X (Wc (1 - w)) ∧ st.2 146 3 = X 146 3)
    (fun a' => ∃ X', CX a' X' s sp wk c n B ∧ okM sp 2 (X' 146 12) B X' ∧ frK a a' ∧ X' 146 12 ≤ X 146 12 + m ∧ gG X' = gG X ∧ gW X' (Wc w) = run sp (gG X) B (min m (B 1 t - X (Wc w) 2)) (gW X (Wc w)) ∧ gW X' (Wc (1 - w)) = gW X (Wc (1 - w)) ∧ X' 146 3 = X 146 3)
    (Nat.zero_le _) (by omega) (s := (a, X)) ⟨hX, ok, frK.rf, Nat.le_refl _, rfl, by rw [Nat.zero_min]; rfl, rfl, rfl⟩ ?_ ?_ ?_
  · rintro a' e1 ⟨X', e2⟩; exact ⟨a', X', e1, e2⟩
  · rintro f ⟨r, Y⟩ h
    refine ⟨r, ?_, Y, h⟩
    show lp (f + 1) (nI m) r = _
    rw [hl, if_pos (by rw [le_nn (by omega) (by omega)]; omega)]
  · rintro f j ⟨r, Y⟩ hj ⟨h1, h2, h3, h4, h5, h6, h7, h8⟩
    dsimp only at h1 h2 h3 h4 h5 h6 h7 h8
    have y0 : Y (Wc w) 0 = t + 1 := by
      have e : gW Y (Wc w) 0 0 = (run sp (gG X) B (min j (B 1 t - X (Wc w) 2)) (gW X (Wc w))) 0 0 := by rw [h6]
      rw [run_0 (by omega) (by omega) (by omega)] at e
      exact e.trans h0
    have y2 : Y (Wc w) 2 = X (Wc w) 2 + min j (B 1 t - X (Wc w) 2) := by
      have e : gW Y (Wc w) 0 2 = (run sp (gG X) B (min j (B 1 t - X (Wc w) 2)) (gW X (Wc w))) 0 2 := by rw [h6]
      rw [run_2] at e
      exact e
    have e2 := h2.1.2.2
    have hcan : can B 2 (w + 1) 0 Y = decide (Y (Wc w) 2 < B 1 t) := by
      unfold can
      rw [if_neg (by omega), if_neg (by omega), if_neg (by omega), if_pos rfl, Nat.add_sub_cancel, y0, decide_eq_true (show t + 1 ≠ 0 by omega), Bool.true_and, Nat.add_sub_cancel]
    by_cases z : Y (Wc w) 2 < B 1 t
    · obtain ⟨r', p1, p2, p3, p4, p5⟩ := perfC (kind := 2) (wv := w + 1) (tv := 0) h1 h2 (by omega) (by omega) (by omega) (by omega) (by rw [hcan]; exact decide_eq_true z)
      have ho : opM sp B c 2 (w + 1) 0 (prM Y) = pt (prM Y) (Wc w) (dst sp (gG Y) B (gW Y (Wc w))) := by
        unfold opM; rw [if_neg (by omega), if_neg (by omega), if_pos rfl, Nat.add_sub_cancel]; unfold spM; rw [gG_pr, gW_pr (by omega)]
      obtain ⟨d1, d2, d3, d4⟩ := do_g (tv := 0) (f := fun L => dst sp (gG Y) B L) hw (fun L hL => nz_dst hL) ho
      have p1' : fX3_perform 2 (nI w) (-1) r = some (true, r') := p1
      refine ⟨(r', doM sp B c 2 (w + 1) 0 Y), ?_, p2, p3, h3.tr p4, by show doM sp B c 2 (w + 1) 0 Y 146 12 ≤ _; omega, d1.trans h5, ?_, d3.trans h7, d4.trans h8⟩
      · show lp (f + 1) (nI j) r = lp f (nI (j + 1)) r'
        rw [hl, if_neg (by rw [le_nn (by omega) (by omega)]; omega), p1', bq, nI_1]
      · show gW (doM sp B c 2 (w + 1) 0 Y) (Wc w) = _
        rw [d2, h5, h6, show min (j + 1) (B 1 t - X (Wc w) 2) = min j (B 1 t - X (Wc w) 2) + 1 by omega, run_S]
    · have p1 := k_no (kind := 2) (wv := w + 1) (tv := 0) h1 h2 (by omega) (by omega) (by omega) (by omega) (by rw [hcan]; exact decide_eq_false z)
      have p1' : fX3_perform 2 (nI w) (-1) r = some (false, r) := p1
      refine ⟨(r, Y), ?_, h1, h2, h3, by show Y 146 12 ≤ _; omega, h5, ?_, h7, h8⟩
      · show lp (f + 1) (nI j) r = lp f (nI (j + 1)) r
        rw [hl, if_neg (by rw [le_nn (by omega) (by omega)]; omega), p1', bq, nI_1]
      · show gW Y (Wc w) = _
        rw [h6, show min (j + 1) (B 1 t - X (Wc w) 2) = min j (B 1 t - X (Wc w) 2) by omega]
/-- a commit's verdict and keys -/
theorem commC {sp nw w : Nat} {c : Nat → Nat} {B X : F2} (ok : okM sp nw (X 146 12) B X) (h1 : 1 ≤ sp) (hw : w < 2) (h30 : X 146 11 < 30) : doM sp B c 3 (w + 1) 0 X 154 (X 146 12) = vrd (gG X) (gW X (Wc w)) ∧ (vrd (gG X) (gW X (Wc w)) = 1 → gG (doM sp B c 3 (w + 1) 0 X) = cmG sp (nxt (gG X) (gW X (Wc w)) (X 146 3)) (gW X (Wc w)) 10 (gG X) ∧ gW (doM sp B c 3 (w + 1) 0 X) (Wc (1 - w)) = gW X (Wc (1 - w)) ∧ doM sp B c 3 (w + 1) 0 X 146 3 = X 146 3) := by
  have hw4 : w < 4 := by omega
  have p3 : prM X 146 3 = X 146 3 := prM_o (by omega)
  have p11 : prM X 146 11 = X 146 11 := prM_o (by omega)
  have p12 : prM X 146 12 = X 146 12 := prM_o (by omega)
  have hcm : cmM sp w (prM X) = rtM w (if stl (gG X) (gW X (Wc w)) = 0 then (if pha (gG X) (gW X (Wc w)) = 0 then mkM sp w (prM X) else rfM w 3 (pha (gG X) (gW X (Wc w)) - 1) (prM X 151 (pha (gG X) (gW X (Wc w)) - 1)) (prM X)) else rfM w 2 (stl (gG X) (gW X (Wc w)) - 1) (prM X 150 (stl (gG X) (gW X (Wc w)) - 1)) (prM X)) := by
    unfold cmM; rw [gG_pr, gW_pr hw4]
  have dN : ∀ x j, ¬ (x = 146 ∧ j = 12) → doM sp B c 3 (w + 1) 0 X x j = cmM sp w (prM X) x j := fun x j hh => by rw [do_o hh, op3]
  have dg : ∀ v, gW (doM sp B c 3 (w + 1) 0 X) (Wc v) = gW (cmM sp w (prM X)) (Wc v) := fun v => by unfold doM nxM; rw [gW_146, op3]
  have hrf : ∀ how what y, rtM w (rfM w how what y (prM X)) 154 (X 146 12) = how := fun how what y => by
    rw [rtM_o (by omega) hw4]; unfold rfM; rw [p12, up_o _ (by omega), up_o _ (by omega), up_o _ (by omega), up_e]
  have E := mk_e (sp := sp) (w := w) (M := prM X) hw4 (by rw [p11]; exact h30)
  dsimp only at E
  rw [gG_pr, gW_pr hw4, p3, p11, p12] at E
  obtain ⟨E1, E2, E3, E4, E5, E6, E7, E8, -⟩ := E
  unfold vrd
  by_cases z1 : stl (gG X) (gW X (Wc w)) = 0
  · by_cases z2 : pha (gG X) (gW X (Wc w)) = 0
    · rw [if_pos z1, if_pos z2] at hcm
      rw [if_pos z1, if_pos z2]
      refine ⟨by rw [dN _ _ (by omega), hcm]; exact E4, fun _ => ⟨?_, ?_, ?_⟩⟩
      · have hgA : gG (mkA w (nxt (gG X) (gW X (Wc w)) (X 146 3)) (prM X)) = gG X := by
          refine Eq.trans ?_ gG_pr
          funext f k; unfold gG; split
          · unfold mkA; rw [p12, up_o _ (by unfold Wc; omega), up_o _ (by omega), up_o _ (by omega)]
          · rfl
        have hb := brI_G (sp := sp) (d := X 146 12) (x := nxt (gG X) (gW X (Wc w)) (X 146 3)) (L := gW X (Wc w)) (q := (0, mkA w (nxt (gG X) (gW X (Wc w)) (X 146 3)) (prM X))) h1 10 (by omega)
        have hb' : gG (itr (brS sp (X 146 12) (nxt (gG X) (gW X (Wc w)) (X 146 3)) (gW X (Wc w))) 0 10 (0, mkA w (nxt (gG X) (gW X (Wc w)) (X 146 3)) (prM X))).2 = cmG sp (nxt (gG X) (gW X (Wc w)) (X 146 3)) (gW X (Wc w)) 10 (gG X) := hb.trans (by show cmG _ _ _ _ (gG (mkA w (nxt (gG X) (gW X (Wc w)) (X 146 3)) (prM X))) = _; rw [hgA])
        rw [← hb']
        funext f k
        by_cases hf : f < 3
        · show (if f < 3 then _ else 0) = (if f < 3 then _ else 0)
          rw [if_pos hf, if_pos hf, dN _ _ (by omega), hcm]
          exact E3 _ _ (by omega) (by omega)
        · show (if f < 3 then _ else 0) = (if f < 3 then _ else 0)
          rw [if_neg hf, if_neg hf]
      · rw [dg, hcm, E8 (1 - w) (by omega) (by omega), gW_pr (by omega)]
      · rw [dN _ _ (by omega), hcm, E1 3 (by omega), p3]
    · rw [if_pos z1, if_neg z2] at hcm
      rw [if_pos z1, if_neg z2]
      exact ⟨by rw [dN _ _ (by omega), hcm]; exact hrf _ _ _, fun z => absurd z (by omega)⟩
  · rw [if_neg z1] at hcm
    rw [if_neg z1]
    exact ⟨by rw [dN _ _ (by omega), hcm]; exact hrf _ _ _, fun z => absurd z (by omega)⟩
