/-! ===== the reference's run against the engine's numbers ===== -/
def lcW (M : F2) (i : Nat) : Nat := if M (174 + 2 * i) 9 = 0 then M (174 + 2 * i) 0 + 1 else 0
def lcV (M : F2) (i k : Nat) : Nat := if (M (174 + 2 * i) 6).testBit k = true then M (175 + 2 * i) k + 1 else 0
def MWk (b : Mem) (w : Nat) (L : F2) : Prop := b 286 w = vI (L 0 0) ∧ b 287 w = nI (L 0 2) ∧ b 288 w = nI (L 0 3) ∧ b 290 w = nI (L 0 4) ∧ b 291 w = nI (L 0 5) ∧ (L 0 0 ≠ 0 → b 289 w = nI (L 0 1) ∧ MWr b w L)
def MLn (b : Mem) (M : F2) (i : Nat) : Prop := b 295 i = vI (lcW M i) ∧ b 296 i = nI (M (174 + 2 * i) 1) ∧ b 297 i = nI (M (174 + 2 * i) 2) ∧ b 298 i = nI (M (174 + 2 * i) 3) ∧ (M (174 + 2 * i) 9 = 0 → b 299 i = nI (M (174 + 2 * i) 8)) ∧ b 300 i = nI (M (174 + 2 * i) 4) ∧ b 301 i = nI (M (174 + 2 * i) 5) ∧ b 302 i = nI (M (174 + 2 * i) 7) ∧ ∀ k, k < 10 → b 303 (10 * i + k) = wI (lcV M i k)
def nRef (M : F2) : Nat := sm (fun d => if M 154 d = 2 ∨ M 154 d = 3 then 1 else 0) (M 146 12)
def nHot (M : F2) (k : Nat) : Nat := sm (fun d => if M 154 d = 2 ∧ M 155 d = k + 1 then 1 else 0) (M 146 12)
def nOft (M : F2) (t : Nat) : Nat := sm (fun i => if M (174 + 2 * i) 1 = t then 1 else 0) (M 146 11)
def MSc (b : Mem) (M : F2) : Prop := b 269 26 = nI (M 146 2) ∧ b 269 29 = nI (M 146 3) ∧ b 269 54 = nI (M 146 11) ∧ b 269 55 = nI (M 146 11) ∧ b 269 56 = nI (nRef M) ∧ b 269 57 = nI (M 146 17) ∧ b 269 58 = nI (M 146 18) ∧ b 269 59 = nI (M 146 19)
def MBy (pl : Prop) (b : Mem) (M : F2) : Prop := pl → ∀ k, k < 10 → b 284 k = vI (M 150 k) ∧ b 285 k = vI (M 151 k)
def MN (pl : Prop) (b : Mem) (M : F2) (sp : Nat) : Prop := MG b (gG M) sp ∧ MSc b M ∧ MBy pl b M ∧ (∀ w, w < 4 → MWk b w (gW M (Wc w))) ∧ (∀ i, i < M 146 11 → MLn b M i) ∧ (∀ t, t < 7 → b 304 t = nI (nOft M t)) ∧ ∀ k, k < 10 → b 305 k = nI (nHot M k)
/-- what a deed leaves in the reference -/
def frO (b b' : Mem) : Prop := (∀ j, j < 29 ∨ 69 ≤ j → b' 269 j = b 269 j) ∧ ∀ m, m < 269 ∨ (270 ≤ m ∧ m ≤ 280) ∨ 308 ≤ m → b' m = b m
theorem frO.rf {b : Mem} : frO b b := ⟨fun _ _ => rfl, fun _ _ => rfl⟩
theorem frO.tr {b b' b'' : Mem} (h : frO b b') (h2 : frO b' b'') : frO b b'' := ⟨fun j hj => (h2.1 j hj).trans (h.1 j hj), fun m hm => (h2.2 m hm).trans (h.2 m hm)⟩
theorem frO.s9 {b : Mem} {j : Nat} {v : Int32} (h : 29 ≤ j ∧ j < 69) : frO b (st2 b 269 j v) := ⟨fun i hi => st2_o _ _ (by omega), fun m hm => st2_c _ _ (by omega)⟩
theorem frO.st {b : Mem} {c j : Nat} {v : Int32} (h : 281 ≤ c ∧ c < 308) : frO b (st2 b c j v) := ⟨fun i hi => st2_o _ _ (by omega), fun m hm => st2_c _ _ (by omega)⟩
theorem frS.O {w : Nat} {b b' : Mem} (h : frS w b b') : frO b b' := ⟨fun j _ => by rw [h.1 269 (by omega) (by omega) (by omega) (by omega) (by omega)], fun m hm => h.1 m (by omega) (by omega) (by omega) (by omega) (by omega)⟩
theorem frG.O {w : Nat} {b b' : Mem} (h : frG w b b') : frO b b' := ⟨fun j _ => by rw [h.1 269 (by omega) (by omega) (by omega) (by omega) (by omega) (by omega) (by omega)], fun m hm => h.1 m (by omega) (by omega) (by omega) (by omega) (by omega) (by omega) (by omega)⟩
theorem frO.M {b b' : Mem} (h : frO b b') : frM b b' := fun n hn => h.2 n (by omega)
theorem frO.t {b b' : Mem} (h : frO b b') : tM b b' := fun n hn => h.2 n (by omega)
theorem HD.O {b b' : Mem} {s sp wk n : Nat} {c : Nat → Nat} {B : F2} (h : HD b s sp wk c n B) (e : frO b b') : HD b' s sp wk c n B := h.fr (fun j hj => e.1 j (by omega)) (e.2 275 (by omega)) (e.2 276 (by omega))
theorem MWr.cgb {b b' : Mem} {w : Nat} {L : F2} (h : MWr b w L) (e8 : b' 288 w = b 288 w) (er : ∀ k, k < 10 → b' 292 (10 * w + k) = b 292 (10 * w + k) ∧ b' 293 (10 * w + k) = b 293 (10 * w + k) ∧ b' 294 (10 * w + k) = b 294 (10 * w + k)) : MWr b' w L := by
  obtain ⟨h1, h2, h3, h4⟩ := h
  exact ⟨by rw [e8]; exact h1, fun k hk => by rw [(er k hk).1]; exact h2 k hk, fun k hk => by rw [(er k hk).2.1]; exact h3 k hk, fun k hk => by rw [(er k hk).2.2]; exact h4 k hk⟩
theorem MWk.cgb {b b' : Mem} {w : Nat} {L : F2} (h : MWk b w L) (e : ∀ c, 286 ≤ c → c ≤ 291 → b' c w = b c w) (er : ∀ k, k < 10 → b' 292 (10 * w + k) = b 292 (10 * w + k) ∧ b' 293 (10 * w + k) = b 293 (10 * w + k) ∧ b' 294 (10 * w + k) = b 294 (10 * w + k)) : MWk b' w L := by
  obtain ⟨h1, h2, h3, h4, h5, h6⟩ := h
  exact ⟨by rw [e 286 (by omega) (by omega)]; exact h1, by rw [e 287 (by omega) (by omega)]; exact h2, by rw [e 288 (by omega) (by omega)]; exact h3, by rw [e 290 (by omega) (by omega)]; exact h4, by rw [e 291 (by omega) (by omega)]; exact h5, fun z => ⟨by rw [e 289 (by omega) (by omega)]; exact (h6 z).1, (h6 z).2.cgb (e 288 (by omega) (by omega)) er⟩⟩
theorem MLn.cg {b b' : Mem} {M M' : F2} {i : Nat} (h : MLn b M i) (e : ∀ c, 295 ≤ c → c ≤ 303 → b' c = b c) (e1 : M' (174 + 2 * i) = M (174 + 2 * i)) (e2 : ∀ k, k < 10 → M' (175 + 2 * i) k = M (175 + 2 * i) k) : MLn b' M' i := by
  obtain ⟨h1, h2, h3, h4, h5, h6, h7, h8, h9⟩ := h
  unfold MLn lcW
  rw [e 295 (by omega) (by omega), e 296 (by omega) (by omega), e 297 (by omega) (by omega), e 298 (by omega) (by omega), e 299 (by omega) (by omega), e 300 (by omega) (by omega), e 301 (by omega) (by omega), e 302 (by omega) (by omega), e 303 (by omega) (by omega), e1]
  refine ⟨h1, h2, h3, h4, h5, h6, h7, h8, fun k hk => ?_⟩
  rw [h9 k hk]
  unfold lcV
  rw [e1, e2 k hk]
/-- counts, where nothing of theirs changes -/
theorem nRef_cg {M M' : F2} (e12 : M' 146 12 = M 146 12 + 1) (eh : ∀ d, d < M 146 12 → M' 154 d = M 154 d) (h0 : M' 154 (M 146 12) ≠ 2 ∧ M' 154 (M 146 12) ≠ 3) : nRef M' = nRef M := by
  unfold nRef
  rw [e12]
  show sm (fun d => if M' 154 d = 2 ∨ M' 154 d = 3 then 1 else 0) (M 146 12) + (if M' 154 (M 146 12) = 2 ∨ M' 154 (M 146 12) = 3 then 1 else 0) = _
  rw [if_neg (by omega), sm_cg (g := fun d => if M 154 d = 2 ∨ M 154 d = 3 then 1 else 0) _ (fun d hd => by rw [eh d hd])]
  rfl
theorem nHot_cg {M M' : F2} {k : Nat} (e12 : M' 146 12 = M 146 12 + 1) (eh : ∀ x d, x = 154 ∨ x = 155 → d < M 146 12 → M' x d = M x d) (h0 : M' 154 (M 146 12) ≠ 2) : nHot M' k = nHot M k := by
  unfold nHot
  rw [e12]
  show sm (fun d => if M' 154 d = 2 ∧ M' 155 d = k + 1 then 1 else 0) (M 146 12) + (if M' 154 (M 146 12) = 2 ∧ M' 155 (M 146 12) = k + 1 then 1 else 0) = _
  rw [if_neg (fun z => h0 z.1), sm_cg (g := fun d => if M 154 d = 2 ∧ M 155 d = k + 1 then 1 else 0) _ (fun d hd => by rw [eh 154 d (by omega) hd, eh 155 d (by omega) hd])]
  rfl
theorem nOft_cg {M M' : F2} {t : Nat} (e11 : M' 146 11 = M 146 11) (el : ∀ i, i < M 146 11 → M' (174 + 2 * i) 1 = M (174 + 2 * i) 1) : nOft M' t = nOft M t := by
  unfold nOft; rw [e11]; exact sm_cg _ (fun i hi => by rw [el i hi])
/-- the history's part of a deed that is no commit -/
theorem MN.mk' {pl : Prop} {b b' : Mem} {M M' : F2} {sp : Nat} (h : MN pl b M sp) (e12 : M' 146 12 = M 146 12 + 1) (eh : ∀ x d, x = 154 ∨ x = 155 → d < M 146 12 → M' x d = M x d) (h0 : M' 154 (M 146 12) = 0)
    (hG : MG b' (gG M') sp) (hs : b' 269 26 = nI (M' 146 2) ∧ b' 269 29 = nI (M' 146 3) ∧ b' 269 57 = nI (M' 146 17) ∧ b' 269 58 = nI (M' 146 18) ∧ b' 269 59 = nI (M' 146 19)) (hk : ∀ j, j = 54 ∨ j = 55 ∨ j = 56 → b' 269 j = b 269 j) (e11 : M' 146 11 = M 146 11)
    (hb : MBy pl b' M') (hw : ∀ w, w < 4 → MWk b' w (gW M' (Wc w))) (hl : ∀ i, i < M 146 11 → MLn b' M' i) (el : ∀ i, i < M 146 11 → M' (174 + 2 * i) 1 = M (174 + 2 * i) 1) (e304 : b' 304 = b 304) (e305 : b' 305 = b 305) : MN pl b' M' sp := by
  obtain ⟨g1, ⟨s1, s2, s3, s4, s5, s6, s7, s8⟩, g3, g4, g5, g6, g7⟩ := h
  refine ⟨hG, ⟨hs.1, hs.2.1, by rw [hk 54 (by omega), e11]; exact s3, by rw [hk 55 (by omega), e11]; exact s4, ?_, hs.2.2.1, hs.2.2.2.1, hs.2.2.2.2⟩, hb, hw, by rw [e11]; exact hl, fun t ht => ?_, fun k hk => ?_⟩
  · rw [hk 56 (by omega), nRef_cg e12 (fun d hd => eh 154 d (by omega) hd) (by omega)]; exact s5
  · rw [e304, nOft_cg e11 el]; exact g6 t ht
  · rw [e305, nHot_cg e12 eh (by omega)]; exact g7 k hk
/-- reading doM -/
theorem do_o {sp kind wv tv : Nat} {c : Nat → Nat} {B M : F2} {x j : Nat} (h : ¬ (x = 146 ∧ j = 12)) : doM sp B c kind wv tv M x j = opM sp B c kind wv tv (prM M) x j := by unfold doM nxM; rw [up_o _ h]
theorem prM_154 {M : F2} : prM M 154 (M 146 12) = 0 := by unfold prM; rw [up_o _ (by omega), up_o _ (by omega), up_o _ (by omega), up_e]
theorem gG_pr {M : F2} : gG (prM M) = gG M := by
  funext f k
  unfold gG
  split
  · exact prM_o (by omega)
  · rfl
theorem gW_pr {M : F2} {w : Nat} (hw : w < 4) : gW (prM M) (Wc w) = gW M (Wc w) := by
  funext f k
  unfold gW
  split
  · exact prM_o (by unfold Wc; omega)
  · rfl
/-! epoch -/
theorem m_epoch {pl : Prop} {b : Mem} {M B : F2} {sp nw tv wv : Nat} {c : Nat → Nat} (h : MN pl b M sp) (ok : okM sp nw (M 146 12) B M) (gB : okB B) : (epOK M = true → ∃ b', fX12_nextEpoch b = some (true, b') ∧ MN pl b' (doM sp B c 0 wv tv M) sp ∧ frO b b') ∧ (epOK M = false → fX12_nextEpoch b = some (false, b)) := by
  have gB1 := gB.1
  obtain ⟨⟨o1, o2, o3⟩, ⟨o4, o5⟩, -, -, o6, -⟩ := ok
  have hM := h
  obtain ⟨g1, ⟨s1, s2, s3, s4, s5, s6, s7, s8⟩, g3, g4, g5, g6, g7⟩ := h
  have go : M 146 3 < 50 → (fnd (fun w => decide (M (Wc w) 0 ≠ 0) && decide (M (Wc w) 1 < M 146 3)) 0 nw = 0 → fX12_nextEpoch b = some (true, st2 b 269 29 (nI (M 146 3 + 1)))) ∧ (fnd (fun w => decide (M (Wc w) 0 ≠ 0) && decide (M (Wc w) 1 < M 146 3)) 0 nw ≠ 0 → fX12_nextEpoch b = some (false, b)) := fun h50 => by
    unfold fX12_nextEpoch
    rw [if_neg (by rw [s2, show (50 : Int32) = nI 50 from rfl, eq_nn (by omega) (by omega)]; omega)]
    refine loop_x (fun f j (q : Mem) => lX12_nextEpoch_13 f (nI j) q) nw (fun j q => q = b ∧ ∀ w, w < j → ¬ (decide (M (Wc w) 0 ≠ 0) && decide (M (Wc w) 1 < M 146 3)) = true) (fun r => (fnd (fun w => decide (M (Wc w) 0 ≠ 0) && decide (M (Wc w) 1 < M 146 3)) 0 nw = 0 ∧ r = .inr b) ∨ (fnd (fun w => decide (M (Wc w) 0 ≠ 0) && decide (M (Wc w) 1 < M 146 3)) 0 nw ≠ 0 ∧ r = .inl (false, b))) (Nat.zero_le _) (by omega) (s := b) ⟨rfl, fun w hw => absurd hw (by omega)⟩ ?_ ?_ ?_
    · intro r e1 e2
      have e1' : lX12_nextEpoch_13 FU 0 b = some r := e1
      rw [e1', bq]
      rcases e2 with ⟨z, rfl⟩ | ⟨z, rfl⟩
      · refine ⟨fun _ => ?_, fun y => absurd z y⟩
        show some (true, st2 b 269 29 (b 269 29 + 1)) = _
        rw [s2, nI_1]
      · exact ⟨fun y => absurd y z, fun _ => rfl⟩
    · rintro f q ⟨rfl, e2⟩
      refine ⟨.inr q, ?_, Or.inl ⟨fnd_no _ e2, rfl⟩⟩
      show lX12_nextEpoch_13 _ _ _ = _
      rw [lX12_nextEpoch_13, if_pos (by rw [s1, o3, le_nn (by omega) (by omega)]; omega)]
    · rintro f w q hw ⟨rfl, e2⟩
      obtain ⟨-, -, -, -, w5⟩ := o6 w (by omega)
      obtain ⟨k1, -, -, -, -, k6⟩ := g4 w (by omega)
      have k1' : q 286 w = vI (M (Wc w) 0) := k1
      by_cases z0 : M (Wc w) 0 = 0
      · left
        refine ⟨q, ?_, rfl, fun v hv => ?_⟩
        · show lX12_nextEpoch_13 _ _ _ = lX12_nextEpoch_13 _ _ _
          rw [lX12_nextEpoch_13, if_neg (by rw [s1, o3, le_nn (by omega) (by omega)]; omega), inb_T (show w < 4 by omega) (by omega), gdT, nI_ck (by omega), if_pos (by rw [k1', z0]; rfl), nI_1]
        · by_cases e : v = w
          · subst e; simp [z0]
          · exact e2 v (by omega)
      · have w5' := w5 z0
        have k9 : q 289 w = nI (M (Wc w) 1) := (k6 z0).1
        have hne : ¬ q 286 w = -1 := by rw [k1', vI_p (by omega)]; exact nI_m1 (by omega)
        by_cases z1 : M (Wc w) 1 < M 146 3
        · right
          have hp : (decide (M (Wc w) 0 ≠ 0) && decide (M (Wc w) 1 < M 146 3)) = true := by simp [z0, z1]
          refine ⟨.inl (false, q), ?_, Or.inr ⟨by rw [fnd_yes hp e2 nw hw]; omega, rfl⟩⟩
          show lX12_nextEpoch_13 _ _ _ = _
          rw [lX12_nextEpoch_13, if_neg (by rw [s1, o3, le_nn (by omega) (by omega)]; omega), inb_T (show w < 4 by omega) (by omega), gdT, nI_ck (by omega), if_neg hne, gdT, if_neg (by rw [s2, k9, le_nn (by omega) (by omega)]; omega)]
        · left
          refine ⟨q, ?_, rfl, fun v hv => ?_⟩
          · show lX12_nextEpoch_13 _ _ _ = lX12_nextEpoch_13 _ _ _
            rw [lX12_nextEpoch_13, if_neg (by rw [s1, o3, le_nn (by omega) (by omega)]; omega), inb_T (show w < 4 by omega) (by omega), gdT, nI_ck (by omega), if_neg hne, gdT, if_pos (by rw [s2, k9, le_nn (by omega) (by omega)]; omega), nI_1]
          · by_cases e : v = w
            · subst e; simp [z1]
            · exact e2 v (by omega)
  unfold epOK
  rw [o3]
  by_cases h50 : M 146 3 < 50
  · rw [decide_eq_true h50, Bool.true_and]
    obtain ⟨go1, go2⟩ := go h50
    refine ⟨fun z => ⟨_, go1 (of_decide_eq_true z), ?_, frO.s9 (by omega)⟩, fun z => go2 (of_decide_eq_false z)⟩
    have eo : ∀ x j, ¬ (x = 146 ∧ (j = 12 ∨ j = 3)) → ¬ (154 ≤ x ∧ x ≤ 157 ∧ j = M 146 12) → doM sp B c 0 wv tv M x j = M x j := fun x j z1 z2 => by
      rw [do_o (by omega)]; unfold opM; rw [if_pos rfl]; unfold epM; rw [up_o _ (by omega), prM_o (by omega)]
    have ed : doM sp B c 0 wv tv M 146 12 = M 146 12 + 1 := by unfold doM nxM; rw [up_e]; unfold opM; rw [if_pos rfl]; unfold epM; rw [up_o _ (by omega), prM_o (by omega)]
    have e3 : doM sp B c 0 wv tv M 146 3 = M 146 3 + 1 := by rw [do_o (by omega)]; unfold opM; rw [if_pos rfl]; unfold epM; rw [up_e, prM_o (by omega)]
    have e154 : doM sp B c 0 wv tv M 154 (M 146 12) = 0 := by rw [do_o (by omega)]; unfold opM; rw [if_pos rfl]; unfold epM; rw [up_o _ (by omega)]; exact prM_154
    generalize doM sp B c 0 wv tv M = N at *
    have eg : gG N = gG M := by
      funext f k; unfold gG; split
      · exact eo _ _ (by omega) (by omega)
      · rfl
    have ew : ∀ w, w < 4 → gW N (Wc w) = gW M (Wc w) := fun w hw => by
      funext f k; unfold gW; split
      · exact eo _ _ (by unfold Wc; omega) (by unfold Wc; omega)
      · rfl
    refine hM.mk' ed (fun x d hx hd => eo x d (by omega) (by omega)) e154 ?_ ⟨?_, ?_, ?_, ?_, ?_⟩ (fun j hj => st2_o _ _ (by omega)) (eo _ _ (by omega) (by omega)) (fun hp k hk => ?_) (fun w hw => ?_) (fun i hi => ?_) (fun i hi => eo _ _ (by omega) (by omega)) (st2_c _ _ (by omega)) (st2_c _ _ (by omega))
    · rw [eg]
      obtain ⟨m1, m2, m3, m4, m5⟩ := g1
      exact ⟨by rw [st2_o _ _ (by omega)]; exact m1, by rw [st2_o _ _ (by omega)]; exact m2, fun k hk => by rw [st2_o _ _ (by omega)]; exact m3 k hk, fun k hk => by rw [st2_o _ _ (by omega)]; exact m4 k hk, fun k hk => by rw [st2_o _ _ (by omega)]; exact m5 k hk⟩
    · rw [st2_o _ _ (by omega), eo _ _ (by omega) (by omega)]; exact s1
    · rw [st2_eq, e3]
    · rw [st2_o _ _ (by omega), eo _ _ (by omega) (by omega)]; exact s6
    · rw [st2_o _ _ (by omega), eo _ _ (by omega) (by omega)]; exact s7
    · rw [st2_o _ _ (by omega), eo _ _ (by omega) (by omega)]; exact s8
    · rw [st2_o _ _ (by omega), st2_o _ _ (by omega), eo _ _ (by omega) (by omega), eo _ _ (by omega) (by omega)]; exact g3 hp k hk
    · rw [ew w hw]; exact (g4 w hw).cgb (fun x _ _ => st2_o _ _ (by omega)) (fun k _ => ⟨st2_o _ _ (by omega), st2_o _ _ (by omega), st2_o _ _ (by omega)⟩)
    · exact (g5 i hi).cg (fun x _ _ => st2_c _ _ (by omega)) (by funext j; exact eo _ _ (by omega) (by omega)) (fun k _ => eo _ _ (by omega) (by omega))
  · rw [decide_eq_false h50, Bool.false_and]
    refine ⟨fun z => absurd z (by decide), fun _ => ?_⟩
    unfold fX12_nextEpoch
    rw [if_pos (by rw [s2, show M 146 3 = 50 by omega]; rfl)]
