/-- a line's first cells -/
def c0C (a : Mem) (i : Nat) (w t e x : Int32) : Mem := st2 (st2 (st2 (st2 (st2 (st2 (st2 (st2 (st2 a 269 65 x) 295 i w) 296 i t) 297 i e) 298 i x) 299 i 0) 300 i 0) 301 i 0) 302 i 0
theorem m_commits {a : Mem} {w i t e x o : Nat} {y : Int32} (hw : w < 4) (hi : i < 64) (ht : t < 7) (e54 : a 269 54 = nI i) (e29 : a 269 29 = nI e) (e86 : a 286 w = nI t) (e55 : a 269 55 = nI i) (e04 : a 304 t = nI o) (hs : fX12_stampFor (nI w) a = some (nI x, a)) {r : Mem} (hr : lX12_commits_102 (nI w) y FU 0 (c0C a i (nI w) (nI t) (nI e) (nI x)) = some r)
    (r9 : ∀ j, j ≠ 30 → r 269 j = (c0C a i (nI w) (nI t) (nI e) (nI x)) 269 j) (ro : ∀ m, m ≠ 269 → ¬ (281 ≤ m ∧ m ≤ 285) → ¬ (300 ≤ m ∧ m ≤ 303) → r m = (c0C a i (nI w) (nI t) (nI e) (nI x)) m) :
    fX12_commits (nI w) y a = some (st2 (st2 (st2 (st2 r 269 54 (nI (i + 1))) 290 w (nI x)) 269 55 (nI (i + 1))) 304 t (nI (o + 1))) := by
  unfold fX12_commits
  rw [hs, bq]
  dsimp only
  have k1 : ∀ v, (st2 a 269 65 v) 269 54 = nI i := fun v => by rw [st2_o _ _ (by omega)]; exact e54
  rw [k1, inb_T hi (by omega), gdT, nI_ck (by omega), inb_T hw (by omega), gdT, nI_ck (show w < 2147483648 by omega)]
  have k2 : ∀ v u, (st2 (st2 a 269 65 v) 295 i u) 269 54 = nI i := fun v u => by rw [st2_o _ _ (by omega)]; exact k1 v
  have k3 : ∀ v u, (st2 (st2 a 269 65 v) 295 i u) 286 w = nI t := fun v u => by rw [st2_o _ _ (by omega), st2_o _ _ (by omega)]; exact e86
  rw [k2, k3, inb_T hi (by omega), gdT, nI_ck (by omega), bq]
  generalize hs5 : st2 (st2 (st2 a 269 65 (nI x)) 295 i (nI w)) 296 i (nI t) = s5
  have q54 : s5 269 54 = nI i := by rw [← hs5, st2_o _ _ (by omega)]; exact k2 _ _
  have q29 : s5 269 29 = nI e := by rw [← hs5, st2_o _ _ (by omega), st2_o _ _ (by omega), st2_o _ _ (by omega)]; exact e29
  have q65 : s5 269 65 = nI x := by rw [← hs5, st2_o _ _ (by omega), st2_o _ _ (by omega), st2_eq]
  rw [q54, q29, inb_T hi (by omega), gdT, nI_ck (by omega)]
  rw [show (st2 s5 297 i (nI e)) 269 54 = nI i by rw [st2_o _ _ (by omega)]; exact q54, show (st2 s5 297 i (nI e)) 269 65 = nI x by rw [st2_o _ _ (by omega)]; exact q65, inb_T hi (by omega), gdT, nI_ck (by omega), bq]
  generalize hs8 : st2 (st2 s5 297 i (nI e)) 298 i (nI x) = s8
  have p54 : s8 269 54 = nI i := by rw [← hs8, st2_o _ _ (by omega), st2_o _ _ (by omega)]; exact q54
  rw [p54, inb_T hi (by omega), gdT, nI_ck (by omega)]
  rw [show (st2 s8 299 i 0) 269 54 = nI i by rw [st2_o _ _ (by omega)]; exact p54, inb_T hi (by omega), gdT, nI_ck (by omega)]
  rw [show (st2 (st2 s8 299 i 0) 300 i 0) 269 54 = nI i by rw [st2_o _ _ (by omega), st2_o _ _ (by omega)]; exact p54, inb_T hi (by omega), gdT, nI_ck (by omega), bq]
  rw [show (st2 (st2 (st2 s8 299 i 0) 300 i 0) 301 i 0) 269 54 = nI i by rw [st2_o _ _ (by omega), st2_o _ _ (by omega), st2_o _ _ (by omega)]; exact p54, inb_T hi (by omega), gdT, nI_ck (by omega)]
  have hc0 : st2 (st2 (st2 (st2 s8 299 i 0) 300 i 0) 301 i 0) 302 i 0 = c0C a i (nI w) (nI t) (nI e) (nI x) := by rw [← hs8, ← hs5]; rfl
  rw [hc0, hr, bq, gdT]
  have z54 : r 269 54 = nI i := by rw [r9 _ (by omega), ← hc0, st2_o _ _ (by omega), st2_o _ _ (by omega), st2_o _ _ (by omega), st2_o _ _ (by omega)]; exact p54
  have z65 : r 269 65 = nI x := by rw [r9 _ (by omega), ← hc0, st2_o _ _ (by omega), st2_o _ _ (by omega), st2_o _ _ (by omega), st2_o _ _ (by omega), ← hs8, st2_o _ _ (by omega), st2_o _ _ (by omega)]; exact q65
  have z55 : r 269 55 = nI i := by rw [r9 _ (by omega), ← hc0, st2_o _ _ (by omega), st2_o _ _ (by omega), st2_o _ _ (by omega), st2_o _ _ (by omega), ← hs8, st2_o _ _ (by omega), st2_o _ _ (by omega), ← hs5, st2_o _ _ (by omega), st2_o _ _ (by omega), st2_o _ _ (by omega)]; exact e55
  have z86 : r 286 w = nI t := by rw [ro 286 (by omega) (by omega) (by omega)]; unfold c0C; rw [st2_o _ _ (by omega), st2_o _ _ (by omega), st2_o _ _ (by omega), st2_o _ _ (by omega), st2_o _ _ (by omega), st2_o _ _ (by omega), st2_o _ _ (by omega), st2_o _ _ (by omega), st2_o _ _ (by omega)]; exact e86
  have z04 : r 304 t = nI o := by rw [ro 304 (by omega) (by omega) (by omega)]; unfold c0C; rw [st2_o _ _ (by omega), st2_o _ _ (by omega), st2_o _ _ (by omega), st2_o _ _ (by omega), st2_o _ _ (by omega), st2_o _ _ (by omega), st2_o _ _ (by omega), st2_o _ _ (by omega), st2_o _ _ (by omega)]; exact e04
  rw [z54, nI_1, show (st2 r 269 54 (nI (i + 1))) 269 65 = nI x by rw [st2_o _ _ (by omega)]; exact z65, show (st2 (st2 r 269 54 (nI (i + 1))) 290 w (nI x)) 269 55 = nI i by rw [st2_o _ _ (by omega), st2_o _ _ (by omega)]; exact z55, nI_1, bq]
  have y86 : (st2 (st2 (st2 r 269 54 (nI (i + 1))) 290 w (nI x)) 269 55 (nI (i + 1))) 286 w = nI t := by rw [st2_o _ _ (by omega), st2_o _ _ (by omega), st2_o _ _ (by omega)]; exact z86
  rw [y86, nI_ck (show t < 2147483648 by omega), inb_T ht (by omega), gdT, gdT, gdT]
  rw [show (st2 (st2 (st2 r 269 54 (nI (i + 1))) 290 w (nI x)) 269 55 (nI (i + 1))) 304 t = nI o by rw [st2_o _ _ (by omega), st2_o _ _ (by omega), st2_o _ _ (by omega)]; exact z04, nI_1]
/-- what the reference tells of the latest commit -/
def CAM (pl : Prop) (b : Mem) (N : F2) (d : Nat) : Prop := b 269 62 = nI (N 154 d) ∧ b 269 63 = vI (N 155 d) ∧ (pl → b 269 64 = vI (N 156 d)) ∧ b 269 65 = vI (N 157 d)
theorem nRef_1 {M M' : F2} (e12 : M' 146 12 = M 146 12 + 1) (eh : ∀ d, d < M 146 12 → M' 154 d = M 154 d) (h0 : M' 154 (M 146 12) = 2 ∨ M' 154 (M 146 12) = 3) : nRef M' = nRef M + 1 := by
  unfold nRef
  rw [e12]
  show sm (fun d => if M' 154 d = 2 ∨ M' 154 d = 3 then 1 else 0) (M 146 12) + (if M' 154 (M 146 12) = 2 ∨ M' 154 (M 146 12) = 3 then 1 else 0) = _
  rw [if_pos h0, sm_cg (g := fun d => if M 154 d = 2 ∨ M 154 d = 3 then 1 else 0) _ (fun d hd => by rw [eh d hd])]
theorem nHot_1 {M M' : F2} {k : Nat} (e12 : M' 146 12 = M 146 12 + 1) (eh : ∀ x d, x = 154 ∨ x = 155 → d < M 146 12 → M' x d = M x d) : nHot M' k = nHot M k + (if M' 154 (M 146 12) = 2 ∧ M' 155 (M 146 12) = k + 1 then 1 else 0) := by
  unfold nHot
  rw [e12]
  show sm (fun d => if M' 154 d = 2 ∧ M' 155 d = k + 1 then 1 else 0) (M 146 12) + _ = _
  rw [sm_cg (g := fun d => if M 154 d = 2 ∧ M 155 d = k + 1 then 1 else 0) _ (fun d hd => by rw [eh 154 d (by omega) hd, eh 155 d (by omega) hd])]
theorem op3 {sp w tv : Nat} {c : Nat → Nat} {B P : F2} : opM sp B c 3 (w + 1) tv P = cmM sp w P := by unfold opM; rw [if_neg (by omega), if_neg (by omega), if_neg (by omega), if_pos rfl, Nat.add_sub_cancel]
theorem stepsOf_w {b : Mem} {s sp wk n w : Nat} {c : Nat → Nat} {B M : F2} (hH : HD b s sp wk c n B) (hn : n < 2) (gB : okB B) (h0 : M (Wc w) 0 ≠ 0) (hB : M (Wc w) 0 ≤ B 0 0) (k1 : b 286 w = vI (M (Wc w) 0)) : b 286 w = nI (M (Wc w) 0 - 1) ∧ fX12_stepsOf (nI (M (Wc w) 0 - 1)) b = some (nI (B 1 (M (Wc w) 0 - 1)), b) := ⟨by rw [k1, vI_p (by omega)], hH.2.1.nt hn gB (by omega)⟩
set_option maxHeartbeats 4000000 in
/-- refused -/
theorem m_refD {pl : Prop} {b : Mem} {M B : F2} {s sp wk n nw w tv how m : Nat} {c : Nat → Nat} {yb : Int32} {ybc : Nat} (h : MN pl b M sp) (ok : okM sp nw (M 146 12) B M) (hw : w < 4) (hm : m < 10) (hh : how = 2 ∨ how = 3) (hyb : pl → yb = vI ybc) (ho : opM sp B c 3 (w + 1) tv (prM M) = rtM w (rfM w how m ybc (prM M))) :
    ∃ b', fX12_idle (nI w) (st2 (st2 (st2 (bfC b how m yb) 269 56 (nI (nRef M + 1))) 269 57 (nI (M 146 17 + M (Wc w) 2))) 305 m (nI (nHot M m + if how = 2 then 1 else 0))) = some b' ∧ MN pl b' (doM sp B c 3 (w + 1) tv M) sp ∧ frO b b' ∧ CAM pl b' (doM sp B c 3 (w + 1) tv M) (M 146 12) := by
  have l30 := ok.l30
  have p12 : prM M 146 12 = M 146 12 := prM_o (by omega)
  have p17 : prM M 146 17 = M 146 17 := prM_o (by omega)
  have pw2 : prM M (Wc w) 2 = M (Wc w) 2 := prM_o (by unfold Wc; omega)
  have p157 : prM M 157 (M 146 12) = 0 := by unfold prM; rw [up_e]
  obtain ⟨t0, t1, t2, t3, t4, t5, t6, t7, t8⟩ := tk_e (t := 0) (e := 0) (L := gW M (Wc w))
  have eo : ∀ x j, ¬ (x = 146 ∧ (j = 12 ∨ j = 17)) → ¬ (154 ≤ x ∧ x ≤ 157 ∧ j = M 146 12) → ¬ (Wc w ≤ x ∧ x < Wc w + 4) → doM sp B c 3 (w + 1) tv M x j = M x j := fun x j h1 h2 h3 => by
    rw [do_o (by omega), ho]; unfold rtM rfM; rw [pt_o h3, p12, up_o _ (by omega), up_o _ (by omega), up_o _ (by omega), up_o _ (by omega), prM_o (by omega)]
  have d12 : doM sp B c 3 (w + 1) tv M 146 12 = M 146 12 + 1 := by unfold doM nxM; rw [up_e, ho]; unfold rtM rfM; rw [pt_o (by unfold Wc; omega), up_o _ (by omega), up_o _ (by omega), up_o _ (by omega), up_o _ (by omega), p12]
  have d17 : doM sp B c 3 (w + 1) tv M 146 17 = M 146 17 + M (Wc w) 2 := by rw [do_o (by omega), ho]; unfold rtM rfM; rw [pt_o (by unfold Wc; omega), up_e, p17, pw2]
  have d154 : doM sp B c 3 (w + 1) tv M 154 (M 146 12) = how := by rw [do_o (by omega), ho]; unfold rtM rfM; rw [pt_o (by unfold Wc; omega), p12, up_o _ (by omega), up_o _ (by omega), up_o _ (by omega), up_e]
  have d155 : doM sp B c 3 (w + 1) tv M 155 (M 146 12) = m + 1 := by rw [do_o (by omega), ho]; unfold rtM rfM; rw [pt_o (by unfold Wc; omega), p12, up_o _ (by omega), up_o _ (by omega), up_e]
  have d156 : doM sp B c 3 (w + 1) tv M 156 (M 146 12) = ybc := by rw [do_o (by omega), ho]; unfold rtM rfM; rw [pt_o (by unfold Wc; omega), p12, up_o _ (by omega), up_e]
  have d157 : doM sp B c 3 (w + 1) tv M 157 (M 146 12) = 0 := by rw [do_o (by omega), ho]; unfold rtM rfM; rw [pt_o (by unfold Wc; omega), p12, up_o _ (by omega), up_o _ (by omega), up_o _ (by omega), up_o _ (by omega)]; exact p157
  have dg : gW (doM sp B c 3 (w + 1) tv M) (Wc w) = tkL 0 0 (gW M (Wc w)) := by
    unfold doM nxM; rw [gW_146, ho]; unfold rtM; rw [gW_pt (nz_tk gW_nf)]
    have : gW (rfM w how m ybc (prM M)) (Wc w) = gW M (Wc w) := by
      refine Eq.trans ?_ (gW_pr hw)
      funext f j
      by_cases hf : f < 4
      · rw [gW_e hf, gW_e hf]; unfold rfM; rw [up_o _ (by unfold Wc; omega), up_o _ (by unfold Wc; omega), up_o _ (by unfold Wc; omega), up_o _ (by unfold Wc; omega)]
      · exact (if_neg hf).trans (if_neg hf).symm
    rw [this]
  generalize doM sp B c 3 (w + 1) tv M = N at *
  obtain ⟨g1, ⟨s1, s2, s3, s4, s5, s6, s7, s8⟩, g3, g4, g5, g6, g7⟩ := h
  rw [m_idle hw]
  -- reading the end
  generalize hb' : st2 (st2 (st2 (st2 (st2 (st2 (bfC b how m yb) 269 56 (nI (nRef M + 1))) 269 57 (nI (M 146 17 + M (Wc w) 2))) 305 m (nI (nHot M m + if how = 2 then 1 else 0))) 286 w (-1)) 287 w 0) 288 w 0 = b'
  have z9 : ∀ j, j ≠ 56 → j ≠ 57 → b' 269 j = bfC b how m yb 269 j := fun j h1 h2 => by rw [← hb', st2_o _ _ (by omega), st2_o _ _ (by omega), st2_o _ _ (by omega), st2_o _ _ (by omega), st2_o _ _ (by omega), st2_o _ _ (by omega)]
  have z9o : ∀ j, j ≠ 56 → j ≠ 57 → ¬ (62 ≤ j ∧ j ≤ 65) → b' 269 j = b 269 j := fun j h1 h2 h3 => by rw [z9 j h1 h2, bfC_9 h3]
  have z56 : b' 269 56 = nI (nRef M + 1) := by rw [← hb', st2_o _ _ (by omega), st2_o _ _ (by omega), st2_o _ _ (by omega), st2_o _ _ (by omega), st2_o _ _ (by omega), st2_eq]
  have z57 : b' 269 57 = nI (M 146 17 + M (Wc w) 2) := by rw [← hb', st2_o _ _ (by omega), st2_o _ _ (by omega), st2_o _ _ (by omega), st2_o _ _ (by omega), st2_eq]
  have zo : ∀ x, x ≠ 269 → x ≠ 286 → x ≠ 287 → x ≠ 288 → x ≠ 305 → b' x = b x := fun x h1 h2 h3 h4 h5 => by rw [← hb', st2_c _ _ h4, st2_c _ _ h3, st2_c _ _ h2, st2_c _ _ h5, st2_c _ _ h1, st2_c _ _ h1, bfC_o h1]
  have z86 : b' 286 w = -1 := by rw [← hb', st2_o _ _ (by omega), st2_o _ _ (by omega), st2_eq]
  have z87 : b' 287 w = 0 := by rw [← hb', st2_o _ _ (by omega), st2_eq]
  have z88 : b' 288 w = 0 := by rw [← hb', st2_eq]
  have zv : ∀ x v, 286 ≤ x → x ≤ 288 → v ≠ w → b' x v = b x v := fun x v h1 h2 h3 => by rw [← hb', st2_o _ _ (by omega), st2_o _ _ (by omega), st2_o _ _ (by omega), st2_o _ _ (by omega), st2_o _ _ (by omega), st2_o _ _ (by omega), bfC_o (by omega)]
  have z05 : ∀ k, b' 305 k = if k = m then nI (nHot M m + if how = 2 then 1 else 0) else b 305 k := fun k => by
    rw [← hb', st2_o _ _ (by omega), st2_o _ _ (by omega), st2_o _ _ (by omega)]
    by_cases e : k = m
    · subst e; rw [st2_eq, if_pos rfl]
    · rw [st2_o _ _ (by omega), st2_o _ _ (by omega), st2_o _ _ (by omega), bfC_o (by omega), if_neg e]
  have z62 : b' 269 62 = nI how := by rw [z9 _ (by omega) (by omega)]; unfold bfC; rw [st2_o _ _ (by omega), st2_o _ _ (by omega), st2_eq]
  have z63 : b' 269 63 = nI m := by rw [z9 _ (by omega) (by omega)]; unfold bfC; rw [st2_o _ _ (by omega), st2_eq]
  have z64 : b' 269 64 = yb := by rw [z9 _ (by omega) (by omega)]; unfold bfC; rw [st2_eq]
  have z65 : b' 269 65 = -1 := by rw [z9 _ (by omega) (by omega)]; unfold bfC b0C; rw [st2_o _ _ (by omega), st2_o _ _ (by omega), st2_o _ _ (by omega), st2_eq]
  clear hb'
  have eg : gG N = gG M := by
    funext f k; unfold gG; split
    · exact eo _ _ (by omega) (by omega) (by unfold Wc; omega)
    · rfl
  have eN : ∀ j, j ≠ 12 → j ≠ 17 → N 146 j = M 146 j := fun j h1 h2 => eo _ _ (by omega) (by omega) (by unfold Wc; omega)
  have hh0 : ∀ x d, x = 154 ∨ x = 155 → d < M 146 12 → N x d = M x d := fun x d hx hd => eo x d (by omega) (by omega) (by unfold Wc; omega)
  refine ⟨b', rfl, ⟨?_, ⟨?_, ?_, ?_, ?_, ?_, ?_, ?_, ?_⟩, fun hp k hk => ?_, fun v hv => ?_, fun i hi => ?_, fun t ht => ?_, fun k hk => ?_⟩, ⟨fun j hj => z9o j (by omega) (by omega) (by omega), fun x hx => zo x (by omega) (by omega) (by omega) (by omega) (by omega)⟩, ⟨by rw [z62, d154], by rw [z63, d155]; rfl, fun hp => by rw [z64, d156]; exact hyb hp, by rw [z65, d157]; rfl⟩⟩
  · rw [eg]; exact g1.ot (z9o _ (by omega) (by omega) (by omega)) (z9o _ (by omega) (by omega) (by omega)) (fun x _ _ => zo x (by omega) (by omega) (by omega) (by omega) (by omega))
  · rw [z9o _ (by omega) (by omega) (by omega), eN _ (by omega) (by omega)]; exact s1
  · rw [z9o _ (by omega) (by omega) (by omega), eN _ (by omega) (by omega)]; exact s2
  · rw [z9o _ (by omega) (by omega) (by omega), eN _ (by omega) (by omega)]; exact s3
  · rw [z9o _ (by omega) (by omega) (by omega), eN _ (by omega) (by omega)]; exact s4
  · rw [z56, nRef_1 d12 (fun d hd => hh0 154 d (by omega) hd) (by omega)]
  · rw [z57, d17]
  · rw [z9o _ (by omega) (by omega) (by omega), eN _ (by omega) (by omega)]; exact s7
  · rw [z9o _ (by omega) (by omega) (by omega), eN _ (by omega) (by omega)]; exact s8
  · rw [zo 284 (by omega) (by omega) (by omega) (by omega) (by omega), zo 285 (by omega) (by omega) (by omega) (by omega) (by omega), eo _ _ (by omega) (by omega) (by unfold Wc; omega), eo _ _ (by omega) (by omega) (by unfold Wc; omega)]; exact g3 hp k hk
  · by_cases e : v = w
    · subst e
      rw [dg]
      exact (g4 v hv).idle t4 t5 t0 t2 t3 z86 z87 z88 (by rw [zo 290 (by omega) (by omega) (by omega) (by omega) (by omega)]) (by rw [zo 291 (by omega) (by omega) (by omega) (by omega) (by omega)])
    · have eg2 : gW N (Wc v) = gW M (Wc v) := by
        funext f k; unfold gW; split
        · exact eo _ _ (by unfold Wc; omega) (by unfold Wc; omega) (by unfold Wc; omega)
        · rfl
      rw [eg2]
      refine (g4 v hv).cgb (fun x h1 h2 => ?_) (fun k hk => ⟨by rw [zo 292 (by omega) (by omega) (by omega) (by omega) (by omega)], by rw [zo 293 (by omega) (by omega) (by omega) (by omega) (by omega)], by rw [zo 294 (by omega) (by omega) (by omega) (by omega) (by omega)]⟩)
      by_cases hx : x ≤ 288
      · exact zv x v h1 hx e
      · rw [zo x (by omega) (by omega) (by omega) (by omega) (by omega)]
  · rw [eN _ (by omega) (by omega)] at hi
    exact (g5 i hi).cg (fun x h1 h2 => zo x (by omega) (by omega) (by omega) (by omega) (by omega)) (by funext j; exact eo _ _ (by omega) (by omega) (by unfold Wc; omega)) (fun k _ => eo _ _ (by omega) (by omega) (by unfold Wc; omega))
  · rw [zo 304 (by omega) (by omega) (by omega) (by omega) (by omega), nOft_cg (eN _ (by omega) (by omega)) (fun i hi => eo _ _ (by omega) (by omega) (by unfold Wc; omega))]; exact g6 t ht
  · rw [z05, nHot_1 d12 hh0, d154, d155]
    by_cases e : k = m
    · subst e
      rw [if_pos rfl]
      congr 1
      by_cases h2 : how = 2
      · rw [if_pos h2, if_pos ⟨h2, rfl⟩]
      · rw [if_neg h2, if_neg (fun z => h2 z.1)]
    · rw [if_neg e, if_neg (fun z => e (by omega)), Nat.add_zero]; exact g7 k hk
