/-! ===== the reference's crash ===== -/
theorem f_ls {x y : Nat} {σ : Mem} (hx : x < 2147483648) (hy : y < 2147483648) : fX12_lesser (nI x) (nI y) σ = some (nI (min x y), σ) := by
  unfold fX12_lesser
  by_cases h : y ≤ x
  · rw [if_pos (by rw [le_nn hy hx]; exact h), Nat.min_eq_right h]
  · rw [if_neg (by rw [le_nn hy hx]; exact h), Nat.min_eq_left (by omega)]
theorem itr_cgX {X : Type} {f g : Nat → X → X} {x : X} : ∀ n, (∀ j, j < n → ∀ y, f j y = g j y) → itr f 0 n x = itr g 0 n x
  | 0, _ => rfl
  | n + 1, h => by rw [itr_S, itr_S, itr_cgX n (fun j hj => h j (by omega)), h n (by omega)]
theorem m_durable {pl : Prop} {b : Mem} {M B : F2} {sp nw D : Nat} (h : MN pl b M sp) (ok : okM sp nw D B M) : fX12_durable b = some (nI (dur 0 M), b) := by
  obtain ⟨⟨o1, o2, o3⟩, ⟨o4, o5⟩, -, -, o6, -⟩ := ok
  have hw : ∀ w, w < 4 → b 291 w = nI (M (Wc w) 5) := fun w hw => (h.2.2.2.1 w hw).2.2.2.2.1
  have h5 : ∀ w, w < 4 → M (Wc w) 5 < M 146 3 := fun w hw => (o6 w hw).2.2.2.1
  have s1 := h.2.1.1
  have h50 := h5 0 (by omega)
  unfold fX12_durable
  rw [hw 0 (by omega)]
  refine loop_k (fun f j (s : Nat) => lX12_durable_9 f (nI s) (nI j) b) nw (fun j s => s ≤ 50 ∧ s = itr (fun w m => min m (if (0 : Nat).testBit w = true then M 146 3 - 1 else M (Wc w) 5)) 0 j 50) (fun r => r = (nI (dur 0 M), b)) (j := 1) (by omega) (by omega) (s := M (Wc 0) 5) ⟨by omega, ?_⟩ ?_ ?_ ?_
  · rw [itr_S]
    show M (Wc 0) 5 = min 50 (if (0 : Nat).testBit 0 = true then M 146 3 - 1 else M (Wc 0) 5)
    rw [if_neg (by decide)]; omega
  · rintro r e1 rfl
    have e1' : lX12_durable_9 FU (nI (M (Wc 0) 5)) 1 b = some (nI (dur 0 M), b) := e1
    rw [e1', bq]
  · rintro f s ⟨h1, h2⟩
    refine ⟨(nI s, b), ?_, by rw [h2]; unfold dur; rw [o3]⟩
    show lX12_durable_9 _ _ _ _ = _
    rw [lX12_durable_9, if_pos (by rw [s1, o3, le_nn (by omega) (by omega)]; omega)]
  · rintro f j s hj ⟨h1, h2⟩
    have hj5 := h5 j (by omega)
    refine ⟨min s (M (Wc j) 5), ?_, by omega, ?_⟩
    · show lX12_durable_9 _ _ _ _ = lX12_durable_9 _ _ _ _
      rw [lX12_durable_9, if_neg (by rw [s1, o3, le_nn (by omega) (by omega)]; omega), inb_T (show j < 4 by omega) (by omega), gdT, nI_ck (by omega), hw j (by omega), f_ls (by omega) (by omega), bq]
      dsimp only
      rw [nI_1]
    · rw [itr_S, ← h2, if_neg (by rw [Nat.zero_testBit]; decide)]
theorem MN.L {pl : Prop} {b b' : Mem} {M : F2} {sp : Nat} (h : MN pl b M sp) (e : frL b b') : MN pl b' M sp := by
  obtain ⟨g1, ⟨s1, s2, s3, s4, s5, s6, s7, s8⟩, g3, g4, g5, g6, g7⟩ := h
  have e9 := e.1
  have eo : ∀ m, 281 ≤ m → m ≤ 305 → b' m = b m := fun m h1 h2 => e.2 m (by omega) (by omega) (by omega)
  refine ⟨g1.ot (e9 _ (by omega)) (e9 _ (by omega)) (fun c h1 h2 => eo c (by omega) (by omega)), ⟨by rw [e9 _ (by omega)]; exact s1, by rw [e9 _ (by omega)]; exact s2, by rw [e9 _ (by omega)]; exact s3, by rw [e9 _ (by omega)]; exact s4, by rw [e9 _ (by omega)]; exact s5, by rw [e9 _ (by omega)]; exact s6, by rw [e9 _ (by omega)]; exact s7, by rw [e9 _ (by omega)]; exact s8⟩, fun hp k hk => by rw [eo 284 (by omega) (by omega), eo 285 (by omega) (by omega)]; exact g3 hp k hk, fun w hw => (g4 w hw).cgb (fun c h1 h2 => by rw [eo c (by omega) (by omega)]) (fun k _ => ⟨by rw [eo 292 (by omega) (by omega)], by rw [eo 293 (by omega) (by omega)], by rw [eo 294 (by omega) (by omega)]⟩), fun i hi => (g5 i hi).cg (fun c h1 h2 => eo c (by omega) (by omega)) rfl (fun _ _ => rfl), fun t ht => by rw [eo 304 (by omega) (by omega)]; exact g6 t ht, fun k hk => by rw [eo 305 (by omega) (by omega)]; exact g7 k hk⟩
set_option maxHeartbeats 2000000 in
theorem m_layLeft {pl : Prop} {b : Mem} {M B : F2} {s sp wk n nw D : Nat} {c : Nat → Nat} (h : MN pl b M sp) (hH : HD b s sp wk c n B) (hs : s < 2) (ok : okM sp nw D B M) : ∃ b', fX12_layLeft b = some b' ∧ LV b' (rcv 0 c M) ∧ frL b b' := by
  have l30 := ok.l30
  have hnw := ok.1
  have ln := ok.2.2.2.2.2.1
  have d50 := dur50 0 M
  obtain ⟨m0, m1, m2, m3, m4⟩ := hH.1
  unfold fX12_layLeft
  rw [m_durable h ok, bq]
  dsimp only
  rw [show (2 : Int32) = nI 2 from rfl, m_ofStore hs m0 (by omega), bq]
  dsimp only
  rw [m3]
  have init : ∃ b1, lX12_layLeft_16 (nI (dur 0 M)) FU 0 (st2 b 269 66 (nI (thr c))) = some b1 ∧ LV b1 (G0 c) ∧ frL b b1 := by
    refine loop_k (fun f j (q : Mem) => lX12_layLeft_16 (nI (dur 0 M)) f (nI j) q) 10 (fun j q => q 269 66 = nI (thr c) ∧ (∀ k, k < j → q 306 k = nI (c k - 1) ∧ q 307 k = nI 0) ∧ frL b q) (fun q => LV q (G0 c) ∧ frL b q) (Nat.zero_le _) (by omega) (s := st2 b 269 66 (nI (thr c))) ⟨st2_eq _ _ _ _, fun k hk => absurd hk (by omega), ⟨fun j hj => st2_o _ _ (by omega), fun m m1 _ _ => st2_c _ _ m1⟩⟩ ?_ ?_ ?_
    · intro r e1 e2; exact ⟨r, e1, e2⟩
    · rintro f q ⟨x1, x2, x3⟩
      refine ⟨q, ?_, ⟨x1, fun k hk => (x2 k hk).1, fun k hk => (x2 k hk).2⟩, x3⟩
      show lX12_layLeft_16 _ _ _ _ = _
      rw [lX12_layLeft_16, if_pos (by decide)]
    · rintro f j q hj ⟨x1, x2, x3⟩
      refine ⟨st2 (st2 q 306 j (nI (c j - 1))) 307 j (nI 0), ?_, by rw [st2_o _ _ (by omega), st2_o _ _ (by omega)]; exact x1, fun k hk => ?_, x3.tr ⟨fun i hi => by rw [st2_o _ _ (by omega), st2_o _ _ (by omega)], fun m m1 m2 m3 => by rw [st2_c _ _ m3, st2_c _ _ m2]⟩⟩
      · show lX12_layLeft_16 _ _ _ _ = lX12_layLeft_16 _ _ _ _
        rw [lX12_layLeft_16, if_neg (by rw [li10, le_nn (by omega) (by omega)]; omega), show (3 : Int32) = nI 3 from rfl, nI_add, m_ofStore hs (by rw [x3.1 _ (by omega)]; exact m0) (by omega), bq]
        dsimp only
        rw [x3.2 275 (by omega) (by omega) (by omega), m4 j hj, inb_T hj (by omega), gdT, gdT, nI_ck (by omega), nI_1]
        rfl
      · by_cases e : k = j
        · subst e; rw [st2_o _ _ (by omega), st2_eq, st2_eq]; exact ⟨rfl, rfl⟩
        · rw [st2_o _ _ (by omega), st2_o _ _ (by omega), st2_o _ _ (by omega), st2_o _ _ (by omega)]; exact x2 k (by omega)
  obtain ⟨b1, l1, l2, l3⟩ := init
  rw [l1, bq]
  have h1 := h.L l3
  have e54 := h1.2.1.2.2.1
  have hu : unq M (dur 0 M) := ok.unq
  obtain ⟨r, n1, n2⟩ := m_nextSafe (had := 0) (d := dur 0 M) h1.2.2.2.2.1 ln hnw.2.1 l30 e54 d50 (by omega) hu
  rw [v0, n1, bq]
  dsimp only
  have hsm : sm (fun i => if cnd M (dur 0 M) 0 i = true then 1 else 0) (M 146 11) ≤ 30 := by
    have := sm_bd (f := fun i => if cnd M (dur 0 M) 0 i = true then 1 else 0) (x := 1) (M 146 11) (fun i _ => by show (if cnd M (dur 0 M) 0 i = true then 1 else 0) ≤ 1; split <;> omega)
    omega
  obtain ⟨b', q', k1, k2, k3, k4⟩ := m_lay (c := c) ln hnw.2.1 l30 d50 hu 30 FU 0 r b1 (G0 c) (by decide) (by omega) hsm n2 h1.2.2.2.2.1 e54 l2 (fun k hk => Or.inl ⟨fun i hi => absurd (cnd_p.mpr ⟨hi.2.1, Or.inl rfl⟩) hi.2.2, rfl, rfl⟩)
  rw [k1, bq]
  refine ⟨b', rfl, k2.cg (k4.uq (rcv_top (fun i hi => by have := (ln i hi).1; omega)) (fun i j hi hj => hu i j hi.1 hj.1 hi.2 hj.2)), l3.tr k3⟩
theorem m_loses {pl : Prop} {b : Mem} {M B : F2} {sp nw D : Nat} (h : MN pl b M sp) (ok : okM sp nw D B M) : fX12_loses b = some (nI (lst M), b) := by
  have l30 := ok.l30
  have hnw := ok.1
  have ln := ok.2.2.2.2.2.1
  have d50 := dur50 0 M
  have e54 := h.2.1.2.2.1
  unfold fX12_loses
  rw [m_durable h ok, bq]
  dsimp only
  refine loop_k (fun f j (s : Nat) => lX12_loses_9 (nI (dur 0 M)) f (nI s) (nI j) b) (M 146 11) (fun j s => s = sm (fun i => if M (174 + 2 * i) 9 = 0 ∧ srv 0 (dur 0 M) M i = false then 1 else 0) j) (fun r => r = (nI (lst M), b)) (Nat.zero_le _) (by omega) (s := 0) rfl ?_ ?_ ?_
  · rintro r e1 rfl
    have e1' : lX12_loses_9 (nI (dur 0 M)) FU 0 0 b = some (nI (lst M), b) := e1
    rw [e1', bq]
  · rintro f s rfl
    refine ⟨_, ?_, rfl⟩
    show lX12_loses_9 _ _ _ _ _ = _
    rw [lX12_loses_9, if_pos (by rw [e54, le_nn (by omega) (by omega)]; omega)]
    rfl
  · rintro f j s hj hs
    have hL := h.2.2.2.2.1 j hj
    have hsf := m_isSafe (d := dur 0 M) hL (ln j hj) hnw.2.1 (by omega) d50
    have l0 := (ln j hj).1
    have a1 : ((if b 295 j = (-1) then (some (false, b)) else ((fX12_isSafe (nI j) (nI (dur 0 M)) b).bind fun q12 => if q12.1 = true then (some (false, q12.2)) else (some (true, q12.2)))) : Option (Bool × Mem)) = some (decide (M (174 + 2 * j) 9 = 0 ∧ srv 0 (dur 0 M) M j = false), b) := by
      rw [hL.1, hsf, bq]
      unfold lcW
      by_cases z : M (174 + 2 * j) 9 = 0
      · rw [if_pos z, vI_s, if_neg (nI_m1 (by omega))]
        cases hv : srv 0 (dur 0 M) M j
        · simp [z]
        · simp [z]
      · rw [if_neg z, if_pos (show vI 0 = -1 from rfl)]; simp [z]
    refine ⟨s + (if M (174 + 2 * j) 9 = 0 ∧ srv 0 (dur 0 M) M j = false then 1 else 0), ?_, by rw [hs]; rfl⟩
    show lX12_loses_9 _ _ _ _ _ = lX12_loses_9 _ _ _ _ _
    rw [lX12_loses_9, if_neg (by rw [e54, le_nn (by omega) (by omega)]; omega), inb_T (show j < 64 by omega) (by omega), gdT, nI_ck (by omega), a1, bq, nI_1]
    dsimp only
    by_cases z : M (174 + 2 * j) 9 = 0 ∧ srv 0 (dur 0 M) M j = false
    · rw [decide_eq_true z, if_pos z, b2T, nI_add]
    · rw [decide_eq_false z, if_neg z, b2F, nI_add]
/-- a run's rows that recovery reads -/
theorem rcv_cg {f g : Nat} {c : Nat → Nat} {M X : F2} (e2 : X 146 2 = M 146 2) (e11 : X 146 11 = M 146 11) (ed : dur g X = dur f M) (e0 : ∀ i, i < M 146 11 → X (174 + 2 * i) 0 = M (174 + 2 * i) 0 ∧ X (174 + 2 * i) 3 = M (174 + 2 * i) 3 ∧ X (174 + 2 * i) 6 = M (174 + 2 * i) 6 ∧ ∀ k, k < 10 → X (175 + 2 * i) k = M (175 + 2 * i) k) (es : ∀ i, i < M 146 11 → srv g (dur f M) X i = srv f (dur f M) M i) : rcv g c X = rcv f c M := by
  unfold rcv
  rw [e2, e11, ed]
  refine itr_cgX _ (fun w _ q => itr_cgX _ (fun i hi p => ?_))
  obtain ⟨h0, h3, h6, hv⟩ := e0 i hi
  unfold rcL
  rw [h0, es i hi, itr_cgX (f := rdS X i) (g := rdS M i) 10 (fun k hk y => by unfold rdS; rw [h3, h6, hv k hk])]
theorem dur_pr {f : Nat} {M : F2} (h4 : M 146 2 ≤ 4) : dur f (prM M) = dur f M := dur_cg (prM_o (by omega)) (prM_o (by omega)) h4 (fun w hw => prM_o (by unfold Wc; omega))
theorem srv_pr {f d i : Nat} {M : F2} : srv f d (prM M) i = srv f d M i := srv_cg (by funext j; exact prM_o (by omega))
theorem srv_gn {d i n : Nat} {M : F2} (hi : i < n) : srv 0 d (itr (gnS d) 0 n M) i = srv 0 d M i := by
  have e9 := gnI_9 (d := d) (i := i) (M := M) n
  rw [if_pos hi] at e9
  have eo : ∀ j, j ≠ 9 → itr (gnS d) 0 n M (174 + 2 * i) j = M (174 + 2 * i) j := fun j hj => gnI_o (by omega) _
  cases hv : srv 0 d M i
  · rw [hv, if_neg (by decide)] at e9
    unfold srv; rw [e9, decide_eq_false (by omega), Bool.false_and, Bool.false_and]
  · rw [hv, if_pos rfl] at e9
    have z9 := (srv9 hv).1
    unfold srv at hv ⊢
    rw [e9, eo 8 (by omega), eo 0 (by omega), eo 2 (by omega)]
    rw [z9] at hv
    exact hv
theorem rsI_17 {d : Nat} {M : F2} : ∀ n, n ≤ 4 → itr (rsS d) 0 n M 146 17 = M 146 17 + sm (fun w => M (Wc w) 2) n
  | 0, _ => rfl
  | n + 1, h => by
    have ih := rsI_17 (d := d) (M := M) n (by omega)
    have iw := rsI_w (d := d) (w := n) (M := M) (by omega) n (by omega)
    rw [if_neg (by omega)] at iw
    have i2 : itr (rsS d) 0 n M (Wc n) 2 = M (Wc n) 2 := congrFun (congrFun iw 0) 2
    rw [itr_S]
    generalize itr (rsS d) 0 n M = X at *
    unfold rsS
    rw [pt_o (by unfold Wc; omega), up_e, ih, i2]
    exact Nat.add_assoc _ _ _
theorem cr_17 {sp nw D : Nat} {B M : F2} {c : Nat → Nat} (ok : okM sp nw D B M) : crM c M 146 17 = M 146 17 + sm (fun w => M (Wc w) 2) nw := by
  obtain ⟨⟨o1, o2, o3⟩, -⟩ := ok
  unfold crM
  rw [o3, up_o _ (by omega), rsI_17 _ (by omega)]
  generalize dur 0 M = d
  have g0 : ∀ x j, ¬ (174 ≤ x ∧ x % 2 = 0 ∧ j = 9) → itr (gnS d) 0 (M 146 11) (up (up M 146 18 (M 146 18 + 1)) 146 19 (M 146 19 + lst M)) x j = (up (up M 146 18 (M 146 18 + 1)) 146 19 (M 146 19 + lst M)) x j := fun x j h => gnI_o h _
  rw [upr_o _ (by omega), upr_o _ (by omega), upr_o _ (by omega), g0 _ _ (by omega), up_o _ (by omega), up_o _ (by omega)]
  congr 1
  refine sm_cg _ (fun w hw => ?_)
  rw [upr_o _ (by unfold Wc; omega), upr_o _ (by unfold Wc; omega), upr_o _ (by unfold Wc; omega), g0 _ _ (by unfold Wc; omega), up_o _ (by unfold Wc; omega), up_o _ (by unfold Wc; omega)]
/-- the three loops of a crash -/
theorem m_cr42 {b : Mem} {q : F2} {x : Int32} (hq : LV b q) : ∃ b', lX12_crash_42 x FU 0 b = some b' ∧ (∀ k, k < 10 → b' 281 k = nI (q 0 k - 1) ∧ b' 282 k = nI (q 1 k) ∧ b' 283 k = nI 0) ∧ ∀ m, ¬ (281 ≤ m ∧ m ≤ 283) → b' m = b m := by
  refine loop_k (fun f j (s : Mem) => lX12_crash_42 x f (nI j) s) 10 (fun j s => (∀ k, k < j → s 281 k = nI (q 0 k - 1) ∧ s 282 k = nI (q 1 k) ∧ s 283 k = nI 0) ∧ ∀ m, ¬ (281 ≤ m ∧ m ≤ 283) → s m = b m) (fun s => (∀ k, k < 10 → s 281 k = nI (q 0 k - 1) ∧ s 282 k = nI (q 1 k) ∧ s 283 k = nI 0) ∧ ∀ m, ¬ (281 ≤ m ∧ m ≤ 283) → s m = b m) (Nat.zero_le _) (by omega) (s := b) ⟨fun k hk => absurd hk (by omega), fun _ _ => rfl⟩ ?_ ?_ ?_
  · intro r e1 e2; exact ⟨r, e1, e2⟩
  · intro f s h
    refine ⟨s, ?_, h⟩
    show lX12_crash_42 _ _ _ _ = _
    rw [lX12_crash_42, if_pos (by decide)]
  · rintro f k s hk ⟨h1, h2⟩
    refine ⟨st2 (st2 (st2 s 281 k (nI (q 0 k - 1))) 282 k (nI (q 1 k))) 283 k (nI 0), ?_, fun j hj => ?_, fun m hm => by rw [st2_c _ _ (by omega), st2_c _ _ (by omega), st2_c _ _ (by omega)]; exact h2 m hm⟩
    · show lX12_crash_42 _ _ _ _ = lX12_crash_42 _ _ _ _
      rw [lX12_crash_42, if_neg (by rw [li10, le_nn (by omega) (by omega)]; omega), inb_T hk (by omega), nI_ck (by omega)]
      simp only [gdT]
      rw [bq, st2_o _ _ (show ¬ (307 = 281 ∧ k = k) by omega), h2 306 (by omega), h2 307 (by omega), hq.2.1 k hk, hq.2.2 k hk, nI_1]
      rfl
    · by_cases e : j = k
      · subst e; rw [st2_o _ _ (by omega), st2_o _ _ (by omega), st2_eq, st2_o _ _ (by omega), st2_eq, st2_eq]; exact ⟨rfl, rfl, rfl⟩
      · rw [st2_o _ _ (by omega), st2_o _ _ (by omega), st2_o _ _ (by omega), st2_o _ _ (by omega), st2_o _ _ (by omega), st2_o _ _ (by omega), st2_o _ _ (by omega), st2_o _ _ (by omega), st2_o _ _ (by omega)]; exact h1 j (by omega)
theorem m_cr87 {b : Mem} {M B : F2} {nw d : Nat} (h : ∀ i, i < M 146 11 → MLn b M i) (ln : ∀ i, i < M 146 11 → lnO nw B M i) (hn : nw ≤ 4) (h30 : M 146 11 ≤ 30) (e54 : b 269 54 = nI (M 146 11)) (hd : d ≤ 50) : ∃ b', lX12_crash_87 (nI d) FU 0 b = some b' ∧ (∀ i, i < M 146 11 → b' 295 i = if srv 0 d M i = true then b 295 i else -1) ∧ ∀ m, m ≠ 295 → b' m = b m := by
  refine loop_k (fun f j (s : Mem) => lX12_crash_87 (nI d) f (nI j) s) (M 146 11) (fun j s => (∀ i, i < j → s 295 i = if srv 0 d M i = true then b 295 i else -1) ∧ (∀ i, j ≤ i → s 295 i = b 295 i) ∧ ∀ m, m ≠ 295 → s m = b m) (fun s => (∀ i, i < M 146 11 → s 295 i = if srv 0 d M i = true then b 295 i else -1) ∧ ∀ m, m ≠ 295 → s m = b m) (Nat.zero_le _) (by omega) (s := b) ⟨fun k hk => absurd hk (by omega), fun _ _ => rfl, fun _ _ => rfl⟩ ?_ ?_ ?_
  · intro r e1 e2; exact ⟨r, e1, e2⟩
  · rintro f s ⟨h1, h2, h3⟩
    refine ⟨s, ?_, h1, h3⟩
    show lX12_crash_87 _ _ _ _ = _
    rw [lX12_crash_87, if_pos (by rw [h3 269 (by omega), e54, le_nn (by omega) (by omega)]; omega)]
  · rintro f i s hi ⟨h1, h2, h3⟩
    have hL : MLn s M i := (h i hi).cgp (fun c c1 c2 => by
      by_cases e : c = 295
      · rw [e]; exact h2 i (by omega)
      · rw [h3 c e]) (fun k _ => by rw [h3 303 (by omega)]) (fun _ => rfl) (fun _ _ => rfl)
    have hsf := m_isSafe (d := d) hL (ln i hi) hn (by omega) hd
    refine ⟨st2 s 295 i (if srv 0 d M i = true then b 295 i else -1), ?_, fun j hj => ?_, fun j hj => by rw [st2_o _ _ (by omega)]; exact h2 j (by omega), fun m hm => by rw [st2_c _ _ hm]; exact h3 m hm⟩
    · show lX12_crash_87 _ _ _ _ = lX12_crash_87 _ _ _ _
      rw [lX12_crash_87, if_neg (by rw [h3 269 (by omega), e54, le_nn (by omega) (by omega)]; omega), hsf, bq]
      dsimp only
      rw [inb_T (show i < 64 by omega) (by omega), nI_ck (by omega)]
      simp only [gdT]
      by_cases z : srv 0 d M i = true
      · rw [if_pos z, if_pos z, bq, h2 i (by omega), nI_1]
      · rw [if_neg z, if_neg z, bq, nI_1]
    · by_cases e : j = i
      · subst e; rw [st2_eq]
      · rw [st2_o _ _ (by omega)]; exact h1 j (by omega)
theorem m_cr128 {b : Mem} {M : F2} {nw d x : Nat} (hn : nw ≤ 4) (e26 : b 269 26 = nI nw) (e57 : b 269 57 = nI x) (e87 : ∀ w, w < 4 → b 287 w = nI (M (Wc w) 2)) : ∃ b', lX12_crash_128 (nI d) FU 0 b = some b' ∧ b' 269 57 = nI (x + sm (fun w => M (Wc w) 2) nw) ∧ (∀ w, w < nw → b' 286 w = -1 ∧ b' 287 w = 0 ∧ b' 288 w = 0 ∧ b' 290 w = 0 ∧ b' 291 w = nI d) ∧ (∀ w, nw ≤ w → ∀ m, 286 ≤ m → m ≤ 291 → b' m w = b m w) ∧ (∀ j, j ≠ 57 → b' 269 j = b 269 j) ∧ b' 289 = b 289 ∧ ∀ m, m ≠ 269 → ¬ (286 ≤ m ∧ m ≤ 291) → b' m = b m := by
  refine loop_k (fun f j (s : Mem) => lX12_crash_128 (nI d) f (nI j) s) nw
    (fun n b' => b' 269 57 = nI (x + sm (fun w => M (Wc w) 2) n) ∧ (∀ w, w < n → b' 286 w = -1 ∧ b' 287 w = 0 ∧ b' 288 w = 0 ∧ b' 290 w = 0 ∧ b' 291 w = nI d) ∧ (∀ w, n ≤ w → ∀ m, 286 ≤ m → m ≤ 291 → b' m w = b m w) ∧ (∀ j, j ≠ 57 → b' 269 j = b 269 j) ∧ b' 289 = b 289 ∧ ∀ m, m ≠ 269 → ¬ (286 ≤ m ∧ m ≤ 291) → b' m = b m)
    (fun b' => b' 269 57 = nI (x + sm (fun w => M (Wc w) 2) nw) ∧ (∀ w, w < nw → b' 286 w = -1 ∧ b' 287 w = 0 ∧ b' 288 w = 0 ∧ b' 290 w = 0 ∧ b' 291 w = nI d) ∧ (∀ w, nw ≤ w → ∀ m, 286 ≤ m → m ≤ 291 → b' m w = b m w) ∧ (∀ j, j ≠ 57 → b' 269 j = b 269 j) ∧ b' 289 = b 289 ∧ ∀ m, m ≠ 269 → ¬ (286 ≤ m ∧ m ≤ 291) → b' m = b m)
    (Nat.zero_le _) (by omega) (s := b) ⟨e57, fun w hw => absurd hw (by omega), fun _ _ _ _ _ => rfl, fun _ _ => rfl, rfl, fun _ _ _ => rfl⟩ ?_ ?_ ?_
  · intro r e1 e2; exact ⟨r, e1, e2⟩
  · intro f s h
    refine ⟨s, ?_, h⟩
    show lX12_crash_128 _ _ _ _ = _
    rw [lX12_crash_128, if_pos (by rw [h.2.2.2.1 26 (by omega), e26, le_nn (by omega) (by omega)]; omega)]
  · rintro f w s hw ⟨h1, h2, h3, h4, h5, h6⟩
    refine ⟨st2 (st2 (st2 (st2 (st2 (st2 s 269 57 (nI (x + sm (fun w => M (Wc w) 2) (w + 1)))) 286 w (-1)) 287 w 0) 288 w 0) 290 w 0) 291 w (nI d), ?_, ?_, fun v hv => ?_, fun v hv m m1 m2 => ?_, fun j hj => ?_, ?_, fun m m1 m2 => ?_⟩
    · show lX12_crash_128 _ _ _ _ = lX12_crash_128 _ _ _ _
      rw [lX12_crash_128, if_neg (by rw [h4 26 (by omega), e26, le_nn (by omega) (by omega)]; omega), inb_T (show w < 4 by omega) (by omega), nI_ck (by omega)]
      simp only [gdT]
      rw [m_idle (by omega), bq, h1, h3 w (by omega) 287 (by omega) (by omega), e87 w (by omega), nI_add, nI_1, Nat.add_assoc]
      rfl
    · rw [st2_o _ _ (by omega), st2_o _ _ (by omega), st2_o _ _ (by omega), st2_o _ _ (by omega), st2_o _ _ (by omega), st2_eq]
    · by_cases e : v = w
      · subst e
        refine ⟨?_, ?_, ?_, ?_, ?_⟩ <;> simp (disch := omega) only [st2_o, st2_eq]
      · obtain ⟨p1, p2, p3, p4, p5⟩ := h2 v (by omega)
        refine ⟨?_, ?_, ?_, ?_, ?_⟩ <;> (simp (disch := omega) only [st2_o]; assumption)
    · rw [← h3 v (by omega) m m1 m2]
      simp (disch := omega) only [st2_o]
    · rw [← h4 j hj]
      simp (disch := omega) only [st2_o]
    · rw [← h5, st2_c _ _ (by omega), st2_c _ _ (by omega), st2_c _ _ (by omega), st2_c _ _ (by omega), st2_c _ _ (by omega), st2_c _ _ (by omega)]
    · rw [← h6 m m1 m2, st2_c _ _ (by omega), st2_c _ _ (by omega), st2_c _ _ (by omega), st2_c _ _ (by omega), st2_c _ _ (by omega), st2_c _ _ (by omega)]
set_option maxHeartbeats 4000000 in
theorem m_crashD {pl : Prop} {b : Mem} {M B : F2} {s sp wk n nw wv tv : Nat} {c : Nat → Nat} (h : MN pl b M sp) (hH : HD b s sp wk c n B) (hs : s < 2) (ok : okM sp nw (M 146 12) B M) : ∃ b', fX12_crash b = some (true, b') ∧ MN pl b' (doM sp B c 1 wv tv M) sp ∧ frO b b' ∧ (∀ k, k < 10 → doM sp B c 1 wv tv M 147 k = rcv 0 c M 0 k) := by
  have l30 := ok.l30
  have hnw := ok.1
  have ln := ok.2.2.2.2.2.1
  have d50 := dur50 0 M
  have okp := ok.pr
  obtain ⟨b1, e1, e2, e3⟩ := m_layLeft h hH hs ok
  have h1 := h.L e3
  unfold fX12_crash
  rw [m_durable h ok, bq]
  dsimp only
  rw [e1, bq, m_loses h1 ok, bq]
  dsimp only
  rw [bq]
  obtain ⟨g1, ⟨s1, s2, s3, s4, s5, s6, s7, s8⟩, g3, g4, g5, g6, g7⟩ := h1
  rw [s8, nI_add, show (st2 b1 269 59 (nI (M 146 19 + lst M))) 269 58 = nI (M 146 18) by rw [st2_o _ _ (by omega)]; exact s7, nI_1]
  rw [show (st2 (st2 b1 269 59 (nI (M 146 19 + lst M))) 269 58 (nI (M 146 18 + 1))) 269 66 = nI (thr (rcv 0 c M 0)) by rw [st2_o _ _ (by omega), st2_o _ _ (by omega)]; exact e2.1]
  generalize hb2 : st2 (st2 (st2 b1 269 59 (nI (M 146 19 + lst M))) 269 58 (nI (M 146 18 + 1))) 269 30 (nI (thr (rcv 0 c M 0))) = b2
  have z9 : ∀ j, j ≠ 59 → j ≠ 58 → j ≠ 30 → b2 269 j = b1 269 j := fun j j1 j2 j3 => by rw [← hb2, st2_o _ _ (by omega), st2_o _ _ (by omega), st2_o _ _ (by omega)]
  have z59 : b2 269 59 = nI (M 146 19 + lst M) := by rw [← hb2, st2_o _ _ (by omega), st2_o _ _ (by omega), st2_eq]
  have z58 : b2 269 58 = nI (M 146 18 + 1) := by rw [← hb2, st2_o _ _ (by omega), st2_eq]
  have z30 : b2 269 30 = nI (thr (rcv 0 c M 0)) := by rw [← hb2, st2_eq]
  have zo : ∀ m, m ≠ 269 → b2 m = b1 m := fun m hm => by rw [← hb2, st2_c _ _ hm, st2_c _ _ hm, st2_c _ _ hm]
  clear hb2
  have hq2 : LV b2 (rcv 0 c M) := ⟨by rw [z9 _ (by omega) (by omega) (by omega)]; exact e2.1, fun k hk => by rw [zo 306 (by omega)]; exact e2.2.1 k hk, fun k hk => by rw [zo 307 (by omega)]; exact e2.2.2 k hk⟩
  obtain ⟨b3, y1, y2, y3⟩ := m_cr42 (x := nI (dur 0 M)) hq2
  rw [y1, bq]
  have g5b : ∀ i, i < M 146 11 → MLn b3 M i := fun i hi => (g5 i hi).cg (fun z h1 h2 => by rw [y3 z (by omega), zo z (by omega)]) rfl (fun _ _ => rfl)
  obtain ⟨b4, x1, x2, x3⟩ := m_cr87 (d := dur 0 M) g5b ln hnw.2.1 l30 (by rw [y3 269 (by omega), z9 _ (by omega) (by omega) (by omega)]; exact s3) d50
  rw [x1, bq]
  have k2 : ∀ w, w < 4 → b1 287 w = nI (M (Wc w) 2) := fun w hw => (g4 w hw).2.1
  obtain ⟨b5, w1, w2, w3, w4, w5, w6, w7⟩ := m_cr128 (b := b4) (M := M) (nw := nw) (d := dur 0 M) (x := M 146 17) hnw.2.1 (by rw [x3 269 (by omega), y3 269 (by omega), z9 _ (by omega) (by omega) (by omega), s1, hnw.2.2]) (by rw [x3 269 (by omega), y3 269 (by omega), z9 _ (by omega) (by omega) (by omega)]; exact s6) (fun w hw => by rw [x3 287 (by omega), y3 287 (by omega), zo 287 (by omega)]; exact k2 w hw)
  rw [w1, bq, nI_1]
  -- the engine's side
  have hop : opM sp B c 1 wv tv (prM M) = crM c (prM M) := by unfold opM; rw [if_neg (by omega), if_pos rfl]
  have dN : ∀ x j, ¬ (x = 146 ∧ j = 12) → doM sp B c 1 wv tv M x j = crM c (prM M) x j := fun x j hh => by rw [do_o hh, hop]
  have d12 : doM sp B c 1 wv tv M 146 12 = crM c (prM M) 146 12 + 1 := by unfold doM nxM; rw [up_e, hop]
  have dg : ∀ v, gW (doM sp B c 1 wv tv M) (Wc v) = gW (crM c (prM M)) (Wc v) := fun v => by unfold doM nxM; rw [gW_146, hop]
  have p : ∀ j, prM M 146 j = M 146 j := fun j => prM_o (by omega)
  have c17 := cr_17 (c := c) okp
  obtain ⟨c3, c0, c18, c19, cr, ch, cw, cl⟩ := cr_e (c := c) okp
  have edp : dur 0 (prM M) = dur 0 M := dur_pr (by omega)
  have elp : lst (prM M) = lst M := lst_cg (p 2) (p 3) (p 11) (by omega) l30 (fun x j _ _ => prM_o (by omega))
  rw [edp] at c3 cr cw cl
  rw [elp] at c19
  rw [p 11] at cr cl
  have erc : rcv 0 c (itr (gnS (dur 0 M)) 0 (M 146 11) (prM M)) = rcv 0 c M := by
    have ed : dur 0 (itr (gnS (dur 0 M)) 0 (M 146 11) (prM M)) = dur 0 M := by
      rw [← edp]
      rw [edp]
      refine (dur_cg (M := prM M) (gnI_o (by omega) _) (gnI_o (by omega) _) (by rw [p 2]; omega) (fun w hw => gnI_o (by unfold Wc; omega) _)).trans edp
    refine rcv_cg ((gnI_o (by omega) _).trans (p 2)) ((gnI_o (by omega) _).trans (p 11)) ed (fun i hi => ⟨(gnI_o (by omega) _).trans (prM_o (by omega)), (gnI_o (by omega) _).trans (prM_o (by omega)), (gnI_o (by omega) _).trans (prM_o (by omega)), fun k hk => (gnI_o (by omega) _).trans (prM_o (by omega))⟩) (fun i hi => ?_)
    rw [srv_gn hi, srv_pr]
  rw [erc] at cr
  have clo : ∀ i j, j ≠ 9 → crM c (prM M) (174 + 2 * i) j = M (174 + 2 * i) j := fun i j hj => by rw [cl _ _ (by omega), gnI_o (by omega), prM_o (by omega)]
  have cl9 : ∀ i, i < M 146 11 → crM c (prM M) (174 + 2 * i) 9 = if srv 0 (dur 0 M) M i = true then 0 else 1 := fun i hi => by rw [cl _ _ (by omega), gnI_9, if_pos hi, srv_pr]
  have cl5 : ∀ i j, crM c (prM M) (175 + 2 * i) j = M (175 + 2 * i) j := fun i j => by rw [cl _ _ (by omega), gnI_o (by omega), prM_o (by omega)]
  generalize doM sp B c 1 wv tv M = N at *
  generalize crM c (prM M) = R at *
  have N12 : N 146 12 = M 146 12 + 1 := by rw [d12, c0 12 (by omega) (by omega) (by omega) (by omega), p 12]
  have NM : ∀ j, j ≠ 3 → j ≠ 12 → j ≠ 17 → j ≠ 18 → j ≠ 19 → N 146 j = M 146 j := fun j h1 h2 h3 h4 h5 => by rw [dN _ _ (by omega), c0 j h1 h3 h4 h5, p j]
  have Nh : ∀ z d, z = 154 ∨ z = 155 → d < M 146 12 → N z d = M z d := fun z d h1 h2 => by rw [dN _ _ (by omega), ch z d (by omega) (by omega), prM_o (by omega)]
  have N154 : N 154 (M 146 12) = 0 := by rw [dN _ _ (by omega), ch _ _ (by omega) (by omega)]; exact prM_154
  have NK : ∀ k, k < 10 → N 147 k = rcv 0 c M 0 k ∧ N 148 k = rcv 0 c M 1 k ∧ N 149 k = 0 := fun k hk => by rw [dN _ _ (by omega), dN _ _ (by omega), dN _ _ (by omega)]; exact cr k hk
  have e17 : N 146 17 = M 146 17 + sm (fun w => M (Wc w) 2) nw := by rw [dN _ _ (by omega), c17, p 17, sm_cg (g := fun w => M (Wc w) 2) _ (fun w hw => prM_o (by unfold Wc; omega))]
  -- reading the end
  have t9 : ∀ j, j ≠ 29 → j ≠ 57 → (st2 b5 269 29 (nI (dur 0 M + 1))) 269 j = b2 269 j := fun j j1 j2 => by rw [st2_o _ _ (by omega), w5 j j2, x3 269 (by omega), y3 269 (by omega)]
  have to : ∀ m, m ≠ 269 → ¬ (281 ≤ m ∧ m ≤ 283) → ¬ (286 ≤ m ∧ m ≤ 291) → m ≠ 295 → (st2 b5 269 29 (nI (dur 0 M + 1))) m = b1 m := fun m m1 m2 m3 m4 => by rw [st2_c _ _ m1, w7 m m1 m3, x3 m m4, y3 m m2, zo m m1]
  refine ⟨_, rfl, ⟨?_, ⟨?_, ?_, ?_, ?_, ?_, ?_, ?_, ?_⟩, fun hpl k hk => ?_, fun v hv => ?_, fun i hi => ?_, fun t ht => ?_, fun k hk => ?_⟩, ⟨fun j hj => ?_, fun m hm => ?_⟩, fun k hk => (NK k hk).1⟩
  · have eg : ∀ m, 281 ≤ m → m ≤ 283 → (st2 b5 269 29 (nI (dur 0 M + 1))) m = b3 m := fun m m1 m2 => by rw [st2_c _ _ (by omega), w7 m (by omega) (by omega), x3 m (by omega)]
    refine ⟨?_, ?_, fun k hk => ?_, fun k hk => ?_, fun k hk => ?_⟩
    · rw [t9 _ (by omega) (by omega), z9 _ (by omega) (by omega) (by omega)]; exact g1.1
    · rw [t9 _ (by omega) (by omega), z30]; congr 1; exact thr_cg (fun k hk => ((NK k hk).1).symm)
    · rw [eg _ (by omega) (by omega), (y2 k hk).1]; show _ = nI (N 147 k - 1); rw [(NK k hk).1]
    · rw [eg _ (by omega) (by omega), (y2 k hk).2.1]; show _ = nI (N 148 k); rw [(NK k hk).2.1]
    · rw [eg _ (by omega) (by omega), (y2 k hk).2.2]; show _ = nI (N 149 k); rw [(NK k hk).2.2]
  · rw [t9 _ (by omega) (by omega), z9 _ (by omega) (by omega) (by omega), NM _ (by omega) (by omega) (by omega) (by omega) (by omega)]; exact s1
  · rw [st2_eq, dN _ _ (by omega), c3]
  · rw [t9 _ (by omega) (by omega), z9 _ (by omega) (by omega) (by omega), NM _ (by omega) (by omega) (by omega) (by omega) (by omega)]; exact s3
  · rw [t9 _ (by omega) (by omega), z9 _ (by omega) (by omega) (by omega), NM _ (by omega) (by omega) (by omega) (by omega) (by omega)]; exact s4
  · rw [t9 _ (by omega) (by omega), z9 _ (by omega) (by omega) (by omega), nRef_cg N12 (fun d hd => Nh 154 d (by omega) hd) (by omega)]; exact s5
  · rw [st2_o _ _ (by omega), w2, e17]
  · rw [t9 _ (by omega) (by omega), z58, dN _ _ (by omega), c18, p 18]
  · rw [t9 _ (by omega) (by omega), z59, dN _ _ (by omega), c19, p 19]
  · rw [to 284 (by omega) (by omega) (by omega) (by omega), to 285 (by omega) (by omega) (by omega) (by omega), dN _ _ (by omega), dN _ _ (by omega), ch _ _ (by omega) (by omega), ch _ _ (by omega) (by omega), prM_o (by omega), prM_o (by omega)]; exact g3 hpl k hk
  · rw [dg, cw v hv, gW_pr hv]
    by_cases e : v < nw
    · rw [if_pos e]
      obtain ⟨u0, u1, u2, u3, u4, u5, u6, u7, u8⟩ := rs_e (d := dur 0 M) (L := gW M (Wc v))
      obtain ⟨v1, v2, v3, v4, v5⟩ := w3 v e
      exact ⟨by rw [st2_o _ _ (by omega), v1, u0]; rfl, by rw [st2_o _ _ (by omega), v2, u2]; rfl, by rw [st2_o _ _ (by omega), v3, u3]; rfl, by rw [st2_o _ _ (by omega), v4, u4]; rfl, by rw [st2_o _ _ (by omega), v5, u5], fun z => absurd u0 z⟩
    · rw [if_neg e]
      refine (g4 v hv).cgb (fun m m1 m2 => ?_) (fun k _ => ⟨by rw [to 292 (by omega) (by omega) (by omega) (by omega)], by rw [to 293 (by omega) (by omega) (by omega) (by omega)], by rw [to 294 (by omega) (by omega) (by omega) (by omega)]⟩)
      rw [st2_o _ _ (by omega), w4 v (by omega) m m1 m2, x3 m (by omega), y3 m (by omega), zo m (by omega)]
  · rw [NM _ (by omega) (by omega) (by omega) (by omega) (by omega)] at hi
    obtain ⟨q1, q2, q3, q4, q5, q6, q7, q8, q9⟩ := g5 i hi
    have n : ∀ j, N (174 + 2 * i) j = R (174 + 2 * i) j := fun j => dN _ _ (by omega)
    have l : ∀ m, 296 ≤ m → m ≤ 303 → (st2 b5 269 29 (nI (dur 0 M + 1))) m = b1 m := fun m m1 m2 => to m (by omega) (by omega) (by omega) (by omega)
    refine ⟨?_, by rw [l _ (by omega) (by omega), n, clo _ _ (by omega)]; exact q2, by rw [l _ (by omega) (by omega), n, clo _ _ (by omega)]; exact q3, by rw [l _ (by omega) (by omega), n, clo _ _ (by omega)]; exact q4, fun z => ?_, by rw [l _ (by omega) (by omega), n, clo _ _ (by omega)]; exact q6, by rw [l _ (by omega) (by omega), n, clo _ _ (by omega)]; exact q7, by rw [l _ (by omega) (by omega), n, clo _ _ (by omega)]; exact q8, fun k hk => ?_⟩
    · rw [st2_c _ _ (by omega), w7 295 (by omega) (by omega), x2 i hi, y3 295 (by omega), zo 295 (by omega)]
      unfold lcW
      rw [n, n, cl9 i hi, clo _ _ (by omega)]
      by_cases z : srv 0 (dur 0 M) M i = true
      · rw [if_pos z, if_pos z, if_pos rfl, q1, lcW_s z]
      · rw [if_neg z, if_neg z, if_neg (by omega)]; rfl
    · rw [n, cl9 i hi] at z
      have zs : srv 0 (dur 0 M) M i = true := Classical.byContradiction (fun y => by rw [if_neg y] at z; omega)
      rw [l _ (by omega) (by omega), n, clo _ _ (by omega)]; exact q5 (srv9 zs).1
    · rw [l _ (by omega) (by omega), q9 k hk]; unfold lcV; rw [n, clo _ _ (by omega), dN _ _ (by omega), cl5]
  · rw [to 304 (by omega) (by omega) (by omega) (by omega), nOft_cg (NM _ (by omega) (by omega) (by omega) (by omega) (by omega)) (fun i hi => by rw [dN _ _ (by omega), clo _ _ (by omega)])]; exact g6 t ht
  · rw [to 305 (by omega) (by omega) (by omega) (by omega), nHot_cg N12 Nh (by omega)]; exact g7 k hk
  · rw [t9 _ (by omega) (by omega), z9 _ (by omega) (by omega) (by omega)]; exact e3.1 j (by omega)
  · rw [to m (by omega) (by omega) (by omega) (by omega)]; exact e3.2 m (by omega) (by omega) (by omega)
