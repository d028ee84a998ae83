/-! ===== what holds stays so ===== -/
theorem okM.mono {sp nw D E : Nat} {B M : F2} (ok : okM sp nw D B M) (h1 : D ≤ E) (h2 : E ≤ 60) : okM sp nw E B M := by
  obtain ⟨o1, o2, o3, o4⟩ := ok
  exact ⟨o1, o2, by omega, o4⟩
theorem okM.nx {sp nw D : Nat} {B M : F2} (ok : okM sp nw D B M) (h1 : M 154 (M 146 12) ≤ 3) (h2 : M 155 (M 146 12) ≤ 10) : okM sp nw D B (nxM M) := by
  have e : ∀ c j, ¬ (c = 146 ∧ j = 12) → nxM M c j = M c j := fun c j h => up_o _ h
  have ok2 : okM sp nw D B (up M 146 12 0) := by
    obtain ⟨o1, o2, o3, o4, o5, o6, o7, o8, o9⟩ := ok
    have x : okM sp nw D B (up M 146 12 0) ↔ True := by
      constructor
      · intro _; trivial
      · intro _
        have eW : ∀ w, (up M 146 12 0) (Wc w) = M (Wc w) := fun w => up_c _ (by unfold Wc; omega)
        have eL : ∀ i, (up M 146 12 0) (174 + 2 * i) = M (174 + 2 * i) := fun i => up_c _ (by omega)
        have eL2 : ∀ i, (up M 146 12 0) (175 + 2 * i) = M (175 + 2 * i) := fun i => up_c _ (by omega)
        have e3 : (up M 146 12 0) 146 3 = M 146 3 := up_o _ (by omega)
        have e11 : (up M 146 12 0) 146 11 = M 146 11 := up_o _ (by omega)
        refine ⟨by rw [up_o _ (by omega)]; exact o1, by rw [e3]; exact o2, ?_, fun k hk => ?_, fun w hw => ?_, fun i hi => ?_, fun i j hij hj => ?_, fun d hd => ?_, fun w h1 h2 => ?_⟩
        · have : bzy (up M 146 12 0) = bzy M := sm_cg 4 (fun w hw => by rw [eW w])
          rw [this, e11]; exact o3
        · rw [e3, e11, up_o _ (by omega), up_o _ (by omega), up_o _ (by omega)]; exact o4 k hk
        · unfold wkO; rw [gW_146, eW w, e3, e11]; exact o5 w hw
        · rw [e11] at hi
          unfold lnO; rw [eL i, eL2 i, e3, eW]; exact o6 i hi
        · rw [e11] at hj
          rw [eL i, eL j]; exact o7 i j hij hj
        · rw [up_e] at hd; omega
        · rw [eW w]; exact o9 w h1 h2
    exact x.mpr trivial
  obtain ⟨-, -, -, -, -, -, -, o8, -⟩ := ok
  obtain ⟨p1, p2, p3, p4, p5, p6, p7, p8, p9⟩ := ok2
  have eW : ∀ w, (nxM M) (Wc w) = (up M 146 12 0) (Wc w) := fun w => by unfold nxM; rw [up_c _ (by unfold Wc; omega), up_c _ (by unfold Wc; omega)]
  have eL : ∀ i, (nxM M) (174 + 2 * i) = (up M 146 12 0) (174 + 2 * i) := fun i => by unfold nxM; rw [up_c _ (by omega), up_c _ (by omega)]
  have eL2 : ∀ i, (nxM M) (175 + 2 * i) = (up M 146 12 0) (175 + 2 * i) := fun i => by unfold nxM; rw [up_c _ (by omega), up_c _ (by omega)]
  have eo : ∀ c j, ¬ (c = 146 ∧ j = 12) → (nxM M) c j = (up M 146 12 0) c j := fun c j h => by rw [e c j h, up_o _ h]
  have eg : ∀ w, gW (nxM M) (Wc w) = gW (up M 146 12 0) (Wc w) := fun w => by unfold nxM; rw [gW_146, gW_146]
  refine ⟨by rw [eo 146 2 (by omega)]; exact p1, by rw [eo 146 3 (by omega)]; exact p2, ?_, fun k hk => ?_, fun w hw => ?_, fun i hi => ?_, fun i j hij hj => ?_, fun d hd => ?_, fun w h1 h2 => ?_⟩
  · have : bzy (nxM M) = bzy (up M 146 12 0) := sm_cg 4 (fun w hw => by rw [eW w])
    rw [this, eo 146 11 (by omega)]; exact p3
  · rw [eo 146 3 (by omega), eo 146 11 (by omega), eo 147 k (by omega), eo 148 k (by omega), eo 149 k (by omega)]; exact p4 k hk
  · unfold wkO; rw [eg w, eW w, eo 146 3 (by omega), eo 146 11 (by omega)]; exact p5 w hw
  · rw [eo 146 11 (by omega)] at hi
    unfold lnO; rw [eL i, eL2 i, eo 146 3 (by omega), eW]; exact p6 i hi
  · rw [eo 146 11 (by omega)] at hj
    rw [eL i, eL j]; exact p7 i j hij hj
  · have hd' : d < M 146 12 + 1 := by unfold nxM at hd; rw [up_e] at hd; exact hd
    rw [e 154 d (by omega), e 155 d (by omega)]
    by_cases ed : d = M 146 12
    · rw [ed]; exact ⟨h1, h2⟩
    · exact o8 d (by omega)
  · rw [eW w]; exact p9 w h1 h2
theorem bzy_pt {M L : F2} {w : Nat} (hw : w < 4) : bzy (pt M (Wc w) L) + (if M (Wc w) 0 = 0 then 0 else 1) = bzy M + (if L 0 0 = 0 then 0 else 1) := by
  have e : ∀ v, v ≠ w → pt M (Wc w) L (Wc v) 0 = M (Wc v) 0 := fun v hv => by rw [pt_o (by unfold Wc; omega)]
  have e2 : pt M (Wc w) L (Wc w) 0 = L 0 0 := pt_k (f := 0) (by omega)
  have x : ∀ N : F2, bzy N = (if N (Wc 0) 0 = 0 then 0 else 1) + (if N (Wc 1) 0 = 0 then 0 else 1) + (if N (Wc 2) 0 = 0 then 0 else 1) + (if N (Wc 3) 0 = 0 then 0 else 1) := fun N => by
    show 0 + _ + _ + _ + _ = _
    rw [Nat.zero_add]
  rw [x, x]
  rcases (show w = 0 ∨ w = 1 ∨ w = 2 ∨ w = 3 by omega) with rfl | rfl | rfl | rfl
  · rw [e2, e 1 (by omega), e 2 (by omega), e 3 (by omega)]; omega
  · rw [e2, e 0 (by omega), e 2 (by omega), e 3 (by omega)]; omega
  · rw [e2, e 0 (by omega), e 1 (by omega), e 3 (by omega)]; omega
  · rw [e2, e 0 (by omega), e 1 (by omega), e 2 (by omega)]; omega
theorem okM.w {sp nw D E w : Nat} {B M L : F2} (ok : okM sp nw D B M) (hw : w < 4) (hL : nz L) (h1 : okL L) (h2 : L 0 7 < 2 ^ (9 / sp + 1)) (h4 : L 0 4 = M (Wc w) 4) (h5 : L 0 5 = M (Wc w) 5) (h0 : L 0 0 ≠ 0 → w < nw ∧ L 0 0 ≤ B 0 0 ∧ L 0 2 ≤ B 1 (L 0 0 - 1) ∧ L 0 1 ≤ M 146 3) (hE : 2 * M 146 11 + bzy (pt M (Wc w) L) ≤ E ∧ E ≤ 60) : okM sp nw E B (pt M (Wc w) L) := by
  obtain ⟨o1, o2, o3, o4, o5, o6, o7, o8, o9⟩ := ok
  have eo : ∀ c, ¬ (158 ≤ c ∧ c < 174) → pt M (Wc w) L c = M c := fun c h => pt_o (by unfold Wc; omega)
  have eg : ∀ v, v < 4 → v ≠ w → gW (pt M (Wc w) L) (Wc v) = gW M (Wc v) := fun v _ hv => gW_po (by unfold Wc; omega)
  have ew : ∀ v, v < 4 → v ≠ w → pt M (Wc w) L (Wc v) = M (Wc v) := fun v _ hv => pt_o (by unfold Wc; omega)
  have ek : ∀ j, pt M (Wc w) L (Wc w) j = L 0 j := fun j => pt_k (f := 0) (by omega)
  have e4 : ∀ v, v < 4 → pt M (Wc w) L (Wc v) 4 = M (Wc v) 4 := fun v hv => by
    by_cases e : v = w
    · rw [e, ek, h4]
    · rw [ew v hv e]
  refine ⟨by rw [eo 146 (by omega)]; exact o1, by rw [eo 146 (by omega)]; exact o2, by rw [eo 146 (by omega)]; exact hE, fun k hk => ?_, fun v hv => ?_, fun i hi => ?_, fun i j hij hj => ?_, fun d hd => ?_, fun v v1 v2 => ?_⟩
  · rw [eo 146 (by omega), eo 147 (by omega), eo 148 (by omega), eo 149 (by omega)]; exact o4 k hk
  · by_cases e : v = w
    · subst e
      obtain ⟨q1, q2, q3, q4, q5⟩ := o5 v hv
      unfold wkO
      rw [gW_pt hL, ek, ek, ek, ek, ek, ek, eo 146 (by omega)]
      exact ⟨h1, h2, by rw [h4]; exact q3, by rw [h5]; exact q4, h0⟩
    · unfold wkO; rw [eg v hv e, ew v hv e, eo 146 (by omega)]; exact o5 v hv
  · rw [eo 146 (by omega)] at hi
    have := o6 i hi
    unfold lnO
    rw [eo (174 + 2 * i) (by omega), eo (175 + 2 * i) (by omega), eo 146 (by omega)]
    obtain ⟨p1, p2, p3, p4, p5, p6, p7, p8, p9, p10, p11, p12⟩ := this
    refine ⟨p1, p2, p3, p4, p5, p6, p7, p8, p9, p10, p11, fun z => ?_⟩
    rw [e4 _ (by omega)]; exact p12 z
  · rw [eo 146 (by omega)] at hj
    rw [eo (174 + 2 * i) (by omega), eo (174 + 2 * j) (by omega)]; exact o7 i j hij hj
  · rw [eo 146 (by omega)] at hd
    rw [eo 154 (by omega), eo 155 (by omega)]; exact o8 d hd
  · by_cases e : v = w
    · rw [e, ek, ek, h4, h5, ← e]; exact o9 v v1 v2
    · rw [ew v v2 e]; exact o9 v v1 v2
theorem tk_e {t e : Nat} {L : F2} : (tkL t e L) 0 0 = t ∧ (tkL t e L) 0 1 = e ∧ (tkL t e L) 0 2 = 0 ∧ (tkL t e L) 0 3 = 0 ∧ (tkL t e L) 0 4 = L 0 4 ∧ (tkL t e L) 0 5 = L 0 5 ∧ (tkL t e L) 0 6 = 0 ∧ (tkL t e L) 0 7 = 0 ∧ (tkL t e L) 0 8 = 0 := by
  unfold tkL
  refine ⟨?_, ?_, ?_, ?_, ?_, ?_, ?_, ?_, ?_⟩ <;> simp (disch := omega) only [up_o, up_e]
theorem okL_tk {t e : Nat} {L : F2} : okL (tkL t e L) := okL.emp ⟨tk_e.2.2.2.1, tk_e.2.2.2.2.2.2.1, tk_e.2.2.2.2.2.2.2.1, tk_e.2.2.2.2.2.2.2.2⟩
theorem okM.rt {sp nw D w : Nat} {B M : F2} (ok : okM sp nw D B M) (hw : w < 4) : okM sp nw D B (rtM w M) := by
  obtain ⟨t0, t1, t2, t3, t4, t5, t6, t7, t8⟩ := tk_e (t := 0) (e := 0) (L := gW M (Wc w))
  have hb := bzy_pt (M := M) (L := tkL 0 0 (gW M (Wc w))) hw
  rw [t0, if_pos rfl] at hb
  have o3 := ok.2.2.1
  exact ok.w hw (nz_tk gW_nf) okL_tk (by rw [t7]; exact Nat.two_pow_pos _) t4 t5 (fun z => absurd t0 z) (by omega)
theorem okM.bg {sp nw D w t : Nat} {B M : F2} (ok : okM sp nw D B M) (hw : w < nw) (ht : t < B 0 0) (hD : D < 60) : okM sp nw (D + 1) B (bgM w t M) := by
  have hw4 : w < 4 := by have := ok.1; omega
  obtain ⟨t0, t1, t2, t3, t4, t5, t6, t7, t8⟩ := tk_e (t := t + 1) (e := M 146 3) (L := gW M (Wc w))
  have hb := bzy_pt (M := M) (L := tkL (t + 1) (M 146 3) (gW M (Wc w))) hw4
  rw [t0, if_neg (show ¬ t + 1 = 0 by omega)] at hb
  have o3 := ok.2.2.1
  exact ok.w hw4 (nz_tk gW_nf) okL_tk (by rw [t7]; exact Nat.two_pow_pos _) t4 t5 (fun _ => ⟨hw, by omega, by omega, by omega⟩) (by omega)
/-- nodes that are guarded -/
theorem g7_nGd {G L : F2} {N n : Nat} (h : L 0 7 < 2 ^ N) (hn : n < N) : nGd G n L 0 7 < 2 ^ N := by
  unfold nGd; split
  · exact h
  · rw [up_o _ (by omega), up_e]; exact Nat.or_lt_two_pow h (Nat.pow_lt_pow_right (by decide) hn)
theorem g7_nRd {G L : F2} {n : Nat} : nRd G n L 0 7 = L 0 7 := by
  unfold nRd; split
  · rfl
  · rw [up_o _ (by omega), up_o _ (by omega)]
theorem g7_lk {G L : F2} {sp k : Nat} (h : L 0 7 < 2 ^ (9 / sp + 1)) (hk : k ≤ 9) : lk sp G k L 0 7 < 2 ^ (9 / sp + 1) := by
  unfold lk lkA
  rw [up_o _ (by omega)]
  split
  · exact h
  · split
    · exact g7_nGd h (by have := Nat.div_le_div_right (c := sp) hk; omega)
    · rw [g7_nRd]; exact h
theorem g7_wrt {L : F2} {n v : Nat} : wrt n v L 0 7 = L 0 7 := by unfold wrt; rw [up_o _ (by omega), up_o _ (by omega)]
theorem g7_it {f : Nat → F2 → F2} {N i : Nat} {L : F2} (h : L 0 7 < 2 ^ N) : ∀ n, (∀ k L, k < i + n → L 0 7 < 2 ^ N → f k L 0 7 < 2 ^ N) → itr f i n L 0 7 < 2 ^ N
  | 0, _ => h
  | n + 1, hf => hf _ _ (by omega) (g7_it h n (fun k L hk => hf k L (by omega)))
theorem g7_stp {G L : F2} {sp w k o : Nat} (h : L 0 7 < 2 ^ (9 / sp + 1)) (hs : stepc w k o) : stp sp G w k o L 0 7 < 2 ^ (9 / sp + 1) := by
  obtain ⟨s1, s2, s3, s4, s5⟩ := hs
  unfold stp
  split
  · exact g7_lk h s2
  · split
    · rw [g7_wrt]; exact h
    · split
      · rw [g7_wrt]; exact h
      · split
        · rw [g7_wrt]; exact h
        · split
          · rw [g7_wrt]; exact g7_lk h s2
          · unfold scn
            refine g7_it (g7_it h _ (fun n L hn hL => g7_nGd hL ?_)) _ (fun j L hj hL => ?_)
            · have := Nat.div_le_div_right (c := sp) (show o - 1 ≤ 9 by omega)
              have := Nat.div_le_div_right (c := sp) (show k ≤ o - 1 by omega)
              omega
            · unfold lkT; split
              · exact hL
              · exact g7_lk hL (by omega)
theorem okM.sp {sp nw D w : Nat} {B M : F2} (ok : okM sp nw D B M) (gB : okB B) (hw : w < 4) (h0 : M (Wc w) 0 ≠ 0) (h2 : M (Wc w) 2 < B 1 (M (Wc w) 0 - 1)) : okM sp nw D B (spM sp B w M) := by
  have gG1 := ok.G
  obtain ⟨q1, q2, q3, q4, q5⟩ := ok.2.2.2.2.1 w hw
  have q5' := q5 h0
  have hb := bzy_pt (M := M) (L := dst sp (gG M) B (gW M (Wc w))) hw
  have d0 : dst sp (gG M) B (gW M (Wc w)) 0 0 = M (Wc w) 0 := dst_0 (by omega) (by omega) (by omega)
  have d1 : dst sp (gG M) B (gW M (Wc w)) 0 1 = M (Wc w) 1 := dst_0 (by omega) (by omega) (by omega)
  have d2 : dst sp (gG M) B (gW M (Wc w)) 0 2 = M (Wc w) 2 + 1 := dst_2
  rw [d0] at hb
  have o3 := ok.2.2.1
  refine ok.w hw (nz_dst gW_nf) (q1.odst gG1 gB) ?_ (dst_0 (by omega) (by omega) (by omega)) (dst_0 (by omega) (by omega) (by omega)) (fun _ => ⟨q5'.1, by rw [d0]; exact q5'.2.1, by rw [d0, d2]; omega, by rw [d1]; exact q5'.2.2.2⟩) (by omega)
  unfold dst
  rw [up_o _ (by omega)]
  exact g7_stp q2 (gB.2.2 _)
theorem okM.ep {sp nw D : Nat} {B M : F2} (ok : okM sp nw D B M) (h : M 146 3 < 50) : okM sp nw D B (epM M) := by
  obtain ⟨o1, o2, o3, o4, o5, o6, o7, o8, o9⟩ := ok
  have e : ∀ c j, ¬ (c = 146 ∧ j = 3) → epM M c j = M c j := fun c j h => up_o _ h
  have e3 : epM M 146 3 = M 146 3 + 1 := up_e _ _ _ _
  have ec : ∀ c, c ≠ 146 → epM M c = M c := fun c hc => up_c _ hc
  have eg : ∀ w, gW (epM M) (Wc w) = gW M (Wc w) := fun w => gW_146
  refine ⟨by rw [e 146 2 (by omega)]; exact o1, by rw [e3]; omega, ?_, fun k hk => ?_, fun w hw => ?_, fun i hi => ?_, fun i j hij hj => ?_, fun d hd => ?_, fun w h1 h2 => ?_⟩
  · have : bzy (epM M) = bzy M := sm_cg 4 (fun w hw => by rw [ec _ (by unfold Wc; omega)])
    rw [this, e 146 11 (by omega)]; exact o3
  · rw [e3, e 146 11 (by omega), ec 147 (by omega), ec 148 (by omega), ec 149 (by omega)]
    have := o4 k hk; omega
  · obtain ⟨q1, q2, q3, q4, q5⟩ := o5 w hw
    unfold wkO
    rw [eg, ec _ (by unfold Wc; omega), e3, e 146 11 (by omega)]
    exact ⟨q1, q2, by omega, by omega, fun z => by have := q5 z; omega⟩
  · rw [e 146 11 (by omega)] at hi
    obtain ⟨p1, p2, p3, p4, p5, p6, p7, p8, p9, p10, p11, p12⟩ := o6 i hi
    unfold lnO
    rw [ec (174 + 2 * i) (by omega), ec (175 + 2 * i) (by omega), e3, ec _ (by unfold Wc; omega)]
    exact ⟨p1, p2, p3, p4, p5, p6, p7, p8, p9, p10, p11, fun z => by have := p12 z; omega⟩
  · rw [e 146 11 (by omega)] at hj
    rw [ec (174 + 2 * i) (by omega), ec (174 + 2 * j) (by omega)]; exact o7 i j hij hj
  · rw [e 146 12 (by omega)] at hd
    rw [ec 154 (by omega), ec 155 (by omega)]; exact o8 d hd
  · rw [ec _ (by unfold Wc; omega)]; exact o9 w h1 h2
theorem itF_p {w : Nat} {M : F2} {c j : Nat} (h : c % 2 = 1) : ∀ m, itr (flS w) 0 m M c j = M c j
  | 0 => rfl
  | m + 1 => by rw [itr_S, flS_o (by omega)]; exact itF_p h m
theorem flI_8 {w : Nat} {M : F2} {i : Nat} : ∀ n, itr (flS w) 0 n M (174 + 2 * i) 8 = if i < n ∧ M (174 + 2 * i) 0 = w then 1 else M (174 + 2 * i) 8
  | 0 => by rw [if_neg (by omega)]; rfl
  | n + 1 => by
    rw [itr_S]
    have ih := flI_8 (w := w) (M := M) (i := i) n
    have h0 : itr (flS w) 0 n M (174 + 2 * n) 0 = M (174 + 2 * n) 0 := itF_o (by omega) n
    generalize itr (flS w) 0 n M = X at *
    unfold flS
    by_cases hw : X (174 + 2 * n) 0 = w
    · rw [if_pos hw]
      by_cases e : i = n
      · subst e; rw [up_e, if_pos ⟨by omega, by rw [← h0]; exact hw⟩]
      · rw [up_o _ (by omega), ih]
        by_cases h : i < n ∧ M (174 + 2 * i) 0 = w
        · rw [if_pos h, if_pos ⟨by omega, h.2⟩]
        · rw [if_neg h, if_neg (fun z => h ⟨by omega, z.2⟩)]
    · rw [if_neg hw, ih]
      by_cases h : i < n ∧ M (174 + 2 * i) 0 = w
      · rw [if_pos h, if_pos ⟨by omega, h.2⟩]
      · rw [if_neg h, if_neg (fun z => by
          by_cases e : i = n
          · subst e; exact hw (h0.trans z.2)
          · exact h ⟨by omega, z.2⟩)]
theorem okM.fl {sp nw D w : Nat} {B M : F2} (ok : okM sp nw D B M) (hw : w < nw) : okM sp nw D B (flM w M) := by
  have l30 := ok.l30
  obtain ⟨o1, o2, o3, o4, o5, o6, o7, o8, o9⟩ := ok
  have hw4 : w < 4 := by omega
  have e : ∀ c j, ¬ (c = Wc w ∧ j = 5) → ¬ (174 ≤ c ∧ j = 8) → flM w M c j = M c j := fun c j h h2 => by unfold flM; rw [up_o _ h, itF_o h2]
  have e5 : flM w M (Wc w) 5 = M 146 3 - 1 := up_e _ _ _ _
  have e8 : ∀ i, flM w M (174 + 2 * i) 8 = if i < M 146 11 ∧ M (174 + 2 * i) 0 = w then 1 else M (174 + 2 * i) 8 := fun i => by unfold flM; rw [up_o _ (by unfold Wc; omega), flI_8]
  have ep : ∀ c j, 174 ≤ c → c % 2 = 1 → flM w M c j = M c j := fun c j h h2 => by unfold flM; rw [up_o _ (by unfold Wc; omega), itF_p h2]
  generalize flM w M = N at *
  have eg : ∀ v, v < 4 → ∀ f j, ¬ (v = w ∧ f = 0 ∧ j = 5) → gW N (Wc v) f j = gW M (Wc v) f j := fun v hv f j hh => by
    by_cases hf : f < 4
    · rw [gW_e hf, gW_e hf, e _ _ (by unfold Wc; omega) (by unfold Wc; omega)]
    · exact (if_neg hf).trans (if_neg hf).symm
  refine ⟨by rw [e 146 2 (by unfold Wc; omega) (by omega)]; exact o1, by rw [e 146 3 (by unfold Wc; omega) (by omega)]; exact o2, ?_, fun k hk => ?_, fun v hv => ?_, fun i hi => ?_, fun i j hij hj => ?_, fun d hd => ?_, fun v h1 h2 => ?_⟩
  · have : bzy N = bzy M := sm_cg 4 (fun v hv => by rw [e _ 0 (by omega) (by omega)])
    rw [this, e 146 11 (by unfold Wc; omega) (by omega)]; exact o3
  · rw [e 146 3 (by unfold Wc; omega) (by omega), e 146 11 (by unfold Wc; omega) (by omega), e 147 k (by unfold Wc; omega) (by omega), e 148 k (by unfold Wc; omega) (by omega), e 149 k (by unfold Wc; omega) (by omega)]; exact o4 k hk
  · obtain ⟨q1, q2, q3, q4, q5⟩ := o5 v hv
    have okl : okL (gW N (Wc v)) := by
      obtain ⟨r1, r2, r3, r4, r5⟩ := q1
      refine ⟨by rw [eg v hv _ _ (by omega)]; exact r1, by rw [eg v hv _ _ (by omega)]; exact r2, by rw [eg v hv _ _ (by omega)]; exact r3, by rw [eg v hv _ _ (by omega)]; exact r4, fun k hk => ?_⟩
      rw [eg v hv _ _ (by omega), eg v hv _ _ (by omega), eg v hv _ _ (by omega), eg v hv _ _ (by omega), eg v hv _ _ (by omega), eg v hv _ _ (by omega)]
      exact r5 k hk
    unfold wkO
    rw [e (Wc v) 7 (by omega) (by unfold Wc; omega), e (Wc v) 4 (by omega) (by unfold Wc; omega), e (Wc v) 0 (by omega) (by unfold Wc; omega), e (Wc v) 1 (by omega) (by unfold Wc; omega), e (Wc v) 2 (by omega) (by unfold Wc; omega), e 146 3 (by unfold Wc; omega) (by omega), e 146 11 (by unfold Wc; omega) (by omega)]
    refine ⟨okl, q2, q3, ?_, q5⟩
    by_cases ev : v = w
    · rw [ev, e5]; omega
    · rw [e (Wc v) 5 (by unfold Wc; omega) (by unfold Wc; omega)]; exact q4
  · rw [e 146 11 (by unfold Wc; omega) (by omega)] at hi
    obtain ⟨p1, p2, p3, p4, p5, p6, p7, p8, p9, p10, p11, p12⟩ := o6 i hi
    have x : ∀ j, j ≠ 8 → N (174 + 2 * i) j = M (174 + 2 * i) j := fun j hj => e _ _ (by unfold Wc; omega) (by omega)
    unfold lnO
    rw [x 0 (by omega), x 1 (by omega), x 2 (by omega), x 3 (by omega), x 4 (by omega), x 5 (by omega), x 6 (by omega), x 7 (by omega), x 9 (by omega), e8, e 146 3 (by unfold Wc; omega) (by omega), e (Wc (M (174 + 2 * i) 0)) 4 (by omega) (by unfold Wc; omega)]
    refine ⟨p1, p2, p3, p4, p5, p6, p7, p8, ?_, p10, fun k hk hb => ?_, p12⟩
    · split
      · omega
      · exact p9
    · have hb2 := p11 k hk hb
      rw [ep _ _ (by omega) (by omega)]; exact hb2
  · rw [e 146 11 (by unfold Wc; omega) (by omega)] at hj
    rw [e (174 + 2 * i) 9 (by unfold Wc; omega) (by omega), e (174 + 2 * j) 9 (by unfold Wc; omega) (by omega), e (174 + 2 * i) 0 (by unfold Wc; omega) (by omega), e (174 + 2 * j) 0 (by unfold Wc; omega) (by omega), e (174 + 2 * i) 3 (by unfold Wc; omega) (by omega), e (174 + 2 * j) 3 (by unfold Wc; omega) (by omega)]; exact o7 i j hij hj
  · rw [e 146 12 (by unfold Wc; omega) (by omega)] at hd
    rw [e 154 d (by unfold Wc; omega) (by omega), e 155 d (by unfold Wc; omega) (by omega)]; exact o8 d hd
  · rw [e (Wc v) 4 (by omega) (by unfold Wc; omega), e (Wc v) 5 (by unfold Wc; omega) (by unfold Wc; omega)]; exact o9 v h1 h2
