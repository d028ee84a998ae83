/-! ===== text: a token of the reference ===== -/
def jT (j : Nat) : Prop := j = 10 ∨ j = 12 ∨ j = 13 ∨ j = 14 ∨ j = 15 ∨ j = 1015
/-- the reference's state behind a token that began at p -/
def MK (b : Mem) (T : Nat → Nat) (n p : Nat) : Prop := MIt b T n (tE T n p) ∧ b 269 12 = nI p ∧ b 269 13 = nI (tK T n p) ∧ (tK T n p = 3 → b 269 14 = nI (tN T n p)) ∧ (tK T n p = 2 → wdM b = wd6 T p (tE T n p - p))
theorem MIt.f {b b' : Mem} {T : Nat → Nat} {n i : Nat} (h : MIt b T n i) (e : b' 270 = b 270) (e1 : b' 269 11 = b 269 11) (e2 : b' 269 10 = b 269 10) : MIt b' T n i := ⟨h.1.c e, e1.trans h.2.1, e2.trans h.2.2⟩
theorem tE_le {T : Nat → Nat} {n p : Nat} (h : p ≤ n) : p ≤ tE T n p ∧ tE T n p ≤ n ∧ (p < n → p < tE T n p) := by
  have h1 := adT_le (P := lt T) h
  have h2 := adT_le (P := dg T) h
  unfold tE
  by_cases z : n ≤ p
  · rw [if_pos z]; omega
  · rw [if_neg z]
    by_cases z1 : lt T p = true
    · rw [if_pos z1]
      have := adT_le (P := lt T) (show p + 1 ≤ n by omega)
      rw [adT_yes (by omega) z1]; omega
    · rw [if_neg z1]
      by_cases z2 : dg T p = true
      · rw [if_pos z2]
        have := adT_le (P := dg T) (show p + 1 ≤ n by omega)
        rw [adT_yes (by omega) z2]; omega
      · rw [if_neg z2]; omega
theorem tP_le {T : Nat → Nat} {n i : Nat} (h : i ≤ n) : i ≤ tP T n i ∧ tP T n i ≤ n := adT_le h
set_option maxHeartbeats 1000000 in
theorem m_tok {b : Mem} {T : Nat → Nat} {n i : Nat} (oT : okT T) (hn : n ≤ 600) (hi : i ≤ n) (hM : MIt b T n i) : ∃ b', fX12_token b = some b' ∧ MK b' T n (tP T n i) ∧ frm jT b b' := by
  obtain ⟨c, s1, s2, s3⟩ := m_skip oT hn (n - i) FU i b rfl (by show n - i < 5000; omega) hi hM
  unfold fX12_token
  rw [s1, bq]
  have hp : tP T n i ≤ n := (tP_le hi).2
  have s2' : MIt c T n (tP T n i) := s2
  generalize tP T n i = p at *
  have hc : c 269 10 = nI p := s2'.2.2
  rw [hc]
  generalize hd : st2 c 269 12 (nI p) = d
  have d12 : d 269 12 = nI p := by rw [← hd, st2_eq]
  have dM : MIt d T n p := s2'.f (by rw [← hd, st2_c _ _ (by omega)]) (by rw [← hd, st2_o _ _ (by omega)]) (by rw [← hd, st2_o _ _ (by omega)])
  have fd : frm jT b d := (s3.mono (fun j hj => Or.inl hj)).tr (by rw [← hd]; exact frm.st (Or.inr (Or.inl rfl)))
  clear hd
  rw [m_see hn hp dM, bq]
  dsimp only
  generalize he : st2 (st2 d 269 1015 (lgL 0)) 269 15 (lgH 0) = e
  have eo : ∀ j, j ≠ 15 → j ≠ 1015 → e 269 j = d 269 j := fun j h1 h2 => by rw [← he, st2_o _ _ (by omega), st2_o _ _ (by omega)]
  have eM : MIt e T n p := dM.f (by rw [← he, st2_c _ _ (by omega), st2_c _ _ (by omega)]) (eo 11 (by omega) (by omega)) (eo 10 (by omega) (by omega))
  have e12 : e 269 12 = nI p := by rw [eo 12 (by omega) (by omega)]; exact d12
  have ew : wdM e = 0 := by unfold wdM; rw [← he, st2_eq, st2_o _ _ (show ¬ (269 = 269 ∧ 1015 = 15) by omega), st2_eq, lgJ_HL]
  have fe : frm jT b e := fd.tr (by rw [← he]; exact (frm.st (js := jT) (Or.inr (Or.inr (Or.inr (Or.inr (Or.inr rfl)))))).tr (frm.st (js := jT) (Or.inr (Or.inr (Or.inr (Or.inr (Or.inl rfl)))))))
  clear he
  have j13 : jT 13 := Or.inr (Or.inr (Or.inl rfl))
  by_cases hpn : p < n
  · have op := oT p
    rw [if_pos (show 0 ≤ sI T n p by rw [sI_in hpn]; exact (le_nn (a := 0) (by omega) (by omega)).mpr (Nat.zero_le _)), f_in, bq, sI_lt oT hp, decide_eq_true hpn, Bool.true_and]
    dsimp only
    cases z : lt T p
    · rw [if_neg (by decide), f_in, bq, sI_dg oT hp, decide_eq_true hpn, Bool.true_and]
      dsimp only
      cases z2 : dg T p
      · have eE : tE T n p = p + 1 := by unfold tE; rw [if_neg (by omega), if_neg (by rw [z]; decide), if_neg (by rw [z2]; decide)]
        have eK : tK T n p = if T p = 59 then 4 else 1 := by unfold tK; rw [if_neg (by omega), if_neg (by rw [z]; decide), if_neg (by rw [z2]; decide)]
        have hq : ((if sI T n p = 59 then (some (st2 (st2 e 269 10 ((e 269 10) + 1)) 269 13 4)) else (some (st2 (st2 e 269 10 ((e 269 10) + 1)) 269 13 1))) : Option Mem) = some (st2 (st2 e 269 10 (nI (p + 1))) 269 13 (nI (tK T n p))) := by
          rw [sI_in hpn, show e 269 10 = nI p from eM.2.2, nI_1, eK]
          by_cases z3 : T p = 59
          · rw [if_pos (by rw [z3]; rfl), if_pos z3]; rfl
          · rw [if_neg (show ¬ nI (T p) = 59 from lit_ne (m := 59) z3 (by omega) (by omega)), if_neg z3]; rfl
        rw [if_neg (by decide), hq]
        refine ⟨_, rfl, ⟨⟨eM.1.c (by rw [st2_c _ _ (by omega), st2_c _ _ (by omega)]), by rw [st2_o _ _ (by omega), st2_o _ _ (by omega)]; exact eM.2.1, by rw [eE, st2_o _ _ (by omega), st2_eq]⟩, by rw [st2_o _ _ (by omega), st2_o _ _ (by omega)]; exact e12, st2_eq _ _ _ _, fun h => ?_, fun h => ?_⟩, (fe.tr (frm.st (Or.inl rfl))).tr (frm.st j13)⟩
        · rw [eK] at h; exact absurd h (by split <;> omega)
        · rw [eK] at h; exact absurd h (by split <;> omega)
      · have eE : tE T n p = adT (dg T) n p := by unfold tE; rw [if_neg (by omega), if_neg (by rw [z]; decide), if_pos z2]
        have eK : tK T n p = if adT (dg T) n p - p ≤ 2 then 3 else 1 := by unfold tK; rw [if_neg (by omega), if_neg (by rw [z]; decide), if_pos z2]
        obtain ⟨f, t1, t2, t3, t4⟩ := m_num (p := p) oT hn (n - p) FU p (st2 e 269 14 0) rfl (by show n - p < 5000; omega) (Nat.le_refl _) hp (eM.f (st2_c _ _ (by omega)) (st2_o _ _ (by omega)) (st2_o _ _ (by omega))) (fun _ => by rw [st2_eq, Nat.sub_self]; rfl)
        rw [Nat.sub_self] at t1
        have t1' : lX12_token_163 FU 0 (st2 e 269 14 0) = some (nI (adT (dg T) n p - p), f) := t1
        have hq := adT_le (P := dg T) hp
        have f12 : f 269 12 = nI p := by rw [t4.1 12 (by unfold jN; omega), st2_o _ _ (by omega)]; exact e12
        have ff : frm jT b f := (fe.tr (frm.st (Or.inr (Or.inr (Or.inr (Or.inl rfl)))))).tr (t4.mono (fun j hj => hj.elim Or.inl (fun z => Or.inr (Or.inr (Or.inr (Or.inl z))))))
        rw [if_pos rfl, t1', bq]
        dsimp only
        by_cases z3 : adT (dg T) n p - p ≤ 2
        · rw [if_pos (show nI (adT (dg T) n p - p) ≤ 2 from (le_nn (b := 2) (by omega) (by omega)).mpr z3)]
          rw [if_pos z3] at eK
          refine ⟨_, rfl, ⟨by rw [eE]; exact t2.f (st2_c _ _ (by omega)) (st2_o _ _ (by omega)) (st2_o _ _ (by omega)), by rw [st2_o _ _ (by omega)]; exact f12, by rw [eK]; exact st2_eq _ _ _ _, fun _ => by rw [st2_o _ _ (by omega)]; exact t3 z3, fun h => absurd h (by omega)⟩, ff.tr (frm.st j13)⟩
        · rw [if_neg (show ¬ nI (adT (dg T) n p - p) ≤ 2 from fun q => z3 ((le_nn (b := 2) (by omega) (by omega)).mp q))]
          rw [if_neg z3] at eK
          refine ⟨_, rfl, ⟨by rw [eE]; exact t2.f (st2_c _ _ (by omega)) (st2_o _ _ (by omega)) (st2_o _ _ (by omega)), by rw [st2_o _ _ (by omega)]; exact f12, by rw [eK]; exact st2_eq _ _ _ _, fun h => absurd h (by omega), fun h => absurd h (by omega)⟩, ff.tr (frm.st j13)⟩
    · have eE : tE T n p = adT (lt T) n p := by unfold tE; rw [if_neg (by omega), if_pos z]
      have eK : tK T n p = 2 := by unfold tK; rw [if_neg (by omega), if_pos z]
      obtain ⟨f, t1, t2, t3, t4⟩ := m_let (p := p) oT hn (n - p) FU p e rfl (by show n - p < 5000; omega) (Nat.le_refl _) hp (fun j j1 j2 => absurd j2 (by omega)) eM (fun _ => by rw [ew, Nat.sub_self]; rfl)
      rw [Nat.sub_self] at t1
      have t1' : lX12_token_74 FU 0 e = some (nI (adT (lt T) n p - p), f) := t1
      have hq := adT_le (P := lt T) hp
      have f12 : f 269 12 = nI p := by rw [t4.1 12 (by unfold jW; omega)]; exact e12
      have ff : frm jT b f := fe.tr (t4.mono (fun j hj => hj.elim Or.inl (fun z => z.elim (fun z => Or.inr (Or.inr (Or.inr (Or.inr (Or.inl z))))) (fun z => Or.inr (Or.inr (Or.inr (Or.inr (Or.inr z))))))))
      have hw : ((if nI (adT (lt T) n p - p) ≤ 8 then (some (lgJ (f 269 15) (f 269 1015))) else (some 0)) : Option Int64) = some (wd6 T p (adT (lt T) n p - p)) := by
        unfold wd6
        by_cases z3 : adT (lt T) n p - p ≤ 8
        · rw [if_pos (show nI (adT (lt T) n p - p) ≤ 8 from (le_nn (b := 8) (by omega) (by omega)).mpr z3), if_pos z3]
          exact congrArg some (t3 z3)
        · rw [if_neg (show ¬ nI (adT (lt T) n p - p) ≤ 8 from fun q => z3 ((le_nn (b := 8) (by omega) (by omega)).mp q)), if_neg z3]
      rw [if_pos rfl, t1', bq]
      dsimp only
      rw [hw, bq]
      generalize hv : wd6 T p (adT (lt T) n p - p) = v
      refine ⟨_, rfl, ⟨by rw [eE]; exact t2.f (by rw [st2_c _ _ (by omega), st2_c _ _ (by omega), st2_c _ _ (by omega)]) (by rw [st2_o _ _ (by omega), st2_o _ _ (by omega), st2_o _ _ (by omega)]) (by rw [st2_o _ _ (by omega), st2_o _ _ (by omega), st2_o _ _ (by omega)]), by rw [st2_o _ _ (by omega), st2_o _ _ (by omega), st2_o _ _ (by omega)]; exact f12, by rw [eK]; exact st2_eq _ _ _ _, fun h => absurd h (by omega), fun _ => ?_⟩, ((ff.tr (frm.st (Or.inr (Or.inr (Or.inr (Or.inr (Or.inr rfl))))))).tr (frm.st (Or.inr (Or.inr (Or.inr (Or.inr (Or.inl rfl))))))).tr (frm.st j13)⟩
      unfold wdM
      rw [eE, hv, st2_o _ _ (show ¬ (269 = 269 ∧ 15 = 13) by omega), st2_eq, st2_o _ _ (show ¬ (269 = 269 ∧ 1015 = 13) by omega), st2_o _ _ (show ¬ (269 = 269 ∧ 1015 = 15) by omega), st2_eq, lgJ_HL]
  · have eE : tE T n p = p := by unfold tE; rw [if_pos (by omega)]
    have eK : tK T n p = 0 := by unfold tK; rw [if_pos (by omega)]
    rw [if_neg (show ¬ 0 ≤ sI T n p by rw [sI_end (by omega)]; decide)]
    exact ⟨_, rfl, ⟨by rw [eE]; exact eM.f (st2_c _ _ (by omega)) (st2_o _ _ (by omega)) (st2_o _ _ (by omega)), by rw [st2_o _ _ (by omega)]; exact e12, by rw [eK]; exact st2_eq _ _ _ _, fun h => absurd h (by omega), fun h => absurd h (by omega)⟩, fe.tr (frm.st j13)⟩
/-! words -/
def uC (w j : Nat) : Nat := (stB w j).toNatClampNeg
theorem uC_ok : ∀ w, w < 19 → ∀ j, j < stL w → stB w j = nI (uC w j) ∧ 97 ≤ uC w j ∧ uC w j ≤ 122 := by decide +kernel
theorem stL_8 : ∀ w, w < 19 → 1 ≤ stL w ∧ stL w ≤ 8 := by decide +kernel
def spl (T : Nat → Nat) (p e w : Nat) : Bool := decide (e - p = stL w) && eqR (fun j => T (p + j)) (uC w) (stL w)
theorem spl_iff {T : Nat → Nat} {p e w : Nat} : spl T p e w = true ↔ e - p = stL w ∧ ∀ j, j < stL w → T (p + j) = uC w j := by
  unfold spl
  rw [Bool.and_eq_true, decide_eq_true_eq, eqR_iff]
theorem bI_u {d : Nat} (hd : d < 256) {u : Nat} (hu : 97 ≤ u ∧ u ≤ 122) : bI d = nI u ↔ d = u := by
  constructor
  · intro h
    have h1 : nI d = nI u := by
      have e1 := bI_and d hd
      have e2 := bI_and u (by omega)
      rw [bI_n (show u < 128 by omega), ← h, e1] at e2
      exact e2.trans h
    exact (eq_nn (by omega) (by omega)).mp h1
  · intro h; rw [h, bI_n (by omega)]
/-- class: a word is spelled so -/
theorem c_spl {a : Mem} {T : Nat → Nat} {p e w : Nat} (oT : okT T) (hT : CT a T) (hw : w < 19) (hpe : p ≤ e) (he : e ≤ 600) (h2 : a 143 2 = nI e) (h4 : a 143 4 = nI p) : fX5_isSpelled w a = some (spl T p e w, a) := by
  have hL := stL_8 w hw
  unfold fX5_isSpelled
  rw [h2, h4, nI_sub hpe]
  by_cases z : e - p = stL w
  · rw [if_pos (by rw [z])]
    refine loop_x (fun f j (s : Mem) => lX5_isSpelled_20 w f (nI j) s) (stL w) (fun j s => s = a ∧ ∀ k, k < j → T (p + k) = uC w k) (fun r => if spl T p e w = true then r = .inr a else r = .inl (false, a)) (Nat.zero_le _) (by omega) (s := a) ⟨rfl, fun k hk => absurd hk (by omega)⟩ ?_ ?_ ?_
    · intro r e1 e2
      have e1' : lX5_isSpelled_20 w FU 0 a = some r := e1
      rw [e1', bq]
      by_cases h : spl T p e w = true
      · rw [if_pos h] at e2; rw [e2, h]; rfl
      · rw [if_neg h] at e2; rw [e2, Bool.eq_false_iff.mpr h]; rfl
    · rintro f s ⟨rfl, h⟩
      refine ⟨.inr s, ?_, by rw [if_pos (spl_iff.mpr ⟨z, h⟩)]⟩
      show lX5_isSpelled_20 _ _ _ _ = _
      rw [lX5_isSpelled_20, if_pos (by rw [le_nn (by omega) (by omega)]; omega)]
    · rintro f j s hj ⟨rfl, h⟩
      have hu := uC_ok w hw j hj
      by_cases g : T (p + j) = uC w j
      · left
        refine ⟨s, ?_, rfl, fun k hk => ?_⟩
        · show lX5_isSpelled_20 _ _ _ _ = lX5_isSpelled_20 _ _ _ _
          rw [lX5_isSpelled_20, if_neg (by rw [le_nn (by omega) (by omega)]; omega), h4, nI_add, inb_T (show p + j < 600 by omega) (by omega), gdT, inb_T hj (by omega), gdT, nI_ck (by omega), nI_ck (by omega), if_pos (show s 2 (p + j) = stB w j by rw [hT _ (by omega), hu.1]; exact (bI_u (oT _) hu.2).mpr g), nI_1]
        · by_cases ek : k = j
          · rw [ek]; exact g
          · exact h k (by omega)
      · right
        refine ⟨.inl (false, s), ?_, by rw [if_neg (fun q => g ((spl_iff.mp q).2 j hj))]⟩
        show lX5_isSpelled_20 _ _ _ _ = _
        rw [lX5_isSpelled_20, if_neg (by rw [le_nn (by omega) (by omega)]; omega), h4, nI_add, inb_T (show p + j < 600 by omega) (by omega), gdT, inb_T hj (by omega), gdT, nI_ck (by omega), nI_ck (by omega), if_neg (show ¬ s 2 (p + j) = stB w j by rw [hT _ (by omega), hu.1]; exact fun q => g ((bI_u (oT _) hu.2).mp q))]
  · rw [if_neg (by rw [eq_nn (by omega) (by omega)]; exact z), show spl T p e w = false from Bool.eq_false_iff.mpr (fun q => z (spl_iff.mp q).1)]
/-- the first of k words from w on -/
def fnw (P : Nat → Bool) : Nat → Nat → Nat
  | 0, _ => 0
  | k + 1, w => if P w = true then w + 1 else fnw P k (w + 1)
theorem fnw_pos {P : Nat → Bool} : ∀ k w r, fnw P k w = r + 1 → P r = true ∧ w ≤ r ∧ r < w + k
  | 0, w, r, h => absurd h (by show ¬ 0 = r + 1; omega)
  | k + 1, w, r, h => by
    have h' : (if P w = true then w + 1 else fnw P k (w + 1)) = r + 1 := h
    by_cases z : P w = true
    · rw [if_pos z] at h'
      have : w = r := by omega
      subst this
      exact ⟨z, by omega, by omega⟩
    · rw [if_neg z] at h'
      obtain ⟨h1, h2, h3⟩ := fnw_pos k (w + 1) r h'
      exact ⟨h1, by omega, by omega⟩
theorem fnw_0 {P : Nat → Bool} : ∀ k w, fnw P k w = 0 → ∀ r, w ≤ r → r < w + k → P r = false
  | 0, w, _, r, h1, h2 => absurd h2 (by omega)
  | k + 1, w, h, r, h1, h2 => by
    have h' : (if P w = true then w + 1 else fnw P k (w + 1)) = 0 := h
    by_cases z : P w = true
    · rw [if_pos z] at h'; exact absurd h' (by omega)
    · rw [if_neg z] at h'
      by_cases e : r = w
      · rw [e]; exact Bool.eq_false_iff.mpr z
      · exact fnw_0 k (w + 1) h' r (by omega) (by omega)
/-- the first word of a sort -/
def fs (s : Nat) : Nat := if s = 0 then 0 else if s = 1 then 3 else if s = 2 then 10 else if s = 3 then 17 else 19
theorem sa_fs : ∀ s, s < 5 → saV 0 s = nI (fs s) := by decide +kernel
theorem fs_b : ∀ s, s < 4 → fs s ≤ fs (s + 1) ∧ fs (s + 1) ≤ 19 := by decide
theorem spJ_n : ∀ w, w < 19 → spJ (nI w) = w := by decide +kernel
def wdS (T : Nat → Nat) (s p e : Nat) : Nat := fnw (spl T p e) (fs (s + 1) - fs s) (fs s)
theorem c_wds {T : Nat → Nat} {s p e : Nat} (hs : s < 4) {a : Mem} (oT : okT T) (hT : CT a T) (hpe : p ≤ e) (he : e ≤ 600) (h2 : a 143 2 = nI e) (h4 : a 143 4 = nI p) : ∀ k g w, fs (s + 1) - w = k → k < g → w ≤ fs (s + 1) → ∃ r, lX5_wordOfSort_6 (nI s) g (nI w) a = some r ∧ ((fnw (spl T p e) k w = 0 ∧ r = .inr a) ∨ ∃ v, fnw (spl T p e) k w = v + 1 ∧ r = .inl (nI v, a)) := by
  have hb := fs_b s hs
  intro k
  induction k with
  | zero =>
    intro g w h1 h3 h5
    obtain ⟨g, rfl⟩ : ∃ m, g = m + 1 := ⟨g - 1, by omega⟩
    rw [lX5_wordOfSort_6, nI_1, inb_T (show s + 1 < 5 by omega) (by omega), gdT, nI_ck (by omega), sa_fs (s + 1) (by omega), if_pos (by rw [le_nn (by omega) (by omega)]; omega)]
    exact ⟨_, rfl, Or.inl ⟨rfl, rfl⟩⟩
  | succ k ih =>
    intro g w h1 h3 h5
    obtain ⟨g, rfl⟩ : ∃ m, g = m + 1 := ⟨g - 1, by omega⟩
    rw [lX5_wordOfSort_6, nI_1, inb_T (show s + 1 < 5 by omega) (by omega), gdT, nI_ck (by omega), sa_fs (s + 1) (by omega), if_neg (by rw [le_nn (by omega) (by omega)]; omega), spJ_n w (by omega), c_spl oT hT (by omega) hpe he h2 h4, bq]
    dsimp only
    show ∃ r, _ ∧ (((if spl T p e w = true then w + 1 else fnw (spl T p e) k (w + 1)) = 0 ∧ _) ∨ ∃ v, (if spl T p e w = true then w + 1 else fnw (spl T p e) k (w + 1)) = v + 1 ∧ _)
    by_cases z : spl T p e w = true
    · rw [if_pos z, if_pos z]
      exact ⟨_, rfl, Or.inr ⟨w, rfl, rfl⟩⟩
    · rw [if_neg z, if_neg z, nI_1]
      exact ih g (w + 1) (by omega) (by omega) (by omega)
theorem c_wos {T : Nat → Nat} {s p e : Nat} (hs : s < 4) {a : Mem} (oT : okT T) (hT : CT a T) (hpe : p ≤ e) (he : e ≤ 600) (h2 : a 143 2 = nI e) (h4 : a 143 4 = nI p) : fX5_wordOfSort (nI s) a = some (vI (wdS T s p e), a) := by
  have hb := fs_b s hs
  obtain ⟨r, r1, r2⟩ := c_wds hs oT hT hpe he h2 h4 (fs (s + 1) - fs s) FU (fs s) rfl (by show _ < 5000; omega) hb.1
  unfold fX5_wordOfSort
  rw [inb_T (show s < 5 by omega) (by omega), gdT, nI_ck (by omega), sa_fs s (by omega), r1, bq]
  rcases r2 with ⟨t1, t2⟩ | ⟨v, t1, t2⟩
  · rw [t2, show wdS T s p e = 0 from t1]; rfl
  · rw [t2, show wdS T s p e = v + 1 from t1]
    rfl
