/-! ===== text: words and faults of the reference ===== -/
def KW (w : Nat) : Int64 := Int64.ofNat (wc (uC w) 0 (stL w))
theorem KW_ne0 : ∀ w, w < 19 → KW w ≠ 0 := by decide +kernel
theorem wc_cg {T U : Nat → Nat} {p q : Nat} : ∀ k, (∀ j, j < k → T (p + j) = U (q + j)) → wc T p k = wc U q k
  | 0, _ => rfl
  | k + 1, h => by
    show wc T p k * 256 + T (p + k) = wc U q k * 256 + U (q + k)
    rw [wc_cg k (fun j hj => h j (by omega)), h k (by omega)]
theorem wc_63 {T : Nat → Nat} {p k : Nat} (hT : ∀ j, T j < 256) (h0 : T p < 128) (hk : k ≤ 8) : wc T p k < 2 ^ 63 := by
  cases k with
  | zero => show 0 < 2 ^ 63; omega
  | succ m =>
    have t1 := wc_b2 hT h0 m
    have t2 : 256 ^ m ≤ 256 ^ 7 := Nat.pow_le_pow_right (by decide) (by omega)
    have t3 : 128 * 256 ^ 7 = 2 ^ 63 := by decide
    omega
theorem KW_63 : ∀ w, w < 19 → wc (uC w) 0 (stL w) < 2 ^ 63 := by decide +kernel
theorem code_iff {T : Nat → Nat} {n p w : Nat} (oT : okT T) (hp : p ≤ n) (hw : w < 19) (hk : tK T n p = 2) : wd6 T p (tE T n p - p) = KW w ↔ spl T p (tE T n p) w = true := by
  have hpn : p < n := by
    by_cases z : p < n
    · exact z
    · unfold tK at hk; rw [if_pos (by omega)] at hk; omega
  have hl : lt T p = true := by
    unfold tK at hk
    rw [if_neg (by omega)] at hk
    by_cases z : lt T p = true
    · exact z
    · rw [if_neg z] at hk
      split at hk
      · split at hk <;> omega
      · split at hk <;> omega
  have eE : tE T n p = adT (lt T) n p := by unfold tE; rw [if_neg (by omega), if_pos hl]
  have hle := adT_le (P := lt T) hp
  have hlet : ∀ j, j < tE T n p - p → 97 ≤ T (p + j) ∧ T (p + j) ≤ 122 := fun j hj => of_decide_eq_true (adT_in (P := lt T) (n := n) (i := p) (show p ≤ p + j by omega) (by rw [← eE]; omega))
  have h0 : T p < 128 := by
    have : 97 ≤ T p ∧ T p ≤ 122 := of_decide_eq_true hl
    omega
  have hL := stL_8 w hw
  rw [spl_iff]
  unfold wd6
  by_cases z : tE T n p - p ≤ 8
  · rw [if_pos z]
    unfold KW
    rw [i64_eq (wc_63 oT h0 z) (KW_63 w hw)]
    constructor
    · intro h
      obtain ⟨h1, h2⟩ := wc_inj _ _ (fun j hj => by have := hlet j hj; omega) (fun j hj => by have := (uC_ok w hw j hj).2; rw [Nat.zero_add]; omega) h
      refine ⟨h1, fun j hj => ?_⟩
      have := h2 j (by omega)
      rw [Nat.zero_add] at this
      exact this
    · rintro ⟨h1, h2⟩
      rw [h1]
      exact wc_cg _ (fun j hj => by rw [Nat.zero_add]; exact h2 j hj)
  · rw [if_neg z]
    constructor
    · intro h; exact absurd h.symm (KW_ne0 w hw)
    · rintro ⟨h1, -⟩; omega
/-- the code that a line's word has -/
def cdM (b : Mem) : Int64 := if b 269 13 = 2 then wdM b else 0
theorem m_code {b : Mem} {T : Nat → Nat} {n i : Nat} (oT : okT T) (hi : i ≤ n) (hM : MK b T n (pj T n i 0)) {s : Nat} (hs : s < 4) : (∀ w, wrd T n s i = w + 1 → cdM b = KW w) ∧ (wrd T n s i = 0 → ∀ w, fs s ≤ w → w < fs (s + 1) → cdM b ≠ KW w) := by
  obtain ⟨-, -, h13, -, hw⟩ := hM
  have hfs := fs_b s hs
  have hk := tK_lt (T := T) (n := n) (p := pj T n i 0)
  by_cases z : tK T n (pj T n i 0) = 2
  · have e : cdM b = wd6 T (pj T n i 0) (tE T n (pj T n i 0) - pj T n i 0) := by unfold cdM; rw [if_pos (by rw [h13, z]; rfl)]; exact hw z
    have ew : wrd T n s i = wdS T s (pj T n i 0) (tE T n (pj T n i 0)) := if_pos z
    constructor
    · intro w h
      obtain ⟨-, -, -, h4, h5⟩ := wrd_lt hs h
      rw [e]; exact (code_iff oT (pj_le hi 0) h4 z).mpr h5
    · intro h w h1 h2
      rw [ew] at h
      have := fnw_0 _ _ h w h1 (by omega)
      rw [e]
      intro q
      rw [(code_iff oT (pj_le hi 0) (by omega) z).mp q] at this
      exact absurd this (by decide)
  · have e : cdM b = 0 := by unfold cdM; rw [if_neg (by rw [h13]; exact lit_ne (m := 2) z (by omega) (by omega))]
    have ew : wrd T n s i = 0 := if_neg z
    constructor
    · intro w h; rw [ew] at h; exact absurd h (by omega)
    · intro _ w h1 h2; rw [e]; exact (KW_ne0 w (by omega)).symm
/-! faults -/
def FS (b : Mem) (fk fp : Nat) : Prop := fk ≤ 3 ∧ b 269 17 = nI fk ∧ (fk ≠ 0 → b 269 18 = nI fp)
def jF (j : Nat) : Prop := j = 17 ∨ j = 18
/-- the first fault stays -/
def af (c : Bool) (k p : Nat) (f : Nat × Nat) : Nat × Nat := if c = true ∧ f.1 = 0 then (k, p) else f
theorem m_add {b : Mem} {f : Nat × Nat} {k x : Nat} (hF : FS b f.1 f.2) (hk : 1 ≤ k ∧ k ≤ 3) (hx : x < 1000) (hlt : f.1 ≠ 0 → f.2 < x) : ∃ b', fX12_addsFault (nI k) (nI x) b = some b' ∧ FS b' (af true k x f).1 (af true k x f).2 ∧ frm jF b b' := by
  obtain ⟨h1, h2, h3⟩ := hF
  unfold fX12_addsFault af
  rw [h2]
  by_cases z : f.1 = 0
  · rw [if_pos (by rw [z]; rfl), if_pos ⟨rfl, z⟩]
    exact ⟨_, rfl, ⟨hk.2, by rw [st2_o _ _ (by omega), st2_eq], fun _ => st2_eq _ _ _ _⟩, (frm.st (js := jF) (Or.inl rfl)).tr (frm.st (js := jF) (Or.inr rfl))⟩
  · have hl := hlt z
    rw [if_neg (ne0 z (by omega)), if_neg (show ¬ nI x < b 269 18 by rw [h3 z, lt_nn (by omega) (by omega)]; omega), if_neg (show ¬ nI x = b 269 18 by rw [h3 z, eq_nn (by omega) (by omega)]; omega), if_neg (fun q => z q.2)]
    exact ⟨b, rfl, ⟨h1, h2, h3⟩, frm.rf⟩
theorem tN_b {T : Nat → Nat} {n p : Nat} (h : tK T n p = 3) : tN T n p ≤ 99 := by
  have hd : adT (dg T) n p - p ≤ 2 := by
    by_cases z : adT (dg T) n p - p ≤ 2
    · exact z
    · unfold tK at h
      rw [if_neg z] at h
      split at h
      · omega
      · split at h
        · omega
        · split at h
          · omega
          · split at h <;> omega
  unfold tN
  refine nd_b hd (fun j hj => ?_)
  have h1 : 48 ≤ T (p + j) ∧ T (p + j) ≤ 57 := of_decide_eq_true (adT_in (P := dg T) (n := n) (i := p) (show p ≤ p + j by omega) (by omega))
  exact h1.2
def inR (v l h : Nat) : Bool := decide (l ≤ v ∧ v ≤ h)
def jK (j : Nat) : Prop := jT j ∨ jF j ∨ j = 21
def frK2 (b b' : Mem) : Prop := (∀ j, ¬ jK j → b' 269 j = b 269 j) ∧ ∀ m, m ≠ 269 → m ≠ 280 → b' m = b m
theorem frK2.tr {b b' b'' : Mem} (h : frK2 b b') (h2 : frK2 b' b'') : frK2 b b'' := ⟨fun j hj => (h2.1 j hj).trans (h.1 j hj), fun m h1 h3 => (h2.2 m h1 h3).trans (h.2 m h1 h3)⟩
theorem frK2.of {js : Nat → Prop} {b b' : Mem} (h : frm js b b') (e : ∀ j, js j → jK j) : frK2 b b' := ⟨fun j hj => h.1 j (fun z => hj (e j z)), fun m hm _ => h.2 m hm⟩
theorem FS.c {b b' : Mem} {fk fp : Nat} (h : FS b fk fp) (e1 : b' 269 17 = b 269 17) (e2 : b' 269 18 = b 269 18) : FS b' fk fp := ⟨h.1, e1.trans h.2.1, fun q => e2.trans (h.2.2 q)⟩
set_option maxHeartbeats 1000000 in
theorem m_take {b : Mem} {T : Nat → Nat} {n i j x l h : Nat} {f : Nat × Nat} (oT : okT T) (hn : n ≤ 600) (hi : i ≤ n) (hM : MK b T n (pj T n i j)) (hx : x < 3) (hl : l < 1000) (hh : h < 1000) (hK : tK T n (pj T n i j) = 3) (hF : FS b f.1 f.2) (hlt : f.1 ≠ 0 → f.2 < pj T n i j) :
    ∃ b', fX12_take (nI x) (nI l) (nI h) b = some (true, b') ∧ MK b' T n (pj T n i (j + 1)) ∧ FS b' (af (!inR (tN T n (pj T n i j)) l h) 2 (pj T n i j) f).1 (af (!inR (tN T n (pj T n i j)) l h) 2 (pj T n i j) f).2 ∧ b' 280 x = nI (tN T n (pj T n i j)) ∧ (∀ k, k ≠ x → b' 280 k = b 280 k) ∧ (inR (tN T n (pj T n i j)) l h = true → b' 269 21 = b 269 21) ∧ frK2 b b' := by
  have hp := pj_le (T := T) hi j
  obtain ⟨h1, h2, h3, h4, h5⟩ := hM
  have e14 := h4 hK
  have hv : tN T n (pj T n i j) ≤ 99 := tN_b hK
  generalize hv' : tN T n (pj T n i j) = v at *
  unfold fX12_take
  rw [if_pos (by rw [h3, hK]; rfl), inb_T hx (by omega), gdT, nI_ck (by omega), e14, st2_o _ _ (show ¬ (269 = 280 ∧ 14 = x) by omega), e14]
  generalize hc : st2 b 280 x (nI v) = c
  have c9 : c 269 = b 269 := by rw [← hc, st2_c _ _ (by omega)]
  have cx : c 280 x = nI v := by rw [← hc, st2_eq]
  have co : ∀ k, k ≠ x → c 280 k = b 280 k := fun k hk => by rw [← hc, st2_o _ _ (by omega)]
  have cm : ∀ m, m ≠ 280 → c m = b m := fun m hm => by rw [← hc, st2_c _ _ hm]
  clear hc
  rw [f_in, bq]
  dsimp only
  have hin : decide (¬ nI v < nI l ∧ ¬ nI h < nI v) = inR v l h := by
    unfold inR
    refine decide_eq_decide.mpr ?_
    rw [lt_nn (by omega) (by omega), lt_nn (by omega) (by omega)]; omega
  rw [hin]
  have hq : ∃ d, ((if inR v l h = true then (some c) else ((fX12_addsFault 2 (c 269 12) c).bind fun q5 => some (st2 q5 269 21 0))) : Option Mem) = some d ∧ FS d (af (!inR v l h) 2 (pj T n i j) f).1 (af (!inR v l h) 2 (pj T n i j) f).2 ∧ (inR v l h = true → d 269 21 = c 269 21) ∧ frm (fun k => jF k ∨ k = 21) c d := by
    have hFc : FS c f.1 f.2 := hF.c (by rw [c9]) (by rw [c9])
    cases z : inR v l h
    · obtain ⟨d, d1, d2, d3⟩ := m_add (k := 2) (x := pj T n i j) hFc (by omega) (by omega) hlt
      have d1' : fX12_addsFault 2 (c 269 12) c = some d := by rw [c9, h2]; exact d1
      rw [if_neg (by decide), d1', bq]
      refine ⟨_, rfl, d2.c (st2_o _ _ (by omega)) (st2_o _ _ (by omega)), fun q => absurd q (by decide), (d3.mono (fun k hk => Or.inl hk)).tr (frm.st (Or.inr rfl))⟩
    · rw [if_pos rfl]
      refine ⟨c, rfl, ?_, fun _ => rfl, frm.rf⟩
      unfold af
      rw [if_neg (fun q => absurd q.1 (by decide))]
      exact hFc
  obtain ⟨d, d1, d2, d3, d4⟩ := hq
  rw [d1, bq]
  have dM : MIt d T n (tE T n (pj T n i j)) := h1.f (by rw [d4.2 _ (by omega), cm _ (by omega)]) (by rw [d4.1 11 (by unfold jF; omega), c9]) (by rw [d4.1 10 (by unfold jF; omega), c9])
  obtain ⟨e, e1, e2, e3⟩ := m_tok oT hn (tE_le hp).2.1 dM
  rw [e1, bq]
  refine ⟨e, rfl, e2, d2.c (e3.1 17 (by unfold jT; omega)) (e3.1 18 (by unfold jT; omega)), by rw [e3.2 _ (by omega), d4.2 _ (by omega)]; exact cx, fun k hk => by rw [e3.2 _ (by omega), d4.2 _ (by omega)]; exact co k hk, fun q => by rw [e3.1 21 (by unfold jT; omega), d3 q, c9], ?_⟩
  refine ⟨fun k hk => ?_, fun m m1 m2 => by rw [e3.2 m m1, d4.2 m m1, cm m m2]⟩
  rw [e3.1 k (fun q => hk (Or.inl q)), d4.1 k (fun q => hk (q.elim (fun z => Or.inr (Or.inl z)) (fun z => Or.inr (Or.inr z)))), c9]
