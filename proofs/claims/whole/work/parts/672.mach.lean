/-! ===== a run of deeds: the engine's cells 146 .. 233 as numbers ===== -/
def vc (c j : Nat) : Prop := c = 147 ∨ c = 150 ∨ c = 151 ∨ c = 155 ∨ c = 156 ∨ c = 157 ∨ (158 ≤ c ∧ c < 174 ∧ ((c - 158) % 4 = 3 ∨ ((c - 158) % 4 = 0 ∧ j = 0))) ∨ (174 ≤ c ∧ c % 2 = 1)
def CM (a : Mem) (M : Nat → Nat → Nat) : Prop := ∀ c j, 146 ≤ c → c < 234 → (vc c j → a c j = vI (M c j)) ∧ (¬ vc c j → a c j = nI (M c j))
theorem CM.n {a : Mem} {M : Nat → Nat → Nat} (h : CM a M) {c j : Nat} (h1 : 146 ≤ c) (h2 : c < 234) (h3 : ¬ vc c j) : a c j = nI (M c j) := (h c j h1 h2).2 h3
theorem CM.v {a : Mem} {M : Nat → Nat → Nat} (h : CM a M) {c j : Nat} (h1 : 146 ≤ c) (h2 : c < 234) (h3 : vc c j) : a c j = vI (M c j) := (h c j h1 h2).1 h3
theorem nI_back (x : Int32) : x = nI x.toBitVec.toNat := by
  apply Int32.toBitVec_inj.mp
  apply BitVec.eq_of_toNat_eq
  show x.toBitVec.toNat = (BitVec.ofNat 32 x.toBitVec.toNat).toNat
  rw [BitVec.toNat_ofNat, Nat.mod_eq_of_lt x.toBitVec.isLt]
theorem CM.ex (a : Mem) : ∃ M, CM a M := by
  classical
  refine ⟨fun c j => if vc c j then (a c j).toBitVec.toNat + 1 else (a c j).toBitVec.toNat, fun c j _ _ => ⟨fun h => ?_, fun h => ?_⟩⟩
  · dsimp only; rw [if_pos h, vI_s]; exact nI_back _
  · dsimp only; rw [if_neg h]; exact nI_back _
theorem CM.stn {a : Mem} {M : Nat → Nat → Nat} (h : CM a M) {c j x : Nat} (hv : ¬ vc c j) : CM (st2 a c j (nI x)) (up M c j x) := fun c' j' h1 h2 => by
  by_cases e : c' = c ∧ j' = j
  · obtain ⟨rfl, rfl⟩ := e
    rw [st2_eq, up_e]; exact ⟨fun z => absurd z hv, fun _ => rfl⟩
  · rw [st2_o _ _ e, up_o _ e]; exact h c' j' h1 h2
theorem CM.stv {a : Mem} {M : Nat → Nat → Nat} (h : CM a M) {c j x : Nat} (hv : vc c j) : CM (st2 a c j (vI x)) (up M c j x) := fun c' j' h1 h2 => by
  by_cases e : c' = c ∧ j' = j
  · obtain ⟨rfl, rfl⟩ := e
    rw [st2_eq, up_e]; exact ⟨fun _ => rfl, fun z => absurd hv z⟩
  · rw [st2_o _ _ e, up_o _ e]; exact h c' j' h1 h2
/-- a row anew -/
def upr (M : Nat → Nat → Nat) (c n : Nat) (f : Nat → Nat) : Nat → Nat → Nat := fun c' j => if c' = c ∧ j < n then f j else M c' j
theorem upr_k (M : Nat → Nat → Nat) {c n c' j : Nat} {f : Nat → Nat} (h : c' = c ∧ j < n) : upr M c n f c' j = f j := if_pos h
theorem upr_o (M : Nat → Nat → Nat) {c n c' j : Nat} {f : Nat → Nat} (h : ¬ (c' = c ∧ j < n)) : upr M c n f c' j = M c' j := if_neg h
theorem CM.row {a a' : Mem} {M : Nat → Nat → Nat} (h : CM a M) {c n : Nat} {f : Nat → Nat} (h1 : ∀ j, j < n → (vc c j → a' c j = vI (f j)) ∧ (¬ vc c j → a' c j = nI (f j))) (h2 : ∀ j, ¬ j < n → a' c j = a c j) (h3 : ∀ m, m ≠ c → a' m = a m) : CM a' (upr M c n f) := fun c' j h4 h5 => by
  by_cases e : c' = c
  · subst e
    by_cases hj : j < n
    · rw [upr_k _ ⟨rfl, hj⟩]; exact h1 j hj
    · rw [upr_o _ (fun z => hj z.2), h2 j hj]; exact h c' j h4 h5
  · rw [upr_o _ (fun z => e z.1), h3 c' e]; exact h c' j h4 h5
theorem CM.fr {a a' : Mem} {M : Nat → Nat → Nat} (h : CM a M) (h3 : ∀ m, 146 ≤ m → m < 234 → a' m = a m) : CM a' M := fun c j h1 h2 => by rw [h3 c h1 h2]; exact h c j h1 h2
/-- nothing but the run's cells has changed -/
def frK (a a' : Mem) : Prop := ∀ m, ¬ (146 ≤ m ∧ m < 234) → a' m = a m
theorem frK.rf {a : Mem} : frK a a := fun _ _ => rfl
theorem frK.tr {a a' a'' : Mem} (h : frK a a') (h2 : frK a' a'') : frK a a'' := fun m hm => (h2 m hm).trans (h m hm)
theorem frK.st {a : Mem} {c j : Nat} {v : Int32} (h : 146 ≤ c ∧ c < 234) : frK a (st2 a c j v) := fun m hm => st2_c _ _ (by omega)
theorem frK.C {a a' : Mem} (h : frK a a') : frC a a' := fun m hm => h m (by omega)
theorem frK.t {a a' : Mem} (h : frK a a') : tC a a' := fun m h1 h2 => h m (by omega)
theorem fillL (a : Mem) {c N : Nat} (x : Int32) (hN : N < 1000) : ∃ a', fJ7_fill_53178 c N x a = some a' ∧ (∀ j, j < N → a' c j = x) ∧ (∀ j, ¬ j < N → a' c j = a c j) ∧ ∀ m, m ≠ c → a' m = a m := by
  unfold fJ7_fill_53178
  refine loop_k (fun f j (s : Mem) => lJ7_fill_53178_5 c N x (nI N) f (nI j) s) N (fun j s => (∀ k, k < j → s c k = x) ∧ (∀ k, ¬ k < N → s c k = a c k) ∧ ∀ m, m ≠ c → s m = a m) (fun s => (∀ k, k < N → s c k = x) ∧ (∀ k, ¬ k < N → s c k = a c k) ∧ ∀ m, m ≠ c → s m = a m) (Nat.zero_le _) (by omega) (s := a) ⟨fun k hk => absurd hk (by omega), fun _ _ => rfl, fun _ _ => rfl⟩ ?_ ?_ ?_
  · intro r e1 h
    have e1' : lJ7_fill_53178_5 c N x (nI N) FU 0 a = some r := e1
    rw [e1', bq]; exact ⟨r, rfl, h⟩
  · intro f s h
    refine ⟨s, ?_, h⟩
    show lJ7_fill_53178_5 _ _ _ _ _ _ _ = _
    rw [lJ7_fill_53178_5, if_pos (by rw [le_nn (by omega) (by omega)]; omega)]
  · rintro f j s hj ⟨h1, h2, h3⟩
    refine ⟨st2 s c j x, ?_, fun k hk => ?_, fun k hk => ?_, fun m hm => by rw [st2_c _ _ hm]; exact h3 m hm⟩
    · show lJ7_fill_53178_5 _ _ _ _ _ _ _ = lJ7_fill_53178_5 _ _ _ _ _ _ _
      rw [lJ7_fill_53178_5, if_neg (by rw [le_nn (by omega) (by omega)]; omega), inb_T hj (by omega), gdT, nI_ck (by omega), nI_1]
    · by_cases e : k = j
      · subst e; rw [st2_eq]
      · rw [st2_o _ _ (by omega)]; exact h1 k (by omega)
    · rw [st2_o _ _ (by omega)]; exact h2 k hk
theorem CM.filln {a : Mem} {M : Nat → Nat → Nat} (h : CM a M) {c N x : Nat} (hN : N < 1000) (hv : ∀ j, ¬ vc c j) (hc : 146 ≤ c ∧ c < 234) : ∃ a', fJ7_fill_53178 c N (nI x) a = some a' ∧ CM a' (upr M c N (fun _ => x)) ∧ frK a a' := by
  obtain ⟨a', h1, h2, h3, h4⟩ := fillL a (c := c) (nI x) hN
  exact ⟨a', h1, h.row (fun j hj => ⟨fun z => absurd z (hv j), fun _ => h2 j hj⟩) h3 h4, fun m hm => h4 m (by omega)⟩
theorem CM.fillv {a : Mem} {M : Nat → Nat → Nat} (h : CM a M) {c N x : Nat} (hN : N < 1000) (hv : ∀ j, vc c j) (hc : 146 ≤ c ∧ c < 234) : ∃ a', fJ7_fill_53178 c N (vI x) a = some a' ∧ CM a' (upr M c N (fun _ => x)) ∧ frK a a' := by
  obtain ⟨a', h1, h2, h3, h4⟩ := fillL a (c := c) (vI x) hN
  exact ⟨a', h1, h.row (fun j hj => ⟨fun _ => h2 j hj, fun z => absurd (hv j) z⟩) h3 h4, fun m hm => h4 m (by omega)⟩
/-- a worker's own part, the store's rows -/
def gW (M : Nat → Nat → Nat) (W : Nat) : Nat → Nat → Nat := fun f j => if f < 4 then M (W + f) j else 0
def gG (M : Nat → Nat → Nat) : Nat → Nat → Nat := fun f k => if f < 3 then M (147 + f) k else 0
def pt (M : Nat → Nat → Nat) (W : Nat) (L : Nat → Nat → Nat) : Nat → Nat → Nat := fun c j => if W ≤ c ∧ c < W + 4 then L (c - W) j else M c j
def nz (L : Nat → Nat → Nat) : Prop := ∀ f j, 4 ≤ f → L f j = 0
def Wc (w : Nat) : Nat := 158 + 4 * w
theorem gW_e {M : Nat → Nat → Nat} {W f j : Nat} (h : f < 4) : gW M W f j = M (W + f) j := if_pos h
theorem gW_nf {M : Nat → Nat → Nat} {W : Nat} : nz (gW M W) := fun f j h => if_neg (by omega)
theorem pt_o {M L : Nat → Nat → Nat} {W c : Nat} (h : ¬ (W ≤ c ∧ c < W + 4)) : pt M W L c = M c := by funext j; exact if_neg h
theorem pt_k {M L : Nat → Nat → Nat} {W f j : Nat} (h : f < 4) : pt M W L (W + f) j = L f j := by
  unfold pt
  rw [if_pos (by omega), show W + f - W = f by omega]
theorem gW_pt {M L : Nat → Nat → Nat} {W : Nat} (h : nz L) : gW (pt M W L) W = L := by
  funext f j
  by_cases hf : f < 4
  · rw [gW_e hf, pt_k hf]
  · rw [h f j (by omega)]; exact if_neg hf
theorem gW_po {M L : Nat → Nat → Nat} {W V : Nat} (h : V + 4 ≤ W ∨ W + 4 ≤ V) : gW (pt M W L) V = gW M V := by
  funext f j
  by_cases hf : f < 4
  · rw [gW_e hf, gW_e hf, pt_o (by omega)]
  · exact (if_neg hf).trans (if_neg hf).symm
theorem gG_pt {M L : Nat → Nat → Nat} {W : Nat} (h : 158 ≤ W) : gG (pt M W L) = gG M := by
  funext f j
  unfold gG
  by_cases hf : f < 3
  · rw [if_pos hf, if_pos hf, pt_o (by omega)]
  · rw [if_neg hf, if_neg hf]
theorem nz_up {L : Nat → Nat → Nat} (h : nz L) {f j v : Nat} (hf : f < 4) : nz (up L f j v) := fun f' j' h' => by rw [up_o _ (by omega)]; exact h f' j' h'
theorem nz_nGd {G L : Nat → Nat → Nat} (h : nz L) {n : Nat} : nz (nGd G n L) := by
  unfold nGd; split
  · exact h
  · exact nz_up (nz_up h (by omega)) (by omega)
theorem nz_nRd {G L : Nat → Nat → Nat} (h : nz L) {n : Nat} : nz (nRd G n L) := by
  unfold nRd; split
  · exact h
  · exact nz_up (nz_up h (by omega)) (by omega)
theorem nz_lk {G L : Nat → Nat → Nat} (h : nz L) {sp n : Nat} : nz (lk sp G n L) := by
  unfold lk lkA
  refine nz_up ?_ (by omega)
  split
  · exact h
  · split
    · exact nz_nGd h
    · exact nz_nRd h
theorem nz_wrt {L : Nat → Nat → Nat} (h : nz L) {n v : Nat} : nz (wrt n v L) := nz_up (nz_up h (by omega)) (by omega)
theorem nz_lkT {G L : Nat → Nat → Nat} (h : nz L) {sp n : Nat} : nz (lkT sp G n L) := by
  unfold lkT; split
  · exact h
  · exact nz_lk h
theorem nz_itr {f : Nat → (Nat → Nat → Nat) → Nat → Nat → Nat} (hf : ∀ k L, nz L → nz (f k L)) {L : Nat → Nat → Nat} (h : nz L) {i : Nat} : ∀ n, nz (itr f i n L)
  | 0 => h
  | n + 1 => hf _ _ (nz_itr hf h n)
theorem nz_dst {sp : Nat} {G B L : Nat → Nat → Nat} (h : nz L) : nz (dst sp G B L) := by
  unfold dst stp
  refine nz_up ?_ (by omega)
  split
  · exact nz_lk h
  · split
    · exact nz_wrt h
    · split
      · exact nz_wrt h
      · split
        · exact nz_wrt h
        · split
          · exact nz_wrt (nz_lk h)
          · exact nz_itr (fun _ _ h => nz_lkT h) (nz_itr (fun _ _ h => nz_nGd h) h _) _
theorem CM.W {a : Mem} {M : Nat → Nat → Nat} (h : CM a M) {w : Nat} (hw : w < 4) : CW a (Wc w) (gW M (Wc w)) := by
  unfold Wc
  refine ⟨?_, fun j hj => ?_, fun j => ?_, fun j => ?_, fun j => ?_⟩
  · rw [gW_e (by omega)]; exact h.v (by omega) (by omega) (by unfold vc; omega)
  · rw [gW_e (by omega)]; exact h.n (by omega) (by omega) (by unfold vc; omega)
  · rw [gW_e (by omega)]; exact h.n (by omega) (by omega) (by unfold vc; omega)
  · rw [gW_e (by omega)]; exact h.n (by omega) (by omega) (by unfold vc; omega)
  · rw [gW_e (by omega)]; exact h.v (by omega) (by omega) (by unfold vc; omega)
theorem CM.ptW {a a' : Mem} {M L : Nat → Nat → Nat} (h : CM a M) {w : Nat} (hw : w < 4) (h1 : CW a' (Wc w) L) (h2 : frW (Wc w) a a') : CM a' (pt M (Wc w) L) := fun c j h3 h4 => by
  by_cases e : Wc w ≤ c ∧ c < Wc w + 4
  · obtain ⟨f, hf, rfl⟩ : ∃ f, f < 4 ∧ c = Wc w + f := ⟨c - Wc w, by omega, by omega⟩
    rw [pt_k hf]
    rcases (show f = 0 ∨ f = 1 ∨ f = 2 ∨ f = 3 by omega) with rfl | rfl | rfl | rfl
    · by_cases hj : j = 0
      · subst hj; exact ⟨fun _ => h1.t, fun z => absurd (show vc (Wc w + 0) 0 by unfold vc Wc; omega) z⟩
      · exact ⟨fun z => absurd z (by unfold vc Wc; omega), fun _ => h1.n j (by omega)⟩
    · exact ⟨fun z => absurd z (by unfold vc Wc; omega), fun _ => h1.r j⟩
    · exact ⟨fun z => absurd z (by unfold vc Wc; omega), fun _ => h1.g j⟩
    · exact ⟨fun _ => h1.w j, fun z => absurd (show vc (Wc w + 3) j by unfold vc Wc; omega) z⟩
  · rw [show pt M (Wc w) L c = M c from pt_o e, h2 c e]; exact h c j h3 h4
theorem frW.K {a a' : Mem} {w : Nat} (hw : w < 4) (h : frW (Wc w) a a') : frK a a' := fun m hm => h m (by unfold Wc; omega)
theorem CM.G {a : Mem} {M : Nat → Nat → Nat} (h : CM a M) {s sp : Nat} (h1 : M 146 0 = 8 + 14 * s) (h2 : a (8 + 14 * s) 0 = nI sp) : GX a (gG M) s sp := by
  refine ⟨fun k _ => ?_, fun k _ => ?_, fun k _ => ?_, ?_, h2⟩
  · exact h.v (c := 147) (by omega) (by omega) (by unfold vc; omega)
  · exact h.n (c := 148) (by omega) (by omega) (by unfold vc; omega)
  · exact h.n (c := 149) (by omega) (by omega) (by unfold vc; omega)
  · rw [← h1]; exact h.n (by omega) (by omega) (by unfold vc; omega)
/-- what stays over a run: store s, book n -/
def EN (a : Mem) (s sp wk : Nat) (c : Nat → Nat) (n : Nat) (B : Nat → Nat → Nat) : Prop := s < 2 ∧ n < 2 ∧ okS sp wk c ∧ okB B ∧ CSt (a (8 + 14 * s)) (a (8 + 14 * s + 1)) sp wk c ∧ BK a (10 + 14 * n) B
theorem EN.fr {a a' : Mem} {s sp wk n : Nat} {c : Nat → Nat} {B : Nat → Nat → Nat} (h : EN a s sp wk c n B) (hf : ∀ m, m < 146 → a' m = a m) : EN a' s sp wk c n B := by
  obtain ⟨h1, h2, h3, h4, h5, h6⟩ := h
  refine ⟨h1, h2, h3, h4, ?_, ?_⟩
  · rw [hf _ (by omega), hf (8 + 14 * s + 1) (by omega)]; exact h5
  · unfold BK; rw [hf _ (by omega), hf (10 + 14 * n + 1) (by omega), hf (10 + 14 * n + 2) (by omega), hf (10 + 14 * n + 3) (by omega), hf (10 + 14 * n + 4) (by omega)]; exact h6
theorem EN.K {a a' : Mem} {s sp wk n : Nat} {c : Nat → Nat} {B : Nat → Nat → Nat} (h : EN a s sp wk c n B) (hf : frK a a') : EN a' s sp wk c n B := h.fr (fun m hm => hf m (by omega))
/-- a worker takes a task (coded), an epoch -/
def tkL (t e : Nat) (L : Nat → Nat → Nat) : Nat → Nat → Nat := up (up (up (up (up (up (up L 0 0 t) 0 1 e) 0 2 0) 0 3 0) 0 6 0) 0 7 0) 0 8 0
def rsL (d : Nat) (L : Nat → Nat → Nat) : Nat → Nat → Nat := up (up (tkL 0 0 L) 0 4 0) 0 5 d
theorem c_take {a : Mem} {W t e : Nat} {L : Nat → Nat → Nat} (h : CW a W L) : WO (fX10_take W (vI t) (nI e) a) W a (tkL t e L) :=
  ⟨_, rfl, ((((((h.st).s0 (by omega)).s0 (v := 0) (by omega)).s0 (v := 0) (by omega)).s0 (v := 0) (by omega)).s0 (v := 0) (by omega)).s0 (v := 0) (by omega), ((((((frW.st (by omega)).tr (frW.st (by omega))).tr (frW.st (by omega))).tr (frW.st (by omega))).tr (frW.st (by omega))).tr (frW.st (by omega))).tr (frW.st (by omega))⟩
theorem c_rest {a : Mem} {W : Nat} {L : Nat → Nat → Nat} (h : CW a W L) : WO (fX10_rest W a) W a (tkL 0 0 L) := by
  unfold fX10_rest
  exact WO.bind (c_take (t := 0) (e := 0) h) (fun a' h1 _ => WO.rf h1)
theorem c_reset {a : Mem} {W d : Nat} {L : Nat → Nat → Nat} (h : CW a W L) : WO (fX10_reset W (nI d) a) W a (rsL d L) := by
  unfold fX10_reset
  refine WO.bind (c_rest h) (fun a' h1 _ => ?_)
  exact ⟨_, rfl, (h1.s0 (v := 0) (by omega)).s0 (by omega), (frW.st (by omega)).tr (frW.st (by omega))⟩
theorem nz_tk {t e : Nat} {L : Nat → Nat → Nat} (h : nz L) : nz (tkL t e L) := nz_up (nz_up (nz_up (nz_up (nz_up (nz_up (nz_up h (by omega)) (by omega)) (by omega)) (by omega)) (by omega)) (by omega)) (by omega)
theorem nz_rs {d : Nat} {L : Nat → Nat → Nat} (h : nz L) : nz (rsL d L) := nz_up (nz_up (nz_tk h) (by omega)) (by omega)
