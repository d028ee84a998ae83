/-! ===== weave: what two tasks come to ===== -/
/-- workers alike: what they show is the same -/
def eqL (L K : F2) : Prop := (L 0 0 = K 0 0 ∧ L 0 2 = K 0 2 ∧ L 0 3 = K 0 3 ∧ L 0 4 = K 0 4 ∧ L 0 6 = K 0 6 ∧ L 0 7 = K 0 7 ∧ L 0 8 = K 0 8) ∧ ∀ k, ((L 0 6).testBit k = true → L 1 k = K 1 k) ∧ ((L 0 7).testBit k = true → L 2 k = K 2 k) ∧ ((L 0 8).testBit k = true → L 3 k = K 3 k)
theorem eqL.evw {G L K : F2} (h : eqL L K) (k : Nat) : vw G L k = vw G K k := by
  unfold vw
  rw [← h.1.2.2.2.2.2.2]
  by_cases z : (L 0 8).testBit k = true
  · rw [if_pos z, if_pos z]; exact (h.2 k).2.2 z
  · rw [if_neg z, if_neg z]
theorem eqL.rd {G L K : F2} (h : eqL L K) (k : Nat) : eqL (nRd G k L) (nRd G k K) := by
  obtain ⟨⟨h0, h2, h3, h4, h6, h7, h8⟩, hk⟩ := h
  unfold nRd
  rw [← h6]
  by_cases z : (L 0 6).testBit k = true
  · rw [if_pos z, if_pos z]; exact ⟨⟨h0, h2, h3, h4, h6, h7, h8⟩, hk⟩
  · rw [if_neg z, if_neg z]
    refine ⟨⟨?_, ?_, ?_, ?_, ?_, ?_, ?_⟩, fun j => ⟨fun y => ?_, fun y => ?_, fun y => ?_⟩⟩
    · rw [up_o _ (by omega), up_o _ (by omega), up_o _ (by omega), up_o _ (by omega)]; exact h0
    · rw [up_o _ (by omega), up_o _ (by omega), up_o _ (by omega), up_o _ (by omega)]; exact h2
    · rw [up_o _ (by omega), up_o _ (by omega), up_o _ (by omega), up_o _ (by omega)]; exact h3
    · rw [up_o _ (by omega), up_o _ (by omega), up_o _ (by omega), up_o _ (by omega)]; exact h4
    · rw [up_o _ (by omega), up_e, up_o _ (by omega), up_e]
    · rw [up_o _ (by omega), up_o _ (by omega), up_o _ (by omega), up_o _ (by omega)]; exact h7
    · rw [up_o _ (by omega), up_o _ (by omega), up_o _ (by omega), up_o _ (by omega)]; exact h8
    · rw [up_o _ (by omega), up_e, or_bit] at y
      by_cases e : j = k
      · subst e; rw [up_e, up_e]
      · rw [up_o _ (by omega), up_o _ (by omega), up_o _ (by omega), up_o _ (by omega)]; exact (hk j).1 (y.resolve_right e)
    · rw [up_o _ (by omega), up_o _ (by omega)] at y
      rw [up_o _ (by omega), up_o _ (by omega), up_o _ (by omega), up_o _ (by omega)]; exact (hk j).2.1 y
    · rw [up_o _ (by omega), up_o _ (by omega)] at y
      rw [up_o _ (by omega), up_o _ (by omega), up_o _ (by omega), up_o _ (by omega)]; exact (hk j).2.2 y
theorem eqL.egd {G L K : F2} (h : eqL L K) (k : Nat) : eqL (nGd G k L) (nGd G k K) := by
  obtain ⟨⟨h0, h2, h3, h4, h6, h7, h8⟩, hk⟩ := h
  unfold nGd
  rw [← h7]
  by_cases z : (L 0 7).testBit k = true
  · rw [if_pos z, if_pos z]; exact ⟨⟨h0, h2, h3, h4, h6, h7, h8⟩, hk⟩
  · rw [if_neg z, if_neg z]
    refine ⟨⟨?_, ?_, ?_, ?_, ?_, ?_, ?_⟩, fun j => ⟨fun y => ?_, fun y => ?_, fun y => ?_⟩⟩
    · rw [up_o _ (by omega), up_o _ (by omega), up_o _ (by omega), up_o _ (by omega)]; exact h0
    · rw [up_o _ (by omega), up_o _ (by omega), up_o _ (by omega), up_o _ (by omega)]; exact h2
    · rw [up_o _ (by omega), up_o _ (by omega), up_o _ (by omega), up_o _ (by omega)]; exact h3
    · rw [up_o _ (by omega), up_o _ (by omega), up_o _ (by omega), up_o _ (by omega)]; exact h4
    · rw [up_o _ (by omega), up_o _ (by omega), up_o _ (by omega), up_o _ (by omega)]; exact h6
    · rw [up_o _ (by omega), up_e, up_o _ (by omega), up_e]
    · rw [up_o _ (by omega), up_o _ (by omega), up_o _ (by omega), up_o _ (by omega)]; exact h8
    · rw [up_o _ (by omega), up_o _ (by omega)] at y
      rw [up_o _ (by omega), up_o _ (by omega), up_o _ (by omega), up_o _ (by omega)]; exact (hk j).1 y
    · rw [up_o _ (by omega), up_e, or_bit] at y
      by_cases e : j = k
      · subst e; rw [up_e, up_e]
      · rw [up_o _ (by omega), up_o _ (by omega), up_o _ (by omega), up_o _ (by omega)]; exact (hk j).2.1 (y.resolve_right e)
    · rw [up_o _ (by omega), up_o _ (by omega)] at y
      rw [up_o _ (by omega), up_o _ (by omega), up_o _ (by omega), up_o _ (by omega)]; exact (hk j).2.2 y
theorem eqL.sm3 {L K : F2} (h : eqL L K) {v : Nat} : eqL (up L 0 3 v) (up K 0 3 v) := by
  obtain ⟨⟨h0, h2, h3, h4, h6, h7, h8⟩, hk⟩ := h
  refine ⟨⟨?_, ?_, ?_, ?_, ?_, ?_, ?_⟩, fun j => ?_⟩
  · rw [up_o _ (by omega), up_o _ (by omega)]; exact h0
  · rw [up_o _ (by omega), up_o _ (by omega)]; exact h2
  · rw [up_e, up_e]
  · rw [up_o _ (by omega), up_o _ (by omega)]; exact h4
  · rw [up_o _ (by omega), up_o _ (by omega)]; exact h6
  · rw [up_o _ (by omega), up_o _ (by omega)]; exact h7
  · rw [up_o _ (by omega), up_o _ (by omega)]; exact h8
  · rw [up_o _ (by omega), up_o _ (by omega), up_o _ (by omega), up_o _ (by omega), up_o _ (by omega), up_o _ (by omega), up_o _ (by omega), up_o _ (by omega), up_o _ (by omega)]; exact hk j
theorem eqL.sm2 {L K : F2} (h : eqL L K) {v : Nat} : eqL (up L 0 2 v) (up K 0 2 v) := by
  obtain ⟨⟨h0, h2, h3, h4, h6, h7, h8⟩, hk⟩ := h
  refine ⟨⟨?_, ?_, ?_, ?_, ?_, ?_, ?_⟩, fun j => ?_⟩
  · rw [up_o _ (by omega), up_o _ (by omega)]; exact h0
  · rw [up_e, up_e]
  · rw [up_o _ (by omega), up_o _ (by omega)]; exact h3
  · rw [up_o _ (by omega), up_o _ (by omega)]; exact h4
  · rw [up_o _ (by omega), up_o _ (by omega)]; exact h6
  · rw [up_o _ (by omega), up_o _ (by omega)]; exact h7
  · rw [up_o _ (by omega), up_o _ (by omega)]; exact h8
  · rw [up_o _ (by omega), up_o _ (by omega), up_o _ (by omega), up_o _ (by omega), up_o _ (by omega), up_o _ (by omega), up_o _ (by omega), up_o _ (by omega), up_o _ (by omega)]; exact hk j
theorem eqL.wr {L K : F2} (h : eqL L K) {n v : Nat} : eqL (wrt n v L) (wrt n v K) := by
  obtain ⟨⟨h0, h2, h3, h4, h6, h7, h8⟩, hk⟩ := h
  unfold wrt
  refine ⟨⟨?_, ?_, ?_, ?_, ?_, ?_, ?_⟩, fun j => ⟨fun y => ?_, fun y => ?_, fun y => ?_⟩⟩
  · rw [up_o _ (by omega), up_o _ (by omega), up_o _ (by omega), up_o _ (by omega)]; exact h0
  · rw [up_o _ (by omega), up_o _ (by omega), up_o _ (by omega), up_o _ (by omega)]; exact h2
  · rw [up_o _ (by omega), up_o _ (by omega), up_o _ (by omega), up_o _ (by omega)]; exact h3
  · rw [up_o _ (by omega), up_o _ (by omega), up_o _ (by omega), up_o _ (by omega)]; exact h4
  · rw [up_o _ (by omega), up_o _ (by omega), up_o _ (by omega), up_o _ (by omega)]; exact h6
  · rw [up_o _ (by omega), up_o _ (by omega), up_o _ (by omega), up_o _ (by omega)]; exact h7
  · rw [up_o _ (by omega), up_e, up_o _ (by omega), up_e, h8]
  · rw [up_o _ (by omega), up_o _ (by omega)] at y
    rw [up_o _ (by omega), up_o _ (by omega), up_o _ (by omega), up_o _ (by omega)]; exact (hk j).1 y
  · rw [up_o _ (by omega), up_o _ (by omega)] at y
    rw [up_o _ (by omega), up_o _ (by omega), up_o _ (by omega), up_o _ (by omega)]; exact (hk j).2.1 y
  · rw [up_o _ (by omega), up_e, or_bit] at y
    by_cases e : j = n
    · subst e; rw [up_e, up_e]
    · rw [up_o _ (by omega), up_o _ (by omega), up_o _ (by omega), up_o _ (by omega)]; exact (hk j).2.2 (y.resolve_right e)
theorem eqL.elk {G L K : F2} (h : eqL L K) {sp k : Nat} : eqL (lk sp G k L) (lk sp G k K) := by
  unfold lk
  rw [h.evw, h.1.2.2.1]
  refine eqL.sm3 ?_
  unfold lkA
  rw [← h.1.2.2.2.2.2.2]
  by_cases z : (L 0 8).testBit k = true
  · rw [if_pos z, if_pos z]; exact h
  · rw [if_neg z, if_neg z]
    by_cases z2 : G 0 k = 0
    · rw [if_pos z2, if_pos z2]; exact h.egd _
    · rw [if_neg z2, if_neg z2]; exact h.rd _
theorem eqL.it {f : Nat → F2 → F2} (hf : ∀ k L K, eqL L K → eqL (f k L) (f k K)) {L K : F2} (h : eqL L K) {i : Nat} : ∀ n, eqL (itr f i n L) (itr f i n K)
  | 0 => h
  | n + 1 => hf _ _ _ (eqL.it hf h n)
theorem eqL.st {G L K : F2} (h : eqL L K) {sp w k o : Nat} : eqL (stp sp G w k o L) (stp sp G w k o K) := by
  unfold stp
  split
  · exact h.elk
  · split
    · exact h.wr
    · split
      · rw [h.1.2.2.1]; exact h.wr
      · split
        · exact h.wr
        · split
          · rw [h.elk.evw]; exact h.elk.wr
          · unfold scn
            refine eqL.it (fun k L K hh => ?_) (eqL.it (fun k L K hh => hh.egd k) h _) _
            unfold lkT
            rw [hh.evw]
            split
            · exact hh
            · exact hh.elk
theorem eqL.ds {G B L K : F2} (h : eqL L K) {sp : Nat} : eqL (dst sp G B L) (dst sp G B K) := by
  unfold dst
  rw [h.1.1, h.1.2.1]
  exact h.st.sm2
theorem eqL.rn {G B L K : F2} (h : eqL L K) {sp : Nat} : ∀ n, eqL (run sp G B n L) (run sp G B n K)
  | 0 => h
  | n + 1 => by rw [run_S, run_S]; exact (eqL.rn h n).ds
theorem eqL.estl {G L K : F2} (h : eqL L K) : stl G L = stl G K := by
  unfold stl
  refine fnd_cg _ (fun k _ => ?_)
  rw [← h.1.2.2.2.2.1]
  cases z : (L 0 6).testBit k
  · rfl
  · rw [(h.2 k).1 z]
theorem eqL.epha {G L K : F2} (h : eqL L K) : pha G L = pha G K := by
  unfold pha
  refine fnd_cg _ (fun k _ => ?_)
  rw [← h.1.2.2.2.2.2.1]
  cases z : (L 0 7).testBit k
  · rfl
  · rw [(h.2 k).2.1 z]
theorem eqL.enxt {G L K : F2} (h : eqL L K) {e : Nat} : nxt G L e = nxt G K e := by
  unfold nxt
  rw [h.1.2.2.2.1, h.1.2.2.2.2.1, h.1.2.2.2.2.2.2]
/-- keys behind a commit -/
def cmG (sp x : Nat) (L : F2) (n : Nat) (G : F2) : F2 := itr (fun k G => if (L 0 8).testBit k = true then wrG sp x k (L 3 k) G else G) 0 n G
theorem eqL.cm {L K : F2} (h : eqL L K) {sp x n : Nat} {G : F2} : cmG sp x L n G = cmG sp x K n G := by
  unfold cmG
  refine itr_cgX _ (fun k _ G => ?_)
  rw [← h.1.2.2.2.2.2.2]
  by_cases z : (L 0 8).testBit k = true
  · rw [if_pos z, if_pos z, (h.2 k).2.2 z]
  · rw [if_neg z, if_neg z]
theorem brI_G {sp d x : Nat} {L : F2} {q : Nat × F2} (h1 : 1 ≤ sp) : ∀ n, n ≤ 10 → gG (itr (brS sp d x L) 0 n q).2 = cmG sp x L n (gG q.2)
  | 0, _ => rfl
  | n + 1, h => by
    have ih := brI_G (d := d) (L := L) (q := q) (x := x) h1 n (by omega)
    rw [itr_S]
    unfold cmG at ih ⊢
    rw [itr_S, ← ih]
    generalize itr (brS sp d x L) 0 n q = Q
    by_cases z : (L 0 8).testBit n = true
    · rw [if_pos z, gG_br (by omega) z h1]
    · rw [if_neg z]
      unfold brS; rw [if_neg z]
/-- refused or not -/
def vrd (G L : F2) : Nat := if stl G L = 0 then (if pha G L = 0 then 1 else 3) else 2
theorem eqL.vr {G L K : F2} (h : eqL L K) : vrd G L = vrd G K := by unfold vrd; rw [h.estl, h.epha]
/-- what was read from a store that has not changed -/
def frs (G L : F2) : Prop := (∀ k, k < 10 → (L 0 6).testBit k = true → G 0 k ≠ 0 ∧ G 1 k = L 1 k) ∧ ∀ k, k < 10 → (L 0 7).testBit k = true → G 2 k = L 2 k
theorem frs.vr {G L : F2} (h : frs G L) : stl G L = 0 ∧ pha G L = 0 := by
  refine ⟨fnd_no _ (fun k hk z => ?_), fnd_no _ (fun k hk z => ?_)⟩
  · rw [Bool.and_eq_true, Bool.or_eq_true, decide_eq_true_eq, decide_eq_true_eq] at z
    have := h.1 k hk z.1
    rcases z.2 with y | y
    · exact this.1 y
    · exact y this.2
  · rw [Bool.and_eq_true, decide_eq_true_eq] at z
    exact z.2 (h.2 k hk z.1)
theorem frs.cg {G L K : F2} (h : frs G L) (e6 : K 0 6 = L 0 6) (e7 : K 0 7 = L 0 7) (e1 : K 1 = L 1) (e2 : K 2 = L 2) : frs G K := by
  unfold frs; rw [e6, e7, e1, e2]; exact h
theorem frs.fgd {G L : F2} (h : frs G L) (n : Nat) : frs G (nGd G n L) := by
  unfold nGd; split
  · exact h
  · refine ⟨fun k hk z => ?_, fun k hk z => ?_⟩
    · rw [up_o _ (by omega), up_o _ (by omega)] at z
      rw [up_o _ (by omega), up_o _ (by omega)]; exact h.1 k hk z
    · rw [up_o _ (by omega), up_e, or_bit] at z
      by_cases e : k = n
      · rw [e, up_e]
      · rw [up_o _ (by omega), up_o _ (by omega)]; exact h.2 k hk (z.resolve_right e)
theorem frs.rd {G L : F2} (h : frs G L) {n : Nat} (hn : G 0 n ≠ 0) : frs G (nRd G n L) := by
  unfold nRd; split
  · exact h
  · refine ⟨fun k hk z => ?_, fun k hk z => ?_⟩
    · rw [up_o _ (by omega), up_e, or_bit] at z
      by_cases e : k = n
      · rw [e, up_e]; exact ⟨hn, rfl⟩
      · rw [up_o _ (by omega), up_o _ (by omega)]; exact h.1 k hk (z.resolve_right e)
    · rw [up_o _ (by omega), up_o _ (by omega)] at z
      rw [up_o _ (by omega), up_o _ (by omega)]; exact h.2 k hk z
theorem frs.flk {G L : F2} (h : frs G L) {sp k : Nat} : frs G (lk sp G k L) := by
  have h2 : frs G (lkA sp G k L) := by
    unfold lkA; split
    · exact h
    · split
      · exact h.fgd _
      · rename_i z; exact h.rd z
  unfold lk
  exact h2.cg (up_o _ (by omega)) (up_o _ (by omega)) (up_c _ (by omega)) (up_c _ (by omega))
theorem frs.wr {G L : F2} (h : frs G L) {n v : Nat} : frs G (wrt n v L) := by
  unfold wrt
  refine h.cg ?_ ?_ ?_ ?_
  · rw [up_o _ (by omega), up_o _ (by omega)]
  · rw [up_o _ (by omega), up_o _ (by omega)]
  · rw [up_c _ (by omega), up_c _ (by omega)]
  · rw [up_c _ (by omega), up_c _ (by omega)]
theorem frs.it {G : F2} {f : Nat → F2 → F2} (hf : ∀ k L, frs G L → frs G (f k L)) {L : F2} (h : frs G L) {i : Nat} : ∀ n, frs G (itr f i n L)
  | 0 => h
  | n + 1 => hf _ _ (frs.it hf h n)
theorem frs.ds {G B L : F2} (h : frs G L) {sp : Nat} : frs G (dst sp G B L) := by
  have h2 : ∀ w k o, frs G (stp sp G w k o L) := fun w k o => by
    unfold stp
    split
    · exact h.flk
    · split
      · exact h.wr
      · split
        · exact h.wr
        · split
          · exact h.wr
          · split
            · exact h.flk.wr
            · unfold scn
              refine frs.it (fun k L hh => ?_) (frs.it (fun k L hh => hh.fgd k) h _) _
              unfold lkT; split
              · exact hh
              · exact hh.flk
  unfold dst
  exact (h2 _ _ _).cg (up_o _ (by omega)) (up_o _ (by omega)) (up_c _ (by omega)) (up_c _ (by omega))
theorem frs.rn {G B L : F2} (h : frs G L) {sp : Nat} : ∀ n, frs G (run sp G B n L)
  | 0 => h
  | n + 1 => by rw [run_S]; exact (frs.rn h n).ds
theorem frs.emp {G L : F2} (h : empL L) : frs G L := ⟨fun k _ z => by rw [h.2.1, Nat.zero_testBit] at z; exact absurd z (by decide), fun k _ z => by rw [h.2.2.1, Nat.zero_testBit] at z; exact absurd z (by decide)⟩
/-- the later one's verdict: te commits behind all its steps, tl has done i -/
def wvd (sp : Nat) (B : F2) (c : Nat → Nat) (te tl i : Nat) : Nat :=
  vrd (cmG sp (nxt (G0 c) (run sp (G0 c) B (B 1 te) (L0 te)) 1) (run sp (G0 c) B (B 1 te) (L0 te)) 10 (G0 c)) (run sp (cmG sp (nxt (G0 c) (run sp (G0 c) B (B 1 te) (L0 te)) 1) (run sp (G0 c) B (B 1 te) (L0 te)) 10 (G0 c)) B (B 1 tl - i) (run sp (G0 c) B i (L0 tl)))
