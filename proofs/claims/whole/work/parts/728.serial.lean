/-! ===== serial: both enumerations ===== -/
def rwV (B : F2) (tk : Nat → Nat) (c : Nat → Nat) (r : List Nat) : Nat → Nat := r.foldl (fun c t => rA B (tk t) c) c
theorem rwV_s {B : F2} {tk c : Nat → Nat} {r : List Nat} {x : Nat} : rwV B tk c (r ++ [x]) = rA B (tk x) (rwV B tk c r) := by unfold rwV; rw [List.foldl_append]; rfl
theorem okR.rw {B : F2} {tk c : Nat → Nat} (gB : okB B) (h : okR c) : ∀ r : List Nat, okR (rwV B tk c r) := fun r => by
  induction r generalizing c with
  | nil => exact h
  | cons x r ih => exact ih (h.rA gB (tk x))
def vdR (B : F2) (tk c e : Nat → Nat) (r : List Nat) : Bool := eqR (rwV B tk c r) e 10
/-- the engine's rows -/
def SEN (a : Mem) (N n : Nat) (B : F2) (ix tk : Nat → Nat) (e : Nat → Nat) : Prop := a 234 1 = nI N ∧ (∀ j, j < N → a 235 j = nI (174 + 2 * ix j) ∧ ix j < 30 ∧ a (174 + 2 * ix j) 1 = nI (tk j) ∧ tk j < B 0 0) ∧ a 146 1 = nI (10 + 14 * n) ∧ BK a (10 + 14 * n) B ∧ RW a 147 e
def NT (a : Mem) (N : Nat) (q : Nat × List Nat) : Prop := a 234 5 = nI q.1 ∧ (0 < q.1 → ∀ k, k < N → a 245 k = nI (gL q.2 k))
/-- what extend leaves -/
def frE (d : Nat) (a a' : Mem) : Prop := (∀ m, m ≠ 234 → ¬ (237 + d < m ∧ m ≤ 243) → m ≠ 244 → m ≠ 245 → a' m = a m) ∧ (∀ j, j ≠ 5 → a' 234 j = a 234 j) ∧ ∀ j, j < d → a' 244 j = a 244 j
theorem frE.rf {d : Nat} {a : Mem} : frE d a a := ⟨fun _ _ _ _ _ => rfl, fun _ _ => rfl, fun _ _ => rfl⟩
theorem frE.tr {d : Nat} {a a' a'' : Mem} (h : frE d a a') (h2 : frE d a' a'') : frE d a a'' := ⟨fun m m1 m2 m3 m4 => (h2.1 m m1 m2 m3 m4).trans (h.1 m m1 m2 m3 m4), fun j hj => (h2.2.1 j hj).trans (h.2.1 j hj), fun j hj => (h2.2.2 j hj).trans (h.2.2 j hj)⟩
theorem SEN.fr {a a' : Mem} {N n d : Nat} {B : F2} {ix tk e : Nat → Nat} (h : SEN a N n B ix tk e) (hn : n < 2) (f : frE d a a') : SEN a' N n B ix tk e := by
  obtain ⟨h1, h2, h3, h4, h5⟩ := h
  refine ⟨by rw [f.2.1 1 (by omega)]; exact h1, fun j hj => ?_, by rw [f.1 146 (by omega) (by omega) (by omega) (by omega)]; exact h3, ?_, fun k hk => by rw [f.1 147 (by omega) (by omega) (by omega) (by omega)]; exact h5 k hk⟩
  · obtain ⟨u1, u2, u3, u4⟩ := h2 j hj
    exact ⟨by rw [f.1 235 (by omega) (by omega) (by omega) (by omega)]; exact u1, u2, by rw [f.1 _ (by omega) (by omega) (by omega) (by omega)]; exact u3, u4⟩
  · unfold BK; rw [f.1 _ (by omega) (by omega) (by omega) (by omega), f.1 (10 + 14 * n + 1) (by omega) (by omega) (by omega) (by omega), f.1 (10 + 14 * n + 2) (by omega) (by omega) (by omega) (by omega), f.1 (10 + 14 * n + 3) (by omega) (by omega) (by omega) (by omega), f.1 (10 + 14 * n + 4) (by omega) (by omega) (by omega) (by omega)]; exact h4
theorem c_noteRow {a : Mem} {N n : Nat} {B : F2} {ix tk c e : Nat → Nat} {q : Nat × List Nat} {r : List Nat} (h : SEN a N n B ix tk e) (he : okR e) (gB : okB B) (hc : okR c) (hN : N ≤ 6) (hr : r.length = N) (hw : RW a (237 + N) (rwV B tk c r)) (ho : ∀ j, j < N → a 244 j = nI (gL r j)) (hq : NT a N q) (q9 : q.1 < 1000) :
    ∃ a', fX0_noteRow (237 + N) 147 a = some a' ∧ NT a' N (nte (vdR B tk c e) q r) ∧ frE N a a' := by
  unfold fX0_noteRow
  rw [c_sameKeys hw h.2.2.2.2 (hc.rw gB r) he, bq]
  dsimp only
  unfold nte
  show ∃ a', (if vdR B tk c e r = true then _ else _) = _ ∧ _
  obtain ⟨q1, q2⟩ := hq
  by_cases z : vdR B tk c e r = true
  · rw [if_pos z, if_pos z]
    by_cases z0 : q.1 = 0
    · rw [if_pos (show a 234 5 = 0 by rw [q1, z0]; rfl), bq, if_pos z0]
      have e5 : (cp2 a 244 245 0 0 6) 234 5 = nI q.1 := by rw [cp2_c _ (by omega)]; exact q1
      rw [e5, nI_1]
      refine ⟨_, rfl, ⟨st2_eq _ _ _ _, fun _ k hk => ?_⟩, ⟨fun m m1 m2 m3 m4 => by rw [st2_c _ _ m1, cp2_c _ m4], fun j hj => by rw [st2_o _ _ (by omega), cp2_c _ (by omega)], fun j hj => by rw [st2_o _ _ (by omega), cp2_c _ (by omega)]⟩⟩
      rw [st2_o _ _ (by omega), cp2_g, if_pos ⟨rfl, by omega⟩]; exact ho k hk
    · rw [if_neg (show ¬ a 234 5 = 0 by rw [q1]; exact ne0 z0 (by omega)), bq, if_neg z0, q1, nI_1]
      refine ⟨_, rfl, ⟨st2_eq _ _ _ _, fun _ k hk => ?_⟩, ⟨fun m m1 m2 m3 m4 => by rw [st2_c _ _ m1], fun j hj => by rw [st2_o _ _ (by omega)], fun j hj => by rw [st2_o _ _ (by omega)]⟩⟩
      rw [st2_o _ _ (by omega)]; exact q2 (by omega) k hk
  · rw [if_neg z, if_neg z]
    exact ⟨a, rfl, ⟨q1, q2⟩, frE.rf⟩
theorem nte_1 {v : List Nat → Bool} {l : List (List Nat)} {q : Nat × List Nat} : (l.foldl (nte v) q).1 ≤ q.1 + l.length := by
  induction l generalizing q with
  | nil => exact Nat.le_refl _
  | cons x l ih =>
    have := ih (q := nte v q x)
    have h2 : (nte v q x).1 ≤ q.1 + 1 := by unfold nte; split
                                            · exact Nat.le_refl _
                                            · omega
    rw [List.foldl_cons, List.length_cons]; omega
theorem dfc_pre {D : List Nat → List (List Nat)} {pre : List Nat} {c : Nat} : ∀ N, c ≤ N → (dfc D pre c).length ≤ (dfc D pre N).length := by
  intro N
  induction N with
  | zero => intro h; rw [show c = 0 by omega]; exact Nat.le_refl _
  | succ N ih =>
    intro h
    by_cases e : c = N + 1
    · rw [e]; exact Nat.le_refl _
    · have := ih (by omega)
      show _ ≤ (dfc D pre N ++ _).length
      rw [List.length_append]; omega
set_option maxHeartbeats 2000000 in
theorem c_extend {N n : Nat} {B : F2} {ix tk c e : Nat → Nat} (hn : n < 2) (he : okR e) (gB : okB B) (hc : okR c) (hN : N ≤ 6) : ∀ (k fu : Nat) (pre : List Nat) (used : Nat) (a : Mem) (q : Nat × List Nat), k < fu → pre.length + k = N → (∀ j, j < pre.length → a 244 j = nI (gL pre j)) → RW a (237 + pre.length) (rwV B tk c pre) → used < 64 → (∀ x, x < N → (used.testBit x = true ↔ x ∈ pre)) → NT a N q → q.1 + (dfs N k pre).length < 1000 → SEN a N n B ix tk e →
    ∃ a', fX0_extend fu (nI pre.length) (nI used) a = some a' ∧ NT a' N ((dfs N k pre).foldl (nte (vdR B tk c e)) q) ∧ frE pre.length a a' := by
  intro k
  induction k with
  | zero =>
    intro fu pre used a q hf hl ho hw hu hb hq h9 h
    obtain ⟨g, rfl⟩ : ∃ g, fu = g + 1 := ⟨fu - 1, by omega⟩
    have hl' : pre.length = N := by omega
    rw [hl'] at hw ho
    obtain ⟨a', n1, n2, n3⟩ := c_noteRow (c := c) h he gB hc hN hl' hw ho hq (by omega)
    refine ⟨a', ?_, n2, by rw [hl']; exact n3⟩
    rw [fX0_extend, hl', h.1, if_pos (by rw [le_nn (by omega) (by omega)]; omega), inb_T (show N < 7 by omega) (by omega), gdT, nI_ck (by omega), Nat.one_mul, n1, bq]
  | succ k ih =>
    intro fu pre used a q hf hl ho hw hu hb hq h9 h
    obtain ⟨g, rfl⟩ : ∃ g, fu = g + 1 := ⟨fu - 1, by omega⟩
    have hd : pre.length < N := by omega
    rw [fX0_extend, h.1, if_neg (by rw [le_nn (by omega) (by omega)]; omega), if_pos (by rw [li6, lt_nn (by omega) (by omega)]; omega)]
    refine loop_k (fun f x (s : Mem) => lX0_extend_32 (fX0_extend g) (nI pre.length) (nI used) f (nI x) s) N (fun x s => NT s N ((dfc (dfs N k) pre x).foldl (nte (vdR B tk c e)) q) ∧ frE pre.length a s) (fun s => NT s N ((dfc (dfs N k) pre N).foldl (nte (vdR B tk c e)) q) ∧ frE pre.length a s) (Nat.zero_le _) (by omega) (s := a) ⟨hq, frE.rf⟩ ?_ ?_ ?_
    · intro r e1 e2
      have e1' : lX0_extend_32 (fX0_extend g) (nI pre.length) (nI used) FU 0 a = some r := e1
      rw [e1', bq]; exact ⟨r, rfl, e2⟩
    · rintro f s ⟨x1, x2⟩
      refine ⟨s, ?_, x1, x2⟩
      show lX0_extend_32 _ _ _ _ _ _ = _
      rw [lX0_extend_32, (h.fr hn x2).1, if_pos (by rw [le_nn (by omega) (by omega)]; omega)]
    · rintro f x s hx ⟨x1, x2⟩
      have hs := h.fr hn x2
      obtain ⟨u1, u2, u3, u4⟩ := hs.2.1 x hx
      have hnt := nte_1 (v := vdR B tk c e) (l := dfc (dfs N k) pre x) (q := q)
      have hle : (dfc (dfs N k) pre (x + 1)).length ≤ (dfs N (k + 1) pre).length := dfc_pre N (by omega)
      by_cases z : x ∈ pre
      · have ed : dfc (dfs N k) pre (x + 1) = dfc (dfs N k) pre x := by show _ ++ _ = _; rw [if_pos z, List.append_nil]
        refine ⟨s, ?_, by rw [ed]; exact x1, x2⟩
        show lX0_extend_32 _ _ _ _ _ _ = lX0_extend_32 _ _ _ _ _ _
        rw [lX0_extend_32, hs.1, if_neg (by rw [le_nn (by omega) (by omega)]; omega), f_hasBit (by omega) (by omega), bq]
        dsimp only
        rw [if_pos ((hb x hx).mpr z), bq, nI_1]
      · have ed : dfc (dfs N k) pre (x + 1) = dfc (dfs N k) pre x ++ dfs N k (pre ++ [x]) := by show _ ++ _ = _; rw [if_neg z]
        rw [ed, List.length_append] at hle
        have hw' : RW s (237 + pre.length) (rwV B tk c pre) := fun i hi => by rw [x2.1 _ (by omega) (by omega) (by omega) (by omega)]; exact hw i hi
        obtain ⟨s1, v1, v2, v3⟩ := c_copyKeys (y := 237 + (pre.length + 1)) hw'
        have fr1 : frE pre.length s s1 := ⟨fun m m1 m2 m3 m4 => v3 m (by omega), fun j _ => by rw [v3 234 (by omega)], fun j _ => by rw [v3 244 (by omega)]⟩
        have hs1 := hs.fr hn fr1
        obtain ⟨w1, w2, w3, w4⟩ := hs1.2.1 x hx
        obtain ⟨s2, y1, y2, y3⟩ := c_runAlone (m := 237 + (pre.length + 1)) hs1.2.2.2.1 gB (by omega) w4 (hc.rw gB pre) v2
        have fr2 : frE pre.length s1 (st2 s2 244 pre.length (nI x)) := ⟨fun m m1 m2 m3 m4 => by rw [st2_c _ _ m3, y3 m (by omega)], fun j _ => by rw [st2_o _ _ (by omega), y3 234 (by omega)], fun j hj => by rw [st2_o _ _ (by omega), y3 244 (by omega)]⟩
        have fr3 := x2.tr (fr1.tr fr2)
        have e244 : ∀ j, (st2 s2 244 pre.length (nI x)) 244 j = if j = pre.length then nI x else s 244 j := fun j => by
          by_cases ej : j = pre.length
          · rw [ej, st2_eq, if_pos rfl]
          · rw [st2_o _ _ (by omega), y3 244 (by omega), v3 244 (by omega), if_neg ej]
        obtain ⟨s3, z1, z2, z3⟩ := ih g (pre ++ [x]) (used ||| 2 ^ x) (st2 s2 244 pre.length (nI x)) ((dfc (dfs N k) pre x).foldl (nte (vdR B tk c e)) q) (by omega) (by rw [List.length_append]; show pre.length + 1 + k = N; omega) (fun j hj => by
            rw [List.length_append] at hj
            have hj' : j < pre.length + 1 := hj
            rw [e244]
            by_cases ej : j = pre.length
            · rw [if_pos ej, ej, gL_r]
            · rw [if_neg ej, gL_l (by omega), x2.2.2 j (by omega)]; exact ho j (by omega)) (by
            rw [rwV_s, List.length_append]
            intro i hi
            show (st2 s2 244 pre.length (nI x)) (237 + (pre.length + 1)) i = _
            rw [st2_c _ _ (by omega)]; exact y2 i hi) (Nat.or_lt_two_pow (n := 6) hu (Nat.pow_lt_pow_right (by decide) (by omega))) (fun i hi => by
            rw [or_bit, List.mem_append, List.mem_singleton, hb i hi]) (by
            obtain ⟨t1, t2⟩ := x1
            refine ⟨by rw [st2_o _ _ (by omega), y3 234 (by omega), v3 234 (by omega)]; exact t1, fun hp i hi => by rw [st2_o _ _ (by omega), y3 245 (by omega), v3 245 (by omega)]; exact t2 hp i hi⟩) (by omega) (h.fr hn fr3)
        refine ⟨s3, ?_, by rw [ed, List.foldl_append]; exact z2, fr3.tr ⟨fun m m1 m2 m3 m4 => z3.1 m m1 (by rw [List.length_append]; show ¬ (237 + (pre.length + 1) < m ∧ m ≤ 243); omega) m3 m4, z3.2.1, fun j hj => z3.2.2 j (by rw [List.length_append]; show j < pre.length + 1; omega)⟩⟩
        show lX0_extend_32 _ _ _ _ _ _ = lX0_extend_32 _ _ _ _ _ _
        rw [List.length_append] at z1
        have z1' : fX0_extend g (nI (pre.length + 1)) (nI (used ||| 2 ^ x)) (st2 s2 244 pre.length (nI x)) = some s3 := z1
        rw [lX0_extend_32, hs.1, if_neg (by rw [le_nn (by omega) (by omega)]; omega), f_hasBit (by omega) (by omega), bq]
        dsimp only
        rw [if_neg (fun y => z ((hb x hx).mp y)), nI_1, nI_1, inb_T (show pre.length < 7 by omega) (by omega), inb_T (show pre.length + 1 < 7 by omega) (by omega), inb_T (show pre.length < 6 by omega) (by omega), inb_T (show x < 30 by omega) (by omega), nI_ck (show pre.length < 2147483648 by omega), nI_ck (show pre.length + 1 < 2147483648 by omega), nI_ck (show x < 2147483648 by omega), Nat.one_mul, Nat.one_mul]
        simp only [gdT]
        rw [v1, bq, hs1.2.2.1, rfN_n (by omega), isB_bk hn, gdT, w1, gd_ite _ _ (decide_eq_true (by rw [li0, lt_nn (by omega) (by omega)]; omega)), rfN_n (by omega), isB_ln w2, gdT, w3, y1, bq]
        dsimp only
        rw [sh1 (by omega), nI_or, z1', bq, bq]
/-! the reference's next row -/
def RO (b : Mem) (N : Nat) (r : Nat → Nat) : Prop := ∀ k, k < N → b 310 k = nI (r k)
theorem m_fdI {b : Mem} {r : Nat → Nat} {x1 : Int32} {N : Nat} (hN : N ≤ 6) (h : RO b N r) (h9 : ∀ k, k < N → r k < 100) : ∀ i f, i + 1 ≤ N → i < f → lX12_nextRow_4 x1 f (vI i) b = some (vI (fdI r i), b) := by
  intro i
  induction i with
  | zero =>
    intro f _ hf
    obtain ⟨g, rfl⟩ : ∃ g, f = g + 1 := ⟨f - 1, by omega⟩
    rw [lX12_nextRow_4, if_pos (by decide)]; rfl
  | succ i ih =>
    intro f h5 hf
    obtain ⟨g, rfl⟩ : ∃ g, f = g + 1 := ⟨f - 1, by omega⟩
    have a1 := h9 i (by omega)
    have a2 := h9 (i + 1) (by omega)
    rw [lX12_nextRow_4, vI_s, if_neg (by rw [li0, lt_nn (by omega) (by omega)]; omega), nI_1, inb_T (show i < 6 by omega) (by omega), inb_T (show i + 1 < 6 by omega) (by omega), gdT, gdT, nI_ck (by omega), nI_ck (by omega), h i (by omega), h (i + 1) (by omega)]
    unfold fdI
    by_cases z : r i ≤ r (i + 1)
    · rw [if_pos (by rw [le_nn (by omega) (by omega)]; exact z), if_pos z, vI_s]
    · rw [if_neg (by rw [le_nn (by omega) (by omega)]; exact z), if_neg z]
      have : nI i + (-1) = vI i := by rw [← nI_sv (by omega), Int32.sub_eq_add_neg]; rfl
      rw [this]
      exact ih g (by omega) (by omega)
theorem fdI_e {r : Nat → Nat} : ∀ i, fdI r i ≤ i ∧ (fdI r i ≠ 0 → r (fdI r i - 1) ≤ r (fdI r i)) := by
  intro i
  induction i with
  | zero => exact ⟨Nat.le_refl _, fun h => absurd rfl h⟩
  | succ i ih =>
    unfold fdI
    by_cases z : r i ≤ r (i + 1)
    · rw [if_pos z]; exact ⟨Nat.le_refl _, fun _ => by rw [Nat.add_sub_cancel]; exact z⟩
    · rw [if_neg z]; exact ⟨by omega, ih.2⟩
theorem m_fdJ {b : Mem} {r : Nat → Nat} {x1 : Int32} {i N : Nat} (hN : N ≤ 6) (h : RO b N r) (h9 : ∀ k, k < N → r k < 100) (hi : i + 1 < N) (hr : r i ≤ r (i + 1)) : ∀ j f, i + 1 ≤ j → j < N → j < f → lX12_nextRow_41 x1 (nI i) f (nI j) b = some (nI (fdJ r (r i) j), b) ∧ i + 1 ≤ fdJ r (r i) j ∧ fdJ r (r i) j ≤ j := by
  intro j
  induction j with
  | zero => intro f h1; exact absurd h1 (by omega)
  | succ j ih =>
    intro f h1 h5 hf
    obtain ⟨g, rfl⟩ : ∃ g, f = g + 1 := ⟨f - 1, by omega⟩
    have a1 := h9 i (by omega)
    have a2 := h9 (j + 1) (by omega)
    rw [lX12_nextRow_41, inb_T (show j + 1 < 6 by omega) (by omega), inb_T (show i < 6 by omega) (by omega), gdT, gdT, nI_ck (by omega), nI_ck (by omega), h i (by omega), h (j + 1) (by omega)]
    unfold fdJ
    by_cases z : r i ≤ r (j + 1)
    · rw [if_pos (by rw [le_nn (by omega) (by omega)]; exact z), if_pos z]
      exact ⟨rfl, by omega, by omega⟩
    · rw [if_neg (by rw [le_nn (by omega) (by omega)]; exact z), if_neg z]
      have e : j ≠ i := fun y => z (by rw [y]; exact hr)
      have : nI (j + 1) + (-1) = nI j := by
        have := nI_sub (a := j + 1) (b := 1) (by omega)
        rw [Nat.add_sub_cancel] at this
        rw [← this, Int32.sub_eq_add_neg]; rfl
      rw [this]
      obtain ⟨q1, q2, q3⟩ := ih g (by omega) (by omega) (by omega)
      exact ⟨q1, q2, by omega⟩
theorem m_swap {b : Mem} {r : Nat → Nat} {x y N : Nat} (hN : N ≤ 6) (h : RO b N r) (hx : x < N) (hy : y < N) : ∃ b', fX12_swap (nI x) (nI y) b = some b' ∧ RO b' N (swR r x y) ∧ frN 310 b b' := by
  unfold fX12_swap
  rw [inb_T (show x < 6 by omega) (by omega), inb_T (show y < 6 by omega) (by omega), nI_ck (by omega), nI_ck (by omega)]
  simp only [gdT]
  refine ⟨_, rfl, fun k hk => ?_, fun m hm => by rw [st2_c _ _ hm, st2_c _ _ hm]⟩
  unfold swR
  by_cases e : k = y
  · rw [if_pos e, e, st2_eq, h x hx]
  · rw [if_neg e, st2_o _ _ (by omega)]
    by_cases e2 : k = x
    · rw [if_pos e2, e2, st2_eq, h y hy]
    · rw [if_neg e2, st2_o _ _ (by omega), h k hk]
theorem m_rev {n N : Nat} (hN : N ≤ 6) : ∀ (b : Mem) (r : Nat → Nat) (i j f : Nat), RO b N r → i ≤ 6 → j < N → j ≤ i + n → n < f → ∃ b', lX12_nextRow_75 f (nI i) (nI j) b = some b' ∧ RO b' N (rvR r n i j) ∧ frN 310 b b' := by
  induction n with
  | zero =>
    intro b r i j f h hi hj hij hf
    obtain ⟨g, rfl⟩ : ∃ g, f = g + 1 := ⟨f - 1, by omega⟩
    refine ⟨b, ?_, h, frN.rf⟩
    rw [lX12_nextRow_75, if_pos (by rw [le_nn (by omega) (by omega)]; omega)]
  | succ n ih =>
    intro b r i j f h hi hj hij hf
    obtain ⟨g, rfl⟩ : ∃ g, f = g + 1 := ⟨f - 1, by omega⟩
    unfold rvR
    by_cases z : j ≤ i
    · refine ⟨b, ?_, by rw [if_pos z]; exact h, frN.rf⟩
      rw [lX12_nextRow_75, if_pos (by rw [le_nn (by omega) (by omega)]; omega)]
    · obtain ⟨b1, s1, s2, s3⟩ := m_swap (x := i) (y := j) hN h (by omega) hj
      obtain ⟨b2, t1, t2, t3⟩ := ih b1 (swR r i j) (i + 1) (j - 1) g s2 (by omega) (by omega) (by omega) (by omega)
      refine ⟨b2, ?_, by rw [if_neg z]; exact t2, s3.tr t3⟩
      have : nI j + (-1) = nI (j - 1) := by rw [← nI_sub (show 1 ≤ j by omega), Int32.sub_eq_add_neg]; rfl
      rw [lX12_nextRow_75, if_neg (by rw [le_nn (by omega) (by omega)]; omega), s1, bq, nI_1, this, t1]
theorem m_nextRow {b : Mem} {r : Nat → Nat} {N : Nat} (hN : N ≤ 6) (h : RO b N r) (h9 : ∀ k, k < N → r k < 100) : (fdI r (N - 1) = 0 → fX12_nextRow (nI N) b = some (false, b)) ∧ (fdI r (N - 1) ≠ 0 → ∃ b', fX12_nextRow (nI N) b = some (true, b') ∧ RO b' N (nxR N r) ∧ frN 310 b b') := by
  unfold fX12_nextRow
  by_cases n0 : N = 0
  · subst n0
    refine ⟨fun _ => ?_, fun z => absurd rfl z⟩
    show (lX12_nextRow_4 (nI 0) (4999 + 1) (nI 0 - 2) b).bind _ = _
    rw [lX12_nextRow_4, if_pos (by decide), bq]
    show jX12_nextRow_31 (nI 0) (nI 0 - 2) b = _
    unfold jX12_nextRow_31
    rw [if_neg (by decide)]
  have e2 : nI N - 2 = vI (N - 1) := by
    by_cases n1 : N = 1
    · subst n1; rfl
    · rw [li2, nI_sub (by omega), vI_p (by omega)]; congr 1
  have e1 : nI N - 1 = nI (N - 1) := by rw [li1, nI_sub (by omega)]
  rw [e2, m_fdI hN h h9 (N - 1) FU (by omega) (by show N - 1 < 5000; omega), bq]
  dsimp only
  unfold jX12_nextRow_31
  rw [e1]
  obtain ⟨f1, f2⟩ := fdI_e (r := r) (N - 1)
  refine ⟨fun z => ?_, fun z => ?_⟩
  · rw [z, if_neg (by decide)]
  · have hr := f2 z
    unfold nxR
    generalize hi : fdI r (N - 1) = i1 at *
    obtain ⟨i, rfl⟩ : ∃ i, i1 = i + 1 := ⟨i1 - 1, by omega⟩
    rw [Nat.add_sub_cancel] at hr ⊢
    rw [vI_s, if_pos (by rw [li0, le_nn (by omega) (by omega)]; omega)]
    obtain ⟨j1, j2, j3⟩ := m_fdJ (x1 := nI N) (i := i) hN h h9 (by omega) hr (N - 1) FU (by omega) (by omega) (by show N - 1 < 5000; omega)
    rw [j1, bq]
    dsimp only
    obtain ⟨b1, s1, s2, s3⟩ := m_swap (x := i) (y := fdJ r (r i) (N - 1)) hN h (by omega) (by omega)
    obtain ⟨b2, t1, t2, t3⟩ := m_rev (n := 6) hN b1 _ (i + 1) (N - 1) FU s2 (by omega) (by omega) (by omega) (by decide)
    rw [s1, bq, nI_1, t1, bq]
    exact ⟨b2, rfl, t2, s3.tr t3⟩
