/-! ===== the reference writes ===== -/
theorem MG.stp {b : Mem} {G : F2} {sp k x : Nat} (h : MG b G sp) : MG (st2 b 282 k (nI x)) (up G 1 k x) sp := by
  obtain ⟨h1, h2, h3, h4, h5⟩ := h
  refine ⟨by rw [st2_o _ _ (by omega)]; exact h1, by rw [st2_o _ _ (by omega), up_c _ (by omega)]; exact h2, fun j hj => by rw [st2_o _ _ (by omega), up_o _ (by omega)]; exact h3 j hj, fun j hj => ?_, fun j hj => by rw [st2_o _ _ (by omega), up_o _ (by omega)]; exact h5 j hj⟩
  by_cases e : j = k
  · subst e; rw [st2_eq, up_e]
  · rw [st2_o _ _ (by omega), up_o _ (by omega)]; exact h4 j hj
theorem MG.ver {b : Mem} {G : F2} {sp k x : Nat} (h : MG b G sp) : MG (st2 b 283 k (nI x)) (up G 2 k x) sp := by
  obtain ⟨h1, h2, h3, h4, h5⟩ := h
  refine ⟨by rw [st2_o _ _ (by omega)]; exact h1, by rw [st2_o _ _ (by omega), up_c _ (by omega)]; exact h2, fun j hj => by rw [st2_o _ _ (by omega), up_o _ (by omega)]; exact h3 j hj, fun j hj => by rw [st2_o _ _ (by omega), up_o _ (by omega)]; exact h4 j hj, fun j hj => ?_⟩
  by_cases e : j = k
  · subst e; rw [st2_eq, up_e]
  · rw [st2_o _ _ (by omega), up_o _ (by omega)]; exact h5 j hj
theorem MG.ot {b b' : Mem} {G : F2} {sp : Nat} (h : MG b G sp) (e25 : b' 269 25 = b 269 25) (e30 : b' 269 30 = b 269 30) (e : ∀ c, 281 ≤ c → c ≤ 283 → b' c = b c) : MG b' G sp := by
  unfold MG
  rw [e25, e30, e 281 (by omega) (by omega), e 282 (by omega) (by omega), e 283 (by omega) (by omega)]
  exact h
def wrG (sp x : Nat) (k v : Nat) (G : F2) : F2 := up (up (if (G 0 k = 0 ↔ v = 0) then G else up G 2 (k / sp) (G 2 (k / sp) + 1)) 0 k v) 1 k x
theorem m_writes {b : Mem} {sp i x k v ch : Nat} {G : F2} {y : Int32} (hG : MG b G sp) (gk : G 0 k ≤ 100) (h1 : 1 ≤ sp) (h5 : sp ≤ 5) (hi : i < 64) (e54 : b 269 54 = nI i) (e65 : b 269 65 = nI x) (e302 : b 302 i = nI ch) (hk : k < 10) (hv : v ≤ 100) :
    ∃ b', fX12_writes (nI k) (vI v) y b = some b' ∧ MG b' (wrG sp x k v G) sp ∧ b' 302 i = nI (if (G 0 k = 0 ↔ v = 0) then ch else ch ||| 2 ^ (k / sp)) ∧ (∀ j, j < 10 → b' 284 j = if j = k then y else b 284 j) ∧ (∀ j, j < 10 → b' 285 j = if (G 0 k = 0 ↔ v = 0) then b 285 j else if j = k / sp then y else b 285 j) ∧ (∀ j, j ≠ i → b' 302 j = b 302 j) ∧ (∀ j, j ≠ 30 → b' 269 j = b 269 j) ∧ ∀ m, m ≠ 269 → ¬ (281 ≤ m ∧ m ≤ 285) → m ≠ 302 → b' m = b m := by
  have ht := thr_lt (G 0)
  have n9 := dv9 (n := k) (sp := sp) (by omega)
  have hnd : ∀ b2 : Mem, b2 269 25 = nI sp → fX12_nodeOf (nI k) b2 = some (nI (k / sp), b2) := fun b2 h => m_nodeOf h h1 h5 (by omega)
  -- the end of it
  have tail : ∀ (b1 : Mem) (G1 : F2), MG b1 G1 sp → b1 269 65 = nI x → ∃ b', jX12_writes_65 (nI k) (vI v) y b1 = some b' ∧ MG b' (up (up G1 0 k v) 1 k x) sp ∧ (∀ j, j < 10 → b' 284 j = if j = k then y else b1 284 j) ∧ (∀ j, j ≠ 30 → b' 269 j = b1 269 j) ∧ ∀ m, m ≠ 269 → m ≠ 281 → m ≠ 282 → m ≠ 284 → b' m = b1 m := fun b1 G1 hG1 h65 => by
    have ht1 := thr_lt (G1 0)
    unfold jX12_writes_65
    have a1 : ((if vI v = -1 then some (b1 269 30 &&& ((1 : Int32) <<< (nI k &&& 31) ^^^ -1)) else some (b1 269 30 ||| (1 : Int32) <<< (nI k &&& 31))) : Option Int32) = some (nI (thr (upf (G1 0) k v))) := by
      rw [sh1 (by omega), hG1.2.1]
      by_cases z : v = 0
      · rw [if_pos (by rw [z]; rfl), z, nI_clr (thr_clr (c := G1 0))]
      · rw [if_neg (by rw [v0, eq_vv (by omega) (by omega)]; exact z), nI_or, thr_set hk z]
    have a2 : ((if vI v = -1 then some 0 else some (vI v)) : Option Int32) = some (nI (v - 1)) := by
      by_cases z : v = 0
      · rw [if_pos (by rw [z]; rfl), z]; rfl
      · rw [if_neg (by rw [v0, eq_vv (by omega) (by omega)]; exact z), vI_p (by omega)]
    rw [a1, bq, a2, bq, inb_T hk (by omega), nI_ck (by omega)]
    simp only [gdT]
    rw [bq, st2_o _ _ (show ¬ (269 = 281 ∧ 65 = k) by omega), st2_o _ _ (show ¬ (269 = 269 ∧ 65 = 30) by omega), h65]
    refine ⟨_, rfl, ?_, fun j hj => ?_, fun j hj => ?_, fun m m1 m2 m3 m4 => ?_⟩
    · exact ((MG.put hG1 hk rfl rfl).stp).ot (st2_o _ _ (by omega)) (st2_o _ _ (by omega)) (fun c _ _ => st2_c _ _ (by omega))
    · by_cases e : j = k
      · subst e; rw [st2_eq, if_pos rfl]
      · rw [st2_o _ _ (by omega), st2_o _ _ (by omega), st2_o _ _ (by omega), st2_o _ _ (by omega), if_neg e]
    · rw [st2_o _ _ (by omega), st2_o _ _ (by omega), st2_o _ _ (by omega), st2_o _ _ (by omega)]
    · rw [st2_c _ _ m4, st2_c _ _ m3, st2_c _ _ m2, st2_c _ _ m1]
  unfold fX12_writes wrG
  rw [hG.2.1, f_has (by omega) (by omega), bq, thr_bit hk]
  have a3 : ((if vI v = -1 then some false else some true) : Option Bool) = some (decide (v ≠ 0)) := by
    by_cases z : v = 0
    · rw [if_pos (by rw [z]; rfl)]; simp [z]
    · rw [if_neg (by rw [v0, eq_vv (by omega) (by omega)]; exact z)]; simp [z]
  rw [a3, bq]
  dsimp only
  have xb : (b2 (decide (G 0 k ≠ 0)) = b2 (decide (v ≠ 0))) ↔ (G 0 k = 0 ↔ v = 0) := by
    by_cases z1 : G 0 k = 0
    · by_cases z2 : v = 0
      · simp [z1, z2]
      · simp [z1, z2]; decide
    · by_cases z2 : v = 0
      · simp [z1, z2]; decide
      · simp [z1, z2]
  by_cases hq : (G 0 k = 0 ↔ v = 0)
  · rw [if_pos (xb.mpr hq), bq, if_pos hq]
    obtain ⟨b', t1, t2, t3, t4, t5⟩ := tail b G hG e65
    refine ⟨b', t1, t2, by rw [if_pos hq, t5 302 (by omega) (by omega) (by omega) (by omega)]; exact e302, t3, fun j hj => by rw [if_pos hq, t5 285 (by omega) (by omega) (by omega) (by omega)], fun j hj => by rw [t5 302 (by omega) (by omega) (by omega) (by omega)], t4, fun m m1 m2 m3 => t5 m m1 (by omega) (by omega) (by omega)⟩
  · rw [if_neg (fun z => hq (xb.mp z)), if_neg hq, hnd b hG.1, bq]
    dsimp only
    rw [inb_T (show k / sp < 10 by omega) (by omega), nI_ck (show k / sp < 2147483648 by omega)]
    simp only [gdT]
    rw [hG.2.2.2.2 _ (by omega), nI_1, hnd _ (by rw [st2_o _ _ (by omega)]; exact hG.1), bq]
    dsimp only
    rw [inb_T (show k / sp < 10 by omega) (by omega), nI_ck (show k / sp < 2147483648 by omega), gdT]
    have e54' : (st2 (st2 b 283 (k / sp) (nI (G 2 (k / sp) + 1))) 285 (k / sp) y) 269 54 = nI i := by rw [st2_o _ _ (by omega), st2_o _ _ (by omega)]; exact e54
    have e302' : (st2 (st2 b 283 (k / sp) (nI (G 2 (k / sp) + 1))) 285 (k / sp) y) 302 i = nI ch := by rw [st2_o _ _ (by omega), st2_o _ _ (by omega)]; exact e302
    rw [e54', inb_T hi (by omega), gdT, nI_ck (by omega), hnd _ (by rw [st2_o _ _ (by omega), st2_o _ _ (by omega)]; exact hG.1), bq, gdT]
    dsimp only
    rw [e302', sh1 (show k / sp < 31 by omega), nI_or, bq, bq]
    have hG2 : MG (st2 (st2 (st2 b 283 (k / sp) (nI (G 2 (k / sp) + 1))) 285 (k / sp) y) 302 i (nI (ch ||| 2 ^ (k / sp)))) (up G 2 (k / sp) (G 2 (k / sp) + 1)) sp := hG.ver.ot (by rw [st2_o _ _ (by omega), st2_o _ _ (by omega)]) (by rw [st2_o _ _ (by omega), st2_o _ _ (by omega)]) (fun c _ _ => by rw [st2_c _ _ (by omega), st2_c _ _ (by omega)])
    obtain ⟨b', t1, t2, t3, t4, t5⟩ := tail _ _ hG2 (by rw [st2_o _ _ (by omega), st2_o _ _ (by omega), st2_o _ _ (by omega)]; exact e65)
    refine ⟨b', t1, t2, ?_, fun j hj => ?_, fun j hj => ?_, fun j hj => ?_, fun j hj => ?_, fun m m1 m2 m3 => ?_⟩
    · rw [if_neg hq, t5 302 (by omega) (by omega) (by omega) (by omega), st2_eq]
    · rw [t3 j hj, st2_o _ _ (by omega), st2_o _ _ (by omega), st2_o _ _ (by omega)]
    · rw [if_neg hq, t5 285 (by omega) (by omega) (by omega) (by omega), st2_o _ _ (by omega)]
      by_cases e : j = k / sp
      · subst e; rw [st2_eq, if_pos rfl]
      · rw [st2_o _ _ (by omega), st2_o _ _ (by omega), if_neg e]
    · rw [t5 302 (by omega) (by omega) (by omega) (by omega), st2_o _ _ (by omega), st2_o _ _ (by omega), st2_o _ _ (by omega)]
    · rw [t4 j hj, st2_o _ _ (by omega), st2_o _ _ (by omega), st2_o _ _ (by omega)]
    · rw [t5 m m1 (by omega) (by omega) (by omega), st2_c _ _ m3, st2_c _ _ (by omega), st2_c _ _ (by omega)]
theorem gG_br {sp d x k : Nat} {L : F2} {q : Nat × F2} (hk : k < 10) (hb : (L 0 8).testBit k = true) (h1 : 1 ≤ sp) : gG (brS sp d x L k q).2 = wrG sp x k (L 3 k) (gG q.2) := by
  have g0 : gG q.2 0 k = q.2 147 k := rfl
  have g2 : gG q.2 2 (k / sp) = q.2 149 (k / sp) := rfl
  unfold brS wrG
  rw [if_pos hb, g0]
  by_cases hq : (q.2 147 k = 0 ↔ L 3 k = 0)
  · rw [if_pos hq, if_pos hq]
    funext f j
    dsimp only
    rcases (show f = 0 ∨ f = 1 ∨ f = 2 ∨ 3 ≤ f by omega) with rfl | rfl | rfl | hf
    · show up (up (up q.2 147 k (L 3 k)) 148 k x) 150 k (d + 1) 147 j = _
      by_cases e : j = k
      · subst e; simp (disch := omega) only [up_o, up_e]
      · simp (disch := omega) only [up_o] <;> rfl
    · show up (up (up q.2 147 k (L 3 k)) 148 k x) 150 k (d + 1) 148 j = _
      by_cases e : j = k
      · subst e; simp (disch := omega) only [up_o, up_e]
      · simp (disch := omega) only [up_o] <;> rfl
    · show up (up (up q.2 147 k (L 3 k)) 148 k x) 150 k (d + 1) 149 j = _
      simp (disch := omega) only [up_o] <;> rfl
    · rw [up_o _ (by omega), up_o _ (by omega)]
      unfold gG
      rw [if_neg (by omega), if_neg (by omega)]
  · rw [if_neg hq, if_neg hq, g2]
    generalize k / sp = nd
    generalize q.2 149 nd + 1 = v
    funext f j
    dsimp only
    rcases (show f = 0 ∨ f = 1 ∨ f = 2 ∨ 3 ≤ f by omega) with rfl | rfl | rfl | hf
    · show up (up (up (up (up q.2 149 nd v) 151 nd (d + 1)) 147 k (L 3 k)) 148 k x) 150 k (d + 1) 147 j = _
      by_cases e : j = k
      · subst e; simp (disch := omega) only [up_o, up_e]
      · simp (disch := omega) only [up_o] <;> rfl
    · show up (up (up (up (up q.2 149 nd v) 151 nd (d + 1)) 147 k (L 3 k)) 148 k x) 150 k (d + 1) 148 j = _
      by_cases e : j = k
      · subst e; simp (disch := omega) only [up_o, up_e]
      · simp (disch := omega) only [up_o] <;> rfl
    · show up (up (up (up (up q.2 149 nd v) 151 nd (d + 1)) 147 k (L 3 k)) 148 k x) 150 k (d + 1) 149 j = _
      by_cases e : j = nd
      · subst e; simp (disch := omega) only [up_o, up_e]
      · simp (disch := omega) only [up_o] <;> rfl
    · rw [up_o _ (by omega), up_o _ (by omega), up_o _ (by omega)]
      unfold gG
      rw [if_neg (by omega), if_neg (by omega)]
theorem br_by {sp d x k j : Nat} {L : F2} {q : Nat × F2} (hb : (L 0 8).testBit k = true) : (brS sp d x L k q).2 150 j = (if j = k then d + 1 else q.2 150 j) ∧ (brS sp d x L k q).2 151 j = (if (q.2 147 k = 0 ↔ L 3 k = 0) then q.2 151 j else if j = k / sp then d + 1 else q.2 151 j) ∧ (brS sp d x L k q).1 = (if (q.2 147 k = 0 ↔ L 3 k = 0) then q.1 else q.1 ||| 2 ^ (k / sp)) := by
  unfold brS
  rw [if_pos hb]
  by_cases hq : (q.2 147 k = 0 ↔ L 3 k = 0)
  · rw [if_pos hq, if_pos hq, if_pos hq]
    refine ⟨?_, ?_, rfl⟩
    · dsimp only
      by_cases e : j = k
      · subst e; rw [up_e, if_pos rfl]
      · rw [up_o _ (by omega), up_o _ (by omega), up_o _ (by omega), if_neg e]
    · dsimp only; rw [up_o _ (by omega), up_o _ (by omega), up_o _ (by omega)]
  · rw [if_neg hq, if_neg hq, if_neg hq]
    refine ⟨?_, ?_, rfl⟩
    · dsimp only
      by_cases e : j = k
      · subst e; rw [up_e, if_pos rfl]
      · rw [up_o _ (by omega), up_o _ (by omega), up_o _ (by omega), up_o _ (by omega), up_o _ (by omega), if_neg e]
    · dsimp only
      rw [up_o _ (by omega), up_o _ (by omega), up_o _ (by omega)]
      by_cases e : j = k / sp
      · subst e; rw [up_e, if_pos rfl]
      · rw [up_o _ (by omega), up_o _ (by omega), if_neg e]
