/-! ===== rows of Run over the heap ===== -/
theorem lgJ_HL (x : Int64) : lgJ (lgH x) (lgL x) = x := by
  unfold lgJ lgH lgL
  have h : (Int32.ofBitVec (x.toBitVec.extractLsb' 32 32)).toBitVec ++ (Int32.ofBitVec (x.toBitVec.extractLsb' 0 32)).toBitVec = x.toBitVec := by
    show x.toBitVec.extractLsb' 32 32 ++ x.toBitVec.extractLsb' 0 32 = x.toBitVec
    apply BitVec.eq_of_toNat_eq
    have hx := x.toBitVec.isLt
    simp only [BitVec.toNat_append, BitVec.extractLsb'_toNat]
    rw [← Nat.shiftLeft_add_eq_or_of_lt (by exact Nat.mod_lt _ (by decide))]
    simp only [Nat.shiftLeft_eq, Nat.shiftRight_eq_div_pow]
    omega
  rw [h]
  rfl
theorem cell_obj {G : GT} {n ci : Nat} (hn : Is n ci) (hc : ci ≤ 12) (r : Nat → Int32) : cellR G n r = .inr (ci, (List.range (nf ci)).map (slotV G n r)) := by
  unfold cellR; rw [hn.2, if_pos hc]
theorem cell_arr {G : GT} {n κ : Nat} (hn : Is n κ) (h1 : 13 ≤ κ) (h2 : κ ≤ 15) (r : Nat → Int32) : cellR G n r = .inl (gY G κ, ln n, .inl r) := by
  unfold cellR; rw [hn.2, if_neg (by omega), if_pos h2]
theorem cell_ref {G : GT} {n κ : Nat} (hn : Is n κ) (h1 : 16 ≤ κ) (h2 : κ ≤ 23) (r : Nat → Int32) : cellR G n r = .inl (gY G κ, ln n, .inr (.inr (.inr (.inr (fun i => some (gA G (sp n i))))))) := by
  unfold cellR; rw [hn.2, if_neg (by omega), if_neg (by omega), if_neg (by omega)]
theorem cell_kept {G : GT} {n : Nat} (hn : Is n 24) (r : Nat → Int32) : cellR G n r = .inl (gY G 17, ln n, .inr (.inr (.inr (.inr (fun i => (dref (r i)).map (gA G)))))) := by
  unfold cellR; rw [hn.2, if_neg (by decide), if_neg (by decide), if_pos rfl]
def FL (own : String) (idx ci k : Nat) : Prop := ∃ (C : String) (T : u_T) (N : Nat), vwCl[ci]? = some (C, T, N) ∧ nf ci = N ∧ k < N ∧ (∀ w ∈ u_ws C T N, w ∈ gw) ∧ Cond.fieldLink own idx (T k).1 (T k).2.1 (T k).2.2.1 ∈ gw
def FP (own : String) (idx ci k : Nat) (ty : FieldType) : Prop := ∃ (C : String) (T : u_T) (N : Nat) (ty0 : Nat → FieldType), vwCl[ci]? = some (C, T, N) ∧ nf ci = N ∧ k < N ∧ (∀ w ∈ u_ws C T N, w ∈ gw) ∧ Cond.fieldLink own idx (T k).1 (T k).2.1 (T k).2.2.1 ∈ gw ∧ (∀ k, k < N → parseFieldDescriptor (T k).2.2.1 = some (ty0 k)) ∧ (∀ a, a < N → ∀ b, b < N → a ≠ b → (T a).2.1 ≠ (T b).2.1) ∧ (T k).2.2.2 = false ∧ parseFieldDescriptor (T k).2.2.1 = some ty
section RUNHEAP
variable {G : GT} {own : String} {cc : ByteArray} {nL : Nat} {rt : Option FieldType} {F : FT} {pc : Nat} {lv lv' : List (Nat × Value)} {st : List Value} {σ : Mem}
theorem run_get {n ci k idx : Nat} {v : Value} (hf : FL own idx ci k) (hn : Is n ci) (hc : ci ≤ 12) (hv : slotV G n (σ n) k = v) (hd : decode cc pc = .ok (.getfield idx, 3)) (kk : Run G own cc nL rt F (pc + 3) lv (v :: st) σ) : Run G own cc nL rt F pc lv (.ref (gA G n) :: st) σ := by
  intro p l e s m args below meth c H locs ls X hP hS hl
  obtain ⟨C, T, N, h1, h2, h3, h4, h5⟩ := hf
  exact va_get X.1 X.2.1 X.2.2.2.2.2.2.1 h4 X.2.2.2.1 X.2.2.2.2.2.2.2.1.2.1 hP n (by rw [wd_get hn.1, cell_obj hn hc]) h1 k h3 (X.2.2.2.2.2.2.1 _ h5) (fun _ h => h) (v := v) (by simp [h2, h3, hv]) hd (kk p l e s m args below meth c H locs ls X hP hS hl)
theorem run_geti {n ci k idx : Nat} (hf : FL own idx ci k) (hn : Is n ci) (hc : ci ≤ 12) (hs : sty ci k = 0) (hd : decode cc pc = .ok (.getfield idx, 3)) (kk : Run G own cc nL rt F (pc + 3) lv (.int (σ n k) :: st) σ) : Run G own cc nL rt F pc lv (.ref (gA G n) :: st) σ :=
  run_get hf hn hc (by unfold slotV; rw [hn.2, if_pos hs]) hd kk
theorem run_getr {n ci k idx n' : Nat} (hf : FL own idx ci k) (hn : Is n ci) (hc : ci ≤ 12) (hs : sty ci k = 1) (he : sp n k = n') (hd : decode cc pc = .ok (.getfield idx, 3)) (kk : Run G own cc nL rt F (pc + 3) lv (.ref (gA G n') :: st) σ) : Run G own cc nL rt F pc lv (.ref (gA G n) :: st) σ :=
  run_get hf hn hc (by unfold slotV; rw [hn.2, hs, if_neg (by decide), if_pos rfl, he]) hd kk
theorem run_getd {n ci k idx : Nat} (hf : FL own idx ci k) (hn : Is n ci) (hc : ci ≤ 12) (hs : sty ci k = 2) (hd : decode cc pc = .ok (.getfield idx, 3)) (kk : Run G own cc nL rt F (pc + 3) lv (.ref (gA G (rfN (σ n k))) :: st) σ) : Run G own cc nL rt F pc lv (.ref (gA G n) :: st) σ :=
  run_get hf hn hc (by unfold slotV; rw [hn.2, hs, if_neg (by decide), if_neg (by decide), if_pos rfl]) hd kk
theorem run_getl {n ci k idx : Nat} (hf : FL own idx ci k) (hn : Is n ci) (hc : ci ≤ 12) (hs : sty ci k = 3) (hd : decode cc pc = .ok (.getfield idx, 3)) (kk : Run G own cc nL rt F (pc + 3) lv (.long (lgJ (σ n k) (σ n (k + 1000))) :: st) σ) : Run G own cc nL rt F pc lv (.ref (gA G n) :: st) σ :=
  run_get hf hn hc (by unfold slotV; rw [hn.2, hs, if_neg (by decide), if_neg (by decide), if_neg (by decide)]) hd kk
theorem run_put {n ci k idx : Nat} {v : Value} {ty : FieldType} (σ' : Mem) (hf : FP own idx ci k ty) (hn : Is n ci) (hc : ci ≤ 12) (hs : ∀ j, j < nf ci → slotV G n (σ' n) j = if j = k then v else slotV G n (σ n) j) (ho : ∀ a, a ≠ n → σ' a = σ a) (h8 : narrow ty v = v) (h9 : fits ty v = true) (hd : decode cc pc = .ok (.putfield idx, 3)) (kk : Run G own cc nL rt F (pc + 3) lv st σ') : Run G own cc nL rt F pc lv (v :: .ref (gA G n) :: st) σ := by
  intro p l e s m args below meth c H locs ls X hP hS hl
  obtain ⟨C, T, N, ty0, h1, h2, h3, h4, h5, h6, h7, h10, h11⟩ := hf
  have hset : (wd G σ).set n (gA G n, .inr (ci, ((List.range (nf ci)).map (slotV G n (σ n))).set k v)) = wd G σ' := by
    refine wd_set hn.1 ?_ ho
    rw [cell_obj hn hc]
    congr 2
    apply List.ext_getElem?
    intro i
    rw [List.getElem?_set]
    rcases Nat.lt_or_ge i (nf ci) with hi | hi
    · simp only [List.getElem?_map, List.getElem?_range hi, List.length_map, List.length_range, Option.map_some, hs i hi]
      by_cases hik : k = i
      · subst hik; rw [if_pos rfl, if_pos rfl, if_pos hi]
      · rw [if_neg hik, if_neg (fun e => hik e.symm)]
    · rw [List.getElem?_eq_none (by simp; exact hi), List.getElem?_eq_none (by simp; exact hi)]
      rw [if_neg (by rw [h2] at hi; omega)]
  refine va_put X.1 X.2.1 X.2.2.2.2.2.2.1 h4 ty0 h6 h7 X.2.2.2.1 X.2.2.2.2.2.2.2.1.2.1 hP (wd_D X.2.2.2.2.2.2.2.1.1 σ s.heap.size) hS n (by rw [wd_get hn.1, cell_obj hn hc]) h1 k h3 (X.2.2.2.2.2.2.1 _ h5) (fun _ h => h) h10 h11 h8 h9 (by simp [h2, h3]) hd (fun H1 locs1 q1 q2 q3 => ?_)
  rw [hset] at q1
  exact kk p l e s m args below meth c H1 locs1 ls X q1 q3 hl
theorem slot_st2 {n k : Nat} {ci : Nat} {v : Int32} (hn : Is n ci) (hc : k < 1000) : ∀ j, j < 1000 → slotV G n (st2 σ n k v n) j = if j = k then (if sty ci k = 0 then .int v else if sty ci k = 1 then .ref (gA G (sp n k)) else if sty ci k = 2 then .ref (gA G (rfN v)) else .long (lgJ v (σ n (k + 1000)))) else slotV G n (σ n) j := by
  intro j hj
  unfold slotV
  rw [st2_at, hn.2]
  by_cases h : j = k
  · subst h
    rw [if_pos rfl]
    have e1 : upd (σ n) j v j = v := pk_us
    have e2 : upd (σ n) j v (j + 1000) = σ n (j + 1000) := pk_un (by omega)
    rw [e1, e2]
  · rw [if_neg h]
    have e1 : upd (σ n) k v j = σ n j := pk_un h
    have e2 : upd (σ n) k v (j + 1000) = σ n (j + 1000) := pk_un (by omega)
    rw [e1, e2]
theorem nf_lt (ci : Nat) (h : ci ≤ 12) : nf ci < 1000 := by
  rcases (show ci = 0 ∨ ci = 1 ∨ ci = 2 ∨ ci = 3 ∨ ci = 4 ∨ ci = 5 ∨ ci = 6 ∨ ci = 7 ∨ ci = 8 ∨ ci = 9 ∨ ci = 10 ∨ ci = 11 ∨ ci = 12 by omega) with rfl | rfl | rfl | rfl | rfl | rfl | rfl | rfl | rfl | rfl | rfl | rfl | rfl <;> decide
theorem run_puti {n ci k idx : Nat} {x : Int32} (hf : FP own idx ci k .int) (hn : Is n ci) (hc : ci ≤ 12) (hs : sty ci k = 0) (hd : decode cc pc = .ok (.putfield idx, 3)) (kk : Run G own cc nL rt F (pc + 3) lv st (st2 σ n k x)) : Run G own cc nL rt F pc lv (.int x :: .ref (gA G n) :: st) σ := by
  have hk : k < 1000 := by obtain ⟨C, T, N, ty0, h1, h2, h3, -⟩ := hf; have := nf_lt ci hc; omega
  refine run_put (st2 σ n k x) hf hn hc (fun j hj => ?_) (fun a ha => st2_ne σ k x ha) rfl rfl hd kk
  rw [slot_st2 hn hk j (by have := nf_lt ci hc; omega), hs, if_pos rfl]
theorem run_putz {n ci k idx : Nat} {x : Int32} (hf : FP own idx ci k .boolean) (hn : Is n ci) (hc : ci ≤ 12) (hs : sty ci k = 0) (hx : x = 0 ∨ x = 1) (hd : decode cc pc = .ok (.putfield idx, 3)) (kk : Run G own cc nL rt F (pc + 3) lv st (st2 σ n k x)) : Run G own cc nL rt F pc lv (.int x :: .ref (gA G n) :: st) σ := by
  have hk : k < 1000 := by obtain ⟨C, T, N, ty0, h1, h2, h3, -⟩ := hf; have := nf_lt ci hc; omega
  refine run_put (st2 σ n k x) hf hn hc (fun j hj => ?_) (fun a ha => st2_ne σ k x ha) (by rcases hx with rfl | rfl <;> rfl) (by rcases hx with rfl | rfl <;> rfl) hd kk
  rw [slot_st2 hn hk j (by have := nf_lt ci hc; omega), hs, if_pos rfl]
theorem run_putd {n ci k idx b : Nat} {C : String} (hf : FP own idx ci k (.object C)) (hn : Is n ci) (hc : ci ≤ 12) (hs : sty ci k = 2) (hb : b < 2 ^ 31) (hd : decode cc pc = .ok (.putfield idx, 3)) (kk : Run G own cc nL rt F (pc + 3) lv st (st2 σ n k (nI b))) : Run G own cc nL rt F pc lv (.ref (gA G b) :: .ref (gA G n) :: st) σ := by
  have hk : k < 1000 := by obtain ⟨C, T, N, ty0, h1, h2, h3, -⟩ := hf; have := nf_lt ci hc; omega
  refine run_put (st2 σ n k (nI b)) hf hn hc (fun j hj => ?_) (fun a ha => st2_ne σ k _ ha) rfl rfl hd kk
  rw [slot_st2 hn hk j (by have := nf_lt ci hc; omega), hs, if_neg (show ¬ (2 : Nat) = 0 by decide), if_neg (show ¬ (2 : Nat) = 1 by decide), if_pos (show (2 : Nat) = 2 from rfl)]
  unfold rfN
  rw [nI_clamp hb]
theorem run_putl {n ci k idx : Nat} {x : Int64} (hf : FP own idx ci k .long) (hn : Is n ci) (hc : ci ≤ 12) (hs : sty ci k = 3) (hd : decode cc pc = .ok (.putfield idx, 3)) (kk : Run G own cc nL rt F (pc + 3) lv st (st2 (st2 σ n (k + 1000) (lgL x)) n k (lgH x))) : Run G own cc nL rt F pc lv (.long x :: .ref (gA G n) :: st) σ := by
  have hk : k < 1000 := by obtain ⟨C, T, N, ty0, h1, h2, h3, -⟩ := hf; have := nf_lt ci hc; omega
  refine run_put (st2 (st2 σ n (k + 1000) (lgL x)) n k (lgH x)) hf hn hc (fun j hj => ?_) (fun a ha => by rw [st2_ne _ k _ ha, st2_ne _ _ _ ha]) rfl rfl hd kk
  have hj2 : j < 1000 := by have := nf_lt ci hc; omega
  rw [slot_st2 hn hk j hj2, hs, if_neg (show ¬ (3 : Nat) = 0 by decide), if_neg (show ¬ (3 : Nat) = 1 by decide), if_neg (show ¬ (3 : Nat) = 2 by decide)]
  have e1 : st2 σ n (k + 1000) (lgL x) n (k + 1000) = lgL x := by rw [st2_at]; exact pk_us
  rw [e1, lgJ_HL]
  by_cases h : j = k
  · rw [if_pos h, if_pos h]
  · rw [if_neg h, if_neg h]
    unfold slotV
    have e1 : st2 σ n (k + 1000) (lgL x) n j = σ n j := by rw [st2_at]; exact pk_un (by omega)
    have e2 : st2 σ n (k + 1000) (lgL x) n (j + 1000) = σ n (j + 1000) := by rw [st2_at]; exact pk_un (by omega)
    rw [e1, e2]
theorem run_iald {n N : Nat} {i : Int32} (hn : Is n 14) (hL : ln n = N) (hi : vp_in i N) (hd : decode cc pc = .ok (.iaload, 1)) (kk : Run G own cc nL rt F (pc + 1) lv (.int (σ n i.toNatClampNeg) :: st) σ) : Run G own cc nL rt F pc lv (.int i :: .ref (gA G n) :: st) σ := by
  intro p l e s m args below meth c H locs ls X hP hS hl
  subst hL
  exact va_iald X.1 X.2.1 X.2.2.2.2.2.2.2.1.2.1 hP n 1 (by rw [wd_get hn.1, cell_arr hn (by decide) (by decide)]) rfl hi hd (kk p l e s m args below meth c H locs ls X hP hS hl)
theorem run_bald {n N : Nat} {i : Int32} (hn : Is n 13) (hL : ln n = N) (hi : vp_in i N) (hd : decode cc pc = .ok (.baload, 1)) (kk : Run G own cc nL rt F (pc + 1) lv (.int (σ n i.toNatClampNeg) :: st) σ) : Run G own cc nL rt F pc lv (.int i :: .ref (gA G n) :: st) σ := by
  intro p l e s m args below meth c H locs ls X hP hS hl
  subst hL
  exact va_bald X.1 X.2.1 X.2.2.2.2.2.2.2.1.2.1 hP n 0 (by rw [wd_get hn.1, cell_arr hn (by decide) (by decide)]) rfl hi hd (kk p l e s m args below meth c H locs ls X hP hS hl)
theorem run_zald {n N : Nat} {i : Int32} (hn : Is n 15) (hL : ln n = N) (hi : vp_in i N) (hd : decode cc pc = .ok (.baload, 1)) (kk : Run G own cc nL rt F (pc + 1) lv (.int (σ n i.toNatClampNeg) :: st) σ) : Run G own cc nL rt F pc lv (.int i :: .ref (gA G n) :: st) σ := by
  intro p l e s m args below meth c H locs ls X hP hS hl
  subst hL
  exact va_zald X.1 X.2.1 X.2.2.2.2.2.2.2.1.2.1 hP n 2 (by rw [wd_get hn.1, cell_arr hn (by decide) (by decide)]) rfl hi hd (kk p l e s m args below meth c H locs ls X hP hS hl)
theorem run_iast {n N : Nat} {i x : Int32} (hn : Is n 14) (hL : ln n = N) (hi : vp_in i N) (hd : decode cc pc = .ok (.iastore, 1)) (kk : Run G own cc nL rt F (pc + 1) lv st (st2 σ n i.toNatClampNeg x)) : Run G own cc nL rt F pc lv (.int x :: .int i :: .ref (gA G n) :: st) σ := by
  intro p l e s m args below meth c H locs ls X hP hS hl
  subst hL
  refine va_iast X.1 X.2.1 X.2.2.2.2.2.2.2.1.2.1 hP (wd_D X.2.2.2.2.2.2.2.1.1 σ s.heap.size) hS n 1 (by rw [wd_get hn.1, cell_arr hn (by decide) (by decide)]) rfl hi hd (fun H1 locs1 q1 q2 q3 => ?_)
  rw [wd_set (σ' := st2 σ n i.toNatClampNeg x) hn.1 (by rw [cell_arr hn (by decide) (by decide), st2_at]) (fun j hj => st2_ne σ _ _ hj)] at q1
  exact kk p l e s m args below meth c H1 locs1 ls X q1 q3 hl
theorem run_bast {n N : Nat} {i x : Int32} (hn : Is n 13) (hL : ln n = N) (hi : vp_in i N) (hd : decode cc pc = .ok (.bastore, 1)) (kk : Run G own cc nL rt F (pc + 1) lv st (st2 σ n i.toNatClampNeg x.toInt8.toInt32)) : Run G own cc nL rt F pc lv (.int x :: .int i :: .ref (gA G n) :: st) σ := by
  intro p l e s m args below meth c H locs ls X hP hS hl
  subst hL
  refine va_bast X.1 X.2.1 X.2.2.2.2.2.2.2.1.2.1 hP (wd_D X.2.2.2.2.2.2.2.1.1 σ s.heap.size) hS n 0 (by rw [wd_get hn.1, cell_arr hn (by decide) (by decide)]) rfl hi hd (fun H1 locs1 q1 q2 q3 => ?_)
  rw [vp_nar_byte, wd_set (σ' := st2 σ n i.toNatClampNeg x.toInt8.toInt32) hn.1 (by rw [cell_arr hn (by decide) (by decide), st2_at]) (fun j hj => st2_ne σ _ _ hj)] at q1
  exact kk p l e s m args below meth c H1 locs1 ls X q1 q3 hl
theorem run_zast {n N : Nat} {i x : Int32} (hn : Is n 15) (hL : ln n = N) (hi : vp_in i N) (hx : x = 0 ∨ x = 1) (hd : decode cc pc = .ok (.bastore, 1)) (kk : Run G own cc nL rt F (pc + 1) lv st (st2 σ n i.toNatClampNeg x)) : Run G own cc nL rt F pc lv (.int x :: .int i :: .ref (gA G n) :: st) σ := by
  intro p l e s m args below meth c H locs ls X hP hS hl
  subst hL
  refine va_zast X.1 X.2.1 X.2.2.2.2.2.2.2.1.2.1 hP (wd_D X.2.2.2.2.2.2.2.1.1 σ s.heap.size) hS n 2 (by rw [wd_get hn.1, cell_arr hn (by decide) (by decide)]) rfl hi hd (fun H1 locs1 q1 q2 q3 => ?_)
  have e0 : vp_nar .boolean x = x := by rcases hx with rfl | rfl <;> rfl
  rw [e0, wd_set (σ' := st2 σ n i.toNatClampNeg x) hn.1 (by rw [cell_arr hn (by decide) (by decide), st2_at]) (fun j hj => st2_ne σ _ _ hj)] at q1
  exact kk p l e s m args below meth c H1 locs1 ls X q1 q3 hl
/-- an array of references that never changes -/
theorem run_aald {n N κ t0 n' : Nat} {C : String} {i : Int32} (hn : Is n κ) (h1 : 16 ≤ κ) (h2 : κ ≤ 23) (ht : (tysOf G)[t0]? = some (gY G κ, .object C)) (hL : ln n = N) (hi : vp_in i N) (he : sp n i.toNatClampNeg = n') (hd : decode cc pc = .ok (.aaload, 1)) (kk : Run G own cc nL rt F (pc + 1) lv (.ref (gA G n') :: st) σ) : Run G own cc nL rt F pc lv (.int i :: .ref (gA G n) :: st) σ := by
  intro p l e s m args below meth c H locs ls X hP hS hl
  subst hL
  subst he
  exact va_aldq X.1 X.2.1 X.2.2.2.2.2.2.2.1.2.1 hP n t0 (f := fun i => some (gA G (sp n i))) (by rw [wd_get hn.1, cell_ref hn h1 h2]) ht hi hd (kk p l e s m args below meth c H locs ls X hP hS hl)
theorem run_aaldI {n N n' : Nat} {i : Int32} (hn : Is n 23) (hL : ln n = N) (hi : vp_in i N) (he : sp n i.toNatClampNeg = n') (hd : decode cc pc = .ok (.aaload, 1)) (kk : Run G own cc nL rt F (pc + 1) lv (.ref (gA G n') :: st) σ) : Run G own cc nL rt F pc lv (.int i :: .ref (gA G n) :: st) σ := by
  intro p l e s m args below meth c H locs ls X hP hS hl
  subst hL
  subst he
  have hlt : i.toNatClampNeg < ln n := Nat.not_le.mp fun q => hi (Or.inr q)
  have ha : (wd G σ)[n]? = some (gA G n, .inl (gY G 23, ln n, .inr (.inr (.inr (.inr (fun i => some (gA G (sp n i)))))))) := by rw [wd_get hn.1, cell_ref hn (by decide) (by decide)]
  exact W.aald (v := va_rf (some (gA G (sp n i.toNatClampNeg)))) (ty := .array .int) X.1 X.2.1 (hP n _ ha) ((X.2.2.2.2.2.2.2.1.2.1.2 10 _ rfl).1 (ln n) (fun j => va_rf (some (gA G (sp n j))))) rfl (fun q => by cases q) (by show ¬ (i < 0 ∨ (arrV _ _ _).slots.size ≤ _); rw [arrV_size]; exact hi) (by show (arrV _ _ _).slots[_]? = _; rw [arrV_read _ _ hlt]) rfl rfl hd (kk p l e s m args below meth c H locs ls X hP hS hl)
/-- the array of references that changes: lines, kept -/
theorem run_kald {n N : Nat} {i : Int32} (hn : Is n 24) (hL : ln n = N) (hi : vp_in i N) (h0 : ¬ σ n i.toNatClampNeg < 0) (hd : decode cc pc = .ok (.aaload, 1)) (kk : Run G own cc nL rt F (pc + 1) lv (.ref (gA G (rfN (σ n i.toNatClampNeg))) :: st) σ) : Run G own cc nL rt F pc lv (.int i :: .ref (gA G n) :: st) σ := by
  intro p l e s m args below meth c H locs ls X hP hS hl
  subst hL
  refine va_aldq X.1 X.2.1 X.2.2.2.2.2.2.2.1.2.1 hP n 4 (by rw [wd_get hn.1, cell_kept hn]) rfl hi hd ?_
  have e0 : (dref (σ n i.toNatClampNeg)).map (gA G) = some (gA G (rfN (σ n i.toNatClampNeg))) := by unfold dref rfN; rw [if_neg h0]; rfl
  show W _ _ _ _ _ _ _ _ _ _ _ _ _ _ _ (F0 m (pc + 1) ls (va_rf ((dref (σ n i.toNatClampNeg)).map (gA G)) :: st))
  rw [e0]
  exact kk p l e s m args below meth c H locs ls X hP hS hl
theorem run_kast {n N b : Nat} {i : Int32} (hn : Is n 24) (hb : Is b 2) (hL : ln n = N) (hi : vp_in i N) (hd : decode cc pc = .ok (.aastore, 1)) (kk : Run G own cc nL rt F (pc + 1) lv st (st2 σ n i.toNatClampNeg (nI b))) : Run G own cc nL rt F pc lv (.ref (gA G b) :: .int i :: .ref (gA G n) :: st) σ := by
  intro p l e s m args below meth c H locs ls X hP hS hl
  subst hL
  refine va_astq X.1 X.2.1 X.2.2.2.2.2.2.2.1.2.1 hP (wd_D X.2.2.2.2.2.2.2.1.1 σ s.heap.size) hS n 4 b 2 (by rw [wd_get hn.1, cell_kept hn]) (r := (RX2, TX2, 11)) rfl (by rw [wd_get hb.1, cell_obj hb (by decide)]) rfl hi hd (fun H1 locs1 q1 q2 q3 => ?_)
  rw [wd_set (σ' := st2 σ n i.toNatClampNeg (nI b)) hn.1 ?_ (fun j hj => st2_ne σ _ _ hj)] at q1
  · exact kk p l e s m args below meth c H1 locs1 ls X q1 q3 hl
  · rw [cell_kept hn, st2_at]
    congr 7
    funext j
    unfold va_up
    by_cases h : j = i.toNatClampNeg
    · have hb2 : b < 2 ^ 31 := Nat.lt_trans hb.1 (by decide)
      subst h
      rw [pk_us, if_pos rfl]
      unfold dref
      rw [if_neg (nI_pos hb2), nI_clamp hb2]
      rfl
    · rw [pk_un h, if_neg h]
theorem run_lcmp {x y : Int64} (hd : decode cc pc = .ok (.lcmp, 1)) (k : Run G own cc nL rt F (pc + 1) lv (.int (lg_cmp x y) :: st) σ) : Run G own cc nL rt F pc lv (.long y :: .long x :: st) σ := fun p l e s m args below meth c H locs ls X hP hS hl => W.lcmp X.1 X.2.1 hd (k p l e s m args below meth c H locs ls X hP hS hl)
end RUNHEAP
