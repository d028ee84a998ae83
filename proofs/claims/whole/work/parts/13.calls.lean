/-! ===== returns and calls ===== -/
def mx (x y : Int32) : Int32 := if x < y then y else x
def mn (x y : Int32) : Int32 := if y < x then y else x
theorem QK.leave {G : GT} {K : Option Value → Mem → Prop} {σ : Mem} {s t : State} {H : Heap} {locs : List Loc} {args : Array Value} {v : Option Value} (hk : K v σ) (hP : va_P G.1 vwCl (wd G σ) H) (hS : va_S (aw G s.heap.size) s.heap H locs) (ht : t.heap = H) : QK G K (aw G s.heap.size) args s (.returned v) t :=
  ⟨⟨v, σ, rfl, hk, by rw [ht]; exact hP⟩, hS.F ht⟩
section RUNCALLS
variable {G : GT} {own : String} {cc : ByteArray} {nL : Nat} {rt : Option FieldType} {F : FT} {pc d : Nat} {lv lv' : List (Nat × Value)} {st : List Value} {σ : Mem} {K : Option Value → Mem → Prop}
theorem run_iret {x : Int32} (hd : decode cc pc = .ok (.ireturn, 1)) (k : K (some (.int x)) σ) : Run G own cc nL (some .int) (mF G d K) pc lv [.int x] σ := fun p l e s m args below meth c H locs ls X hP hS hl =>
  W.iret (Qc := QK G K (aw G s.heap.size)) (free := aw G s.heap.size) X.1 X.2.1 X.2.2.2.2.1 (fun t ht _ => QK.leave k hP hS ht) hS.2.2 hd X.2.2.2.2.2.1
theorem run_zret {x : Int32} (hx : x = 0 ∨ x = 1) (hd : decode cc pc = .ok (.ireturn, 1)) (k : K (some (.int x)) σ) : Run G own cc nL (some .boolean) (mF G d K) pc lv [.int x] σ := fun p l e s m args below meth c H locs ls X hP hS hl =>
  W.zret (Qc := QK G K (aw G s.heap.size)) (free := aw G s.heap.size) X.1 X.2.1 X.2.2.2.2.1 (by rcases hx with rfl | rfl <;> rfl) (fun t ht _ => QK.leave k hP hS ht) hS.2.2 hd X.2.2.2.2.2.1
theorem run_vret (hd : decode cc pc = .ok (.return_, 1)) (k : K none σ) : Run G own cc nL none (mF G d K) pc lv [] σ := fun p l e s m args below meth c H locs ls X hP hS hl =>
  W.vret (Qc := QK G K (aw G s.heap.size)) (free := aw G s.heap.size) X.1 X.2.1 X.2.2.2.2.1 (fun t ht _ => QK.leave k hP hS ht) hS.2.2 hd X.2.2.2.2.2.1
theorem run_aret {v : Value} {C : String} (hv : v = .null ∨ ∃ a, v = .ref a) (hd : decode cc pc = .ok (.areturn, 1)) (k : K (some v) σ) : Run G own cc nL (some (.object C)) (mF G d K) pc lv [v] σ := fun p l e s m args below meth c H locs ls X hP hS hl =>
  W.aret (Qc := QK G K (aw G s.heap.size)) (free := aw G s.heap.size) X.1 X.2.1 X.2.2.2.2.1 (Or.inl ⟨C, rfl⟩) hv (fun t ht _ => QK.leave k hP hS ht) hS.2.2 hd X.2.2.2.2.2.1
/-- a method's contract out of a walk of its body -/
theorem spec_run {y : MethodName} {b : ByteArray} {mL : Nat} {av : List Value} (hy : plainName y.cls = true) (hn : (lg_sl av).length ≤ mL) (k : Run G y.cls b mL rt (mF G d K) 0 (lv_args 0 av) [] σ) : Spec G y b mL rt d av σ K := by
  intro l sz
  refine Met.ofW (cc := b) (maxL := mL) (ret := rt) hy rfl ?_
  intro p e s m args below meth c s₁ B hml hv
  obtain ⟨rfl, hsz, hP, hC, hH⟩ := hv
  subst hsz
  have hts := atoms_spec (ws := .code y b mL rt :: gw) B.pre
  have hl := lv_entry av (n := mL) hn
  rw [lg_entry_eq]
  exact k p l e s m av.toArray below meth c s.heap [] _ ⟨B.exec, B.bytes, hml, findClass_of_methodNamed B.named, B.returns, B.notSynchronized, fun w hw => hts w (List.mem_cons_of_mem _ hw), hC, hH⟩ hP va_S.rf hl
theorem aw_up {sz sz' : Nat} (h : sz ≤ sz') : ∀ q, aw G sz' q → aw G sz q := fun q h1 => h1.elim Or.inl (fun h2 => Or.inr (Nat.le_trans h h2))
/-- behind a call -/
theorem wg_call {p : Program} {l : Launch} {e : Env} {R : Room} {s : State} {m : MethodId} {args a : Array Value} {below : List Frame} {meth : Method} {c : Code} {H : Heap} {locs : List Loc} {cells slots : Nat} {Q : State → Prop} {ls : Array Slot} {st0 rest : List Value}
    (hr : va_Run p l e R s m args below meth c H locs cells slots 0 0 (F0 m pc ls st0) rest (QK G K (aw G H.size) a) (aw G H.size)) (hS : va_S (aw G s.heap.size) s.heap H locs)
    (kk : ∀ (v : Option Value) (σ' : Mem) (H1 : Heap) (locs1 : List Loc), K v σ' → va_P G.1 vwCl (wd G σ') H1 → va_S (aw G s.heap.size) s.heap H1 locs1 → W p l e R s m args below meth c H1 locs1 cells slots Q (F0 m (pc + 3) ls (v.toList ++ rest))) : W p l e R s m args below meth c H locs cells slots Q (F0 m pc ls st0) := by
  intro T hT X
  obtain ⟨v, st₀, t, T', L, h0, X', hL, e1, e2, ⟨⟨v2, σ', hv, hp, hb⟩, hz, hk⟩, st⟩ := hr T hT X
  cases hv
  rw [h0] at hz hk
  obtain ⟨t2, a1, b1⟩ := kk v σ' T'.heap (locs ++ L) hp (by rw [e1]; exact hb)
    ⟨Nat.le_trans hS.1 (by rw [e1]; exact hz), fun q h1 h2 => by rw [e1, hk q (Nat.lt_of_lt_of_le h1 hS.1) (fun z => h2 (aw_up hS.1 q z))]; exact hS.2.1 q h1 h2, fun q hq => by
      rcases List.mem_append.mp hq with h | h
      · exact hS.2.2 q h
      · exact aw_up hS.1 _ (hL q h)⟩ T' rfl X'
  exact ⟨t2, st t2 a1, b1⟩
/-- the words of a call -/
def MW (y : MethodName) (b : ByteArray) (mL : Nat) (ret : Option FieldType) (n : Nat) : Prop := Cond.initialized y.cls ∈ gw ∧ Cond.code y b mL ret ∈ gw ∧ (y.cls ≠ "java/lang/invoke/MethodHandle" ∧ y.cls ≠ "java/lang/invoke/VarHandle" ∧ (parseMethodDescriptor y.desc).map (fun d => d.parameters.length) = some n) ∧ mL ≤ 11
def MI (y : MethodName) : Prop := Cond.instanceMethod y ∈ gw ∧ Cond.selects y.cls y y ∈ gw
/-- room for a callee of depth d -/
def RF (F : FT) (d : Nat) : Prop := d + 1 ≤ F.1.frames ∧ 30 * d + 30 ≤ F.1.locals ∧ F.2.1 ≤ F.1.cells ∧ F.2.2.1 ≤ F.1.slots
theorem RF.m {K : Option Value → Mem → Prop} : RF (mF G (d + 1) K) d := ⟨Nat.le_refl _, Nat.le_of_eq rfl, Nat.le_refl _, Nat.le_refl _⟩
theorem pre_blind {av : List Value} {sz : Nat} : FrameBlind (va_Pc av (fun U => U.heap.size = sz ∧ va_P G.1 vwCl (wd G σ) U.heap ∧ CxS G U ∧ CxH G U.heap)) := fun a U g mk q => ⟨q.1, q.2.1, q.2.2.1, q.2.2.2.1.call g mk a, q.2.2.2.2⟩
theorem pre_at {s : State} {m : MethodId} {args : Array Value} {p : Program} {meth : Method} {c : Code} {H : Heap} {locs : List Loc} {av : List Value} (X : Ix G own cc nL rt p s m args meth c) (hP : va_P G.1 vwCl (wd G σ) H) (hS : va_S (aw G s.heap.size) s.heap H locs) : ∀ U : State, U.heap = H → s.WarmedH U.vm → va_Pc av (fun U => U.heap.size = H.size ∧ va_P G.1 vwCl (wd G σ) U.heap ∧ CxS G U ∧ CxH G U.heap) av.toArray U := fun U hU hW => ⟨rfl, by rw [hU], by rw [hU]; exact hP, X.2.2.2.2.2.2.2.1.warm hW, by rw [hU]; exact CxH.go X.2.2.2.2.2.2.2.1.1 X.2.2.2.2.2.2.2.2 hS⟩
/-- a virtual call of a method of the receiver's own class -/
theorem run_callV {y : MethodName} {b : ByteArray} {mL idx n ci nA : Nat} {ret : Option FieldType} {As : List Value} {r : vw_C} (K' : Option Value → Mem → Prop) (hw : MW y b mL ret nA) (hi : MI y) (hm : Cond.methodLink own idx y ∈ gw) (hn : Is n ci) (hc : ci ≤ 12) (hr : vwCl[ci]? = some r) (hy : r.1 = y.cls) (hA : As.length = nA) (hR : RF F d) (hst : (st.map fun v => v.category).sum ≤ 8) (hd : decode cc pc = .ok (.invokevirtual idx, 3))
    (hsp : Spec G y b mL ret d (.ref (gA G n) :: As) σ K') (kk : ∀ v σ', K' v σ' → Run G own cc nL rt F (pc + 3) lv (v.toList ++ st) σ') {st0 : List Value} (hs0 : st0 = As.reverse ++ .ref (gA G n) :: st) : Run G own cc nL rt F pc lv st0 σ := by
  intro p l e s m args below meth c H locs ls X hP hS hl
  have hts := X.2.2.2.2.2.2.1
  subst hs0
  refine wg_call (va_runV (As := As) (rest := st) (C := y.cls) (b := gA G n) ⟨X.1, X.2.1, X.2.2.1, X.2.2.2.1, hts⟩ (hsp l H.size) (n := nA) (bytes := b) (maxL := mL) (ret := ret) ⟨callB_of nA hts (gw_in hw.2.1) rfl rfl rfl (hts _ hw.1) (hts _ hm) hw.2.2.1 ⟨hR.1, by have := hR.2.1; have := hw.2.2.2; show 8 + (mL + 11) + 30 * d ≤ _; omega⟩, hts _ hi.1, hts _ hi.2⟩ ⟨pre_blind, ?_, pre_at X hP hS⟩ rfl hA hl.1 rfl (lv_room hst) hd ⟨hR.2.2.1, hR.2.2.2⟩) hS (fun v σ' H1 locs1 q1 q2 q3 => kk v σ' q1 p l e s m args below meth c H1 locs1 ls X q2 q3 hl)
  rw [← hy]
  exact va_recv X.2.2.2.2.2.2.2.1.2.1 hP hr (by rw [wd_get hn.1, cell_obj hn hc])
theorem run_callS {y : MethodName} {b : ByteArray} {mL idx nA : Nat} {ret : Option FieldType} {As : List Value} (K' : Option Value → Mem → Prop) (hw : MW y b mL ret nA) (hi : Cond.static y ∈ gw) (hm : Cond.methodLink own idx y ∈ gw) (hA : As.length = nA) (hR : RF F d) (hst : (st.map fun v => v.category).sum ≤ 8) (hd : decode cc pc = .ok (.invokestatic idx, 3))
    (hsp : Spec G y b mL ret d As σ K') (kk : ∀ v σ', K' v σ' → Run G own cc nL rt F (pc + 3) lv (v.toList ++ st) σ') {st0 : List Value} (hs0 : st0 = As.reverse ++ st) : Run G own cc nL rt F pc lv st0 σ := by
  intro p l e s m args below meth c H locs ls X hP hS hl
  have hts := X.2.2.2.2.2.2.1
  subst hs0
  exact wg_call (va_runS (As := As) (rest := st) ⟨X.1, X.2.1, X.2.2.1, X.2.2.2.1, hts⟩ (hsp l H.size) (n := nA) (bytes := b) (maxL := mL) (ret := ret) ⟨callB_of nA hts (gw_in hw.2.1) rfl rfl rfl (hts _ hw.1) (hts _ hm) hw.2.2.1 ⟨hR.1, by have := hR.2.1; have := hw.2.2.2; show 8 + (mL + 11) + 30 * d ≤ _; omega⟩, hts _ hi⟩ ⟨pre_blind, pre_at X hP hS⟩ rfl hA hl.1 rfl (lv_room hst) hd ⟨hR.2.2.1, hR.2.2.2⟩) hS (fun v σ' H1 locs1 q1 q2 q3 => kk v σ' q1 p l e s m args below meth c H1 locs1 ls X q2 q3 hl)
theorem run_callN {y : MethodName} {b : ByteArray} {mL idx nA : Nat} {ret : Option FieldType} {As : List Value} {host : String} (K' : Option Value → Mem → Prop) (hw : MW y b mL ret nA) (hi : Cond.static y ∈ gw) (hm : Cond.methodLinkNest own idx y host ∈ nw) (hA : As.length = nA) (hR : RF F d) (hst : (st.map fun v => v.category).sum ≤ 8) (hd : decode cc pc = .ok (.invokestatic idx, 3))
    (hsp : Spec G y b mL ret d As σ K') (kk : ∀ v σ', K' v σ' → Run G own cc nL rt F (pc + 3) lv (v.toList ++ st) σ') {st0 : List Value} (hs0 : st0 = As.reverse ++ st) : Run G own cc nL rt F pc lv st0 σ := by
  intro p l e s m args below meth c H locs ls X hP hS hl
  have hts := X.2.2.2.2.2.2.1
  subst hs0
  exact wg_call (va_runSN (As := As) (rest := st) (host := host) ⟨X.1, X.2.1, X.2.2.1, X.2.2.2.1, hts⟩ (hsp l H.size) (n := nA) (bytes := b) (maxL := mL) (ret := ret) ⟨va_cnB nA hts (gw_in hw.2.1) rfl rfl rfl (X.2.2.2.2.2.2.2.1.2.2.1 _ hm) (hts _ hw.1) hw.2.2.1 ⟨hR.1, by have := hR.2.1; have := hw.2.2.2; show 8 + (mL + 11) + 30 * d ≤ _; omega⟩, hts _ hi, trivial⟩ ⟨pre_blind, pre_at X hP hS⟩ rfl hA hl.1 rfl (lv_room hst) hd ⟨hR.2.2.1, hR.2.2.2⟩) hS (fun v σ' H1 locs1 q1 q2 q3 => kk v σ' q1 p l e s m args below meth c H1 locs1 ls X q2 q3 hl)
def MM (own : String) (idx : Nat) (nm : MethodName) (b : ByteArray) : Prop := Cond.methodLink own idx nm ∈ gw ∧ Cond.static nm ∈ gw ∧ Cond.initialized "java/lang/Math" ∈ gw ∧ Cond.code nm b 2 (some .int) ∈ gw
theorem run_max {idx : Nat} {x y : Int32} (hw : MM own idx Lib.Math.max.name Lib.Math.max.code) (hR : RF F d) (hst : (st.map fun v => v.category).sum ≤ 8) (hd : decode cc pc = .ok (.invokestatic idx, 3)) (k : Run G own cc nL rt F (pc + 3) lv (.int (mx x y) :: st) σ) : Run G own cc nL rt F pc lv (.int y :: .int x :: st) σ := fun p l e s m args below meth c H locs ls X hP hS hl =>
  va_mmax X.1 X.2.1 (X.2.2.1.trans hl.1.symm) X.2.2.2.1 (X.2.2.2.2.2.2.1 _ hw.1) (X.2.2.2.2.2.2.1 _ hw.2.1) (X.2.2.2.2.2.2.1 _ hw.2.2.1) (X.2.2.2.2.2.2.1 _ hw.2.2.2) (by have := hR.1; omega) (by have := hR.2.1; omega) hR.2.2.1 hR.2.2.2 hd (k p l e s m args below meth c H locs ls X hP hS hl)
theorem run_min {idx : Nat} {x y : Int32} (hw : MM own idx Lib.Math.min.name Lib.Math.min.code) (hR : RF F d) (hst : (st.map fun v => v.category).sum ≤ 8) (hd : decode cc pc = .ok (.invokestatic idx, 3)) (k : Run G own cc nL rt F (pc + 3) lv (.int (mn x y) :: st) σ) : Run G own cc nL rt F pc lv (.int y :: .int x :: st) σ := fun p l e s m args below meth c H locs ls X hP hS hl =>
  va_mmin X.1 X.2.1 (X.2.2.1.trans hl.1.symm) X.2.2.2.1 (X.2.2.2.2.2.2.1 _ hw.1) (X.2.2.2.2.2.2.1 _ hw.2.1) (X.2.2.2.2.2.2.1 _ hw.2.2.1) (X.2.2.2.2.2.2.1 _ hw.2.2.2) (by have := hR.1; omega) (by have := hR.2.1; omega) hR.2.2.1 hR.2.2.2 hd (k p l e s m args below meth c H locs ls X hP hS hl)
def MC (own : String) (idx : Nat) : Prop := Cond.methodLink own idx arraycopyName ∈ gw ∧ Cond.native arraycopyName ∈ gw ∧ Cond.static arraycopyName ∈ gw ∧ Cond.initialized "java/lang/System" ∈ gw
theorem run_copyi {idx a b N0 N1 : Nat} {s0 d0 n : Int32} (hw : MC own idx) (ha : Is a 14) (hb : Is b 14) (hN0 : ln a = N0) (hN1 : ln b = N1) (h1 : ¬ s0 < 0) (h2 : ¬ d0 < 0) (h3 : ¬ n < 0) (h4 : s0.toNatClampNeg + n.toNatClampNeg ≤ N0) (h5 : d0.toNatClampNeg + n.toNatClampNeg ≤ N1) (hR : RF F d) (hst : (st.map fun v => v.category).sum ≤ 8) (hd : decode cc pc = .ok (.invokestatic idx, 3))
    (k : Run G own cc nL rt F (pc + 3) lv st (cp2 σ a b s0.toNatClampNeg d0.toNatClampNeg n.toNatClampNeg)) : Run G own cc nL rt F pc lv (.int n :: .int d0 :: .ref (gA G b) :: .int s0 :: .ref (gA G a) :: st) σ := by
  intro p l e s m args below meth c H locs ls X hP hS hl
  subst hN0
  subst hN1
  have hts := X.2.2.2.2.2.2.1
  refine va_copyi X.1 X.2.1 (X.2.2.1.trans hl.1.symm) X.2.2.2.1 (hts _ hw.1) (hts _ hw.2.1) (hts _ hw.2.2.1) (hts _ hw.2.2.2) X.2.2.2.2.2.2.2.1.2.1 hP (wd_D X.2.2.2.2.2.2.2.1.1 σ s.heap.size) hS a b 1 1 (ty := .int) (by rw [wd_get ha.1, cell_arr ha (by decide) (by decide)]) (by rw [wd_get hb.1, cell_arr hb (by decide) (by decide)]) rfl rfl rfl h1 h2 h3 h4 h5 (fun i _ => rfl) (by have := hR.1; omega) ?_ hd (fun H1 locs1 q1 q2 q3 => ?_)
  · have := hR.2.1
    have e1 : nativeFrameWords "java/lang/System" "arraycopy" 5 ≤ 10 := by decide +kernel
    omega
  · rw [wd_set (σ' := cp2 σ a b s0.toNatClampNeg d0.toNatClampNeg n.toNatClampNeg) hb.1 (by rw [cell_arr hb (by decide) (by decide)]; unfold cp2; rw [if_pos rfl]) (fun j hj => by unfold cp2; rw [if_neg hj])] at q1
    exact k p l e s m args below meth c H1 locs1 ls X q1 q3 hl
theorem run_copyb {idx a b N0 N1 : Nat} {s0 d0 n : Int32} (hw : MC own idx) (ha : Is a 13) (hb : Is b 13) (hN0 : ln a = N0) (hN1 : ln b = N1) (h1 : ¬ s0 < 0) (h2 : ¬ d0 < 0) (h3 : ¬ n < 0) (h4 : s0.toNatClampNeg + n.toNatClampNeg ≤ N0) (h5 : d0.toNatClampNeg + n.toNatClampNeg ≤ N1) (hfit : ∀ i, i < n.toNatClampNeg → fits .byte (.int (σ a (s0.toNatClampNeg + i))) = true) (hR : RF F d) (hst : (st.map fun v => v.category).sum ≤ 8) (hd : decode cc pc = .ok (.invokestatic idx, 3))
    (k : Run G own cc nL rt F (pc + 3) lv st (cp2 σ a b s0.toNatClampNeg d0.toNatClampNeg n.toNatClampNeg)) : Run G own cc nL rt F pc lv (.int n :: .int d0 :: .ref (gA G b) :: .int s0 :: .ref (gA G a) :: st) σ := by
  intro p l e s m args below meth c H locs ls X hP hS hl
  subst hN0
  subst hN1
  have hts := X.2.2.2.2.2.2.1
  refine va_copyi X.1 X.2.1 (X.2.2.1.trans hl.1.symm) X.2.2.2.1 (hts _ hw.1) (hts _ hw.2.1) (hts _ hw.2.2.1) (hts _ hw.2.2.2) X.2.2.2.2.2.2.2.1.2.1 hP (wd_D X.2.2.2.2.2.2.2.1.1 σ s.heap.size) hS a b 0 0 (ty := .byte) (by rw [wd_get ha.1, cell_arr ha (by decide) (by decide)]) (by rw [wd_get hb.1, cell_arr hb (by decide) (by decide)]) rfl rfl rfl h1 h2 h3 h4 h5 hfit (by have := hR.1; omega) ?_ hd (fun H1 locs1 q1 q2 q3 => ?_)
  · have := hR.2.1
    have e1 : nativeFrameWords "java/lang/System" "arraycopy" 5 ≤ 10 := by decide +kernel
    omega
  · rw [wd_set (σ' := cp2 σ a b s0.toNatClampNeg d0.toNatClampNeg n.toNatClampNeg) hb.1 (by rw [cell_arr hb (by decide) (by decide)]; unfold cp2; rw [if_pos rfl]) (fun j hj => by unfold cp2; rw [if_neg hj])] at q1
    exact k p l e s m args below meth c H1 locs1 ls X q1 q3 hl
/-- a weaker end -/
theorem Spec.mono {y : MethodName} {b : ByteArray} {mL : Nat} {av : List Value} {K' : Option Value → Mem → Prop} (h : Spec G y b mL rt d av σ K) (hk : ∀ v σ', K v σ' → K' v σ') : Spec G y b mL rt d av σ K' := by
  intro l sz
  have h1 := h l sz
  unfold Met at h1 ⊢
  intro p e ha hc hkk s m args below hf happ hP hK
  obtain ⟨k, o, a1, a2, a3, ⟨⟨⟨v, σ', b1, b2, b3⟩, b4⟩, b5⟩⟩ := h1 p e ha hc hkk s m args below hf happ hP hK
  exact ⟨k, o, a1, a2, a3, ⟨⟨v, σ', b1, hk v σ' b2, b3⟩, b4⟩, b5⟩
end RUNCALLS
