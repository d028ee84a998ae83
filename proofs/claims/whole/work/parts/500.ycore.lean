/-! ===== the constructors' world: the first N cells, each as far as it is made ===== -/
def gZ (G : GT) : Prop := ∀ n, gA G n = (g0 G).heap.size + n
def wS (G : GT) (cs : Nat → va_E) (N : Nat) : va_W := (List.range N).map (fun n => (gA G n, cs n))
def YW (G : GT) (cs : Nat → va_E) (N : Nat) (H : Heap) : Prop := H.size = (g0 G).heap.size + N ∧ va_P G.1 vwCl (wS G cs N) H
theorem wS_get {G : GT} {cs : Nat → va_E} {N n : Nat} (h : n < N) : (wS G cs N)[n]? = some (gA G n, cs n) := by simp [wS, h]
theorem wS_at {G : GT} {cs : Nat → va_E} {N k : Nat} {q : Nat × va_E} (h : (wS G cs N)[k]? = some q) : k < N ∧ q = (gA G k, cs k) := by
  have hk : k < N := by
    rcases Nat.lt_or_ge k N with h1 | h1
    · exact h1
    · rw [List.getElem?_eq_none (by simp [wS]; exact h1)] at h; cases h
  rw [wS_get hk] at h
  exact ⟨hk, (Option.some.inj h).symm⟩
theorem wS_set {G : GT} {cs : Nat → va_E} {N n : Nat} (h : n < N) (e : va_E) : (wS G cs N).set n (gA G n, e) = wS G (va_up cs n e) N := by
  apply List.ext_getElem?
  intro i
  rw [List.getElem?_set]
  rcases Nat.lt_or_ge i N with hi | hi
  · rw [wS_get hi, wS_get hi]
    by_cases hn : n = i
    · subst hn; rw [if_pos rfl, if_pos (by simp [wS]; exact hi), va_up_self]
    · rw [if_neg hn, va_up_ne cs e (fun z => hn z.symm)]
  · rw [List.getElem?_eq_none (l := wS G cs N) (by simp [wS]; exact hi), List.getElem?_eq_none (l := wS G _ N) (by simp [wS]; exact hi), if_neg (by omega)]
theorem wS_push {G : GT} {cs : Nat → va_E} {N : Nat} (e : va_E) : wS G cs N ++ [(gA G N, e)] = wS G (va_up cs N e) (N + 1) := by
  unfold wS
  rw [List.range_succ, List.map_append]
  congr 1
  · apply List.map_congr_left
    intro a ha
    rw [va_up_ne cs e (Nat.ne_of_lt (List.mem_range.mp ha))]
  · simp [va_up]
theorem wS_D {G : GT} (hz : gZ G) (cs : Nat → va_E) (N : Nat) : va_D (gOld G) (wS G cs N) := by
  refine ⟨fun i j p q h1 h2 h3 => ?_, fun k q h1 => ?_⟩
  · obtain ⟨a1, rfl⟩ := wS_at h1
    obtain ⟨a2, rfl⟩ := wS_at h2
    have h4 : gA G i = gA G j := h3
    rw [hz i, hz j] at h4
    omega
  · obtain ⟨a1, rfl⟩ := wS_at h1
    show (g0 G).heap.size ≤ gA G k
    rw [hz k]; omega
/-- a content that stands for another -/
def eqv (e1 e2 : va_E) : Prop := ∀ (D : va_G) (cl : List vw_C) (a : Nat) (H : Heap), va_at D cl (a, e1) H → va_at D cl (a, e2) H
theorem eqv.rf {e : va_E} : eqv e e := fun _ _ _ _ h => h
def IxY (G : GT) (own : String) (cc : ByteArray) (nL : Nat) (rt : Option FieldType) (p : Program) (s : State) (m : MethodId) (args : Array Value) (meth : Method) (c : Code) : Prop := Ix G own cc nL rt p s m args meth c ∧ gZ G
def RunY (G : GT) (own nm : String) (cc : ByteArray) (nL : Nat) (rt : Option FieldType) (F : FT) (cells slots : Nat) (pc : Nat) (lv : List (Nat × Value)) (st : List Value) (N : Nat) (cs : Nat → va_E) : Prop :=
  ∀ (p : Program) (l : Launch) (e : Env) (s : State) (m : MethodId) (args : Array Value) (below : List Frame) (meth : Method) (c : Code) (H : Heap) (locs : List Loc) (ls : Array Slot),
    IxY G own cc nL rt p s m args meth c → (meth.name = nm ∧ s.heap.size + cells = (g0 G).heap.size + N) → YW G cs N H → va_S (gOld G) s.heap H locs → lv_has ls nL lv →
    W p l e F.1 s m args below meth c H locs cells slots (F.2.2.2 below args s) (F0 m pc ls st)
def QY (G : GT) (K : Nat → (Nat → va_E) → Prop) : Array Value → State → Outcome → State → Prop := fun _ st oc t => (∃ (N' : Nat) (cs' : Nat → va_E), oc = .returned none ∧ K N' cs' ∧ YW G cs' N' t.heap) ∧ va_F (gOld G) st t
def rmY (d mc ms : Nat) : Room := { frames := d, cells := mc, slots := ms, locals := 30 * d }
def yF (G : GT) (d mc ms : Nat) (K : Nat → (Nat → va_E) → Prop) : FT := (rmY d mc ms, mc, ms, fun below args s => MQ below (QY G K) args s mc ms (gOld G))
def SpecY (G : GT) (y : MethodName) (b : ByteArray) (mL d mc ms : Nat) (av : List Value) (N : Nat) (cs : Nat → va_E) (K : Nat → (Nat → va_E) → Prop) : Prop :=
  ∀ (l : Launch), Met l y (.code y b mL none :: gw) (rmY d mc ms) (va_Pc av (fun U => YW G cs N U.heap ∧ CxS G U ∧ CxH G U.heap ∧ gZ G)) (QY G K) mc ms (gOld G)
section YROWS
variable {G : GT} {own nm : String} {cc : ByteArray} {nL : Nat} {rt : Option FieldType} {F : FT} {cells slots : Nat} {pc d : Nat} {lv lv' : List (Nat × Value)} {st : List Value} {N : Nat} {cs : Nat → va_E}
theorem ry_iconst {n : Int} {v : Int32} (hd : decode cc pc = .ok (.iconst n, 1)) (hv : Int32.ofInt n = v) (k : RunY G own nm cc nL rt F cells slots (pc + 1) lv (.int v :: st) N cs) : RunY G own nm cc nL rt F cells slots pc lv st N cs := fun p l e s m args below meth c H locs ls X hi0 hP hS hl => lv_iconst X.1.1 X.1.2.1 hd hv (k p l e s m args below meth c H locs ls X hi0 hP hS hl)
theorem ry_bipush {n : Int} {v : Int32} (hd : decode cc pc = .ok (.bipush n, 2)) (hv : (Int8.ofInt n).toInt32 = v) (k : RunY G own nm cc nL rt F cells slots (pc + 2) lv (.int v :: st) N cs) : RunY G own nm cc nL rt F cells slots pc lv st N cs := fun p l e s m args below meth c H locs ls X hi0 hP hS hl => lv_bipush X.1.1 X.1.2.1 hd hv (k p l e s m args below meth c H locs ls X hi0 hP hS hl)
theorem ry_sipush {n : Int} {v : Int32} (hd : decode cc pc = .ok (.sipush n, 3)) (hv : (Int16.ofInt n).toInt32 = v) (k : RunY G own nm cc nL rt F cells slots (pc + 3) lv (.int v :: st) N cs) : RunY G own nm cc nL rt F cells slots pc lv st N cs := fun p l e s m args below meth c H locs ls X hi0 hP hS hl => lv_sipush X.1.1 X.1.2.1 hd hv (k p l e s m args below meth c H locs ls X hi0 hP hS hl)
theorem ry_iload_n {k0 : Fin 4} {i : Nat} {x : Int32} (j : Nat) (hd : decode cc pc = .ok (.iload_n k0, 1)) (hi : (k0 : Nat) = i) (hj : lv[j]? = some (i, .int x)) (k : RunY G own nm cc nL rt F cells slots (pc + 1) lv (.int x :: st) N cs) : RunY G own nm cc nL rt F cells slots pc lv st N cs := fun p l e s m args below meth c H locs ls X hi0 hP hS hl => lv_iload_n X.1.1 X.1.2.1 hd hi (lv_at hl j hj) (k p l e s m args below meth c H locs ls X hi0 hP hS hl)
theorem ry_aload_n {k0 : Fin 4} {i x : Nat} (j : Nat) (hd : decode cc pc = .ok (.aload_n k0, 1)) (hi : (k0 : Nat) = i) (hj : lv[j]? = some (i, .ref x)) (k : RunY G own nm cc nL rt F cells slots (pc + 1) lv (.ref x :: st) N cs) : RunY G own nm cc nL rt F cells slots pc lv st N cs := fun p l e s m args below meth c H locs ls X hi0 hP hS hl => lv_aload_n X.1.1 X.1.2.1 hd hi (lv_at hl j hj) (k p l e s m args below meth c H locs ls X hi0 hP hS hl)
theorem ry_dup {v : Value} (hd : decode cc pc = .ok (.dup, 1)) (hc : v.category = 1) (k : RunY G own nm cc nL rt F cells slots (pc + 1) lv (v :: v :: st) N cs) : RunY G own nm cc nL rt F cells slots pc lv (v :: st) N cs := fun p l e s m args below meth c H locs ls X hi0 hP hS hl => lv_dup X.1.1 X.1.2.1 hd hc (k p l e s m args below meth c H locs ls X hi0 hP hS hl)
theorem ry_goto {off : Int} (tgt : Nat) (hd : decode cc pc = .ok (.goto off, 3)) (ht : (pc : Int) + off = (tgt : Int)) (k : RunY G own nm cc nL rt F cells slots tgt lv st N cs) : RunY G own nm cc nL rt F cells slots pc lv st N cs := fun p l e s m args below meth c H locs ls X hi0 hP hS hl => lv_goto X.1.1 X.1.2.1 hd ht (k p l e s m args below meth c H locs ls X hi0 hP hS hl)
theorem ry_istore_n {k0 : Fin 4} {i : Nat} {x : Int32} (lv' : List (Nat × Value)) (ks : List Nat) (hd : decode cc pc = .ok (.istore_n k0, 1)) (hi : (k0 : Nat) = i) (hn : i < nL) (hl' : lv_pick ((i, Value.int x) :: lvK i lv) ks = lv') (kk : RunY G own nm cc nL rt F cells slots (pc + 1) lv' st N cs) : RunY G own nm cc nL rt F cells slots pc lv (.int x :: st) N cs := fun p l e s m args below meth c H locs ls X hi0 hP hS hl => lv_istore_n X.1.1 X.1.2.1 hd hi hl hn rfl (fun ls' hl2 => kk p l e s m args below meth c H locs ls' X hi0 hP hS (lv_sub hl2 ks hl'))
theorem ry_iinc {i : Nat} {n : Int} {x v : Int32} (j : Nat) (lv' : List (Nat × Value)) (ks : List Nat) (hd : decode cc pc = .ok (.iinc i n, 3)) (hj : lv[j]? = some (i, .int x)) (hv : x + Int32.ofInt n = v) (hn : i < nL) (hl' : lv_pick ((i, Value.int v) :: lvK i lv) ks = lv') (kk : RunY G own nm cc nL rt F cells slots (pc + 3) lv' st N cs) : RunY G own nm cc nL rt F cells slots pc lv st N cs := fun p l e s m args below meth c H locs ls X hi0 hP hS hl => lv_iinc X.1.1 X.1.2.1 hd hl hj hv hn rfl (fun ls' hl2 => kk p l e s m args below meth c H locs ls' X hi0 hP hS (lv_sub hl2 ks hl'))
theorem ry_icmp_ge {x y : Int32} {off : Int} (tgt : Nat) (hd : decode cc pc = .ok (.if_icmp .ge off, 3)) (ht : (pc : Int) + off = (tgt : Int)) (kt : y ≤ x → RunY G own nm cc nL rt F cells slots tgt lv st N cs) (kf : ¬ y ≤ x → RunY G own nm cc nL rt F cells slots (pc + 3) lv st N cs) : RunY G own nm cc nL rt F cells slots pc lv (.int y :: .int x :: st) N cs := fun p l e s m args below meth c H locs ls X hi0 hP hS hl => lv_icmp_ge X.1.1 X.1.2.1 hd ht (fun z => kt z p l e s m args below meth c H locs ls X hi0 hP hS hl) (fun z => kf z p l e s m args below meth c H locs ls X hi0 hP hS hl)
theorem ry_cs (k : ∀ cs' : Nat → va_E, cs' = cs → RunY G own nm cc nL rt F cells slots pc lv st N cs') : RunY G own nm cc nL rt F cells slots pc lv st N cs := k cs rfl
theorem W.szle {p : Program} {l : Launch} {e : Env} {R : Room} {s : State} {m : MethodId} {args : Array Value} {below : List Frame} {meth : Method} {c : Code} {H : Heap} {locs : List Loc} {Q : State → Prop} {g : JFrame} (k : H.size ≤ s.heap.size + cells → W p l e R s m args below meth c H locs cells slots Q g) : W p l e R s m args below meth c H locs cells slots Q g := fun T hT X => k (by rw [← hT]; exact X.same.2.2.1) T hT X
/-- Object's own constructor -/
theorem ry_objInit {idx a : Nat} (hm : Cond.methodLink own idx objectInit ∈ gw) (hi : Cond.instanceMethod objectInit ∈ gw) (hcw : Cond.code objectInit ⟨#[0xb1]⟩ 1 none ∈ gw) (hf : 1 ≤ F.1.frames) (hlo : 30 ≤ F.1.locals) (hst : st = []) (hd : decode cc pc = .ok (.invokespecial idx, 3)) (k : RunY G own nm cc nL rt F cells slots (pc + 3) lv st N cs) : RunY G own nm cc nL rt F cells slots pc lv (.ref a :: st) N cs := by
  intro p l e s m args below meth c H locs ls X hi0 hP hS hl
  subst hst
  have hts := X.1.2.2.2.2.2.2.1
  refine W.objInit X.1.1 X.1.2.1 X.1.2.2.2.1 (hts _ hm) (hts _ hi) (hts _ hcw) rfl (by rw [X.1.2.2.1]; exact hl.1) rfl hd hf (by show _ ≤ _; simp; omega) ?_
  exact k p l e s m args below meth c H locs ls X hi0 hP hS hl
theorem aZ (X : gZ G) {cs : Nat → va_E} {H : Heap} (h : YW G cs N H) : gA G N = H.size := by rw [X N, h.1]
/-- a new object -/
theorem ry_new {ci idx n : Nat} {C : String} {T : u_T} {fs : List Value} (ty : Nat → FieldType) (hty : ∀ k, k < n → parseFieldDescriptor (T k).2.2.1 = some (ty k)) (hc : vwCl[ci]? = some (C, T, n)) (hin : ∀ w ∈ u_ws C T n, w ∈ gw) (hcl : Cond.classLink own idx C ∈ gw) (hinst : Cond.instantiable C n ∈ gw) (hini : Cond.initialized C ∈ gw) (hfs : ∀ j, j < n → defaultValue (ty j) = vp_V fs j) (h1 : cells + 1 ≤ F.1.cells) (h2 : slots + n ≤ F.1.slots) (hd : decode cc pc = .ok (.new idx, 3))
    (k : RunY G own nm cc nL rt F (cells + 1) (slots + n) (pc + 3) lv (.ref (gA G N) :: st) (N + 1) (va_up cs N (.inr (ci, fs)))) : RunY G own nm cc nL rt F cells slots pc lv st N cs := by
  intro p l e s m args below meth c H locs ls X hi0 hP hS hl
  have hts := X.1.2.2.2.2.2.2.1
  have hC := X.1.2.2.2.2.2.2.2.1
  have hH := X.1.2.2.2.2.2.2.2.2
  have hKn := hC.2.1.1 ci _ hc
  refine W.newcK X.1.1 X.1.2.1 X.1.2.2.2.1 (hts _ hcl) (hts _ hinst) (hts _ hini) rfl hd h1 h2 hKn.2.1 rfl fun H1 kC hkC e1 z1 o1 => ?_
  have ea := aZ X.2 hP
  have hk : ∀ (k : Nat) (x : Nat × va_E), (wS G cs N)[k]? = some x → H1[x.1]? = H[x.1]? := fun k x hx => o1 x.1 ((hP.2 k x hx).lt)
  have q1 : va_P G.1 vwCl (wS G cs N ++ [(gA G N, .inr (ci, fs))]) H1 := (hP.2.kept hk).app (fun k x hx => by
    have hz : k < 1 := (List.getElem?_eq_some_iff.mp hx).1
    rw [show k = 0 by omega] at hx
    cases hx
    rw [ea]
    exact ⟨_, hc, (u_born ty hts hin hKn hkC e1 hty).to hfs⟩)
  rw [wS_push] at q1
  rw [← ea]
  refine k p l e s m args below meth c H1 locs ls X ⟨hi0.1, by have := hi0.2; omega⟩ ⟨by rw [z1, hP.1]; omega, q1⟩ ⟨Nat.le_trans hS.1 (by omega), fun x h1 h2 => (o1 x (Nat.lt_of_lt_of_le h1 hS.1)).trans (hS.2.1 x h1 h2), hS.2.2⟩ hl
/-- a new row of ints, bytes, booleans -/
theorem ry_newa {κ n : Nat} {x : Int32} {atype : ArrayType} {ty : FieldType} {t0 : Nat} (hty : newarray.typeOf atype = ty) (harr : Cond.arrayClass ty ∈ gw) (ht : (tysOf G)[t0]? = some (gY G κ, ty)) (hRA : ∀ (U : State) (c : ClassId), va_RA U c ty ↔ U.vm.findClass ("[" ++ ty.toString) = some c) (hdv : defaultValue ty = .int 0) (hn : ¬ x < 0) (hN : x.toNatClampNeg = n) (hb : n * componentBytes ty ≤ 536870912) (h1 : cells + 1 ≤ F.1.cells) (h2 : slots + n ≤ F.1.slots) (hd : decode cc pc = .ok (.newarray atype, 2))
    (k : RunY G own nm cc nL rt F (cells + 1) (slots + n) (pc + 2) lv (.ref (gA G N) :: st) (N + 1) (va_up cs N (.inl (gY G κ, n, .inl (fun _ => 0))))) : RunY G own nm cc nL rt F cells slots pc lv (.int x :: st) N cs := by
  intro p l e s m args below meth c H locs ls X hi0 hP hS hl
  have hts := X.1.2.2.2.2.2.2.1
  have hC := X.1.2.2.2.2.2.2.2.1
  subst hty
  refine va_newaK X.1.1 X.1.2.1 (hts _ harr) rfl hd rfl hn hN hb h1 h2 rfl fun H1 cA e1 z1 o1 hAr hNm => ?_
  have ea := aZ X.2 hP
  have ec : cA = gY G κ := Option.some.inj (hNm.symm.trans ((hRA s _).mp (hC.2.1.2 t0 _ ht).2))
  subst ec
  have hk : ∀ (k : Nat) (x : Nat × va_E), (wS G cs N)[k]? = some x → H1[x.1]? = H[x.1]? := fun k x hx => o1 x.1 ((hP.2 k x hx).lt)
  have q1 : va_P G.1 vwCl (wS G cs N ++ [(gA G N, .inl (gY G κ, n, .inl (fun _ => 0)))]) H1 := (hP.2.kept hk).app (fun k x hx => by
    have hz : k < 1 := (List.getElem?_eq_some_iff.mp hx).1
    rw [show k = 0 by omega] at hx
    cases hx
    show H1[gA G N]? = some (vp_cell _ _)
    rw [ea, e1, hdv]
    rfl)
  rw [wS_push] at q1
  rw [← ea]
  refine k p l e s m args below meth c H1 locs ls X ⟨hi0.1, by have := hi0.2; omega⟩ ⟨by rw [z1, hP.1]; omega, q1⟩ ⟨Nat.le_trans hS.1 (by omega), fun x h1 h2 => (o1 x (Nat.lt_of_lt_of_le h1 hS.1)).trans (hS.2.1 x h1 h2), hS.2.2⟩ hl
end YROWS
