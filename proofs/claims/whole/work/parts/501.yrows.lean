/-! ===== more rows of the constructors' world ===== -/
theorem yw_sz {G : GT} {cs : Nat → va_E} {N : Nat} {H : Heap} (hz : gZ G) (h0 : 0 < N) (hP : va_P G.1 vwCl (wS G cs N) H) (h : H.size ≤ (g0 G).heap.size + N) : H.size = (g0 G).heap.size + N := by
  have h1 := (hP (N - 1) _ (wS_get (by omega))).lt
  have h2 : gA G (N - 1) < H.size := h1
  rw [hz] at h2
  omega
section YROWS2
variable {G : GT} {own nm : String} {cc : ByteArray} {nL : Nat} {rt : Option FieldType} {F : FT} {cells slots : Nat} {pc d : Nat} {lv lv' : List (Nat × Value)} {st : List Value} {N : Nat} {cs : Nat → va_E}
/-- references, the first i of them made -/
def refI (G : GT) (κ n i : Nat) : va_E := .inl (gY G κ, ln n, .inr (.inr (.inr (.inr (fun j => if j < i then some (gA G (sp n j)) else none)))))
theorem ry_newq {κ n idx t0 : Nat} {x : Int32} {C : String} (hcl : Cond.classLink own idx C ∈ gw) (hov : Cond.arrayOver (.object C) ∈ lw_tbl) (ht : (tysOf G)[t0]? = some (gY G κ, .object C)) (hn : ¬ x < 0) (hN : x.toNatClampNeg = n) (hL : ln N = n) (hb : n * 4 ≤ 536870912) (h1 : cells + 1 ≤ F.1.cells) (h2 : slots + n ≤ F.1.slots) (hd : decode cc pc = .ok (.anewarray idx, 3))
    (k : RunY G own nm cc nL rt F (cells + 1) (slots + n) (pc + 3) lv (.ref (gA G N) :: st) (N + 1) (va_up cs N (refI G κ N 0))) : RunY G own nm cc nL rt F cells slots pc lv (.int x :: st) N cs := by
  intro p l e s m args below meth c H locs ls X hi0 hP hS hl
  have hts := X.1.2.2.2.2.2.2.1
  have hC := X.1.2.2.2.2.2.2.2.1
  subst hN
  obtain ⟨b0, -, hw0⟩ := hC.1.2.2
  refine W.anew X.1.1 X.1.2.1 X.1.2.2.2.1 (hts _ hcl) (va_AO.use (va_AO.moved hC.2.2.2.alike (va_AO.of (hw0 _ hov)))) rfl hd rfl hn hb h1 h2 fun cA kA comp f1 f2 f3 f4 => ?_
  generalize hH1 : H.push ({ cls := cA, slots := Array.replicate x.toNatClampNeg .null, vm := .none } : Cell) = H1
  have z1 : H1.size = H.size + 1 := by rw [← hH1, Array.size_push]
  have e1 : H1[H.size]? = some (arrV cA x.toNatClampNeg (fun _ => .null)) := by rw [← hH1, Array.getElem?_push_size, ← arrV_new]
  have o1 : ∀ q : Nat, q < H.size → H1[q]? = H[q]? := fun q hq => by rw [← hH1, Array.getElem?_push, if_neg (Nat.ne_of_lt hq)]
  have ea := aZ X.2 hP
  obtain ⟨kA2, comp2, g1, g2, g3, g4⟩ := (hC.2.1.2 t0 _ ht).2
  have ec : cA = gY G κ := Option.some.inj (f1.symm.trans g4)
  subst ec
  have hk : ∀ (k : Nat) (x : Nat × va_E), (wS G cs N)[k]? = some x → H1[x.1]? = H[x.1]? := fun k x hx => o1 x.1 ((hP.2 k x hx).lt)
  have q1 : va_P G.1 vwCl (wS G cs N ++ [(gA G N, refI G κ N 0)]) H1 := (hP.2.kept hk).app (fun k x hx => by
    have hz : k < 1 := (List.getElem?_eq_some_iff.mp hx).1
    rw [show k = 0 by omega] at hx
    cases hx
    show H1[gA G N]? = some (arrV (gY G κ) (ln N) (fun j => va_rf (if j < 0 then some (gA G (sp N j)) else none)))
    rw [ea, e1, hL]
    rfl)
  rw [wS_push] at q1
  rw [← ea]
  refine k p l e s m args below meth c H1 locs ls X ⟨hi0.1, by have := hi0.2; omega⟩ ⟨by rw [z1, hP.1]; omega, q1⟩ ⟨Nat.le_trans hS.1 (by omega), fun x h1 h2 => (o1 x (Nat.lt_of_lt_of_le h1 hS.1)).trans (hS.2.1 x h1 h2), hS.2.2⟩ hl
def FPf (own : String) (idx ci k : Nat) (ty : FieldType) : Prop := ∃ (C : String) (T : u_T) (N : Nat) (ty0 : Nat → FieldType), vwCl[ci]? = some (C, T, N) ∧ k < N ∧ (∀ w ∈ u_ws C T N, w ∈ gw) ∧ Cond.fieldLink own idx (T k).1 (T k).2.1 (T k).2.2.1 ∈ gw ∧ (∀ k, k < N → parseFieldDescriptor (T k).2.2.1 = some (ty0 k)) ∧ (∀ a, a < N → ∀ b, b < N → a ≠ b → (T a).2.1 ≠ (T b).2.1) ∧ (T k).2.2.2 = true ∧ (T k).1 = own ∧ parseFieldDescriptor (T k).2.2.1 = some ty
/-- a final field, in its constructor -/
theorem ry_putF {n ci k idx : Nat} {v : Value} {ty : FieldType} {fs : List Value} (hf : FPf own idx ci k ty) (hnm : nm = "<init>") (hn : n < N) (hc : cs n = .inr (ci, fs)) (h8 : narrow ty v = v) (h9 : fits ty v = true) (hl2 : k < fs.length) (hd : decode cc pc = .ok (.putfield idx, 3))
    (kk : RunY G own nm cc nL rt F cells slots (pc + 3) lv st N (va_up cs n (.inr (ci, fs.set k v)))) : RunY G own nm cc nL rt F cells slots pc lv (v :: .ref (gA G n) :: st) N cs := by
  intro p l e s m args below meth c H locs ls X hi0 hP hS hl
  obtain ⟨C, T, M, ty0, h1, h3, h4, h5, h6, h7, h10, h12, h11⟩ := hf
  refine va_putF X.1.1 X.1.2.1 X.1.2.2.2.2.2.2.1 h4 ty0 h6 h7 X.1.2.2.2.1 X.1.2.2.2.2.2.2.2.1.2.1 hP.2 (wS_D X.2 cs N) hS n (by rw [wS_get hn, hc]) h1 k h3 (X.1.2.2.2.2.2.2.1 _ h5) (fun _ h => h) h10 (by rw [hi0.1, hnm]) h12 h11 h8 h9 hl2 hd (fun H1 locs1 q1 q2 q3 => ?_)
  rw [wS_set hn] at q1
  exact W.szle (fun hz => kk p l e s m args below meth c H1 locs1 ls X hi0 ⟨yw_sz X.2 (by omega) q1 (by rw [← hi0.2]; exact hz), q1⟩ q3 hl)
/-- a field that isn't final -/
theorem ry_put {n ci k idx : Nat} {v : Value} {ty : FieldType} {fs : List Value} (hf : FP own idx ci k ty) (hn : n < N) (hc : cs n = .inr (ci, fs)) (h8 : narrow ty v = v) (h9 : fits ty v = true) (hl2 : k < fs.length) (hd : decode cc pc = .ok (.putfield idx, 3))
    (kk : RunY G own nm cc nL rt F cells slots (pc + 3) lv st N (va_up cs n (.inr (ci, fs.set k v)))) : RunY G own nm cc nL rt F cells slots pc lv (v :: .ref (gA G n) :: st) N cs := by
  intro p l e s m args below meth c H locs ls X hi0 hP hS hl
  obtain ⟨C, T, M, ty0, h1, h2, h3, h4, h5, h6, h7, h10, h11⟩ := hf
  refine va_put X.1.1 X.1.2.1 X.1.2.2.2.2.2.2.1 h4 ty0 h6 h7 X.1.2.2.2.1 X.1.2.2.2.2.2.2.2.1.2.1 hP.2 (wS_D X.2 cs N) hS n (by rw [wS_get hn, hc]) h1 k h3 (X.1.2.2.2.2.2.2.1 _ h5) (fun _ h => h) h10 h11 h8 h9 hl2 hd (fun H1 locs1 q1 q2 q3 => ?_)
  rw [wS_set hn] at q1
  exact W.szle (fun hz => kk p l e s m args below meth c H1 locs1 ls X hi0 ⟨yw_sz X.2 (by omega) q1 (by rw [← hi0.2]; exact hz), q1⟩ q3 hl)
theorem ry_get {n ci k idx : Nat} {v : Value} {fs : List Value} (hf : FL own idx ci k) (hn : n < N) (hc : cs n = .inr (ci, fs)) (hv : fs[k]? = some v) (hd : decode cc pc = .ok (.getfield idx, 3)) (kk : RunY G own nm cc nL rt F cells slots (pc + 3) lv (v :: st) N cs) : RunY G own nm cc nL rt F cells slots pc lv (.ref (gA G n) :: st) N cs := by
  intro p l e s m args below meth c H locs ls X hi0 hP hS hl
  obtain ⟨C, T, M, h1, h2, h3, h4, h5⟩ := hf
  exact va_get X.1.1 X.1.2.1 X.1.2.2.2.2.2.2.1 h4 X.1.2.2.2.1 X.1.2.2.2.2.2.2.2.1.2.1 hP.2 n (by rw [wS_get hn, hc]) h1 k h3 (X.1.2.2.2.2.2.2.1 _ h5) (fun _ h => h) hv hd (kk p l e s m args below meth c H locs ls X hi0 hP hS hl)
/-- the next place of an array of references -/
theorem ry_aast {n κ κ' t0 v L : Nat} {x : Int32} {r : vw_C} {fs : List Value} {i : Nat} (hn : n < N) (hv : v < N) (ht : (tysOf G)[t0]? = some (gY G κ, .object r.1)) (hr : vwCl[κ']? = some r) (hc : cs n = refI G κ n i) (hL : ln n = L) (hcv : cs v = .inr (κ', fs)) (hx : inb x L = true) (hi : x.toNatClampNeg = i) (hsp : sp n i = v) (hd : decode cc pc = .ok (.aastore, 1))
    (kk : RunY G own nm cc nL rt F cells slots (pc + 1) lv st N (va_up cs n (refI G κ n (i + 1)))) : RunY G own nm cc nL rt F cells slots pc lv (.ref (gA G v) :: .int x :: .ref (gA G n) :: st) N cs := by
  intro p l e s m args below meth c H locs ls X hi0 hP hS hl
  subst hL
  subst hi
  refine va_astq X.1.1 X.1.2.1 X.1.2.2.2.2.2.2.2.1.2.1 hP.2 (wS_D X.2 cs N) hS n t0 v κ' (f := fun j => if j < x.toNatClampNeg then some (gA G (sp n j)) else none) (by rw [wS_get hn, hc]; rfl) ht (by rw [wS_get hv, hcv]) hr (inb_vp hx) hd (fun H1 locs1 q1 q2 q3 => ?_)
  have e0 : (va_up (fun j => if j < x.toNatClampNeg then some (gA G (sp n j)) else none) x.toNatClampNeg (some (gA G v))) = (fun j => if j < x.toNatClampNeg + 1 then some (gA G (sp n j)) else none) := by
    funext j
    unfold va_up
    by_cases h : j = x.toNatClampNeg
    · subst h; rw [if_pos rfl, if_pos (Nat.lt_succ_self _), hsp]
    · rw [if_neg h]
      dsimp only
      by_cases h2 : j < x.toNatClampNeg
      · rw [if_pos h2, if_pos (by omega)]
      · rw [if_neg h2, if_neg (by omega)]
  rw [e0, wS_set hn] at q1
  exact W.szle (fun hz => kk p l e s m args below meth c H1 locs1 ls X hi0 ⟨yw_sz X.2 (by omega) q1 (by rw [← hi0.2]; exact hz), q1⟩ q3 hl)
theorem ry_aald {n κ t0 j i : Nat} {C : String} {x : Int32} (hn : n < N) (ht : (tysOf G)[t0]? = some (gY G κ, .object C)) (hc : cs n = refI G κ n i) (hx : inb x (ln n) = true) (hj : x.toNatClampNeg = j) (hji : j < i) (hd : decode cc pc = .ok (.aaload, 1)) (kk : RunY G own nm cc nL rt F cells slots (pc + 1) lv (.ref (gA G (sp n j)) :: st) N cs) : RunY G own nm cc nL rt F cells slots pc lv (.int x :: .ref (gA G n) :: st) N cs := by
  intro p l e s m args below meth c H locs ls X hi0 hP hS hl
  subst hj
  refine va_aldq X.1.1 X.1.2.1 X.1.2.2.2.2.2.2.2.1.2.1 hP.2 n t0 (f := fun j => if j < i then some (gA G (sp n j)) else none) (by rw [wS_get hn, hc]; rfl) ht (inb_vp hx) hd ?_
  have e0 : (if x.toNatClampNeg < i then some (gA G (sp n x.toNatClampNeg)) else none) = some (gA G (sp n x.toNatClampNeg)) := if_pos hji
  show W _ _ _ _ _ _ _ _ _ _ _ _ _ _ _ (F0 m (pc + 1) ls (va_rf (if x.toNatClampNeg < i then some (gA G (sp n x.toNatClampNeg)) else none) :: st))
  rw [e0]
  exact kk p l e s m args below meth c H locs ls X hi0 hP hS hl
theorem ry_iast {n L : Nat} {f : Nat → Int32} {i x : Int32} {j : Nat} (hn : n < N) (hc : cs n = .inl (gY G 14, L, .inl f)) (hi : inb i L = true) (hj : i.toNatClampNeg = j) (hd : decode cc pc = .ok (.iastore, 1)) (kk : RunY G own nm cc nL rt F cells slots (pc + 1) lv st N (va_up cs n (.inl (gY G 14, L, .inl (upd f j x))))) : RunY G own nm cc nL rt F cells slots pc lv (.int x :: .int i :: .ref (gA G n) :: st) N cs := by
  intro p l e s m args below meth c H locs ls X hi0 hP hS hl
  subst hj
  refine va_iast X.1.1 X.1.2.1 X.1.2.2.2.2.2.2.2.1.2.1 hP.2 (wS_D X.2 cs N) hS n 1 (by rw [wS_get hn, hc]) rfl (inb_vp hi) hd (fun H1 locs1 q1 q2 q3 => ?_)
  rw [wS_set hn] at q1
  exact W.szle (fun hz => kk p l e s m args below meth c H1 locs1 ls X hi0 ⟨yw_sz X.2 (by omega) q1 (by rw [← hi0.2]; exact hz), q1⟩ q3 hl)
theorem ry_alen {n L : Nat} {f : Nat → Int32} (hn : n < N) (hc : cs n = .inl (gY G 14, L, .inl f)) (hd : decode cc pc = .ok (.arraylength, 1)) (kk : RunY G own nm cc nL rt F cells slots (pc + 1) lv (.int (nI L) :: st) N cs) : RunY G own nm cc nL rt F cells slots pc lv (.ref (gA G n) :: st) N cs := by
  intro p l e s m args below meth c H locs ls X hi0 hP hS hl
  exact va_alen X.1.1 X.1.2.1 X.1.2.2.2.2.2.2.2.1.2.1 hP.2 n 1 (x := (L, .inl f)) (v := nI L) (by rw [wS_get hn, hc]) rfl rfl hd (kk p l e s m args below meth c H locs ls X hi0 hP hS hl)
theorem ry_ret {mc ms : Nat} {K : Nat → (Nat → va_E) → Prop} (hd : decode cc pc = .ok (.return_, 1)) (k : K N cs) : RunY G own nm cc nL none (yF G d mc ms K) mc ms pc lv [] N cs := fun p l e s m args below meth c H locs ls X hi0 hP hS hl =>
  W.vret (Qc := QY G K) (free := gOld G) X.1.1 X.1.2.1 X.1.2.2.2.2.1 (fun t ht _ => ⟨⟨N, cs, rfl, k, by rw [ht]; exact hP⟩, hS.F ht⟩) hS.2.2 hd X.1.2.2.2.2.2.1
theorem ry_spec {y : MethodName} {b : ByteArray} {mL mc ms : Nat} {av : List Value} {K : Nat → (Nat → va_E) → Prop} (hy : plainName y.cls = true) (hn : (lg_sl av).length ≤ mL) (k : RunY G y.cls y.name b mL none (yF G d mc ms K) 0 0 0 (lv_args 0 av) [] N cs) : SpecY G y b mL d mc ms av N cs K := by
  intro l
  refine Met.ofW (cc := b) (maxL := mL) (ret := none) hy rfl ?_
  intro p e s m args below meth c s₁ B hml hv
  obtain ⟨rfl, hP, hC, hH, hz⟩ := hv
  have hts := atoms_spec (ws := .code y b mL none :: gw) B.pre
  have hl := lv_entry av (n := mL) hn
  rw [lg_entry_eq]
  exact k p l e s m av.toArray below meth c s.heap [] _ ⟨⟨B.exec, B.bytes, hml, findClass_of_methodNamed B.named, B.returns, B.notSynchronized, fun w hw => hts w (List.mem_cons_of_mem _ hw), hC, hH⟩, hz⟩ ⟨(name_of_methodNamed B.named B.method).1, by rw [hP.1]; omega⟩ hP va_S.rf hl
/-- behind a call of a constructor -/
theorem wy_call {p : Program} {l : Launch} {e : Env} {R : Room} {s : State} {m : MethodId} {args a : Array Value} {below : List Frame} {meth : Method} {c : Code} {H : Heap} {locs : List Loc} {Q : State → Prop} {ls : Array Slot} {st0 rest : List Value} {mc ms : Nat} {K : Nat → (Nat → va_E) → Prop}
    (hr : va_Run p l e R s m args below meth c H locs cells slots mc ms (F0 m pc ls st0) rest (QY G K a) (gOld G)) (hS : va_S (gOld G) s.heap H locs)
    (kk : ∀ (N' : Nat) (cs' : Nat → va_E) (H1 : Heap) (locs1 : List Loc), K N' cs' → YW G cs' N' H1 → va_S (gOld G) s.heap H1 locs1 → W p l e R s m args below meth c H1 locs1 (cells + mc) (slots + ms) Q (F0 m (pc + 3) ls rest)) : W p l e R s m args below meth c H locs cells slots Q (F0 m pc ls st0) := by
  intro T hT X
  obtain ⟨v, st₀, t, T', L, h0, X', hL, e1, e2, ⟨⟨N', cs', hv, hp, hb⟩, hz, hk⟩, st⟩ := hr T hT X
  cases hv
  rw [h0] at hz hk
  obtain ⟨t2, a1, b1⟩ := kk N' cs' T'.heap (locs ++ L) hp (by rw [e1]; exact hb)
    ⟨Nat.le_trans hS.1 (by rw [e1]; exact hz), fun q h1 h2 => by rw [e1, hk q (Nat.lt_of_lt_of_le h1 hS.1) h2]; exact hS.2.1 q h1 h2, fun q hq => by
      rcases List.mem_append.mp hq with h | h
      · exact hS.2.2 q h
      · exact hL q h⟩ T' rfl X'
  exact ⟨t2, st t2 a1, b1⟩
theorem prey_blind {av : List Value} : FrameBlind (va_Pc av (fun U => YW G cs N U.heap ∧ CxS G U ∧ CxH G U.heap ∧ gZ G)) := fun a U g mk q => ⟨q.1, q.2.1, q.2.2.1.call g mk a, q.2.2.2⟩
theorem CxH.goY {H0 H : Heap} {locs : List Loc} (h : CxH G H0) (hS : va_S (gOld G) H0 H locs) : CxH G H := by
  refine ⟨Nat.le_trans h.1 hS.1, fun q hq => ?_⟩
  rw [hS.2.1 q (Nat.lt_of_lt_of_le hq h.1) (gOld_no G q hq)]
  exact h.2 q hq
theorem prey_at {s : State} {m : MethodId} {args : Array Value} {p : Program} {meth : Method} {c : Code} {H : Heap} {locs : List Loc} {av : List Value} (X : IxY G own cc nL rt p s m args meth c) (hP : YW G cs N H) (hS : va_S (gOld G) s.heap H locs) : ∀ U : State, U.heap = H → s.WarmedH U.vm → va_Pc av (fun U => YW G cs N U.heap ∧ CxS G U ∧ CxH G U.heap ∧ gZ G) av.toArray U := fun U hU hW => ⟨rfl, by rw [hU]; exact hP, X.1.2.2.2.2.2.2.2.1.warm hW, by rw [hU]; exact CxH.goY X.1.2.2.2.2.2.2.2.2 hS, X.2⟩
/-- room for a callee that makes cells -/
def RY (F : FT) (d cells slots mc ms : Nat) : Prop := d + 1 ≤ F.1.frames ∧ 30 * d + 30 ≤ F.1.locals ∧ cells + mc ≤ F.1.cells ∧ slots + ms ≤ F.1.slots
theorem ry_callI {y : MethodName} {b : ByteArray} {mL idx n nA mc ms N2 : Nat} {As : List Value} (K' : Nat → (Nat → va_E) → Prop) (hN : ∀ N' cs', K' N' cs' → N' = N + mc) (hw : MW y b mL none nA) (hy1 : y.name = "<init>") (hi : Cond.instanceMethod y ∈ gw) (hm : Cond.methodLink own idx y ∈ gw) (hA : As.length = nA) (hR : RY F d cells slots mc ms) (hst : (st.map fun v => v.category).sum ≤ 8) (hd : decode cc pc = .ok (.invokespecial idx, 3))
    (hsp : SpecY G y b mL d mc ms (.ref (gA G n) :: As) N cs K') (kk : ∀ cs', K' (N + mc) cs' → RunY G own nm cc nL rt F (cells + mc) (slots + ms) (pc + 3) lv st (N + mc) cs') {st0 : List Value} (hs0 : st0 = As.reverse ++ .ref (gA G n) :: st) : RunY G own nm cc nL rt F cells slots pc lv st0 N cs := by
  intro p l e s m args below meth c H locs ls X hi0 hP hS hl
  have hts := X.1.2.2.2.2.2.2.1
  subst hs0
  refine wy_call (va_runI (As := As) (rest := st) (b := gA G n) ⟨X.1.1, X.1.2.1, X.1.2.2.1, X.1.2.2.2.1, hts⟩ (hsp l) (n := nA) (bytes := b) (maxL := mL) ⟨callB_of nA hts (gw_in hw.2.1) rfl rfl rfl (hts _ hw.1) (hts _ hm) hw.2.2.1 ⟨hR.1, by have := hR.2.1; have := hw.2.2.2; show 8 + (mL + 11) + 30 * d ≤ _; omega⟩, hy1, hts _ hi⟩ ⟨prey_blind, prey_at X hP hS⟩ rfl hA hl.1 rfl (lv_room hst) hd ⟨hR.2.2.1, hR.2.2.2⟩) hS (fun N' cs' H1 locs1 q1 q2 q3 => ?_)
  have e := hN N' cs' q1
  subst e
  exact kk cs' q1 p l e s m args below meth c H1 locs1 ls X ⟨hi0.1, by have := hi0.2; omega⟩ q2 q3 hl
theorem ry_callIN {y : MethodName} {b : ByteArray} {mL idx n nA mc ms : Nat} {As : List Value} {host : String} (K' : Nat → (Nat → va_E) → Prop) (hN : ∀ N' cs', K' N' cs' → N' = N + mc) (hw : MW y b mL none nA) (hy1 : y.name = "<init>") (hi : Cond.instanceMethod y ∈ gw) (hm : Cond.methodLinkNest own idx y host ∈ nw) (hA : As.length = nA) (hR : RY F d cells slots mc ms) (hst : (st.map fun v => v.category).sum ≤ 8) (hd : decode cc pc = .ok (.invokespecial idx, 3))
    (hsp : SpecY G y b mL d mc ms (.ref (gA G n) :: As) N cs K') (kk : ∀ cs', K' (N + mc) cs' → RunY G own nm cc nL rt F (cells + mc) (slots + ms) (pc + 3) lv st (N + mc) cs') {st0 : List Value} (hs0 : st0 = As.reverse ++ .ref (gA G n) :: st) : RunY G own nm cc nL rt F cells slots pc lv st0 N cs := by
  intro p l e s m args below meth c H locs ls X hi0 hP hS hl
  have hts := X.1.2.2.2.2.2.2.1
  subst hs0
  refine wy_call (va_runIN (As := As) (rest := st) (b := gA G n) (host := host) ⟨X.1.1, X.1.2.1, X.1.2.2.1, X.1.2.2.2.1, hts⟩ (hsp l) (n := nA) (bytes := b) (maxL := mL) ⟨va_cnB nA hts (gw_in hw.2.1) rfl rfl rfl (X.1.2.2.2.2.2.2.2.1.2.2.1 _ hm) (hts _ hw.1) hw.2.2.1 ⟨hR.1, by have := hR.2.1; have := hw.2.2.2; show 8 + (mL + 11) + 30 * d ≤ _; omega⟩, hy1, hts _ hi⟩ ⟨prey_blind, prey_at X hP hS⟩ rfl hA hl.1 rfl (lv_room hst) hd ⟨hR.2.2.1, hR.2.2.2⟩) hS (fun N' cs' H1 locs1 q1 q2 q3 => ?_)
  have e := hN N' cs' q1
  subst e
  exact kk cs' q1 p l e s m args below meth c H1 locs1 ls X ⟨hi0.1, by have := hi0.2; omega⟩ q2 q3 hl
theorem ry_callV {y : MethodName} {b : ByteArray} {mL idx n ci nA : Nat} {As fs : List Value} {r : vw_C} (K' : Nat → (Nat → va_E) → Prop) (hN : ∀ N' cs', K' N' cs' → N' = N) (hw : MW y b mL none nA) (hi : MI y) (hm : Cond.methodLink own idx y ∈ gw) (hn : n < N) (hc : cs n = .inr (ci, fs)) (hr : vwCl[ci]? = some r) (hy : r.1 = y.cls) (hA : As.length = nA) (hR : RY F d cells slots 0 0) (hst : (st.map fun v => v.category).sum ≤ 8) (hd : decode cc pc = .ok (.invokevirtual idx, 3))
    (hsp : SpecY G y b mL d 0 0 (.ref (gA G n) :: As) N cs K') (kk : ∀ cs', K' N cs' → RunY G own nm cc nL rt F cells slots (pc + 3) lv st N cs') {st0 : List Value} (hs0 : st0 = As.reverse ++ .ref (gA G n) :: st) : RunY G own nm cc nL rt F cells slots pc lv st0 N cs := by
  intro p l e s m args below meth c H locs ls X hi0 hP hS hl
  have hts := X.1.2.2.2.2.2.2.1
  subst hs0
  refine wy_call (va_runV (As := As) (rest := st) (C := y.cls) (b := gA G n) ⟨X.1.1, X.1.2.1, X.1.2.2.1, X.1.2.2.2.1, hts⟩ (hsp l) (n := nA) (bytes := b) (maxL := mL) (ret := none) ⟨callB_of nA hts (gw_in hw.2.1) rfl rfl rfl (hts _ hw.1) (hts _ hm) hw.2.2.1 ⟨hR.1, by have := hR.2.1; have := hw.2.2.2; show 8 + (mL + 11) + 30 * d ≤ _; omega⟩, hts _ hi.1, hts _ hi.2⟩ ⟨prey_blind, ?_, prey_at X hP hS⟩ rfl hA hl.1 rfl (lv_room hst) hd ⟨hR.2.2.1, hR.2.2.2⟩) hS (fun N' cs' H1 locs1 q1 q2 q3 => ?_)
  · rw [← hy]
    exact va_recv X.1.2.2.2.2.2.2.2.1.2.1 hP.2 hr (by rw [wS_get hn, hc])
  · have e := hN N' cs' q1
    subst e
    exact kk cs' q1 p l e s m args below meth c H1 locs1 ls X hi0 q2 q3 hl
theorem ry_callS {y : MethodName} {b : ByteArray} {mL idx nA : Nat} {As : List Value} (K' : Nat → (Nat → va_E) → Prop) (hN : ∀ N' cs', K' N' cs' → N' = N) (hw : MW y b mL none nA) (hi : Cond.static y ∈ gw) (hm : Cond.methodLink own idx y ∈ gw) (hA : As.length = nA) (hR : RY F d cells slots 0 0) (hst : (st.map fun v => v.category).sum ≤ 8) (hd : decode cc pc = .ok (.invokestatic idx, 3))
    (hsp : SpecY G y b mL d 0 0 As N cs K') (kk : ∀ cs', K' N cs' → RunY G own nm cc nL rt F cells slots (pc + 3) lv st N cs') {st0 : List Value} (hs0 : st0 = As.reverse ++ st) : RunY G own nm cc nL rt F cells slots pc lv st0 N cs := by
  intro p l e s m args below meth c H locs ls X hi0 hP hS hl
  have hts := X.1.2.2.2.2.2.2.1
  subst hs0
  refine wy_call (va_runS (As := As) (rest := st) ⟨X.1.1, X.1.2.1, X.1.2.2.1, X.1.2.2.2.1, hts⟩ (hsp l) (n := nA) (bytes := b) (maxL := mL) (ret := none) ⟨callB_of nA hts (gw_in hw.2.1) rfl rfl rfl (hts _ hw.1) (hts _ hm) hw.2.2.1 ⟨hR.1, by have := hR.2.1; have := hw.2.2.2; show 8 + (mL + 11) + 30 * d ≤ _; omega⟩, hts _ hi⟩ ⟨prey_blind, prey_at X hP hS⟩ rfl hA hl.1 rfl (lv_room hst) hd ⟨hR.2.2.1, hR.2.2.2⟩) hS (fun N' cs' H1 locs1 q1 q2 q3 => ?_)
  have e := hN N' cs' q1
  subst e
  exact kk cs' q1 p l e s m args below meth c H1 locs1 ls X hi0 q2 q3 hl
end YROWS2
