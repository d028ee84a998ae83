def NC : Nat := 314
def kdL : List Nat := [11, 9, 13, 14, 19, 20, 18, 16, 7, 14, 8, 14, 14, 14, 14, 4, 14, 14, 14, 1, 14, 14, 7, 14, 8, 14, 14, 14, 14, 4, 14, 14, 14, 1, 14, 14, 21, 9, 13, 14, 19, 20, 18, 16, 7, 14, 8, 14, 14, 14, 14, 4, 14, 14, 14, 1, 14, 14, 7, 14, 8, 14, 14, 14, 14, 4, 14, 14, 14, 1, 14, 14, 9, 13, 14, 19, 20, 18, 16, 7, 14, 8, 14, 14, 14, 14, 4, 14, 14, 14, 1, 14, 14, 7, 14, 8, 14, 14, 14, 14, 4, 14, 14, 14, 1, 14, 14, 9, 13, 14, 19, 20, 18, 16, 7, 14, 8, 14, 14, 14, 14, 4, 14, 14, 14, 1, 14, 14, 7, 14, 8, 14, 14, 14, 14, 4, 14, 14, 14, 1, 14, 14, 15, 5, 14, 14, 3, 14, 14, 14, 14, 14, 22, 17, 14, 14, 14, 14, 10, 14, 14, 14, 10, 14, 14, 14, 10, 14, 14, 14, 10, 14, 14, 14, 2, 14, 2, 14, 2, 14, 2, 14, 2, 14, 2, 14, 2, 14, 2, 14, 2, 14, 2, 14, 2, 14, 2, 14, 2, 14, 2, 14, 2, 14, 2, 14, 2, 14, 2, 14, 2, 14, 2, 14, 2, 14, 2, 14, 2, 14, 2, 14, 2, 14, 2, 14, 2, 14, 2, 14, 2, 14, 2, 14, 0, 24, 23, 14, 14, 14, 14, 14, 14, 14, 14, 14, 6, 14, 23, 14, 14, 14, 14, 14, 14, 14, 14, 14, 14, 14, 14, 14, 14, 14, 14, 14, 14, 14, 14, 12, 13, 14, 14, 14, 14, 14, 14, 14, 14, 14, 14, 14, 14, 14, 14, 14, 14, 14, 14, 14, 14, 14, 14, 14, 14, 14, 14, 14, 14, 14, 14, 14, 14, 14, 14, 14, 14, 14, 14, 14, 14, 14, 14, 15]
def lnL : List Nat := [0, 0, 600, 4, 2, 2, 2, 2, 0, 10, 0, 7, 42, 42, 42, 0, 40, 40, 40, 0, 8, 8, 0, 10, 0, 7, 42, 42, 42, 0, 40, 40, 40, 0, 8, 8, 3, 0, 600, 4, 2, 2, 2, 2, 0, 10, 0, 7, 42, 42, 42, 0, 40, 40, 40, 0, 8, 8, 0, 10, 0, 7, 42, 42, 42, 0, 40, 40, 40, 0, 8, 8, 0, 600, 4, 2, 2, 2, 2, 0, 10, 0, 7, 42, 42, 42, 0, 40, 40, 40, 0, 8, 8, 0, 10, 0, 7, 42, 42, 42, 0, 40, 40, 40, 0, 8, 8, 0, 600, 4, 2, 2, 2, 2, 0, 10, 0, 7, 42, 42, 42, 0, 40, 40, 40, 0, 8, 8, 0, 10, 0, 7, 42, 42, 42, 0, 40, 40, 40, 0, 8, 8, 3, 0, 2, 2, 0, 10, 10, 10, 10, 10, 4, 30, 60, 60, 60, 60, 0, 10, 10, 10, 0, 10, 10, 10, 0, 10, 10, 10, 0, 10, 10, 10, 0, 10, 0, 10, 0, 10, 0, 10, 0, 10, 0, 10, 0, 10, 0, 10, 0, 10, 0, 10, 0, 10, 0, 10, 0, 10, 0, 10, 0, 10, 0, 10, 0, 10, 0, 10, 0, 10, 0, 10, 0, 10, 0, 10, 0, 10, 0, 10, 0, 10, 0, 10, 0, 10, 0, 10, 0, 10, 0, 10, 0, 30, 7, 10, 10, 10, 10, 10, 10, 10, 6, 6, 0, 16, 16, 10, 10, 10, 10, 10, 10, 10, 10, 10, 10, 10, 10, 10, 10, 10, 10, 10, 5, 10, 10, 0, 2400, 4, 4, 4, 16, 104, 1072, 968, 136, 134, 3, 10, 10, 10, 10, 10, 4, 4, 4, 4, 4, 4, 40, 40, 40, 64, 64, 64, 64, 64, 64, 64, 64, 640, 7, 10, 10, 10, 64, 10, 6, 6, 1010, 3]
def styL : List (List Nat) := [[1, 0, 1, 1, 1, 0], [0, 1, 1], [0, 0, 0, 0, 0, 0, 0, 0, 0, 0, 1], [2, 2, 0, 0, 1, 1, 1, 1, 1, 1, 1, 0, 0, 1, 1, 1, 1, 0, 0, 0], [0, 1, 1, 1], [1, 0, 0, 0, 0, 0, 0, 0, 0, 1, 1, 0, 0, 0, 0], [1, 1, 1, 0], [0, 0, 1], [0, 1, 1, 1, 1], [1, 0, 0, 0, 1, 1, 1, 1, 1], [0, 0, 0, 0, 0, 0, 0, 0, 0, 1, 1, 1], [1, 1, 1, 1, 1, 1, 1, 1, 1, 1, 0], [0, 1, 1, 1, 1, 1, 1, 1, 1, 1, 0, 0, 0, 0, 0, 3, 0, 0, 0, 1, 1, 0, 0, 0, 0, 0, 0, 0, 0, 0, 0, 1, 1, 1, 1, 1, 1, 1, 1, 1, 1, 1, 1, 1, 1, 1, 1, 1, 1, 1, 1, 1, 1, 1, 0, 0, 0, 0, 0, 0, 1, 1, 0, 0, 0, 0, 0, 1, 1, 0, 1, 0, 0, 1, 1, 1, 0, 0, 0, 0, 0, 0, 1, 0, 0, 0, 0, 0, 0, 0, 0, 1]]
def spL : List (List Nat) := [[1, 0, 2, 10, 11, 0], [0, 1, 2], [0, 0, 0, 0, 0, 0, 0, 0, 0, 0, 1], [0, 0, 0, 0, 1, 2, 3, 4, 5, 6, 7, 0, 0, 8, 9, 10, 11, 0, 0, 0], [0, 1, 2, 3], [0, 0, 0, 0, 0, 0, 0, 0, 0, 1, 2, 0, 0, 0, 0], [1, 2, 19, 0], [0, 0, 1], [0, 1, 2, 3, 4], [1, 0, 0, 0, 2, 3, 4, 5, 6], [0, 0, 0, 0, 0, 0, 0, 0, 0, 1, 2, 3], [1, 36, 142, 143, 146, 234, 246, 266, 267, 268, 0], [0, 1, 2, 3, 4, 5, 6, 7, 8, 9, 0, 0, 0, 0, 0, 0, 0, 0, 0, 10, 11, 0, 0, 0, 0, 0, 0, 0, 0, 0, 0, 12, 13, 14, 15, 16, 17, 18, 19, 20, 21, 22, 23, 24, 25, 26, 27, 28, 29, 30, 31, 32, 33, 34, 0, 0, 0, 0, 0, 0, 35, 36, 0, 0, 0, 0, 0, 37, 38, 0, 39, 0, 0, 40, 41, 42, 0, 0, 0, 0, 0, 0, 43, 0, 0, 0, 0, 0, 0, 0, 0, 44]]
/-! ===== the core: one world of numbered cells, a memory of ints over it ===== -/
abbrev vwCl : List vw_C := [(RX0, TX0, 6), (RX1, TX1, 3), (RX2, TX2, 11), (RX3, TX3, 20), (RX4, TX4, 4), (RX5, TX5, 15), (RX6, TX6, 4), (RX7, TX7, 3), (RX8, TX8, 5), (RX9, TX9, 9), (RX10, TX10, 12), (RX11, TX11, 11), (RX12, TX12, 92)]
abbrev GT : Type := va_G × (Nat → Nat) × (Nat → ClassId) × State
abbrev Mem : Type := Nat → Nat → Int32
def gA (G : GT) : Nat → Nat := G.2.1
def gY (G : GT) : Nat → ClassId := G.2.2.1
def g0 (G : GT) : State := G.2.2.2
def kd (n : Nat) : Nat := kdL.getD n 99
def ln (n : Nat) : Nat := lnL.getD n 0
def sty (ci k : Nat) : Nat := (styL.getD ci []).getD k 9
/-- where a cell's reference points to -/
def sp (n k : Nat) : Nat :=
  if kd n ≤ 12 then (if kd n = 5 ∧ k = 0 then 2 else n + (spL.getD (kd n) []).getD k 0)
  else if kd n = 16 then n + 12 + 14 * k else if kd n = 17 then n + 21 + 2 * k else if kd n = 18 then n + 9 + 14 * k else if kd n = 19 then n + 4 + 14 * k
  else if kd n = 20 then n + 5 + 14 * k else if kd n = 21 then n + 1 + 35 * k else if kd n = 22 then n + 6 + 4 * k else n + 1 + k
/-- a long out of two ints -/
def lgJ (hi lo : Int32) : Int64 := Int64.ofBitVec (hi.toBitVec ++ lo.toBitVec)
def lgH (x : Int64) : Int32 := Int32.ofBitVec (x.toBitVec.extractLsb' 32 32)
def lgL (x : Int64) : Int32 := Int32.ofBitVec (x.toBitVec.extractLsb' 0 32)
def rfN (x : Int32) : Nat := x.toNatClampNeg
def dref (x : Int32) : Option Nat := if x < 0 then none else some x.toNatClampNeg
def slotV (G : GT) (n : Nat) (r : Nat → Int32) (k : Nat) : Value :=
  if sty (kd n) k = 0 then .int (r k) else if sty (kd n) k = 1 then .ref (gA G (sp n k)) else if sty (kd n) k = 2 then .ref (gA G (rfN (r k))) else .long (lgJ (r k) (r (k + 1000)))
def nfL : List Nat := [6, 3, 11, 20, 4, 15, 4, 3, 5, 9, 12, 11, 92]
def nf (ci : Nat) : Nat := nfL.getD ci 0
def cellR (G : GT) (n : Nat) (r : Nat → Int32) : va_E :=
  if kd n ≤ 12 then .inr (kd n, (List.range (nf (kd n))).map (slotV G n r))
  else if kd n ≤ 15 then .inl (gY G (kd n), ln n, .inl r)
  else if kd n = 24 then .inl (gY G 17, ln n, .inr (.inr (.inr (.inr (fun i => (dref (r i)).map (gA G))))))
  else .inl (gY G (kd n), ln n, .inr (.inr (.inr (.inr (fun i => some (gA G (sp n i)))))))
def wd (G : GT) (σ : Mem) : va_W := (List.range NC).map (fun n => (gA G n, cellR G n (σ n)))
def tysOf (G : GT) : List (ClassId × FieldType) := [(gY G 13, .byte), (gY G 14, .int), (gY G 15, .boolean), (gY G 16, .object RX1), (gY G 17, .object RX2), (gY G 18, .object RX4), (gY G 19, .object RX7), (gY G 20, .object RX8), (gY G 21, .object RX9), (gY G 22, .object RX10), (gY G 23, .array .int)]
def st2 (σ : Mem) (n k : Nat) (v : Int32) : Mem := fun a => if a = n then upd (σ n) k v else σ a
def cp2 (σ : Mem) (a b sp dp n : Nat) : Mem := fun x => if x = b then va_cpy (σ a) (σ b) sp dp n else σ x
theorem st2_at (σ : Mem) (n k : Nat) (v : Int32) : st2 σ n k v n = upd (σ n) k v := if_pos rfl
theorem st2_ne (σ : Mem) {n a : Nat} (k : Nat) (v : Int32) (h : a ≠ n) : st2 σ n k v a = σ a := if_neg h
theorem wd_get {G : GT} {σ : Mem} {n : Nat} (h : n < NC) : (wd G σ)[n]? = some (gA G n, cellR G n (σ n)) := by simp [wd, h]
theorem wd_at {G : GT} {σ : Mem} {k : Nat} {q : Nat × va_E} (h : (wd G σ)[k]? = some q) : k < NC ∧ q = (gA G k, cellR G k (σ k)) := by
  have hk : k < NC := by
    rcases Nat.lt_or_ge k NC with h1 | h1
    · exact h1
    · rw [List.getElem?_eq_none (by simp [wd]; exact h1)] at h; cases h
  rw [wd_get hk] at h
  exact ⟨hk, (Option.some.inj h).symm⟩
theorem wd_set {G : GT} {σ σ' : Mem} {n : Nat} (h : n < NC) {e : va_E} (h1 : cellR G n (σ' n) = e) (h2 : ∀ j, j ≠ n → σ' j = σ j) : (wd G σ).set n (gA G n, e) = wd G σ' := by
  apply List.ext_getElem?
  intro i
  rw [List.getElem?_set]
  rcases Nat.lt_or_ge i NC with hi | hi
  · rw [wd_get hi, wd_get hi]
    by_cases hn : n = i
    · subst hn
      rw [if_pos rfl, if_pos (by simp [wd]; exact hi), h1]
    · rw [if_neg hn, h2 i (fun e => hn e.symm)]
  · rw [List.getElem?_eq_none (l := wd G σ) (by simp [wd]; exact hi), List.getElem?_eq_none (l := wd G σ') (by simp [wd]; exact hi), if_neg (by omega)]
/-- a cell of a kind -/
def Is (n κ : Nat) : Prop := n < NC ∧ kd n = κ
def aw (G : GT) (sz : Nat) : Nat → Prop := fun q => (∃ n, n < NC ∧ q = gA G n) ∨ sz ≤ q
/-- what is so at the law's entry -/
def gPre (G : GT) : Prop := ∃ b : Addr, (Jvm.Cond.and given_1 narrow_1).before #[Value.ref b] (g0 G) = true ∧ ∀ w ∈ lw_tbl, w.before #[Value.ref b] (g0 G) = true
def gOK (G : GT) : Prop := (∀ i j, i < NC → j < NC → gA G i = gA G j → i = j) ∧ (∀ n, n < NC → (g0 G).heap.size ≤ gA G n) ∧ gPre G
theorem wd_D {G : GT} (h : gOK G) (σ : Mem) (sz : Nat) : va_D (aw G sz) (wd G σ) := by
  refine ⟨fun i j p q h1 h2 h3 => ?_, fun k q h1 => ?_⟩
  · obtain ⟨a1, rfl⟩ := wd_at h1
    obtain ⟨a2, rfl⟩ := wd_at h2
    exact h.1 i j a1 a2 h3
  · obtain ⟨a1, rfl⟩ := wd_at h1
    exact Or.inl ⟨k, a1, rfl⟩
def isNest : Cond → Bool
  | .fieldLinkNest .. => true
  | .methodLinkNest .. => true
  | _ => false
def gw : List Cond := lw_tbl.filter goodWord
def nw : List Cond := lw_tbl.filter isNest
theorem gw_of {w : Cond} (i : Nat) (h : lw_tbl[i]? = some w) (hg : goodWord w = true) : w ∈ gw := List.mem_filter.mpr ⟨List.mem_of_getElem? h, hg⟩
theorem nw_of {w : Cond} (i : Nat) (h : lw_tbl[i]? = some w) (hg : isNest w = true) : w ∈ nw := List.mem_filter.mpr ⟨List.mem_of_getElem? h, hg⟩
theorem gw_sub {ws : List Cond} (ps : List Nat) (hp : ws = ps.filterMap (fun i => lw_tbl[i]?)) (h : ws.all goodWord = true) : ∀ w ∈ ws, w ∈ gw := by
  intro w hw
  refine List.mem_filter.mpr ⟨?_, List.all_eq_true.mp h w hw⟩
  rw [hp] at hw
  obtain ⟨i, -, hi⟩ := List.mem_filterMap.mp hw
  exact List.mem_of_getElem? hi
theorem gw_good {w : Cond} (h : w ∈ gw) : (w.onTables && w.keeps) = true ∨ ∃ ty, w = .arrayClass ty := good_of_word (List.mem_filter.mp h).2
theorem gw_in {y : MethodName} {b : ByteArray} {mL : Nat} {ret : Option FieldType} (h : Cond.code y b mL ret ∈ gw) : GoodIn gw (Cond.code y b mL ret :: gw) := fun w hw => (List.mem_cons.mp hw).elim (fun e => by subst e; exact ⟨h, gw_good h⟩) (fun q => ⟨q, gw_good q⟩)
theorem nest_on {w : Cond} (h : isNest w = true) : w.onTables = true := by
  cases w <;> first | rfl | (simp [isNest] at h)
theorem nest_warm {w : Cond} (h : isNest w = true) {s U : State} (hW : s.WarmedH U.vm) (hZ : va_Nw w s) : va_Nw w U := by
  cases w <;> first | exact va_Nw.warmF hW hZ | exact va_Nw.warmM hW hZ | (simp [isNest] at h)
def CxS (G : GT) (s : State) : Prop := gOK G ∧ va_K G.1 vwCl (tysOf G) s ∧ (∀ w ∈ nw, va_Nw w s) ∧ (g0 G).WarmedH s.vm
def CxH (G : GT) (H : Heap) : Prop := (g0 G).heap.size ≤ H.size ∧ ∀ q, q < (g0 G).heap.size → H[q]? = (g0 G).heap[q]?
theorem CxS.warm {G : GT} {s U : State} (h : CxS G s) (hW : s.WarmedH U.vm) : CxS G U :=
  ⟨h.1, va_K.moved hW.alike h.2.1, fun w hw => nest_warm (List.mem_filter.mp hw).2 hW (h.2.2.1 w hw), State.WarmedH.trans h.2.2.2 hW⟩
theorem CxS.call {G : GT} {U : State} (h : CxS G U) (g : JFrame) (mk : MethodId) (a : Array Value) : CxS G (U.calling g mk a) :=
  ⟨h.1, va_K.moved (u := U) (U := U.calling g mk a) (Vm.Alike.refl U.vm) h.2.1, fun w hw => va_Nw.same (nest_on (List.mem_filter.mp hw).2) (u := U) (U := U.calling g mk a) rfl (h.2.2.1 w hw), h.2.2.2⟩
theorem CxH.go {G : GT} {H0 H : Heap} {locs : List Loc} (hg : gOK G) (h : CxH G H0) (hS : va_S (aw G H0.size) H0 H locs) : CxH G H := by
  refine ⟨Nat.le_trans h.1 hS.1, fun q hq => ?_⟩
  rw [hS.2.1 q (Nat.lt_of_lt_of_le hq h.1) (fun z => ?_)]
  · exact h.2 q hq
  · rcases z with ⟨n, hn, rfl⟩ | z
    · exact absurd (hg.2.1 n hn) (by omega)
    · exact absurd h.1 (by omega)
def rm (d : Nat) : Room := { frames := d, cells := 0, slots := 0, locals := 30 * d }
/-- a frame's kind: its room, what it has made, where it goes -/
abbrev FT : Type := Room × Nat × Nat × (List Frame → Array Value → State → State → Prop)
def QK (G : GT) (K : Option Value → Mem → Prop) (A : Nat → Prop) : Array Value → State → Outcome → State → Prop := fun _ st oc t => (∃ (v : Option Value) (σ' : Mem), oc = .returned v ∧ K v σ' ∧ va_P G.1 vwCl (wd G σ') t.heap) ∧ va_F A st t
def mF (G : GT) (d : Nat) (K : Option Value → Mem → Prop) : FT := (rm d, 0, 0, fun below args s => MQ below (QK G K (aw G s.heap.size)) args s 0 0 (aw G s.heap.size))
def Ix (G : GT) (own : String) (cc : ByteArray) (nL : Nat) (rt : Option FieldType) (p : Program) (s : State) (m : MethodId) (args : Array Value) (meth : Method) (c : Code) : Prop :=
  p.tables.exec = Jvm.exec ∧ c.code = cc ∧ c.maxLocals = nL ∧ s.vm.findClass own = some m.cls ∧ meth.sig.returnType = rt ∧ meth.locks = false ∧ (∀ w ∈ gw, w.before args s = true) ∧ CxS G s ∧ CxH G s.heap
/-- from here on, with these locals, this stack and this memory, the frame comes to its end -/
def Run (G : GT) (own : String) (cc : ByteArray) (nL : Nat) (rt : Option FieldType) (F : FT) (pc : Nat) (lv : List (Nat × Value)) (st : List Value) (σ : Mem) : Prop :=
  ∀ (p : Program) (l : Launch) (e : Env) (s : State) (m : MethodId) (args : Array Value) (below : List Frame) (meth : Method) (c : Code) (H : Heap) (locs : List Loc) (ls : Array Slot),
    Ix G own cc nL rt p s m args meth c → va_P G.1 vwCl (wd G σ) H → va_S (aw G s.heap.size) s.heap H locs → lv_has ls nL lv →
    W p l e F.1 s m args below meth c H locs F.2.1 F.2.2.1 (F.2.2.2 below args s) (F0 m pc ls st)
/-- a method's contract: what is left to show of its answer and memory -/
def Spec (G : GT) (y : MethodName) (b : ByteArray) (mL : Nat) (rt : Option FieldType) (d : Nat) (av : List Value) (σ : Mem) (K : Option Value → Mem → Prop) : Prop :=
  ∀ (l : Launch) (sz : Nat), Met l y (.code y b mL rt :: gw) (rm d) (va_Pc av (fun U => U.heap.size = sz ∧ va_P G.1 vwCl (wd G σ) U.heap ∧ CxS G U ∧ CxH G U.heap)) (QK G K (aw G sz)) 0 0 (aw G sz)
def kI (K : Int32 → Mem → Prop) : Option Value → Mem → Prop := fun v σ => ∃ r, v = some (.int r) ∧ K r σ
def kV (K : Mem → Prop) : Option Value → Mem → Prop := fun v σ => v = none ∧ K σ
