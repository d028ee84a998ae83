/-! ===== new int[n][k] ===== -/
theorem ym_outer (c : ClassId) (M h0 : Nat) : ∀ i : Nat, Jvm.Free.Multi.outerC c M h0 i = arrV c M (fun j => va_rf (if j < i then some (h0 + 1 + j) else none)) := by
  intro i
  induction i with
  | zero =>
    show ({ cls := c, slots := Array.replicate M .null, vm := .none } : Cell) = _
    rw [arrV_new]
    congr 1
  | succ i ih =>
    show (Jvm.Free.Multi.outerC c M h0 i).setSlot i (.ref (h0 + 1 + i)) = _
    rw [ih, arrV_store]
    congr 1
    funext j
    by_cases e : j = i
    · rw [e]; simp [updV, va_rf]
    · by_cases h : j < i
      · simp [updV, e, h, Nat.lt_succ_of_lt h]
      · simp [updV, e, h, show ¬ j < i + 1 by omega]
theorem aoa_moved {u U : State} (hvm : u.vm.Alike U.vm) {A A' : Array Value} (h : (Cond.arrayOver (.array .int)).before A u = true) : (Cond.arrayOver (.array .int)).before A' U = true := by
  have e := Cond.arrayOver_setVmC (args := A) hvm (.array .int)
  have e2 : (Cond.arrayOver (.array .int)).before A (u.setVm U.vm) = true := e.trans h
  exact e2
def csM (G : GT) (cs : Nat → va_E) (N n k : Nat) : Nat → va_E := fun j => if j = N then refI G 23 N n else if N < j ∧ j < N + 1 + n then .inl (gY G 14, k, .inl (fun _ => 0)) else cs j
section YMNA
variable {G : GT} {own nm : String} {cc : ByteArray} {nL : Nat} {rt : Option FieldType} {F : FT} {cells slots : Nat} {pc d : Nat} {lv lv' : List (Nat × Value)} {st : List Value} {N : Nat} {cs : Nat → va_E}
theorem ry_mna {idx n k : Nat} {x y : Int32} (hcl : Cond.classLink own idx "[[I" ∈ gw) (hov : Cond.arrayOver (.array .int) ∈ lw_tbl) (harr : Cond.arrayClass .int ∈ gw) (hsp : ∀ j, sp N j = N + 1 + j) (hL : ln N = n) (hx : ¬ x < 0) (hy : ¬ y < 0) (hn : x.toNatClampNeg = n) (hk : y.toNatClampNeg = k) (hb1 : n * 4 ≤ 536870912) (hb2 : k * 4 ≤ 536870912) (h1 : cells + (1 + n) ≤ F.1.cells) (h2 : slots + (n + n * k) ≤ F.1.slots) (hd : decode cc pc = .ok (.multianewarray idx 2, 4))
    (kk : RunY G own nm cc nL rt F (cells + 1 + n) (slots + n + n * k) (pc + 4) lv (.ref (gA G N) :: st) (N + 1 + n) (csM G cs N n k)) : RunY G own nm cc nL rt F cells slots pc lv (.int y :: .int x :: st) N cs := by
  intro p l e s m args below meth c H locs ls X hi0 hP hS hl
  have hts := X.1.2.2.2.2.2.2.1
  have hC := X.1.2.2.2.2.2.2.2.1
  have hz := X.2
  subst hn
  subst hk
  intro T hT Xs
  obtain ⟨b0, -, hw0⟩ := hC.1.2.2
  have hov2 : (Cond.arrayOver (.array .int)).before args s = true := aoa_moved hC.2.2.2.alike (hw0 _ hov)
  obtain ⟨vm₁, cA, comp, -, fA, fC, -, -, X', step⟩ := Xs.multianewarray2F X.1.1 X.1.2.2.2.1 (ty := .int) (hts _ hcl) hov2 (hts _ harr) (g := F0 m pc ls (.int y :: .int x :: st)) rfl (by rw [X.1.2.1]; exact hd) rfl hx hy hb1 hb2 (by omega) rfl rfl h1 h2
  have e1 : cA = gY G 23 := Option.some.inj (fA.symm.trans (hC.2.1.2 10 _ rfl).2)
  have e2 : comp = gY G 14 := Option.some.inj (fC.symm.trans (hC.2.1.2 1 _ rfl).2)
  subst e1
  subst e2
  generalize hF : Jvm.Free.Multi.fill (T.setVm vm₁) (gY G 23) (gY G 14) x.toNatClampNeg y.toNatClampNeg (defaultValue .int) x.toNatClampNeg = F1 at X' step
  have hTh : (T.setVm vm₁).heap = H := hT
  obtain ⟨f1, f2, -, -⟩ := Jvm.Free.Multi.fill_facts (T.setVm vm₁) (gY G 23) (gY G 14) x.toNatClampNeg y.toNatClampNeg (defaultValue .int) x.toNatClampNeg
  rw [hF, hTh] at f1 f2
  have hold : ∀ a : Nat, a < H.size → F1.heap[a]? = H[a]? := fun a ha => by
    have := Jvm.Free.Multi.fill_old (T.setVm vm₁) (gY G 23) (gY G 14) x.toNatClampNeg y.toNatClampNeg (defaultValue .int) (a := a) (by rw [hTh]; exact ha) x.toNatClampNeg
    rw [hF, hTh] at this
    exact this
  have hrow : ∀ j : Nat, j < x.toNatClampNeg → F1.heap[H.size + 1 + j]? = some (Jvm.Free.Multi.innerC (gY G 14) y.toNatClampNeg (defaultValue .int)) := fun j hj => by
    have := Jvm.Free.Multi.fill_inner (T.setVm vm₁) (gY G 23) (gY G 14) x.toNatClampNeg y.toNatClampNeg (defaultValue .int) x.toNatClampNeg j hj
    rw [hF, hTh] at this
    exact this
  have ea : ∀ j, gA G (N + j) = H.size + j := fun j => by rw [hz, hP.1]; omega
  have q1 : va_P G.1 vwCl (wS G (csM G cs N x.toNatClampNeg y.toNatClampNeg) (N + 1 + x.toNatClampNeg)) F1.heap := by
    intro k q hq
    obtain ⟨hk, rfl⟩ := wS_at hq
    rcases Nat.lt_trichotomy k N with h | h | h
    · have ec : csM G cs N x.toNatClampNeg y.toNatClampNeg k = cs k := by unfold csM; rw [if_neg (by omega), if_neg (by omega)]
      rw [ec]
      have h3 := hP.2 k _ (wS_get h)
      exact h3.kept (hold _ h3.lt)
    · subst h
      have ec : csM G cs k x.toNatClampNeg y.toNatClampNeg k = refI G 23 k x.toNatClampNeg := by unfold csM; rw [if_pos rfl]
      rw [ec]
      show F1.heap[gA G k]? = some (arrV (gY G 23) (ln k) (fun j => va_rf (if j < x.toNatClampNeg then some (gA G (sp k j)) else none)))
      have e0 := ea 0
      rw [Nat.add_zero, Nat.add_zero] at e0
      rw [e0, f2, ym_outer, hL]
      congr 2
      funext j
      rw [hsp j, show k + 1 + j = k + (1 + j) by omega, ea, show H.size + 1 + j = H.size + (1 + j) by omega]
    · have ec : csM G cs N x.toNatClampNeg y.toNatClampNeg k = .inl (gY G 14, y.toNatClampNeg, .inl (fun _ => 0)) := by unfold csM; rw [if_neg (by omega), if_pos ⟨h, hk⟩]
      rw [ec]
      show F1.heap[gA G k]? = some (arrV (gY G 14) y.toNatClampNeg (fun _ => .int 0))
      rw [show k = N + (1 + (k - N - 1)) by omega, ea, ← Nat.add_assoc, hrow _ (by omega)]
      rw [← arrV_new]
      rfl
  have hs1 : F1.heap.size = H.size + 1 + x.toNatClampNeg := by rw [f1]
  have K := kk p l e s m args below meth c F1.heap locs ls X ⟨hi0.1, by have := hi0.2; omega⟩ ⟨by rw [hs1, hP.1]; omega, q1⟩ ⟨Nat.le_trans hS.1 (by omega), fun a h1 h2 => (hold a (Nat.lt_of_lt_of_le h1 hS.1)).trans (hS.2.1 a h1 h2), hS.2.2⟩ hl F1 rfl X'
  obtain ⟨t2, a1, b1⟩ := K
  have e0 := ea 0
  rw [Nat.add_zero, Nat.add_zero] at e0
  rw [e0] at a1
  refine ⟨t2, step t2 ?_, b1⟩
  rw [hT]
  exact a1
end YMNA
