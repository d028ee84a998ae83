/-! ===== typed rows: booleans, guards, calls by what they answer ===== -/
def b2 (b : Bool) : Int32 := if b = true then 1 else 0
theorem b2_01 (b : Bool) : b2 b = 0 ∨ b2 b = 1 := by cases b <;> first | exact Or.inl rfl | exact Or.inr rfl
theorem b2_0 {b : Bool} : b2 b = 0 ↔ ¬ b = true := by cases b <;> decide
theorem b2_n0 {b : Bool} : ¬ b2 b = 0 ↔ b = true := by cases b <;> decide
def kB (K : Bool → Mem → Prop) : Option Value → Mem → Prop := fun v σ => ∃ b : Bool, v = some (.int (b2 b)) ∧ K b σ
def inb (i : Int32) (N : Nat) : Bool := !(decide (i < 0)) && decide (i.toNatClampNeg < N)
theorem inb_vp {i : Int32} {N : Nat} (h : inb i N = true) : vp_in i N := by
  unfold inb at h
  simp only [Bool.and_eq_true, Bool.not_eq_true', decide_eq_false_iff_not, decide_eq_true_eq] at h
  exact fun z => z.elim (fun q => h.1 q) (fun q => absurd h.2 (by omega))
theorem inb_nI {j N : Nat} (h : j < N) (hN : N < 2 ^ 31) : inb (nI j) N = true := by
  unfold inb
  rw [nI_clamp (by omega)]
  simp [nI_pos (show j < 2 ^ 31 by omega), h]
def gd {α : Type} (b : Bool) (x : Option α) : Option α := if b = true then x else none
theorem gd_t {α : Type} {b : Bool} {x : Option α} (h : b = true) : gd b x = x := if_pos h
theorem gd_s {α : Type} {b : Bool} {x : Option α} {y : α} (h : gd b x = some y) : b = true ∧ x = some y := by
  unfold gd at h
  split at h
  · rename_i hb; exact ⟨hb, h⟩
  · cases h
theorem inb_lt {i : Int32} {N : Nat} (h : inb i N = true) : i.toNatClampNeg < N := by
  unfold inb at h
  simp only [Bool.and_eq_true, decide_eq_true_eq] at h
  exact h.2
def bytB (σ : Mem) (a s n : Nat) : Bool := (List.range n).all (fun i => fits .byte (.int (σ a (s + i))))
theorem byt_fit {σ : Mem} {a s n : Nat} (h : bytB σ a s n = true) : ∀ i, i < n → fits .byte (.int (σ a (s + i))) = true := fun i hi => List.all_eq_true.mp h i (List.mem_range.mpr hi)
theorem z2b {x : Int32} (h : x = 0 ∨ x = 1) : b2 (decide (x = 1)) = x := by rcases h with rfl | rfl <;> decide
def isB (n κ : Nat) : Bool := decide (n < NC) && decide (kd n = κ)
theorem isB_Is {n κ : Nat} (h : isB n κ = true) : Is n κ := by
  unfold isB at h
  simp only [Bool.and_eq_true, decide_eq_true_eq] at h
  exact h
theorem Is_isB {n κ : Nat} (h : Is n κ) : isB n κ = true := by
  unfold isB
  simp only [Bool.and_eq_true, decide_eq_true_eq]
  exact h
def ushr (x y : Int32) : Int32 := (x.toUInt32 >>> (y.toUInt32 &&& Int32.toUInt32 31)).toInt32
theorem lg0 {x y : Int64} : lg_cmp x y = 0 ↔ x = y := by
  unfold lg_cmp
  constructor
  · intro h
    split at h
    · exact absurd h (by decide)
    · split at h
      · assumption
      · exact absurd h (by decide)
  · intro h; subst h; simp
theorem tbl_ne {x v : Int32} {z : Int} (h : ¬ x = v) (hz : v.toInt = z) : x.toInt ≠ z := fun e => h (Int32.toInt_inj.mp (e.trans hz.symm))
theorem Is.lt31 {n κ : Nat} (h : Is n κ) : n < 2 ^ 31 := Nat.lt_trans h.1 (by decide)
section RUNT
variable {G : GT} {own : String} {cc : ByteArray} {nL : Nat} {rt : Option FieldType} {F : FT} {pc d : Nat} {lv lv' : List (Nat × Value)} {st : List Value} {σ : Mem} {K : Option Value → Mem → Prop}
theorem RF.lt {a b : Nat} (h : a < b) : RF (mF G b K) a := ⟨h, by show 30 * a + 30 ≤ 30 * b; omega, Nat.le_refl _, Nat.le_refl _⟩
theorem run_iald' {n N j : Nat} {i : Int32} (hn : Is n 14) (hL : ln n = N) (hi : inb i N = true) (hj : i.toNatClampNeg = j) (hd : decode cc pc = .ok (.iaload, 1)) (kk : Run G own cc nL rt F (pc + 1) lv (.int (σ n j) :: st) σ) : Run G own cc nL rt F pc lv (.int i :: .ref (gA G n) :: st) σ := by subst hj; exact run_iald hn hL (inb_vp hi) hd kk
theorem run_bald' {n N j : Nat} {i : Int32} (hn : Is n 13) (hL : ln n = N) (hi : inb i N = true) (hj : i.toNatClampNeg = j) (hd : decode cc pc = .ok (.baload, 1)) (kk : Run G own cc nL rt F (pc + 1) lv (.int (σ n j) :: st) σ) : Run G own cc nL rt F pc lv (.int i :: .ref (gA G n) :: st) σ := by subst hj; exact run_bald hn hL (inb_vp hi) hd kk
theorem run_zald' {n N j : Nat} {i : Int32} (hn : Is n 15) (hL : ln n = N) (hi : inb i N = true) (hj : i.toNatClampNeg = j) (hd : decode cc pc = .ok (.baload, 1)) (kk : Run G own cc nL rt F (pc + 1) lv (.int (σ n j) :: st) σ) : Run G own cc nL rt F pc lv (.int i :: .ref (gA G n) :: st) σ := by subst hj; exact run_zald hn hL (inb_vp hi) hd kk
theorem run_iast' {n N j : Nat} {i x : Int32} (hn : Is n 14) (hL : ln n = N) (hi : inb i N = true) (hj : i.toNatClampNeg = j) (hd : decode cc pc = .ok (.iastore, 1)) (kk : Run G own cc nL rt F (pc + 1) lv st (st2 σ n j x)) : Run G own cc nL rt F pc lv (.int x :: .int i :: .ref (gA G n) :: st) σ := by subst hj; exact run_iast hn hL (inb_vp hi) hd kk
theorem run_bast' {n N j : Nat} {i x : Int32} (hn : Is n 13) (hL : ln n = N) (hi : inb i N = true) (hj : i.toNatClampNeg = j) (hd : decode cc pc = .ok (.bastore, 1)) (kk : Run G own cc nL rt F (pc + 1) lv st (st2 σ n j x.toInt8.toInt32)) : Run G own cc nL rt F pc lv (.int x :: .int i :: .ref (gA G n) :: st) σ := by subst hj; exact run_bast hn hL (inb_vp hi) hd kk
theorem run_zast' {n N j : Nat} {i x : Int32} (hn : Is n 15) (hL : ln n = N) (hi : inb i N = true) (hj : i.toNatClampNeg = j) (hx : x = 0 ∨ x = 1) (hd : decode cc pc = .ok (.bastore, 1)) (kk : Run G own cc nL rt F (pc + 1) lv st (st2 σ n j x)) : Run G own cc nL rt F pc lv (.int x :: .int i :: .ref (gA G n) :: st) σ := by subst hj; exact run_zast hn hL (inb_vp hi) hx hd kk
theorem run_aald' {n N κ t0 n' j : Nat} {C : String} {i : Int32} (hn : Is n κ) (h1 : 16 ≤ κ) (h2 : κ ≤ 23) (ht : (tysOf G)[t0]? = some (gY G κ, .object C)) (hL : ln n = N) (hi : inb i N = true) (hj : i.toNatClampNeg = j) (he : sp n j = n') (hd : decode cc pc = .ok (.aaload, 1)) (kk : Run G own cc nL rt F (pc + 1) lv (.ref (gA G n') :: st) σ) : Run G own cc nL rt F pc lv (.int i :: .ref (gA G n) :: st) σ := by subst hj; exact run_aald hn h1 h2 ht hL (inb_vp hi) he hd kk
theorem run_aaldI' {n N n' j : Nat} {i : Int32} (hn : Is n 23) (hL : ln n = N) (hi : inb i N = true) (hj : i.toNatClampNeg = j) (he : sp n j = n') (hd : decode cc pc = .ok (.aaload, 1)) (kk : Run G own cc nL rt F (pc + 1) lv (.ref (gA G n') :: st) σ) : Run G own cc nL rt F pc lv (.int i :: .ref (gA G n) :: st) σ := by subst hj; exact run_aaldI hn hL (inb_vp hi) he hd kk
theorem run_kald' {n N j : Nat} {i : Int32} (hn : Is n 24) (hL : ln n = N) (hi : inb i N = true) (hj : i.toNatClampNeg = j) (h0 : ¬ σ n j < 0) (hd : decode cc pc = .ok (.aaload, 1)) (kk : Run G own cc nL rt F (pc + 1) lv (.ref (gA G (rfN (σ n j))) :: st) σ) : Run G own cc nL rt F pc lv (.int i :: .ref (gA G n) :: st) σ := by subst hj; exact run_kald hn hL (inb_vp hi) h0 hd kk
theorem run_kast' {n N b j : Nat} {i : Int32} (hn : Is n 24) (hb : Is b 2) (hL : ln n = N) (hi : inb i N = true) (hj : i.toNatClampNeg = j) (hd : decode cc pc = .ok (.aastore, 1)) (kk : Run G own cc nL rt F (pc + 1) lv st (st2 σ n j (nI b))) : Run G own cc nL rt F pc lv (.ref (gA G b) :: .int i :: .ref (gA G n) :: st) σ := by subst hj; exact run_kast hn hb hL (inb_vp hi) hd kk
theorem run_alen {n N : Nat} (hn : Is n 14) (hL : ln n = N) (hd : decode cc pc = .ok (.arraylength, 1)) (kk : Run G own cc nL rt F (pc + 1) lv (.int (nI N) :: st) σ) : Run G own cc nL rt F pc lv (.ref (gA G n) :: st) σ := by
  intro p l e s m args below meth c H locs ls X hP hS hl
  subst hL
  exact va_alen X.1 X.2.1 X.2.2.2.2.2.2.2.1.2.1 hP n 1 (x := (ln n, .inl (σ n))) (v := nI (ln n)) (by rw [wd_get hn.1, cell_arr hn (by decide) (by decide)]) rfl rfl hd (kk p l e s m args below meth c H locs ls X hP hS hl)
theorem run_ushr {x y : Int32} (hd : decode cc pc = .ok (.iushr, 1)) (k : Run G own cc nL rt F (pc + 1) lv (.int (ushr x y) :: st) σ) : Run G own cc nL rt F pc lv (.int y :: .int x :: st) σ := run_iushr hd k
theorem run_ifb_eq {b : Bool} {off : Int} (tgt : Nat) (hd : decode cc pc = .ok (.ifCond .eq off, 3)) (ht : (pc : Int) + off = (tgt : Int)) (kt : ¬ b = true → Run G own cc nL rt F tgt lv st σ) (kf : b = true → Run G own cc nL rt F (pc + 3) lv st σ) : Run G own cc nL rt F pc lv (.int (b2 b) :: st) σ := run_if_eq tgt hd ht (fun h => kt (b2_0.mp h)) (fun h => kf (b2_n0.mp h))
theorem run_ifb_ne {b : Bool} {off : Int} (tgt : Nat) (hd : decode cc pc = .ok (.ifCond .ne off, 3)) (ht : (pc : Int) + off = (tgt : Int)) (kt : b = true → Run G own cc nL rt F tgt lv st σ) (kf : ¬ b = true → Run G own cc nL rt F (pc + 3) lv st σ) : Run G own cc nL rt F pc lv (.int (b2 b) :: st) σ := run_if_ne tgt hd ht (fun h => kt (b2_n0.mp h)) (fun h => kf (b2_0.mp h))
theorem run_lc_eq {x y : Int64} {off : Int} (tgt : Nat) (hd : decode cc pc = .ok (.ifCond .eq off, 3)) (ht : (pc : Int) + off = (tgt : Int)) (kt : x = y → Run G own cc nL rt F tgt lv st σ) (kf : ¬ x = y → Run G own cc nL rt F (pc + 3) lv st σ) : Run G own cc nL rt F pc lv (.int (lg_cmp x y) :: st) σ := run_if_eq tgt hd ht (fun h => kt (lg0.mp h)) (fun h => kf (fun e => h (lg0.mpr e)))
theorem run_lc_ne {x y : Int64} {off : Int} (tgt : Nat) (hd : decode cc pc = .ok (.ifCond .ne off, 3)) (ht : (pc : Int) + off = (tgt : Int)) (kt : ¬ x = y → Run G own cc nL rt F tgt lv st σ) (kf : x = y → Run G own cc nL rt F (pc + 3) lv st σ) : Run G own cc nL rt F pc lv (.int (lg_cmp x y) :: st) σ := run_if_ne tgt hd ht (fun h => kt (fun e => h (lg0.mpr e))) (fun h => kf (lg0.mp h))
theorem run_bret {b : Bool} (hd : decode cc pc = .ok (.ireturn, 1)) (k : K (some (.int (b2 b))) σ) : Run G own cc nL (some .boolean) (mF G d K) pc lv [.int (b2 b)] σ := run_zret (b2_01 b) hd k
theorem run_callVi {y : MethodName} {b : ByteArray} {mL idx nA : Nat} {ret : Option FieldType} {As : List Value} {n ci : Nat} {r : vw_C} (K' : Int32 → Mem → Prop) (hw : MW y b mL ret nA) (hi : MI y) (hm : Cond.methodLink own idx y ∈ gw) (hn : Is n ci) (hc : ci ≤ 12) (hr : vwCl[ci]? = some r) (hy : r.1 = y.cls) (hA : As.length = nA) (hR : RF F d) (hst : (st.map fun v => v.category).sum ≤ 8) (hd : decode cc pc = .ok (.invokevirtual idx, 3)) (hsp : Spec G y b mL ret d (.ref (gA G n) :: As) σ (kI K')) (kk : ∀ r s, K' r s → Run G own cc nL rt F (pc + 3) lv (.int r :: st) s) {st0 : List Value} (hs0 : st0 = As.reverse ++ .ref (gA G n) :: st) : Run G own cc nL rt F pc lv st0 σ :=
  run_callV (kI K') hw hi hm hn hc hr hy hA hR hst hd hsp (fun v s h => by obtain ⟨r, rfl, h⟩ := h; exact kk r s h) hs0
theorem run_callVb {y : MethodName} {b : ByteArray} {mL idx nA : Nat} {ret : Option FieldType} {As : List Value} {n ci : Nat} {r : vw_C} (K' : Bool → Mem → Prop) (hw : MW y b mL ret nA) (hi : MI y) (hm : Cond.methodLink own idx y ∈ gw) (hn : Is n ci) (hc : ci ≤ 12) (hr : vwCl[ci]? = some r) (hy : r.1 = y.cls) (hA : As.length = nA) (hR : RF F d) (hst : (st.map fun v => v.category).sum ≤ 8) (hd : decode cc pc = .ok (.invokevirtual idx, 3)) (hsp : Spec G y b mL ret d (.ref (gA G n) :: As) σ (kB K')) (kk : ∀ r s, K' r s → Run G own cc nL rt F (pc + 3) lv (.int (b2 r) :: st) s) {st0 : List Value} (hs0 : st0 = As.reverse ++ .ref (gA G n) :: st) : Run G own cc nL rt F pc lv st0 σ :=
  run_callV (kB K') hw hi hm hn hc hr hy hA hR hst hd hsp (fun v s h => by obtain ⟨r, rfl, h⟩ := h; exact kk r s h) hs0
theorem run_callVv {y : MethodName} {b : ByteArray} {mL idx nA : Nat} {ret : Option FieldType} {As : List Value} {n ci : Nat} {r : vw_C} (K' : Mem → Prop) (hw : MW y b mL ret nA) (hi : MI y) (hm : Cond.methodLink own idx y ∈ gw) (hn : Is n ci) (hc : ci ≤ 12) (hr : vwCl[ci]? = some r) (hy : r.1 = y.cls) (hA : As.length = nA) (hR : RF F d) (hst : (st.map fun v => v.category).sum ≤ 8) (hd : decode cc pc = .ok (.invokevirtual idx, 3)) (hsp : Spec G y b mL ret d (.ref (gA G n) :: As) σ (kV K')) (kk : ∀ s, K' s → Run G own cc nL rt F (pc + 3) lv st s) {st0 : List Value} (hs0 : st0 = As.reverse ++ .ref (gA G n) :: st) : Run G own cc nL rt F pc lv st0 σ :=
  run_callV (kV K') hw hi hm hn hc hr hy hA hR hst hd hsp (fun v s h => by obtain ⟨rfl, h⟩ := h; exact kk s h) hs0
theorem run_callSi {y : MethodName} {b : ByteArray} {mL idx nA : Nat} {ret : Option FieldType} {As : List Value} (K' : Int32 → Mem → Prop) (hw : MW y b mL ret nA) (hi : Cond.static y ∈ gw) (hm : Cond.methodLink own idx y ∈ gw) (hA : As.length = nA) (hR : RF F d) (hst : (st.map fun v => v.category).sum ≤ 8) (hd : decode cc pc = .ok (.invokestatic idx, 3)) (hsp : Spec G y b mL ret d As σ (kI K')) (kk : ∀ r s, K' r s → Run G own cc nL rt F (pc + 3) lv (.int r :: st) s) {st0 : List Value} (hs0 : st0 = As.reverse ++ st) : Run G own cc nL rt F pc lv st0 σ :=
  run_callS (kI K') hw hi hm hA hR hst hd hsp (fun v s h => by obtain ⟨r, rfl, h⟩ := h; exact kk r s h) hs0
theorem run_callSb {y : MethodName} {b : ByteArray} {mL idx nA : Nat} {ret : Option FieldType} {As : List Value} (K' : Bool → Mem → Prop) (hw : MW y b mL ret nA) (hi : Cond.static y ∈ gw) (hm : Cond.methodLink own idx y ∈ gw) (hA : As.length = nA) (hR : RF F d) (hst : (st.map fun v => v.category).sum ≤ 8) (hd : decode cc pc = .ok (.invokestatic idx, 3)) (hsp : Spec G y b mL ret d As σ (kB K')) (kk : ∀ r s, K' r s → Run G own cc nL rt F (pc + 3) lv (.int (b2 r) :: st) s) {st0 : List Value} (hs0 : st0 = As.reverse ++ st) : Run G own cc nL rt F pc lv st0 σ :=
  run_callS (kB K') hw hi hm hA hR hst hd hsp (fun v s h => by obtain ⟨r, rfl, h⟩ := h; exact kk r s h) hs0
theorem run_callSv {y : MethodName} {b : ByteArray} {mL idx nA : Nat} {ret : Option FieldType} {As : List Value} (K' : Mem → Prop) (hw : MW y b mL ret nA) (hi : Cond.static y ∈ gw) (hm : Cond.methodLink own idx y ∈ gw) (hA : As.length = nA) (hR : RF F d) (hst : (st.map fun v => v.category).sum ≤ 8) (hd : decode cc pc = .ok (.invokestatic idx, 3)) (hsp : Spec G y b mL ret d As σ (kV K')) (kk : ∀ s, K' s → Run G own cc nL rt F (pc + 3) lv st s) {st0 : List Value} (hs0 : st0 = As.reverse ++ st) : Run G own cc nL rt F pc lv st0 σ :=
  run_callS (kV K') hw hi hm hA hR hst hd hsp (fun v s h => by obtain ⟨rfl, h⟩ := h; exact kk s h) hs0
theorem run_callNi {y : MethodName} {b : ByteArray} {mL idx nA : Nat} {ret : Option FieldType} {As : List Value} {host : String} (K' : Int32 → Mem → Prop) (hw : MW y b mL ret nA) (hi : Cond.static y ∈ gw) (hm : Cond.methodLinkNest own idx y host ∈ nw) (hA : As.length = nA) (hR : RF F d) (hst : (st.map fun v => v.category).sum ≤ 8) (hd : decode cc pc = .ok (.invokestatic idx, 3)) (hsp : Spec G y b mL ret d As σ (kI K')) (kk : ∀ r s, K' r s → Run G own cc nL rt F (pc + 3) lv (.int r :: st) s) {st0 : List Value} (hs0 : st0 = As.reverse ++ st) : Run G own cc nL rt F pc lv st0 σ :=
  run_callN (kI K') hw hi hm hA hR hst hd hsp (fun v s h => by obtain ⟨r, rfl, h⟩ := h; exact kk r s h) hs0
theorem run_callNb {y : MethodName} {b : ByteArray} {mL idx nA : Nat} {ret : Option FieldType} {As : List Value} {host : String} (K' : Bool → Mem → Prop) (hw : MW y b mL ret nA) (hi : Cond.static y ∈ gw) (hm : Cond.methodLinkNest own idx y host ∈ nw) (hA : As.length = nA) (hR : RF F d) (hst : (st.map fun v => v.category).sum ≤ 8) (hd : decode cc pc = .ok (.invokestatic idx, 3)) (hsp : Spec G y b mL ret d As σ (kB K')) (kk : ∀ r s, K' r s → Run G own cc nL rt F (pc + 3) lv (.int (b2 r) :: st) s) {st0 : List Value} (hs0 : st0 = As.reverse ++ st) : Run G own cc nL rt F pc lv st0 σ :=
  run_callN (kB K') hw hi hm hA hR hst hd hsp (fun v s h => by obtain ⟨r, rfl, h⟩ := h; exact kk r s h) hs0
theorem run_callNv {y : MethodName} {b : ByteArray} {mL idx nA : Nat} {ret : Option FieldType} {As : List Value} {host : String} (K' : Mem → Prop) (hw : MW y b mL ret nA) (hi : Cond.static y ∈ gw) (hm : Cond.methodLinkNest own idx y host ∈ nw) (hA : As.length = nA) (hR : RF F d) (hst : (st.map fun v => v.category).sum ≤ 8) (hd : decode cc pc = .ok (.invokestatic idx, 3)) (hsp : Spec G y b mL ret d As σ (kV K')) (kk : ∀ s, K' s → Run G own cc nL rt F (pc + 3) lv st s) {st0 : List Value} (hs0 : st0 = As.reverse ++ st) : Run G own cc nL rt F pc lv st0 σ :=
  run_callN (kV K') hw hi hm hA hR hst hd hsp (fun v s h => by obtain ⟨rfl, h⟩ := h; exact kk s h) hs0
end RUNT
