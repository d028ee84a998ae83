/-! methods, translated -/
def HX12_facts : Nat := 1
theorem HX12_facts_0 (d : Nat) : 0 < d + HX12_facts := Nat.lt_of_lt_of_le (by decide) (Nat.le_add_left _ d)
def fX12_facts  (σ : Mem) : Option (Int32 × Mem) := gd (inb ((17 : Int32) * (σ 269 76)) 136) (some ((σ 278 (Int32.toNatClampNeg ((17 : Int32) * (σ 269 76)))), σ))
set_option maxRecDepth 20000 in
theorem sX12_facts (G : GT) (d : Nat)   {σ : Mem} {o : (Int32 × Mem)} (h : fX12_facts σ = some o) : Spec G yX12_facts cX12_facts 1 (some .int) (d + HX12_facts) [.ref (gA G 269)] σ (kI fun x z => (x, z) = o) := by
  refine spec_run (by decide) (Nat.le_of_ble_eq_true rfl) ?_
  unfold fX12_facts at h
  show Run G RX12 cX12_facts 1 (some .int) _ 0 [(0, .ref (gA G 269))] [] σ
  refine run_aload_n 0 dX12_facts_0 rfl rfl ?_
  refine run_getr fl_X12_35 is_269 (by decide) rfl ce_269_9 dX12_facts_1 ?_
  refine run_bipush (v := 17) dX12_facts_4 rfl ?_
  refine run_aload_n 0 dX12_facts_6 rfl rfl ?_
  refine run_geti fl_X12_542 is_269 (by decide) rfl dX12_facts_7 ?_
  refine run_imul dX12_facts_10 ?_
  obtain ⟨g1, h⟩ := gd_s h
  refine run_iald' is_278 ln_278 g1 rfl dX12_facts_11 ?_
  exact run_iret dX12_facts_12 ⟨_, rfl, Option.some.inj h⟩
def HX12_factOf : Nat := 1
theorem HX12_factOf_0 (d : Nat) : 0 < d + HX12_factOf := Nat.lt_of_lt_of_le (by decide) (Nat.le_add_left _ d)
def fX12_factOf (x1 : Int32) (x2 : Int32) (σ : Mem) : Option (Int32 × Mem) := gd (inb (((((17 : Int32) * (σ 269 76)) + 1) + ((2 : Int32) * x1)) + x2) 136) (some ((σ 278 (Int32.toNatClampNeg (((((17 : Int32) * (σ 269 76)) + 1) + ((2 : Int32) * x1)) + x2))), σ))
set_option maxRecDepth 20000 in
theorem sX12_factOf (G : GT) (d : Nat) {x1 : Int32} {x2 : Int32}  {σ : Mem} {o : (Int32 × Mem)} (h : fX12_factOf x1 x2 σ = some o) : Spec G yX12_factOf cX12_factOf 3 (some .int) (d + HX12_factOf) [.ref (gA G 269), .int x1, .int x2] σ (kI fun x z => (x, z) = o) := by
  refine spec_run (by decide) (Nat.le_of_ble_eq_true rfl) ?_
  unfold fX12_factOf at h
  show Run G RX12 cX12_factOf 3 (some .int) _ 0 [(0, .ref (gA G 269)), (1, .int x1), (2, .int x2)] [] σ
  refine run_aload_n 0 dX12_factOf_0 rfl rfl ?_
  refine run_getr fl_X12_35 is_269 (by decide) rfl ce_269_9 dX12_factOf_1 ?_
  refine run_bipush (v := 17) dX12_factOf_4 rfl ?_
  refine run_aload_n 0 dX12_factOf_6 rfl rfl ?_
  refine run_geti fl_X12_542 is_269 (by decide) rfl dX12_factOf_7 ?_
  refine run_imul dX12_factOf_10 ?_
  refine run_iconst (v := 1) dX12_factOf_11 rfl ?_
  refine run_iadd dX12_factOf_12 ?_
  refine run_iconst (v := 2) dX12_factOf_13 rfl ?_
  refine run_iload_n 1 dX12_factOf_14 rfl rfl ?_
  refine run_imul dX12_factOf_15 ?_
  refine run_iadd dX12_factOf_16 ?_
  refine run_iload_n 2 dX12_factOf_17 rfl rfl ?_
  refine run_iadd dX12_factOf_18 ?_
  obtain ⟨g1, h⟩ := gd_s h
  refine run_iald' is_278 ln_278 g1 rfl dX12_factOf_19 ?_
  exact run_iret dX12_factOf_20 ⟨_, rfl, Option.some.inj h⟩
def HX12_hasDiary : Nat := 3
theorem HX12_hasDiary_X12_is_lt (d : Nat) : d + HX12_is < d + HX12_hasDiary := Nat.add_lt_add_left (by decide) d
theorem HX12_hasDiary_0 (d : Nat) : 0 < d + HX12_hasDiary := Nat.lt_of_lt_of_le (by decide) (Nat.le_add_left _ d)
def fX12_hasDiary (x1 : Int32) (σ : Mem) : Option (Bool × Mem) := (fX12_is 3 x1 (st2 σ 269 76 x1)).bind fun q1 => some (q1.1, q1.2)
set_option maxRecDepth 20000 in
theorem sX12_hasDiary (G : GT) (d : Nat) {x1 : Int32}  {σ : Mem} {o : (Bool × Mem)} (h : fX12_hasDiary x1 σ = some o) : Spec G yX12_hasDiary cX12_hasDiary 2 (some .boolean) (d + HX12_hasDiary) [.ref (gA G 269), .int x1] σ (kB fun x z => (x, z) = o) := by
  refine spec_run (by decide) (Nat.le_of_ble_eq_true rfl) ?_
  unfold fX12_hasDiary at h
  show Run G RX12 cX12_hasDiary 2 (some .boolean) _ 0 [(0, .ref (gA G 269)), (1, .int x1)] [] σ
  refine run_aload_n 0 dX12_hasDiary_0 rfl rfl ?_
  refine run_iload_n 1 dX12_hasDiary_1 rfl rfl ?_
  refine run_puti fp_X12_542 is_269 (by decide) rfl dX12_hasDiary_2 ?_
  refine run_aload_n 0 dX12_hasDiary_5 rfl rfl ?_
  refine run_iconst (v := 3) dX12_hasDiary_6 rfl ?_
  refine run_iload_n 1 dX12_hasDiary_7 rfl rfl ?_
  obtain ⟨q1, h2, h⟩ := Option.bind_eq_some_iff.mp h
  refine run_callVb (As := [.int 3, .int x1]) (fun r z => (r, z) = q1) mw_X12_is mi_X12_is ml_X12_305 is_269 (by decide) rfl rfl rfl (RF.lt (HX12_hasDiary_X12_is_lt d)) (Nat.le_of_ble_eq_true rfl) dX12_hasDiary_8 (sX12_is G d  h2) (fun r z h8 => ?_) rfl
  rw [show r = q1.1 from congrArg Prod.fst h8, show z = q1.2 from congrArg Prod.snd h8]
  clear h8
  exact run_bret (b := q1.1) dX12_hasDiary_11 ⟨_, rfl, Option.some.inj h⟩
def HX12_fact : Nat := 4
theorem HX12_fact_X12_factOf_lt (d : Nat) : d + HX12_factOf < d + HX12_fact := Nat.add_lt_add_left (by decide) d
theorem HX12_fact_X12_facts_lt (d : Nat) : d + HX12_facts < d + HX12_fact := Nat.add_lt_add_left (by decide) d
theorem HX12_fact_X12_hasDiary_lt (d : Nat) : d + HX12_hasDiary < d + HX12_fact := Nat.add_lt_add_left (by decide) d
theorem HX12_fact_X12_in_lt (d : Nat) : d + HX12_in < d + HX12_fact := Nat.add_lt_add_left (by decide) d
theorem HX12_fact_0 (d : Nat) : 0 < d + HX12_fact := Nat.lt_of_lt_of_le (by decide) (Nat.le_add_left _ d)
def fX12_fact (x1 : Int32) (x2 : Int32) (x3 : Int32) (σ : Mem) : Option (Int32 × Mem) := (fX12_hasDiary x1 (st2 σ 269 0 0)).bind fun q1 => if q1.1 = true then (if x2 = (-1) then (if x3 = 0 then ((fX12_facts q1.2).bind fun q15 => some (q15.1, q15.2)) else (some ((-2), q1.2))) else ((fX12_facts q1.2).bind fun q4 => (fX12_in x2 0 (q4.1 - 1) q4.2).bind fun q5 => if q5.1 = true then ((fX12_in x3 0 1 q5.2).bind fun q7 => if q7.1 = true then ((fX12_factOf x2 x3 q7.2).bind fun q9 => some (q9.1, q9.2)) else (some ((-2), q7.2))) else (some ((-2), q5.2)))) else (some ((-2), q1.2))
set_option maxRecDepth 20000 in
theorem sX12_fact (G : GT) (d : Nat) {x1 : Int32} {x2 : Int32} {x3 : Int32}  {σ : Mem} {o : (Int32 × Mem)} (h : fX12_fact x1 x2 x3 σ = some o) : Spec G yX12_fact cX12_fact 4 (some .int) (d + HX12_fact) [.ref (gA G 269), .int x1, .int x2, .int x3] σ (kI fun x z => (x, z) = o) := by
  refine spec_run (by decide) (Nat.le_of_ble_eq_true rfl) ?_
  unfold fX12_fact at h
  show Run G RX12 cX12_fact 4 (some .int) _ 0 [(0, .ref (gA G 269)), (1, .int x1), (2, .int x2), (3, .int x3)] [] σ
  refine run_aload_n 0 dX12_fact_0 rfl rfl ?_
  refine run_iconst (v := 0) dX12_fact_1 rfl ?_
  refine run_puti fp_X12_144 is_269 (by decide) rfl dX12_fact_2 ?_
  refine run_aload_n 0 dX12_fact_5 rfl rfl ?_
  refine run_iload_n 1 dX12_fact_6 rfl rfl ?_
  obtain ⟨q1, h17, h⟩ := Option.bind_eq_some_iff.mp h
  refine run_callVb (As := [.int x1]) (fun r z => (r, z) = q1) mw_X12_hasDiary mi_X12_hasDiary ml_X12_545 is_269 (by decide) rfl rfl rfl (RF.lt (HX12_fact_X12_hasDiary_lt d)) (Nat.le_of_ble_eq_true rfl) dX12_fact_7 (sX12_hasDiary G d  h17) (fun r z h8 => ?_) rfl
  rw [show r = q1.1 from congrArg Prod.fst h8, show z = q1.2 from congrArg Prod.snd h8]
  clear h8
  refine run_ifb_ne 16 dX12_fact_10 (by decide) (fun c2 => ?_) (fun c2 => ?_)
  · rw [if_pos c2] at h
    refine run_iload_n 2 dX12_fact_16 rfl rfl ?_
    refine run_iconst (v := -1) dX12_fact_17 rfl ?_
    refine run_icmp_ne 35 dX12_fact_18 (by decide) (fun c3 => ?_) (fun c3 => ?_)
    · rw [if_neg c3] at h
      refine run_iload_n 2 dX12_fact_35 rfl rfl ?_
      refine run_iconst (v := 0) dX12_fact_36 rfl ?_
      refine run_aload_n 0 dX12_fact_37 rfl rfl ?_
      obtain ⟨q4, h13, h⟩ := Option.bind_eq_some_iff.mp h
      refine run_callVi (As := []) (fun r z => (r, z) = q4) mw_X12_facts mi_X12_facts ml_X12_548 is_269 (by decide) rfl rfl rfl (RF.lt (HX12_fact_X12_facts_lt d)) (Nat.le_of_ble_eq_true rfl) dX12_fact_38 (sX12_facts G d  h13) (fun r z h8 => ?_) rfl
      rw [show r = q4.1 from congrArg Prod.fst h8, show z = q4.2 from congrArg Prod.snd h8]
      clear h8
      refine run_iconst (v := 1) dX12_fact_41 rfl ?_
      refine run_isub dX12_fact_42 ?_
      obtain ⟨q5, h12, h⟩ := Option.bind_eq_some_iff.mp h
      refine run_callSb (As := [.int x2, .int 0, .int (q4.1 - 1)]) (fun r z => (r, z) = q5) mw_X12_in ms_X12_in ml_X12_156 rfl (RF.lt (HX12_fact_X12_in_lt d)) (Nat.le_of_ble_eq_true rfl) dX12_fact_43 (sX12_in G d  h12) (fun r z h8 => ?_) rfl
      rw [show r = q5.1 from congrArg Prod.fst h8, show z = q5.2 from congrArg Prod.snd h8]
      clear h8
      refine run_ifb_eq 67 dX12_fact_46 (by decide) (fun c6 => ?_) (fun c6 => ?_)
      · rw [if_neg c6] at h
        refine run_bipush (v := -2) dX12_fact_67 rfl ?_
        exact run_iret dX12_fact_69 ⟨_, rfl, Option.some.inj h⟩
      · rw [if_pos c6] at h
        refine run_iload_n 3 dX12_fact_49 rfl rfl ?_
        refine run_iconst (v := 0) dX12_fact_50 rfl ?_
        refine run_iconst (v := 1) dX12_fact_51 rfl ?_
        obtain ⟨q7, h11, h⟩ := Option.bind_eq_some_iff.mp h
        refine run_callSb (As := [.int x3, .int 0, .int 1]) (fun r z => (r, z) = q7) mw_X12_in ms_X12_in ml_X12_156 rfl (RF.lt (HX12_fact_X12_in_lt d)) (Nat.le_of_ble_eq_true rfl) dX12_fact_52 (sX12_in G d  h11) (fun r z h8 => ?_) rfl
        rw [show r = q7.1 from congrArg Prod.fst h8, show z = q7.2 from congrArg Prod.snd h8]
        clear h8
        refine run_ifb_eq 67 dX12_fact_55 (by decide) (fun c8 => ?_) (fun c8 => ?_)
        · rw [if_neg c8] at h
          refine run_bipush (v := -2) dX12_fact_67 rfl ?_
          exact run_iret dX12_fact_69 ⟨_, rfl, Option.some.inj h⟩
        · rw [if_pos c8] at h
          refine run_aload_n 0 dX12_fact_58 rfl rfl ?_
          refine run_iload_n 2 dX12_fact_59 rfl rfl ?_
          refine run_iload_n 3 dX12_fact_60 rfl rfl ?_
          obtain ⟨q9, h10, h⟩ := Option.bind_eq_some_iff.mp h
          refine run_callVi (As := [.int x2, .int x3]) (fun r z => (r, z) = q9) mw_X12_factOf mi_X12_factOf ml_X12_551 is_269 (by decide) rfl rfl rfl (RF.lt (HX12_fact_X12_factOf_lt d)) (Nat.le_of_ble_eq_true rfl) dX12_fact_61 (sX12_factOf G d  h10) (fun r z h8 => ?_) rfl
          rw [show r = q9.1 from congrArg Prod.fst h8, show z = q9.2 from congrArg Prod.snd h8]
          clear h8
          refine run_goto 69 dX12_fact_64 (by decide) ?_
          exact run_iret dX12_fact_69 ⟨_, rfl, Option.some.inj h⟩
    · rw [if_pos c3] at h
      refine run_iload_n 3 dX12_fact_21 rfl rfl ?_
      refine run_if_ne 32 dX12_fact_22 (by decide) (fun c14 => ?_) (fun c14 => ?_)
      · rw [if_neg c14] at h
        refine run_bipush (v := -2) dX12_fact_32 rfl ?_
        exact run_iret dX12_fact_34 ⟨_, rfl, Option.some.inj h⟩
      · rw [if_pos c14] at h
        refine run_aload_n 0 dX12_fact_25 rfl rfl ?_
        obtain ⟨q15, h16, h⟩ := Option.bind_eq_some_iff.mp h
        refine run_callVi (As := []) (fun r z => (r, z) = q15) mw_X12_facts mi_X12_facts ml_X12_548 is_269 (by decide) rfl rfl rfl (RF.lt (HX12_fact_X12_facts_lt d)) (Nat.le_of_ble_eq_true rfl) dX12_fact_26 (sX12_facts G d  h16) (fun r z h8 => ?_) rfl
        rw [show r = q15.1 from congrArg Prod.fst h8, show z = q15.2 from congrArg Prod.snd h8]
        clear h8
        refine run_goto 34 dX12_fact_29 (by decide) ?_
        exact run_iret dX12_fact_34 ⟨_, rfl, Option.some.inj h⟩
  · rw [if_neg c2] at h
    refine run_bipush (v := -2) dX12_fact_13 rfl ?_
    exact run_iret dX12_fact_15 ⟨_, rfl, Option.some.inj h⟩
def HX12_valueNow : Nat := 2
theorem HX12_valueNow_X12_has_lt (d : Nat) : d + HX12_has < d + HX12_valueNow := Nat.add_lt_add_left (by decide) d
theorem HX12_valueNow_0 (d : Nat) : 0 < d + HX12_valueNow := Nat.lt_of_lt_of_le (by decide) (Nat.le_add_left _ d)
def fX12_valueNow (x1 : Int32) (σ : Mem) : Option (Int32 × Mem) := (fX12_has (σ 269 30) x1 σ).bind fun q1 => if q1.1 = true then (gd (inb x1 10) (some ((q1.2 281 (Int32.toNatClampNeg x1)), q1.2))) else (some ((-1), q1.2))
set_option maxRecDepth 20000 in
theorem sX12_valueNow (G : GT) (d : Nat) {x1 : Int32}  {σ : Mem} {o : (Int32 × Mem)} (h : fX12_valueNow x1 σ = some o) : Spec G yX12_valueNow cX12_valueNow 2 (some .int) (d + HX12_valueNow) [.ref (gA G 269), .int x1] σ (kI fun x z => (x, z) = o) := by
  refine spec_run (by decide) (Nat.le_of_ble_eq_true rfl) ?_
  unfold fX12_valueNow at h
  show Run G RX12 cX12_valueNow 2 (some .int) _ 0 [(0, .ref (gA G 269)), (1, .int x1)] [] σ
  refine run_aload_n 0 dX12_valueNow_0 rfl rfl ?_
  refine run_geti fl_X12_336 is_269 (by decide) rfl dX12_valueNow_1 ?_
  refine run_iload_n 1 dX12_valueNow_4 rfl rfl ?_
  obtain ⟨q1, h4, h⟩ := Option.bind_eq_some_iff.mp h
  refine run_callSb (As := [.int (σ 269 30), .int x1]) (fun r z => (r, z) = q1) mw_X12_has ms_X12_has ml_X12_148 rfl (RF.lt (HX12_valueNow_X12_has_lt d)) (Nat.le_of_ble_eq_true rfl) dX12_valueNow_5 (sX12_has G d  h4) (fun r z h8 => ?_) rfl
  rw [show r = q1.1 from congrArg Prod.fst h8, show z = q1.2 from congrArg Prod.snd h8]
  clear h8
  refine run_ifb_eq 20 dX12_valueNow_8 (by decide) (fun c2 => ?_) (fun c2 => ?_)
  · rw [if_neg c2] at h
    refine run_iconst (v := -1) dX12_valueNow_20 rfl ?_
    exact run_iret dX12_valueNow_21 ⟨_, rfl, Option.some.inj h⟩
  · rw [if_pos c2] at h
    refine run_aload_n 0 dX12_valueNow_11 rfl rfl ?_
    refine run_getr fl_X12_44 is_269 (by decide) rfl ce_269_31 dX12_valueNow_12 ?_
    refine run_iload_n 1 dX12_valueNow_15 rfl rfl ?_
    obtain ⟨g3, h⟩ := gd_s h
    refine run_iald' is_281 ln_281 g3 rfl dX12_valueNow_16 ?_
    refine run_goto 21 dX12_valueNow_17 (by decide) ?_
    exact run_iret dX12_valueNow_21 ⟨_, rfl, Option.some.inj h⟩
def HX12_isSo : Nat := 3
theorem HX12_isSo_X12_factOf_lt (d : Nat) : d + HX12_factOf < d + HX12_isSo := Nat.add_lt_add_left (by decide) d
theorem HX12_isSo_X12_facts_lt (d : Nat) : d + HX12_facts < d + HX12_isSo := Nat.add_lt_add_left (by decide) d
theorem HX12_isSo_X12_valueNow_lt (d : Nat) : d + HX12_valueNow < d + HX12_isSo := Nat.add_lt_add_left (by decide) d
theorem HX12_isSo_0 (d : Nat) : 0 < d + HX12_isSo := Nat.lt_of_lt_of_le (by decide) (Nat.le_add_left _ d)
def lX12_isSo_2  : Nat → Int32 → Mem → Option ((Bool × Mem) ⊕ (Mem))
  | 0, _, _ => none
  | n + 1, x1, σ => (fX12_facts σ).bind fun q7 => if q7.1 ≤ x1 then (some (.inr q7.2)) else ((fX12_factOf x1 0 q7.2).bind fun q9 => (fX12_valueNow q9.1 q9.2).bind fun q10 => (fX12_factOf x1 1 q10.2).bind fun q11 => if q10.1 = q11.1 then (lX12_isSo_2 n (x1 + 1) q11.2) else (some (.inl (false, q11.2))))
set_option maxRecDepth 20000 in
theorem lpX12_isSo_2 (G : GT) (d : Nat)   {K : Option Value → Mem → Prop} : ∀ (n : Nat) (x1 : Int32) (σ : Mem) (o : (Bool × Mem) ⊕ (Mem)), lX12_isSo_2 n x1 σ = some o → (∀ r, o = .inl r → K (some (.int (b2 r.1))) r.2) → (∀ t, o = .inr t → Run G RX12 cX12_isSo 2 (some .boolean) (mF G (d + HX12_isSo) K) 37 [] [] t) → Run G RX12 cX12_isSo 2 (some .boolean) (mF G (d + HX12_isSo) K) 2 [(0, .ref (gA G 269)), (1, .int x1)] [] σ := by
  intro n
  induction n with
  | zero => intro x1 σ o h; exact absurd h (by simp [lX12_isSo_2])
  | succ n ih =>
    intro x1 σ o h kr kx
    rw [lX12_isSo_2] at h
    refine run_iload_n 1 dX12_isSo_2 rfl rfl ?_
    refine run_aload_n 0 dX12_isSo_3 rfl rfl ?_
    obtain ⟨q7, h16, h⟩ := Option.bind_eq_some_iff.mp h
    refine run_callVi (As := []) (fun r z => (r, z) = q7) mw_X12_facts mi_X12_facts ml_X12_548 is_269 (by decide) rfl rfl rfl (RF.lt (HX12_isSo_X12_facts_lt d)) (Nat.le_of_ble_eq_true rfl) dX12_isSo_4 (sX12_facts G d  h16) (fun r z h8 => ?_) rfl
    rw [show r = q7.1 from congrArg Prod.fst h8, show z = q7.2 from congrArg Prod.snd h8]
    clear h8
    refine run_icmp_ge 37 dX12_isSo_7 (by decide) (fun c8 => ?_) (fun c8 => ?_)
    · rw [if_pos c8] at h
      refine run_forget [] rfl ?_
      exact kx _ (Option.some.inj h).symm
    · rw [if_neg c8] at h
      refine run_aload_n 0 dX12_isSo_10 rfl rfl ?_
      refine run_aload_n 0 dX12_isSo_11 rfl rfl ?_
      refine run_iload_n 1 dX12_isSo_12 rfl rfl ?_
      refine run_iconst (v := 0) dX12_isSo_13 rfl ?_
      obtain ⟨q9, h15, h⟩ := Option.bind_eq_some_iff.mp h
      refine run_callVi (As := [.int x1, .int 0]) (fun r z => (r, z) = q9) mw_X12_factOf mi_X12_factOf ml_X12_551 is_269 (by decide) rfl rfl rfl (RF.lt (HX12_isSo_X12_factOf_lt d)) (Nat.le_of_ble_eq_true rfl) dX12_isSo_14 (sX12_factOf G d  h15) (fun r z h8 => ?_) rfl
      rw [show r = q9.1 from congrArg Prod.fst h8, show z = q9.2 from congrArg Prod.snd h8]
      clear h8
      obtain ⟨q10, h14, h⟩ := Option.bind_eq_some_iff.mp h
      refine run_callVi (As := [.int q9.1]) (fun r z => (r, z) = q10) mw_X12_valueNow mi_X12_valueNow ml_X12_554 is_269 (by decide) rfl rfl rfl (RF.lt (HX12_isSo_X12_valueNow_lt d)) (Nat.le_of_ble_eq_true rfl) dX12_isSo_17 (sX12_valueNow G d  h14) (fun r z h8 => ?_) rfl
      rw [show r = q10.1 from congrArg Prod.fst h8, show z = q10.2 from congrArg Prod.snd h8]
      clear h8
      refine run_aload_n 0 dX12_isSo_20 rfl rfl ?_
      refine run_iload_n 1 dX12_isSo_21 rfl rfl ?_
      refine run_iconst (v := 1) dX12_isSo_22 rfl ?_
      obtain ⟨q11, h13, h⟩ := Option.bind_eq_some_iff.mp h
      refine run_callVi (As := [.int x1, .int 1]) (fun r z => (r, z) = q11) mw_X12_factOf mi_X12_factOf ml_X12_551 is_269 (by decide) rfl rfl rfl (RF.lt (HX12_isSo_X12_factOf_lt d)) (Nat.le_of_ble_eq_true rfl) dX12_isSo_23 (sX12_factOf G d  h13) (fun r z h8 => ?_) rfl
      rw [show r = q11.1 from congrArg Prod.fst h8, show z = q11.2 from congrArg Prod.snd h8]
      clear h8
      refine run_icmp_eq 31 dX12_isSo_26 (by decide) (fun c12 => ?_) (fun c12 => ?_)
      · rw [if_pos c12] at h
        refine run_iinc 1 [(0, .ref (gA G 269)), (1, .int (x1 + 1))] [1, 0] dX12_isSo_31 rfl rfl (by decide) rfl ?_
        refine run_goto 2 dX12_isSo_34 (by decide) ?_
        exact ih _ _ _ h kr kx
      · rw [if_neg c12] at h
        refine run_iconst (v := 0) dX12_isSo_29 rfl ?_
        exact run_bret (b := false) dX12_isSo_30 (kr _ (Option.some.inj h).symm)
def fX12_isSo  (σ : Mem) : Option (Bool × Mem) := (lX12_isSo_2 FU 0 σ).bind fun q17 => Sum.elim (fun q19 => some q19) (fun q17 => some (true, q17)) q17
set_option maxRecDepth 20000 in
theorem sX12_isSo (G : GT) (d : Nat)   {σ : Mem} {o : (Bool × Mem)} (h : fX12_isSo σ = some o) : Spec G yX12_isSo cX12_isSo 2 (some .boolean) (d + HX12_isSo) [.ref (gA G 269)] σ (kB fun x z => (x, z) = o) := by
  refine spec_run (by decide) (Nat.le_of_ble_eq_true rfl) ?_
  unfold fX12_isSo at h
  show Run G RX12 cX12_isSo 2 (some .boolean) _ 0 [(0, .ref (gA G 269))] [] σ
  refine run_iconst (v := 0) dX12_isSo_0 rfl ?_
  refine run_istore_n [(0, .ref (gA G 269)), (1, .int 0)] [1, 0] dX12_isSo_1 rfl (by decide) rfl ?_
  obtain ⟨q17a, h18, h⟩ := Option.bind_eq_some_iff.mp h
  refine lpX12_isSo_2 G d _ _ _ _ h18 (fun q19 e9 => ?_) (fun q17 e9 => ?_)
  · rw [e9, Sum.elim_inl] at h
    rw [← Option.some.inj h]
    exact ⟨_, rfl, rfl⟩
  · rw [e9, Sum.elim_inr] at h
    refine run_iconst (v := 1) dX12_isSo_37 rfl ?_
    exact run_bret (b := true) dX12_isSo_38 ⟨_, rfl, Option.some.inj h⟩
def HX12_noteFit : Nat := 3
theorem HX12_noteFit_X12_has_lt (d : Nat) : d + HX12_has < d + HX12_noteFit := Nat.add_lt_add_left (by decide) d
theorem HX12_noteFit_X12_ones_lt (d : Nat) : d + HX12_ones < d + HX12_noteFit := Nat.add_lt_add_left (by decide) d
theorem HX12_noteFit_0 (d : Nat) : 0 < d + HX12_noteFit := Nat.lt_of_lt_of_le (by decide) (Nat.le_add_left _ d)
def lX12_noteFit_86  : Nat → Int32 → Mem → Option (Mem)
  | 0, _, _ => none
  | n + 1, x3, σ => if 10 ≤ x3 then (some σ) else ((fX12_has (σ 269 30) x3 σ).bind fun q21 => (if q21.1 = true then (gd (inb x3 10) (some (q21.2 281 (Int32.toNatClampNeg x3)))) else (some 100) : Option (Int32)).bind fun q24 => gd (inb (((101 : Int32) * x3) + q24) 1010) (gd (inb (((101 : Int32) * x3) + q24) 1010) (lX12_noteFit_86 n (x3 + 1) (st2 q21.2 312 (Int32.toNatClampNeg (((101 : Int32) * x3) + q24)) ((q21.2 312 (Int32.toNatClampNeg (((101 : Int32) * x3) + q24))) + 1)))))
set_option maxRecDepth 20000 in
theorem lpX12_noteFit_86 (G : GT) (d : Nat)   {K : Option Value → Mem → Prop} : ∀ (n : Nat) (x3 : Int32) (σ : Mem) (o : Mem), lX12_noteFit_86 n x3 σ = some o → (Run G RX12 cX12_noteFit 4 none (mF G (d + HX12_noteFit) K) 134 [] [] o) → Run G RX12 cX12_noteFit 4 none (mF G (d + HX12_noteFit) K) 86 [(0, .ref (gA G 269)), (3, .int x3)] [] σ := by
  intro n
  induction n with
  | zero => intro x3 σ o h; exact absurd h (by simp [lX12_noteFit_86])
  | succ n ih =>
    intro x3 σ o h kx
    rw [lX12_noteFit_86] at h
    refine run_iload_n 1 dX12_noteFit_86 rfl rfl ?_
    refine run_bipush (v := 10) dX12_noteFit_87 rfl ?_
    refine run_icmp_ge 134 dX12_noteFit_89 (by decide) (fun c20 => ?_) (fun c20 => ?_)
    · rw [if_pos c20] at h
      rw [← Option.some.inj h] at kx
      refine run_forget [] rfl ?_
      exact kx
    · rw [if_neg c20] at h
      refine run_aload_n 0 dX12_noteFit_92 rfl rfl ?_
      refine run_getr fl_X12_137 is_269 (by decide) rfl ce_269_82 dX12_noteFit_93 ?_
      refine run_bipush (v := 101) dX12_noteFit_96 rfl ?_
      refine run_iload_n 1 dX12_noteFit_98 rfl rfl ?_
      refine run_imul dX12_noteFit_99 ?_
      refine run_aload_n 0 dX12_noteFit_100 rfl rfl ?_
      refine run_geti fl_X12_336 is_269 (by decide) rfl dX12_noteFit_101 ?_
      refine run_iload_n 1 dX12_noteFit_104 rfl rfl ?_
      obtain ⟨q21, h28, h⟩ := Option.bind_eq_some_iff.mp h
      refine run_callSb (As := [.int (σ 269 30), .int x3]) (fun r z => (r, z) = q21) mw_X12_has ms_X12_has ml_X12_148 rfl (RF.lt (HX12_noteFit_X12_has_lt d)) (Nat.le_of_ble_eq_true rfl) dX12_noteFit_105 (sX12_has G d  h28) (fun r z h8 => ?_) rfl
      rw [show r = q21.1 from congrArg Prod.fst h8, show z = q21.2 from congrArg Prod.snd h8]
      clear h8
      obtain ⟨q24, h, h9⟩ := Option.bind_eq_some_iff.mp h
      have hj27 : Run G RX12 cX12_noteFit 4 none (mF G (d + HX12_noteFit) K) 122 [(0, .ref (gA G 269)), (3, .int x3)] [.int q24, .int ((101 : Int32) * x3), .ref (gA G 312)] q21.2 := by
        clear h
        have h := h9
        clear h9
        refine run_iadd dX12_noteFit_122 ?_
        refine run_dup2 dX12_noteFit_123 rfl rfl ?_
        obtain ⟨g25, h⟩ := gd_s h
        refine run_iald' is_312 ln_312 g25 rfl dX12_noteFit_124 ?_
        refine run_iconst (v := 1) dX12_noteFit_125 rfl ?_
        refine run_iadd dX12_noteFit_126 ?_
        obtain ⟨g26, h⟩ := gd_s h
        refine run_iast' is_312 ln_312 g26 rfl dX12_noteFit_127 ?_
        refine run_iinc 1 [(0, .ref (gA G 269)), (3, .int (x3 + 1))] [1, 0] dX12_noteFit_128 rfl rfl (by decide) rfl ?_
        refine run_goto 86 dX12_noteFit_131 (by decide) ?_
        exact ih _ _ _ h kx
      clear h9
      refine run_ifb_eq 120 dX12_noteFit_108 (by decide) (fun c22 => ?_) (fun c22 => ?_)
      · rw [if_neg c22] at h
        refine run_bipush (v := 100) dX12_noteFit_120 rfl ?_
        rw [← Option.some.inj h] at hj27
        exact hj27
      · rw [if_pos c22] at h
        refine run_aload_n 0 dX12_noteFit_111 rfl rfl ?_
        refine run_getr fl_X12_44 is_269 (by decide) rfl ce_269_31 dX12_noteFit_112 ?_
        refine run_iload_n 1 dX12_noteFit_115 rfl rfl ?_
        obtain ⟨g23, h⟩ := gd_s h
        refine run_iald' is_281 ln_281 g23 rfl dX12_noteFit_116 ?_
        refine run_goto 122 dX12_noteFit_117 (by decide) ?_
        rw [← Option.some.inj h] at hj27
        exact hj27
def fX12_noteFit (x1 : Int32) (x2 : Int32) (σ : Mem) : Option Mem := (if (σ 269 77) = x2 then (some x1) else (some (σ 269 78)) : Option (Int32)).bind fun q2 => (if ((st2 (st2 σ 269 78 q2) 269 77 (((st2 σ 269 78 q2) 269 77) + 1)) 269 79) = (-1) then ((fX12_ones x1 (st2 (st2 σ 269 78 q2) 269 77 (((st2 σ 269 78 q2) 269 77) + 1))).bind fun q4 => some (q4.1, q4.2)) else ((fX12_ones x1 (st2 (st2 σ 269 78 q2) 269 77 (((st2 σ 269 78 q2) 269 77) + 1))).bind fun q6 => if (q6.2 269 79) ≤ q6.1 then (some ((q6.2 269 79), q6.2)) else ((fX12_ones x1 q6.2).bind fun q8 => some (q8.1, q8.2))) : Option (Int32 × Mem)).bind fun q11 => (some (st2 (st2 (st2 (q11.2) 269 79 (q11.1)) 269 80 (((st2 (q11.2) 269 79 (q11.1)) 269 80) &&& x1)) 269 81 (((st2 (st2 (q11.2) 269 79 (q11.1)) 269 80 (((st2 (q11.2) 269 79 (q11.1)) 269 80) &&& x1)) 269 81) ||| x1))).bind fun s12 => (lX12_noteFit_86 FU 0 s12).bind fun q29 => some q29
set_option maxRecDepth 20000 in
theorem sX12_noteFit (G : GT) (d : Nat) {x1 : Int32} {x2 : Int32}  {σ : Mem} {o : Mem} (h : fX12_noteFit x1 x2 σ = some o) : Spec G yX12_noteFit cX12_noteFit 4 none (d + HX12_noteFit) [.ref (gA G 269), .int x1, .int x2] σ (kV fun z => z = o) := by
  refine spec_run (by decide) (Nat.le_of_ble_eq_true rfl) ?_
  unfold fX12_noteFit at h
  show Run G RX12 cX12_noteFit 4 none _ 0 [(0, .ref (gA G 269)), (1, .int x1), (2, .int x2)] [] σ
  refine run_aload_n 0 dX12_noteFit_0 rfl rfl ?_
  refine run_aload_n 0 dX12_noteFit_1 rfl rfl ?_
  refine run_geti fl_X12_557 is_269 (by decide) rfl dX12_noteFit_2 ?_
  refine run_iload_n 2 dX12_noteFit_5 rfl rfl ?_
  obtain ⟨q2, h, h9⟩ := Option.bind_eq_some_iff.mp h
  have hj32 : Run G RX12 cX12_noteFit 4 none (mF G (d + HX12_noteFit) (kV fun z => z = o)) 17 [(0, .ref (gA G 269)), (1, .int x1)] [.int q2, .ref (gA G 269)] σ := by
    clear h
    have h := h9
    clear h9
    refine run_puti fp_X12_560 is_269 (by decide) rfl dX12_noteFit_17 ?_
    refine run_aload_n 0 dX12_noteFit_20 rfl rfl ?_
    refine run_dup dX12_noteFit_21 rfl ?_
    refine run_geti fl_X12_557 is_269 (by decide) rfl dX12_noteFit_22 ?_
    refine run_iconst (v := 1) dX12_noteFit_25 rfl ?_
    refine run_iadd dX12_noteFit_26 ?_
    refine run_puti fp_X12_557 is_269 (by decide) rfl dX12_noteFit_27 ?_
    refine run_aload_n 0 dX12_noteFit_30 rfl rfl ?_
    refine run_aload_n 0 dX12_noteFit_31 rfl rfl ?_
    refine run_geti fl_X12_563 is_269 (by decide) rfl dX12_noteFit_32 ?_
    refine run_iconst (v := -1) dX12_noteFit_35 rfl ?_
    obtain ⟨q11, h, h9⟩ := Option.bind_eq_some_iff.mp h
    have hj31 : Run G RX12 cX12_noteFit 4 none (mF G (d + HX12_noteFit) (kV fun z => z = o)) 61 [(0, .ref (gA G 269)), (1, .int x1)] [.int (q11.1), .ref (gA G 269)] (q11.2) := by
      clear h
      have h := h9
      clear h9
      refine run_puti fp_X12_563 is_269 (by decide) rfl dX12_noteFit_61 ?_
      refine run_aload_n 0 dX12_noteFit_64 rfl rfl ?_
      refine run_dup dX12_noteFit_65 rfl ?_
      refine run_geti fl_X12_569 is_269 (by decide) rfl dX12_noteFit_66 ?_
      refine run_iload_n 1 dX12_noteFit_69 rfl rfl ?_
      refine run_iand dX12_noteFit_70 ?_
      refine run_puti fp_X12_569 is_269 (by decide) rfl dX12_noteFit_71 ?_
      refine run_aload_n 0 dX12_noteFit_74 rfl rfl ?_
      refine run_dup dX12_noteFit_75 rfl ?_
      refine run_geti fl_X12_572 is_269 (by decide) rfl dX12_noteFit_76 ?_
      refine run_iload_n 1 dX12_noteFit_79 rfl rfl ?_
      refine run_ior dX12_noteFit_80 ?_
      refine run_puti fp_X12_572 is_269 (by decide) rfl dX12_noteFit_81 ?_
      rw [Option.bind_some] at h
      refine run_mem (fun s12 es12 => ?_)
      rw [← es12] at h
      refine run_iconst (v := 0) dX12_noteFit_84 rfl ?_
      refine run_istore_n [(0, .ref (gA G 269)), (3, .int 0)] [1, 0] dX12_noteFit_85 rfl (by decide) rfl ?_
      obtain ⟨q29, h30, h⟩ := Option.bind_eq_some_iff.mp h
      refine lpX12_noteFit_86 G d _ _ _ _ h30 ?_
      exact run_vret dX12_noteFit_134 ⟨rfl, Option.some.inj h⟩
    clear h9
    refine run_icmp_eq 50 dX12_noteFit_36 (by decide) (fun c3 => ?_) (fun c3 => ?_)
    · rw [if_pos c3] at h
      refine run_iload_n 1 dX12_noteFit_50 rfl rfl ?_
      obtain ⟨q4, h5, h⟩ := Option.bind_eq_some_iff.mp h
      refine run_callSi (As := [.int x1]) (fun r z => (r, z) = q4) mw_X12_ones ms_X12_ones ml_X12_566 rfl (RF.lt (HX12_noteFit_X12_ones_lt d)) (Nat.le_of_ble_eq_true rfl) dX12_noteFit_51 (sX12_ones G d  h5) (fun r z h8 => ?_) rfl
      rw [show r = q4.1 from congrArg Prod.fst h8, show z = q4.2 from congrArg Prod.snd h8]
      clear h8
      refine run_goto 61 dX12_noteFit_54 (by decide) ?_
      rw [← Option.some.inj h] at hj31
      exact hj31
    · rw [if_neg c3] at h
      refine run_iload_n 1 dX12_noteFit_39 rfl rfl ?_
      obtain ⟨q6, h10, h⟩ := Option.bind_eq_some_iff.mp h
      refine run_callSi (As := [.int x1]) (fun r z => (r, z) = q6) mw_X12_ones ms_X12_ones ml_X12_566 rfl (RF.lt (HX12_noteFit_X12_ones_lt d)) (Nat.le_of_ble_eq_true rfl) dX12_noteFit_40 (sX12_ones G d  h10) (fun r z h8 => ?_) rfl
      rw [show r = q6.1 from congrArg Prod.fst h8, show z = q6.2 from congrArg Prod.snd h8]
      clear h8
      refine run_aload_n 0 dX12_noteFit_43 rfl rfl ?_
      refine run_geti fl_X12_563 is_269 (by decide) rfl dX12_noteFit_44 ?_
      refine run_icmp_ge 57 dX12_noteFit_47 (by decide) (fun c7 => ?_) (fun c7 => ?_)
      · rw [if_pos c7] at h
        refine run_aload_n 0 dX12_noteFit_57 rfl rfl ?_
        refine run_geti fl_X12_563 is_269 (by decide) rfl dX12_noteFit_58 ?_
        rw [← Option.some.inj h] at hj31
        exact hj31
      · rw [if_neg c7] at h
        refine run_iload_n 1 dX12_noteFit_50 rfl rfl ?_
        obtain ⟨q8, h9, h⟩ := Option.bind_eq_some_iff.mp h
        refine run_callSi (As := [.int x1]) (fun r z => (r, z) = q8) mw_X12_ones ms_X12_ones ml_X12_566 rfl (RF.lt (HX12_noteFit_X12_ones_lt d)) (Nat.le_of_ble_eq_true rfl) dX12_noteFit_51 (sX12_ones G d  h9) (fun r z h8 => ?_) rfl
        rw [show r = q8.1 from congrArg Prod.fst h8, show z = q8.2 from congrArg Prod.snd h8]
        clear h8
        refine run_goto 61 dX12_noteFit_54 (by decide) ?_
        rw [← Option.some.inj h] at hj31
        exact hj31
  clear h9
  refine run_icmp_ne 13 dX12_noteFit_6 (by decide) (fun c1 => ?_) (fun c1 => ?_)
  · rw [if_neg c1] at h
    refine run_aload_n 0 dX12_noteFit_13 rfl rfl ?_
    refine run_geti fl_X12_560 is_269 (by decide) rfl dX12_noteFit_14 ?_
    rw [← Option.some.inj h] at hj32
    refine run_forget [0, 1] rfl ?_
    exact hj32
  · rw [if_pos c1] at h
    refine run_iload_n 1 dX12_noteFit_9 rfl rfl ?_
    refine run_goto 17 dX12_noteFit_10 (by decide) ?_
    rw [← Option.some.inj h] at hj32
    refine run_forget [0, 1] rfl ?_
    exact hj32
def HX12_askWhat : Nat := 2
theorem HX12_askWhat_X12_greater_lt (d : Nat) : d + HX12_greater < d + HX12_askWhat := Nat.add_lt_add_left (by decide) d
theorem HX12_askWhat_X12_lesser_lt (d : Nat) : d + HX12_lesser < d + HX12_askWhat := Nat.add_lt_add_left (by decide) d
theorem HX12_askWhat_0 (d : Nat) : 0 < d + HX12_askWhat := Nat.lt_of_lt_of_le (by decide) (Nat.le_add_left _ d)
def lX12_askWhat_27 (x1 : Int32) (x2 : Int32) (x3 : Int32) : Nat → Int32 → Int32 → Mem → Option (Int32 × Mem)
  | 0, _, _, _ => none
  | n + 1, x4, x5, σ => if 101 ≤ x5 then (some (x4, σ)) else (gd (inb (((101 : Int32) * x3) + x5) 1010) ((fX12_greater x4 (σ 312 (Int32.toNatClampNeg (((101 : Int32) * x3) + x5))) σ).bind fun q21 => lX12_askWhat_27 x1 x2 x3 n q21.1 (x5 + 1) q21.2))
set_option maxRecDepth 20000 in
theorem lpX12_askWhat_27 (G : GT) (d : Nat) (x1 : Int32) (x2 : Int32) (x3 : Int32)  {K : Option Value → Mem → Prop} : ∀ (n : Nat) (x4 : Int32) (x5 : Int32) (σ : Mem) (o : Int32 × Mem), lX12_askWhat_27 x1 x2 x3 n x4 x5 σ = some o → (Run G RX12 cX12_askWhat 6 (some .int) (mF G (d + HX12_askWhat) K) 59 [(0, .ref (gA G 269)), (1, .int x1), (2, .int x2), (3, .int x3), (4, .int (o.1))] [] (o.2)) → Run G RX12 cX12_askWhat 6 (some .int) (mF G (d + HX12_askWhat) K) 27 [(0, .ref (gA G 269)), (1, .int x1), (2, .int x2), (3, .int x3), (4, .int x4), (5, .int x5)] [] σ := by
  intro n
  induction n with
  | zero => intro x4 x5 σ o h; exact absurd h (by simp [lX12_askWhat_27])
  | succ n ih =>
    intro x4 x5 σ o h kx
    rw [lX12_askWhat_27] at h
    refine run_iload 5 dX12_askWhat_27 rfl ?_
    refine run_bipush (v := 101) dX12_askWhat_29 rfl ?_
    refine run_icmp_ge 59 dX12_askWhat_31 (by decide) (fun c19 => ?_) (fun c19 => ?_)
    · rw [if_pos c19] at h
      rw [← Option.some.inj h] at kx
      refine run_forget [0, 1, 2, 3, 4] rfl ?_
      exact kx
    · rw [if_neg c19] at h
      refine run_iload 4 dX12_askWhat_34 rfl ?_
      refine run_aload_n 0 dX12_askWhat_36 rfl rfl ?_
      refine run_getr fl_X12_137 is_269 (by decide) rfl ce_269_82 dX12_askWhat_37 ?_
      refine run_bipush (v := 101) dX12_askWhat_40 rfl ?_
      refine run_iload_n 3 dX12_askWhat_42 rfl rfl ?_
      refine run_imul dX12_askWhat_43 ?_
      refine run_iload 5 dX12_askWhat_44 rfl ?_
      refine run_iadd dX12_askWhat_46 ?_
      obtain ⟨g20, h⟩ := gd_s h
      refine run_iald' is_312 ln_312 g20 rfl dX12_askWhat_47 ?_
      obtain ⟨q21, h22, h⟩ := Option.bind_eq_some_iff.mp h
      refine run_callSi (As := [.int x4, .int (σ 312 (Int32.toNatClampNeg (((101 : Int32) * x3) + x5)))]) (fun r z => (r, z) = q21) mw_X12_greater ms_X12_greater ml_X12_415 rfl (RF.lt (HX12_askWhat_X12_greater_lt d)) (Nat.le_of_ble_eq_true rfl) dX12_askWhat_48 (sX12_greater G d  h22) (fun r z h8 => ?_) rfl
      rw [show r = q21.1 from congrArg Prod.fst h8, show z = q21.2 from congrArg Prod.snd h8]
      clear h8
      refine run_istore [(0, .ref (gA G 269)), (1, .int x1), (2, .int x2), (3, .int x3), (4, .int q21.1), (5, .int x5)] [1, 2, 3, 4, 0, 5] dX12_askWhat_51 (by decide) rfl ?_
      refine run_iinc 5 [(0, .ref (gA G 269)), (1, .int x1), (2, .int x2), (3, .int x3), (4, .int q21.1), (5, .int (x5 + 1))] [1, 2, 3, 4, 5, 0] dX12_askWhat_53 rfl rfl (by decide) rfl ?_
      refine run_goto 27 dX12_askWhat_56 (by decide) ?_
      exact ih _ _ _ _ h kx
def lX12_askWhat_8  : Nat → Int32 → Int32 → Int32 → Mem → Option (Int32 × Mem)
  | 0, _, _, _, _ => none
  | n + 1, x1, x2, x3, σ => if 10 ≤ x3 then (some (x1, σ)) else (if (σ 269 77) ≤ 0 then (some (x1, σ)) else ((lX12_askWhat_27 x1 x2 x3 FU 0 0 σ).bind fun q23 => (if x2 ≤ (q23.1) then (some x1) else (some x3) : Option (Int32)).bind fun q25 => (fX12_lesser x2 (q23.1) (q23.2)).bind fun q26 => lX12_askWhat_8 n q25 q26.1 (x3 + 1) q26.2))
set_option maxRecDepth 20000 in
theorem lpX12_askWhat_8 (G : GT) (d : Nat)   {K : Option Value → Mem → Prop} : ∀ (n : Nat) (x1 : Int32) (x2 : Int32) (x3 : Int32) (σ : Mem) (o : Int32 × Mem), lX12_askWhat_8 n x1 x2 x3 σ = some o → (Run G RX12 cX12_askWhat 6 (some .int) (mF G (d + HX12_askWhat) K) 84 [(1, .int (o.1))] [] (o.2)) → Run G RX12 cX12_askWhat 6 (some .int) (mF G (d + HX12_askWhat) K) 8 [(0, .ref (gA G 269)), (1, .int x1), (2, .int x2), (3, .int x3)] [] σ := by
  intro n
  induction n with
  | zero => intro x1 x2 x3 σ o h; exact absurd h (by simp [lX12_askWhat_8])
  | succ n ih =>
    intro x1 x2 x3 σ o h kx
    rw [lX12_askWhat_8] at h
    refine run_iload_n 3 dX12_askWhat_8 rfl rfl ?_
    refine run_bipush (v := 10) dX12_askWhat_9 rfl ?_
    refine run_icmp_ge 84 dX12_askWhat_11 (by decide) (fun c14 => ?_) (fun c14 => ?_)
    · rw [if_pos c14] at h
      rw [← Option.some.inj h] at kx
      refine run_forget [1] rfl ?_
      exact kx
    · rw [if_neg c14] at h
      refine run_aload_n 0 dX12_askWhat_14 rfl rfl ?_
      refine run_geti fl_X12_557 is_269 (by decide) rfl dX12_askWhat_15 ?_
      refine run_if_le 84 dX12_askWhat_18 (by decide) (fun c15 => ?_) (fun c15 => ?_)
      · rw [if_pos c15] at h
        rw [← Option.some.inj h] at kx
        refine run_forget [1] rfl ?_
        exact kx
      · rw [if_neg c15] at h
        refine run_iconst (v := 0) dX12_askWhat_21 rfl ?_
        refine run_istore [(0, .ref (gA G 269)), (1, .int x1), (2, .int x2), (3, .int x3), (4, .int 0)] [1, 2, 3, 4, 0] dX12_askWhat_22 (by decide) rfl ?_
        refine run_iconst (v := 0) dX12_askWhat_24 rfl ?_
        refine run_istore [(0, .ref (gA G 269)), (1, .int x1), (2, .int x2), (3, .int x3), (4, .int 0), (5, .int 0)] [1, 2, 3, 4, 5, 0] dX12_askWhat_25 (by decide) rfl ?_
        obtain ⟨q23, h29, h⟩ := Option.bind_eq_some_iff.mp h
        refine lpX12_askWhat_27 G d _ _ _ _ _ _ _ _ h29 ?_
        refine run_iload 4 dX12_askWhat_59 rfl ?_
        refine run_iload_n 2 dX12_askWhat_61 rfl rfl ?_
        obtain ⟨q25, h, h9⟩ := Option.bind_eq_some_iff.mp h
        have hj28 : Run G RX12 cX12_askWhat 6 (some .int) (mF G (d + HX12_askWhat) K) 70 [(0, .ref (gA G 269)), (2, .int x2), (3, .int x3), (4, .int (q23.1))] [.int q25] (q23.2) := by
          clear h
          have h := h9
          clear h9
          refine run_istore_n [(0, .ref (gA G 269)), (1, .int q25), (2, .int x2), (3, .int x3), (4, .int (q23.1))] [1, 0, 2, 3, 4] dX12_askWhat_70 rfl (by decide) rfl ?_
          refine run_iload_n 2 dX12_askWhat_71 rfl rfl ?_
          refine run_iload 4 dX12_askWhat_72 rfl ?_
          obtain ⟨q26, h27, h⟩ := Option.bind_eq_some_iff.mp h
          refine run_callSi (As := [.int x2, .int (q23.1)]) (fun r z => (r, z) = q26) mw_X12_lesser ms_X12_lesser ml_X12_239 rfl (RF.lt (HX12_askWhat_X12_lesser_lt d)) (Nat.le_of_ble_eq_true rfl) dX12_askWhat_74 (sX12_lesser G d  h27) (fun r z h8 => ?_) rfl
          rw [show r = q26.1 from congrArg Prod.fst h8, show z = q26.2 from congrArg Prod.snd h8]
          clear h8
          refine run_istore_n [(0, .ref (gA G 269)), (1, .int q25), (2, .int q26.1), (3, .int x3)] [1, 2, 0, 3] dX12_askWhat_77 rfl (by decide) rfl ?_
          refine run_iinc 3 [(0, .ref (gA G 269)), (1, .int q25), (2, .int q26.1), (3, .int (x3 + 1))] [1, 2, 3, 0] dX12_askWhat_78 rfl rfl (by decide) rfl ?_
          refine run_goto 8 dX12_askWhat_81 (by decide) ?_
          exact ih _ _ _ _ _ h kx
        clear h9
        refine run_icmp_ge 69 dX12_askWhat_62 (by decide) (fun c24 => ?_) (fun c24 => ?_)
        · rw [if_pos c24] at h
          refine run_iload_n 1 dX12_askWhat_69 rfl rfl ?_
          rw [← Option.some.inj h] at hj28
          refine run_forget [0, 2, 3, 4] rfl ?_
          exact hj28
        · rw [if_neg c24] at h
          refine run_iload_n 3 dX12_askWhat_65 rfl rfl ?_
          refine run_goto 70 dX12_askWhat_66 (by decide) ?_
          rw [← Option.some.inj h] at hj28
          refine run_forget [0, 2, 3, 4] rfl ?_
          exact hj28
def fX12_askWhat  (σ : Mem) : Option (Int32 × Mem) := (lX12_askWhat_8 FU (-1) 1000000 0 σ).bind fun q30 => some ((q30.1), (q30.2))
set_option maxRecDepth 20000 in
theorem sX12_askWhat (G : GT) (d : Nat)   {σ : Mem} {o : (Int32 × Mem)} (h : fX12_askWhat σ = some o) : Spec G yX12_askWhat cX12_askWhat 6 (some .int) (d + HX12_askWhat) [.ref (gA G 269)] σ (kI fun x z => (x, z) = o) := by
  refine spec_run (by decide) (Nat.le_of_ble_eq_true rfl) ?_
  unfold fX12_askWhat at h
  show Run G RX12 cX12_askWhat 6 (some .int) _ 0 [(0, .ref (gA G 269))] [] σ
  refine run_iconst (v := -1) dX12_askWhat_0 rfl ?_
  refine run_istore_n [(0, .ref (gA G 269)), (1, .int (-1))] [1, 0] dX12_askWhat_1 rfl (by decide) rfl ?_
  refine run_ldcw kc_X12_584 dX12_askWhat_2 ?_
  refine run_istore_n [(0, .ref (gA G 269)), (1, .int (-1)), (2, .int 1000000)] [1, 2, 0] dX12_askWhat_5 rfl (by decide) rfl ?_
  refine run_iconst (v := 0) dX12_askWhat_6 rfl ?_
  refine run_istore_n [(0, .ref (gA G 269)), (1, .int (-1)), (2, .int 1000000), (3, .int 0)] [1, 2, 3, 0] dX12_askWhat_7 rfl (by decide) rfl ?_
  obtain ⟨q30, h31, h⟩ := Option.bind_eq_some_iff.mp h
  refine lpX12_askWhat_8 G d _ _ _ _ _ _ h31 ?_
  refine run_iload_n 0 dX12_askWhat_84 rfl rfl ?_
  exact run_iret dX12_askWhat_85 ⟨_, rfl, Option.some.inj h⟩
def HX12_sure : Nat := 3
theorem HX12_sure_X12_has_lt (d : Nat) : d + HX12_has < d + HX12_sure := Nat.add_lt_add_left (by decide) d
theorem HX12_sure_X12_isWorker_lt (d : Nat) : d + HX12_isWorker < d + HX12_sure := Nat.add_lt_add_left (by decide) d
theorem HX12_sure_0 (d : Nat) : 0 < d + HX12_sure := Nat.lt_of_lt_of_le (by decide) (Nat.le_add_left _ d)
def fX12_sure (x1 : Int32) (σ : Mem) : Option (Int32 × Mem) := if (σ 269 77) = 0 then (some ((-1), σ)) else ((fX12_isWorker x1 σ).bind fun q2 => if q2.1 = true then ((fX12_has (q2.2 269 80) x1 q2.2).bind fun q4 => if q4.1 = true then (some (1, q4.2)) else ((fX12_has (q4.2 269 81) x1 q4.2).bind fun q6 => if q6.1 = true then (some ((-1), q6.2)) else (some (0, q6.2)))) else (some ((-1), q2.2)))
set_option maxRecDepth 20000 in
theorem sX12_sure (G : GT) (d : Nat) {x1 : Int32}  {σ : Mem} {o : (Int32 × Mem)} (h : fX12_sure x1 σ = some o) : Spec G yX12_sure cX12_sure 2 (some .int) (d + HX12_sure) [.ref (gA G 269), .int x1] σ (kI fun x z => (x, z) = o) := by
  refine spec_run (by decide) (Nat.le_of_ble_eq_true rfl) ?_
  unfold fX12_sure at h
  show Run G RX12 cX12_sure 2 (some .int) _ 0 [(0, .ref (gA G 269)), (1, .int x1)] [] σ
  refine run_aload_n 0 dX12_sure_0 rfl rfl ?_
  refine run_geti fl_X12_557 is_269 (by decide) rfl dX12_sure_1 ?_
  refine run_if_eq 15 dX12_sure_4 (by decide) (fun c1 => ?_) (fun c1 => ?_)
  · rw [if_pos c1] at h
    refine run_iconst (v := -1) dX12_sure_15 rfl ?_
    refine run_goto 50 dX12_sure_16 (by decide) ?_
    exact run_iret dX12_sure_50 ⟨_, rfl, Option.some.inj h⟩
  · rw [if_neg c1] at h
    refine run_aload_n 0 dX12_sure_7 rfl rfl ?_
    refine run_iload_n 1 dX12_sure_8 rfl rfl ?_
    obtain ⟨q2, h10, h⟩ := Option.bind_eq_some_iff.mp h
    refine run_callVb (As := [.int x1]) (fun r z => (r, z) = q2) mw_X12_isWorker mi_X12_isWorker ml_X12_457 is_269 (by decide) rfl rfl rfl (RF.lt (HX12_sure_X12_isWorker_lt d)) (Nat.le_of_ble_eq_true rfl) dX12_sure_9 (sX12_isWorker G d  h10) (fun r z h8 => ?_) rfl
    rw [show r = q2.1 from congrArg Prod.fst h8, show z = q2.2 from congrArg Prod.snd h8]
    clear h8
    refine run_ifb_ne 19 dX12_sure_12 (by decide) (fun c3 => ?_) (fun c3 => ?_)
    · rw [if_pos c3] at h
      refine run_aload_n 0 dX12_sure_19 rfl rfl ?_
      refine run_geti fl_X12_569 is_269 (by decide) rfl dX12_sure_20 ?_
      refine run_iload_n 1 dX12_sure_23 rfl rfl ?_
      obtain ⟨q4, h9, h⟩ := Option.bind_eq_some_iff.mp h
      refine run_callSb (As := [.int (q2.2 269 80), .int x1]) (fun r z => (r, z) = q4) mw_X12_has ms_X12_has ml_X12_148 rfl (RF.lt (HX12_sure_X12_has_lt d)) (Nat.le_of_ble_eq_true rfl) dX12_sure_24 (sX12_has G d  h9) (fun r z h8 => ?_) rfl
      rw [show r = q4.1 from congrArg Prod.fst h8, show z = q4.2 from congrArg Prod.snd h8]
      clear h8
      refine run_ifb_eq 34 dX12_sure_27 (by decide) (fun c5 => ?_) (fun c5 => ?_)
      · rw [if_neg c5] at h
        refine run_aload_n 0 dX12_sure_34 rfl rfl ?_
        refine run_geti fl_X12_572 is_269 (by decide) rfl dX12_sure_35 ?_
        refine run_iload_n 1 dX12_sure_38 rfl rfl ?_
        obtain ⟨q6, h8, h⟩ := Option.bind_eq_some_iff.mp h
        refine run_callSb (As := [.int (q4.2 269 81), .int x1]) (fun r z => (r, z) = q6) mw_X12_has ms_X12_has ml_X12_148 rfl (RF.lt (HX12_sure_X12_has_lt d)) (Nat.le_of_ble_eq_true rfl) dX12_sure_39 (sX12_has G d  h8) (fun r z h8 => ?_) rfl
        rw [show r = q6.1 from congrArg Prod.fst h8, show z = q6.2 from congrArg Prod.snd h8]
        clear h8
        refine run_ifb_eq 49 dX12_sure_42 (by decide) (fun c7 => ?_) (fun c7 => ?_)
        · rw [if_neg c7] at h
          refine run_iconst (v := 0) dX12_sure_49 rfl ?_
          exact run_iret dX12_sure_50 ⟨_, rfl, Option.some.inj h⟩
        · rw [if_pos c7] at h
          refine run_iconst (v := -1) dX12_sure_45 rfl ?_
          refine run_goto 50 dX12_sure_46 (by decide) ?_
          exact run_iret dX12_sure_50 ⟨_, rfl, Option.some.inj h⟩
      · rw [if_pos c5] at h
        refine run_iconst (v := 1) dX12_sure_30 rfl ?_
        refine run_goto 50 dX12_sure_31 (by decide) ?_
        exact run_iret dX12_sure_50 ⟨_, rfl, Option.some.inj h⟩
    · rw [if_neg c3] at h
      refine run_iconst (v := -1) dX12_sure_15 rfl ?_
      refine run_goto 50 dX12_sure_16 (by decide) ?_
      exact run_iret dX12_sure_50 ⟨_, rfl, Option.some.inj h⟩
def HX12_draw : Nat := 1
theorem HX12_draw_0 (d : Nat) : 0 < d + HX12_draw := Nat.lt_of_lt_of_le (by decide) (Nat.le_add_left _ d)
def fX12_draw (x1 : Int32) (σ : Mem) : Option (Int32 × Mem) := gd (decide (¬ x1 = 0)) (some (((ushr ((st2 σ 269 83 (((σ 269 83) * 1103515245) + 12345)) 269 83) 16) % x1), (st2 σ 269 83 (((σ 269 83) * 1103515245) + 12345))))
set_option maxRecDepth 20000 in
theorem sX12_draw (G : GT) (d : Nat) {x1 : Int32}  {σ : Mem} {o : (Int32 × Mem)} (h : fX12_draw x1 σ = some o) : Spec G yX12_draw cX12_draw 2 (some .int) (d + HX12_draw) [.ref (gA G 269), .int x1] σ (kI fun x z => (x, z) = o) := by
  refine spec_run (by decide) (Nat.le_of_ble_eq_true rfl) ?_
  unfold fX12_draw at h
  show Run G RX12 cX12_draw 2 (some .int) _ 0 [(0, .ref (gA G 269)), (1, .int x1)] [] σ
  refine run_aload_n 0 dX12_draw_0 rfl rfl ?_
  refine run_aload_n 0 dX12_draw_1 rfl rfl ?_
  refine run_geti fl_X12_594 is_269 (by decide) rfl dX12_draw_2 ?_
  refine run_ldcw kc_X12_597 dX12_draw_5 ?_
  refine run_imul dX12_draw_8 ?_
  refine run_sipush (v := 12345) dX12_draw_9 rfl ?_
  refine run_iadd dX12_draw_12 ?_
  refine run_puti fp_X12_594 is_269 (by decide) rfl dX12_draw_13 ?_
  refine run_aload_n 0 dX12_draw_16 rfl rfl ?_
  refine run_geti fl_X12_594 is_269 (by decide) rfl dX12_draw_17 ?_
  refine run_bipush (v := 16) dX12_draw_20 rfl ?_
  refine run_ushr dX12_draw_22 ?_
  refine run_iload_n 1 dX12_draw_23 rfl rfl ?_
  obtain ⟨g1, h⟩ := gd_s h
  refine run_irem dX12_draw_24 (of_decide_eq_true g1) ?_
  exact run_iret dX12_draw_25 ⟨_, rfl, Option.some.inj h⟩
def HX12_keysOf : Nat := 3
theorem HX12_keysOf_X12_ofTask_lt (d : Nat) : d + HX12_ofTask < d + HX12_keysOf := Nat.add_lt_add_left (by decide) d
theorem HX12_keysOf_X12_stepsOf_lt (d : Nat) : d + HX12_stepsOf < d + HX12_keysOf := Nat.add_lt_add_left (by decide) d
theorem HX12_keysOf_0 (d : Nat) : 0 < d + HX12_keysOf := Nat.lt_of_lt_of_le (by decide) (Nat.le_add_left _ d)
def lX12_keysOf_116 (x1 : Int32) (x2 : Bool) (x4 : Int32) (x7 : Int32) (x8 : Bool) : Nat → Int32 → Int32 → Mem → Option (Int32 × Mem)
  | 0, _, _, _ => none
  | n + 1, x3, x9, σ => if x7 < x9 then (some (x3, σ)) else ((if x8 = true then (some ((1 : Int32) <<< (x9 &&& 31))) else (some 0) : Option (Int32)).bind fun q41 => lX12_keysOf_116 x1 x2 x4 x7 x8 n (x3 ||| q41) (x9 + 1) σ)
set_option maxRecDepth 20000 in
theorem lpX12_keysOf_116 (G : GT) (d : Nat) (x1 : Int32) (x2 : Bool) (x4 : Int32) (x7 : Int32) (x8 : Bool)  {K : Option Value → Mem → Prop} : ∀ (n : Nat) (x3 : Int32) (x9 : Int32) (σ : Mem) (o : Int32 × Mem), lX12_keysOf_116 x1 x2 x4 x7 x8 n x3 x9 σ = some o → (Run G RX12 cX12_keysOf 10 (some .int) (mF G (d + HX12_keysOf) K) 145 [(0, .ref (gA G 269)), (1, .int x1), (2, .int (b2 x2)), (3, .int (o.1)), (4, .int x4)] [] (o.2)) → Run G RX12 cX12_keysOf 10 (some .int) (mF G (d + HX12_keysOf) K) 116 [(0, .ref (gA G 269)), (1, .int x1), (2, .int (b2 x2)), (3, .int x3), (4, .int x4), (7, .int x7), (8, .int (b2 x8)), (9, .int x9)] [] σ := by
  intro n
  induction n with
  | zero => intro x3 x9 σ o h; exact absurd h (by simp [lX12_keysOf_116])
  | succ n ih =>
    intro x3 x9 σ o h kx
    rw [lX12_keysOf_116] at h
    refine run_iload 7 dX12_keysOf_116 rfl ?_
    refine run_iload 5 dX12_keysOf_118 rfl ?_
    refine run_icmp_gt 145 dX12_keysOf_120 (by decide) (fun c39 => ?_) (fun c39 => ?_)
    · rw [if_pos c39] at h
      rw [← Option.some.inj h] at kx
      refine run_forget [0, 1, 2, 3, 4] rfl ?_
      exact kx
    · rw [if_neg c39] at h
      refine run_iload_n 3 dX12_keysOf_123 rfl rfl ?_
      refine run_iload 6 dX12_keysOf_124 rfl ?_
      obtain ⟨q41, h, h9⟩ := Option.bind_eq_some_iff.mp h
      have hj42 : Run G RX12 cX12_keysOf 10 (some .int) (mF G (d + HX12_keysOf) K) 137 [(0, .ref (gA G 269)), (1, .int x1), (2, .int (b2 x2)), (4, .int x4), (7, .int x7), (8, .int (b2 x8)), (9, .int x9)] [.int q41, .int x3] σ := by
        clear h
        have h := h9
        clear h9
        refine run_ior dX12_keysOf_137 ?_
        refine run_istore_n [(0, .ref (gA G 269)), (1, .int x1), (2, .int (b2 x2)), (3, .int (x3 ||| q41)), (4, .int x4), (7, .int x7), (8, .int (b2 x8)), (9, .int x9)] [1, 2, 3, 0, 4, 5, 6, 7] dX12_keysOf_138 rfl (by decide) rfl ?_
        refine run_iinc 7 [(0, .ref (gA G 269)), (1, .int x1), (2, .int (b2 x2)), (3, .int (x3 ||| q41)), (4, .int x4), (7, .int x7), (8, .int (b2 x8)), (9, .int (x9 + 1))] [1, 2, 3, 4, 5, 6, 7, 0] dX12_keysOf_139 rfl rfl (by decide) rfl ?_
        refine run_goto 116 dX12_keysOf_142 (by decide) ?_
        exact ih _ _ _ _ h kx
      clear h9
      refine run_ifb_eq 136 dX12_keysOf_126 (by decide) (fun c40 => ?_) (fun c40 => ?_)
      · rw [if_neg c40] at h
        refine run_iconst (v := 0) dX12_keysOf_136 rfl ?_
        rw [← Option.some.inj h] at hj42
        refine run_forget [0, 1, 2, 4, 5, 6, 7] rfl ?_
        exact hj42
      · rw [if_pos c40] at h
        refine run_iconst (v := 1) dX12_keysOf_129 rfl ?_
        refine run_iload 7 dX12_keysOf_130 rfl ?_
        refine run_ishl dX12_keysOf_132 ?_
        refine run_goto 137 dX12_keysOf_133 (by decide) ?_
        rw [← Option.some.inj h] at hj42
        refine run_forget [0, 1, 2, 4, 5, 6, 7] rfl ?_
        exact hj42
def lX12_keysOf_5 (x1 : Int32) (x2 : Bool) : Nat → Int32 → Int32 → Mem → Option (Int32 × Mem)
  | 0, _, _, _ => none
  | n + 1, x3, x4, σ => (fX12_stepsOf x1 σ).bind fun q24 => if q24.1 ≤ x4 then (some (x3, q24.2)) else ((fX12_ofTask x1 ((1 : Int32) + ((3 : Int32) * x4)) q24.2).bind fun q26 => (fX12_ofTask x1 ((2 : Int32) + ((3 : Int32) * x4)) q26.2).bind fun q27 => (if q26.1 = 5 then ((fX12_ofTask x1 ((3 : Int32) + ((3 : Int32) * x4)) q27.2).bind fun q29 => some (q29.1, q29.2)) else (some (q27.1, q27.2)) : Option (Int32 × Mem)).bind fun q31 => (if x2 = true then (if q26.1 = 0 then (some false) else (if q26.1 = 5 then (some false) else (some true))) else (if q26.1 = 0 then (some true) else (if q26.1 = 4 then (some true) else (if q26.1 = 5 then (some true) else (some false)))) : Option (Bool)).bind fun q38 => (lX12_keysOf_116 x1 x2 x4 (q31.1) q38 FU x3 q27.1 (q31.2)).bind fun q43 => lX12_keysOf_5 x1 x2 n (q43.1) (x4 + 1) (q43.2))
set_option maxRecDepth 20000 in
theorem lpX12_keysOf_5 (G : GT) (d : Nat) (x1 : Int32) (x2 : Bool)  {K : Option Value → Mem → Prop} : ∀ (n : Nat) (x3 : Int32) (x4 : Int32) (σ : Mem) (o : Int32 × Mem), lX12_keysOf_5 x1 x2 n x3 x4 σ = some o → (Run G RX12 cX12_keysOf 10 (some .int) (mF G (d + HX12_keysOf) K) 151 [(3, .int (o.1))] [] (o.2)) → Run G RX12 cX12_keysOf 10 (some .int) (mF G (d + HX12_keysOf) K) 5 [(0, .ref (gA G 269)), (1, .int x1), (2, .int (b2 x2)), (3, .int x3), (4, .int x4)] [] σ := by
  intro n
  induction n with
  | zero => intro x3 x4 σ o h; exact absurd h (by simp [lX12_keysOf_5])
  | succ n ih =>
    intro x3 x4 σ o h kx
    rw [lX12_keysOf_5] at h
    refine run_iload 4 dX12_keysOf_5 rfl ?_
    refine run_aload_n 0 dX12_keysOf_7 rfl rfl ?_
    refine run_iload_n 1 dX12_keysOf_8 rfl rfl ?_
    obtain ⟨q24, h49, h⟩ := Option.bind_eq_some_iff.mp h
    refine run_callVi (As := [.int x1]) (fun r z => (r, z) = q24) mw_X12_stepsOf mi_X12_stepsOf ml_X12_381 is_269 (by decide) rfl rfl rfl (RF.lt (HX12_keysOf_X12_stepsOf_lt d)) (Nat.le_of_ble_eq_true rfl) dX12_keysOf_9 (sX12_stepsOf G d  h49) (fun r z h8 => ?_) rfl
    rw [show r = q24.1 from congrArg Prod.fst h8, show z = q24.2 from congrArg Prod.snd h8]
    clear h8
    refine run_icmp_ge 151 dX12_keysOf_12 (by decide) (fun c25 => ?_) (fun c25 => ?_)
    · rw [if_pos c25] at h
      rw [← Option.some.inj h] at kx
      refine run_forget [3] rfl ?_
      exact kx
    · rw [if_neg c25] at h
      refine run_aload_n 0 dX12_keysOf_15 rfl rfl ?_
      refine run_iload_n 1 dX12_keysOf_16 rfl rfl ?_
      refine run_iconst (v := 1) dX12_keysOf_17 rfl ?_
      refine run_iconst (v := 3) dX12_keysOf_18 rfl ?_
      refine run_iload 4 dX12_keysOf_19 rfl ?_
      refine run_imul dX12_keysOf_21 ?_
      refine run_iadd dX12_keysOf_22 ?_
      obtain ⟨q26, h48, h⟩ := Option.bind_eq_some_iff.mp h
      refine run_callVi (As := [.int x1, .int ((1 : Int32) + ((3 : Int32) * x4))]) (fun r z => (r, z) = q26) mw_X12_ofTask mi_X12_ofTask ml_X12_320 is_269 (by decide) rfl rfl rfl (RF.lt (HX12_keysOf_X12_ofTask_lt d)) (Nat.le_of_ble_eq_true rfl) dX12_keysOf_23 (sX12_ofTask G d  h48) (fun r z h8 => ?_) rfl
      rw [show r = q26.1 from congrArg Prod.fst h8, show z = q26.2 from congrArg Prod.snd h8]
      clear h8
      refine run_istore [(0, .ref (gA G 269)), (1, .int x1), (2, .int (b2 x2)), (3, .int x3), (4, .int x4), (5, .int q26.1)] [1, 2, 3, 4, 5, 0] dX12_keysOf_26 (by decide) rfl ?_
      refine run_aload_n 0 dX12_keysOf_28 rfl rfl ?_
      refine run_iload_n 1 dX12_keysOf_29 rfl rfl ?_
      refine run_iconst (v := 2) dX12_keysOf_30 rfl ?_
      refine run_iconst (v := 3) dX12_keysOf_31 rfl ?_
      refine run_iload 4 dX12_keysOf_32 rfl ?_
      refine run_imul dX12_keysOf_34 ?_
      refine run_iadd dX12_keysOf_35 ?_
      obtain ⟨q27, h47, h⟩ := Option.bind_eq_some_iff.mp h
      refine run_callVi (As := [.int x1, .int ((2 : Int32) + ((3 : Int32) * x4))]) (fun r z => (r, z) = q27) mw_X12_ofTask mi_X12_ofTask ml_X12_320 is_269 (by decide) rfl rfl rfl (RF.lt (HX12_keysOf_X12_ofTask_lt d)) (Nat.le_of_ble_eq_true rfl) dX12_keysOf_36 (sX12_ofTask G d  h47) (fun r z h8 => ?_) rfl
      rw [show r = q27.1 from congrArg Prod.fst h8, show z = q27.2 from congrArg Prod.snd h8]
      clear h8
      refine run_istore [(0, .ref (gA G 269)), (1, .int x1), (2, .int (b2 x2)), (3, .int x3), (4, .int x4), (5, .int q26.1), (6, .int q27.1)] [1, 2, 3, 4, 5, 6, 0] dX12_keysOf_39 (by decide) rfl ?_
      refine run_iload 5 dX12_keysOf_41 rfl ?_
      refine run_iconst (v := 5) dX12_keysOf_43 rfl ?_
      obtain ⟨q31, h, h9⟩ := Option.bind_eq_some_iff.mp h
      have hj46 : Run G RX12 cX12_keysOf 10 (some .int) (mF G (d + HX12_keysOf) K) 63 [(0, .ref (gA G 269)), (1, .int x1), (2, .int (b2 x2)), (3, .int x3), (4, .int x4), (5, .int q26.1), (6, .int q27.1)] [.int (q31.1)] (q31.2) := by
        clear h
        have h := h9
        clear h9
        refine run_istore [(0, .ref (gA G 269)), (1, .int x1), (2, .int (b2 x2)), (3, .int x3), (4, .int x4), (5, .int q26.1), (6, .int q27.1), (7, .int (q31.1))] [1, 2, 3, 4, 5, 6, 7, 0] dX12_keysOf_63 (by decide) rfl ?_
        refine run_iload_n 2 dX12_keysOf_65 rfl rfl ?_
        obtain ⟨q38, h, h9⟩ := Option.bind_eq_some_iff.mp h
        have hj45 : Run G RX12 cX12_keysOf 10 (some .int) (mF G (d + HX12_keysOf) K) 110 [(0, .ref (gA G 269)), (1, .int x1), (2, .int (b2 x2)), (3, .int x3), (4, .int x4), (6, .int q27.1), (7, .int (q31.1))] [.int (b2 q38)] (q31.2) := by
          clear h
          have h := h9
          clear h9
          refine run_istore [(0, .ref (gA G 269)), (1, .int x1), (2, .int (b2 x2)), (3, .int x3), (4, .int x4), (6, .int q27.1), (7, .int (q31.1)), (8, .int (b2 q38))] [1, 2, 3, 4, 5, 6, 7, 0] dX12_keysOf_110 (by decide) rfl ?_
          refine run_iload 5 dX12_keysOf_112 rfl ?_
          refine run_istore [(0, .ref (gA G 269)), (1, .int x1), (2, .int (b2 x2)), (3, .int x3), (4, .int x4), (7, .int (q31.1)), (8, .int (b2 q38)), (9, .int q27.1)] [1, 2, 3, 4, 5, 7, 8, 0] dX12_keysOf_114 (by decide) rfl ?_
          obtain ⟨q43, h44, h⟩ := Option.bind_eq_some_iff.mp h
          refine lpX12_keysOf_116 G d _ _ _ _ _ _ _ _ _ _ h44 ?_
          refine run_iinc 4 [(0, .ref (gA G 269)), (1, .int x1), (2, .int (b2 x2)), (3, .int (q43.1)), (4, .int (x4 + 1))] [1, 2, 3, 4, 0] dX12_keysOf_145 rfl rfl (by decide) rfl ?_
          refine run_goto 5 dX12_keysOf_148 (by decide) ?_
          exact ih _ _ _ _ h kx
        clear h9
        refine run_ifb_eq 88 dX12_keysOf_66 (by decide) (fun c32 => ?_) (fun c32 => ?_)
        · rw [if_neg c32] at h
          refine run_iload 5 dX12_keysOf_88 rfl ?_
          refine run_if_eq 105 dX12_keysOf_90 (by decide) (fun c33 => ?_) (fun c33 => ?_)
          · rw [if_pos c33] at h
            refine run_iconst (v := 1) dX12_keysOf_105 rfl ?_
            refine run_goto 110 dX12_keysOf_106 (by decide) ?_
            rw [← Option.some.inj h] at hj45
            refine run_forget [0, 1, 2, 3, 4, 6, 7] rfl ?_
            exact hj45
          · rw [if_neg c33] at h
            refine run_iload 5 dX12_keysOf_93 rfl ?_
            refine run_iconst (v := 4) dX12_keysOf_95 rfl ?_
            refine run_icmp_eq 105 dX12_keysOf_96 (by decide) (fun c34 => ?_) (fun c34 => ?_)
            · rw [if_pos c34] at h
              refine run_iconst (v := 1) dX12_keysOf_105 rfl ?_
              refine run_goto 110 dX12_keysOf_106 (by decide) ?_
              rw [← Option.some.inj h] at hj45
              refine run_forget [0, 1, 2, 3, 4, 6, 7] rfl ?_
              exact hj45
            · rw [if_neg c34] at h
              refine run_iload 5 dX12_keysOf_99 rfl ?_
              refine run_iconst (v := 5) dX12_keysOf_101 rfl ?_
              refine run_icmp_ne 109 dX12_keysOf_102 (by decide) (fun c35 => ?_) (fun c35 => ?_)
              · rw [if_neg c35] at h
                refine run_iconst (v := 0) dX12_keysOf_109 rfl ?_
                rw [← Option.some.inj h] at hj45
                refine run_forget [0, 1, 2, 3, 4, 6, 7] rfl ?_
                exact hj45
              · rw [if_pos c35] at h
                refine run_iconst (v := 1) dX12_keysOf_105 rfl ?_
                refine run_goto 110 dX12_keysOf_106 (by decide) ?_
                rw [← Option.some.inj h] at hj45
                refine run_forget [0, 1, 2, 3, 4, 6, 7] rfl ?_
                exact hj45
        · rw [if_pos c32] at h
          refine run_iload 5 dX12_keysOf_69 rfl ?_
          refine run_if_eq 84 dX12_keysOf_71 (by decide) (fun c36 => ?_) (fun c36 => ?_)
          · rw [if_pos c36] at h
            refine run_iconst (v := 0) dX12_keysOf_84 rfl ?_
            refine run_goto 110 dX12_keysOf_85 (by decide) ?_
            rw [← Option.some.inj h] at hj45
            refine run_forget [0, 1, 2, 3, 4, 6, 7] rfl ?_
            exact hj45
          · rw [if_neg c36] at h
            refine run_iload 5 dX12_keysOf_74 rfl ?_
            refine run_iconst (v := 5) dX12_keysOf_76 rfl ?_
            refine run_icmp_eq 84 dX12_keysOf_77 (by decide) (fun c37 => ?_) (fun c37 => ?_)
            · rw [if_pos c37] at h
              refine run_iconst (v := 0) dX12_keysOf_84 rfl ?_
              refine run_goto 110 dX12_keysOf_85 (by decide) ?_
              rw [← Option.some.inj h] at hj45
              refine run_forget [0, 1, 2, 3, 4, 6, 7] rfl ?_
              exact hj45
            · rw [if_neg c37] at h
              refine run_iconst (v := 1) dX12_keysOf_80 rfl ?_
              refine run_goto 110 dX12_keysOf_81 (by decide) ?_
              rw [← Option.some.inj h] at hj45
              refine run_forget [0, 1, 2, 3, 4, 6, 7] rfl ?_
              exact hj45
      clear h9
      refine run_icmp_ne 61 dX12_keysOf_44 (by decide) (fun c28 => ?_) (fun c28 => ?_)
      · rw [if_neg c28] at h
        refine run_iload 6 dX12_keysOf_61 rfl ?_
        rw [← Option.some.inj h] at hj46
        exact hj46
      · rw [if_pos c28] at h
        refine run_aload_n 0 dX12_keysOf_47 rfl rfl ?_
        refine run_iload_n 1 dX12_keysOf_48 rfl rfl ?_
        refine run_iconst (v := 3) dX12_keysOf_49 rfl ?_
        refine run_iconst (v := 3) dX12_keysOf_50 rfl ?_
        refine run_iload 4 dX12_keysOf_51 rfl ?_
        refine run_imul dX12_keysOf_53 ?_
        refine run_iadd dX12_keysOf_54 ?_
        obtain ⟨q29, h30, h⟩ := Option.bind_eq_some_iff.mp h
        refine run_callVi (As := [.int x1, .int ((3 : Int32) + ((3 : Int32) * x4))]) (fun r z => (r, z) = q29) mw_X12_ofTask mi_X12_ofTask ml_X12_320 is_269 (by decide) rfl rfl rfl (RF.lt (HX12_keysOf_X12_ofTask_lt d)) (Nat.le_of_ble_eq_true rfl) dX12_keysOf_55 (sX12_ofTask G d  h30) (fun r z h8 => ?_) rfl
        rw [show r = q29.1 from congrArg Prod.fst h8, show z = q29.2 from congrArg Prod.snd h8]
        clear h8
        refine run_goto 63 dX12_keysOf_58 (by decide) ?_
        rw [← Option.some.inj h] at hj46
        exact hj46
def fX12_keysOf (x1 : Int32) (x2 : Bool) (σ : Mem) : Option (Int32 × Mem) := (lX12_keysOf_5 x1 x2 FU 0 0 σ).bind fun q50 => some ((q50.1), (q50.2))
set_option maxRecDepth 20000 in
theorem sX12_keysOf (G : GT) (d : Nat) {x1 : Int32} {x2 : Bool}  {σ : Mem} {o : (Int32 × Mem)} (h : fX12_keysOf x1 x2 σ = some o) : Spec G yX12_keysOf cX12_keysOf 10 (some .int) (d + HX12_keysOf) [.ref (gA G 269), .int x1, .int (b2 x2)] σ (kI fun x z => (x, z) = o) := by
  refine spec_run (by decide) (Nat.le_of_ble_eq_true rfl) ?_
  unfold fX12_keysOf at h
  show Run G RX12 cX12_keysOf 10 (some .int) _ 0 [(0, .ref (gA G 269)), (1, .int x1), (2, .int (b2 x2))] [] σ
  refine run_iconst (v := 0) dX12_keysOf_0 rfl ?_
  refine run_istore_n [(0, .ref (gA G 269)), (1, .int x1), (2, .int (b2 x2)), (3, .int 0)] [1, 2, 3, 0] dX12_keysOf_1 rfl (by decide) rfl ?_
  refine run_iconst (v := 0) dX12_keysOf_2 rfl ?_
  refine run_istore [(0, .ref (gA G 269)), (1, .int x1), (2, .int (b2 x2)), (3, .int 0), (4, .int 0)] [1, 2, 3, 4, 0] dX12_keysOf_3 (by decide) rfl ?_
  obtain ⟨q50, h51, h⟩ := Option.bind_eq_some_iff.mp h
  refine lpX12_keysOf_5 G d _ _ _ _ _ _ _ h51 ?_
  refine run_iload_n 0 dX12_keysOf_151 rfl rfl ?_
  exact run_iret dX12_keysOf_152 ⟨_, rfl, Option.some.inj h⟩
