/-! methods, translated -/
def HX12_loses : Nat := 3
theorem HX12_loses_X12_durable_lt (d : Nat) : d + HX12_durable < d + HX12_loses := Nat.add_lt_add_left (by decide) d
theorem HX12_loses_X12_isSafe_lt (d : Nat) : d + HX12_isSafe < d + HX12_loses := Nat.add_lt_add_left (by decide) d
theorem HX12_loses_0 (d : Nat) : 0 < d + HX12_loses := Nat.lt_of_lt_of_le (by decide) (Nat.le_add_left _ d)
def lX12_loses_9 (x1 : Int32) : Nat → Int32 → Int32 → Mem → Option (Int32 × Mem)
  | 0, _, _, _ => none
  | n + 1, x2, x3, σ => if (σ 269 54) ≤ x3 then (some (x2, σ)) else (gd (inb x3 64) ((if (σ 295 (Int32.toNatClampNeg x3)) = (-1) then (some (false, σ)) else ((fX12_isSafe x3 x1 σ).bind fun q12 => if q12.1 = true then (some (false, q12.2)) else (some (true, q12.2))) : Option (Bool × Mem)).bind fun q15 => lX12_loses_9 x1 n (x2 + (b2 (q15.1))) (x3 + 1) (q15.2)))
set_option maxRecDepth 20000 in
theorem lpX12_loses_9 (G : GT) (d : Nat) (x1 : Int32)  {K : Option Value → Mem → Prop} : ∀ (n : Nat) (x2 : Int32) (x3 : Int32) (σ : Mem) (o : Int32 × Mem), lX12_loses_9 x1 n x2 x3 σ = some o → (Run G RX12 cX12_loses 4 (some .int) (mF G (d + HX12_loses) K) 50 [(2, .int (o.1))] [] (o.2)) → Run G RX12 cX12_loses 4 (some .int) (mF G (d + HX12_loses) K) 9 [(0, .ref (gA G 269)), (1, .int x1), (2, .int x2), (3, .int x3)] [] σ := by
  intro n
  induction n with
  | zero => intro x2 x3 σ o h; exact absurd h (by simp [lX12_loses_9])
  | succ n ih =>
    intro x2 x3 σ o h kx
    rw [lX12_loses_9] at h
    refine run_iload_n 3 dX12_loses_9 rfl rfl ?_
    refine run_aload_n 0 dX12_loses_10 rfl rfl ?_
    refine run_geti fl_X12_345 is_269 (by decide) rfl dX12_loses_11 ?_
    refine run_icmp_ge 50 dX12_loses_14 (by decide) (fun c9 => ?_) (fun c9 => ?_)
    · rw [if_pos c9] at h
      rw [← Option.some.inj h] at kx
      refine run_forget [2] rfl ?_
      exact kx
    · rw [if_neg c9] at h
      refine run_iload_n 2 dX12_loses_17 rfl rfl ?_
      refine run_aload_n 0 dX12_loses_18 rfl rfl ?_
      refine run_getr fl_X12_86 is_269 (by decide) rfl ce_269_45 dX12_loses_19 ?_
      refine run_iload_n 3 dX12_loses_22 rfl rfl ?_
      obtain ⟨g10, h⟩ := gd_s h
      refine run_iald' is_295 ln_295 g10 rfl dX12_loses_23 ?_
      refine run_iconst (v := -1) dX12_loses_24 rfl ?_
      obtain ⟨q15, h, h9⟩ := Option.bind_eq_some_iff.mp h
      have hj16 : Run G RX12 cX12_loses 4 (some .int) (mF G (d + HX12_loses) K) 42 [(0, .ref (gA G 269)), (1, .int x1), (3, .int x3)] [.int (b2 (q15.1)), .int x2] (q15.2) := by
        clear h
        have h := h9
        clear h9
        refine run_iadd dX12_loses_42 ?_
        refine run_istore_n [(0, .ref (gA G 269)), (1, .int x1), (2, .int (x2 + (b2 (q15.1)))), (3, .int x3)] [1, 2, 0, 3] dX12_loses_43 rfl (by decide) rfl ?_
        refine run_iinc 3 [(0, .ref (gA G 269)), (1, .int x1), (2, .int (x2 + (b2 (q15.1)))), (3, .int (x3 + 1))] [1, 2, 3, 0] dX12_loses_44 rfl rfl (by decide) rfl ?_
        refine run_goto 9 dX12_loses_47 (by decide) ?_
        exact ih _ _ _ _ h kx
      clear h9
      refine run_icmp_eq 41 dX12_loses_25 (by decide) (fun c11 => ?_) (fun c11 => ?_)
      · rw [if_pos c11] at h
        refine run_iconst (v := 0) dX12_loses_41 rfl ?_
        rw [← Option.some.inj h] at hj16
        refine run_forget [0, 1, 3] rfl ?_
        exact hj16
      · rw [if_neg c11] at h
        refine run_aload_n 0 dX12_loses_28 rfl rfl ?_
        refine run_iload_n 3 dX12_loses_29 rfl rfl ?_
        refine run_iload_n 1 dX12_loses_30 rfl rfl ?_
        obtain ⟨q12, h14, h⟩ := Option.bind_eq_some_iff.mp h
        refine run_callVb (As := [.int x3, .int x1]) (fun r z => (r, z) = q12) mw_X12_isSafe mi_X12_isSafe ml_X12_433 is_269 (by decide) rfl rfl rfl (RF.lt (HX12_loses_X12_isSafe_lt d)) (Nat.le_of_ble_eq_true rfl) dX12_loses_31 (sX12_isSafe G d  h14) (fun r z h8 => ?_) rfl
        rw [show r = q12.1 from congrArg Prod.fst h8, show z = q12.2 from congrArg Prod.snd h8]
        clear h8
        refine run_ifb_ne 41 dX12_loses_34 (by decide) (fun c13 => ?_) (fun c13 => ?_)
        · rw [if_pos c13] at h
          refine run_iconst (v := 0) dX12_loses_41 rfl ?_
          rw [← Option.some.inj h] at hj16
          refine run_forget [0, 1, 3] rfl ?_
          exact hj16
        · rw [if_neg c13] at h
          refine run_iconst (v := 1) dX12_loses_37 rfl ?_
          refine run_goto 42 dX12_loses_38 (by decide) ?_
          rw [← Option.some.inj h] at hj16
          refine run_forget [0, 1, 3] rfl ?_
          exact hj16
def fX12_loses  (σ : Mem) : Option (Int32 × Mem) := (fX12_durable σ).bind fun q1 => (lX12_loses_9 q1.1 FU 0 0 q1.2).bind fun q17 => some ((q17.1), (q17.2))
set_option maxRecDepth 20000 in
theorem sX12_loses (G : GT) (d : Nat)   {σ : Mem} {o : (Int32 × Mem)} (h : fX12_loses σ = some o) : Spec G yX12_loses cX12_loses 4 (some .int) (d + HX12_loses) [.ref (gA G 269)] σ (kI fun x z => (x, z) = o) := by
  refine spec_run (by decide) (Nat.le_of_ble_eq_true rfl) ?_
  unfold fX12_loses at h
  show Run G RX12 cX12_loses 4 (some .int) _ 0 [(0, .ref (gA G 269))] [] σ
  refine run_aload_n 0 dX12_loses_0 rfl rfl ?_
  obtain ⟨q1, h19, h⟩ := Option.bind_eq_some_iff.mp h
  refine run_callVi (As := []) (fun r z => (r, z) = q1) mw_X12_durable mi_X12_durable ml_X12_436 is_269 (by decide) rfl rfl rfl (RF.lt (HX12_loses_X12_durable_lt d)) (Nat.le_of_ble_eq_true rfl) dX12_loses_1 (sX12_durable G d  h19) (fun r z h8 => ?_) rfl
  rw [show r = q1.1 from congrArg Prod.fst h8, show z = q1.2 from congrArg Prod.snd h8]
  clear h8
  refine run_istore_n [(0, .ref (gA G 269)), (1, .int q1.1)] [1, 0] dX12_loses_4 rfl (by decide) rfl ?_
  refine run_iconst (v := 0) dX12_loses_5 rfl ?_
  refine run_istore_n [(0, .ref (gA G 269)), (1, .int q1.1), (2, .int 0)] [1, 2, 0] dX12_loses_6 rfl (by decide) rfl ?_
  refine run_iconst (v := 0) dX12_loses_7 rfl ?_
  refine run_istore_n [(0, .ref (gA G 269)), (1, .int q1.1), (2, .int 0), (3, .int 0)] [1, 2, 3, 0] dX12_loses_8 rfl (by decide) rfl ?_
  obtain ⟨q17, h18, h⟩ := Option.bind_eq_some_iff.mp h
  refine lpX12_loses_9 G d _ _ _ _ _ _ h18 ?_
  refine run_iload_n 0 dX12_loses_50 rfl rfl ?_
  exact run_iret dX12_loses_51 ⟨_, rfl, Option.some.inj h⟩
def HX12_deeds : Nat := 1
theorem HX12_deeds_0 (d : Nat) : 0 < d + HX12_deeds := Nat.lt_of_lt_of_le (by decide) (Nat.le_add_left _ d)
def fX12_deeds  (σ : Mem) : Option (Int32 × Mem) := gd (inb ((121 : Int32) * (σ 269 69)) 968) (some ((σ 277 (Int32.toNatClampNeg ((121 : Int32) * (σ 269 69)))), σ))
set_option maxRecDepth 20000 in
theorem sX12_deeds (G : GT) (d : Nat)   {σ : Mem} {o : (Int32 × Mem)} (h : fX12_deeds σ = some o) : Spec G yX12_deeds cX12_deeds 1 (some .int) (d + HX12_deeds) [.ref (gA G 269)] σ (kI fun x z => (x, z) = o) := by
  refine spec_run (by decide) (Nat.le_of_ble_eq_true rfl) ?_
  unfold fX12_deeds at h
  show Run G RX12 cX12_deeds 1 (some .int) _ 0 [(0, .ref (gA G 269))] [] σ
  refine run_aload_n 0 dX12_deeds_0 rfl rfl ?_
  refine run_getr fl_X12_32 is_269 (by decide) rfl ce_269_8 dX12_deeds_1 ?_
  refine run_bipush (v := 121) dX12_deeds_4 rfl ?_
  refine run_aload_n 0 dX12_deeds_6 rfl rfl ?_
  refine run_geti fl_X12_471 is_269 (by decide) rfl dX12_deeds_7 ?_
  refine run_imul dX12_deeds_10 ?_
  obtain ⟨g1, h⟩ := gd_s h
  refine run_iald' is_277 ln_277 g1 rfl dX12_deeds_11 ?_
  exact run_iret dX12_deeds_12 ⟨_, rfl, Option.some.inj h⟩
def HX12_deedOf : Nat := 1
theorem HX12_deedOf_0 (d : Nat) : 0 < d + HX12_deedOf := Nat.lt_of_lt_of_le (by decide) (Nat.le_add_left _ d)
def fX12_deedOf (x1 : Int32) (x2 : Int32) (σ : Mem) : Option (Int32 × Mem) := gd (inb (((((121 : Int32) * (σ 269 69)) + 1) + ((3 : Int32) * x1)) + x2) 968) (some ((σ 277 (Int32.toNatClampNeg (((((121 : Int32) * (σ 269 69)) + 1) + ((3 : Int32) * x1)) + x2))), σ))
set_option maxRecDepth 20000 in
theorem sX12_deedOf (G : GT) (d : Nat) {x1 : Int32} {x2 : Int32}  {σ : Mem} {o : (Int32 × Mem)} (h : fX12_deedOf x1 x2 σ = some o) : Spec G yX12_deedOf cX12_deedOf 3 (some .int) (d + HX12_deedOf) [.ref (gA G 269), .int x1, .int x2] σ (kI fun x z => (x, z) = o) := by
  refine spec_run (by decide) (Nat.le_of_ble_eq_true rfl) ?_
  unfold fX12_deedOf at h
  show Run G RX12 cX12_deedOf 3 (some .int) _ 0 [(0, .ref (gA G 269)), (1, .int x1), (2, .int x2)] [] σ
  refine run_aload_n 0 dX12_deedOf_0 rfl rfl ?_
  refine run_getr fl_X12_32 is_269 (by decide) rfl ce_269_8 dX12_deedOf_1 ?_
  refine run_bipush (v := 121) dX12_deedOf_4 rfl ?_
  refine run_aload_n 0 dX12_deedOf_6 rfl rfl ?_
  refine run_geti fl_X12_471 is_269 (by decide) rfl dX12_deedOf_7 ?_
  refine run_imul dX12_deedOf_10 ?_
  refine run_iconst (v := 1) dX12_deedOf_11 rfl ?_
  refine run_iadd dX12_deedOf_12 ?_
  refine run_iconst (v := 3) dX12_deedOf_13 rfl ?_
  refine run_iload_n 1 dX12_deedOf_14 rfl rfl ?_
  refine run_imul dX12_deedOf_15 ?_
  refine run_iadd dX12_deedOf_16 ?_
  refine run_iload_n 2 dX12_deedOf_17 rfl rfl ?_
  refine run_iadd dX12_deedOf_18 ?_
  obtain ⟨g1, h⟩ := gd_s h
  refine run_iald' is_277 ln_277 g1 rfl dX12_deedOf_19 ?_
  exact run_iret dX12_deedOf_20 ⟨_, rfl, Option.some.inj h⟩
def HX12_hasPlan : Nat := 3
theorem HX12_hasPlan_X12_is_lt (d : Nat) : d + HX12_is < d + HX12_hasPlan := Nat.add_lt_add_left (by decide) d
theorem HX12_hasPlan_0 (d : Nat) : 0 < d + HX12_hasPlan := Nat.lt_of_lt_of_le (by decide) (Nat.le_add_left _ d)
def fX12_hasPlan (x1 : Int32) (σ : Mem) : Option (Bool × Mem) := (fX12_is 2 x1 (st2 σ 269 69 x1)).bind fun q1 => some (q1.1, q1.2)
set_option maxRecDepth 20000 in
theorem sX12_hasPlan (G : GT) (d : Nat) {x1 : Int32}  {σ : Mem} {o : (Bool × Mem)} (h : fX12_hasPlan x1 σ = some o) : Spec G yX12_hasPlan cX12_hasPlan 2 (some .boolean) (d + HX12_hasPlan) [.ref (gA G 269), .int x1] σ (kB fun x z => (x, z) = o) := by
  refine spec_run (by decide) (Nat.le_of_ble_eq_true rfl) ?_
  unfold fX12_hasPlan at h
  show Run G RX12 cX12_hasPlan 2 (some .boolean) _ 0 [(0, .ref (gA G 269)), (1, .int x1)] [] σ
  refine run_aload_n 0 dX12_hasPlan_0 rfl rfl ?_
  refine run_iload_n 1 dX12_hasPlan_1 rfl rfl ?_
  refine run_puti fp_X12_471 is_269 (by decide) rfl dX12_hasPlan_2 ?_
  refine run_aload_n 0 dX12_hasPlan_5 rfl rfl ?_
  refine run_iconst (v := 2) dX12_hasPlan_6 rfl ?_
  refine run_iload_n 1 dX12_hasPlan_7 rfl rfl ?_
  obtain ⟨q1, h2, h⟩ := Option.bind_eq_some_iff.mp h
  refine run_callVb (As := [.int 2, .int x1]) (fun r z => (r, z) = q1) mw_X12_is mi_X12_is ml_X12_305 is_269 (by decide) rfl rfl rfl (RF.lt (HX12_hasPlan_X12_is_lt d)) (Nat.le_of_ble_eq_true rfl) dX12_hasPlan_8 (sX12_is G d  h2) (fun r z h8 => ?_) rfl
  rw [show r = q1.1 from congrArg Prod.fst h8, show z = q1.2 from congrArg Prod.snd h8]
  clear h8
  exact run_bret (b := q1.1) dX12_hasPlan_11 ⟨_, rfl, Option.some.inj h⟩
def HX12_deed : Nat := 4
theorem HX12_deed_X12_deedOf_lt (d : Nat) : d + HX12_deedOf < d + HX12_deed := Nat.add_lt_add_left (by decide) d
theorem HX12_deed_X12_deeds_lt (d : Nat) : d + HX12_deeds < d + HX12_deed := Nat.add_lt_add_left (by decide) d
theorem HX12_deed_X12_hasPlan_lt (d : Nat) : d + HX12_hasPlan < d + HX12_deed := Nat.add_lt_add_left (by decide) d
theorem HX12_deed_X12_in_lt (d : Nat) : d + HX12_in < d + HX12_deed := Nat.add_lt_add_left (by decide) d
theorem HX12_deed_0 (d : Nat) : 0 < d + HX12_deed := Nat.lt_of_lt_of_le (by decide) (Nat.le_add_left _ d)
def fX12_deed (x1 : Int32) (x2 : Int32) (x3 : Int32) (σ : Mem) : Option (Int32 × Mem) := (fX12_hasPlan x1 (st2 σ 269 0 0)).bind fun q1 => if q1.1 = true then (if x2 = (-1) then (if x3 = 0 then ((fX12_deeds q1.2).bind fun q15 => some (q15.1, q15.2)) else (some ((-2), q1.2))) else ((fX12_deeds q1.2).bind fun q4 => (fX12_in x2 0 (q4.1 - 1) q4.2).bind fun q5 => if q5.1 = true then ((fX12_in x3 0 2 q5.2).bind fun q7 => if q7.1 = true then ((fX12_deedOf x2 x3 q7.2).bind fun q9 => some (q9.1, q9.2)) else (some ((-2), q7.2))) else (some ((-2), q5.2)))) else (some ((-2), q1.2))
set_option maxRecDepth 20000 in
theorem sX12_deed (G : GT) (d : Nat) {x1 : Int32} {x2 : Int32} {x3 : Int32}  {σ : Mem} {o : (Int32 × Mem)} (h : fX12_deed x1 x2 x3 σ = some o) : Spec G yX12_deed cX12_deed 4 (some .int) (d + HX12_deed) [.ref (gA G 269), .int x1, .int x2, .int x3] σ (kI fun x z => (x, z) = o) := by
  refine spec_run (by decide) (Nat.le_of_ble_eq_true rfl) ?_
  unfold fX12_deed at h
  show Run G RX12 cX12_deed 4 (some .int) _ 0 [(0, .ref (gA G 269)), (1, .int x1), (2, .int x2), (3, .int x3)] [] σ
  refine run_aload_n 0 dX12_deed_0 rfl rfl ?_
  refine run_iconst (v := 0) dX12_deed_1 rfl ?_
  refine run_puti fp_X12_144 is_269 (by decide) rfl dX12_deed_2 ?_
  refine run_aload_n 0 dX12_deed_5 rfl rfl ?_
  refine run_iload_n 1 dX12_deed_6 rfl rfl ?_
  obtain ⟨q1, h17, h⟩ := Option.bind_eq_some_iff.mp h
  refine run_callVb (As := [.int x1]) (fun r z => (r, z) = q1) mw_X12_hasPlan mi_X12_hasPlan ml_X12_474 is_269 (by decide) rfl rfl rfl (RF.lt (HX12_deed_X12_hasPlan_lt d)) (Nat.le_of_ble_eq_true rfl) dX12_deed_7 (sX12_hasPlan G d  h17) (fun r z h8 => ?_) rfl
  rw [show r = q1.1 from congrArg Prod.fst h8, show z = q1.2 from congrArg Prod.snd h8]
  clear h8
  refine run_ifb_ne 16 dX12_deed_10 (by decide) (fun c2 => ?_) (fun c2 => ?_)
  · rw [if_pos c2] at h
    refine run_iload_n 2 dX12_deed_16 rfl rfl ?_
    refine run_iconst (v := -1) dX12_deed_17 rfl ?_
    refine run_icmp_ne 35 dX12_deed_18 (by decide) (fun c3 => ?_) (fun c3 => ?_)
    · rw [if_neg c3] at h
      refine run_iload_n 2 dX12_deed_35 rfl rfl ?_
      refine run_iconst (v := 0) dX12_deed_36 rfl ?_
      refine run_aload_n 0 dX12_deed_37 rfl rfl ?_
      obtain ⟨q4, h13, h⟩ := Option.bind_eq_some_iff.mp h
      refine run_callVi (As := []) (fun r z => (r, z) = q4) mw_X12_deeds mi_X12_deeds ml_X12_477 is_269 (by decide) rfl rfl rfl (RF.lt (HX12_deed_X12_deeds_lt d)) (Nat.le_of_ble_eq_true rfl) dX12_deed_38 (sX12_deeds G d  h13) (fun r z h8 => ?_) rfl
      rw [show r = q4.1 from congrArg Prod.fst h8, show z = q4.2 from congrArg Prod.snd h8]
      clear h8
      refine run_iconst (v := 1) dX12_deed_41 rfl ?_
      refine run_isub dX12_deed_42 ?_
      obtain ⟨q5, h12, h⟩ := Option.bind_eq_some_iff.mp h
      refine run_callSb (As := [.int x2, .int 0, .int (q4.1 - 1)]) (fun r z => (r, z) = q5) mw_X12_in ms_X12_in ml_X12_156 rfl (RF.lt (HX12_deed_X12_in_lt d)) (Nat.le_of_ble_eq_true rfl) dX12_deed_43 (sX12_in G d  h12) (fun r z h8 => ?_) rfl
      rw [show r = q5.1 from congrArg Prod.fst h8, show z = q5.2 from congrArg Prod.snd h8]
      clear h8
      refine run_ifb_eq 67 dX12_deed_46 (by decide) (fun c6 => ?_) (fun c6 => ?_)
      · rw [if_neg c6] at h
        refine run_bipush (v := -2) dX12_deed_67 rfl ?_
        exact run_iret dX12_deed_69 ⟨_, rfl, Option.some.inj h⟩
      · rw [if_pos c6] at h
        refine run_iload_n 3 dX12_deed_49 rfl rfl ?_
        refine run_iconst (v := 0) dX12_deed_50 rfl ?_
        refine run_iconst (v := 2) dX12_deed_51 rfl ?_
        obtain ⟨q7, h11, h⟩ := Option.bind_eq_some_iff.mp h
        refine run_callSb (As := [.int x3, .int 0, .int 2]) (fun r z => (r, z) = q7) mw_X12_in ms_X12_in ml_X12_156 rfl (RF.lt (HX12_deed_X12_in_lt d)) (Nat.le_of_ble_eq_true rfl) dX12_deed_52 (sX12_in G d  h11) (fun r z h8 => ?_) rfl
        rw [show r = q7.1 from congrArg Prod.fst h8, show z = q7.2 from congrArg Prod.snd h8]
        clear h8
        refine run_ifb_eq 67 dX12_deed_55 (by decide) (fun c8 => ?_) (fun c8 => ?_)
        · rw [if_neg c8] at h
          refine run_bipush (v := -2) dX12_deed_67 rfl ?_
          exact run_iret dX12_deed_69 ⟨_, rfl, Option.some.inj h⟩
        · rw [if_pos c8] at h
          refine run_aload_n 0 dX12_deed_58 rfl rfl ?_
          refine run_iload_n 2 dX12_deed_59 rfl rfl ?_
          refine run_iload_n 3 dX12_deed_60 rfl rfl ?_
          obtain ⟨q9, h10, h⟩ := Option.bind_eq_some_iff.mp h
          refine run_callVi (As := [.int x2, .int x3]) (fun r z => (r, z) = q9) mw_X12_deedOf mi_X12_deedOf ml_X12_480 is_269 (by decide) rfl rfl rfl (RF.lt (HX12_deed_X12_deedOf_lt d)) (Nat.le_of_ble_eq_true rfl) dX12_deed_61 (sX12_deedOf G d  h10) (fun r z h8 => ?_) rfl
          rw [show r = q9.1 from congrArg Prod.fst h8, show z = q9.2 from congrArg Prod.snd h8]
          clear h8
          refine run_goto 69 dX12_deed_64 (by decide) ?_
          exact run_iret dX12_deed_69 ⟨_, rfl, Option.some.inj h⟩
    · rw [if_pos c3] at h
      refine run_iload_n 3 dX12_deed_21 rfl rfl ?_
      refine run_if_ne 32 dX12_deed_22 (by decide) (fun c14 => ?_) (fun c14 => ?_)
      · rw [if_neg c14] at h
        refine run_bipush (v := -2) dX12_deed_32 rfl ?_
        exact run_iret dX12_deed_34 ⟨_, rfl, Option.some.inj h⟩
      · rw [if_pos c14] at h
        refine run_aload_n 0 dX12_deed_25 rfl rfl ?_
        obtain ⟨q15, h16, h⟩ := Option.bind_eq_some_iff.mp h
        refine run_callVi (As := []) (fun r z => (r, z) = q15) mw_X12_deeds mi_X12_deeds ml_X12_477 is_269 (by decide) rfl rfl rfl (RF.lt (HX12_deed_X12_deeds_lt d)) (Nat.le_of_ble_eq_true rfl) dX12_deed_26 (sX12_deeds G d  h16) (fun r z h8 => ?_) rfl
        rw [show r = q15.1 from congrArg Prod.fst h8, show z = q15.2 from congrArg Prod.snd h8]
        clear h8
        refine run_goto 34 dX12_deed_29 (by decide) ?_
        exact run_iret dX12_deed_34 ⟨_, rfl, Option.some.inj h⟩
  · rw [if_neg c2] at h
    refine run_bipush (v := -2) dX12_deed_13 rfl ?_
    exact run_iret dX12_deed_15 ⟨_, rfl, Option.some.inj h⟩
def HX12_layAll : Nat := 5
theorem HX12_layAll_X12_hand_lt (d : Nat) : d + HX12_hand < d + HX12_layAll := Nat.add_lt_add_left (by decide) d
theorem HX12_layAll_X12_hasPlan_lt (d : Nat) : d + HX12_hasPlan < d + HX12_layAll := Nat.add_lt_add_left (by decide) d
theorem HX12_layAll_0 (d : Nat) : 0 < d + HX12_layAll := Nat.lt_of_lt_of_le (by decide) (Nat.le_add_left _ d)
def fX12_layAll (x1 : Int32) (x2 : Int32) (x3 : Int32) (σ : Mem) : Option (Bool × Mem) := (fX12_hasPlan x3 σ).bind fun q1 => if q1.1 = true then ((fX12_hand x1 x2 q1.2).bind fun q3 => if q3.1 = true then (some (true, q3.2)) else (some (false, q3.2))) else (some (false, q1.2))
set_option maxRecDepth 20000 in
theorem sX12_layAll (G : GT) (d : Nat) {x1 : Int32} {x2 : Int32} {x3 : Int32}  {σ : Mem} {o : (Bool × Mem)} (h : fX12_layAll x1 x2 x3 σ = some o) : Spec G yX12_layAll cX12_layAll 4 (some .boolean) (d + HX12_layAll) [.ref (gA G 269), .int x1, .int x2, .int x3] σ (kB fun x z => (x, z) = o) := by
  refine spec_run (by decide) (Nat.le_of_ble_eq_true rfl) ?_
  unfold fX12_layAll at h
  show Run G RX12 cX12_layAll 4 (some .boolean) _ 0 [(0, .ref (gA G 269)), (1, .int x1), (2, .int x2), (3, .int x3)] [] σ
  refine run_aload_n 0 dX12_layAll_0 rfl rfl ?_
  refine run_iload_n 3 dX12_layAll_1 rfl rfl ?_
  obtain ⟨q1, h6, h⟩ := Option.bind_eq_some_iff.mp h
  refine run_callVb (As := [.int x3]) (fun r z => (r, z) = q1) mw_X12_hasPlan mi_X12_hasPlan ml_X12_474 is_269 (by decide) rfl rfl rfl (RF.lt (HX12_layAll_X12_hasPlan_lt d)) (Nat.le_of_ble_eq_true rfl) dX12_layAll_2 (sX12_hasPlan G d  h6) (fun r z h8 => ?_) rfl
  rw [show r = q1.1 from congrArg Prod.fst h8, show z = q1.2 from congrArg Prod.snd h8]
  clear h8
  refine run_ifb_eq 21 dX12_layAll_5 (by decide) (fun c2 => ?_) (fun c2 => ?_)
  · rw [if_neg c2] at h
    refine run_iconst (v := 0) dX12_layAll_21 rfl ?_
    exact run_bret (b := false) dX12_layAll_22 ⟨_, rfl, Option.some.inj h⟩
  · rw [if_pos c2] at h
    refine run_aload_n 0 dX12_layAll_8 rfl rfl ?_
    refine run_iload_n 1 dX12_layAll_9 rfl rfl ?_
    refine run_iload_n 2 dX12_layAll_10 rfl rfl ?_
    obtain ⟨q3, h5, h⟩ := Option.bind_eq_some_iff.mp h
    refine run_callVb (As := [.int x1, .int x2]) (fun r z => (r, z) = q3) mw_X12_hand mi_X12_hand ml_X12_487 is_269 (by decide) rfl rfl rfl (RF.lt (HX12_layAll_X12_hand_lt d)) (Nat.le_of_ble_eq_true rfl) dX12_layAll_11 (sX12_hand G d  h5) (fun r z h8 => ?_) rfl
    rw [show r = q3.1 from congrArg Prod.fst h8, show z = q3.2 from congrArg Prod.snd h8]
    clear h8
    refine run_ifb_eq 21 dX12_layAll_14 (by decide) (fun c4 => ?_) (fun c4 => ?_)
    · rw [if_neg c4] at h
      refine run_iconst (v := 0) dX12_layAll_21 rfl ?_
      exact run_bret (b := false) dX12_layAll_22 ⟨_, rfl, Option.some.inj h⟩
    · rw [if_pos c4] at h
      refine run_iconst (v := 1) dX12_layAll_17 rfl ?_
      refine run_goto 22 dX12_layAll_18 (by decide) ?_
      exact run_bret (b := true) dX12_layAll_22 ⟨_, rfl, Option.some.inj h⟩
def HX12_linesOf : Nat := 1
theorem HX12_linesOf_0 (d : Nat) : 0 < d + HX12_linesOf := Nat.lt_of_lt_of_le (by decide) (Nat.le_add_left _ d)
def lX12_linesOf_5 (x1 : Int32) (x2 : Bool) : Nat → Int32 → Int32 → Mem → Option (Int32 × Mem)
  | 0, _, _, _ => none
  | n + 1, x3, x4, σ => if (σ 269 54) ≤ x4 then (some (x3, σ)) else (gd (inb x4 64) ((if (σ 295 (Int32.toNatClampNeg x4)) = x1 then (if x2 = true then (gd (inb x4 64) (if (σ 299 (Int32.toNatClampNeg x4)) = 1 then (some true) else (some false))) else (some true)) else (some false) : Option (Bool)).bind fun q14 => lX12_linesOf_5 x1 x2 n (x3 + (b2 q14)) (x4 + 1) σ))
set_option maxRecDepth 20000 in
theorem lpX12_linesOf_5 (G : GT) (d : Nat) (x1 : Int32) (x2 : Bool)  {K : Option Value → Mem → Prop} : ∀ (n : Nat) (x3 : Int32) (x4 : Int32) (σ : Mem) (o : Int32 × Mem), lX12_linesOf_5 x1 x2 n x3 x4 σ = some o → (Run G RX12 cX12_linesOf 5 (some .int) (mF G (d + HX12_linesOf) K) 54 [(3, .int (o.1))] [] (o.2)) → Run G RX12 cX12_linesOf 5 (some .int) (mF G (d + HX12_linesOf) K) 5 [(0, .ref (gA G 269)), (1, .int x1), (2, .int (b2 x2)), (3, .int x3), (4, .int x4)] [] σ := by
  intro n
  induction n with
  | zero => intro x3 x4 σ o h; exact absurd h (by simp [lX12_linesOf_5])
  | succ n ih =>
    intro x3 x4 σ o h kx
    rw [lX12_linesOf_5] at h
    refine run_iload 4 dX12_linesOf_5 rfl ?_
    refine run_aload_n 0 dX12_linesOf_7 rfl rfl ?_
    refine run_geti fl_X12_345 is_269 (by decide) rfl dX12_linesOf_8 ?_
    refine run_icmp_ge 54 dX12_linesOf_11 (by decide) (fun c8 => ?_) (fun c8 => ?_)
    · rw [if_pos c8] at h
      rw [← Option.some.inj h] at kx
      refine run_forget [3] rfl ?_
      exact kx
    · rw [if_neg c8] at h
      refine run_iload_n 3 dX12_linesOf_14 rfl rfl ?_
      refine run_aload_n 0 dX12_linesOf_15 rfl rfl ?_
      refine run_getr fl_X12_86 is_269 (by decide) rfl ce_269_45 dX12_linesOf_16 ?_
      refine run_iload 4 dX12_linesOf_19 rfl ?_
      obtain ⟨g9, h⟩ := gd_s h
      refine run_iald' is_295 ln_295 g9 rfl dX12_linesOf_21 ?_
      refine run_iload_n 1 dX12_linesOf_22 rfl rfl ?_
      obtain ⟨q14, h, h9⟩ := Option.bind_eq_some_iff.mp h
      have hj15 : Run G RX12 cX12_linesOf 5 (some .int) (mF G (d + HX12_linesOf) K) 46 [(0, .ref (gA G 269)), (1, .int x1), (2, .int (b2 x2)), (4, .int x4)] [.int (b2 q14), .int x3] σ := by
        clear h
        have h := h9
        clear h9
        refine run_iadd dX12_linesOf_46 ?_
        refine run_istore_n [(0, .ref (gA G 269)), (1, .int x1), (2, .int (b2 x2)), (3, .int (x3 + (b2 q14))), (4, .int x4)] [1, 2, 3, 0, 4] dX12_linesOf_47 rfl (by decide) rfl ?_
        refine run_iinc 4 [(0, .ref (gA G 269)), (1, .int x1), (2, .int (b2 x2)), (3, .int (x3 + (b2 q14))), (4, .int (x4 + 1))] [1, 2, 3, 4, 0] dX12_linesOf_48 rfl rfl (by decide) rfl ?_
        refine run_goto 5 dX12_linesOf_51 (by decide) ?_
        exact ih _ _ _ _ h kx
      clear h9
      refine run_icmp_ne 45 dX12_linesOf_23 (by decide) (fun c10 => ?_) (fun c10 => ?_)
      · rw [if_neg c10] at h
        refine run_iconst (v := 0) dX12_linesOf_45 rfl ?_
        rw [← Option.some.inj h] at hj15
        refine run_forget [0, 1, 2, 4] rfl ?_
        exact hj15
      · rw [if_pos c10] at h
        refine run_iload_n 2 dX12_linesOf_26 rfl rfl ?_
        refine run_ifb_eq 41 dX12_linesOf_27 (by decide) (fun c11 => ?_) (fun c11 => ?_)
        · rw [if_neg c11] at h
          refine run_iconst (v := 1) dX12_linesOf_41 rfl ?_
          refine run_goto 46 dX12_linesOf_42 (by decide) ?_
          rw [← Option.some.inj h] at hj15
          refine run_forget [0, 1, 2, 4] rfl ?_
          exact hj15
        · rw [if_pos c11] at h
          refine run_aload_n 0 dX12_linesOf_30 rfl rfl ?_
          refine run_getr fl_X12_98 is_269 (by decide) rfl ce_269_49 dX12_linesOf_31 ?_
          refine run_iload 4 dX12_linesOf_34 rfl ?_
          obtain ⟨g12, h⟩ := gd_s h
          refine run_iald' is_299 ln_299 g12 rfl dX12_linesOf_36 ?_
          refine run_iconst (v := 1) dX12_linesOf_37 rfl ?_
          refine run_icmp_ne 45 dX12_linesOf_38 (by decide) (fun c13 => ?_) (fun c13 => ?_)
          · rw [if_neg c13] at h
            refine run_iconst (v := 0) dX12_linesOf_45 rfl ?_
            rw [← Option.some.inj h] at hj15
            refine run_forget [0, 1, 2, 4] rfl ?_
            exact hj15
          · rw [if_pos c13] at h
            refine run_iconst (v := 1) dX12_linesOf_41 rfl ?_
            refine run_goto 46 dX12_linesOf_42 (by decide) ?_
            rw [← Option.some.inj h] at hj15
            refine run_forget [0, 1, 2, 4] rfl ?_
            exact hj15
def fX12_linesOf (x1 : Int32) (x2 : Bool) (σ : Mem) : Option (Int32 × Mem) := (lX12_linesOf_5 x1 x2 FU 0 0 σ).bind fun q16 => some ((q16.1), (q16.2))
set_option maxRecDepth 20000 in
theorem sX12_linesOf (G : GT) (d : Nat) {x1 : Int32} {x2 : Bool}  {σ : Mem} {o : (Int32 × Mem)} (h : fX12_linesOf x1 x2 σ = some o) : Spec G yX12_linesOf cX12_linesOf 5 (some .int) (d + HX12_linesOf) [.ref (gA G 269), .int x1, .int (b2 x2)] σ (kI fun x z => (x, z) = o) := by
  refine spec_run (by decide) (Nat.le_of_ble_eq_true rfl) ?_
  unfold fX12_linesOf at h
  show Run G RX12 cX12_linesOf 5 (some .int) _ 0 [(0, .ref (gA G 269)), (1, .int x1), (2, .int (b2 x2))] [] σ
  refine run_iconst (v := 0) dX12_linesOf_0 rfl ?_
  refine run_istore_n [(0, .ref (gA G 269)), (1, .int x1), (2, .int (b2 x2)), (3, .int 0)] [1, 2, 3, 0] dX12_linesOf_1 rfl (by decide) rfl ?_
  refine run_iconst (v := 0) dX12_linesOf_2 rfl ?_
  refine run_istore [(0, .ref (gA G 269)), (1, .int x1), (2, .int (b2 x2)), (3, .int 0), (4, .int 0)] [1, 2, 3, 4, 0] dX12_linesOf_3 (by decide) rfl ?_
  obtain ⟨q16, h17, h⟩ := Option.bind_eq_some_iff.mp h
  refine lpX12_linesOf_5 G d _ _ _ _ _ _ _ h17 ?_
  refine run_iload_n 0 dX12_linesOf_54 rfl rfl ?_
  exact run_iret dX12_linesOf_55 ⟨_, rfl, Option.some.inj h⟩
def HX12_ofWorker : Nat := 3
theorem HX12_ofWorker_X12_isWorker_lt (d : Nat) : d + HX12_isWorker < d + HX12_ofWorker := Nat.add_lt_add_left (by decide) d
theorem HX12_ofWorker_X12_linesOf_lt (d : Nat) : d + HX12_linesOf < d + HX12_ofWorker := Nat.add_lt_add_left (by decide) d
theorem HX12_ofWorker_0 (d : Nat) : 0 < d + HX12_ofWorker := Nat.lt_of_lt_of_le (by decide) (Nat.le_add_left _ d)
def fX12_ofWorker (x1 : Int32) (x2 : Int32) (σ : Mem) : Option (Int32 × Mem) := (fX12_isWorker x1 σ).bind fun q1 => if q1.1 = true then (if x2 = 5 then (gd (inb x1 4) (some ((q1.2 286 (Int32.toNatClampNeg x1)), q1.2))) else (if x2 = 6 then (gd (inb x1 4) (some ((q1.2 287 (Int32.toNatClampNeg x1)), q1.2))) else (if x2 = 7 then (gd (inb x1 4) (some ((q1.2 288 (Int32.toNatClampNeg x1)), q1.2))) else (if x2 = 8 then (gd (inb x1 4) (some ((q1.2 290 (Int32.toNatClampNeg x1)), q1.2))) else (if x2 = 9 then ((fX12_linesOf x1 false q1.2).bind fun q12 => some (q12.1, q12.2)) else (if x2 = 10 then ((fX12_linesOf x1 true q1.2).bind fun q15 => some (q15.1, q15.2)) else (some ((-2), q1.2)))))))) else (some ((-2), q1.2))
set_option maxRecDepth 20000 in
theorem sX12_ofWorker (G : GT) (d : Nat) {x1 : Int32} {x2 : Int32}  {σ : Mem} {o : (Int32 × Mem)} (h : fX12_ofWorker x1 x2 σ = some o) : Spec G yX12_ofWorker cX12_ofWorker 3 (some .int) (d + HX12_ofWorker) [.ref (gA G 269), .int x1, .int x2] σ (kI fun x z => (x, z) = o) := by
  refine spec_run (by decide) (Nat.le_of_ble_eq_true rfl) ?_
  unfold fX12_ofWorker at h
  show Run G RX12 cX12_ofWorker 3 (some .int) _ 0 [(0, .ref (gA G 269)), (1, .int x1), (2, .int x2)] [] σ
  refine run_aload_n 0 dX12_ofWorker_0 rfl rfl ?_
  refine run_iload_n 1 dX12_ofWorker_1 rfl rfl ?_
  obtain ⟨q1, h17, h⟩ := Option.bind_eq_some_iff.mp h
  refine run_callVb (As := [.int x1]) (fun r z => (r, z) = q1) mw_X12_isWorker mi_X12_isWorker ml_X12_457 is_269 (by decide) rfl rfl rfl (RF.lt (HX12_ofWorker_X12_isWorker_lt d)) (Nat.le_of_ble_eq_true rfl) dX12_ofWorker_2 (sX12_isWorker G d  h17) (fun r z h8 => ?_) rfl
  rw [show r = q1.1 from congrArg Prod.fst h8, show z = q1.2 from congrArg Prod.snd h8]
  clear h8
  refine run_ifb_ne 11 dX12_ofWorker_5 (by decide) (fun c2 => ?_) (fun c2 => ?_)
  · rw [if_pos c2] at h
    refine run_iload_n 2 dX12_ofWorker_11 rfl rfl ?_
    by_cases c3 : x2 = 5
    · rw [if_pos c3] at h
      refine run_tblIn 52 dX12_ofWorker_12 (by rw [c3]; decide) (by rw [c3]; decide) (off := 40) (by rw [c3]; rfl) (by decide) ?_
      refine run_aload_n 0 dX12_ofWorker_52 rfl rfl ?_
      refine run_getr fl_X12_59 is_269 (by decide) rfl ce_269_36 dX12_ofWorker_53 ?_
      refine run_iload_n 1 dX12_ofWorker_56 rfl rfl ?_
      obtain ⟨g4, h⟩ := gd_s h
      refine run_iald' is_286 ln_286 g4 rfl dX12_ofWorker_57 ?_
      exact run_iret dX12_ofWorker_58 ⟨_, rfl, Option.some.inj h⟩
    · rw [if_neg c3] at h
      by_cases c5 : x2 = 6
      · rw [if_pos c5] at h
        refine run_tblIn 59 dX12_ofWorker_12 (by rw [c5]; decide) (by rw [c5]; decide) (off := 47) (by rw [c5]; rfl) (by decide) ?_
        refine run_aload_n 0 dX12_ofWorker_59 rfl rfl ?_
        refine run_getr fl_X12_62 is_269 (by decide) rfl ce_269_37 dX12_ofWorker_60 ?_
        refine run_iload_n 1 dX12_ofWorker_63 rfl rfl ?_
        obtain ⟨g6, h⟩ := gd_s h
        refine run_iald' is_287 ln_287 g6 rfl dX12_ofWorker_64 ?_
        exact run_iret dX12_ofWorker_65 ⟨_, rfl, Option.some.inj h⟩
      · rw [if_neg c5] at h
        by_cases c7 : x2 = 7
        · rw [if_pos c7] at h
          refine run_tblIn 66 dX12_ofWorker_12 (by rw [c7]; decide) (by rw [c7]; decide) (off := 54) (by rw [c7]; rfl) (by decide) ?_
          refine run_aload_n 0 dX12_ofWorker_66 rfl rfl ?_
          refine run_getr fl_X12_65 is_269 (by decide) rfl ce_269_38 dX12_ofWorker_67 ?_
          refine run_iload_n 1 dX12_ofWorker_70 rfl rfl ?_
          obtain ⟨g8, h⟩ := gd_s h
          refine run_iald' is_288 ln_288 g8 rfl dX12_ofWorker_71 ?_
          exact run_iret dX12_ofWorker_72 ⟨_, rfl, Option.some.inj h⟩
        · rw [if_neg c7] at h
          by_cases c9 : x2 = 8
          · rw [if_pos c9] at h
            refine run_tblIn 73 dX12_ofWorker_12 (by rw [c9]; decide) (by rw [c9]; decide) (off := 61) (by rw [c9]; rfl) (by decide) ?_
            refine run_aload_n 0 dX12_ofWorker_73 rfl rfl ?_
            refine run_getr fl_X12_71 is_269 (by decide) rfl ce_269_40 dX12_ofWorker_74 ?_
            refine run_iload_n 1 dX12_ofWorker_77 rfl rfl ?_
            obtain ⟨g10, h⟩ := gd_s h
            refine run_iald' is_290 ln_290 g10 rfl dX12_ofWorker_78 ?_
            exact run_iret dX12_ofWorker_79 ⟨_, rfl, Option.some.inj h⟩
          · rw [if_neg c9] at h
            by_cases c11 : x2 = 9
            · rw [if_pos c11] at h
              refine run_tblIn 80 dX12_ofWorker_12 (by rw [c11]; decide) (by rw [c11]; decide) (off := 68) (by rw [c11]; rfl) (by decide) ?_
              refine run_aload_n 0 dX12_ofWorker_80 rfl rfl ?_
              refine run_iload_n 1 dX12_ofWorker_81 rfl rfl ?_
              refine run_iconst (v := 0) dX12_ofWorker_82 rfl ?_
              obtain ⟨q12, h13, h⟩ := Option.bind_eq_some_iff.mp h
              refine run_callVi (As := [.int x1, .int 0]) (fun r z => (r, z) = q12) mw_X12_linesOf mi_X12_linesOf ml_X12_496 is_269 (by decide) rfl rfl rfl (RF.lt (HX12_ofWorker_X12_linesOf_lt d)) (Nat.le_of_ble_eq_true rfl) dX12_ofWorker_83 (sX12_linesOf G d  h13) (fun r z h8 => ?_) rfl
              rw [show r = q12.1 from congrArg Prod.fst h8, show z = q12.2 from congrArg Prod.snd h8]
              clear h8
              exact run_iret dX12_ofWorker_86 ⟨_, rfl, Option.some.inj h⟩
            · rw [if_neg c11] at h
              by_cases c14 : x2 = 10
              · rw [if_pos c14] at h
                refine run_tblIn 87 dX12_ofWorker_12 (by rw [c14]; decide) (by rw [c14]; decide) (off := 75) (by rw [c14]; rfl) (by decide) ?_
                refine run_aload_n 0 dX12_ofWorker_87 rfl rfl ?_
                refine run_iload_n 1 dX12_ofWorker_88 rfl rfl ?_
                refine run_iconst (v := 1) dX12_ofWorker_89 rfl ?_
                obtain ⟨q15, h16, h⟩ := Option.bind_eq_some_iff.mp h
                refine run_callVi (As := [.int x1, .int 1]) (fun r z => (r, z) = q15) mw_X12_linesOf mi_X12_linesOf ml_X12_496 is_269 (by decide) rfl rfl rfl (RF.lt (HX12_ofWorker_X12_linesOf_lt d)) (Nat.le_of_ble_eq_true rfl) dX12_ofWorker_90 (sX12_linesOf G d  h16) (fun r z h8 => ?_) rfl
                rw [show r = q15.1 from congrArg Prod.fst h8, show z = q15.2 from congrArg Prod.snd h8]
                clear h8
                exact run_iret dX12_ofWorker_93 ⟨_, rfl, Option.some.inj h⟩
              · rw [if_neg c14] at h
                refine run_tblOut 94 dX12_ofWorker_12 (by have tc3 := tbl_ne c3 (z := 5) rfl; have tc5 := tbl_ne c5 (z := 6) rfl; have tc7 := tbl_ne c7 (z := 7) rfl; have tc9 := tbl_ne c9 (z := 8) rfl; have tc11 := tbl_ne c11 (z := 9) rfl; have tc14 := tbl_ne c14 (z := 10) rfl; omega) (by decide) ?_
                refine run_bipush (v := -2) dX12_ofWorker_94 rfl ?_
                exact run_iret dX12_ofWorker_96 ⟨_, rfl, Option.some.inj h⟩
  · rw [if_neg c2] at h
    refine run_bipush (v := -2) dX12_ofWorker_8 rfl ?_
    exact run_iret dX12_ofWorker_10 ⟨_, rfl, Option.some.inj h⟩
def HX12_layCommits : Nat := 1
theorem HX12_layCommits_0 (d : Nat) : 0 < d + HX12_layCommits := Nat.lt_of_lt_of_le (by decide) (Nat.le_add_left _ d)
def lX12_layCommits_7  : Nat → Int32 → Mem → Option (Mem)
  | 0, _, _ => none
  | n + 1, x1, σ => if (σ 269 54) ≤ x1 then (some σ) else (gd (inb x1 64) ((if (σ 295 (Int32.toNatClampNeg x1)) = (-1) then (some σ) else (gd (inb (σ 269 71) 64) (some (st2 (st2 σ 308 (Int32.toNatClampNeg (σ 269 71)) x1) 269 71 (((st2 σ 308 (Int32.toNatClampNeg (σ 269 71)) x1) 269 71) + 1)))) : Option (Mem)).bind fun q10 => lX12_layCommits_7 n (x1 + 1) q10))
set_option maxRecDepth 20000 in
theorem lpX12_layCommits_7 (G : GT) (d : Nat)   {K : Option Value → Mem → Prop} : ∀ (n : Nat) (x1 : Int32) (σ : Mem) (o : Mem), lX12_layCommits_7 n x1 σ = some o → (Run G RX12 cX12_layCommits 2 none (mF G (d + HX12_layCommits) K) 51 [] [] o) → Run G RX12 cX12_layCommits 2 none (mF G (d + HX12_layCommits) K) 7 [(0, .ref (gA G 269)), (1, .int x1)] [] σ := by
  intro n
  induction n with
  | zero => intro x1 σ o h; exact absurd h (by simp [lX12_layCommits_7])
  | succ n ih =>
    intro x1 σ o h kx
    rw [lX12_layCommits_7] at h
    refine run_iload_n 1 dX12_layCommits_7 rfl rfl ?_
    refine run_aload_n 0 dX12_layCommits_8 rfl rfl ?_
    refine run_geti fl_X12_345 is_269 (by decide) rfl dX12_layCommits_9 ?_
    refine run_icmp_ge 51 dX12_layCommits_12 (by decide) (fun c6 => ?_) (fun c6 => ?_)
    · rw [if_pos c6] at h
      rw [← Option.some.inj h] at kx
      refine run_forget [] rfl ?_
      exact kx
    · rw [if_neg c6] at h
      refine run_aload_n 0 dX12_layCommits_15 rfl rfl ?_
      refine run_getr fl_X12_86 is_269 (by decide) rfl ce_269_45 dX12_layCommits_16 ?_
      refine run_iload_n 1 dX12_layCommits_19 rfl rfl ?_
      obtain ⟨g7, h⟩ := gd_s h
      refine run_iald' is_295 ln_295 g7 rfl dX12_layCommits_20 ?_
      refine run_iconst (v := -1) dX12_layCommits_21 rfl ?_
      obtain ⟨q10, h, h9⟩ := Option.bind_eq_some_iff.mp h
      have hj11 : Run G RX12 cX12_layCommits 2 none (mF G (d + HX12_layCommits) K) 45 [(0, .ref (gA G 269)), (1, .int x1)] [] q10 := by
        clear h
        have h := h9
        clear h9
        refine run_iinc 1 [(0, .ref (gA G 269)), (1, .int (x1 + 1))] [1, 0] dX12_layCommits_45 rfl rfl (by decide) rfl ?_
        refine run_goto 7 dX12_layCommits_48 (by decide) ?_
        exact ih _ _ _ h kx
      clear h9
      refine run_icmp_eq 45 dX12_layCommits_22 (by decide) (fun c8 => ?_) (fun c8 => ?_)
      · rw [if_pos c8] at h
        rw [← Option.some.inj h] at hj11
        exact hj11
      · rw [if_neg c8] at h
        refine run_aload_n 0 dX12_layCommits_25 rfl rfl ?_
        refine run_getr fl_X12_125 is_269 (by decide) rfl ce_269_70 dX12_layCommits_26 ?_
        refine run_aload_n 0 dX12_layCommits_29 rfl rfl ?_
        refine run_geti fl_X12_509 is_269 (by decide) rfl dX12_layCommits_30 ?_
        refine run_iload_n 1 dX12_layCommits_33 rfl rfl ?_
        obtain ⟨g9, h⟩ := gd_s h
        refine run_iast' is_308 ln_308 g9 rfl dX12_layCommits_34 ?_
        refine run_aload_n 0 dX12_layCommits_35 rfl rfl ?_
        refine run_dup dX12_layCommits_36 rfl ?_
        refine run_geti fl_X12_509 is_269 (by decide) rfl dX12_layCommits_37 ?_
        refine run_iconst (v := 1) dX12_layCommits_40 rfl ?_
        refine run_iadd dX12_layCommits_41 ?_
        refine run_puti fp_X12_509 is_269 (by decide) rfl dX12_layCommits_42 ?_
        rw [← Option.some.inj h] at hj11
        exact hj11
def fX12_layCommits  (σ : Mem) : Option Mem := (lX12_layCommits_7 FU 0 (st2 σ 269 71 0)).bind fun q12 => some q12
set_option maxRecDepth 20000 in
theorem sX12_layCommits (G : GT) (d : Nat)   {σ : Mem} {o : Mem} (h : fX12_layCommits σ = some o) : Spec G yX12_layCommits cX12_layCommits 2 none (d + HX12_layCommits) [.ref (gA G 269)] σ (kV fun z => z = o) := by
  refine spec_run (by decide) (Nat.le_of_ble_eq_true rfl) ?_
  unfold fX12_layCommits at h
  show Run G RX12 cX12_layCommits 2 none _ 0 [(0, .ref (gA G 269))] [] σ
  refine run_aload_n 0 dX12_layCommits_0 rfl rfl ?_
  refine run_iconst (v := 0) dX12_layCommits_1 rfl ?_
  refine run_puti fp_X12_509 is_269 (by decide) rfl dX12_layCommits_2 ?_
  refine run_iconst (v := 0) dX12_layCommits_5 rfl ?_
  refine run_istore_n [(0, .ref (gA G 269)), (1, .int 0)] [1, 0] dX12_layCommits_6 rfl (by decide) rfl ?_
  obtain ⟨q12, h13, h⟩ := Option.bind_eq_some_iff.mp h
  refine lpX12_layCommits_7 G d _ _ _ _ h13 ?_
  exact run_vret dX12_layCommits_51 ⟨rfl, Option.some.inj h⟩
def HX12_writtenIn : Nat := 1
theorem HX12_writtenIn_0 (d : Nat) : 0 < d + HX12_writtenIn := Nat.lt_of_lt_of_le (by decide) (Nat.le_add_left _ d)
def lX12_writtenIn_4 (x1 : Int32) : Nat → Int32 → Int32 → Mem → Option (Int32 × Mem)
  | 0, _, _, _ => none
  | n + 1, x2, x3, σ => if 10 ≤ x3 then (some (x2, σ)) else (gd (inb (((10 : Int32) * x1) + x3) 640) ((if (σ 303 (Int32.toNatClampNeg (((10 : Int32) * x1) + x3))) = (-2) then (some 0) else (some ((1 : Int32) <<< (x3 &&& 31))) : Option (Int32)).bind fun q8 => lX12_writtenIn_4 x1 n (x2 ||| q8) (x3 + 1) σ))
set_option maxRecDepth 20000 in
theorem lpX12_writtenIn_4 (G : GT) (d : Nat) (x1 : Int32)  {K : Option Value → Mem → Prop} : ∀ (n : Nat) (x2 : Int32) (x3 : Int32) (σ : Mem) (o : Int32 × Mem), lX12_writtenIn_4 x1 n x2 x3 σ = some o → (Run G RX12 cX12_writtenIn 4 (some .int) (mF G (d + HX12_writtenIn) K) 42 [(2, .int (o.1))] [] (o.2)) → Run G RX12 cX12_writtenIn 4 (some .int) (mF G (d + HX12_writtenIn) K) 4 [(0, .ref (gA G 269)), (1, .int x1), (2, .int x2), (3, .int x3)] [] σ := by
  intro n
  induction n with
  | zero => intro x2 x3 σ o h; exact absurd h (by simp [lX12_writtenIn_4])
  | succ n ih =>
    intro x2 x3 σ o h kx
    rw [lX12_writtenIn_4] at h
    refine run_iload_n 3 dX12_writtenIn_4 rfl rfl ?_
    refine run_bipush (v := 10) dX12_writtenIn_5 rfl ?_
    refine run_icmp_ge 42 dX12_writtenIn_7 (by decide) (fun c5 => ?_) (fun c5 => ?_)
    · rw [if_pos c5] at h
      rw [← Option.some.inj h] at kx
      refine run_forget [2] rfl ?_
      exact kx
    · rw [if_neg c5] at h
      refine run_iload_n 2 dX12_writtenIn_10 rfl rfl ?_
      refine run_aload_n 0 dX12_writtenIn_11 rfl rfl ?_
      refine run_getr fl_X12_110 is_269 (by decide) rfl ce_269_53 dX12_writtenIn_12 ?_
      refine run_bipush (v := 10) dX12_writtenIn_15 rfl ?_
      refine run_iload_n 1 dX12_writtenIn_17 rfl rfl ?_
      refine run_imul dX12_writtenIn_18 ?_
      refine run_iload_n 3 dX12_writtenIn_19 rfl rfl ?_
      refine run_iadd dX12_writtenIn_20 ?_
      obtain ⟨g6, h⟩ := gd_s h
      refine run_iald' is_303 ln_303 g6 rfl dX12_writtenIn_21 ?_
      refine run_bipush (v := -2) dX12_writtenIn_22 rfl ?_
      obtain ⟨q8, h, h9⟩ := Option.bind_eq_some_iff.mp h
      have hj9 : Run G RX12 cX12_writtenIn 4 (some .int) (mF G (d + HX12_writtenIn) K) 34 [(0, .ref (gA G 269)), (1, .int x1), (3, .int x3)] [.int q8, .int x2] σ := by
        clear h
        have h := h9
        clear h9
        refine run_ior dX12_writtenIn_34 ?_
        refine run_istore_n [(0, .ref (gA G 269)), (1, .int x1), (2, .int (x2 ||| q8)), (3, .int x3)] [1, 2, 0, 3] dX12_writtenIn_35 rfl (by decide) rfl ?_
        refine run_iinc 3 [(0, .ref (gA G 269)), (1, .int x1), (2, .int (x2 ||| q8)), (3, .int (x3 + 1))] [1, 2, 3, 0] dX12_writtenIn_36 rfl rfl (by decide) rfl ?_
        refine run_goto 4 dX12_writtenIn_39 (by decide) ?_
        exact ih _ _ _ _ h kx
      clear h9
      refine run_icmp_ne 31 dX12_writtenIn_24 (by decide) (fun c7 => ?_) (fun c7 => ?_)
      · rw [if_neg c7] at h
        refine run_iconst (v := 1) dX12_writtenIn_31 rfl ?_
        refine run_iload_n 3 dX12_writtenIn_32 rfl rfl ?_
        refine run_ishl dX12_writtenIn_33 ?_
        rw [← Option.some.inj h] at hj9
        refine run_forget [0, 1, 3] rfl ?_
        exact hj9
      · rw [if_pos c7] at h
        refine run_iconst (v := 0) dX12_writtenIn_27 rfl ?_
        refine run_goto 34 dX12_writtenIn_28 (by decide) ?_
        rw [← Option.some.inj h] at hj9
        refine run_forget [0, 1, 3] rfl ?_
        exact hj9
def fX12_writtenIn (x1 : Int32) (σ : Mem) : Option (Int32 × Mem) := (lX12_writtenIn_4 x1 FU 0 0 σ).bind fun q10 => some ((q10.1), (q10.2))
set_option maxRecDepth 20000 in
theorem sX12_writtenIn (G : GT) (d : Nat) {x1 : Int32}  {σ : Mem} {o : (Int32 × Mem)} (h : fX12_writtenIn x1 σ = some o) : Spec G yX12_writtenIn cX12_writtenIn 4 (some .int) (d + HX12_writtenIn) [.ref (gA G 269), .int x1] σ (kI fun x z => (x, z) = o) := by
  refine spec_run (by decide) (Nat.le_of_ble_eq_true rfl) ?_
  unfold fX12_writtenIn at h
  show Run G RX12 cX12_writtenIn 4 (some .int) _ 0 [(0, .ref (gA G 269)), (1, .int x1)] [] σ
  refine run_iconst (v := 0) dX12_writtenIn_0 rfl ?_
  refine run_istore_n [(0, .ref (gA G 269)), (1, .int x1), (2, .int 0)] [1, 2, 0] dX12_writtenIn_1 rfl (by decide) rfl ?_
  refine run_iconst (v := 0) dX12_writtenIn_2 rfl ?_
  refine run_istore_n [(0, .ref (gA G 269)), (1, .int x1), (2, .int 0), (3, .int 0)] [1, 2, 3, 0] dX12_writtenIn_3 rfl (by decide) rfl ?_
  obtain ⟨q10, h11, h⟩ := Option.bind_eq_some_iff.mp h
  refine lpX12_writtenIn_4 G d _ _ _ _ _ _ h11 ?_
  refine run_iload_n 0 dX12_writtenIn_42 rfl rfl ?_
  exact run_iret dX12_writtenIn_43 ⟨_, rfl, Option.some.inj h⟩
def HX12_hangs : Nat := 2
theorem HX12_hangs_X12_writtenIn_lt (d : Nat) : d + HX12_writtenIn < d + HX12_hangs := Nat.add_lt_add_left (by decide) d
theorem HX12_hangs_0 (d : Nat) : 0 < d + HX12_hangs := Nat.lt_of_lt_of_le (by decide) (Nat.le_add_left _ d)
def lX12_hangs_26 (x1 : Int32) (x2 : Int32) (x3 : Int32) : Nat → Int32 → Int32 → Mem → Option (Int32 × Mem)
  | 0, _, _, _ => none
  | n + 1, x4, x5, σ => if x1 ≤ x5 then (some (x4, σ)) else (gd (inb x5 64) ((fX12_writtenIn (σ 308 (Int32.toNatClampNeg x5)) σ).bind fun q15 => (if (q15.1 &&& x3) = 0 then (gd (inb (σ 308 (Int32.toNatClampNeg x5)) 64) (gd (inb x2 64) (if ((q15.2 302 (Int32.toNatClampNeg (σ 308 (Int32.toNatClampNeg x5)))) &&& (q15.2 301 (Int32.toNatClampNeg x2))) = 0 then (some 0) else (some ((1 : Int32) <<< (x5 &&& 31)))))) else (some ((1 : Int32) <<< (x5 &&& 31))) : Option (Int32)).bind fun q20 => lX12_hangs_26 x1 x2 x3 n (x4 ||| q20) (x5 + 1) q15.2))
set_option maxRecDepth 20000 in
theorem lpX12_hangs_26 (G : GT) (d : Nat) (x1 : Int32) (x2 : Int32) (x3 : Int32)  {K : Option Value → Mem → Prop} : ∀ (n : Nat) (x4 : Int32) (x5 : Int32) (σ : Mem) (o : Int32 × Mem), lX12_hangs_26 x1 x2 x3 n x4 x5 σ = some o → (Run G RX12 cX12_hangs 7 (some .int) (mF G (d + HX12_hangs) K) 88 [(4, .int (o.1))] [] (o.2)) → Run G RX12 cX12_hangs 7 (some .int) (mF G (d + HX12_hangs) K) 26 [(0, .ref (gA G 269)), (1, .int x1), (2, .int x2), (3, .int x3), (4, .int x4), (5, .int x5)] [] σ := by
  intro n
  induction n with
  | zero => intro x4 x5 σ o h; exact absurd h (by simp [lX12_hangs_26])
  | succ n ih =>
    intro x4 x5 σ o h kx
    rw [lX12_hangs_26] at h
    refine run_iload 5 dX12_hangs_26 rfl ?_
    refine run_iload_n 1 dX12_hangs_28 rfl rfl ?_
    refine run_icmp_ge 88 dX12_hangs_29 (by decide) (fun c13 => ?_) (fun c13 => ?_)
    · rw [if_pos c13] at h
      rw [← Option.some.inj h] at kx
      refine run_forget [4] rfl ?_
      exact kx
    · rw [if_neg c13] at h
      refine run_aload_n 0 dX12_hangs_32 rfl rfl ?_
      refine run_getr fl_X12_125 is_269 (by decide) rfl ce_269_70 dX12_hangs_33 ?_
      refine run_iload 5 dX12_hangs_36 rfl ?_
      obtain ⟨g14, h⟩ := gd_s h
      refine run_iald' is_308 ln_308 g14 rfl dX12_hangs_38 ?_
      refine run_istore [(0, .ref (gA G 269)), (1, .int x1), (2, .int x2), (3, .int x3), (4, .int x4), (5, .int x5), (6, .int (σ 308 (Int32.toNatClampNeg x5)))] [1, 2, 3, 4, 5, 6, 0] dX12_hangs_39 (by decide) rfl ?_
      refine run_iload 4 dX12_hangs_41 rfl ?_
      refine run_aload_n 0 dX12_hangs_43 rfl rfl ?_
      refine run_iload 6 dX12_hangs_44 rfl ?_
      obtain ⟨q15, h22, h⟩ := Option.bind_eq_some_iff.mp h
      refine run_callVi (As := [.int (σ 308 (Int32.toNatClampNeg x5))]) (fun r z => (r, z) = q15) mw_X12_writtenIn mi_X12_writtenIn ml_X12_512 is_269 (by decide) rfl rfl rfl (RF.lt (HX12_hangs_X12_writtenIn_lt d)) (Nat.le_of_ble_eq_true rfl) dX12_hangs_46 (sX12_writtenIn G d  h22) (fun r z h8 => ?_) rfl
      rw [show r = q15.1 from congrArg Prod.fst h8, show z = q15.2 from congrArg Prod.snd h8]
      clear h8
      refine run_iload_n 3 dX12_hangs_49 rfl rfl ?_
      refine run_iand dX12_hangs_50 ?_
      obtain ⟨q20, h, h9⟩ := Option.bind_eq_some_iff.mp h
      have hj21 : Run G RX12 cX12_hangs 7 (some .int) (mF G (d + HX12_hangs) K) 79 [(0, .ref (gA G 269)), (1, .int x1), (2, .int x2), (3, .int x3), (5, .int x5)] [.int q20, .int x4] q15.2 := by
        clear h
        have h := h9
        clear h9
        refine run_ior dX12_hangs_79 ?_
        refine run_istore [(0, .ref (gA G 269)), (1, .int x1), (2, .int x2), (3, .int x3), (4, .int (x4 ||| q20)), (5, .int x5)] [1, 2, 3, 4, 0, 5] dX12_hangs_80 (by decide) rfl ?_
        refine run_iinc 5 [(0, .ref (gA G 269)), (1, .int x1), (2, .int x2), (3, .int x3), (4, .int (x4 ||| q20)), (5, .int (x5 + 1))] [1, 2, 3, 4, 5, 0] dX12_hangs_82 rfl rfl (by decide) rfl ?_
        refine run_goto 26 dX12_hangs_85 (by decide) ?_
        exact ih _ _ _ _ h kx
      clear h9
      refine run_if_ne 71 dX12_hangs_51 (by decide) (fun c16 => ?_) (fun c16 => ?_)
      · rw [if_neg c16] at h
        refine run_iconst (v := 1) dX12_hangs_71 rfl ?_
        refine run_iload 5 dX12_hangs_72 rfl ?_
        refine run_ishl dX12_hangs_74 ?_
        refine run_goto 79 dX12_hangs_75 (by decide) ?_
        rw [← Option.some.inj h] at hj21
        refine run_forget [0, 1, 2, 3, 5] rfl ?_
        exact hj21
      · rw [if_pos c16] at h
        refine run_aload_n 0 dX12_hangs_54 rfl rfl ?_
        refine run_getr fl_X12_107 is_269 (by decide) rfl ce_269_52 dX12_hangs_55 ?_
        refine run_iload 6 dX12_hangs_58 rfl ?_
        obtain ⟨g17, h⟩ := gd_s h
        refine run_iald' is_302 ln_302 g17 rfl dX12_hangs_60 ?_
        refine run_aload_n 0 dX12_hangs_61 rfl rfl ?_
        refine run_getr fl_X12_104 is_269 (by decide) rfl ce_269_51 dX12_hangs_62 ?_
        refine run_iload_n 2 dX12_hangs_65 rfl rfl ?_
        obtain ⟨g18, h⟩ := gd_s h
        refine run_iald' is_301 ln_301 g18 rfl dX12_hangs_66 ?_
        refine run_iand dX12_hangs_67 ?_
        refine run_if_eq 78 dX12_hangs_68 (by decide) (fun c19 => ?_) (fun c19 => ?_)
        · rw [if_pos c19] at h
          refine run_iconst (v := 0) dX12_hangs_78 rfl ?_
          rw [← Option.some.inj h] at hj21
          refine run_forget [0, 1, 2, 3, 5] rfl ?_
          exact hj21
        · rw [if_neg c19] at h
          refine run_iconst (v := 1) dX12_hangs_71 rfl ?_
          refine run_iload 5 dX12_hangs_72 rfl ?_
          refine run_ishl dX12_hangs_74 ?_
          refine run_goto 79 dX12_hangs_75 (by decide) ?_
          rw [← Option.some.inj h] at hj21
          refine run_forget [0, 1, 2, 3, 5] rfl ?_
          exact hj21
def fX12_hangs (x1 : Int32) (σ : Mem) : Option (Int32 × Mem) := gd (inb x1 64) (gd (inb (σ 308 (Int32.toNatClampNeg x1)) 64) ((fX12_writtenIn (σ 308 (Int32.toNatClampNeg x1)) σ).bind fun q3 => (some (((σ 300 (Int32.toNatClampNeg (σ 308 (Int32.toNatClampNeg x1)))) ||| q3.1))).bind fun y4 => (lX12_hangs_26 x1 (σ 308 (Int32.toNatClampNeg x1)) y4 FU 0 0 q3.2).bind fun q23 => some ((q23.1), (q23.2))))
set_option maxRecDepth 20000 in
theorem sX12_hangs (G : GT) (d : Nat) {x1 : Int32}  {σ : Mem} {o : (Int32 × Mem)} (h : fX12_hangs x1 σ = some o) : Spec G yX12_hangs cX12_hangs 7 (some .int) (d + HX12_hangs) [.ref (gA G 269), .int x1] σ (kI fun x z => (x, z) = o) := by
  refine spec_run (by decide) (Nat.le_of_ble_eq_true rfl) ?_
  unfold fX12_hangs at h
  show Run G RX12 cX12_hangs 7 (some .int) _ 0 [(0, .ref (gA G 269)), (1, .int x1)] [] σ
  refine run_aload_n 0 dX12_hangs_0 rfl rfl ?_
  refine run_getr fl_X12_125 is_269 (by decide) rfl ce_269_70 dX12_hangs_1 ?_
  refine run_iload_n 1 dX12_hangs_4 rfl rfl ?_
  obtain ⟨g1, h⟩ := gd_s h
  refine run_iald' is_308 ln_308 g1 rfl dX12_hangs_5 ?_
  refine run_istore_n [(0, .ref (gA G 269)), (1, .int x1), (2, .int (σ 308 (Int32.toNatClampNeg x1)))] [1, 2, 0] dX12_hangs_6 rfl (by decide) rfl ?_
  refine run_aload_n 0 dX12_hangs_7 rfl rfl ?_
  refine run_getr fl_X12_101 is_269 (by decide) rfl ce_269_50 dX12_hangs_8 ?_
  refine run_iload_n 2 dX12_hangs_11 rfl rfl ?_
  obtain ⟨g2, h⟩ := gd_s h
  refine run_iald' is_300 ln_300 g2 rfl dX12_hangs_12 ?_
  refine run_aload_n 0 dX12_hangs_13 rfl rfl ?_
  refine run_iload_n 2 dX12_hangs_14 rfl rfl ?_
  obtain ⟨q3, h25, h⟩ := Option.bind_eq_some_iff.mp h
  refine run_callVi (As := [.int (σ 308 (Int32.toNatClampNeg x1))]) (fun r z => (r, z) = q3) mw_X12_writtenIn mi_X12_writtenIn ml_X12_512 is_269 (by decide) rfl rfl rfl (RF.lt (HX12_hangs_X12_writtenIn_lt d)) (Nat.le_of_ble_eq_true rfl) dX12_hangs_15 (sX12_writtenIn G d  h25) (fun r z h8 => ?_) rfl
  rw [show r = q3.1 from congrArg Prod.fst h8, show z = q3.2 from congrArg Prod.snd h8]
  clear h8
  refine run_ior dX12_hangs_18 ?_
  rw [Option.bind_some] at h
  refine run_topi (fun y4 ey4 => ?_)
  rw [← ey4] at h
  refine run_istore_n [(0, .ref (gA G 269)), (1, .int x1), (2, .int (σ 308 (Int32.toNatClampNeg x1))), (3, .int y4)] [1, 2, 3, 0] dX12_hangs_19 rfl (by decide) rfl ?_
  refine run_iconst (v := 0) dX12_hangs_20 rfl ?_
  refine run_istore [(0, .ref (gA G 269)), (1, .int x1), (2, .int (σ 308 (Int32.toNatClampNeg x1))), (3, .int y4), (4, .int 0)] [1, 2, 3, 4, 0] dX12_hangs_21 (by decide) rfl ?_
  refine run_iconst (v := 0) dX12_hangs_23 rfl ?_
  refine run_istore [(0, .ref (gA G 269)), (1, .int x1), (2, .int (σ 308 (Int32.toNatClampNeg x1))), (3, .int y4), (4, .int 0), (5, .int 0)] [1, 2, 3, 4, 5, 0] dX12_hangs_24 (by decide) rfl ?_
  obtain ⟨q23, h24, h⟩ := Option.bind_eq_some_iff.mp h
  refine lpX12_hangs_26 G d _ _ _ _ _ _ _ _ h24 ?_
  refine run_iload 0 dX12_hangs_88 rfl ?_
  exact run_iret dX12_hangs_90 ⟨_, rfl, Option.some.inj h⟩
