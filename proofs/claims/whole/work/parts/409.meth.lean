/-! methods, translated -/
def HX12_store : Nat := 3
theorem HX12_store_X12_has_lt (d : Nat) : d + HX12_has < d + HX12_store := Nat.add_lt_add_left (by decide) d
theorem HX12_store_X12_in_lt (d : Nat) : d + HX12_in < d + HX12_store := Nat.add_lt_add_left (by decide) d
theorem HX12_store_X12_is_lt (d : Nat) : d + HX12_is < d + HX12_store := Nat.add_lt_add_left (by decide) d
theorem HX12_store_X12_ofStore_lt (d : Nat) : d + HX12_ofStore < d + HX12_store := Nat.add_lt_add_left (by decide) d
theorem HX12_store_0 (d : Nat) : 0 < d + HX12_store := Nat.lt_of_lt_of_le (by decide) (Nat.le_add_left _ d)
def fX12_store (x1 : Int32) (x2 : Int32) (σ : Mem) : Option (Int32 × Mem) := (fX12_is 0 x1 (st2 (st2 σ 269 0 0) 269 23 x1)).bind fun q1 => if q1.1 = true then ((fX12_in x2 10 19 q1.2).bind fun q3 => if q3.1 = true then ((fX12_ofStore 2 q3.2).bind fun q10 => (fX12_has q10.1 (x2 - 10) q10.2).bind fun q11 => if q11.1 = true then ((fX12_ofStore (((3 : Int32) + x2) - 10) q11.2).bind fun q13 => some (q13.1, q13.2)) else (some ((-1), q11.2))) else ((fX12_in x2 0 2 q3.2).bind fun q5 => if q5.1 = true then ((fX12_ofStore x2 q5.2).bind fun q7 => some (q7.1, q7.2)) else (some ((-2), q5.2)))) else (some ((-2), q1.2))
set_option maxRecDepth 20000 in
theorem sX12_store (G : GT) (d : Nat) {x1 : Int32} {x2 : Int32}  {σ : Mem} {o : (Int32 × Mem)} (h : fX12_store x1 x2 σ = some o) : Spec G yX12_store cX12_store 3 (some .int) (d + HX12_store) [.ref (gA G 269), .int x1, .int x2] σ (kI fun x z => (x, z) = o) := by
  refine spec_run (by decide) (Nat.le_of_ble_eq_true rfl) ?_
  unfold fX12_store at h
  show Run G RX12 cX12_store 3 (some .int) _ 0 [(0, .ref (gA G 269)), (1, .int x1), (2, .int x2)] [] σ
  refine run_aload_n 0 dX12_store_0 rfl rfl ?_
  refine run_iconst (v := 0) dX12_store_1 rfl ?_
  refine run_puti fp_X12_144 is_269 (by decide) rfl dX12_store_2 ?_
  refine run_aload_n 0 dX12_store_5 rfl rfl ?_
  refine run_iload_n 1 dX12_store_6 rfl rfl ?_
  refine run_puti fp_X12_314 is_269 (by decide) rfl dX12_store_7 ?_
  refine run_aload_n 0 dX12_store_10 rfl rfl ?_
  refine run_iconst (v := 0) dX12_store_11 rfl ?_
  refine run_iload_n 1 dX12_store_12 rfl rfl ?_
  obtain ⟨q1, h18, h⟩ := Option.bind_eq_some_iff.mp h
  refine run_callVb (As := [.int 0, .int x1]) (fun r z => (r, z) = q1) mw_X12_is mi_X12_is ml_X12_305 is_269 (by decide) rfl rfl rfl (RF.lt (HX12_store_X12_is_lt d)) (Nat.le_of_ble_eq_true rfl) dX12_store_13 (sX12_is G d  h18) (fun r z h8 => ?_) rfl
  rw [show r = q1.1 from congrArg Prod.fst h8, show z = q1.2 from congrArg Prod.snd h8]
  clear h8
  refine run_ifb_ne 22 dX12_store_16 (by decide) (fun c2 => ?_) (fun c2 => ?_)
  · rw [if_pos c2] at h
    refine run_iload_n 2 dX12_store_22 rfl rfl ?_
    refine run_bipush (v := 10) dX12_store_23 rfl ?_
    refine run_bipush (v := 19) dX12_store_25 rfl ?_
    obtain ⟨q3, h17, h⟩ := Option.bind_eq_some_iff.mp h
    refine run_callSb (As := [.int x2, .int 10, .int 19]) (fun r z => (r, z) = q3) mw_X12_in ms_X12_in ml_X12_156 rfl (RF.lt (HX12_store_X12_in_lt d)) (Nat.le_of_ble_eq_true rfl) dX12_store_27 (sX12_in G d  h17) (fun r z h8 => ?_) rfl
    rw [show r = q3.1 from congrArg Prod.fst h8, show z = q3.2 from congrArg Prod.snd h8]
    clear h8
    refine run_ifb_eq 63 dX12_store_30 (by decide) (fun c4 => ?_) (fun c4 => ?_)
    · rw [if_neg c4] at h
      refine run_iload_n 2 dX12_store_63 rfl rfl ?_
      refine run_iconst (v := 0) dX12_store_64 rfl ?_
      refine run_iconst (v := 2) dX12_store_65 rfl ?_
      obtain ⟨q5, h9, h⟩ := Option.bind_eq_some_iff.mp h
      refine run_callSb (As := [.int x2, .int 0, .int 2]) (fun r z => (r, z) = q5) mw_X12_in ms_X12_in ml_X12_156 rfl (RF.lt (HX12_store_X12_in_lt d)) (Nat.le_of_ble_eq_true rfl) dX12_store_66 (sX12_in G d  h9) (fun r z h8 => ?_) rfl
      rw [show r = q5.1 from congrArg Prod.fst h8, show z = q5.2 from congrArg Prod.snd h8]
      clear h8
      refine run_ifb_eq 80 dX12_store_69 (by decide) (fun c6 => ?_) (fun c6 => ?_)
      · rw [if_neg c6] at h
        refine run_bipush (v := -2) dX12_store_80 rfl ?_
        exact run_iret dX12_store_82 ⟨_, rfl, Option.some.inj h⟩
      · rw [if_pos c6] at h
        refine run_aload_n 0 dX12_store_72 rfl rfl ?_
        refine run_iload_n 2 dX12_store_73 rfl rfl ?_
        obtain ⟨q7, h8, h⟩ := Option.bind_eq_some_iff.mp h
        refine run_callVi (As := [.int x2]) (fun r z => (r, z) = q7) mw_X12_ofStore mi_X12_ofStore ml_X12_332 is_269 (by decide) rfl rfl rfl (RF.lt (HX12_store_X12_ofStore_lt d)) (Nat.le_of_ble_eq_true rfl) dX12_store_74 (sX12_ofStore G d  h8) (fun r z h8 => ?_) rfl
        rw [show r = q7.1 from congrArg Prod.fst h8, show z = q7.2 from congrArg Prod.snd h8]
        clear h8
        refine run_goto 82 dX12_store_77 (by decide) ?_
        exact run_iret dX12_store_82 ⟨_, rfl, Option.some.inj h⟩
    · rw [if_pos c4] at h
      refine run_aload_n 0 dX12_store_33 rfl rfl ?_
      refine run_iconst (v := 2) dX12_store_34 rfl ?_
      obtain ⟨q10, h16, h⟩ := Option.bind_eq_some_iff.mp h
      refine run_callVi (As := [.int 2]) (fun r z => (r, z) = q10) mw_X12_ofStore mi_X12_ofStore ml_X12_332 is_269 (by decide) rfl rfl rfl (RF.lt (HX12_store_X12_ofStore_lt d)) (Nat.le_of_ble_eq_true rfl) dX12_store_35 (sX12_ofStore G d  h16) (fun r z h8 => ?_) rfl
      rw [show r = q10.1 from congrArg Prod.fst h8, show z = q10.2 from congrArg Prod.snd h8]
      clear h8
      refine run_iload_n 2 dX12_store_38 rfl rfl ?_
      refine run_bipush (v := 10) dX12_store_39 rfl ?_
      refine run_isub dX12_store_41 ?_
      obtain ⟨q11, h15, h⟩ := Option.bind_eq_some_iff.mp h
      refine run_callSb (As := [.int q10.1, .int (x2 - 10)]) (fun r z => (r, z) = q11) mw_X12_has ms_X12_has ml_X12_148 rfl (RF.lt (HX12_store_X12_has_lt d)) (Nat.le_of_ble_eq_true rfl) dX12_store_42 (sX12_has G d  h15) (fun r z h8 => ?_) rfl
      rw [show r = q11.1 from congrArg Prod.fst h8, show z = q11.2 from congrArg Prod.snd h8]
      clear h8
      refine run_ifb_eq 61 dX12_store_45 (by decide) (fun c12 => ?_) (fun c12 => ?_)
      · rw [if_neg c12] at h
        refine run_iconst (v := -1) dX12_store_61 rfl ?_
        exact run_iret dX12_store_62 ⟨_, rfl, Option.some.inj h⟩
      · rw [if_pos c12] at h
        refine run_aload_n 0 dX12_store_48 rfl rfl ?_
        refine run_iconst (v := 3) dX12_store_49 rfl ?_
        refine run_iload_n 2 dX12_store_50 rfl rfl ?_
        refine run_iadd dX12_store_51 ?_
        refine run_bipush (v := 10) dX12_store_52 rfl ?_
        refine run_isub dX12_store_54 ?_
        obtain ⟨q13, h14, h⟩ := Option.bind_eq_some_iff.mp h
        refine run_callVi (As := [.int (((3 : Int32) + x2) - 10)]) (fun r z => (r, z) = q13) mw_X12_ofStore mi_X12_ofStore ml_X12_332 is_269 (by decide) rfl rfl rfl (RF.lt (HX12_store_X12_ofStore_lt d)) (Nat.le_of_ble_eq_true rfl) dX12_store_55 (sX12_ofStore G d  h14) (fun r z h8 => ?_) rfl
        rw [show r = q13.1 from congrArg Prod.fst h8, show z = q13.2 from congrArg Prod.snd h8]
        clear h8
        refine run_goto 62 dX12_store_58 (by decide) ?_
        exact run_iret dX12_store_62 ⟨_, rfl, Option.some.inj h⟩
  · rw [if_neg c2] at h
    refine run_bipush (v := -2) dX12_store_19 rfl ?_
    exact run_iret dX12_store_21 ⟨_, rfl, Option.some.inj h⟩
def HX12_task : Nat := 4
theorem HX12_task_X12_hasBook_lt (d : Nat) : d + HX12_hasBook < d + HX12_task := Nat.add_lt_add_left (by decide) d
theorem HX12_task_X12_isTask_lt (d : Nat) : d + HX12_isTask < d + HX12_task := Nat.add_lt_add_left (by decide) d
theorem HX12_task_X12_ofTask_lt (d : Nat) : d + HX12_ofTask < d + HX12_task := Nat.add_lt_add_left (by decide) d
theorem HX12_task_X12_stepsOf_lt (d : Nat) : d + HX12_stepsOf < d + HX12_task := Nat.add_lt_add_left (by decide) d
theorem HX12_task_0 (d : Nat) : 0 < d + HX12_task := Nat.lt_of_lt_of_le (by decide) (Nat.le_add_left _ d)
def fX12_task (x1 : Int32) (x2 : Int32) (x3 : Int32) (σ : Mem) : Option (Int32 × Mem) := (fX12_hasBook x1 (st2 σ 269 0 0)).bind fun q1 => if q1.1 = true then (if x2 = (-1) then (if x3 = 0 then (some ((q1.2 269 27), q1.2)) else (some ((-2), q1.2))) else ((fX12_isTask x2 q1.2).bind fun q4 => if q4.1 = true then (if 0 ≤ x3 then (if 10 ≤ x3 then ((fX12_stepsOf x2 q4.2).bind fun q8 => if q8.1 ≤ ((x3 / 10) - 1) then (some ((-2), q8.2)) else (if 3 ≤ (x3 % 10) then (some ((-2), q8.2)) else ((fX12_ofTask x2 (((1 : Int32) + ((3 : Int32) * ((x3 / 10) - 1))) + (x3 % 10)) q8.2).bind fun q11 => some (q11.1, q11.2)))) else (if x3 = 0 then ((fX12_stepsOf x2 q4.2).bind fun q15 => some (q15.1, q15.2)) else (some ((-2), q4.2)))) else (some ((-2), q4.2))) else (some ((-2), q4.2)))) else (some ((-2), q1.2))
set_option maxRecDepth 20000 in
theorem sX12_task (G : GT) (d : Nat) {x1 : Int32} {x2 : Int32} {x3 : Int32}  {σ : Mem} {o : (Int32 × Mem)} (h : fX12_task x1 x2 x3 σ = some o) : Spec G yX12_task cX12_task 6 (some .int) (d + HX12_task) [.ref (gA G 269), .int x1, .int x2, .int x3] σ (kI fun x z => (x, z) = o) := by
  refine spec_run (by decide) (Nat.le_of_ble_eq_true rfl) ?_
  unfold fX12_task at h
  show Run G RX12 cX12_task 6 (some .int) _ 0 [(0, .ref (gA G 269)), (1, .int x1), (2, .int x2), (3, .int x3)] [] σ
  refine run_aload_n 0 dX12_task_0 rfl rfl ?_
  refine run_iconst (v := 0) dX12_task_1 rfl ?_
  refine run_puti fp_X12_144 is_269 (by decide) rfl dX12_task_2 ?_
  refine run_aload_n 0 dX12_task_5 rfl rfl ?_
  refine run_iload_n 1 dX12_task_6 rfl rfl ?_
  obtain ⟨q1, h19, h⟩ := Option.bind_eq_some_iff.mp h
  refine run_callVb (As := [.int x1]) (fun r z => (r, z) = q1) mw_X12_hasBook mi_X12_hasBook ml_X12_366 is_269 (by decide) rfl rfl rfl (RF.lt (HX12_task_X12_hasBook_lt d)) (Nat.le_of_ble_eq_true rfl) dX12_task_7 (sX12_hasBook G d  h19) (fun r z h8 => ?_) rfl
  rw [show r = q1.1 from congrArg Prod.fst h8, show z = q1.2 from congrArg Prod.snd h8]
  clear h8
  refine run_ifb_ne 16 dX12_task_10 (by decide) (fun c2 => ?_) (fun c2 => ?_)
  · rw [if_pos c2] at h
    refine run_iload_n 2 dX12_task_16 rfl rfl ?_
    refine run_iconst (v := -1) dX12_task_17 rfl ?_
    refine run_icmp_ne 35 dX12_task_18 (by decide) (fun c3 => ?_) (fun c3 => ?_)
    · rw [if_neg c3] at h
      refine run_aload_n 0 dX12_task_35 rfl rfl ?_
      refine run_iload_n 2 dX12_task_36 rfl rfl ?_
      obtain ⟨q4, h17, h⟩ := Option.bind_eq_some_iff.mp h
      refine run_callVb (As := [.int x2]) (fun r z => (r, z) = q4) mw_X12_isTask mi_X12_isTask ml_X12_378 is_269 (by decide) rfl rfl rfl (RF.lt (HX12_task_X12_isTask_lt d)) (Nat.le_of_ble_eq_true rfl) dX12_task_37 (sX12_isTask G d  h17) (fun r z h8 => ?_) rfl
      rw [show r = q4.1 from congrArg Prod.fst h8, show z = q4.2 from congrArg Prod.snd h8]
      clear h8
      refine run_ifb_eq 47 dX12_task_40 (by decide) (fun c5 => ?_) (fun c5 => ?_)
      · rw [if_neg c5] at h
        refine run_bipush (v := -2) dX12_task_47 rfl ?_
        exact run_iret dX12_task_49 ⟨_, rfl, Option.some.inj h⟩
      · rw [if_pos c5] at h
        refine run_iload_n 3 dX12_task_43 rfl rfl ?_
        refine run_if_ge 50 dX12_task_44 (by decide) (fun c6 => ?_) (fun c6 => ?_)
        · rw [if_pos c6] at h
          refine run_iload_n 3 dX12_task_50 rfl rfl ?_
          refine run_bipush (v := 10) dX12_task_51 rfl ?_
          refine run_idiv dX12_task_53 (by decide) ?_
          refine run_iconst (v := 1) dX12_task_54 rfl ?_
          refine run_isub dX12_task_55 ?_
          refine run_istore [(0, .ref (gA G 269)), (2, .int x2), (3, .int x3), (4, .int ((x3 / 10) - 1))] [1, 3, 4, 0] dX12_task_56 (by decide) rfl ?_
          refine run_iload_n 2 dX12_task_58 rfl rfl ?_
          refine run_bipush (v := 10) dX12_task_59 rfl ?_
          refine run_irem dX12_task_61 (by decide) ?_
          refine run_istore [(0, .ref (gA G 269)), (2, .int x2), (3, .int x3), (4, .int ((x3 / 10) - 1)), (5, .int (x3 % 10))] [1, 2, 3, 4, 0] dX12_task_62 (by decide) rfl ?_
          refine run_iload_n 2 dX12_task_64 rfl rfl ?_
          refine run_bipush (v := 10) dX12_task_65 rfl ?_
          refine run_icmp_ge 85 dX12_task_67 (by decide) (fun c7 => ?_) (fun c7 => ?_)
          · rw [if_pos c7] at h
            refine run_iload 3 dX12_task_85 rfl ?_
            refine run_aload_n 0 dX12_task_87 rfl rfl ?_
            refine run_iload_n 1 dX12_task_88 rfl rfl ?_
            obtain ⟨q8, h13, h⟩ := Option.bind_eq_some_iff.mp h
            refine run_callVi (As := [.int x2]) (fun r z => (r, z) = q8) mw_X12_stepsOf mi_X12_stepsOf ml_X12_381 is_269 (by decide) rfl rfl rfl (RF.lt (HX12_task_X12_stepsOf_lt d)) (Nat.le_of_ble_eq_true rfl) dX12_task_89 (sX12_stepsOf G d  h13) (fun r z h8 => ?_) rfl
            rw [show r = q8.1 from congrArg Prod.fst h8, show z = q8.2 from congrArg Prod.snd h8]
            clear h8
            refine run_icmp_ge 118 dX12_task_92 (by decide) (fun c9 => ?_) (fun c9 => ?_)
            · rw [if_pos c9] at h
              refine run_bipush (v := -2) dX12_task_118 rfl ?_
              exact run_iret dX12_task_120 ⟨_, rfl, Option.some.inj h⟩
            · rw [if_neg c9] at h
              refine run_iload 4 dX12_task_95 rfl ?_
              refine run_iconst (v := 3) dX12_task_97 rfl ?_
              refine run_icmp_ge 118 dX12_task_98 (by decide) (fun c10 => ?_) (fun c10 => ?_)
              · rw [if_pos c10] at h
                refine run_bipush (v := -2) dX12_task_118 rfl ?_
                exact run_iret dX12_task_120 ⟨_, rfl, Option.some.inj h⟩
              · rw [if_neg c10] at h
                refine run_aload_n 0 dX12_task_101 rfl rfl ?_
                refine run_iload_n 1 dX12_task_102 rfl rfl ?_
                refine run_iconst (v := 1) dX12_task_103 rfl ?_
                refine run_iconst (v := 3) dX12_task_104 rfl ?_
                refine run_iload 3 dX12_task_105 rfl ?_
                refine run_imul dX12_task_107 ?_
                refine run_iadd dX12_task_108 ?_
                refine run_iload 4 dX12_task_109 rfl ?_
                refine run_iadd dX12_task_111 ?_
                obtain ⟨q11, h12, h⟩ := Option.bind_eq_some_iff.mp h
                refine run_callVi (As := [.int x2, .int (((1 : Int32) + ((3 : Int32) * ((x3 / 10) - 1))) + (x3 % 10))]) (fun r z => (r, z) = q11) mw_X12_ofTask mi_X12_ofTask ml_X12_320 is_269 (by decide) rfl rfl rfl (RF.lt (HX12_task_X12_ofTask_lt d)) (Nat.le_of_ble_eq_true rfl) dX12_task_112 (sX12_ofTask G d  h12) (fun r z h8 => ?_) rfl
                rw [show r = q11.1 from congrArg Prod.fst h8, show z = q11.2 from congrArg Prod.snd h8]
                clear h8
                refine run_goto 120 dX12_task_115 (by decide) ?_
                exact run_iret dX12_task_120 ⟨_, rfl, Option.some.inj h⟩
          · rw [if_neg c7] at h
            refine run_iload_n 2 dX12_task_70 rfl rfl ?_
            refine run_if_ne 82 dX12_task_71 (by decide) (fun c14 => ?_) (fun c14 => ?_)
            · rw [if_neg c14] at h
              refine run_bipush (v := -2) dX12_task_82 rfl ?_
              exact run_iret dX12_task_84 ⟨_, rfl, Option.some.inj h⟩
            · rw [if_pos c14] at h
              refine run_aload_n 0 dX12_task_74 rfl rfl ?_
              refine run_iload_n 1 dX12_task_75 rfl rfl ?_
              obtain ⟨q15, h16, h⟩ := Option.bind_eq_some_iff.mp h
              refine run_callVi (As := [.int x2]) (fun r z => (r, z) = q15) mw_X12_stepsOf mi_X12_stepsOf ml_X12_381 is_269 (by decide) rfl rfl rfl (RF.lt (HX12_task_X12_stepsOf_lt d)) (Nat.le_of_ble_eq_true rfl) dX12_task_76 (sX12_stepsOf G d  h16) (fun r z h8 => ?_) rfl
              rw [show r = q15.1 from congrArg Prod.fst h8, show z = q15.2 from congrArg Prod.snd h8]
              clear h8
              refine run_goto 84 dX12_task_79 (by decide) ?_
              exact run_iret dX12_task_84 ⟨_, rfl, Option.some.inj h⟩
        · rw [if_neg c6] at h
          refine run_bipush (v := -2) dX12_task_47 rfl ?_
          exact run_iret dX12_task_49 ⟨_, rfl, Option.some.inj h⟩
    · rw [if_pos c3] at h
      refine run_iload_n 3 dX12_task_21 rfl rfl ?_
      refine run_if_ne 32 dX12_task_22 (by decide) (fun c18 => ?_) (fun c18 => ?_)
      · rw [if_neg c18] at h
        refine run_bipush (v := -2) dX12_task_32 rfl ?_
        exact run_iret dX12_task_34 ⟨_, rfl, Option.some.inj h⟩
      · rw [if_pos c18] at h
        refine run_aload_n 0 dX12_task_25 rfl rfl ?_
        refine run_geti fl_X12_323 is_269 (by decide) rfl dX12_task_26 ?_
        refine run_goto 34 dX12_task_29 (by decide) ?_
        exact run_iret dX12_task_34 ⟨_, rfl, Option.some.inj h⟩
  · rw [if_neg c2] at h
    refine run_bipush (v := -2) dX12_task_13 rfl ?_
    exact run_iret dX12_task_15 ⟨_, rfl, Option.some.inj h⟩
def HX12_begins : Nat := 1
theorem HX12_begins_0 (d : Nat) : 0 < d + HX12_begins := Nat.lt_of_lt_of_le (by decide) (Nat.le_add_left _ d)
def lX12_begins_33 (x1 : Int32) : Nat → Int32 → Mem → Option (Mem)
  | 0, _, _ => none
  | n + 1, x3, σ => if 10 ≤ x3 then (some σ) else (gd (inb (((10 : Int32) * x1) + x3) 40) (gd (inb (((10 : Int32) * x1) + x3) 40) (gd (inb (((10 : Int32) * x1) + x3) 40) ((some (st2 (st2 (st2 σ 292 (Int32.toNatClampNeg (((10 : Int32) * x1) + x3)) (-1)) 293 (Int32.toNatClampNeg (((10 : Int32) * x1) + x3)) (-1)) 294 (Int32.toNatClampNeg (((10 : Int32) * x1) + x3)) (-2))).bind fun s15 => lX12_begins_33 x1 n (x3 + 1) s15))))
set_option maxRecDepth 20000 in
theorem lpX12_begins_33 (G : GT) (d : Nat) (x1 : Int32)  {K : Option Value → Mem → Prop} : ∀ (n : Nat) (x3 : Int32) (σ : Mem) (o : Mem), lX12_begins_33 x1 n x3 σ = some o → (Run G RX12 cX12_begins 4 none (mF G (d + HX12_begins) K) 82 [] [] o) → Run G RX12 cX12_begins 4 none (mF G (d + HX12_begins) K) 33 [(0, .ref (gA G 269)), (1, .int x1), (3, .int x3)] [] σ := by
  intro n
  induction n with
  | zero => intro x3 σ o h; exact absurd h (by simp [lX12_begins_33])
  | succ n ih =>
    intro x3 σ o h kx
    rw [lX12_begins_33] at h
    refine run_iload_n 2 dX12_begins_33 rfl rfl ?_
    refine run_bipush (v := 10) dX12_begins_34 rfl ?_
    refine run_icmp_ge 82 dX12_begins_36 (by decide) (fun c11 => ?_) (fun c11 => ?_)
    · rw [if_pos c11] at h
      rw [← Option.some.inj h] at kx
      refine run_forget [] rfl ?_
      exact kx
    · rw [if_neg c11] at h
      refine run_aload_n 0 dX12_begins_39 rfl rfl ?_
      refine run_getr fl_X12_77 is_269 (by decide) rfl ce_269_42 dX12_begins_40 ?_
      refine run_bipush (v := 10) dX12_begins_43 rfl ?_
      refine run_iload_n 1 dX12_begins_45 rfl rfl ?_
      refine run_imul dX12_begins_46 ?_
      refine run_iload_n 2 dX12_begins_47 rfl rfl ?_
      refine run_iadd dX12_begins_48 ?_
      refine run_iconst (v := -1) dX12_begins_49 rfl ?_
      obtain ⟨g12, h⟩ := gd_s h
      refine run_iast' is_292 ln_292 g12 rfl dX12_begins_50 ?_
      refine run_aload_n 0 dX12_begins_51 rfl rfl ?_
      refine run_getr fl_X12_80 is_269 (by decide) rfl ce_269_43 dX12_begins_52 ?_
      refine run_bipush (v := 10) dX12_begins_55 rfl ?_
      refine run_iload_n 1 dX12_begins_57 rfl rfl ?_
      refine run_imul dX12_begins_58 ?_
      refine run_iload_n 2 dX12_begins_59 rfl rfl ?_
      refine run_iadd dX12_begins_60 ?_
      refine run_iconst (v := -1) dX12_begins_61 rfl ?_
      obtain ⟨g13, h⟩ := gd_s h
      refine run_iast' is_293 ln_293 g13 rfl dX12_begins_62 ?_
      refine run_aload_n 0 dX12_begins_63 rfl rfl ?_
      refine run_getr fl_X12_83 is_269 (by decide) rfl ce_269_44 dX12_begins_64 ?_
      refine run_bipush (v := 10) dX12_begins_67 rfl ?_
      refine run_iload_n 1 dX12_begins_69 rfl rfl ?_
      refine run_imul dX12_begins_70 ?_
      refine run_iload_n 2 dX12_begins_71 rfl rfl ?_
      refine run_iadd dX12_begins_72 ?_
      refine run_bipush (v := -2) dX12_begins_73 rfl ?_
      obtain ⟨g14, h⟩ := gd_s h
      refine run_iast' is_294 ln_294 g14 rfl dX12_begins_75 ?_
      rw [Option.bind_some] at h
      refine run_mem (fun s15 es15 => ?_)
      rw [← es15] at h
      refine run_iinc 2 [(0, .ref (gA G 269)), (1, .int x1), (3, .int (x3 + 1))] [1, 2, 0] dX12_begins_76 rfl rfl (by decide) rfl ?_
      refine run_goto 33 dX12_begins_79 (by decide) ?_
      exact ih _ _ _ h kx
def fX12_begins (x1 : Int32) (x2 : Int32) (σ : Mem) : Option Mem := gd (inb x1 4) (gd (inb x1 4) (gd (inb x1 4) (gd (inb x1 4) ((some (st2 (st2 (st2 (st2 σ 286 (Int32.toNatClampNeg x1) x2) 287 (Int32.toNatClampNeg x1) 0) 288 (Int32.toNatClampNeg x1) 0) 289 (Int32.toNatClampNeg x1) ((st2 (st2 (st2 σ 286 (Int32.toNatClampNeg x1) x2) 287 (Int32.toNatClampNeg x1) 0) 288 (Int32.toNatClampNeg x1) 0) 269 29))).bind fun s5 => (lX12_begins_33 x1 FU 0 s5).bind fun q16 => some q16))))
set_option maxRecDepth 20000 in
theorem sX12_begins (G : GT) (d : Nat) {x1 : Int32} {x2 : Int32}  {σ : Mem} {o : Mem} (h : fX12_begins x1 x2 σ = some o) : Spec G yX12_begins cX12_begins 4 none (d + HX12_begins) [.ref (gA G 269), .int x1, .int x2] σ (kV fun z => z = o) := by
  refine spec_run (by decide) (Nat.le_of_ble_eq_true rfl) ?_
  unfold fX12_begins at h
  show Run G RX12 cX12_begins 4 none _ 0 [(0, .ref (gA G 269)), (1, .int x1), (2, .int x2)] [] σ
  refine run_aload_n 0 dX12_begins_0 rfl rfl ?_
  refine run_getr fl_X12_59 is_269 (by decide) rfl ce_269_36 dX12_begins_1 ?_
  refine run_iload_n 1 dX12_begins_4 rfl rfl ?_
  refine run_iload_n 2 dX12_begins_5 rfl rfl ?_
  obtain ⟨g1, h⟩ := gd_s h
  refine run_iast' is_286 ln_286 g1 rfl dX12_begins_6 ?_
  refine run_aload_n 0 dX12_begins_7 rfl rfl ?_
  refine run_getr fl_X12_62 is_269 (by decide) rfl ce_269_37 dX12_begins_8 ?_
  refine run_iload_n 1 dX12_begins_11 rfl rfl ?_
  refine run_iconst (v := 0) dX12_begins_12 rfl ?_
  obtain ⟨g2, h⟩ := gd_s h
  refine run_iast' is_287 ln_287 g2 rfl dX12_begins_13 ?_
  refine run_aload_n 0 dX12_begins_14 rfl rfl ?_
  refine run_getr fl_X12_65 is_269 (by decide) rfl ce_269_38 dX12_begins_15 ?_
  refine run_iload_n 1 dX12_begins_18 rfl rfl ?_
  refine run_iconst (v := 0) dX12_begins_19 rfl ?_
  obtain ⟨g3, h⟩ := gd_s h
  refine run_iast' is_288 ln_288 g3 rfl dX12_begins_20 ?_
  refine run_aload_n 0 dX12_begins_21 rfl rfl ?_
  refine run_getr fl_X12_68 is_269 (by decide) rfl ce_269_39 dX12_begins_22 ?_
  refine run_iload_n 1 dX12_begins_25 rfl rfl ?_
  refine run_aload_n 0 dX12_begins_26 rfl rfl ?_
  refine run_geti fl_X12_342 is_269 (by decide) rfl dX12_begins_27 ?_
  obtain ⟨g4, h⟩ := gd_s h
  refine run_iast' is_289 ln_289 g4 rfl dX12_begins_30 ?_
  rw [Option.bind_some] at h
  refine run_mem (fun s5 es5 => ?_)
  rw [← es5] at h
  refine run_iconst (v := 0) dX12_begins_31 rfl ?_
  refine run_istore_n [(0, .ref (gA G 269)), (1, .int x1), (3, .int 0)] [1, 2, 0] dX12_begins_32 rfl (by decide) rfl ?_
  obtain ⟨q16, h17, h⟩ := Option.bind_eq_some_iff.mp h
  refine lpX12_begins_33 G d _ _ _ _ _ h17 ?_
  exact run_vret dX12_begins_82 ⟨rfl, Option.some.inj h⟩
def HX12_isInView : Nat := 2
theorem HX12_isInView_X12_has_lt (d : Nat) : d + HX12_has < d + HX12_isInView := Nat.add_lt_add_left (by decide) d
theorem HX12_isInView_0 (d : Nat) : 0 < d + HX12_isInView := Nat.lt_of_lt_of_le (by decide) (Nat.le_add_left _ d)
def fX12_isInView (x1 : Int32) (x2 : Int32) (σ : Mem) : Option (Bool × Mem) := gd (inb (((10 : Int32) * x1) + x2) 40) (if (σ 294 (Int32.toNatClampNeg (((10 : Int32) * x1) + x2))) = (-2) then ((fX12_has (σ 269 30) x2 σ).bind fun q4 => some (q4.1, q4.2)) else (if (σ 294 (Int32.toNatClampNeg (((10 : Int32) * x1) + x2))) = (-1) then (some (false, σ)) else (some (true, σ))))
set_option maxRecDepth 20000 in
theorem sX12_isInView (G : GT) (d : Nat) {x1 : Int32} {x2 : Int32}  {σ : Mem} {o : (Bool × Mem)} (h : fX12_isInView x1 x2 σ = some o) : Spec G yX12_isInView cX12_isInView 4 (some .boolean) (d + HX12_isInView) [.ref (gA G 269), .int x1, .int x2] σ (kB fun x z => (x, z) = o) := by
  refine spec_run (by decide) (Nat.le_of_ble_eq_true rfl) ?_
  unfold fX12_isInView at h
  show Run G RX12 cX12_isInView 4 (some .boolean) _ 0 [(0, .ref (gA G 269)), (1, .int x1), (2, .int x2)] [] σ
  refine run_aload_n 0 dX12_isInView_0 rfl rfl ?_
  refine run_getr fl_X12_83 is_269 (by decide) rfl ce_269_44 dX12_isInView_1 ?_
  refine run_bipush (v := 10) dX12_isInView_4 rfl ?_
  refine run_iload_n 1 dX12_isInView_6 rfl rfl ?_
  refine run_imul dX12_isInView_7 ?_
  refine run_iload_n 2 dX12_isInView_8 rfl rfl ?_
  refine run_iadd dX12_isInView_9 ?_
  obtain ⟨g1, h⟩ := gd_s h
  refine run_iald' is_294 ln_294 g1 rfl dX12_isInView_10 ?_
  refine run_istore_n [(0, .ref (gA G 269)), (2, .int x2), (3, .int (σ 294 (Int32.toNatClampNeg (((10 : Int32) * x1) + x2))))] [1, 3, 0] dX12_isInView_11 rfl (by decide) rfl ?_
  refine run_iload_n 2 dX12_isInView_12 rfl rfl ?_
  refine run_bipush (v := -2) dX12_isInView_13 rfl ?_
  refine run_icmp_ne 29 dX12_isInView_15 (by decide) (fun c2 => ?_) (fun c2 => ?_)
  · rw [if_neg c2] at h
    refine run_iload_n 2 dX12_isInView_29 rfl rfl ?_
    refine run_iconst (v := -1) dX12_isInView_30 rfl ?_
    refine run_icmp_eq 38 dX12_isInView_31 (by decide) (fun c3 => ?_) (fun c3 => ?_)
    · rw [if_pos c3] at h
      refine run_iconst (v := 0) dX12_isInView_38 rfl ?_
      exact run_bret (b := false) dX12_isInView_39 ⟨_, rfl, Option.some.inj h⟩
    · rw [if_neg c3] at h
      refine run_iconst (v := 1) dX12_isInView_34 rfl ?_
      refine run_goto 39 dX12_isInView_35 (by decide) ?_
      exact run_bret (b := true) dX12_isInView_39 ⟨_, rfl, Option.some.inj h⟩
  · rw [if_pos c2] at h
    refine run_aload_n 0 dX12_isInView_18 rfl rfl ?_
    refine run_geti fl_X12_336 is_269 (by decide) rfl dX12_isInView_19 ?_
    refine run_iload_n 1 dX12_isInView_22 rfl rfl ?_
    obtain ⟨q4, h5, h⟩ := Option.bind_eq_some_iff.mp h
    refine run_callSb (As := [.int (σ 269 30), .int x2]) (fun r z => (r, z) = q4) mw_X12_has ms_X12_has ml_X12_148 rfl (RF.lt (HX12_isInView_X12_has_lt d)) (Nat.le_of_ble_eq_true rfl) dX12_isInView_23 (sX12_has G d  h5) (fun r z h8 => ?_) rfl
    rw [show r = q4.1 from congrArg Prod.fst h8, show z = q4.2 from congrArg Prod.snd h8]
    clear h8
    refine run_goto 39 dX12_isInView_26 (by decide) ?_
    exact run_bret (b := q4.1) dX12_isInView_39 ⟨_, rfl, Option.some.inj h⟩
def HX12_view : Nat := 3
theorem HX12_view_X12_isInView_lt (d : Nat) : d + HX12_isInView < d + HX12_view := Nat.add_lt_add_left (by decide) d
theorem HX12_view_0 (d : Nat) : 0 < d + HX12_view := Nat.lt_of_lt_of_le (by decide) (Nat.le_add_left _ d)
def fX12_view (x1 : Int32) (x2 : Int32) (σ : Mem) : Option (Int32 × Mem) := gd (inb (((10 : Int32) * x1) + x2) 40) ((fX12_isInView x1 x2 σ).bind fun q2 => if q2.1 = true then (if (σ 294 (Int32.toNatClampNeg (((10 : Int32) * x1) + x2))) = (-2) then (gd (inb x2 10) (some ((q2.2 281 (Int32.toNatClampNeg x2)), q2.2))) else (some ((σ 294 (Int32.toNatClampNeg (((10 : Int32) * x1) + x2))), q2.2))) else (some (0, q2.2)))
set_option maxRecDepth 20000 in
theorem sX12_view (G : GT) (d : Nat) {x1 : Int32} {x2 : Int32}  {σ : Mem} {o : (Int32 × Mem)} (h : fX12_view x1 x2 σ = some o) : Spec G yX12_view cX12_view 4 (some .int) (d + HX12_view) [.ref (gA G 269), .int x1, .int x2] σ (kI fun x z => (x, z) = o) := by
  refine spec_run (by decide) (Nat.le_of_ble_eq_true rfl) ?_
  unfold fX12_view at h
  show Run G RX12 cX12_view 4 (some .int) _ 0 [(0, .ref (gA G 269)), (1, .int x1), (2, .int x2)] [] σ
  refine run_aload_n 0 dX12_view_0 rfl rfl ?_
  refine run_getr fl_X12_83 is_269 (by decide) rfl ce_269_44 dX12_view_1 ?_
  refine run_bipush (v := 10) dX12_view_4 rfl ?_
  refine run_iload_n 1 dX12_view_6 rfl rfl ?_
  refine run_imul dX12_view_7 ?_
  refine run_iload_n 2 dX12_view_8 rfl rfl ?_
  refine run_iadd dX12_view_9 ?_
  obtain ⟨g1, h⟩ := gd_s h
  refine run_iald' is_294 ln_294 g1 rfl dX12_view_10 ?_
  refine run_istore_n [(0, .ref (gA G 269)), (1, .int x1), (2, .int x2), (3, .int (σ 294 (Int32.toNatClampNeg (((10 : Int32) * x1) + x2))))] [1, 2, 3, 0] dX12_view_11 rfl (by decide) rfl ?_
  refine run_aload_n 0 dX12_view_12 rfl rfl ?_
  refine run_iload_n 1 dX12_view_13 rfl rfl ?_
  refine run_iload_n 2 dX12_view_14 rfl rfl ?_
  obtain ⟨q2, h6, h⟩ := Option.bind_eq_some_iff.mp h
  refine run_callVb (As := [.int x1, .int x2]) (fun r z => (r, z) = q2) mw_X12_isInView mi_X12_isInView ml_X12_384 is_269 (by decide) rfl rfl rfl (RF.lt (HX12_view_X12_isInView_lt d)) (Nat.le_of_ble_eq_true rfl) dX12_view_15 (sX12_isInView G d  h6) (fun r z h8 => ?_) rfl
  rw [show r = q2.1 from congrArg Prod.fst h8, show z = q2.2 from congrArg Prod.snd h8]
  clear h8
  refine run_ifb_ne 25 dX12_view_18 (by decide) (fun c3 => ?_) (fun c3 => ?_)
  · rw [if_pos c3] at h
    refine run_iload_n 3 dX12_view_25 rfl rfl ?_
    refine run_bipush (v := -2) dX12_view_26 rfl ?_
    refine run_icmp_ne 40 dX12_view_28 (by decide) (fun c4 => ?_) (fun c4 => ?_)
    · rw [if_neg c4] at h
      refine run_iload_n 3 dX12_view_40 rfl rfl ?_
      exact run_iret dX12_view_41 ⟨_, rfl, Option.some.inj h⟩
    · rw [if_pos c4] at h
      refine run_aload_n 0 dX12_view_31 rfl rfl ?_
      refine run_getr fl_X12_44 is_269 (by decide) rfl ce_269_31 dX12_view_32 ?_
      refine run_iload_n 2 dX12_view_35 rfl rfl ?_
      obtain ⟨g5, h⟩ := gd_s h
      refine run_iald' is_281 ln_281 g5 rfl dX12_view_36 ?_
      refine run_goto 41 dX12_view_37 (by decide) ?_
      exact run_iret dX12_view_41 ⟨_, rfl, Option.some.inj h⟩
  · rw [if_neg c3] at h
    refine run_iconst (v := 0) dX12_view_21 rfl ?_
    refine run_goto 41 dX12_view_22 (by decide) ?_
    exact run_iret dX12_view_41 ⟨_, rfl, Option.some.inj h⟩
def HX12_guards : Nat := 1
theorem HX12_guards_0 (d : Nat) : 0 < d + HX12_guards := Nat.lt_of_lt_of_le (by decide) (Nat.le_add_left _ d)
def fX12_guards (x1 : Int32) (x2 : Int32) (σ : Mem) : Option Mem := gd (inb (((10 : Int32) * x1) + x2) 40) (if (σ 293 (Int32.toNatClampNeg (((10 : Int32) * x1) + x2))) = (-1) then (gd (inb x2 10) (gd (inb (((10 : Int32) * x1) + x2) 40) (some (st2 σ 293 (Int32.toNatClampNeg (((10 : Int32) * x1) + x2)) (σ 283 (Int32.toNatClampNeg x2)))))) else (gd (inb (((10 : Int32) * x1) + x2) 40) (gd (inb (((10 : Int32) * x1) + x2) 40) (some (st2 σ 293 (Int32.toNatClampNeg (((10 : Int32) * x1) + x2)) (σ 293 (Int32.toNatClampNeg (((10 : Int32) * x1) + x2))))))))
set_option maxRecDepth 20000 in
theorem sX12_guards (G : GT) (d : Nat) {x1 : Int32} {x2 : Int32}  {σ : Mem} {o : Mem} (h : fX12_guards x1 x2 σ = some o) : Spec G yX12_guards cX12_guards 4 none (d + HX12_guards) [.ref (gA G 269), .int x1, .int x2] σ (kV fun z => z = o) := by
  refine spec_run (by decide) (Nat.le_of_ble_eq_true rfl) ?_
  unfold fX12_guards at h
  show Run G RX12 cX12_guards 4 none _ 0 [(0, .ref (gA G 269)), (1, .int x1), (2, .int x2)] [] σ
  refine run_bipush (v := 10) dX12_guards_0 rfl ?_
  refine run_iload_n 1 dX12_guards_2 rfl rfl ?_
  refine run_imul dX12_guards_3 ?_
  refine run_iload_n 2 dX12_guards_4 rfl rfl ?_
  refine run_iadd dX12_guards_5 ?_
  refine run_istore_n [(0, .ref (gA G 269)), (2, .int x2), (3, .int (((10 : Int32) * x1) + x2))] [1, 3, 0] dX12_guards_6 rfl (by decide) rfl ?_
  refine run_aload_n 0 dX12_guards_7 rfl rfl ?_
  refine run_getr fl_X12_80 is_269 (by decide) rfl ce_269_43 dX12_guards_8 ?_
  refine run_iload_n 2 dX12_guards_11 rfl rfl ?_
  refine run_aload_n 0 dX12_guards_12 rfl rfl ?_
  refine run_getr fl_X12_80 is_269 (by decide) rfl ce_269_43 dX12_guards_13 ?_
  refine run_iload_n 2 dX12_guards_16 rfl rfl ?_
  obtain ⟨g1, h⟩ := gd_s h
  refine run_iald' is_293 ln_293 g1 rfl dX12_guards_17 ?_
  refine run_iconst (v := -1) dX12_guards_18 rfl ?_
  refine run_icmp_ne 31 dX12_guards_19 (by decide) (fun c2 => ?_) (fun c2 => ?_)
  · rw [if_neg c2] at h
    refine run_aload_n 0 dX12_guards_31 rfl rfl ?_
    refine run_getr fl_X12_80 is_269 (by decide) rfl ce_269_43 dX12_guards_32 ?_
    refine run_iload_n 2 dX12_guards_35 rfl rfl ?_
    obtain ⟨g3, h⟩ := gd_s h
    refine run_iald' is_293 ln_293 g3 rfl dX12_guards_36 ?_
    obtain ⟨g4, h⟩ := gd_s h
    refine run_iast' is_293 ln_293 g4 rfl dX12_guards_37 ?_
    exact run_vret dX12_guards_38 ⟨rfl, Option.some.inj h⟩
  · rw [if_pos c2] at h
    refine run_aload_n 0 dX12_guards_22 rfl rfl ?_
    refine run_getr fl_X12_50 is_269 (by decide) rfl ce_269_33 dX12_guards_23 ?_
    refine run_iload_n 1 dX12_guards_26 rfl rfl ?_
    obtain ⟨g5, h⟩ := gd_s h
    refine run_iald' is_283 ln_283 g5 rfl dX12_guards_27 ?_
    refine run_goto 37 dX12_guards_28 (by decide) ?_
    obtain ⟨g6, h⟩ := gd_s h
    refine run_iast' is_293 ln_293 g6 rfl dX12_guards_37 ?_
    exact run_vret dX12_guards_38 ⟨rfl, Option.some.inj h⟩
def HX12_looks : Nat := 4
theorem HX12_looks_X12_guards_lt (d : Nat) : d + HX12_guards < d + HX12_looks := Nat.add_lt_add_left (by decide) d
theorem HX12_looks_X12_has_lt (d : Nat) : d + HX12_has < d + HX12_looks := Nat.add_lt_add_left (by decide) d
theorem HX12_looks_X12_nodeOf_lt (d : Nat) : d + HX12_nodeOf < d + HX12_looks := Nat.add_lt_add_left (by decide) d
theorem HX12_looks_X12_view_lt (d : Nat) : d + HX12_view < d + HX12_looks := Nat.add_lt_add_left (by decide) d
theorem HX12_looks_0 (d : Nat) : 0 < d + HX12_looks := Nat.lt_of_lt_of_le (by decide) (Nat.le_add_left _ d)
def jX12_looks_84 (x1 : Int32) (x2 : Int32) (σ : Mem) : Option Mem := gd (inb x1 4) ((fX12_view x1 x2 σ).bind fun q27 => gd (inb x1 4) (some (st2 q27.2 288 (Int32.toNatClampNeg x1) (((σ 288 (Int32.toNatClampNeg x1)) + q27.1) % 100))))
set_option maxRecDepth 20000 in
theorem jnX12_looks_84 (G : GT) (d : Nat) (x1 : Int32) (x2 : Int32)  (σ : Mem) (o : Mem) (h : jX12_looks_84 x1 x2 σ = some o) : Run G RX12 cX12_looks 4 none (mF G (d + HX12_looks) (kV fun z => z = o)) 84 [(0, .ref (gA G 269)), (1, .int x1), (2, .int x2)] [] σ := by
  unfold jX12_looks_84 at h
  refine run_aload_n 0 dX12_looks_84 rfl rfl ?_
  refine run_getr fl_X12_65 is_269 (by decide) rfl ce_269_38 dX12_looks_85 ?_
  refine run_iload_n 1 dX12_looks_88 rfl rfl ?_
  refine run_aload_n 0 dX12_looks_89 rfl rfl ?_
  refine run_getr fl_X12_65 is_269 (by decide) rfl ce_269_38 dX12_looks_90 ?_
  refine run_iload_n 1 dX12_looks_93 rfl rfl ?_
  obtain ⟨g26, h⟩ := gd_s h
  refine run_iald' is_288 ln_288 g26 rfl dX12_looks_94 ?_
  refine run_aload_n 0 dX12_looks_95 rfl rfl ?_
  refine run_iload_n 1 dX12_looks_96 rfl rfl ?_
  refine run_iload_n 2 dX12_looks_97 rfl rfl ?_
  obtain ⟨q27, h29, h⟩ := Option.bind_eq_some_iff.mp h
  refine run_callVi (As := [.int x1, .int x2]) (fun r z => (r, z) = q27) mw_X12_view mi_X12_view ml_X12_390 is_269 (by decide) rfl rfl rfl (RF.lt (HX12_looks_X12_view_lt d)) (Nat.le_of_ble_eq_true rfl) dX12_looks_98 (sX12_view G d  h29) (fun r z h8 => ?_) rfl
  rw [show r = q27.1 from congrArg Prod.fst h8, show z = q27.2 from congrArg Prod.snd h8]
  clear h8
  refine run_iadd dX12_looks_101 ?_
  refine run_bipush (v := 100) dX12_looks_102 rfl ?_
  refine run_irem dX12_looks_104 (by decide) ?_
  obtain ⟨g28, h⟩ := gd_s h
  refine run_iast' is_288 ln_288 g28 rfl dX12_looks_105 ?_
  exact run_vret dX12_looks_106 ⟨rfl, Option.some.inj h⟩
def fX12_looks (x1 : Int32) (x2 : Int32) (σ : Mem) : Option Mem := gd (inb (((10 : Int32) * x1) + x2) 40) ((if (σ 294 (Int32.toNatClampNeg (((10 : Int32) * x1) + x2))) = (-2) then ((fX12_has (σ 269 30) x2 σ).bind fun q9 => if q9.1 = true then (gd (inb (((10 : Int32) * x1) + x2) 40) ((if (q9.2 292 (Int32.toNatClampNeg (((10 : Int32) * x1) + x2))) = (-1) then (gd (inb x2 10) (some (q9.2 282 (Int32.toNatClampNeg x2)))) else (gd (inb (((10 : Int32) * x1) + x2) 40) (some (q9.2 292 (Int32.toNatClampNeg (((10 : Int32) * x1) + x2))))) : Option (Int32)).bind fun q21 => gd (inb (((10 : Int32) * x1) + x2) 40) (some (st2 q9.2 292 (Int32.toNatClampNeg (((10 : Int32) * x1) + x2)) q21)))) else (gd (inb (((10 : Int32) * x1) + x2) 40) (if (q9.2 294 (Int32.toNatClampNeg (((10 : Int32) * x1) + x2))) = (-2) then ((fX12_nodeOf x2 q9.2).bind fun q13 => (fX12_guards x1 q13.1 q13.2).bind fun q14 => some q14) else (some q9.2)))) else (gd (inb (((10 : Int32) * x1) + x2) 40) (if (σ 294 (Int32.toNatClampNeg (((10 : Int32) * x1) + x2))) = (-2) then ((fX12_nodeOf x2 σ).bind fun q5 => (fX12_guards x1 q5.1 q5.2).bind fun q6 => some q6) else (some σ))) : Option (Mem)).bind fun q25 => jX12_looks_84 x1 x2 q25)
set_option maxRecDepth 20000 in
theorem sX12_looks (G : GT) (d : Nat) {x1 : Int32} {x2 : Int32}  {σ : Mem} {o : Mem} (h : fX12_looks x1 x2 σ = some o) : Spec G yX12_looks cX12_looks 4 none (d + HX12_looks) [.ref (gA G 269), .int x1, .int x2] σ (kV fun z => z = o) := by
  refine spec_run (by decide) (Nat.le_of_ble_eq_true rfl) ?_
  unfold fX12_looks at h
  show Run G RX12 cX12_looks 4 none _ 0 [(0, .ref (gA G 269)), (1, .int x1), (2, .int x2)] [] σ
  refine run_bipush (v := 10) dX12_looks_0 rfl ?_
  refine run_iload_n 1 dX12_looks_2 rfl rfl ?_
  refine run_imul dX12_looks_3 ?_
  refine run_iload_n 2 dX12_looks_4 rfl rfl ?_
  refine run_iadd dX12_looks_5 ?_
  refine run_istore_n [(0, .ref (gA G 269)), (1, .int x1), (2, .int x2), (3, .int (((10 : Int32) * x1) + x2))] [1, 2, 3, 0] dX12_looks_6 rfl (by decide) rfl ?_
  refine run_aload_n 0 dX12_looks_7 rfl rfl ?_
  refine run_getr fl_X12_83 is_269 (by decide) rfl ce_269_44 dX12_looks_8 ?_
  refine run_iload_n 3 dX12_looks_11 rfl rfl ?_
  obtain ⟨g1, h⟩ := gd_s h
  refine run_iald' is_294 ln_294 g1 rfl dX12_looks_12 ?_
  refine run_bipush (v := -2) dX12_looks_13 rfl ?_
  obtain ⟨q25, h, h9⟩ := Option.bind_eq_some_iff.mp h
  have hj30 : Run G RX12 cX12_looks 4 none (mF G (d + HX12_looks) (kV fun z => z = o)) 84 [(0, .ref (gA G 269)), (1, .int x1), (2, .int x2)] [] q25 := by
    clear h
    have h := h9
    clear h9
    exact jnX12_looks_84 G d _ _ _ _ h
  clear h9
  refine run_icmp_ne 63 dX12_looks_15 (by decide) (fun c2 => ?_) (fun c2 => ?_)
  · rw [if_neg c2] at h
    refine run_aload_n 0 dX12_looks_63 rfl rfl ?_
    refine run_getr fl_X12_83 is_269 (by decide) rfl ce_269_44 dX12_looks_64 ?_
    refine run_iload_n 3 dX12_looks_67 rfl rfl ?_
    obtain ⟨g3, h⟩ := gd_s h
    refine run_iald' is_294 ln_294 g3 rfl dX12_looks_68 ?_
    refine run_bipush (v := -2) dX12_looks_69 rfl ?_
    refine run_icmp_ne 84 dX12_looks_71 (by decide) (fun c4 => ?_) (fun c4 => ?_)
    · rw [if_neg c4] at h
      rw [← Option.some.inj h] at hj30
      refine run_forget [0, 1, 2] rfl ?_
      exact hj30
    · rw [if_pos c4] at h
      refine run_aload_n 0 dX12_looks_74 rfl rfl ?_
      refine run_iload_n 1 dX12_looks_75 rfl rfl ?_
      refine run_aload_n 0 dX12_looks_76 rfl rfl ?_
      refine run_iload_n 2 dX12_looks_77 rfl rfl ?_
      obtain ⟨q5, h8, h⟩ := Option.bind_eq_some_iff.mp h
      refine run_callVi (As := [.int x2]) (fun r z => (r, z) = q5) mw_X12_nodeOf mi_X12_nodeOf ml_X12_369 is_269 (by decide) rfl rfl rfl (RF.lt (HX12_looks_X12_nodeOf_lt d)) (Nat.le_of_ble_eq_true rfl) dX12_looks_78 (sX12_nodeOf G d  h8) (fun r z h8 => ?_) rfl
      rw [show r = q5.1 from congrArg Prod.fst h8, show z = q5.2 from congrArg Prod.snd h8]
      clear h8
      obtain ⟨q6, h7, h⟩ := Option.bind_eq_some_iff.mp h
      refine run_callVv (As := [.int x1, .int q5.1]) (fun z => z = q6) mw_X12_guards mi_X12_guards ml_X12_387 is_269 (by decide) rfl rfl rfl (RF.lt (HX12_looks_X12_guards_lt d)) (Nat.le_of_ble_eq_true rfl) dX12_looks_81 (sX12_guards G d  h7) (fun z h8 => ?_) rfl
      rw [h8]
      clear h8
      rw [← Option.some.inj h] at hj30
      refine run_forget [0, 1, 2] rfl ?_
      exact hj30
  · rw [if_pos c2] at h
    refine run_aload_n 0 dX12_looks_18 rfl rfl ?_
    refine run_geti fl_X12_336 is_269 (by decide) rfl dX12_looks_19 ?_
    refine run_iload_n 2 dX12_looks_22 rfl rfl ?_
    obtain ⟨q9, h24, h⟩ := Option.bind_eq_some_iff.mp h
    refine run_callSb (As := [.int (σ 269 30), .int x2]) (fun r z => (r, z) = q9) mw_X12_has ms_X12_has ml_X12_148 rfl (RF.lt (HX12_looks_X12_has_lt d)) (Nat.le_of_ble_eq_true rfl) dX12_looks_23 (sX12_has G d  h24) (fun r z h8 => ?_) rfl
    rw [show r = q9.1 from congrArg Prod.fst h8, show z = q9.2 from congrArg Prod.snd h8]
    clear h8
    refine run_ifb_eq 63 dX12_looks_26 (by decide) (fun c10 => ?_) (fun c10 => ?_)
    · rw [if_neg c10] at h
      refine run_aload_n 0 dX12_looks_63 rfl rfl ?_
      refine run_getr fl_X12_83 is_269 (by decide) rfl ce_269_44 dX12_looks_64 ?_
      refine run_iload_n 3 dX12_looks_67 rfl rfl ?_
      obtain ⟨g11, h⟩ := gd_s h
      refine run_iald' is_294 ln_294 g11 rfl dX12_looks_68 ?_
      refine run_bipush (v := -2) dX12_looks_69 rfl ?_
      refine run_icmp_ne 84 dX12_looks_71 (by decide) (fun c12 => ?_) (fun c12 => ?_)
      · rw [if_neg c12] at h
        rw [← Option.some.inj h] at hj30
        refine run_forget [0, 1, 2] rfl ?_
        exact hj30
      · rw [if_pos c12] at h
        refine run_aload_n 0 dX12_looks_74 rfl rfl ?_
        refine run_iload_n 1 dX12_looks_75 rfl rfl ?_
        refine run_aload_n 0 dX12_looks_76 rfl rfl ?_
        refine run_iload_n 2 dX12_looks_77 rfl rfl ?_
        obtain ⟨q13, h16, h⟩ := Option.bind_eq_some_iff.mp h
        refine run_callVi (As := [.int x2]) (fun r z => (r, z) = q13) mw_X12_nodeOf mi_X12_nodeOf ml_X12_369 is_269 (by decide) rfl rfl rfl (RF.lt (HX12_looks_X12_nodeOf_lt d)) (Nat.le_of_ble_eq_true rfl) dX12_looks_78 (sX12_nodeOf G d  h16) (fun r z h8 => ?_) rfl
        rw [show r = q13.1 from congrArg Prod.fst h8, show z = q13.2 from congrArg Prod.snd h8]
        clear h8
        obtain ⟨q14, h15, h⟩ := Option.bind_eq_some_iff.mp h
        refine run_callVv (As := [.int x1, .int q13.1]) (fun z => z = q14) mw_X12_guards mi_X12_guards ml_X12_387 is_269 (by decide) rfl rfl rfl (RF.lt (HX12_looks_X12_guards_lt d)) (Nat.le_of_ble_eq_true rfl) dX12_looks_81 (sX12_guards G d  h15) (fun z h8 => ?_) rfl
        rw [h8]
        clear h8
        rw [← Option.some.inj h] at hj30
        refine run_forget [0, 1, 2] rfl ?_
        exact hj30
    · rw [if_pos c10] at h
      refine run_aload_n 0 dX12_looks_29 rfl rfl ?_
      refine run_getr fl_X12_77 is_269 (by decide) rfl ce_269_42 dX12_looks_30 ?_
      refine run_iload_n 3 dX12_looks_33 rfl rfl ?_
      refine run_aload_n 0 dX12_looks_34 rfl rfl ?_
      refine run_getr fl_X12_77 is_269 (by decide) rfl ce_269_42 dX12_looks_35 ?_
      refine run_iload_n 3 dX12_looks_38 rfl rfl ?_
      obtain ⟨g17, h⟩ := gd_s h
      refine run_iald' is_292 ln_292 g17 rfl dX12_looks_39 ?_
      refine run_iconst (v := -1) dX12_looks_40 rfl ?_
      obtain ⟨q21, h, h9⟩ := Option.bind_eq_some_iff.mp h
      have hj23 : Run G RX12 cX12_looks 4 none (mF G (d + HX12_looks) (kV fun z => z = o)) 59 [(0, .ref (gA G 269)), (1, .int x1), (2, .int x2)] [.int q21, .int (((10 : Int32) * x1) + x2), .ref (gA G 292)] q9.2 := by
        clear h
        have h := h9
        clear h9
        obtain ⟨g22, h⟩ := gd_s h
        refine run_iast' is_292 ln_292 g22 rfl dX12_looks_59 ?_
        refine run_goto 84 dX12_looks_60 (by decide) ?_
        rw [← Option.some.inj h] at hj30
        exact hj30
      clear h9
      refine run_icmp_ne 53 dX12_looks_41 (by decide) (fun c18 => ?_) (fun c18 => ?_)
      · rw [if_neg c18] at h
        refine run_aload_n 0 dX12_looks_53 rfl rfl ?_
        refine run_getr fl_X12_77 is_269 (by decide) rfl ce_269_42 dX12_looks_54 ?_
        refine run_iload_n 3 dX12_looks_57 rfl rfl ?_
        obtain ⟨g19, h⟩ := gd_s h
        refine run_iald' is_292 ln_292 g19 rfl dX12_looks_58 ?_
        rw [← Option.some.inj h] at hj23
        refine run_forget [0, 1, 2] rfl ?_
        exact hj23
      · rw [if_pos c18] at h
        refine run_aload_n 0 dX12_looks_44 rfl rfl ?_
        refine run_getr fl_X12_47 is_269 (by decide) rfl ce_269_32 dX12_looks_45 ?_
        refine run_iload_n 2 dX12_looks_48 rfl rfl ?_
        obtain ⟨g20, h⟩ := gd_s h
        refine run_iald' is_282 ln_282 g20 rfl dX12_looks_49 ?_
        refine run_goto 59 dX12_looks_50 (by decide) ?_
        rw [← Option.some.inj h] at hj23
        refine run_forget [0, 1, 2] rfl ?_
        exact hj23
def HX12_scans : Nat := 5
theorem HX12_scans_X12_guards_lt (d : Nat) : d + HX12_guards < d + HX12_scans := Nat.add_lt_add_left (by decide) d
theorem HX12_scans_X12_isInView_lt (d : Nat) : d + HX12_isInView < d + HX12_scans := Nat.add_lt_add_left (by decide) d
theorem HX12_scans_X12_looks_lt (d : Nat) : d + HX12_looks < d + HX12_scans := Nat.add_lt_add_left (by decide) d
theorem HX12_scans_X12_nodeOf_lt (d : Nat) : d + HX12_nodeOf < d + HX12_scans := Nat.add_lt_add_left (by decide) d
theorem HX12_scans_0 (d : Nat) : 0 < d + HX12_scans := Nat.lt_of_lt_of_le (by decide) (Nat.le_add_left _ d)
def lX12_scans_7 (x1 : Int32) (x2 : Int32) (x3 : Int32) : Nat → Int32 → Mem → Option (Mem)
  | 0, _, _ => none
  | n + 1, x4, σ => (fX12_nodeOf x3 σ).bind fun q2 => if q2.1 < x4 then (some q2.2) else ((fX12_guards x1 x4 q2.2).bind fun q4 => lX12_scans_7 x1 x2 x3 n (x4 + 1) q4)
set_option maxRecDepth 20000 in
theorem lpX12_scans_7 (G : GT) (d : Nat) (x1 : Int32) (x2 : Int32) (x3 : Int32)  {K : Option Value → Mem → Prop} : ∀ (n : Nat) (x4 : Int32) (σ : Mem) (o : Mem), lX12_scans_7 x1 x2 x3 n x4 σ = some o → (Run G RX12 cX12_scans 5 none (mF G (d + HX12_scans) K) 30 [(0, .ref (gA G 269)), (1, .int x1), (2, .int x2), (3, .int x3)] [] o) → Run G RX12 cX12_scans 5 none (mF G (d + HX12_scans) K) 7 [(0, .ref (gA G 269)), (1, .int x1), (2, .int x2), (3, .int x3), (4, .int x4)] [] σ := by
  intro n
  induction n with
  | zero => intro x4 σ o h; exact absurd h (by simp [lX12_scans_7])
  | succ n ih =>
    intro x4 σ o h kx
    rw [lX12_scans_7] at h
    refine run_iload 4 dX12_scans_7 rfl ?_
    refine run_aload_n 0 dX12_scans_9 rfl rfl ?_
    refine run_iload_n 3 dX12_scans_10 rfl rfl ?_
    obtain ⟨q2, h6, h⟩ := Option.bind_eq_some_iff.mp h
    refine run_callVi (As := [.int x3]) (fun r z => (r, z) = q2) mw_X12_nodeOf mi_X12_nodeOf ml_X12_369 is_269 (by decide) rfl rfl rfl (RF.lt (HX12_scans_X12_nodeOf_lt d)) (Nat.le_of_ble_eq_true rfl) dX12_scans_11 (sX12_nodeOf G d  h6) (fun r z h8 => ?_) rfl
    rw [show r = q2.1 from congrArg Prod.fst h8, show z = q2.2 from congrArg Prod.snd h8]
    clear h8
    refine run_icmp_gt 30 dX12_scans_14 (by decide) (fun c3 => ?_) (fun c3 => ?_)
    · rw [if_pos c3] at h
      rw [← Option.some.inj h] at kx
      refine run_forget [0, 1, 2, 3] rfl ?_
      exact kx
    · rw [if_neg c3] at h
      refine run_aload_n 0 dX12_scans_17 rfl rfl ?_
      refine run_iload_n 1 dX12_scans_18 rfl rfl ?_
      refine run_iload 4 dX12_scans_19 rfl ?_
      obtain ⟨q4, h5, h⟩ := Option.bind_eq_some_iff.mp h
      refine run_callVv (As := [.int x1, .int x4]) (fun z => z = q4) mw_X12_guards mi_X12_guards ml_X12_387 is_269 (by decide) rfl rfl rfl (RF.lt (HX12_scans_X12_guards_lt d)) (Nat.le_of_ble_eq_true rfl) dX12_scans_21 (sX12_guards G d  h5) (fun z h8 => ?_) rfl
      rw [h8]
      clear h8
      refine run_iinc 4 [(0, .ref (gA G 269)), (1, .int x1), (2, .int x2), (3, .int x3), (4, .int (x4 + 1))] [1, 2, 3, 4, 0] dX12_scans_24 rfl rfl (by decide) rfl ?_
      refine run_goto 7 dX12_scans_27 (by decide) ?_
      exact ih _ _ _ h kx
def lX12_scans_33 (x1 : Int32) (x3 : Int32) : Nat → Int32 → Mem → Option (Mem)
  | 0, _, _ => none
  | n + 1, x4, σ => if x3 < x4 then (some σ) else ((fX12_isInView x1 x4 σ).bind fun q9 => (if q9.1 = true then ((fX12_looks x1 x4 q9.2).bind fun q11 => some q11) else (some q9.2) : Option (Mem)).bind fun q13 => lX12_scans_33 x1 x3 n (x4 + 1) q13)
set_option maxRecDepth 20000 in
theorem lpX12_scans_33 (G : GT) (d : Nat) (x1 : Int32) (x3 : Int32)  {K : Option Value → Mem → Prop} : ∀ (n : Nat) (x4 : Int32) (σ : Mem) (o : Mem), lX12_scans_33 x1 x3 n x4 σ = some o → (Run G RX12 cX12_scans 5 none (mF G (d + HX12_scans) K) 62 [] [] o) → Run G RX12 cX12_scans 5 none (mF G (d + HX12_scans) K) 33 [(0, .ref (gA G 269)), (1, .int x1), (3, .int x3), (4, .int x4)] [] σ := by
  intro n
  induction n with
  | zero => intro x4 σ o h; exact absurd h (by simp [lX12_scans_33])
  | succ n ih =>
    intro x4 σ o h kx
    rw [lX12_scans_33] at h
    refine run_iload 3 dX12_scans_33 rfl ?_
    refine run_iload_n 2 dX12_scans_35 rfl rfl ?_
    refine run_icmp_gt 62 dX12_scans_36 (by decide) (fun c8 => ?_) (fun c8 => ?_)
    · rw [if_pos c8] at h
      rw [← Option.some.inj h] at kx
      refine run_forget [] rfl ?_
      exact kx
    · rw [if_neg c8] at h
      refine run_aload_n 0 dX12_scans_39 rfl rfl ?_
      refine run_iload_n 1 dX12_scans_40 rfl rfl ?_
      refine run_iload 3 dX12_scans_41 rfl ?_
      obtain ⟨q9, h15, h⟩ := Option.bind_eq_some_iff.mp h
      refine run_callVb (As := [.int x1, .int x4]) (fun r z => (r, z) = q9) mw_X12_isInView mi_X12_isInView ml_X12_384 is_269 (by decide) rfl rfl rfl (RF.lt (HX12_scans_X12_isInView_lt d)) (Nat.le_of_ble_eq_true rfl) dX12_scans_43 (sX12_isInView G d  h15) (fun r z h8 => ?_) rfl
      rw [show r = q9.1 from congrArg Prod.fst h8, show z = q9.2 from congrArg Prod.snd h8]
      clear h8
      obtain ⟨q13, h, h9⟩ := Option.bind_eq_some_iff.mp h
      have hj14 : Run G RX12 cX12_scans 5 none (mF G (d + HX12_scans) K) 56 [(0, .ref (gA G 269)), (1, .int x1), (3, .int x3), (4, .int x4)] [] q13 := by
        clear h
        have h := h9
        clear h9
        refine run_iinc 3 [(0, .ref (gA G 269)), (1, .int x1), (3, .int x3), (4, .int (x4 + 1))] [1, 2, 3, 0] dX12_scans_56 rfl rfl (by decide) rfl ?_
        refine run_goto 33 dX12_scans_59 (by decide) ?_
        exact ih _ _ _ h kx
      clear h9
      refine run_ifb_eq 56 dX12_scans_46 (by decide) (fun c10 => ?_) (fun c10 => ?_)
      · rw [if_neg c10] at h
        rw [← Option.some.inj h] at hj14
        exact hj14
      · rw [if_pos c10] at h
        refine run_aload_n 0 dX12_scans_49 rfl rfl ?_
        refine run_iload_n 1 dX12_scans_50 rfl rfl ?_
        refine run_iload 3 dX12_scans_51 rfl ?_
        obtain ⟨q11, h12, h⟩ := Option.bind_eq_some_iff.mp h
        refine run_callVv (As := [.int x1, .int x4]) (fun z => z = q11) mw_X12_looks mi_X12_looks ml_X12_393 is_269 (by decide) rfl rfl rfl (RF.lt (HX12_scans_X12_looks_lt d)) (Nat.le_of_ble_eq_true rfl) dX12_scans_53 (sX12_looks G d  h12) (fun z h8 => ?_) rfl
        rw [h8]
        clear h8
        rw [← Option.some.inj h] at hj14
        exact hj14
def fX12_scans (x1 : Int32) (x2 : Int32) (x3 : Int32) (σ : Mem) : Option Mem := (fX12_nodeOf x2 σ).bind fun q1 => (lX12_scans_7 x1 x2 x3 FU q1.1 q1.2).bind fun q7 => (lX12_scans_33 x1 x3 FU x2 q7).bind fun q16 => some q16
set_option maxRecDepth 20000 in
theorem sX12_scans (G : GT) (d : Nat) {x1 : Int32} {x2 : Int32} {x3 : Int32}  {σ : Mem} {o : Mem} (h : fX12_scans x1 x2 x3 σ = some o) : Spec G yX12_scans cX12_scans 5 none (d + HX12_scans) [.ref (gA G 269), .int x1, .int x2, .int x3] σ (kV fun z => z = o) := by
  refine spec_run (by decide) (Nat.le_of_ble_eq_true rfl) ?_
  unfold fX12_scans at h
  show Run G RX12 cX12_scans 5 none _ 0 [(0, .ref (gA G 269)), (1, .int x1), (2, .int x2), (3, .int x3)] [] σ
  refine run_aload_n 0 dX12_scans_0 rfl rfl ?_
  refine run_iload_n 2 dX12_scans_1 rfl rfl ?_
  obtain ⟨q1, h19, h⟩ := Option.bind_eq_some_iff.mp h
  refine run_callVi (As := [.int x2]) (fun r z => (r, z) = q1) mw_X12_nodeOf mi_X12_nodeOf ml_X12_369 is_269 (by decide) rfl rfl rfl (RF.lt (HX12_scans_X12_nodeOf_lt d)) (Nat.le_of_ble_eq_true rfl) dX12_scans_2 (sX12_nodeOf G d  h19) (fun r z h8 => ?_) rfl
  rw [show r = q1.1 from congrArg Prod.fst h8, show z = q1.2 from congrArg Prod.snd h8]
  clear h8
  refine run_istore [(0, .ref (gA G 269)), (1, .int x1), (2, .int x2), (3, .int x3), (4, .int q1.1)] [1, 2, 3, 4, 0] dX12_scans_5 (by decide) rfl ?_
  obtain ⟨q7, h18, h⟩ := Option.bind_eq_some_iff.mp h
  refine lpX12_scans_7 G d _ _ _ _ _ _ _ h18 ?_
  refine run_iload_n 2 dX12_scans_30 rfl rfl ?_
  refine run_istore [(0, .ref (gA G 269)), (1, .int x1), (3, .int x3), (4, .int x2)] [1, 2, 4, 0] dX12_scans_31 (by decide) rfl ?_
  obtain ⟨q16, h17, h⟩ := Option.bind_eq_some_iff.mp h
  refine lpX12_scans_33 G d _ _ _ _ _ _ h17 ?_
  exact run_vret dX12_scans_62 ⟨rfl, Option.some.inj h⟩
