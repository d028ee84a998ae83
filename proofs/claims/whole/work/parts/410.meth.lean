/-! methods, translated -/
def HX12_stepDoes : Nat := 6
theorem HX12_stepDoes_X12_looks_lt (d : Nat) : d + HX12_looks < d + HX12_stepDoes := Nat.add_lt_add_left (by decide) d
theorem HX12_stepDoes_X12_scans_lt (d : Nat) : d + HX12_scans < d + HX12_stepDoes := Nat.add_lt_add_left (by decide) d
theorem HX12_stepDoes_X12_view_lt (d : Nat) : d + HX12_view < d + HX12_stepDoes := Nat.add_lt_add_left (by decide) d
theorem HX12_stepDoes_0 (d : Nat) : 0 < d + HX12_stepDoes := Nat.lt_of_lt_of_le (by decide) (Nat.le_add_left _ d)
def fX12_stepDoes (x1 : Int32) (x2 : Int32) (x3 : Int32) (x4 : Int32) (σ : Mem) : Option Mem := if x2 = 0 then ((fX12_looks x1 x3 σ).bind fun q2 => some q2) else (if x2 = 1 then (gd (inb (((10 : Int32) * x1) + x3) 40) (some (st2 σ 294 (Int32.toNatClampNeg (((10 : Int32) * x1) + x3)) (-1)))) else (if x2 = 2 then (gd (inb x1 4) (gd (inb (((10 : Int32) * x1) + x3) 40) (some (st2 σ 294 (Int32.toNatClampNeg (((10 : Int32) * x1) + x3)) (σ 288 (Int32.toNatClampNeg x1)))))) else (if x2 = 3 then (gd (inb (((10 : Int32) * x1) + x3) 40) (some (st2 σ 294 (Int32.toNatClampNeg (((10 : Int32) * x1) + x3)) x4))) else (if x2 = 4 then ((fX12_looks x1 x3 σ).bind fun q12 => (fX12_view x1 x3 q12).bind fun q13 => gd (inb (((10 : Int32) * x1) + x3) 40) (some (st2 q13.2 294 (Int32.toNatClampNeg (((10 : Int32) * x1) + x3)) ((q13.1 + x4) % 100)))) else ((fX12_scans x1 x3 x4 σ).bind fun q17 => some q17)))))
set_option maxRecDepth 20000 in
theorem sX12_stepDoes (G : GT) (d : Nat) {x1 : Int32} {x2 : Int32} {x3 : Int32} {x4 : Int32}  {σ : Mem} {o : Mem} (h : fX12_stepDoes x1 x2 x3 x4 σ = some o) : Spec G yX12_stepDoes cX12_stepDoes 6 none (d + HX12_stepDoes) [.ref (gA G 269), .int x1, .int x2, .int x3, .int x4] σ (kV fun z => z = o) := by
  refine spec_run (by decide) (Nat.le_of_ble_eq_true rfl) ?_
  unfold fX12_stepDoes at h
  show Run G RX12 cX12_stepDoes 6 none _ 0 [(0, .ref (gA G 269)), (1, .int x1), (2, .int x2), (3, .int x3), (4, .int x4)] [] σ
  refine run_bipush (v := 10) dX12_stepDoes_0 rfl ?_
  refine run_iload_n 1 dX12_stepDoes_2 rfl rfl ?_
  refine run_imul dX12_stepDoes_3 ?_
  refine run_iload_n 3 dX12_stepDoes_4 rfl rfl ?_
  refine run_iadd dX12_stepDoes_5 ?_
  refine run_istore [(0, .ref (gA G 269)), (1, .int x1), (2, .int x2), (3, .int x3), (4, .int x4), (5, .int (((10 : Int32) * x1) + x3))] [1, 2, 3, 4, 5, 0] dX12_stepDoes_6 (by decide) rfl ?_
  refine run_iload_n 2 dX12_stepDoes_8 rfl rfl ?_
  by_cases c1 : x2 = 0
  · rw [if_pos c1] at h
    refine run_tblIn 44 dX12_stepDoes_9 (by rw [c1]; decide) (by rw [c1]; decide) (off := 35) (by rw [c1]; rfl) (by decide) ?_
    refine run_aload_n 0 dX12_stepDoes_44 rfl rfl ?_
    refine run_iload_n 1 dX12_stepDoes_45 rfl rfl ?_
    refine run_iload_n 3 dX12_stepDoes_46 rfl rfl ?_
    obtain ⟨q2, h3, h⟩ := Option.bind_eq_some_iff.mp h
    refine run_callVv (As := [.int x1, .int x3]) (fun z => z = q2) mw_X12_looks mi_X12_looks ml_X12_393 is_269 (by decide) rfl rfl rfl (RF.lt (HX12_stepDoes_X12_looks_lt d)) (Nat.le_of_ble_eq_true rfl) dX12_stepDoes_47 (sX12_looks G d  h3) (fun z h8 => ?_) rfl
    rw [h8]
    clear h8
    refine run_goto 128 dX12_stepDoes_50 (by decide) ?_
    exact run_vret dX12_stepDoes_128 ⟨rfl, Option.some.inj h⟩
  · rw [if_neg c1] at h
    by_cases c4 : x2 = 1
    · rw [if_pos c4] at h
      refine run_tblIn 53 dX12_stepDoes_9 (by rw [c4]; decide) (by rw [c4]; decide) (off := 44) (by rw [c4]; rfl) (by decide) ?_
      refine run_aload_n 0 dX12_stepDoes_53 rfl rfl ?_
      refine run_getr fl_X12_83 is_269 (by decide) rfl ce_269_44 dX12_stepDoes_54 ?_
      refine run_iload 5 dX12_stepDoes_57 rfl ?_
      refine run_iconst (v := -1) dX12_stepDoes_59 rfl ?_
      obtain ⟨g5, h⟩ := gd_s h
      refine run_iast' is_294 ln_294 g5 rfl dX12_stepDoes_60 ?_
      refine run_goto 128 dX12_stepDoes_61 (by decide) ?_
      exact run_vret dX12_stepDoes_128 ⟨rfl, Option.some.inj h⟩
    · rw [if_neg c4] at h
      by_cases c6 : x2 = 2
      · rw [if_pos c6] at h
        refine run_tblIn 64 dX12_stepDoes_9 (by rw [c6]; decide) (by rw [c6]; decide) (off := 55) (by rw [c6]; rfl) (by decide) ?_
        refine run_aload_n 0 dX12_stepDoes_64 rfl rfl ?_
        refine run_getr fl_X12_83 is_269 (by decide) rfl ce_269_44 dX12_stepDoes_65 ?_
        refine run_iload 5 dX12_stepDoes_68 rfl ?_
        refine run_aload_n 0 dX12_stepDoes_70 rfl rfl ?_
        refine run_getr fl_X12_65 is_269 (by decide) rfl ce_269_38 dX12_stepDoes_71 ?_
        refine run_iload_n 1 dX12_stepDoes_74 rfl rfl ?_
        obtain ⟨g7, h⟩ := gd_s h
        refine run_iald' is_288 ln_288 g7 rfl dX12_stepDoes_75 ?_
        obtain ⟨g8, h⟩ := gd_s h
        refine run_iast' is_294 ln_294 g8 rfl dX12_stepDoes_76 ?_
        refine run_goto 128 dX12_stepDoes_77 (by decide) ?_
        exact run_vret dX12_stepDoes_128 ⟨rfl, Option.some.inj h⟩
      · rw [if_neg c6] at h
        by_cases c9 : x2 = 3
        · rw [if_pos c9] at h
          refine run_tblIn 80 dX12_stepDoes_9 (by rw [c9]; decide) (by rw [c9]; decide) (off := 71) (by rw [c9]; rfl) (by decide) ?_
          refine run_aload_n 0 dX12_stepDoes_80 rfl rfl ?_
          refine run_getr fl_X12_83 is_269 (by decide) rfl ce_269_44 dX12_stepDoes_81 ?_
          refine run_iload 5 dX12_stepDoes_84 rfl ?_
          refine run_iload 4 dX12_stepDoes_86 rfl ?_
          obtain ⟨g10, h⟩ := gd_s h
          refine run_iast' is_294 ln_294 g10 rfl dX12_stepDoes_88 ?_
          refine run_goto 128 dX12_stepDoes_89 (by decide) ?_
          exact run_vret dX12_stepDoes_128 ⟨rfl, Option.some.inj h⟩
        · rw [if_neg c9] at h
          by_cases c11 : x2 = 4
          · rw [if_pos c11] at h
            refine run_tblIn 92 dX12_stepDoes_9 (by rw [c11]; decide) (by rw [c11]; decide) (off := 83) (by rw [c11]; rfl) (by decide) ?_
            refine run_aload_n 0 dX12_stepDoes_92 rfl rfl ?_
            refine run_iload_n 1 dX12_stepDoes_93 rfl rfl ?_
            refine run_iload_n 3 dX12_stepDoes_94 rfl rfl ?_
            obtain ⟨q12, h16, h⟩ := Option.bind_eq_some_iff.mp h
            refine run_callVv (As := [.int x1, .int x3]) (fun z => z = q12) mw_X12_looks mi_X12_looks ml_X12_393 is_269 (by decide) rfl rfl rfl (RF.lt (HX12_stepDoes_X12_looks_lt d)) (Nat.le_of_ble_eq_true rfl) dX12_stepDoes_95 (sX12_looks G d  h16) (fun z h8 => ?_) rfl
            rw [h8]
            clear h8
            refine run_aload_n 0 dX12_stepDoes_98 rfl rfl ?_
            refine run_getr fl_X12_83 is_269 (by decide) rfl ce_269_44 dX12_stepDoes_99 ?_
            refine run_iload 5 dX12_stepDoes_102 rfl ?_
            refine run_aload_n 0 dX12_stepDoes_104 rfl rfl ?_
            refine run_iload_n 1 dX12_stepDoes_105 rfl rfl ?_
            refine run_iload_n 3 dX12_stepDoes_106 rfl rfl ?_
            obtain ⟨q13, h15, h⟩ := Option.bind_eq_some_iff.mp h
            refine run_callVi (As := [.int x1, .int x3]) (fun r z => (r, z) = q13) mw_X12_view mi_X12_view ml_X12_390 is_269 (by decide) rfl rfl rfl (RF.lt (HX12_stepDoes_X12_view_lt d)) (Nat.le_of_ble_eq_true rfl) dX12_stepDoes_107 (sX12_view G d  h15) (fun r z h8 => ?_) rfl
            rw [show r = q13.1 from congrArg Prod.fst h8, show z = q13.2 from congrArg Prod.snd h8]
            clear h8
            refine run_iload 4 dX12_stepDoes_110 rfl ?_
            refine run_iadd dX12_stepDoes_112 ?_
            refine run_bipush (v := 100) dX12_stepDoes_113 rfl ?_
            refine run_irem dX12_stepDoes_115 (by decide) ?_
            obtain ⟨g14, h⟩ := gd_s h
            refine run_iast' is_294 ln_294 g14 rfl dX12_stepDoes_116 ?_
            refine run_goto 128 dX12_stepDoes_117 (by decide) ?_
            exact run_vret dX12_stepDoes_128 ⟨rfl, Option.some.inj h⟩
          · rw [if_neg c11] at h
            refine run_tblOut 120 dX12_stepDoes_9 (by have tc1 := tbl_ne c1 (z := 0) rfl; have tc4 := tbl_ne c4 (z := 1) rfl; have tc6 := tbl_ne c6 (z := 2) rfl; have tc9 := tbl_ne c9 (z := 3) rfl; have tc11 := tbl_ne c11 (z := 4) rfl; omega) (by decide) ?_
            refine run_aload_n 0 dX12_stepDoes_120 rfl rfl ?_
            refine run_iload_n 1 dX12_stepDoes_121 rfl rfl ?_
            refine run_iload_n 3 dX12_stepDoes_122 rfl rfl ?_
            refine run_iload 4 dX12_stepDoes_123 rfl ?_
            obtain ⟨q17, h18, h⟩ := Option.bind_eq_some_iff.mp h
            refine run_callVv (As := [.int x1, .int x3, .int x4]) (fun z => z = q17) mw_X12_scans mi_X12_scans ml_X12_396 is_269 (by decide) rfl rfl rfl (RF.lt (HX12_stepDoes_X12_scans_lt d)) (Nat.le_of_ble_eq_true rfl) dX12_stepDoes_125 (sX12_scans G d  h18) (fun z h8 => ?_) rfl
            rw [h8]
            clear h8
            exact run_vret dX12_stepDoes_128 ⟨rfl, Option.some.inj h⟩
def HX12_steps : Nat := 7
theorem HX12_steps_X12_ofTask_lt (d : Nat) : d + HX12_ofTask < d + HX12_steps := Nat.add_lt_add_left (by decide) d
theorem HX12_steps_X12_stepDoes_lt (d : Nat) : d + HX12_stepDoes < d + HX12_steps := Nat.add_lt_add_left (by decide) d
theorem HX12_steps_X12_stepsOf_lt (d : Nat) : d + HX12_stepsOf < d + HX12_steps := Nat.add_lt_add_left (by decide) d
theorem HX12_steps_0 (d : Nat) : 0 < d + HX12_steps := Nat.lt_of_lt_of_le (by decide) (Nat.le_add_left _ d)
def fX12_steps (x1 : Int32) (σ : Mem) : Option (Bool × Mem) := gd (inb x1 4) (if (σ 286 (Int32.toNatClampNeg x1)) = (-1) then (some (false, σ)) else (gd (inb x1 4) ((fX12_stepsOf (σ 286 (Int32.toNatClampNeg x1)) σ).bind fun q4 => if (σ 287 (Int32.toNatClampNeg x1)) = q4.1 then (some (false, q4.2)) else (gd (inb x1 4) ((some (((1 : Int32) + ((3 : Int32) * (q4.2 287 (Int32.toNatClampNeg x1)))))).bind fun y7 => (fX12_ofTask (σ 286 (Int32.toNatClampNeg x1)) y7 q4.2).bind fun q8 => (fX12_ofTask (σ 286 (Int32.toNatClampNeg x1)) (y7 + 1) q8.2).bind fun q9 => (fX12_ofTask (σ 286 (Int32.toNatClampNeg x1)) (y7 + 2) q9.2).bind fun q10 => (fX12_stepDoes x1 q8.1 q9.1 q10.1 q10.2).bind fun q11 => gd (inb x1 4) (gd (inb x1 4) (some (true, (st2 q11 287 (Int32.toNatClampNeg x1) ((q11 287 (Int32.toNatClampNeg x1)) + 1))))))))))
set_option maxRecDepth 20000 in
theorem sX12_steps (G : GT) (d : Nat) {x1 : Int32}  {σ : Mem} {o : (Bool × Mem)} (h : fX12_steps x1 σ = some o) : Spec G yX12_steps cX12_steps 4 (some .boolean) (d + HX12_steps) [.ref (gA G 269), .int x1] σ (kB fun x z => (x, z) = o) := by
  refine spec_run (by decide) (Nat.le_of_ble_eq_true rfl) ?_
  unfold fX12_steps at h
  show Run G RX12 cX12_steps 4 (some .boolean) _ 0 [(0, .ref (gA G 269)), (1, .int x1)] [] σ
  refine run_aload_n 0 dX12_steps_0 rfl rfl ?_
  refine run_getr fl_X12_59 is_269 (by decide) rfl ce_269_36 dX12_steps_1 ?_
  refine run_iload_n 1 dX12_steps_4 rfl rfl ?_
  obtain ⟨g1, h⟩ := gd_s h
  refine run_iald' is_286 ln_286 g1 rfl dX12_steps_5 ?_
  refine run_istore_n [(0, .ref (gA G 269)), (1, .int x1), (2, .int (σ 286 (Int32.toNatClampNeg x1)))] [1, 2, 0] dX12_steps_6 rfl (by decide) rfl ?_
  refine run_iload_n 2 dX12_steps_7 rfl rfl ?_
  refine run_iconst (v := -1) dX12_steps_8 rfl ?_
  refine run_icmp_eq 26 dX12_steps_9 (by decide) (fun c2 => ?_) (fun c2 => ?_)
  · rw [if_pos c2] at h
    refine run_iconst (v := 0) dX12_steps_26 rfl ?_
    exact run_bret (b := false) dX12_steps_27 ⟨_, rfl, Option.some.inj h⟩
  · rw [if_neg c2] at h
    refine run_aload_n 0 dX12_steps_12 rfl rfl ?_
    refine run_getr fl_X12_62 is_269 (by decide) rfl ce_269_37 dX12_steps_13 ?_
    refine run_iload_n 1 dX12_steps_16 rfl rfl ?_
    obtain ⟨g3, h⟩ := gd_s h
    refine run_iald' is_287 ln_287 g3 rfl dX12_steps_17 ?_
    refine run_aload_n 0 dX12_steps_18 rfl rfl ?_
    refine run_iload_n 2 dX12_steps_19 rfl rfl ?_
    obtain ⟨q4, h18, h⟩ := Option.bind_eq_some_iff.mp h
    refine run_callVi (As := [.int (σ 286 (Int32.toNatClampNeg x1))]) (fun r z => (r, z) = q4) mw_X12_stepsOf mi_X12_stepsOf ml_X12_381 is_269 (by decide) rfl rfl rfl (RF.lt (HX12_steps_X12_stepsOf_lt d)) (Nat.le_of_ble_eq_true rfl) dX12_steps_20 (sX12_stepsOf G d  h18) (fun r z h8 => ?_) rfl
    rw [show r = q4.1 from congrArg Prod.fst h8, show z = q4.2 from congrArg Prod.snd h8]
    clear h8
    refine run_icmp_ne 28 dX12_steps_23 (by decide) (fun c5 => ?_) (fun c5 => ?_)
    · rw [if_neg c5] at h
      refine run_iconst (v := 1) dX12_steps_28 rfl ?_
      refine run_iconst (v := 3) dX12_steps_29 rfl ?_
      refine run_aload_n 0 dX12_steps_30 rfl rfl ?_
      refine run_getr fl_X12_62 is_269 (by decide) rfl ce_269_37 dX12_steps_31 ?_
      refine run_iload_n 1 dX12_steps_34 rfl rfl ?_
      obtain ⟨g6, h⟩ := gd_s h
      refine run_iald' is_287 ln_287 g6 rfl dX12_steps_35 ?_
      refine run_imul dX12_steps_36 ?_
      refine run_iadd dX12_steps_37 ?_
      rw [Option.bind_some] at h
      refine run_topi (fun y7 ey7 => ?_)
      rw [← ey7] at h
      refine run_istore_n [(0, .ref (gA G 269)), (1, .int x1), (2, .int (σ 286 (Int32.toNatClampNeg x1))), (3, .int y7)] [1, 2, 3, 0] dX12_steps_38 rfl (by decide) rfl ?_
      refine run_aload_n 0 dX12_steps_39 rfl rfl ?_
      refine run_iload_n 1 dX12_steps_40 rfl rfl ?_
      refine run_aload_n 0 dX12_steps_41 rfl rfl ?_
      refine run_iload_n 2 dX12_steps_42 rfl rfl ?_
      refine run_iload_n 3 dX12_steps_43 rfl rfl ?_
      obtain ⟨q8, h17, h⟩ := Option.bind_eq_some_iff.mp h
      refine run_callVi (As := [.int (σ 286 (Int32.toNatClampNeg x1)), .int y7]) (fun r z => (r, z) = q8) mw_X12_ofTask mi_X12_ofTask ml_X12_320 is_269 (by decide) rfl rfl rfl (RF.lt (HX12_steps_X12_ofTask_lt d)) (Nat.le_of_ble_eq_true rfl) dX12_steps_44 (sX12_ofTask G d  h17) (fun r z h8 => ?_) rfl
      rw [show r = q8.1 from congrArg Prod.fst h8, show z = q8.2 from congrArg Prod.snd h8]
      clear h8
      refine run_aload_n 0 dX12_steps_47 rfl rfl ?_
      refine run_iload_n 2 dX12_steps_48 rfl rfl ?_
      refine run_iload_n 3 dX12_steps_49 rfl rfl ?_
      refine run_iconst (v := 1) dX12_steps_50 rfl ?_
      refine run_iadd dX12_steps_51 ?_
      obtain ⟨q9, h16, h⟩ := Option.bind_eq_some_iff.mp h
      refine run_callVi (As := [.int (σ 286 (Int32.toNatClampNeg x1)), .int (y7 + 1)]) (fun r z => (r, z) = q9) mw_X12_ofTask mi_X12_ofTask ml_X12_320 is_269 (by decide) rfl rfl rfl (RF.lt (HX12_steps_X12_ofTask_lt d)) (Nat.le_of_ble_eq_true rfl) dX12_steps_52 (sX12_ofTask G d  h16) (fun r z h8 => ?_) rfl
      rw [show r = q9.1 from congrArg Prod.fst h8, show z = q9.2 from congrArg Prod.snd h8]
      clear h8
      refine run_aload_n 0 dX12_steps_55 rfl rfl ?_
      refine run_iload_n 2 dX12_steps_56 rfl rfl ?_
      refine run_iload_n 3 dX12_steps_57 rfl rfl ?_
      refine run_iconst (v := 2) dX12_steps_58 rfl ?_
      refine run_iadd dX12_steps_59 ?_
      obtain ⟨q10, h15, h⟩ := Option.bind_eq_some_iff.mp h
      refine run_callVi (As := [.int (σ 286 (Int32.toNatClampNeg x1)), .int (y7 + 2)]) (fun r z => (r, z) = q10) mw_X12_ofTask mi_X12_ofTask ml_X12_320 is_269 (by decide) rfl rfl rfl (RF.lt (HX12_steps_X12_ofTask_lt d)) (Nat.le_of_ble_eq_true rfl) dX12_steps_60 (sX12_ofTask G d  h15) (fun r z h8 => ?_) rfl
      rw [show r = q10.1 from congrArg Prod.fst h8, show z = q10.2 from congrArg Prod.snd h8]
      clear h8
      obtain ⟨q11, h14, h⟩ := Option.bind_eq_some_iff.mp h
      refine run_callVv (As := [.int x1, .int q8.1, .int q9.1, .int q10.1]) (fun z => z = q11) mw_X12_stepDoes mi_X12_stepDoes ml_X12_399 is_269 (by decide) rfl rfl rfl (RF.lt (HX12_steps_X12_stepDoes_lt d)) (Nat.le_of_ble_eq_true rfl) dX12_steps_63 (sX12_stepDoes G d  h14) (fun z h8 => ?_) rfl
      rw [h8]
      clear h8
      refine run_aload_n 0 dX12_steps_66 rfl rfl ?_
      refine run_getr fl_X12_62 is_269 (by decide) rfl ce_269_37 dX12_steps_67 ?_
      refine run_iload_n 1 dX12_steps_70 rfl rfl ?_
      refine run_dup2 dX12_steps_71 rfl rfl ?_
      obtain ⟨g12, h⟩ := gd_s h
      refine run_iald' is_287 ln_287 g12 rfl dX12_steps_72 ?_
      refine run_iconst (v := 1) dX12_steps_73 rfl ?_
      refine run_iadd dX12_steps_74 ?_
      obtain ⟨g13, h⟩ := gd_s h
      refine run_iast' is_287 ln_287 g13 rfl dX12_steps_75 ?_
      refine run_iconst (v := 1) dX12_steps_76 rfl ?_
      exact run_bret (b := true) dX12_steps_77 ⟨_, rfl, Option.some.inj h⟩
    · rw [if_pos c5] at h
      refine run_iconst (v := 0) dX12_steps_26 rfl ?_
      exact run_bret (b := false) dX12_steps_27 ⟨_, rfl, Option.some.inj h⟩
def HX12_checks : Nat := 2
theorem HX12_checks_X12_has_lt (d : Nat) : d + HX12_has < d + HX12_checks := Nat.add_lt_add_left (by decide) d
theorem HX12_checks_0 (d : Nat) : 0 < d + HX12_checks := Nat.lt_of_lt_of_le (by decide) (Nat.le_add_left _ d)
def lX12_checks_22 (x1 : Int32) : Nat → Int32 → Mem → Option (Mem)
  | 0, _, _ => none
  | n + 1, x2, σ => if 10 ≤ x2 then (some σ) else (if (σ 269 62) = 1 then (gd (inb (((10 : Int32) * x1) + x2) 40) ((if (σ 292 (Int32.toNatClampNeg (((10 : Int32) * x1) + x2))) = (-1) then (some σ) else ((fX12_has (σ 269 30) x2 σ).bind fun q18 => if q18.1 = true then (gd (inb x2 10) (if (q18.2 282 (Int32.toNatClampNeg x2)) = (σ 292 (Int32.toNatClampNeg (((10 : Int32) * x1) + x2))) then (some q18.2) else (gd (inb x2 10) (some (st2 (st2 (st2 q18.2 269 62 2) 269 63 x2) 269 64 ((st2 (st2 q18.2 269 62 2) 269 63 x2) 284 (Int32.toNatClampNeg x2))))))) else (gd (inb x2 10) (some (st2 (st2 (st2 q18.2 269 62 2) 269 63 x2) 269 64 ((st2 (st2 q18.2 269 62 2) 269 63 x2) 284 (Int32.toNatClampNeg x2)))))) : Option (Mem)).bind fun q25 => lX12_checks_22 x1 n (x2 + 1) q25)) else (some σ))
set_option maxRecDepth 20000 in
theorem lpX12_checks_22 (G : GT) (d : Nat) (x1 : Int32)  {K : Option Value → Mem → Prop} : ∀ (n : Nat) (x2 : Int32) (σ : Mem) (o : Mem), lX12_checks_22 x1 n x2 σ = some o → (Run G RX12 cX12_checks 4 none (mF G (d + HX12_checks) K) 100 [(0, .ref (gA G 269)), (1, .int x1)] [] o) → Run G RX12 cX12_checks 4 none (mF G (d + HX12_checks) K) 22 [(0, .ref (gA G 269)), (1, .int x1), (2, .int x2)] [] σ := by
  intro n
  induction n with
  | zero => intro x2 σ o h; exact absurd h (by simp [lX12_checks_22])
  | succ n ih =>
    intro x2 σ o h kx
    rw [lX12_checks_22] at h
    refine run_iload_n 2 dX12_checks_22 rfl rfl ?_
    refine run_bipush (v := 10) dX12_checks_23 rfl ?_
    refine run_icmp_ge 100 dX12_checks_25 (by decide) (fun c14 => ?_) (fun c14 => ?_)
    · rw [if_pos c14] at h
      rw [← Option.some.inj h] at kx
      refine run_forget [0, 1] rfl ?_
      exact kx
    · rw [if_neg c14] at h
      refine run_aload_n 0 dX12_checks_28 rfl rfl ?_
      refine run_geti fl_X12_403 is_269 (by decide) rfl dX12_checks_29 ?_
      refine run_iconst (v := 1) dX12_checks_32 rfl ?_
      refine run_icmp_ne 100 dX12_checks_33 (by decide) (fun c15 => ?_) (fun c15 => ?_)
      · rw [if_neg c15] at h
        rw [← Option.some.inj h] at kx
        refine run_forget [0, 1] rfl ?_
        exact kx
      · rw [if_pos c15] at h
        refine run_aload_n 0 dX12_checks_36 rfl rfl ?_
        refine run_getr fl_X12_77 is_269 (by decide) rfl ce_269_42 dX12_checks_37 ?_
        refine run_bipush (v := 10) dX12_checks_40 rfl ?_
        refine run_iload_n 1 dX12_checks_42 rfl rfl ?_
        refine run_imul dX12_checks_43 ?_
        refine run_iload_n 2 dX12_checks_44 rfl rfl ?_
        refine run_iadd dX12_checks_45 ?_
        obtain ⟨g16, h⟩ := gd_s h
        refine run_iald' is_292 ln_292 g16 rfl dX12_checks_46 ?_
        refine run_istore_n [(0, .ref (gA G 269)), (1, .int x1), (2, .int x2), (3, .int (σ 292 (Int32.toNatClampNeg (((10 : Int32) * x1) + x2))))] [1, 2, 3, 0] dX12_checks_47 rfl (by decide) rfl ?_
        refine run_iload_n 3 dX12_checks_48 rfl rfl ?_
        refine run_iconst (v := -1) dX12_checks_49 rfl ?_
        obtain ⟨q25, h, h9⟩ := Option.bind_eq_some_iff.mp h
        have hj26 : Run G RX12 cX12_checks 4 none (mF G (d + HX12_checks) K) 94 [(0, .ref (gA G 269)), (1, .int x1), (2, .int x2)] [] q25 := by
          clear h
          have h := h9
          clear h9
          refine run_iinc 2 [(0, .ref (gA G 269)), (1, .int x1), (2, .int (x2 + 1))] [1, 2, 0] dX12_checks_94 rfl rfl (by decide) rfl ?_
          refine run_goto 22 dX12_checks_97 (by decide) ?_
          exact ih _ _ _ h kx
        clear h9
        refine run_icmp_eq 94 dX12_checks_50 (by decide) (fun c17 => ?_) (fun c17 => ?_)
        · rw [if_pos c17] at h
          rw [← Option.some.inj h] at hj26
          refine run_forget [0, 1, 2] rfl ?_
          exact hj26
        · rw [if_neg c17] at h
          refine run_aload_n 0 dX12_checks_53 rfl rfl ?_
          refine run_geti fl_X12_336 is_269 (by decide) rfl dX12_checks_54 ?_
          refine run_iload_n 2 dX12_checks_57 rfl rfl ?_
          obtain ⟨q18, h24, h⟩ := Option.bind_eq_some_iff.mp h
          refine run_callSb (As := [.int (σ 269 30), .int x2]) (fun r z => (r, z) = q18) mw_X12_has ms_X12_has ml_X12_148 rfl (RF.lt (HX12_checks_X12_has_lt d)) (Nat.le_of_ble_eq_true rfl) dX12_checks_58 (sX12_has G d  h24) (fun r z h8 => ?_) rfl
          rw [show r = q18.1 from congrArg Prod.fst h8, show z = q18.2 from congrArg Prod.snd h8]
          clear h8
          refine run_ifb_eq 74 dX12_checks_61 (by decide) (fun c19 => ?_) (fun c19 => ?_)
          · rw [if_neg c19] at h
            refine run_aload_n 0 dX12_checks_74 rfl rfl ?_
            refine run_iconst (v := 2) dX12_checks_75 rfl ?_
            refine run_puti fp_X12_403 is_269 (by decide) rfl dX12_checks_76 ?_
            refine run_aload_n 0 dX12_checks_79 rfl rfl ?_
            refine run_iload_n 2 dX12_checks_80 rfl rfl ?_
            refine run_puti fp_X12_406 is_269 (by decide) rfl dX12_checks_81 ?_
            refine run_aload_n 0 dX12_checks_84 rfl rfl ?_
            refine run_aload_n 0 dX12_checks_85 rfl rfl ?_
            refine run_getr fl_X12_53 is_269 (by decide) rfl ce_269_34 dX12_checks_86 ?_
            refine run_iload_n 2 dX12_checks_89 rfl rfl ?_
            obtain ⟨g20, h⟩ := gd_s h
            refine run_iald' is_284 ln_284 g20 rfl dX12_checks_90 ?_
            refine run_puti fp_X12_409 is_269 (by decide) rfl dX12_checks_91 ?_
            rw [← Option.some.inj h] at hj26
            refine run_forget [0, 1, 2] rfl ?_
            exact hj26
          · rw [if_pos c19] at h
            refine run_aload_n 0 dX12_checks_64 rfl rfl ?_
            refine run_getr fl_X12_47 is_269 (by decide) rfl ce_269_32 dX12_checks_65 ?_
            refine run_iload_n 2 dX12_checks_68 rfl rfl ?_
            obtain ⟨g21, h⟩ := gd_s h
            refine run_iald' is_282 ln_282 g21 rfl dX12_checks_69 ?_
            refine run_iload_n 3 dX12_checks_70 rfl rfl ?_
            refine run_icmp_eq 94 dX12_checks_71 (by decide) (fun c22 => ?_) (fun c22 => ?_)
            · rw [if_pos c22] at h
              rw [← Option.some.inj h] at hj26
              refine run_forget [0, 1, 2] rfl ?_
              exact hj26
            · rw [if_neg c22] at h
              refine run_aload_n 0 dX12_checks_74 rfl rfl ?_
              refine run_iconst (v := 2) dX12_checks_75 rfl ?_
              refine run_puti fp_X12_403 is_269 (by decide) rfl dX12_checks_76 ?_
              refine run_aload_n 0 dX12_checks_79 rfl rfl ?_
              refine run_iload_n 2 dX12_checks_80 rfl rfl ?_
              refine run_puti fp_X12_406 is_269 (by decide) rfl dX12_checks_81 ?_
              refine run_aload_n 0 dX12_checks_84 rfl rfl ?_
              refine run_aload_n 0 dX12_checks_85 rfl rfl ?_
              refine run_getr fl_X12_53 is_269 (by decide) rfl ce_269_34 dX12_checks_86 ?_
              refine run_iload_n 2 dX12_checks_89 rfl rfl ?_
              obtain ⟨g23, h⟩ := gd_s h
              refine run_iald' is_284 ln_284 g23 rfl dX12_checks_90 ?_
              refine run_puti fp_X12_409 is_269 (by decide) rfl dX12_checks_91 ?_
              rw [← Option.some.inj h] at hj26
              refine run_forget [0, 1, 2] rfl ?_
              exact hj26
def lX12_checks_102 (x1 : Int32) : Nat → Int32 → Mem → Option (Mem)
  | 0, _, _ => none
  | n + 1, x2, σ => if (σ 269 28) ≤ x2 then (some σ) else (if (σ 269 62) = 1 then (gd (inb (((10 : Int32) * x1) + x2) 40) ((if (σ 293 (Int32.toNatClampNeg (((10 : Int32) * x1) + x2))) = (-1) then (some σ) else (gd (inb x2 10) (if (σ 283 (Int32.toNatClampNeg x2)) = (σ 293 (Int32.toNatClampNeg (((10 : Int32) * x1) + x2))) then (some σ) else (gd (inb x2 10) (some (st2 (st2 (st2 σ 269 62 3) 269 63 x2) 269 64 ((st2 (st2 σ 269 62 3) 269 63 x2) 285 (Int32.toNatClampNeg x2))))))) : Option (Mem)).bind fun q44 => lX12_checks_102 x1 n (x2 + 1) q44)) else (some σ))
set_option maxRecDepth 20000 in
theorem lpX12_checks_102 (G : GT) (d : Nat) (x1 : Int32)  {K : Option Value → Mem → Prop} : ∀ (n : Nat) (x2 : Int32) (σ : Mem) (o : Mem), lX12_checks_102 x1 n x2 σ = some o → (Run G RX12 cX12_checks 4 none (mF G (d + HX12_checks) K) 171 [] [] o) → Run G RX12 cX12_checks 4 none (mF G (d + HX12_checks) K) 102 [(0, .ref (gA G 269)), (1, .int x1), (2, .int x2)] [] σ := by
  intro n
  induction n with
  | zero => intro x2 σ o h; exact absurd h (by simp [lX12_checks_102])
  | succ n ih =>
    intro x2 σ o h kx
    rw [lX12_checks_102] at h
    refine run_iload_n 2 dX12_checks_102 rfl rfl ?_
    refine run_aload_n 0 dX12_checks_103 rfl rfl ?_
    refine run_geti fl_X12_372 is_269 (by decide) rfl dX12_checks_104 ?_
    refine run_icmp_ge 171 dX12_checks_107 (by decide) (fun c37 => ?_) (fun c37 => ?_)
    · rw [if_pos c37] at h
      rw [← Option.some.inj h] at kx
      refine run_forget [] rfl ?_
      exact kx
    · rw [if_neg c37] at h
      refine run_aload_n 0 dX12_checks_110 rfl rfl ?_
      refine run_geti fl_X12_403 is_269 (by decide) rfl dX12_checks_111 ?_
      refine run_iconst (v := 1) dX12_checks_114 rfl ?_
      refine run_icmp_ne 171 dX12_checks_115 (by decide) (fun c38 => ?_) (fun c38 => ?_)
      · rw [if_neg c38] at h
        rw [← Option.some.inj h] at kx
        refine run_forget [] rfl ?_
        exact kx
      · rw [if_pos c38] at h
        refine run_aload_n 0 dX12_checks_118 rfl rfl ?_
        refine run_getr fl_X12_80 is_269 (by decide) rfl ce_269_43 dX12_checks_119 ?_
        refine run_bipush (v := 10) dX12_checks_122 rfl ?_
        refine run_iload_n 1 dX12_checks_124 rfl rfl ?_
        refine run_imul dX12_checks_125 ?_
        refine run_iload_n 2 dX12_checks_126 rfl rfl ?_
        refine run_iadd dX12_checks_127 ?_
        obtain ⟨g39, h⟩ := gd_s h
        refine run_iald' is_293 ln_293 g39 rfl dX12_checks_128 ?_
        refine run_istore_n [(0, .ref (gA G 269)), (1, .int x1), (2, .int x2), (3, .int (σ 293 (Int32.toNatClampNeg (((10 : Int32) * x1) + x2))))] [1, 2, 3, 0] dX12_checks_129 rfl (by decide) rfl ?_
        refine run_iload_n 3 dX12_checks_130 rfl rfl ?_
        refine run_iconst (v := -1) dX12_checks_131 rfl ?_
        obtain ⟨q44, h, h9⟩ := Option.bind_eq_some_iff.mp h
        have hj45 : Run G RX12 cX12_checks 4 none (mF G (d + HX12_checks) K) 165 [(0, .ref (gA G 269)), (1, .int x1), (2, .int x2)] [] q44 := by
          clear h
          have h := h9
          clear h9
          refine run_iinc 2 [(0, .ref (gA G 269)), (1, .int x1), (2, .int (x2 + 1))] [1, 2, 0] dX12_checks_165 rfl rfl (by decide) rfl ?_
          refine run_goto 102 dX12_checks_168 (by decide) ?_
          exact ih _ _ _ h kx
        clear h9
        refine run_icmp_eq 165 dX12_checks_132 (by decide) (fun c40 => ?_) (fun c40 => ?_)
        · rw [if_pos c40] at h
          rw [← Option.some.inj h] at hj45
          refine run_forget [0, 1, 2] rfl ?_
          exact hj45
        · rw [if_neg c40] at h
          refine run_aload_n 0 dX12_checks_135 rfl rfl ?_
          refine run_getr fl_X12_50 is_269 (by decide) rfl ce_269_33 dX12_checks_136 ?_
          refine run_iload_n 2 dX12_checks_139 rfl rfl ?_
          obtain ⟨g41, h⟩ := gd_s h
          refine run_iald' is_283 ln_283 g41 rfl dX12_checks_140 ?_
          refine run_iload_n 3 dX12_checks_141 rfl rfl ?_
          refine run_icmp_eq 165 dX12_checks_142 (by decide) (fun c42 => ?_) (fun c42 => ?_)
          · rw [if_pos c42] at h
            rw [← Option.some.inj h] at hj45
            refine run_forget [0, 1, 2] rfl ?_
            exact hj45
          · rw [if_neg c42] at h
            refine run_aload_n 0 dX12_checks_145 rfl rfl ?_
            refine run_iconst (v := 3) dX12_checks_146 rfl ?_
            refine run_puti fp_X12_403 is_269 (by decide) rfl dX12_checks_147 ?_
            refine run_aload_n 0 dX12_checks_150 rfl rfl ?_
            refine run_iload_n 2 dX12_checks_151 rfl rfl ?_
            refine run_puti fp_X12_406 is_269 (by decide) rfl dX12_checks_152 ?_
            refine run_aload_n 0 dX12_checks_155 rfl rfl ?_
            refine run_aload_n 0 dX12_checks_156 rfl rfl ?_
            refine run_getr fl_X12_56 is_269 (by decide) rfl ce_269_35 dX12_checks_157 ?_
            refine run_iload_n 2 dX12_checks_160 rfl rfl ?_
            obtain ⟨g43, h⟩ := gd_s h
            refine run_iald' is_285 ln_285 g43 rfl dX12_checks_161 ?_
            refine run_puti fp_X12_409 is_269 (by decide) rfl dX12_checks_162 ?_
            rw [← Option.some.inj h] at hj45
            refine run_forget [0, 1, 2] rfl ?_
            exact hj45
def jX12_checks_100 (x1 : Int32) (σ : Mem) : Option Mem := (lX12_checks_102 x1 FU 0 σ).bind fun q46 => some q46
set_option maxRecDepth 20000 in
theorem jnX12_checks_100 (G : GT) (d : Nat) (x1 : Int32)  (σ : Mem) (o : Mem) (h : jX12_checks_100 x1 σ = some o) : Run G RX12 cX12_checks 4 none (mF G (d + HX12_checks) (kV fun z => z = o)) 100 [(0, .ref (gA G 269)), (1, .int x1)] [] σ := by
  unfold jX12_checks_100 at h
  refine run_iconst (v := 0) dX12_checks_100 rfl ?_
  refine run_istore_n [(0, .ref (gA G 269)), (1, .int x1), (2, .int 0)] [1, 2, 0] dX12_checks_101 rfl (by decide) rfl ?_
  obtain ⟨q46, h47, h⟩ := Option.bind_eq_some_iff.mp h
  refine lpX12_checks_102 G d _ _ _ _ _ h47 ?_
  exact run_vret dX12_checks_171 ⟨rfl, Option.some.inj h⟩
def fX12_checks (x1 : Int32) (σ : Mem) : Option Mem := (lX12_checks_22 x1 FU 0 (st2 (st2 (st2 (st2 σ 269 62 1) 269 63 (-1)) 269 64 (-1)) 269 65 (-1))).bind fun q27 => jX12_checks_100 x1 q27
set_option maxRecDepth 20000 in
theorem sX12_checks (G : GT) (d : Nat) {x1 : Int32}  {σ : Mem} {o : Mem} (h : fX12_checks x1 σ = some o) : Spec G yX12_checks cX12_checks 4 none (d + HX12_checks) [.ref (gA G 269), .int x1] σ (kV fun z => z = o) := by
  refine spec_run (by decide) (Nat.le_of_ble_eq_true rfl) ?_
  unfold fX12_checks at h
  show Run G RX12 cX12_checks 4 none _ 0 [(0, .ref (gA G 269)), (1, .int x1)] [] σ
  refine run_aload_n 0 dX12_checks_0 rfl rfl ?_
  refine run_iconst (v := 1) dX12_checks_1 rfl ?_
  refine run_puti fp_X12_403 is_269 (by decide) rfl dX12_checks_2 ?_
  refine run_aload_n 0 dX12_checks_5 rfl rfl ?_
  refine run_iconst (v := -1) dX12_checks_6 rfl ?_
  refine run_puti fp_X12_406 is_269 (by decide) rfl dX12_checks_7 ?_
  refine run_aload_n 0 dX12_checks_10 rfl rfl ?_
  refine run_iconst (v := -1) dX12_checks_11 rfl ?_
  refine run_puti fp_X12_409 is_269 (by decide) rfl dX12_checks_12 ?_
  refine run_aload_n 0 dX12_checks_15 rfl rfl ?_
  refine run_iconst (v := -1) dX12_checks_16 rfl ?_
  refine run_puti fp_X12_412 is_269 (by decide) rfl dX12_checks_17 ?_
  refine run_iconst (v := 0) dX12_checks_20 rfl ?_
  refine run_istore_n [(0, .ref (gA G 269)), (1, .int x1), (2, .int 0)] [1, 2, 0] dX12_checks_21 rfl (by decide) rfl ?_
  obtain ⟨q27, h48, h⟩ := Option.bind_eq_some_iff.mp h
  refine lpX12_checks_22 G d _ _ _ _ _ h48 ?_
  exact jnX12_checks_100 G d _ _ _ h
def HX12_stampFor : Nat := 2
theorem HX12_stampFor_X12_greater_lt (d : Nat) : d + HX12_greater < d + HX12_stampFor := Nat.add_lt_add_left (by decide) d
theorem HX12_stampFor_0 (d : Nat) : 0 < d + HX12_stampFor := Nat.lt_of_lt_of_le (by decide) (Nat.le_add_left _ d)
def lX12_stampFor_9 (x1 : Int32) : Nat → Int32 → Int32 → Mem → Option (Int32 × Mem)
  | 0, _, _, _ => none
  | n + 1, x2, x3, σ => if 10 ≤ x3 then (some (x2, σ)) else (gd (inb (((10 : Int32) * x1) + x3) 40) ((fX12_greater x2 (σ 292 (Int32.toNatClampNeg (((10 : Int32) * x1) + x3))) σ).bind fun q13 => gd (inb (((10 : Int32) * x1) + x3) 40) ((if (q13.2 294 (Int32.toNatClampNeg (((10 : Int32) * x1) + x3))) = (-2) then (some (q13.1, q13.2)) else (gd (inb x3 10) ((fX12_greater q13.1 (q13.2 282 (Int32.toNatClampNeg x3)) q13.2).bind fun q17 => some (q17.1, q17.2))) : Option (Int32 × Mem)).bind fun q19 => lX12_stampFor_9 x1 n (q19.1) (x3 + 1) (q19.2))))
set_option maxRecDepth 20000 in
theorem lpX12_stampFor_9 (G : GT) (d : Nat) (x1 : Int32)  {K : Option Value → Mem → Prop} : ∀ (n : Nat) (x2 : Int32) (x3 : Int32) (σ : Mem) (o : Int32 × Mem), lX12_stampFor_9 x1 n x2 x3 σ = some o → (Run G RX12 cX12_stampFor 4 (some .int) (mF G (d + HX12_stampFor) K) 68 [(0, .ref (gA G 269)), (2, .int (o.1))] [] (o.2)) → Run G RX12 cX12_stampFor 4 (some .int) (mF G (d + HX12_stampFor) K) 9 [(0, .ref (gA G 269)), (1, .int x1), (2, .int x2), (3, .int x3)] [] σ := by
  intro n
  induction n with
  | zero => intro x2 x3 σ o h; exact absurd h (by simp [lX12_stampFor_9])
  | succ n ih =>
    intro x2 x3 σ o h kx
    rw [lX12_stampFor_9] at h
    refine run_iload_n 3 dX12_stampFor_9 rfl rfl ?_
    refine run_bipush (v := 10) dX12_stampFor_10 rfl ?_
    refine run_icmp_ge 68 dX12_stampFor_12 (by decide) (fun c11 => ?_) (fun c11 => ?_)
    · rw [if_pos c11] at h
      rw [← Option.some.inj h] at kx
      refine run_forget [0, 2] rfl ?_
      exact kx
    · rw [if_neg c11] at h
      refine run_iload_n 2 dX12_stampFor_15 rfl rfl ?_
      refine run_aload_n 0 dX12_stampFor_16 rfl rfl ?_
      refine run_getr fl_X12_77 is_269 (by decide) rfl ce_269_42 dX12_stampFor_17 ?_
      refine run_bipush (v := 10) dX12_stampFor_20 rfl ?_
      refine run_iload_n 1 dX12_stampFor_22 rfl rfl ?_
      refine run_imul dX12_stampFor_23 ?_
      refine run_iload_n 3 dX12_stampFor_24 rfl rfl ?_
      refine run_iadd dX12_stampFor_25 ?_
      obtain ⟨g12, h⟩ := gd_s h
      refine run_iald' is_292 ln_292 g12 rfl dX12_stampFor_26 ?_
      obtain ⟨q13, h21, h⟩ := Option.bind_eq_some_iff.mp h
      refine run_callSi (As := [.int x2, .int (σ 292 (Int32.toNatClampNeg (((10 : Int32) * x1) + x3)))]) (fun r z => (r, z) = q13) mw_X12_greater ms_X12_greater ml_X12_415 rfl (RF.lt (HX12_stampFor_X12_greater_lt d)) (Nat.le_of_ble_eq_true rfl) dX12_stampFor_27 (sX12_greater G d  h21) (fun r z h8 => ?_) rfl
      rw [show r = q13.1 from congrArg Prod.fst h8, show z = q13.2 from congrArg Prod.snd h8]
      clear h8
      refine run_istore_n [(0, .ref (gA G 269)), (1, .int x1), (2, .int q13.1), (3, .int x3)] [1, 2, 0, 3] dX12_stampFor_30 rfl (by decide) rfl ?_
      refine run_aload_n 0 dX12_stampFor_31 rfl rfl ?_
      refine run_getr fl_X12_83 is_269 (by decide) rfl ce_269_44 dX12_stampFor_32 ?_
      refine run_bipush (v := 10) dX12_stampFor_35 rfl ?_
      refine run_iload_n 1 dX12_stampFor_37 rfl rfl ?_
      refine run_imul dX12_stampFor_38 ?_
      refine run_iload_n 3 dX12_stampFor_39 rfl rfl ?_
      refine run_iadd dX12_stampFor_40 ?_
      obtain ⟨g14, h⟩ := gd_s h
      refine run_iald' is_294 ln_294 g14 rfl dX12_stampFor_41 ?_
      refine run_bipush (v := -2) dX12_stampFor_42 rfl ?_
      obtain ⟨q19, h, h9⟩ := Option.bind_eq_some_iff.mp h
      have hj20 : Run G RX12 cX12_stampFor 4 (some .int) (mF G (d + HX12_stampFor) K) 61 [(0, .ref (gA G 269)), (1, .int x1), (3, .int x3)] [.int (q19.1)] (q19.2) := by
        clear h
        have h := h9
        clear h9
        refine run_istore_n [(0, .ref (gA G 269)), (1, .int x1), (2, .int (q19.1)), (3, .int x3)] [1, 2, 0, 3] dX12_stampFor_61 rfl (by decide) rfl ?_
        refine run_iinc 3 [(0, .ref (gA G 269)), (1, .int x1), (2, .int (q19.1)), (3, .int (x3 + 1))] [1, 2, 3, 0] dX12_stampFor_62 rfl rfl (by decide) rfl ?_
        refine run_goto 9 dX12_stampFor_65 (by decide) ?_
        exact ih _ _ _ _ h kx
      clear h9
      refine run_icmp_ne 51 dX12_stampFor_44 (by decide) (fun c15 => ?_) (fun c15 => ?_)
      · rw [if_neg c15] at h
        refine run_iload_n 2 dX12_stampFor_51 rfl rfl ?_
        refine run_aload_n 0 dX12_stampFor_52 rfl rfl ?_
        refine run_getr fl_X12_47 is_269 (by decide) rfl ce_269_32 dX12_stampFor_53 ?_
        refine run_iload_n 3 dX12_stampFor_56 rfl rfl ?_
        obtain ⟨g16, h⟩ := gd_s h
        refine run_iald' is_282 ln_282 g16 rfl dX12_stampFor_57 ?_
        obtain ⟨q17, h18, h⟩ := Option.bind_eq_some_iff.mp h
        refine run_callSi (As := [.int q13.1, .int (q13.2 282 (Int32.toNatClampNeg x3))]) (fun r z => (r, z) = q17) mw_X12_greater ms_X12_greater ml_X12_415 rfl (RF.lt (HX12_stampFor_X12_greater_lt d)) (Nat.le_of_ble_eq_true rfl) dX12_stampFor_58 (sX12_greater G d  h18) (fun r z h8 => ?_) rfl
        rw [show r = q17.1 from congrArg Prod.fst h8, show z = q17.2 from congrArg Prod.snd h8]
        clear h8
        rw [← Option.some.inj h] at hj20
        refine run_forget [0, 1, 3] rfl ?_
        exact hj20
      · rw [if_pos c15] at h
        refine run_iload_n 2 dX12_stampFor_47 rfl rfl ?_
        refine run_goto 61 dX12_stampFor_48 (by decide) ?_
        rw [← Option.some.inj h] at hj20
        refine run_forget [0, 1, 3] rfl ?_
        exact hj20
def fX12_stampFor (x1 : Int32) (σ : Mem) : Option (Int32 × Mem) := gd (inb x1 4) ((lX12_stampFor_9 x1 FU (σ 290 (Int32.toNatClampNeg x1)) 0 σ).bind fun q22 => (fX12_greater ((q22.1) + 1) (((100 : Int32) * ((q22.2) 269 29)) + 1) (q22.2)).bind fun q23 => some (q23.1, q23.2))
set_option maxRecDepth 20000 in
theorem sX12_stampFor (G : GT) (d : Nat) {x1 : Int32}  {σ : Mem} {o : (Int32 × Mem)} (h : fX12_stampFor x1 σ = some o) : Spec G yX12_stampFor cX12_stampFor 4 (some .int) (d + HX12_stampFor) [.ref (gA G 269), .int x1] σ (kI fun x z => (x, z) = o) := by
  refine spec_run (by decide) (Nat.le_of_ble_eq_true rfl) ?_
  unfold fX12_stampFor at h
  show Run G RX12 cX12_stampFor 4 (some .int) _ 0 [(0, .ref (gA G 269)), (1, .int x1)] [] σ
  refine run_aload_n 0 dX12_stampFor_0 rfl rfl ?_
  refine run_getr fl_X12_71 is_269 (by decide) rfl ce_269_40 dX12_stampFor_1 ?_
  refine run_iload_n 1 dX12_stampFor_4 rfl rfl ?_
  obtain ⟨g1, h⟩ := gd_s h
  refine run_iald' is_290 ln_290 g1 rfl dX12_stampFor_5 ?_
  refine run_istore_n [(0, .ref (gA G 269)), (1, .int x1), (2, .int (σ 290 (Int32.toNatClampNeg x1)))] [1, 2, 0] dX12_stampFor_6 rfl (by decide) rfl ?_
  refine run_iconst (v := 0) dX12_stampFor_7 rfl ?_
  refine run_istore_n [(0, .ref (gA G 269)), (1, .int x1), (2, .int (σ 290 (Int32.toNatClampNeg x1))), (3, .int 0)] [1, 2, 3, 0] dX12_stampFor_8 rfl (by decide) rfl ?_
  obtain ⟨q22, h25, h⟩ := Option.bind_eq_some_iff.mp h
  refine lpX12_stampFor_9 G d _ _ _ _ _ _ h25 ?_
  refine run_iload_n 1 dX12_stampFor_68 rfl rfl ?_
  refine run_iconst (v := 1) dX12_stampFor_69 rfl ?_
  refine run_iadd dX12_stampFor_70 ?_
  refine run_bipush (v := 100) dX12_stampFor_71 rfl ?_
  refine run_aload_n 0 dX12_stampFor_73 rfl rfl ?_
  refine run_geti fl_X12_342 is_269 (by decide) rfl dX12_stampFor_74 ?_
  refine run_imul dX12_stampFor_77 ?_
  refine run_iconst (v := 1) dX12_stampFor_78 rfl ?_
  refine run_iadd dX12_stampFor_79 ?_
  obtain ⟨q23, h24, h⟩ := Option.bind_eq_some_iff.mp h
  refine run_callSi (As := [.int ((q22.1) + 1), .int (((100 : Int32) * ((q22.2) 269 29)) + 1)]) (fun r z => (r, z) = q23) mw_X12_greater ms_X12_greater ml_X12_415 rfl (RF.lt (HX12_stampFor_X12_greater_lt d)) (Nat.le_of_ble_eq_true rfl) dX12_stampFor_80 (sX12_greater G d  h24) (fun r z h8 => ?_) rfl
  rw [show r = q23.1 from congrArg Prod.fst h8, show z = q23.2 from congrArg Prod.snd h8]
  clear h8
  exact run_iret dX12_stampFor_83 ⟨_, rfl, Option.some.inj h⟩
def HX12_writes : Nat := 2
theorem HX12_writes_X12_has_lt (d : Nat) : d + HX12_has < d + HX12_writes := Nat.add_lt_add_left (by decide) d
theorem HX12_writes_X12_nodeOf_lt (d : Nat) : d + HX12_nodeOf < d + HX12_writes := Nat.add_lt_add_left (by decide) d
theorem HX12_writes_0 (d : Nat) : 0 < d + HX12_writes := Nat.lt_of_lt_of_le (by decide) (Nat.le_add_left _ d)
def jX12_writes_65 (x1 : Int32) (x2 : Int32) (x3 : Int32) (σ : Mem) : Option Mem := (if x2 = (-1) then (some ((σ 269 30) &&& (((1 : Int32) <<< (x1 &&& 31)) ^^^ (-1)))) else (some ((σ 269 30) ||| ((1 : Int32) <<< (x1 &&& 31)))) : Option (Int32)).bind fun q19 => (if x2 = (-1) then (some 0) else (some x2) : Option (Int32)).bind fun q21 => gd (inb x1 10) (gd (inb x1 10) ((some (st2 (st2 (st2 σ 269 30 q19) 281 (Int32.toNatClampNeg x1) q21) 282 (Int32.toNatClampNeg x1) ((st2 (st2 σ 269 30 q19) 281 (Int32.toNatClampNeg x1) q21) 269 65))).bind fun s24 => gd (inb x1 10) (some (st2 s24 284 (Int32.toNatClampNeg x1) x3))))
set_option maxRecDepth 20000 in
theorem jnX12_writes_65 (G : GT) (d : Nat) (x1 : Int32) (x2 : Int32) (x3 : Int32)  (σ : Mem) (o : Mem) (h : jX12_writes_65 x1 x2 x3 σ = some o) : Run G RX12 cX12_writes 4 none (mF G (d + HX12_writes) (kV fun z => z = o)) 65 [(0, .ref (gA G 269)), (1, .int x1), (2, .int x2), (3, .int x3)] [] σ := by
  unfold jX12_writes_65 at h
  refine run_aload_n 0 dX12_writes_65 rfl rfl ?_
  refine run_iload_n 2 dX12_writes_66 rfl rfl ?_
  refine run_iconst (v := -1) dX12_writes_67 rfl ?_
  obtain ⟨q19, h, h9⟩ := Option.bind_eq_some_iff.mp h
  have hj27 : Run G RX12 cX12_writes 4 none (mF G (d + HX12_writes) (kV fun z => z = o)) 92 [(0, .ref (gA G 269)), (1, .int x1), (2, .int x2), (3, .int x3)] [.int q19, .ref (gA G 269)] σ := by
    clear h
    have h := h9
    clear h9
    refine run_puti fp_X12_336 is_269 (by decide) rfl dX12_writes_92 ?_
    refine run_aload_n 0 dX12_writes_95 rfl rfl ?_
    refine run_getr fl_X12_44 is_269 (by decide) rfl ce_269_31 dX12_writes_96 ?_
    refine run_iload_n 1 dX12_writes_99 rfl rfl ?_
    refine run_iload_n 2 dX12_writes_100 rfl rfl ?_
    refine run_iconst (v := -1) dX12_writes_101 rfl ?_
    obtain ⟨q21, h, h9⟩ := Option.bind_eq_some_iff.mp h
    have hj26 : Run G RX12 cX12_writes 4 none (mF G (d + HX12_writes) (kV fun z => z = o)) 110 [(0, .ref (gA G 269)), (1, .int x1), (3, .int x3)] [.int q21, .int x1, .ref (gA G 281)] (st2 σ 269 30 q19) := by
      clear h
      have h := h9
      clear h9
      obtain ⟨g22, h⟩ := gd_s h
      refine run_iast' is_281 ln_281 g22 rfl dX12_writes_110 ?_
      refine run_aload_n 0 dX12_writes_111 rfl rfl ?_
      refine run_getr fl_X12_47 is_269 (by decide) rfl ce_269_32 dX12_writes_112 ?_
      refine run_iload_n 1 dX12_writes_115 rfl rfl ?_
      refine run_aload_n 0 dX12_writes_116 rfl rfl ?_
      refine run_geti fl_X12_412 is_269 (by decide) rfl dX12_writes_117 ?_
      obtain ⟨g23, h⟩ := gd_s h
      refine run_iast' is_282 ln_282 g23 rfl dX12_writes_120 ?_
      rw [Option.bind_some] at h
      refine run_mem (fun s24 es24 => ?_)
      rw [← es24] at h
      refine run_aload_n 0 dX12_writes_121 rfl rfl ?_
      refine run_getr fl_X12_53 is_269 (by decide) rfl ce_269_34 dX12_writes_122 ?_
      refine run_iload_n 1 dX12_writes_125 rfl rfl ?_
      refine run_iload_n 2 dX12_writes_126 rfl rfl ?_
      obtain ⟨g25, h⟩ := gd_s h
      refine run_iast' is_284 ln_284 g25 rfl dX12_writes_127 ?_
      exact run_vret dX12_writes_128 ⟨rfl, Option.some.inj h⟩
    clear h9
    refine run_icmp_ne 109 dX12_writes_102 (by decide) (fun c20 => ?_) (fun c20 => ?_)
    · rw [if_neg c20] at h
      refine run_iload_n 2 dX12_writes_109 rfl rfl ?_
      rw [← Option.some.inj h] at hj26
      refine run_forget [0, 1, 3] rfl ?_
      exact hj26
    · rw [if_pos c20] at h
      refine run_iconst (v := 0) dX12_writes_105 rfl ?_
      refine run_goto 110 dX12_writes_106 (by decide) ?_
      rw [← Option.some.inj h] at hj26
      refine run_forget [0, 1, 3] rfl ?_
      exact hj26
  clear h9
  refine run_icmp_ne 84 dX12_writes_68 (by decide) (fun c18 => ?_) (fun c18 => ?_)
  · rw [if_neg c18] at h
    refine run_aload_n 0 dX12_writes_84 rfl rfl ?_
    refine run_geti fl_X12_336 is_269 (by decide) rfl dX12_writes_85 ?_
    refine run_iconst (v := 1) dX12_writes_88 rfl ?_
    refine run_iload_n 1 dX12_writes_89 rfl rfl ?_
    refine run_ishl dX12_writes_90 ?_
    refine run_ior dX12_writes_91 ?_
    rw [← Option.some.inj h] at hj27
    exact hj27
  · rw [if_pos c18] at h
    refine run_aload_n 0 dX12_writes_71 rfl rfl ?_
    refine run_geti fl_X12_336 is_269 (by decide) rfl dX12_writes_72 ?_
    refine run_iconst (v := 1) dX12_writes_75 rfl ?_
    refine run_iload_n 1 dX12_writes_76 rfl rfl ?_
    refine run_ishl dX12_writes_77 ?_
    refine run_iconst (v := -1) dX12_writes_78 rfl ?_
    refine run_ixor dX12_writes_79 ?_
    refine run_iand dX12_writes_80 ?_
    refine run_goto 92 dX12_writes_81 (by decide) ?_
    rw [← Option.some.inj h] at hj27
    exact hj27
def fX12_writes (x1 : Int32) (x2 : Int32) (x3 : Int32) (σ : Mem) : Option Mem := (fX12_has (σ 269 30) x1 σ).bind fun q1 => (if x2 = (-1) then (some false) else (some true) : Option (Bool)).bind fun q3 => (if (b2 q1.1) = (b2 q3) then (some q1.2) else ((fX12_nodeOf x1 q1.2).bind fun q5 => gd (inb q5.1 10) (gd (inb q5.1 10) ((fX12_nodeOf x1 (st2 q5.2 283 (Int32.toNatClampNeg q5.1) ((q5.2 283 (Int32.toNatClampNeg q5.1)) + 1))).bind fun q8 => gd (inb q8.1 10) (gd (inb ((st2 q8.2 285 (Int32.toNatClampNeg q8.1) x3) 269 54) 64) ((fX12_nodeOf x1 (st2 q8.2 285 (Int32.toNatClampNeg q8.1) x3)).bind fun q11 => gd (inb ((st2 q8.2 285 (Int32.toNatClampNeg q8.1) x3) 269 54) 64) ((some (st2 q11.2 302 (Int32.toNatClampNeg ((st2 q8.2 285 (Int32.toNatClampNeg q8.1) x3) 269 54)) (((st2 q8.2 285 (Int32.toNatClampNeg q8.1) x3) 302 (Int32.toNatClampNeg ((st2 q8.2 285 (Int32.toNatClampNeg q8.1) x3) 269 54))) ||| ((1 : Int32) <<< (q11.1 &&& 31))))).bind fun s13 => some s13)))))) : Option (Mem)).bind fun q17 => jX12_writes_65 x1 x2 x3 q17
set_option maxRecDepth 20000 in
theorem sX12_writes (G : GT) (d : Nat) {x1 : Int32} {x2 : Int32} {x3 : Int32}  {σ : Mem} {o : Mem} (h : fX12_writes x1 x2 x3 σ = some o) : Spec G yX12_writes cX12_writes 4 none (d + HX12_writes) [.ref (gA G 269), .int x1, .int x2, .int x3] σ (kV fun z => z = o) := by
  refine spec_run (by decide) (Nat.le_of_ble_eq_true rfl) ?_
  unfold fX12_writes at h
  show Run G RX12 cX12_writes 4 none _ 0 [(0, .ref (gA G 269)), (1, .int x1), (2, .int x2), (3, .int x3)] [] σ
  refine run_aload_n 0 dX12_writes_0 rfl rfl ?_
  refine run_geti fl_X12_336 is_269 (by decide) rfl dX12_writes_1 ?_
  refine run_iload_n 1 dX12_writes_4 rfl rfl ?_
  obtain ⟨q1, h30, h⟩ := Option.bind_eq_some_iff.mp h
  refine run_callSb (As := [.int (σ 269 30), .int x1]) (fun r z => (r, z) = q1) mw_X12_has ms_X12_has ml_X12_148 rfl (RF.lt (HX12_writes_X12_has_lt d)) (Nat.le_of_ble_eq_true rfl) dX12_writes_5 (sX12_has G d  h30) (fun r z h8 => ?_) rfl
  rw [show r = q1.1 from congrArg Prod.fst h8, show z = q1.2 from congrArg Prod.snd h8]
  clear h8
  refine run_iload_n 2 dX12_writes_8 rfl rfl ?_
  refine run_iconst (v := -1) dX12_writes_9 rfl ?_
  obtain ⟨q3, h, h9⟩ := Option.bind_eq_some_iff.mp h
  have hj29 : Run G RX12 cX12_writes 4 none (mF G (d + HX12_writes) (kV fun z => z = o)) 18 [(0, .ref (gA G 269)), (1, .int x1), (2, .int x2), (3, .int x3)] [.int (b2 q3), .int (b2 q1.1)] q1.2 := by
    clear h
    have h := h9
    clear h9
    obtain ⟨q17, h, h9⟩ := Option.bind_eq_some_iff.mp h
    have hj28 : Run G RX12 cX12_writes 4 none (mF G (d + HX12_writes) (kV fun z => z = o)) 65 [(0, .ref (gA G 269)), (1, .int x1), (2, .int x2), (3, .int x3)] [] q17 := by
      clear h
      have h := h9
      clear h9
      exact jnX12_writes_65 G d _ _ _ _ _ h
    clear h9
    refine run_icmp_eq 65 dX12_writes_18 (by decide) (fun c4 => ?_) (fun c4 => ?_)
    · rw [if_pos c4] at h
      rw [← Option.some.inj h] at hj28
      exact hj28
    · rw [if_neg c4] at h
      refine run_aload_n 0 dX12_writes_21 rfl rfl ?_
      refine run_getr fl_X12_50 is_269 (by decide) rfl ce_269_33 dX12_writes_22 ?_
      refine run_aload_n 0 dX12_writes_25 rfl rfl ?_
      refine run_iload_n 1 dX12_writes_26 rfl rfl ?_
      obtain ⟨q5, h16, h⟩ := Option.bind_eq_some_iff.mp h
      refine run_callVi (As := [.int x1]) (fun r z => (r, z) = q5) mw_X12_nodeOf mi_X12_nodeOf ml_X12_369 is_269 (by decide) rfl rfl rfl (RF.lt (HX12_writes_X12_nodeOf_lt d)) (Nat.le_of_ble_eq_true rfl) dX12_writes_27 (sX12_nodeOf G d  h16) (fun r z h8 => ?_) rfl
      rw [show r = q5.1 from congrArg Prod.fst h8, show z = q5.2 from congrArg Prod.snd h8]
      clear h8
      refine run_dup2 dX12_writes_30 rfl rfl ?_
      obtain ⟨g6, h⟩ := gd_s h
      refine run_iald' is_283 ln_283 g6 rfl dX12_writes_31 ?_
      refine run_iconst (v := 1) dX12_writes_32 rfl ?_
      refine run_iadd dX12_writes_33 ?_
      obtain ⟨g7, h⟩ := gd_s h
      refine run_iast' is_283 ln_283 g7 rfl dX12_writes_34 ?_
      refine run_aload_n 0 dX12_writes_35 rfl rfl ?_
      refine run_getr fl_X12_56 is_269 (by decide) rfl ce_269_35 dX12_writes_36 ?_
      refine run_aload_n 0 dX12_writes_39 rfl rfl ?_
      refine run_iload_n 1 dX12_writes_40 rfl rfl ?_
      obtain ⟨q8, h15, h⟩ := Option.bind_eq_some_iff.mp h
      refine run_callVi (As := [.int x1]) (fun r z => (r, z) = q8) mw_X12_nodeOf mi_X12_nodeOf ml_X12_369 is_269 (by decide) rfl rfl rfl (RF.lt (HX12_writes_X12_nodeOf_lt d)) (Nat.le_of_ble_eq_true rfl) dX12_writes_41 (sX12_nodeOf G d  h15) (fun r z h8 => ?_) rfl
      rw [show r = q8.1 from congrArg Prod.fst h8, show z = q8.2 from congrArg Prod.snd h8]
      clear h8
      refine run_iload_n 3 dX12_writes_44 rfl rfl ?_
      obtain ⟨g9, h⟩ := gd_s h
      refine run_iast' is_285 ln_285 g9 rfl dX12_writes_45 ?_
      refine run_aload_n 0 dX12_writes_46 rfl rfl ?_
      refine run_getr fl_X12_107 is_269 (by decide) rfl ce_269_52 dX12_writes_47 ?_
      refine run_aload_n 0 dX12_writes_50 rfl rfl ?_
      refine run_geti fl_X12_345 is_269 (by decide) rfl dX12_writes_51 ?_
      refine run_dup2 dX12_writes_54 rfl rfl ?_
      obtain ⟨g10, h⟩ := gd_s h
      refine run_iald' is_302 ln_302 g10 rfl dX12_writes_55 ?_
      refine run_iconst (v := 1) dX12_writes_56 rfl ?_
      refine run_aload_n 0 dX12_writes_57 rfl rfl ?_
      refine run_iload_n 1 dX12_writes_58 rfl rfl ?_
      obtain ⟨q11, h14, h⟩ := Option.bind_eq_some_iff.mp h
      refine run_callVi (As := [.int x1]) (fun r z => (r, z) = q11) mw_X12_nodeOf mi_X12_nodeOf ml_X12_369 is_269 (by decide) rfl rfl rfl (RF.lt (HX12_writes_X12_nodeOf_lt d)) (Nat.le_of_ble_eq_true rfl) dX12_writes_59 (sX12_nodeOf G d  h14) (fun r z h8 => ?_) rfl
      rw [show r = q11.1 from congrArg Prod.fst h8, show z = q11.2 from congrArg Prod.snd h8]
      clear h8
      refine run_ishl dX12_writes_62 ?_
      refine run_ior dX12_writes_63 ?_
      obtain ⟨g12, h⟩ := gd_s h
      refine run_iast' is_302 ln_302 g12 rfl dX12_writes_64 ?_
      rw [Option.bind_some] at h
      refine run_mem (fun s13 es13 => ?_)
      rw [← es13] at h
      rw [← Option.some.inj h] at hj28
      exact hj28
  clear h9
  refine run_icmp_eq 17 dX12_writes_10 (by decide) (fun c2 => ?_) (fun c2 => ?_)
  · rw [if_pos c2] at h
    refine run_iconst (v := 0) dX12_writes_17 rfl ?_
    rw [← Option.some.inj h] at hj29
    exact hj29
  · rw [if_neg c2] at h
    refine run_iconst (v := 1) dX12_writes_13 rfl ?_
    refine run_goto 18 dX12_writes_14 (by decide) ?_
    rw [← Option.some.inj h] at hj29
    exact hj29
