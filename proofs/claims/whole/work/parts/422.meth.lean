/-! methods, translated -/
def HX12_why : Nat := 10
theorem HX12_why_X12_deedOf_lt (d : Nat) : d + HX12_deedOf < d + HX12_why := Nat.add_lt_add_left (by decide) d
theorem HX12_why_X12_deeds_lt (d : Nat) : d + HX12_deeds < d + HX12_why := Nat.add_lt_add_left (by decide) d
theorem HX12_why_X12_in_lt (d : Nat) : d + HX12_in < d + HX12_why := Nat.add_lt_add_left (by decide) d
theorem HX12_why_X12_layAll_lt (d : Nat) : d + HX12_layAll < d + HX12_why := Nat.add_lt_add_left (by decide) d
theorem HX12_why_X12_play_lt (d : Nat) : d + HX12_play < d + HX12_why := Nat.add_lt_add_left (by decide) d
theorem HX12_why_0 (d : Nat) : 0 < d + HX12_why := Nat.lt_of_lt_of_le (by decide) (Nat.le_add_left _ d)
def fX12_why (x1 : Int32) (x2 : Int32) (x3 : Int32) (x4 : Int32) (x5 : Int32) (σ : Mem) : Option (Int32 × Mem) := (fX12_layAll x1 x2 x3 (st2 σ 269 0 0)).bind fun q1 => if q1.1 = true then ((fX12_deeds q1.2).bind fun q3 => (fX12_in x4 0 (q3.1 - 1) q3.2).bind fun q4 => if q4.1 = true then ((fX12_in x5 0 3 q4.2).bind fun q6 => if q6.1 = true then ((fX12_play (x4 + 1) q6.2).bind fun q8 => if q8.1 = (x4 + 1) then ((fX12_deedOf x4 0 q8.2).bind fun q10 => (if q10.1 = 3 then (some true) else (some false) : Option (Bool)).bind fun q12 => if x5 = 0 then (if q12 = true then (some ((q10.2 269 62), q10.2)) else (some (0, q10.2))) else (if x5 = 1 then (if q12 = true then (some ((q10.2 269 63), q10.2)) else (some ((-1), q10.2))) else (if x5 = 2 then (if q12 = true then (some ((q10.2 269 64), q10.2)) else (some ((-1), q10.2))) else (if q12 = true then (some ((q10.2 269 65), q10.2)) else (some ((-1), q10.2)))))) else (some ((-2), q8.2))) else (some ((-2), q6.2))) else (some ((-2), q4.2))) else (some ((-2), q1.2))
set_option maxRecDepth 20000 in
theorem sX12_why (G : GT) (d : Nat) {x1 : Int32} {x2 : Int32} {x3 : Int32} {x4 : Int32} {x5 : Int32}  {σ : Mem} {o : (Int32 × Mem)} (h : fX12_why x1 x2 x3 x4 x5 σ = some o) : Spec G yX12_why cX12_why 7 (some .int) (d + HX12_why) [.ref (gA G 269), .int x1, .int x2, .int x3, .int x4, .int x5] σ (kI fun x z => (x, z) = o) := by
  refine spec_run (by decide) (Nat.le_of_ble_eq_true rfl) ?_
  unfold fX12_why at h
  show Run G RX12 cX12_why 7 (some .int) _ 0 [(0, .ref (gA G 269)), (1, .int x1), (2, .int x2), (3, .int x3), (4, .int x4), (5, .int x5)] [] σ
  refine run_aload_n 0 dX12_why_0 rfl rfl ?_
  refine run_iconst (v := 0) dX12_why_1 rfl ?_
  refine run_puti fp_X12_144 is_269 (by decide) rfl dX12_why_2 ?_
  refine run_aload_n 0 dX12_why_5 rfl rfl ?_
  refine run_iload_n 1 dX12_why_6 rfl rfl ?_
  refine run_iload_n 2 dX12_why_7 rfl rfl ?_
  refine run_iload_n 3 dX12_why_8 rfl rfl ?_
  obtain ⟨q1, h26, h⟩ := Option.bind_eq_some_iff.mp h
  refine run_callVb (As := [.int x1, .int x2, .int x3]) (fun r z => (r, z) = q1) mw_X12_layAll mi_X12_layAll ml_X12_490 is_269 (by decide) rfl rfl rfl (RF.lt (HX12_why_X12_layAll_lt d)) (Nat.le_of_ble_eq_true rfl) dX12_why_9 (sX12_layAll G d  h26) (fun r z h8 => ?_) rfl
  rw [show r = q1.1 from congrArg Prod.fst h8, show z = q1.2 from congrArg Prod.snd h8]
  clear h8
  refine run_ifb_eq 55 dX12_why_12 (by decide) (fun c2 => ?_) (fun c2 => ?_)
  · rw [if_neg c2] at h
    refine run_bipush (v := -2) dX12_why_55 rfl ?_
    exact run_iret dX12_why_57 ⟨_, rfl, Option.some.inj h⟩
  · rw [if_pos c2] at h
    refine run_iload 4 dX12_why_15 rfl ?_
    refine run_iconst (v := 0) dX12_why_17 rfl ?_
    refine run_aload_n 0 dX12_why_18 rfl rfl ?_
    obtain ⟨q3, h25, h⟩ := Option.bind_eq_some_iff.mp h
    refine run_callVi (As := []) (fun r z => (r, z) = q3) mw_X12_deeds mi_X12_deeds ml_X12_477 is_269 (by decide) rfl rfl rfl (RF.lt (HX12_why_X12_deeds_lt d)) (Nat.le_of_ble_eq_true rfl) dX12_why_19 (sX12_deeds G d  h25) (fun r z h8 => ?_) rfl
    rw [show r = q3.1 from congrArg Prod.fst h8, show z = q3.2 from congrArg Prod.snd h8]
    clear h8
    refine run_iconst (v := 1) dX12_why_22 rfl ?_
    refine run_isub dX12_why_23 ?_
    obtain ⟨q4, h24, h⟩ := Option.bind_eq_some_iff.mp h
    refine run_callSb (As := [.int x4, .int 0, .int (q3.1 - 1)]) (fun r z => (r, z) = q4) mw_X12_in ms_X12_in ml_X12_156 rfl (RF.lt (HX12_why_X12_in_lt d)) (Nat.le_of_ble_eq_true rfl) dX12_why_24 (sX12_in G d  h24) (fun r z h8 => ?_) rfl
    rw [show r = q4.1 from congrArg Prod.fst h8, show z = q4.2 from congrArg Prod.snd h8]
    clear h8
    refine run_ifb_eq 55 dX12_why_27 (by decide) (fun c5 => ?_) (fun c5 => ?_)
    · rw [if_neg c5] at h
      refine run_bipush (v := -2) dX12_why_55 rfl ?_
      exact run_iret dX12_why_57 ⟨_, rfl, Option.some.inj h⟩
    · rw [if_pos c5] at h
      refine run_iload 5 dX12_why_30 rfl ?_
      refine run_iconst (v := 0) dX12_why_32 rfl ?_
      refine run_iconst (v := 3) dX12_why_33 rfl ?_
      obtain ⟨q6, h23, h⟩ := Option.bind_eq_some_iff.mp h
      refine run_callSb (As := [.int x5, .int 0, .int 3]) (fun r z => (r, z) = q6) mw_X12_in ms_X12_in ml_X12_156 rfl (RF.lt (HX12_why_X12_in_lt d)) (Nat.le_of_ble_eq_true rfl) dX12_why_34 (sX12_in G d  h23) (fun r z h8 => ?_) rfl
      rw [show r = q6.1 from congrArg Prod.fst h8, show z = q6.2 from congrArg Prod.snd h8]
      clear h8
      refine run_ifb_eq 55 dX12_why_37 (by decide) (fun c7 => ?_) (fun c7 => ?_)
      · rw [if_neg c7] at h
        refine run_bipush (v := -2) dX12_why_55 rfl ?_
        exact run_iret dX12_why_57 ⟨_, rfl, Option.some.inj h⟩
      · rw [if_pos c7] at h
        refine run_aload_n 0 dX12_why_40 rfl rfl ?_
        refine run_iload 4 dX12_why_41 rfl ?_
        refine run_iconst (v := 1) dX12_why_43 rfl ?_
        refine run_iadd dX12_why_44 ?_
        obtain ⟨q8, h22, h⟩ := Option.bind_eq_some_iff.mp h
        refine run_callVi (As := [.int (x4 + 1)]) (fun r z => (r, z) = q8) mw_X12_play mi_X12_play ml_X12_493 is_269 (by decide) rfl rfl rfl (RF.lt (HX12_why_X12_play_lt d)) (Nat.le_of_ble_eq_true rfl) dX12_why_45 (sX12_play G d  h22) (fun r z h8 => ?_) rfl
        rw [show r = q8.1 from congrArg Prod.fst h8, show z = q8.2 from congrArg Prod.snd h8]
        clear h8
        refine run_iload 4 dX12_why_48 rfl ?_
        refine run_iconst (v := 1) dX12_why_50 rfl ?_
        refine run_iadd dX12_why_51 ?_
        refine run_icmp_eq 58 dX12_why_52 (by decide) (fun c9 => ?_) (fun c9 => ?_)
        · rw [if_pos c9] at h
          refine run_aload_n 0 dX12_why_58 rfl rfl ?_
          refine run_iload 4 dX12_why_59 rfl ?_
          refine run_iconst (v := 0) dX12_why_61 rfl ?_
          obtain ⟨q10, h21, h⟩ := Option.bind_eq_some_iff.mp h
          refine run_callVi (As := [.int x4, .int 0]) (fun r z => (r, z) = q10) mw_X12_deedOf mi_X12_deedOf ml_X12_480 is_269 (by decide) rfl rfl rfl (RF.lt (HX12_why_X12_deedOf_lt d)) (Nat.le_of_ble_eq_true rfl) dX12_why_62 (sX12_deedOf G d  h21) (fun r z h8 => ?_) rfl
          rw [show r = q10.1 from congrArg Prod.fst h8, show z = q10.2 from congrArg Prod.snd h8]
          clear h8
          refine run_iconst (v := 3) dX12_why_65 rfl ?_
          obtain ⟨q12, h, h9⟩ := Option.bind_eq_some_iff.mp h
          have hj20 : Run G RX12 cX12_why 7 (some .int) (mF G (d + HX12_why) (kI fun x z => (x, z) = o)) 74 [(0, .ref (gA G 269)), (5, .int x5)] [.int (b2 q12)] q10.2 := by
            clear h
            have h := h9
            clear h9
            refine run_istore [(0, .ref (gA G 269)), (5, .int x5), (6, .int (b2 q12))] [1, 2, 0] dX12_why_74 (by decide) rfl ?_
            refine run_iload 1 dX12_why_76 rfl ?_
            by_cases c13 : x5 = 0
            · rw [if_pos c13] at h
              refine run_tblIn 104 dX12_why_78 (by rw [c13]; decide) (by rw [c13]; decide) (off := 26) (by rw [c13]; rfl) (by decide) ?_
              refine run_iload 2 dX12_why_104 rfl ?_
              refine run_ifb_eq 116 dX12_why_106 (by decide) (fun c14 => ?_) (fun c14 => ?_)
              · rw [if_neg c14] at h
                refine run_iconst (v := 0) dX12_why_116 rfl ?_
                exact run_iret dX12_why_117 ⟨_, rfl, Option.some.inj h⟩
              · rw [if_pos c14] at h
                refine run_aload_n 0 dX12_why_109 rfl rfl ?_
                refine run_geti fl_X12_403 is_269 (by decide) rfl dX12_why_110 ?_
                refine run_goto 117 dX12_why_113 (by decide) ?_
                exact run_iret dX12_why_117 ⟨_, rfl, Option.some.inj h⟩
            · rw [if_neg c13] at h
              by_cases c15 : x5 = 1
              · rw [if_pos c15] at h
                refine run_tblIn 118 dX12_why_78 (by rw [c15]; decide) (by rw [c15]; decide) (off := 40) (by rw [c15]; rfl) (by decide) ?_
                refine run_iload 2 dX12_why_118 rfl ?_
                refine run_ifb_eq 130 dX12_why_120 (by decide) (fun c16 => ?_) (fun c16 => ?_)
                · rw [if_neg c16] at h
                  refine run_iconst (v := -1) dX12_why_130 rfl ?_
                  exact run_iret dX12_why_131 ⟨_, rfl, Option.some.inj h⟩
                · rw [if_pos c16] at h
                  refine run_aload_n 0 dX12_why_123 rfl rfl ?_
                  refine run_geti fl_X12_406 is_269 (by decide) rfl dX12_why_124 ?_
                  refine run_goto 131 dX12_why_127 (by decide) ?_
                  exact run_iret dX12_why_131 ⟨_, rfl, Option.some.inj h⟩
              · rw [if_neg c15] at h
                by_cases c17 : x5 = 2
                · rw [if_pos c17] at h
                  refine run_tblIn 132 dX12_why_78 (by rw [c17]; decide) (by rw [c17]; decide) (off := 54) (by rw [c17]; rfl) (by decide) ?_
                  refine run_iload 2 dX12_why_132 rfl ?_
                  refine run_ifb_eq 144 dX12_why_134 (by decide) (fun c18 => ?_) (fun c18 => ?_)
                  · rw [if_neg c18] at h
                    refine run_iconst (v := -1) dX12_why_144 rfl ?_
                    exact run_iret dX12_why_145 ⟨_, rfl, Option.some.inj h⟩
                  · rw [if_pos c18] at h
                    refine run_aload_n 0 dX12_why_137 rfl rfl ?_
                    refine run_geti fl_X12_409 is_269 (by decide) rfl dX12_why_138 ?_
                    refine run_goto 145 dX12_why_141 (by decide) ?_
                    exact run_iret dX12_why_145 ⟨_, rfl, Option.some.inj h⟩
                · rw [if_neg c17] at h
                  refine run_tblOut 146 dX12_why_78 (by have tc13 := tbl_ne c13 (z := 0) rfl; have tc15 := tbl_ne c15 (z := 1) rfl; have tc17 := tbl_ne c17 (z := 2) rfl; omega) (by decide) ?_
                  refine run_iload 2 dX12_why_146 rfl ?_
                  refine run_ifb_eq 158 dX12_why_148 (by decide) (fun c19 => ?_) (fun c19 => ?_)
                  · rw [if_neg c19] at h
                    refine run_iconst (v := -1) dX12_why_158 rfl ?_
                    exact run_iret dX12_why_159 ⟨_, rfl, Option.some.inj h⟩
                  · rw [if_pos c19] at h
                    refine run_aload_n 0 dX12_why_151 rfl rfl ?_
                    refine run_geti fl_X12_412 is_269 (by decide) rfl dX12_why_152 ?_
                    refine run_goto 159 dX12_why_155 (by decide) ?_
                    exact run_iret dX12_why_159 ⟨_, rfl, Option.some.inj h⟩
          clear h9
          refine run_icmp_ne 73 dX12_why_66 (by decide) (fun c11 => ?_) (fun c11 => ?_)
          · rw [if_neg c11] at h
            refine run_iconst (v := 0) dX12_why_73 rfl ?_
            rw [← Option.some.inj h] at hj20
            refine run_forget [0, 5] rfl ?_
            exact hj20
          · rw [if_pos c11] at h
            refine run_iconst (v := 1) dX12_why_69 rfl ?_
            refine run_goto 74 dX12_why_70 (by decide) ?_
            rw [← Option.some.inj h] at hj20
            refine run_forget [0, 5] rfl ?_
            exact hj20
        · rw [if_neg c9] at h
          refine run_bipush (v := -2) dX12_why_55 rfl ?_
          exact run_iret dX12_why_57 ⟨_, rfl, Option.some.inj h⟩
def HX12_serial : Nat := 10
theorem HX12_serial_X12_deeds_lt (d : Nat) : d + HX12_deeds < d + HX12_serial := Nat.add_lt_add_left (by decide) d
theorem HX12_serial_X12_hangs_lt (d : Nat) : d + HX12_hangs < d + HX12_serial := Nat.add_lt_add_left (by decide) d
theorem HX12_serial_X12_in_lt (d : Nat) : d + HX12_in < d + HX12_serial := Nat.add_lt_add_left (by decide) d
theorem HX12_serial_X12_layAll_lt (d : Nat) : d + HX12_layAll < d + HX12_serial := Nat.add_lt_add_left (by decide) d
theorem HX12_serial_X12_layCommits_lt (d : Nat) : d + HX12_layCommits < d + HX12_serial := Nat.add_lt_add_left (by decide) d
theorem HX12_serial_X12_play_lt (d : Nat) : d + HX12_play < d + HX12_serial := Nat.add_lt_add_left (by decide) d
theorem HX12_serial_X12_serialRows_lt (d : Nat) : d + HX12_serialRows < d + HX12_serial := Nat.add_lt_add_left (by decide) d
theorem HX12_serial_0 (d : Nat) : 0 < d + HX12_serial := Nat.lt_of_lt_of_le (by decide) (Nat.le_add_left _ d)
def fX12_serial (x1 : Int32) (x2 : Int32) (x3 : Int32) (x4 : Int32) (σ : Mem) : Option (Int32 × Mem) := (fX12_layAll x1 x2 x3 (st2 σ 269 0 0)).bind fun q1 => if q1.1 = true then ((fX12_deeds q1.2).bind fun q3 => (fX12_play q3.1 q3.2).bind fun q4 => (fX12_layCommits q4.2).bind fun q5 => (fX12_in x4 0 1 q5).bind fun q6 => if q6.1 = true then (if x4 = 0 then (some ((q6.2 269 71), q6.2)) else (if (q6.2 269 71) ≤ 6 then ((fX12_serialRows q6.2).bind fun q28 => some (q28.1, q28.2)) else (some ((-1), q6.2)))) else (if x4 < 10 then (some ((-1), q6.2)) else (if (x4 % 10) < (q6.2 269 71) then (if (x4 / 10) = 1 then (gd (inb (x4 % 10) 64) (gd (inb (q6.2 308 (Int32.toNatClampNeg (x4 % 10))) 64) (some ((q6.2 296 (Int32.toNatClampNeg (q6.2 308 (Int32.toNatClampNeg (x4 % 10))))), q6.2)))) else (if (x4 / 10) = 2 then (gd (inb (x4 % 10) 64) (gd (inb (q6.2 308 (Int32.toNatClampNeg (x4 % 10))) 64) (some ((q6.2 298 (Int32.toNatClampNeg (q6.2 308 (Int32.toNatClampNeg (x4 % 10))))), q6.2)))) else (if (x4 / 10) = 3 then ((fX12_hangs (x4 % 10) q6.2).bind fun q17 => some (q17.1, q17.2)) else (if (x4 / 10) = 4 then (some ((-1), q6.2)) else (if (x4 / 10) = 5 then (if 6 < (q6.2 269 71) then (some ((-1), q6.2)) else ((fX12_serialRows q6.2).bind fun q22 => if q22.1 = 0 then (some ((-1), q22.2)) else (gd (inb (x4 % 10) 6) (some ((q22.2 311 (Int32.toNatClampNeg (x4 % 10))), q22.2))))) else (some ((-1), q6.2))))))) else (some ((-1), q6.2))))) else (some ((-1), q1.2))
set_option maxRecDepth 20000 in
theorem sX12_serial (G : GT) (d : Nat) {x1 : Int32} {x2 : Int32} {x3 : Int32} {x4 : Int32}  {σ : Mem} {o : (Int32 × Mem)} (h : fX12_serial x1 x2 x3 x4 σ = some o) : Spec G yX12_serial cX12_serial 6 (some .int) (d + HX12_serial) [.ref (gA G 269), .int x1, .int x2, .int x3, .int x4] σ (kI fun x z => (x, z) = o) := by
  refine spec_run (by decide) (Nat.le_of_ble_eq_true rfl) ?_
  unfold fX12_serial at h
  show Run G RX12 cX12_serial 6 (some .int) _ 0 [(0, .ref (gA G 269)), (1, .int x1), (2, .int x2), (3, .int x3), (4, .int x4)] [] σ
  refine run_aload_n 0 dX12_serial_0 rfl rfl ?_
  refine run_iconst (v := 0) dX12_serial_1 rfl ?_
  refine run_puti fp_X12_144 is_269 (by decide) rfl dX12_serial_2 ?_
  refine run_aload_n 0 dX12_serial_5 rfl rfl ?_
  refine run_iload_n 1 dX12_serial_6 rfl rfl ?_
  refine run_iload_n 2 dX12_serial_7 rfl rfl ?_
  refine run_iload_n 3 dX12_serial_8 rfl rfl ?_
  obtain ⟨q1, h34, h⟩ := Option.bind_eq_some_iff.mp h
  refine run_callVb (As := [.int x1, .int x2, .int x3]) (fun r z => (r, z) = q1) mw_X12_layAll mi_X12_layAll ml_X12_490 is_269 (by decide) rfl rfl rfl (RF.lt (HX12_serial_X12_layAll_lt d)) (Nat.le_of_ble_eq_true rfl) dX12_serial_9 (sX12_layAll G d  h34) (fun r z h8 => ?_) rfl
  rw [show r = q1.1 from congrArg Prod.fst h8, show z = q1.2 from congrArg Prod.snd h8]
  clear h8
  refine run_ifb_ne 17 dX12_serial_12 (by decide) (fun c2 => ?_) (fun c2 => ?_)
  · rw [if_pos c2] at h
    refine run_aload_n 0 dX12_serial_17 rfl rfl ?_
    refine run_aload_n 0 dX12_serial_18 rfl rfl ?_
    obtain ⟨q3, h33, h⟩ := Option.bind_eq_some_iff.mp h
    refine run_callVi (As := []) (fun r z => (r, z) = q3) mw_X12_deeds mi_X12_deeds ml_X12_477 is_269 (by decide) rfl rfl rfl (RF.lt (HX12_serial_X12_deeds_lt d)) (Nat.le_of_ble_eq_true rfl) dX12_serial_19 (sX12_deeds G d  h33) (fun r z h8 => ?_) rfl
    rw [show r = q3.1 from congrArg Prod.fst h8, show z = q3.2 from congrArg Prod.snd h8]
    clear h8
    obtain ⟨q4, h32, h⟩ := Option.bind_eq_some_iff.mp h
    refine run_callVi (As := [.int q3.1]) (fun r z => (r, z) = q4) mw_X12_play mi_X12_play ml_X12_493 is_269 (by decide) rfl rfl rfl (RF.lt (HX12_serial_X12_play_lt d)) (Nat.le_of_ble_eq_true rfl) dX12_serial_22 (sX12_play G d  h32) (fun r z h8 => ?_) rfl
    rw [show r = q4.1 from congrArg Prod.fst h8, show z = q4.2 from congrArg Prod.snd h8]
    clear h8
    refine run_pop dX12_serial_25 rfl ?_
    refine run_aload_n 0 dX12_serial_26 rfl rfl ?_
    obtain ⟨q5, h31, h⟩ := Option.bind_eq_some_iff.mp h
    refine run_callVv (As := []) (fun z => z = q5) mw_X12_layCommits mi_X12_layCommits ml_X12_533 is_269 (by decide) rfl rfl rfl (RF.lt (HX12_serial_X12_layCommits_lt d)) (Nat.le_of_ble_eq_true rfl) dX12_serial_27 (sX12_layCommits G d  h31) (fun z h8 => ?_) rfl
    rw [h8]
    clear h8
    refine run_iload 4 dX12_serial_30 rfl ?_
    refine run_iconst (v := 0) dX12_serial_32 rfl ?_
    refine run_iconst (v := 1) dX12_serial_33 rfl ?_
    obtain ⟨q6, h30, h⟩ := Option.bind_eq_some_iff.mp h
    refine run_callSb (As := [.int x4, .int 0, .int 1]) (fun r z => (r, z) = q6) mw_X12_in ms_X12_in ml_X12_156 rfl (RF.lt (HX12_serial_X12_in_lt d)) (Nat.le_of_ble_eq_true rfl) dX12_serial_34 (sX12_in G d  h30) (fun r z h8 => ?_) rfl
    rw [show r = q6.1 from congrArg Prod.fst h8, show z = q6.2 from congrArg Prod.snd h8]
    clear h8
    refine run_ifb_eq 70 dX12_serial_37 (by decide) (fun c7 => ?_) (fun c7 => ?_)
    · rw [if_neg c7] at h
      refine run_iload 4 dX12_serial_70 rfl ?_
      refine run_bipush (v := 10) dX12_serial_72 rfl ?_
      refine run_irem dX12_serial_74 (by decide) ?_
      refine run_istore [(0, .ref (gA G 269)), (4, .int x4), (5, .int (x4 % 10))] [1, 5, 0] dX12_serial_75 (by decide) rfl ?_
      refine run_iload 1 dX12_serial_77 rfl ?_
      refine run_bipush (v := 10) dX12_serial_79 rfl ?_
      refine run_icmp_lt 93 dX12_serial_81 (by decide) (fun c8 => ?_) (fun c8 => ?_)
      · rw [if_pos c8] at h
        refine run_iconst (v := -1) dX12_serial_93 rfl ?_
        exact run_iret dX12_serial_94 ⟨_, rfl, Option.some.inj h⟩
      · rw [if_neg c8] at h
        refine run_iload 2 dX12_serial_84 rfl ?_
        refine run_aload_n 0 dX12_serial_86 rfl rfl ?_
        refine run_geti fl_X12_509 is_269 (by decide) rfl dX12_serial_87 ?_
        refine run_icmp_lt 95 dX12_serial_90 (by decide) (fun c9 => ?_) (fun c9 => ?_)
        · rw [if_pos c9] at h
          refine run_iload 1 dX12_serial_95 rfl ?_
          refine run_bipush (v := 10) dX12_serial_97 rfl ?_
          refine run_idiv dX12_serial_99 (by decide) ?_
          by_cases c10 : (x4 / 10) = 1
          · rw [if_pos c10] at h
            refine run_tblIn 136 dX12_serial_100 (by rw [c10]; decide) (by rw [c10]; decide) (off := 36) (by rw [c10]; rfl) (by decide) ?_
            refine run_aload_n 0 dX12_serial_136 rfl rfl ?_
            refine run_getr fl_X12_89 is_269 (by decide) rfl ce_269_46 dX12_serial_137 ?_
            refine run_aload_n 0 dX12_serial_140 rfl rfl ?_
            refine run_getr fl_X12_125 is_269 (by decide) rfl ce_269_70 dX12_serial_141 ?_
            refine run_iload 2 dX12_serial_144 rfl ?_
            obtain ⟨g11, h⟩ := gd_s h
            refine run_iald' is_308 ln_308 g11 rfl dX12_serial_146 ?_
            obtain ⟨g12, h⟩ := gd_s h
            refine run_iald' is_296 ln_296 g12 rfl dX12_serial_147 ?_
            exact run_iret dX12_serial_148 ⟨_, rfl, Option.some.inj h⟩
          · rw [if_neg c10] at h
            by_cases c13 : (x4 / 10) = 2
            · rw [if_pos c13] at h
              refine run_tblIn 149 dX12_serial_100 (by rw [c13]; decide) (by rw [c13]; decide) (off := 49) (by rw [c13]; rfl) (by decide) ?_
              refine run_aload_n 0 dX12_serial_149 rfl rfl ?_
              refine run_getr fl_X12_95 is_269 (by decide) rfl ce_269_48 dX12_serial_150 ?_
              refine run_aload_n 0 dX12_serial_153 rfl rfl ?_
              refine run_getr fl_X12_125 is_269 (by decide) rfl ce_269_70 dX12_serial_154 ?_
              refine run_iload 2 dX12_serial_157 rfl ?_
              obtain ⟨g14, h⟩ := gd_s h
              refine run_iald' is_308 ln_308 g14 rfl dX12_serial_159 ?_
              obtain ⟨g15, h⟩ := gd_s h
              refine run_iald' is_298 ln_298 g15 rfl dX12_serial_160 ?_
              exact run_iret dX12_serial_161 ⟨_, rfl, Option.some.inj h⟩
            · rw [if_neg c13] at h
              by_cases c16 : (x4 / 10) = 3
              · rw [if_pos c16] at h
                refine run_tblIn 162 dX12_serial_100 (by rw [c16]; decide) (by rw [c16]; decide) (off := 62) (by rw [c16]; rfl) (by decide) ?_
                refine run_aload_n 0 dX12_serial_162 rfl rfl ?_
                refine run_iload 2 dX12_serial_163 rfl ?_
                obtain ⟨q17, h18, h⟩ := Option.bind_eq_some_iff.mp h
                refine run_callVi (As := [.int (x4 % 10)]) (fun r z => (r, z) = q17) mw_X12_hangs mi_X12_hangs ml_X12_539 is_269 (by decide) rfl rfl rfl (RF.lt (HX12_serial_X12_hangs_lt d)) (Nat.le_of_ble_eq_true rfl) dX12_serial_165 (sX12_hangs G d  h18) (fun r z h8 => ?_) rfl
                rw [show r = q17.1 from congrArg Prod.fst h8, show z = q17.2 from congrArg Prod.snd h8]
                clear h8
                exact run_iret dX12_serial_168 ⟨_, rfl, Option.some.inj h⟩
              · rw [if_neg c16] at h
                by_cases c19 : (x4 / 10) = 4
                · rw [if_pos c19] at h
                  refine run_tblIn 197 dX12_serial_100 (by rw [c19]; decide) (by rw [c19]; decide) (off := 97) (by rw [c19]; rfl) (by decide) ?_
                  refine run_iconst (v := -1) dX12_serial_197 rfl ?_
                  exact run_iret dX12_serial_198 ⟨_, rfl, Option.some.inj h⟩
                · rw [if_neg c19] at h
                  by_cases c20 : (x4 / 10) = 5
                  · rw [if_pos c20] at h
                    refine run_tblIn 169 dX12_serial_100 (by rw [c20]; decide) (by rw [c20]; decide) (off := 69) (by rw [c20]; rfl) (by decide) ?_
                    refine run_aload_n 0 dX12_serial_169 rfl rfl ?_
                    refine run_geti fl_X12_509 is_269 (by decide) rfl dX12_serial_170 ?_
                    refine run_bipush (v := 6) dX12_serial_173 rfl ?_
                    refine run_icmp_gt 185 dX12_serial_175 (by decide) (fun c21 => ?_) (fun c21 => ?_)
                    · rw [if_pos c21] at h
                      refine run_iconst (v := -1) dX12_serial_185 rfl ?_
                      refine run_goto 196 dX12_serial_186 (by decide) ?_
                      exact run_iret dX12_serial_196 ⟨_, rfl, Option.some.inj h⟩
                    · rw [if_neg c21] at h
                      refine run_aload_n 0 dX12_serial_178 rfl rfl ?_
                      obtain ⟨q22, h25, h⟩ := Option.bind_eq_some_iff.mp h
                      refine run_callVi (As := []) (fun r z => (r, z) = q22) mw_X12_serialRows mi_X12_serialRows ml_X12_536 is_269 (by decide) rfl rfl rfl (RF.lt (HX12_serial_X12_serialRows_lt d)) (Nat.le_of_ble_eq_true rfl) dX12_serial_179 (sX12_serialRows G d  h25) (fun r z h8 => ?_) rfl
                      rw [show r = q22.1 from congrArg Prod.fst h8, show z = q22.2 from congrArg Prod.snd h8]
                      clear h8
                      refine run_if_ne 189 dX12_serial_182 (by decide) (fun c23 => ?_) (fun c23 => ?_)
                      · rw [if_neg c23] at h
                        refine run_aload_n 0 dX12_serial_189 rfl rfl ?_
                        refine run_getr fl_X12_134 is_269 (by decide) rfl ce_269_75 dX12_serial_190 ?_
                        refine run_iload 2 dX12_serial_193 rfl ?_
                        obtain ⟨g24, h⟩ := gd_s h
                        refine run_iald' is_311 ln_311 g24 rfl dX12_serial_195 ?_
                        exact run_iret dX12_serial_196 ⟨_, rfl, Option.some.inj h⟩
                      · rw [if_pos c23] at h
                        refine run_iconst (v := -1) dX12_serial_185 rfl ?_
                        refine run_goto 196 dX12_serial_186 (by decide) ?_
                        exact run_iret dX12_serial_196 ⟨_, rfl, Option.some.inj h⟩
                  · rw [if_neg c20] at h
                    refine run_tblOut 197 dX12_serial_100 (by have tc10 := tbl_ne c10 (z := 1) rfl; have tc13 := tbl_ne c13 (z := 2) rfl; have tc16 := tbl_ne c16 (z := 3) rfl; have tc19 := tbl_ne c19 (z := 4) rfl; have tc20 := tbl_ne c20 (z := 5) rfl; omega) (by decide) ?_
                    refine run_iconst (v := -1) dX12_serial_197 rfl ?_
                    exact run_iret dX12_serial_198 ⟨_, rfl, Option.some.inj h⟩
        · rw [if_neg c9] at h
          refine run_iconst (v := -1) dX12_serial_93 rfl ?_
          exact run_iret dX12_serial_94 ⟨_, rfl, Option.some.inj h⟩
    · rw [if_pos c7] at h
      refine run_iload 4 dX12_serial_40 rfl ?_
      refine run_if_ne 52 dX12_serial_42 (by decide) (fun c26 => ?_) (fun c26 => ?_)
      · rw [if_neg c26] at h
        refine run_aload_n 0 dX12_serial_52 rfl rfl ?_
        refine run_geti fl_X12_509 is_269 (by decide) rfl dX12_serial_53 ?_
        refine run_bipush (v := 6) dX12_serial_56 rfl ?_
        refine run_icmp_le 65 dX12_serial_58 (by decide) (fun c27 => ?_) (fun c27 => ?_)
        · rw [if_pos c27] at h
          refine run_aload_n 0 dX12_serial_65 rfl rfl ?_
          obtain ⟨q28, h29, h⟩ := Option.bind_eq_some_iff.mp h
          refine run_callVi (As := []) (fun r z => (r, z) = q28) mw_X12_serialRows mi_X12_serialRows ml_X12_536 is_269 (by decide) rfl rfl rfl (RF.lt (HX12_serial_X12_serialRows_lt d)) (Nat.le_of_ble_eq_true rfl) dX12_serial_66 (sX12_serialRows G d  h29) (fun r z h8 => ?_) rfl
          rw [show r = q28.1 from congrArg Prod.fst h8, show z = q28.2 from congrArg Prod.snd h8]
          clear h8
          exact run_iret dX12_serial_69 ⟨_, rfl, Option.some.inj h⟩
        · rw [if_neg c27] at h
          refine run_iconst (v := -1) dX12_serial_61 rfl ?_
          refine run_goto 69 dX12_serial_62 (by decide) ?_
          exact run_iret dX12_serial_69 ⟨_, rfl, Option.some.inj h⟩
      · rw [if_pos c26] at h
        refine run_aload_n 0 dX12_serial_45 rfl rfl ?_
        refine run_geti fl_X12_509 is_269 (by decide) rfl dX12_serial_46 ?_
        refine run_goto 69 dX12_serial_49 (by decide) ?_
        exact run_iret dX12_serial_69 ⟨_, rfl, Option.some.inj h⟩
  · rw [if_neg c2] at h
    refine run_iconst (v := -1) dX12_serial_15 rfl ?_
    exact run_iret dX12_serial_16 ⟨_, rfl, Option.some.inj h⟩
def HX12_playFlushed : Nat := 10
theorem HX12_playFlushed_X12_beginPlan_lt (d : Nat) : d + HX12_beginPlan < d + HX12_playFlushed := Nat.add_lt_add_left (by decide) d
theorem HX12_playFlushed_X12_crash_lt (d : Nat) : d + HX12_crash < d + HX12_playFlushed := Nat.add_lt_add_left (by decide) d
theorem HX12_playFlushed_X12_deeds_lt (d : Nat) : d + HX12_deeds < d + HX12_playFlushed := Nat.add_lt_add_left (by decide) d
theorem HX12_playFlushed_X12_flushes_lt (d : Nat) : d + HX12_flushes < d + HX12_playFlushed := Nat.add_lt_add_left (by decide) d
theorem HX12_playFlushed_X12_has_lt (d : Nat) : d + HX12_has < d + HX12_playFlushed := Nat.add_lt_add_left (by decide) d
theorem HX12_playFlushed_X12_play_lt (d : Nat) : d + HX12_play < d + HX12_playFlushed := Nat.add_lt_add_left (by decide) d
theorem HX12_playFlushed_0 (d : Nat) : 0 < d + HX12_playFlushed := Nat.lt_of_lt_of_le (by decide) (Nat.le_add_left _ d)
def lX12_playFlushed_15 (x1 : Int32) : Nat → Int32 → Mem → Option (Mem)
  | 0, _, _ => none
  | n + 1, x2, σ => if (σ 269 26) ≤ x2 then (some σ) else ((fX12_has x1 x2 σ).bind fun q11 => (if q11.1 = true then ((fX12_flushes x2 q11.2).bind fun q13 => some q13) else (some q11.2) : Option (Mem)).bind fun q15 => lX12_playFlushed_15 x1 n (x2 + 1) q15)
set_option maxRecDepth 20000 in
theorem lpX12_playFlushed_15 (G : GT) (d : Nat) (x1 : Int32)  {K : Option Value → Mem → Prop} : ∀ (n : Nat) (x2 : Int32) (σ : Mem) (o : Mem), lX12_playFlushed_15 x1 n x2 σ = some o → (Run G RX12 cX12_playFlushed 3 none (mF G (d + HX12_playFlushed) K) 42 [(0, .ref (gA G 269))] [] o) → Run G RX12 cX12_playFlushed 3 none (mF G (d + HX12_playFlushed) K) 15 [(0, .ref (gA G 269)), (1, .int x1), (2, .int x2)] [] σ := by
  intro n
  induction n with
  | zero => intro x2 σ o h; exact absurd h (by simp [lX12_playFlushed_15])
  | succ n ih =>
    intro x2 σ o h kx
    rw [lX12_playFlushed_15] at h
    refine run_iload_n 2 dX12_playFlushed_15 rfl rfl ?_
    refine run_aload_n 0 dX12_playFlushed_16 rfl rfl ?_
    refine run_geti fl_X12_326 is_269 (by decide) rfl dX12_playFlushed_17 ?_
    refine run_icmp_ge 42 dX12_playFlushed_20 (by decide) (fun c10 => ?_) (fun c10 => ?_)
    · rw [if_pos c10] at h
      rw [← Option.some.inj h] at kx
      refine run_forget [0] rfl ?_
      exact kx
    · rw [if_neg c10] at h
      refine run_iload_n 1 dX12_playFlushed_23 rfl rfl ?_
      refine run_iload_n 2 dX12_playFlushed_24 rfl rfl ?_
      obtain ⟨q11, h17, h⟩ := Option.bind_eq_some_iff.mp h
      refine run_callSb (As := [.int x1, .int x2]) (fun r z => (r, z) = q11) mw_X12_has ms_X12_has ml_X12_148 rfl (RF.lt (HX12_playFlushed_X12_has_lt d)) (Nat.le_of_ble_eq_true rfl) dX12_playFlushed_25 (sX12_has G d  h17) (fun r z h8 => ?_) rfl
      rw [show r = q11.1 from congrArg Prod.fst h8, show z = q11.2 from congrArg Prod.snd h8]
      clear h8
      obtain ⟨q15, h, h9⟩ := Option.bind_eq_some_iff.mp h
      have hj16 : Run G RX12 cX12_playFlushed 3 none (mF G (d + HX12_playFlushed) K) 36 [(0, .ref (gA G 269)), (1, .int x1), (2, .int x2)] [] q15 := by
        clear h
        have h := h9
        clear h9
        refine run_iinc 2 [(0, .ref (gA G 269)), (1, .int x1), (2, .int (x2 + 1))] [1, 2, 0] dX12_playFlushed_36 rfl rfl (by decide) rfl ?_
        refine run_goto 15 dX12_playFlushed_39 (by decide) ?_
        exact ih _ _ _ h kx
      clear h9
      refine run_ifb_eq 36 dX12_playFlushed_28 (by decide) (fun c12 => ?_) (fun c12 => ?_)
      · rw [if_neg c12] at h
        rw [← Option.some.inj h] at hj16
        exact hj16
      · rw [if_pos c12] at h
        refine run_aload_n 0 dX12_playFlushed_31 rfl rfl ?_
        refine run_iload_n 2 dX12_playFlushed_32 rfl rfl ?_
        obtain ⟨q13, h14, h⟩ := Option.bind_eq_some_iff.mp h
        refine run_callVv (As := [.int x2]) (fun z => z = q13) mw_X12_flushes mi_X12_flushes ml_X12_466 is_269 (by decide) rfl rfl rfl (RF.lt (HX12_playFlushed_X12_flushes_lt d)) (Nat.le_of_ble_eq_true rfl) dX12_playFlushed_33 (sX12_flushes G d  h14) (fun z h8 => ?_) rfl
        rw [h8]
        clear h8
        rw [← Option.some.inj h] at hj16
        exact hj16
def fX12_playFlushed (x1 : Int32) (σ : Mem) : Option Mem := (fX12_beginPlan σ).bind fun q1 => (fX12_deeds q1).bind fun q2 => (fX12_play q2.1 q2.2).bind fun q3 => (lX12_playFlushed_15 x1 FU 0 q3.2).bind fun q18 => (fX12_crash q18).bind fun q19 => some q19.2
set_option maxRecDepth 20000 in
theorem sX12_playFlushed (G : GT) (d : Nat) {x1 : Int32}  {σ : Mem} {o : Mem} (h : fX12_playFlushed x1 σ = some o) : Spec G yX12_playFlushed cX12_playFlushed 3 none (d + HX12_playFlushed) [.ref (gA G 269), .int x1] σ (kV fun z => z = o) := by
  refine spec_run (by decide) (Nat.le_of_ble_eq_true rfl) ?_
  unfold fX12_playFlushed at h
  show Run G RX12 cX12_playFlushed 3 none _ 0 [(0, .ref (gA G 269)), (1, .int x1)] [] σ
  refine run_aload_n 0 dX12_playFlushed_0 rfl rfl ?_
  obtain ⟨q1, h24, h⟩ := Option.bind_eq_some_iff.mp h
  refine run_callVv (As := []) (fun z => z = q1) mw_X12_beginPlan mi_X12_beginPlan ml_X12_375 is_269 (by decide) rfl rfl rfl (RF.lt (HX12_playFlushed_X12_beginPlan_lt d)) (Nat.le_of_ble_eq_true rfl) dX12_playFlushed_1 (sX12_beginPlan G d  h24) (fun z h8 => ?_) rfl
  rw [h8]
  clear h8
  refine run_aload_n 0 dX12_playFlushed_4 rfl rfl ?_
  refine run_aload_n 0 dX12_playFlushed_5 rfl rfl ?_
  obtain ⟨q2, h23, h⟩ := Option.bind_eq_some_iff.mp h
  refine run_callVi (As := []) (fun r z => (r, z) = q2) mw_X12_deeds mi_X12_deeds ml_X12_477 is_269 (by decide) rfl rfl rfl (RF.lt (HX12_playFlushed_X12_deeds_lt d)) (Nat.le_of_ble_eq_true rfl) dX12_playFlushed_6 (sX12_deeds G d  h23) (fun r z h8 => ?_) rfl
  rw [show r = q2.1 from congrArg Prod.fst h8, show z = q2.2 from congrArg Prod.snd h8]
  clear h8
  obtain ⟨q3, h22, h⟩ := Option.bind_eq_some_iff.mp h
  refine run_callVi (As := [.int q2.1]) (fun r z => (r, z) = q3) mw_X12_play mi_X12_play ml_X12_493 is_269 (by decide) rfl rfl rfl (RF.lt (HX12_playFlushed_X12_play_lt d)) (Nat.le_of_ble_eq_true rfl) dX12_playFlushed_9 (sX12_play G d  h22) (fun r z h8 => ?_) rfl
  rw [show r = q3.1 from congrArg Prod.fst h8, show z = q3.2 from congrArg Prod.snd h8]
  clear h8
  refine run_pop dX12_playFlushed_12 rfl ?_
  refine run_iconst (v := 0) dX12_playFlushed_13 rfl ?_
  refine run_istore_n [(0, .ref (gA G 269)), (1, .int x1), (2, .int 0)] [1, 2, 0] dX12_playFlushed_14 rfl (by decide) rfl ?_
  obtain ⟨q18, h21, h⟩ := Option.bind_eq_some_iff.mp h
  refine lpX12_playFlushed_15 G d _ _ _ _ _ h21 ?_
  refine run_aload_n 0 dX12_playFlushed_42 rfl rfl ?_
  obtain ⟨q19, h20, h⟩ := Option.bind_eq_some_iff.mp h
  refine run_callVb (As := []) (fun r z => (r, z) = q19) mw_X12_crash mi_X12_crash ml_X12_454 is_269 (by decide) rfl rfl rfl (RF.lt (HX12_playFlushed_X12_crash_lt d)) (Nat.le_of_ble_eq_true rfl) dX12_playFlushed_43 (sX12_crash G d  h20) (fun r z h8 => ?_) rfl
  rw [show r = q19.1 from congrArg Prod.fst h8, show z = q19.2 from congrArg Prod.snd h8]
  clear h8
  refine run_pop dX12_playFlushed_46 rfl ?_
  exact run_vret dX12_playFlushed_47 ⟨rfl, Option.some.inj h⟩
def HX12_findSets : Nat := 11
theorem HX12_findSets_X12_isSo_lt (d : Nat) : d + HX12_isSo < d + HX12_findSets := Nat.add_lt_add_left (by decide) d
theorem HX12_findSets_X12_noteFit_lt (d : Nat) : d + HX12_noteFit < d + HX12_findSets := Nat.add_lt_add_left (by decide) d
theorem HX12_findSets_X12_playFlushed_lt (d : Nat) : d + HX12_playFlushed < d + HX12_findSets := Nat.add_lt_add_left (by decide) d
theorem HX12_findSets_0 (d : Nat) : 0 < d + HX12_findSets := Nat.lt_of_lt_of_le (by decide) (Nat.le_add_left _ d)
def lX12_findSets_35 (x1 : Int32) : Nat → Int32 → Mem → Option (Mem)
  | 0, _, _ => none
  | n + 1, x2, σ => if 1010 ≤ x2 then (some σ) else (gd (inb x2 1010) (lX12_findSets_35 x1 n (x2 + 1) (st2 σ 312 (Int32.toNatClampNeg x2) 0)))
set_option maxRecDepth 20000 in
theorem lpX12_findSets_35 (G : GT) (d : Nat) (x1 : Int32)  {K : Option Value → Mem → Prop} : ∀ (n : Nat) (x2 : Int32) (σ : Mem) (o : Mem), lX12_findSets_35 x1 n x2 σ = some o → (Run G RX12 cX12_findSets 3 none (mF G (d + HX12_findSets) K) 55 [(0, .ref (gA G 269)), (1, .int x1)] [] o) → Run G RX12 cX12_findSets 3 none (mF G (d + HX12_findSets) K) 35 [(0, .ref (gA G 269)), (1, .int x1), (2, .int x2)] [] σ := by
  intro n
  induction n with
  | zero => intro x2 σ o h; exact absurd h (by simp [lX12_findSets_35])
  | succ n ih =>
    intro x2 σ o h kx
    rw [lX12_findSets_35] at h
    refine run_iload_n 2 dX12_findSets_35 rfl rfl ?_
    refine run_sipush (v := 1010) dX12_findSets_36 rfl ?_
    refine run_icmp_ge 55 dX12_findSets_39 (by decide) (fun c4 => ?_) (fun c4 => ?_)
    · rw [if_pos c4] at h
      rw [← Option.some.inj h] at kx
      refine run_forget [0, 1] rfl ?_
      exact kx
    · rw [if_neg c4] at h
      refine run_aload_n 0 dX12_findSets_42 rfl rfl ?_
      refine run_getr fl_X12_137 is_269 (by decide) rfl ce_269_82 dX12_findSets_43 ?_
      refine run_iload_n 2 dX12_findSets_46 rfl rfl ?_
      refine run_iconst (v := 0) dX12_findSets_47 rfl ?_
      obtain ⟨g5, h⟩ := gd_s h
      refine run_iast' is_312 ln_312 g5 rfl dX12_findSets_48 ?_
      refine run_iinc 2 [(0, .ref (gA G 269)), (1, .int x1), (2, .int (x2 + 1))] [1, 2, 0] dX12_findSets_49 rfl rfl (by decide) rfl ?_
      refine run_goto 35 dX12_findSets_52 (by decide) ?_
      exact ih _ _ _ h kx
def lX12_findSets_57 (x1 : Int32) : Nat → Int32 → Mem → Option (Mem)
  | 0, _, _ => none
  | n + 1, x2, σ => if ((1 : Int32) <<< ((σ 269 26) &&& 31)) ≤ x2 then (some σ) else ((fX12_playFlushed x2 σ).bind fun q15 => (fX12_isSo q15).bind fun q16 => (if q16.1 = true then ((fX12_noteFit x2 x1 q16.2).bind fun q18 => some q18) else (some q16.2) : Option (Mem)).bind fun q20 => lX12_findSets_57 x1 n (x2 + 1) q20)
set_option maxRecDepth 20000 in
theorem lpX12_findSets_57 (G : GT) (d : Nat) (x1 : Int32)  {K : Option Value → Mem → Prop} : ∀ (n : Nat) (x2 : Int32) (σ : Mem) (o : Mem), lX12_findSets_57 x1 n x2 σ = some o → (Run G RX12 cX12_findSets 3 none (mF G (d + HX12_findSets) K) 91 [] [] o) → Run G RX12 cX12_findSets 3 none (mF G (d + HX12_findSets) K) 57 [(0, .ref (gA G 269)), (1, .int x1), (2, .int x2)] [] σ := by
  intro n
  induction n with
  | zero => intro x2 σ o h; exact absurd h (by simp [lX12_findSets_57])
  | succ n ih =>
    intro x2 σ o h kx
    rw [lX12_findSets_57] at h
    refine run_iload_n 2 dX12_findSets_57 rfl rfl ?_
    refine run_iconst (v := 1) dX12_findSets_58 rfl ?_
    refine run_aload_n 0 dX12_findSets_59 rfl rfl ?_
    refine run_geti fl_X12_326 is_269 (by decide) rfl dX12_findSets_60 ?_
    refine run_ishl dX12_findSets_63 ?_
    refine run_icmp_ge 91 dX12_findSets_64 (by decide) (fun c14 => ?_) (fun c14 => ?_)
    · rw [if_pos c14] at h
      rw [← Option.some.inj h] at kx
      refine run_forget [] rfl ?_
      exact kx
    · rw [if_neg c14] at h
      refine run_aload_n 0 dX12_findSets_67 rfl rfl ?_
      refine run_iload_n 2 dX12_findSets_68 rfl rfl ?_
      obtain ⟨q15, h23, h⟩ := Option.bind_eq_some_iff.mp h
      refine run_callVv (As := [.int x2]) (fun z => z = q15) mw_X12_playFlushed mi_X12_playFlushed ml_X12_575 is_269 (by decide) rfl rfl rfl (RF.lt (HX12_findSets_X12_playFlushed_lt d)) (Nat.le_of_ble_eq_true rfl) dX12_findSets_69 (sX12_playFlushed G d  h23) (fun z h8 => ?_) rfl
      rw [h8]
      clear h8
      refine run_aload_n 0 dX12_findSets_72 rfl rfl ?_
      obtain ⟨q16, h22, h⟩ := Option.bind_eq_some_iff.mp h
      refine run_callVb (As := []) (fun r z => (r, z) = q16) mw_X12_isSo mi_X12_isSo ml_X12_578 is_269 (by decide) rfl rfl rfl (RF.lt (HX12_findSets_X12_isSo_lt d)) (Nat.le_of_ble_eq_true rfl) dX12_findSets_73 (sX12_isSo G d  h22) (fun r z h8 => ?_) rfl
      rw [show r = q16.1 from congrArg Prod.fst h8, show z = q16.2 from congrArg Prod.snd h8]
      clear h8
      obtain ⟨q20, h, h9⟩ := Option.bind_eq_some_iff.mp h
      have hj21 : Run G RX12 cX12_findSets 3 none (mF G (d + HX12_findSets) K) 85 [(0, .ref (gA G 269)), (1, .int x1), (2, .int x2)] [] q20 := by
        clear h
        have h := h9
        clear h9
        refine run_iinc 2 [(0, .ref (gA G 269)), (1, .int x1), (2, .int (x2 + 1))] [1, 2, 0] dX12_findSets_85 rfl rfl (by decide) rfl ?_
        refine run_goto 57 dX12_findSets_88 (by decide) ?_
        exact ih _ _ _ h kx
      clear h9
      refine run_ifb_eq 85 dX12_findSets_76 (by decide) (fun c17 => ?_) (fun c17 => ?_)
      · rw [if_neg c17] at h
        rw [← Option.some.inj h] at hj21
        exact hj21
      · rw [if_pos c17] at h
        refine run_aload_n 0 dX12_findSets_79 rfl rfl ?_
        refine run_iload_n 2 dX12_findSets_80 rfl rfl ?_
        refine run_iload_n 1 dX12_findSets_81 rfl rfl ?_
        obtain ⟨q18, h19, h⟩ := Option.bind_eq_some_iff.mp h
        refine run_callVv (As := [.int x2, .int x1]) (fun z => z = q18) mw_X12_noteFit mi_X12_noteFit ml_X12_581 is_269 (by decide) rfl rfl rfl (RF.lt (HX12_findSets_X12_noteFit_lt d)) (Nat.le_of_ble_eq_true rfl) dX12_findSets_82 (sX12_noteFit G d  h19) (fun z h8 => ?_) rfl
        rw [h8]
        clear h8
        rw [← Option.some.inj h] at hj21
        exact hj21
def fX12_findSets (x1 : Int32) (σ : Mem) : Option Mem := (some (st2 (st2 (st2 (st2 σ 269 77 0) 269 78 (-2)) 269 79 (-1)) 269 80 (((1 : Int32) <<< (((st2 (st2 (st2 σ 269 77 0) 269 78 (-2)) 269 79 (-1)) 269 26) &&& 31)) - 1))).bind fun s1 => (lX12_findSets_35 x1 FU 0 (st2 s1 269 81 0)).bind fun q6 => (lX12_findSets_57 x1 FU 0 q6).bind fun q24 => some q24
set_option maxRecDepth 20000 in
theorem sX12_findSets (G : GT) (d : Nat) {x1 : Int32}  {σ : Mem} {o : Mem} (h : fX12_findSets x1 σ = some o) : Spec G yX12_findSets cX12_findSets 3 none (d + HX12_findSets) [.ref (gA G 269), .int x1] σ (kV fun z => z = o) := by
  refine spec_run (by decide) (Nat.le_of_ble_eq_true rfl) ?_
  unfold fX12_findSets at h
  show Run G RX12 cX12_findSets 3 none _ 0 [(0, .ref (gA G 269)), (1, .int x1)] [] σ
  refine run_aload_n 0 dX12_findSets_0 rfl rfl ?_
  refine run_iconst (v := 0) dX12_findSets_1 rfl ?_
  refine run_puti fp_X12_557 is_269 (by decide) rfl dX12_findSets_2 ?_
  refine run_aload_n 0 dX12_findSets_5 rfl rfl ?_
  refine run_bipush (v := -2) dX12_findSets_6 rfl ?_
  refine run_puti fp_X12_560 is_269 (by decide) rfl dX12_findSets_8 ?_
  refine run_aload_n 0 dX12_findSets_11 rfl rfl ?_
  refine run_iconst (v := -1) dX12_findSets_12 rfl ?_
  refine run_puti fp_X12_563 is_269 (by decide) rfl dX12_findSets_13 ?_
  refine run_aload_n 0 dX12_findSets_16 rfl rfl ?_
  refine run_iconst (v := 1) dX12_findSets_17 rfl ?_
  refine run_aload_n 0 dX12_findSets_18 rfl rfl ?_
  refine run_geti fl_X12_326 is_269 (by decide) rfl dX12_findSets_19 ?_
  refine run_ishl dX12_findSets_22 ?_
  refine run_iconst (v := 1) dX12_findSets_23 rfl ?_
  refine run_isub dX12_findSets_24 ?_
  refine run_puti fp_X12_569 is_269 (by decide) rfl dX12_findSets_25 ?_
  rw [Option.bind_some] at h
  refine run_mem (fun s1 es1 => ?_)
  rw [← es1] at h
  refine run_aload_n 0 dX12_findSets_28 rfl rfl ?_
  refine run_iconst (v := 0) dX12_findSets_29 rfl ?_
  refine run_puti fp_X12_572 is_269 (by decide) rfl dX12_findSets_30 ?_
  refine run_iconst (v := 0) dX12_findSets_33 rfl ?_
  refine run_istore_n [(0, .ref (gA G 269)), (1, .int x1), (2, .int 0)] [1, 2, 0] dX12_findSets_34 rfl (by decide) rfl ?_
  obtain ⟨q6, h26, h⟩ := Option.bind_eq_some_iff.mp h
  refine lpX12_findSets_35 G d _ _ _ _ _ h26 ?_
  refine run_iconst (v := 0) dX12_findSets_55 rfl ?_
  refine run_istore_n [(0, .ref (gA G 269)), (1, .int x1), (2, .int 0)] [1, 2, 0] dX12_findSets_56 rfl (by decide) rfl ?_
  obtain ⟨q24, h25, h⟩ := Option.bind_eq_some_iff.mp h
  refine lpX12_findSets_57 G d _ _ _ _ _ h25 ?_
  exact run_vret dX12_findSets_91 ⟨rfl, Option.some.inj h⟩
def HX12_fits : Nat := 12
theorem HX12_fits_X12_askWhat_lt (d : Nat) : d + HX12_askWhat < d + HX12_fits := Nat.add_lt_add_left (by decide) d
theorem HX12_fits_X12_findSets_lt (d : Nat) : d + HX12_findSets < d + HX12_fits := Nat.add_lt_add_left (by decide) d
theorem HX12_fits_X12_hasDiary_lt (d : Nat) : d + HX12_hasDiary < d + HX12_fits := Nat.add_lt_add_left (by decide) d
theorem HX12_fits_X12_in_lt (d : Nat) : d + HX12_in < d + HX12_fits := Nat.add_lt_add_left (by decide) d
theorem HX12_fits_X12_layAll_lt (d : Nat) : d + HX12_layAll < d + HX12_fits := Nat.add_lt_add_left (by decide) d
theorem HX12_fits_X12_sure_lt (d : Nat) : d + HX12_sure < d + HX12_fits := Nat.add_lt_add_left (by decide) d
theorem HX12_fits_0 (d : Nat) : 0 < d + HX12_fits := Nat.lt_of_lt_of_le (by decide) (Nat.le_add_left _ d)
def fX12_fits (x1 : Int32) (x2 : Int32) (x3 : Int32) (x4 : Int32) (x5 : Int32) (σ : Mem) : Option (Int32 × Mem) := (fX12_hasDiary x4 (st2 σ 269 0 0)).bind fun q1 => if q1.1 = true then ((fX12_layAll x1 x2 x3 q1.2).bind fun q3 => if q3.1 = true then ((fX12_findSets (x5 - 10) q3.2).bind fun q5 => if x5 < 10 then ((fX12_in x5 3 6 q5).bind fun q7 => if q7.1 = true then ((fX12_sure (x5 - 3) q7.2).bind fun q14 => some (q14.1, q14.2)) else (if x5 = 0 then (some ((q7.2 269 77), q7.2)) else (if x5 = 1 then ((fX12_askWhat q7.2).bind fun q12 => some (q12.1, q12.2)) else (if x5 = 2 then (some ((q7.2 269 79), q7.2)) else (some ((-2), q7.2)))))) else (some ((q5 269 78), q5))) else (some ((-2), q3.2))) else (some ((-2), q1.2))
set_option maxRecDepth 20000 in
theorem sX12_fits (G : GT) (d : Nat) {x1 : Int32} {x2 : Int32} {x3 : Int32} {x4 : Int32} {x5 : Int32}  {σ : Mem} {o : (Int32 × Mem)} (h : fX12_fits x1 x2 x3 x4 x5 σ = some o) : Spec G yX12_fits cX12_fits 6 (some .int) (d + HX12_fits) [.ref (gA G 269), .int x1, .int x2, .int x3, .int x4, .int x5] σ (kI fun x z => (x, z) = o) := by
  refine spec_run (by decide) (Nat.le_of_ble_eq_true rfl) ?_
  unfold fX12_fits at h
  show Run G RX12 cX12_fits 6 (some .int) _ 0 [(0, .ref (gA G 269)), (1, .int x1), (2, .int x2), (3, .int x3), (4, .int x4), (5, .int x5)] [] σ
  refine run_aload_n 0 dX12_fits_0 rfl rfl ?_
  refine run_iconst (v := 0) dX12_fits_1 rfl ?_
  refine run_puti fp_X12_144 is_269 (by decide) rfl dX12_fits_2 ?_
  refine run_aload_n 0 dX12_fits_5 rfl rfl ?_
  refine run_iload 4 dX12_fits_6 rfl ?_
  obtain ⟨q1, h19, h⟩ := Option.bind_eq_some_iff.mp h
  refine run_callVb (As := [.int x4]) (fun r z => (r, z) = q1) mw_X12_hasDiary mi_X12_hasDiary ml_X12_545 is_269 (by decide) rfl rfl rfl (RF.lt (HX12_fits_X12_hasDiary_lt d)) (Nat.le_of_ble_eq_true rfl) dX12_fits_8 (sX12_hasDiary G d  h19) (fun r z h8 => ?_) rfl
  rw [show r = q1.1 from congrArg Prod.fst h8, show z = q1.2 from congrArg Prod.snd h8]
  clear h8
  refine run_ifb_eq 24 dX12_fits_11 (by decide) (fun c2 => ?_) (fun c2 => ?_)
  · rw [if_neg c2] at h
    refine run_bipush (v := -2) dX12_fits_24 rfl ?_
    exact run_iret dX12_fits_26 ⟨_, rfl, Option.some.inj h⟩
  · rw [if_pos c2] at h
    refine run_aload_n 0 dX12_fits_14 rfl rfl ?_
    refine run_iload_n 1 dX12_fits_15 rfl rfl ?_
    refine run_iload_n 2 dX12_fits_16 rfl rfl ?_
    refine run_iload_n 3 dX12_fits_17 rfl rfl ?_
    obtain ⟨q3, h18, h⟩ := Option.bind_eq_some_iff.mp h
    refine run_callVb (As := [.int x1, .int x2, .int x3]) (fun r z => (r, z) = q3) mw_X12_layAll mi_X12_layAll ml_X12_490 is_269 (by decide) rfl rfl rfl (RF.lt (HX12_fits_X12_layAll_lt d)) (Nat.le_of_ble_eq_true rfl) dX12_fits_18 (sX12_layAll G d  h18) (fun r z h8 => ?_) rfl
    rw [show r = q3.1 from congrArg Prod.fst h8, show z = q3.2 from congrArg Prod.snd h8]
    clear h8
    refine run_ifb_ne 27 dX12_fits_21 (by decide) (fun c4 => ?_) (fun c4 => ?_)
    · rw [if_pos c4] at h
      refine run_aload_n 0 dX12_fits_27 rfl rfl ?_
      refine run_iload 5 dX12_fits_28 rfl ?_
      refine run_bipush (v := 10) dX12_fits_30 rfl ?_
      refine run_isub dX12_fits_32 ?_
      obtain ⟨q5, h17, h⟩ := Option.bind_eq_some_iff.mp h
      refine run_callVv (As := [.int (x5 - 10)]) (fun z => z = q5) mw_X12_findSets mi_X12_findSets ml_X12_585 is_269 (by decide) rfl rfl rfl (RF.lt (HX12_fits_X12_findSets_lt d)) (Nat.le_of_ble_eq_true rfl) dX12_fits_33 (sX12_findSets G d  h17) (fun z h8 => ?_) rfl
      rw [h8]
      clear h8
      refine run_iload 5 dX12_fits_36 rfl ?_
      refine run_bipush (v := 10) dX12_fits_38 rfl ?_
      refine run_icmp_lt 48 dX12_fits_40 (by decide) (fun c6 => ?_) (fun c6 => ?_)
      · rw [if_pos c6] at h
        refine run_iload 5 dX12_fits_48 rfl ?_
        refine run_iconst (v := 3) dX12_fits_50 rfl ?_
        refine run_bipush (v := 6) dX12_fits_51 rfl ?_
        obtain ⟨q7, h16, h⟩ := Option.bind_eq_some_iff.mp h
        refine run_callSb (As := [.int x5, .int 3, .int 6]) (fun r z => (r, z) = q7) mw_X12_in ms_X12_in ml_X12_156 rfl (RF.lt (HX12_fits_X12_in_lt d)) (Nat.le_of_ble_eq_true rfl) dX12_fits_53 (sX12_in G d  h16) (fun r z h8 => ?_) rfl
        rw [show r = q7.1 from congrArg Prod.fst h8, show z = q7.2 from congrArg Prod.snd h8]
        clear h8
        refine run_ifb_eq 68 dX12_fits_56 (by decide) (fun c8 => ?_) (fun c8 => ?_)
        · rw [if_neg c8] at h
          refine run_iload 5 dX12_fits_68 rfl ?_
          refine run_if_ne 80 dX12_fits_70 (by decide) (fun c9 => ?_) (fun c9 => ?_)
          · rw [if_neg c9] at h
            refine run_iload 5 dX12_fits_80 rfl ?_
            refine run_iconst (v := 1) dX12_fits_82 rfl ?_
            refine run_icmp_ne 93 dX12_fits_83 (by decide) (fun c10 => ?_) (fun c10 => ?_)
            · rw [if_neg c10] at h
              refine run_iload 5 dX12_fits_93 rfl ?_
              refine run_iconst (v := 2) dX12_fits_95 rfl ?_
              refine run_icmp_ne 106 dX12_fits_96 (by decide) (fun c11 => ?_) (fun c11 => ?_)
              · rw [if_neg c11] at h
                refine run_bipush (v := -2) dX12_fits_106 rfl ?_
                exact run_iret dX12_fits_108 ⟨_, rfl, Option.some.inj h⟩
              · rw [if_pos c11] at h
                refine run_aload_n 0 dX12_fits_99 rfl rfl ?_
                refine run_geti fl_X12_563 is_269 (by decide) rfl dX12_fits_100 ?_
                refine run_goto 108 dX12_fits_103 (by decide) ?_
                exact run_iret dX12_fits_108 ⟨_, rfl, Option.some.inj h⟩
            · rw [if_pos c10] at h
              refine run_aload_n 0 dX12_fits_86 rfl rfl ?_
              obtain ⟨q12, h13, h⟩ := Option.bind_eq_some_iff.mp h
              refine run_callVi (As := []) (fun r z => (r, z) = q12) mw_X12_askWhat mi_X12_askWhat ml_X12_591 is_269 (by decide) rfl rfl rfl (RF.lt (HX12_fits_X12_askWhat_lt d)) (Nat.le_of_ble_eq_true rfl) dX12_fits_87 (sX12_askWhat G d  h13) (fun r z h8 => ?_) rfl
              rw [show r = q12.1 from congrArg Prod.fst h8, show z = q12.2 from congrArg Prod.snd h8]
              clear h8
              refine run_goto 108 dX12_fits_90 (by decide) ?_
              exact run_iret dX12_fits_108 ⟨_, rfl, Option.some.inj h⟩
          · rw [if_pos c9] at h
            refine run_aload_n 0 dX12_fits_73 rfl rfl ?_
            refine run_geti fl_X12_557 is_269 (by decide) rfl dX12_fits_74 ?_
            refine run_goto 108 dX12_fits_77 (by decide) ?_
            exact run_iret dX12_fits_108 ⟨_, rfl, Option.some.inj h⟩
        · rw [if_pos c8] at h
          refine run_aload_n 0 dX12_fits_59 rfl rfl ?_
          refine run_iload 5 dX12_fits_60 rfl ?_
          refine run_iconst (v := 3) dX12_fits_62 rfl ?_
          refine run_isub dX12_fits_63 ?_
          obtain ⟨q14, h15, h⟩ := Option.bind_eq_some_iff.mp h
          refine run_callVi (As := [.int (x5 - 3)]) (fun r z => (r, z) = q14) mw_X12_sure mi_X12_sure ml_X12_588 is_269 (by decide) rfl rfl rfl (RF.lt (HX12_fits_X12_sure_lt d)) (Nat.le_of_ble_eq_true rfl) dX12_fits_64 (sX12_sure G d  h15) (fun r z h8 => ?_) rfl
          rw [show r = q14.1 from congrArg Prod.fst h8, show z = q14.2 from congrArg Prod.snd h8]
          clear h8
          exact run_iret dX12_fits_67 ⟨_, rfl, Option.some.inj h⟩
      · rw [if_neg c6] at h
        refine run_aload_n 0 dX12_fits_43 rfl rfl ?_
        refine run_geti fl_X12_560 is_269 (by decide) rfl dX12_fits_44 ?_
        exact run_iret dX12_fits_47 ⟨_, rfl, Option.some.inj h⟩
    · rw [if_neg c4] at h
      refine run_bipush (v := -2) dX12_fits_24 rfl ?_
      exact run_iret dX12_fits_26 ⟨_, rfl, Option.some.inj h⟩
def HX12_drawDeed : Nat := 9
theorem HX12_drawDeed_X12_does_lt (d : Nat) : d + HX12_does < d + HX12_drawDeed := Nat.add_lt_add_left (by decide) d
theorem HX12_drawDeed_X12_draw_lt (d : Nat) : d + HX12_draw < d + HX12_drawDeed := Nat.add_lt_add_left (by decide) d
theorem HX12_drawDeed_0 (d : Nat) : 0 < d + HX12_drawDeed := Nat.lt_of_lt_of_le (by decide) (Nat.le_add_left _ d)
def fX12_drawDeed  (σ : Mem) : Option Mem := (fX12_draw 12 σ).bind fun q1 => if 3 ≤ q1.1 then (if 10 ≤ q1.1 then (if q1.1 = 10 then ((fX12_does 0 (-1) (-1) (-1) q1.2).bind fun q10 => some q10.2) else ((fX12_draw 4 q1.2).bind fun q5 => if q5.1 = 0 then ((fX12_does 1 (-1) (-1) (-1) q5.2).bind fun q7 => some q7.2) else (some q5.2))) else ((if 7 ≤ q1.1 then (if 9 ≤ q1.1 then (some 5) else (some 3)) else (some 2) : Option (Int32)).bind fun q14 => (fX12_draw (q1.2 269 26) q1.2).bind fun q15 => (fX12_does q14 q15.1 (-1) (-1) q15.2).bind fun q16 => some q16.2)) else (if (q1.2 269 27) ≤ 0 then (some q1.2) else ((fX12_draw (q1.2 269 26) q1.2).bind fun q21 => (fX12_draw (q21.2 269 27) q21.2).bind fun q22 => (fX12_does 6 q21.1 q22.1 (-1) q22.2).bind fun q23 => some q23.2))
set_option maxRecDepth 20000 in
theorem sX12_drawDeed (G : GT) (d : Nat)   {σ : Mem} {o : Mem} (h : fX12_drawDeed σ = some o) : Spec G yX12_drawDeed cX12_drawDeed 3 none (d + HX12_drawDeed) [.ref (gA G 269)] σ (kV fun z => z = o) := by
  refine spec_run (by decide) (Nat.le_of_ble_eq_true rfl) ?_
  unfold fX12_drawDeed at h
  show Run G RX12 cX12_drawDeed 3 none _ 0 [(0, .ref (gA G 269))] [] σ
  refine run_aload_n 0 dX12_drawDeed_0 rfl rfl ?_
  refine run_bipush (v := 12) dX12_drawDeed_1 rfl ?_
  obtain ⟨q1, h27, h⟩ := Option.bind_eq_some_iff.mp h
  refine run_callVi (As := [.int 12]) (fun r z => (r, z) = q1) mw_X12_draw mi_X12_draw ml_X12_598 is_269 (by decide) rfl rfl rfl (RF.lt (HX12_drawDeed_X12_draw_lt d)) (Nat.le_of_ble_eq_true rfl) dX12_drawDeed_3 (sX12_draw G d  h27) (fun r z h8 => ?_) rfl
  rw [show r = q1.1 from congrArg Prod.fst h8, show z = q1.2 from congrArg Prod.snd h8]
  clear h8
  refine run_istore_n [(0, .ref (gA G 269)), (1, .int q1.1)] [1, 0] dX12_drawDeed_6 rfl (by decide) rfl ?_
  refine run_iload_n 1 dX12_drawDeed_7 rfl rfl ?_
  refine run_iconst (v := 3) dX12_drawDeed_8 rfl ?_
  refine run_icmp_ge 48 dX12_drawDeed_9 (by decide) (fun c2 => ?_) (fun c2 => ?_)
  · rw [if_pos c2] at h
    refine run_iload_n 1 dX12_drawDeed_48 rfl rfl ?_
    refine run_bipush (v := 10) dX12_drawDeed_49 rfl ?_
    refine run_icmp_ge 93 dX12_drawDeed_51 (by decide) (fun c3 => ?_) (fun c3 => ?_)
    · rw [if_pos c3] at h
      refine run_iload_n 1 dX12_drawDeed_93 rfl rfl ?_
      refine run_bipush (v := 10) dX12_drawDeed_94 rfl ?_
      refine run_icmp_ne 111 dX12_drawDeed_96 (by decide) (fun c4 => ?_) (fun c4 => ?_)
      · rw [if_neg c4] at h
        refine run_aload_n 0 dX12_drawDeed_111 rfl rfl ?_
        refine run_iconst (v := 4) dX12_drawDeed_112 rfl ?_
        obtain ⟨q5, h9, h⟩ := Option.bind_eq_some_iff.mp h
        refine run_callVi (As := [.int 4]) (fun r z => (r, z) = q5) mw_X12_draw mi_X12_draw ml_X12_598 is_269 (by decide) rfl rfl rfl (RF.lt (HX12_drawDeed_X12_draw_lt d)) (Nat.le_of_ble_eq_true rfl) dX12_drawDeed_113 (sX12_draw G d  h9) (fun r z h8 => ?_) rfl
        rw [show r = q5.1 from congrArg Prod.fst h8, show z = q5.2 from congrArg Prod.snd h8]
        clear h8
        refine run_if_ne 128 dX12_drawDeed_116 (by decide) (fun c6 => ?_) (fun c6 => ?_)
        · rw [if_neg c6] at h
          exact run_vret dX12_drawDeed_128 ⟨rfl, Option.some.inj h⟩
        · rw [if_pos c6] at h
          refine run_aload_n 0 dX12_drawDeed_119 rfl rfl ?_
          refine run_iconst (v := 1) dX12_drawDeed_120 rfl ?_
          refine run_iconst (v := -1) dX12_drawDeed_121 rfl ?_
          refine run_iconst (v := -1) dX12_drawDeed_122 rfl ?_
          refine run_iconst (v := -1) dX12_drawDeed_123 rfl ?_
          obtain ⟨q7, h8, h⟩ := Option.bind_eq_some_iff.mp h
          refine run_callVb (As := [.int 1, .int (-1), .int (-1), .int (-1)]) (fun r z => (r, z) = q7) mw_X12_does mi_X12_does ml_X12_483 is_269 (by decide) rfl rfl rfl (RF.lt (HX12_drawDeed_X12_does_lt d)) (Nat.le_of_ble_eq_true rfl) dX12_drawDeed_124 (sX12_does G d  h8) (fun r z h8 => ?_) rfl
          rw [show r = q7.1 from congrArg Prod.fst h8, show z = q7.2 from congrArg Prod.snd h8]
          clear h8
          refine run_pop dX12_drawDeed_127 rfl ?_
          exact run_vret dX12_drawDeed_128 ⟨rfl, Option.some.inj h⟩
      · rw [if_pos c4] at h
        refine run_aload_n 0 dX12_drawDeed_99 rfl rfl ?_
        refine run_iconst (v := 0) dX12_drawDeed_100 rfl ?_
        refine run_iconst (v := -1) dX12_drawDeed_101 rfl ?_
        refine run_iconst (v := -1) dX12_drawDeed_102 rfl ?_
        refine run_iconst (v := -1) dX12_drawDeed_103 rfl ?_
        obtain ⟨q10, h11, h⟩ := Option.bind_eq_some_iff.mp h
        refine run_callVb (As := [.int 0, .int (-1), .int (-1), .int (-1)]) (fun r z => (r, z) = q10) mw_X12_does mi_X12_does ml_X12_483 is_269 (by decide) rfl rfl rfl (RF.lt (HX12_drawDeed_X12_does_lt d)) (Nat.le_of_ble_eq_true rfl) dX12_drawDeed_104 (sX12_does G d  h11) (fun r z h8 => ?_) rfl
        rw [show r = q10.1 from congrArg Prod.fst h8, show z = q10.2 from congrArg Prod.snd h8]
        clear h8
        refine run_pop dX12_drawDeed_107 rfl ?_
        refine run_goto 128 dX12_drawDeed_108 (by decide) ?_
        exact run_vret dX12_drawDeed_128 ⟨rfl, Option.some.inj h⟩
    · rw [if_neg c3] at h
      refine run_aload_n 0 dX12_drawDeed_54 rfl rfl ?_
      refine run_iload_n 1 dX12_drawDeed_55 rfl rfl ?_
      refine run_bipush (v := 7) dX12_drawDeed_56 rfl ?_
      obtain ⟨q14, h, h9⟩ := Option.bind_eq_some_iff.mp h
      have hj19 : Run G RX12 cX12_drawDeed 3 none (mF G (d + HX12_drawDeed) (kV fun z => z = o)) 76 [(0, .ref (gA G 269))] [.int q14, .ref (gA G 269)] q1.2 := by
        clear h
        have h := h9
        clear h9
        refine run_aload_n 0 dX12_drawDeed_76 rfl rfl ?_
        refine run_aload_n 0 dX12_drawDeed_77 rfl rfl ?_
        refine run_geti fl_X12_326 is_269 (by decide) rfl dX12_drawDeed_78 ?_
        obtain ⟨q15, h18, h⟩ := Option.bind_eq_some_iff.mp h
        refine run_callVi (As := [.int (q1.2 269 26)]) (fun r z => (r, z) = q15) mw_X12_draw mi_X12_draw ml_X12_598 is_269 (by decide) rfl rfl rfl (RF.lt (HX12_drawDeed_X12_draw_lt d)) (Nat.le_of_ble_eq_true rfl) dX12_drawDeed_81 (sX12_draw G d  h18) (fun r z h8 => ?_) rfl
        rw [show r = q15.1 from congrArg Prod.fst h8, show z = q15.2 from congrArg Prod.snd h8]
        clear h8
        refine run_iconst (v := -1) dX12_drawDeed_84 rfl ?_
        refine run_iconst (v := -1) dX12_drawDeed_85 rfl ?_
        obtain ⟨q16, h17, h⟩ := Option.bind_eq_some_iff.mp h
        refine run_callVb (As := [.int q14, .int q15.1, .int (-1), .int (-1)]) (fun r z => (r, z) = q16) mw_X12_does mi_X12_does ml_X12_483 is_269 (by decide) rfl rfl rfl (RF.lt (HX12_drawDeed_X12_does_lt d)) (Nat.le_of_ble_eq_true rfl) dX12_drawDeed_86 (sX12_does G d  h17) (fun r z h8 => ?_) rfl
        rw [show r = q16.1 from congrArg Prod.fst h8, show z = q16.2 from congrArg Prod.snd h8]
        clear h8
        refine run_pop dX12_drawDeed_89 rfl ?_
        refine run_goto 128 dX12_drawDeed_90 (by decide) ?_
        exact run_vret dX12_drawDeed_128 ⟨rfl, Option.some.inj h⟩
      clear h9
      refine run_icmp_ge 65 dX12_drawDeed_58 (by decide) (fun c12 => ?_) (fun c12 => ?_)
      · rw [if_pos c12] at h
        refine run_iload_n 1 dX12_drawDeed_65 rfl rfl ?_
        refine run_bipush (v := 9) dX12_drawDeed_66 rfl ?_
        refine run_icmp_ge 75 dX12_drawDeed_68 (by decide) (fun c13 => ?_) (fun c13 => ?_)
        · rw [if_pos c13] at h
          refine run_iconst (v := 5) dX12_drawDeed_75 rfl ?_
          rw [← Option.some.inj h] at hj19
          refine run_forget [0] rfl ?_
          exact hj19
        · rw [if_neg c13] at h
          refine run_iconst (v := 3) dX12_drawDeed_71 rfl ?_
          refine run_goto 76 dX12_drawDeed_72 (by decide) ?_
          rw [← Option.some.inj h] at hj19
          refine run_forget [0] rfl ?_
          exact hj19
      · rw [if_neg c12] at h
        refine run_iconst (v := 2) dX12_drawDeed_61 rfl ?_
        refine run_goto 76 dX12_drawDeed_62 (by decide) ?_
        rw [← Option.some.inj h] at hj19
        refine run_forget [0] rfl ?_
        exact hj19
  · rw [if_neg c2] at h
    refine run_aload_n 0 dX12_drawDeed_12 rfl rfl ?_
    refine run_geti fl_X12_323 is_269 (by decide) rfl dX12_drawDeed_13 ?_
    refine run_if_le 128 dX12_drawDeed_16 (by decide) (fun c20 => ?_) (fun c20 => ?_)
    · rw [if_pos c20] at h
      exact run_vret dX12_drawDeed_128 ⟨rfl, Option.some.inj h⟩
    · rw [if_neg c20] at h
      refine run_aload_n 0 dX12_drawDeed_19 rfl rfl ?_
      refine run_aload_n 0 dX12_drawDeed_20 rfl rfl ?_
      refine run_geti fl_X12_326 is_269 (by decide) rfl dX12_drawDeed_21 ?_
      obtain ⟨q21, h26, h⟩ := Option.bind_eq_some_iff.mp h
      refine run_callVi (As := [.int (q1.2 269 26)]) (fun r z => (r, z) = q21) mw_X12_draw mi_X12_draw ml_X12_598 is_269 (by decide) rfl rfl rfl (RF.lt (HX12_drawDeed_X12_draw_lt d)) (Nat.le_of_ble_eq_true rfl) dX12_drawDeed_24 (sX12_draw G d  h26) (fun r z h8 => ?_) rfl
      rw [show r = q21.1 from congrArg Prod.fst h8, show z = q21.2 from congrArg Prod.snd h8]
      clear h8
      refine run_istore_n [(0, .ref (gA G 269)), (2, .int q21.1)] [1, 0] dX12_drawDeed_27 rfl (by decide) rfl ?_
      refine run_aload_n 0 dX12_drawDeed_28 rfl rfl ?_
      refine run_bipush (v := 6) dX12_drawDeed_29 rfl ?_
      refine run_iload_n 1 dX12_drawDeed_31 rfl rfl ?_
      refine run_aload_n 0 dX12_drawDeed_32 rfl rfl ?_
      refine run_aload_n 0 dX12_drawDeed_33 rfl rfl ?_
      refine run_geti fl_X12_323 is_269 (by decide) rfl dX12_drawDeed_34 ?_
      obtain ⟨q22, h25, h⟩ := Option.bind_eq_some_iff.mp h
      refine run_callVi (As := [.int (q21.2 269 27)]) (fun r z => (r, z) = q22) mw_X12_draw mi_X12_draw ml_X12_598 is_269 (by decide) rfl rfl rfl (RF.lt (HX12_drawDeed_X12_draw_lt d)) (Nat.le_of_ble_eq_true rfl) dX12_drawDeed_37 (sX12_draw G d  h25) (fun r z h8 => ?_) rfl
      rw [show r = q22.1 from congrArg Prod.fst h8, show z = q22.2 from congrArg Prod.snd h8]
      clear h8
      refine run_iconst (v := -1) dX12_drawDeed_40 rfl ?_
      obtain ⟨q23, h24, h⟩ := Option.bind_eq_some_iff.mp h
      refine run_callVb (As := [.int 6, .int q21.1, .int q22.1, .int (-1)]) (fun r z => (r, z) = q23) mw_X12_does mi_X12_does ml_X12_483 is_269 (by decide) rfl rfl rfl (RF.lt (HX12_drawDeed_X12_does_lt d)) (Nat.le_of_ble_eq_true rfl) dX12_drawDeed_41 (sX12_does G d  h24) (fun r z h8 => ?_) rfl
      rw [show r = q23.1 from congrArg Prod.fst h8, show z = q23.2 from congrArg Prod.snd h8]
      clear h8
      refine run_pop dX12_drawDeed_44 rfl ?_
      refine run_goto 128 dX12_drawDeed_45 (by decide) ?_
      exact run_vret dX12_drawDeed_128 ⟨rfl, Option.some.inj h⟩
