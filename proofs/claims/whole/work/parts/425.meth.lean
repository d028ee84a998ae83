/-! methods, translated -/
def HX3_tryCommit : Nat := 4
theorem HX3_tryCommit_X10_rest_lt (d : Nat) : d + HX10_rest < d + HX3_tryCommit := Nat.add_lt_add_left (by decide) d
theorem HX3_tryCommit_X3_makeCommit_lt (d : Nat) : d + HX3_makeCommit < d + HX3_tryCommit := Nat.add_lt_add_left (by decide) d
theorem HX3_tryCommit_X3_noteRefusal_lt (d : Nat) : d + HX3_noteRefusal < d + HX3_tryCommit := Nat.add_lt_add_left (by decide) d
theorem HX3_tryCommit_X3_phantomNode_lt (d : Nat) : d + HX3_phantomNode < d + HX3_tryCommit := Nat.add_lt_add_left (by decide) d
theorem HX3_tryCommit_X3_staleKey_lt (d : Nat) : d + HX3_staleKey < d + HX3_tryCommit := Nat.add_lt_add_left (by decide) d
theorem HX3_tryCommit_0 (d : Nat) : 0 < d + HX3_tryCommit := Nat.lt_of_lt_of_le (by decide) (Nat.le_add_left _ d)
def fX3_tryCommit (x1 : Int32) (σ : Mem) : Option Mem := gd (inb x1 4) ((fX3_staleKey (158 + 4 * (Int32.toNatClampNeg x1)) σ).bind fun q2 => (fX3_phantomNode (158 + 4 * (Int32.toNatClampNeg x1)) q2.2).bind fun q3 => if q2.1 = (-1) then (if q3.1 = (-1) then ((fX3_makeCommit x1 q3.2).bind fun q6 => (fX10_rest (158 + 4 * (Int32.toNatClampNeg x1)) q6).bind fun q7 => some q7) else (gd (inb q3.1 10) ((fX3_noteRefusal (158 + 4 * (Int32.toNatClampNeg x1)) 3 q3.1 (q3.2 151 (Int32.toNatClampNeg q3.1)) q3.2).bind fun q11 => (fX10_rest (158 + 4 * (Int32.toNatClampNeg x1)) q11).bind fun q12 => some q12))) else (gd (inb q2.1 10) ((fX3_noteRefusal (158 + 4 * (Int32.toNatClampNeg x1)) 2 q2.1 (q3.2 150 (Int32.toNatClampNeg q2.1)) q3.2).bind fun q16 => (fX10_rest (158 + 4 * (Int32.toNatClampNeg x1)) q16).bind fun q17 => some q17)))
set_option maxRecDepth 20000 in
theorem sX3_tryCommit (G : GT) (d : Nat) {x1 : Int32}  {σ : Mem} {o : Mem} (h : fX3_tryCommit x1 σ = some o) : Spec G yX3_tryCommit cX3_tryCommit 5 none (d + HX3_tryCommit) [.ref (gA G 146), .int x1] σ (kV fun z => z = o) := by
  refine spec_run (by decide) (Nat.le_of_ble_eq_true rfl) ?_
  unfold fX3_tryCommit at h
  show Run G RX3 cX3_tryCommit 5 none _ 0 [(0, .ref (gA G 146)), (1, .int x1)] [] σ
  refine run_aload_n 0 dX3_tryCommit_0 rfl rfl ?_
  refine run_getr fl_X3_29 is_146 (by decide) rfl ce_146_9 dX3_tryCommit_1 ?_
  refine run_iload_n 1 dX3_tryCommit_4 rfl rfl ?_
  obtain ⟨g1, h⟩ := gd_s h
  refine run_aald' (j := (Int32.toNatClampNeg x1)) is_152 (by decide) (by decide) (t0 := 9) rfl ln_152 g1 rfl (es_152 _) dX3_tryCommit_5 ?_
  refine run_astore_n [(0, .ref (gA G 146)), (1, .int x1), (2, .ref (gA G (158 + 4 * (Int32.toNatClampNeg x1))))] [1, 2, 0] dX3_tryCommit_6 rfl (by decide) rfl ?_
  refine run_aload_n 0 dX3_tryCommit_7 rfl rfl ?_
  refine run_aload_n 2 dX3_tryCommit_8 rfl rfl ?_
  obtain ⟨q2, h21, h⟩ := Option.bind_eq_some_iff.mp h
  refine run_callVi (As := [.ref (gA G (158 + 4 * (Int32.toNatClampNeg x1)))]) (fun r z => (r, z) = q2) mw_X3_staleKey mi_X3_staleKey ml_X3_255 is_146 (by decide) rfl rfl rfl (RF.lt (HX3_tryCommit_X3_staleKey_lt d)) (Nat.le_of_ble_eq_true rfl) dX3_tryCommit_9 (sX3_staleKey G d (el_152 (inb_lt g1)) h21) (fun r z h8 => ?_) rfl
  rw [show r = q2.1 from congrArg Prod.fst h8, show z = q2.2 from congrArg Prod.snd h8]
  clear h8
  refine run_istore_n [(0, .ref (gA G 146)), (1, .int x1), (2, .ref (gA G (158 + 4 * (Int32.toNatClampNeg x1)))), (3, .int q2.1)] [1, 2, 3, 0] dX3_tryCommit_12 rfl (by decide) rfl ?_
  refine run_aload_n 0 dX3_tryCommit_13 rfl rfl ?_
  refine run_aload_n 2 dX3_tryCommit_14 rfl rfl ?_
  obtain ⟨q3, h20, h⟩ := Option.bind_eq_some_iff.mp h
  refine run_callVi (As := [.ref (gA G (158 + 4 * (Int32.toNatClampNeg x1)))]) (fun r z => (r, z) = q3) mw_X3_phantomNode mi_X3_phantomNode ml_X3_259 is_146 (by decide) rfl rfl rfl (RF.lt (HX3_tryCommit_X3_phantomNode_lt d)) (Nat.le_of_ble_eq_true rfl) dX3_tryCommit_15 (sX3_phantomNode G d (el_152 (inb_lt g1)) h20) (fun r z h8 => ?_) rfl
  rw [show r = q3.1 from congrArg Prod.fst h8, show z = q3.2 from congrArg Prod.snd h8]
  clear h8
  refine run_istore [(0, .ref (gA G 146)), (1, .int x1), (2, .ref (gA G (158 + 4 * (Int32.toNatClampNeg x1)))), (3, .int q2.1), (4, .int q3.1)] [1, 2, 3, 4, 0] dX3_tryCommit_18 (by decide) rfl ?_
  refine run_iload_n 3 dX3_tryCommit_20 rfl rfl ?_
  refine run_iconst (v := -1) dX3_tryCommit_21 rfl ?_
  refine run_icmp_eq 41 dX3_tryCommit_22 (by decide) (fun c4 => ?_) (fun c4 => ?_)
  · rw [if_pos c4] at h
    refine run_iload 4 dX3_tryCommit_41 rfl ?_
    refine run_iconst (v := -1) dX3_tryCommit_43 rfl ?_
    refine run_icmp_eq 65 dX3_tryCommit_44 (by decide) (fun c5 => ?_) (fun c5 => ?_)
    · rw [if_pos c5] at h
      refine run_aload_n 0 dX3_tryCommit_65 rfl rfl ?_
      refine run_iload_n 1 dX3_tryCommit_66 rfl rfl ?_
      obtain ⟨q6, h9, h⟩ := Option.bind_eq_some_iff.mp h
      refine run_callVv (As := [.int x1]) (fun z => z = q6) mw_X3_makeCommit mi_X3_makeCommit ml_X3_266 is_146 (by decide) rfl rfl rfl (RF.lt (HX3_tryCommit_X3_makeCommit_lt d)) (Nat.le_of_ble_eq_true rfl) dX3_tryCommit_67 (sX3_makeCommit G d  h9) (fun z h8 => ?_) rfl
      rw [h8]
      clear h8
      refine run_aload_n 2 dX3_tryCommit_70 rfl rfl ?_
      obtain ⟨q7, h8, h⟩ := Option.bind_eq_some_iff.mp h
      refine run_callVv (As := []) (fun z => z = q7) mw_X10_rest mi_X10_rest ml_X3_118 (el_152 (inb_lt g1)) (by decide) rfl rfl rfl (RF.lt (HX3_tryCommit_X10_rest_lt d)) (Nat.le_of_ble_eq_true rfl) dX3_tryCommit_71 (sX10_rest G d (el_152 (inb_lt g1)) h8) (fun z h8 => ?_) rfl
      rw [h8]
      clear h8
      exact run_vret dX3_tryCommit_74 ⟨rfl, Option.some.inj h⟩
    · rw [if_neg c5] at h
      refine run_aload_n 0 dX3_tryCommit_47 rfl rfl ?_
      refine run_aload_n 2 dX3_tryCommit_48 rfl rfl ?_
      refine run_iconst (v := 3) dX3_tryCommit_49 rfl ?_
      refine run_iload 4 dX3_tryCommit_50 rfl ?_
      refine run_aload_n 0 dX3_tryCommit_52 rfl rfl ?_
      refine run_getr fl_X3_24 is_146 (by decide) rfl ce_146_8 dX3_tryCommit_53 ?_
      refine run_iload 4 dX3_tryCommit_56 rfl ?_
      obtain ⟨g10, h⟩ := gd_s h
      refine run_iald' is_151 ln_151 g10 rfl dX3_tryCommit_58 ?_
      obtain ⟨q11, h14, h⟩ := Option.bind_eq_some_iff.mp h
      refine run_callVv (As := [.ref (gA G (158 + 4 * (Int32.toNatClampNeg x1))), .int 3, .int q3.1, .int (q3.2 151 (Int32.toNatClampNeg q3.1))]) (fun z => z = q11) mw_X3_noteRefusal mi_X3_noteRefusal ml_X3_262 is_146 (by decide) rfl rfl rfl (RF.lt (HX3_tryCommit_X3_noteRefusal_lt d)) (Nat.le_of_ble_eq_true rfl) dX3_tryCommit_59 (sX3_noteRefusal G d (el_152 (inb_lt g1)) h14) (fun z h8 => ?_) rfl
      rw [h8]
      clear h8
      refine run_goto 70 dX3_tryCommit_62 (by decide) ?_
      refine run_aload_n 2 dX3_tryCommit_70 rfl rfl ?_
      obtain ⟨q12, h13, h⟩ := Option.bind_eq_some_iff.mp h
      refine run_callVv (As := []) (fun z => z = q12) mw_X10_rest mi_X10_rest ml_X3_118 (el_152 (inb_lt g1)) (by decide) rfl rfl rfl (RF.lt (HX3_tryCommit_X10_rest_lt d)) (Nat.le_of_ble_eq_true rfl) dX3_tryCommit_71 (sX10_rest G d (el_152 (inb_lt g1)) h13) (fun z h8 => ?_) rfl
      rw [h8]
      clear h8
      exact run_vret dX3_tryCommit_74 ⟨rfl, Option.some.inj h⟩
  · rw [if_neg c4] at h
    refine run_aload_n 0 dX3_tryCommit_25 rfl rfl ?_
    refine run_aload_n 2 dX3_tryCommit_26 rfl rfl ?_
    refine run_iconst (v := 2) dX3_tryCommit_27 rfl ?_
    refine run_iload_n 3 dX3_tryCommit_28 rfl rfl ?_
    refine run_aload_n 0 dX3_tryCommit_29 rfl rfl ?_
    refine run_getr fl_X3_21 is_146 (by decide) rfl ce_146_7 dX3_tryCommit_30 ?_
    refine run_iload_n 3 dX3_tryCommit_33 rfl rfl ?_
    obtain ⟨g15, h⟩ := gd_s h
    refine run_iald' is_150 ln_150 g15 rfl dX3_tryCommit_34 ?_
    obtain ⟨q16, h19, h⟩ := Option.bind_eq_some_iff.mp h
    refine run_callVv (As := [.ref (gA G (158 + 4 * (Int32.toNatClampNeg x1))), .int 2, .int q2.1, .int (q3.2 150 (Int32.toNatClampNeg q2.1))]) (fun z => z = q16) mw_X3_noteRefusal mi_X3_noteRefusal ml_X3_262 is_146 (by decide) rfl rfl rfl (RF.lt (HX3_tryCommit_X3_noteRefusal_lt d)) (Nat.le_of_ble_eq_true rfl) dX3_tryCommit_35 (sX3_noteRefusal G d (el_152 (inb_lt g1)) h19) (fun z h8 => ?_) rfl
    rw [h8]
    clear h8
    refine run_goto 70 dX3_tryCommit_38 (by decide) ?_
    refine run_aload_n 2 dX3_tryCommit_70 rfl rfl ?_
    obtain ⟨q17, h18, h⟩ := Option.bind_eq_some_iff.mp h
    refine run_callVv (As := []) (fun z => z = q17) mw_X10_rest mi_X10_rest ml_X3_118 (el_152 (inb_lt g1)) (by decide) rfl rfl rfl (RF.lt (HX3_tryCommit_X10_rest_lt d)) (Nat.le_of_ble_eq_true rfl) dX3_tryCommit_71 (sX10_rest G d (el_152 (inb_lt g1)) h18) (fun z h8 => ?_) rfl
    rw [h8]
    clear h8
    exact run_vret dX3_tryCommit_74 ⟨rfl, Option.some.inj h⟩
def HX11_ofOrders : Nat := 13
theorem HX11_ofOrders_X0_tryOrders_lt (d : Nat) : d + HX0_tryOrders < d + HX11_ofOrders := Nat.add_lt_add_left (by decide) d
theorem HX11_ofOrders_0 (d : Nat) : 0 < d + HX11_ofOrders := Nat.lt_of_lt_of_le (by decide) (Nat.le_add_left _ d)
def fX11_ofOrders (x1 : Int32) (σ : Mem) : Option (Int32 × Mem) := if (σ 234 1) ≤ 6 then ((fX0_tryOrders σ).bind fun q2 => if x1 = 1 then (some ((q2 234 5), q2)) else (if (q2 234 1) ≤ (x1 - 50) then (some ((-1), q2)) else (if (q2 234 5) ≤ 0 then (some ((-1), q2)) else (gd (inb (x1 - 50) 6) (some ((q2 245 (Int32.toNatClampNeg (x1 - 50))), q2)))))) else (some ((-1), σ))
set_option maxRecDepth 20000 in
theorem sX11_ofOrders (G : GT) (d : Nat) {x1 : Int32}  {σ : Mem} {o : (Int32 × Mem)} (h : fX11_ofOrders x1 σ = some o) : Spec G yX11_ofOrders cX11_ofOrders 2 (some .int) (d + HX11_ofOrders) [.ref (gA G 0), .int x1] σ (kI fun x z => (x, z) = o) := by
  refine spec_run (by decide) (Nat.le_of_ble_eq_true rfl) ?_
  unfold fX11_ofOrders at h
  show Run G RX11 cX11_ofOrders 2 (some .int) _ 0 [(0, .ref (gA G 0)), (1, .int x1)] [] σ
  refine run_aload_n 0 dX11_ofOrders_0 rfl rfl ?_
  refine run_getr fl_X11_57 is_0 (by decide) rfl ce_0_5 dX11_ofOrders_1 ?_
  refine run_geti fl_X11_201 is_234 (by decide) rfl dX11_ofOrders_4 ?_
  refine run_bipush (v := 6) dX11_ofOrders_7 rfl ?_
  refine run_icmp_le 14 dX11_ofOrders_9 (by decide) (fun c1 => ?_) (fun c1 => ?_)
  · rw [if_pos c1] at h
    refine run_aload_n 0 dX11_ofOrders_14 rfl rfl ?_
    refine run_getr fl_X11_57 is_0 (by decide) rfl ce_0_5 dX11_ofOrders_15 ?_
    refine run_aload_n 0 dX11_ofOrders_18 rfl rfl ?_
    refine run_getr fl_X11_50 is_0 (by decide) rfl ce_0_4 dX11_ofOrders_19 ?_
    obtain ⟨q2, h7, h⟩ := Option.bind_eq_some_iff.mp h
    refine run_callVv (As := [.ref (gA G 146)]) (fun z => z = q2) mw_X0_tryOrders mi_X0_tryOrders ml_X11_312 is_234 (by decide) rfl rfl rfl (RF.lt (HX11_ofOrders_X0_tryOrders_lt d)) (Nat.le_of_ble_eq_true rfl) dX11_ofOrders_22 (sX0_tryOrders G d  h7) (fun z h8 => ?_) rfl
    rw [h8]
    clear h8
    refine run_iload_n 1 dX11_ofOrders_25 rfl rfl ?_
    refine run_iconst (v := 1) dX11_ofOrders_26 rfl ?_
    refine run_icmp_ne 38 dX11_ofOrders_27 (by decide) (fun c3 => ?_) (fun c3 => ?_)
    · rw [if_neg c3] at h
      refine run_iload_n 1 dX11_ofOrders_38 rfl rfl ?_
      refine run_bipush (v := 50) dX11_ofOrders_39 rfl ?_
      refine run_isub dX11_ofOrders_41 ?_
      refine run_aload_n 0 dX11_ofOrders_42 rfl rfl ?_
      refine run_getr fl_X11_57 is_0 (by decide) rfl ce_0_5 dX11_ofOrders_43 ?_
      refine run_geti fl_X11_201 is_234 (by decide) rfl dX11_ofOrders_46 ?_
      refine run_icmp_ge 77 dX11_ofOrders_49 (by decide) (fun c4 => ?_) (fun c4 => ?_)
      · rw [if_pos c4] at h
        refine run_iconst (v := -1) dX11_ofOrders_77 rfl ?_
        exact run_iret dX11_ofOrders_78 ⟨_, rfl, Option.some.inj h⟩
      · rw [if_neg c4] at h
        refine run_aload_n 0 dX11_ofOrders_52 rfl rfl ?_
        refine run_getr fl_X11_57 is_0 (by decide) rfl ce_0_5 dX11_ofOrders_53 ?_
        refine run_geti fl_X11_315 is_234 (by decide) rfl dX11_ofOrders_56 ?_
        refine run_if_le 77 dX11_ofOrders_59 (by decide) (fun c5 => ?_) (fun c5 => ?_)
        · rw [if_pos c5] at h
          refine run_iconst (v := -1) dX11_ofOrders_77 rfl ?_
          exact run_iret dX11_ofOrders_78 ⟨_, rfl, Option.some.inj h⟩
        · rw [if_neg c5] at h
          refine run_aload_n 0 dX11_ofOrders_62 rfl rfl ?_
          refine run_getr fl_X11_57 is_0 (by decide) rfl ce_0_5 dX11_ofOrders_63 ?_
          refine run_getr fl_X11_318 is_234 (by decide) rfl ce_234_4 dX11_ofOrders_66 ?_
          refine run_iload_n 1 dX11_ofOrders_69 rfl rfl ?_
          refine run_bipush (v := 50) dX11_ofOrders_70 rfl ?_
          refine run_isub dX11_ofOrders_72 ?_
          obtain ⟨g6, h⟩ := gd_s h
          refine run_iald' is_245 ln_245 g6 rfl dX11_ofOrders_73 ?_
          refine run_goto 78 dX11_ofOrders_74 (by decide) ?_
          exact run_iret dX11_ofOrders_78 ⟨_, rfl, Option.some.inj h⟩
    · rw [if_pos c3] at h
      refine run_aload_n 0 dX11_ofOrders_30 rfl rfl ?_
      refine run_getr fl_X11_57 is_0 (by decide) rfl ce_0_5 dX11_ofOrders_31 ?_
      refine run_geti fl_X11_315 is_234 (by decide) rfl dX11_ofOrders_34 ?_
      exact run_iret dX11_ofOrders_37 ⟨_, rfl, Option.some.inj h⟩
  · rw [if_neg c1] at h
    refine run_iconst (v := -1) dX11_ofOrders_12 rfl ?_
    exact run_iret dX11_ofOrders_13 ⟨_, rfl, Option.some.inj h⟩
def HX3_perform : Nat := 5
theorem HX3_perform_X10_rest_lt (d : Nat) : d + HX10_rest < d + HX3_perform := Nat.add_lt_add_left (by decide) d
theorem HX3_perform_X10_take_lt (d : Nat) : d + HX10_take < d + HX3_perform := Nat.add_lt_add_left (by decide) d
theorem HX3_perform_X3_breakDown_lt (d : Nat) : d + HX3_breakDown < d + HX3_perform := Nat.add_lt_add_left (by decide) d
theorem HX3_perform_X3_can_lt (d : Nat) : d + HX3_can < d + HX3_perform := Nat.add_lt_add_left (by decide) d
theorem HX3_perform_X3_doStep_lt (d : Nat) : d + HX3_doStep < d + HX3_perform := Nat.add_lt_add_left (by decide) d
theorem HX3_perform_X3_tryCommit_lt (d : Nat) : d + HX3_tryCommit < d + HX3_perform := Nat.add_lt_add_left (by decide) d
theorem HX3_perform_X3_writeToDisk_lt (d : Nat) : d + HX3_writeToDisk < d + HX3_perform := Nat.add_lt_add_left (by decide) d
theorem HX3_perform_0 (d : Nat) : 0 < d + HX3_perform := Nat.lt_of_lt_of_le (by decide) (Nat.le_add_left _ d)
def fX3_perform (x1 : Int32) (x2 : Int32) (x3 : Int32) (σ : Mem) : Option (Bool × Mem) := (fX3_can x1 x2 x3 σ).bind fun q1 => if q1.1 = true then (gd (inb (q1.2 146 12) 60) (gd (inb ((st2 q1.2 154 (Int32.toNatClampNeg (q1.2 146 12)) 0) 146 12) 60) ((some (st2 (st2 q1.2 154 (Int32.toNatClampNeg (q1.2 146 12)) 0) 155 (Int32.toNatClampNeg ((st2 q1.2 154 (Int32.toNatClampNeg (q1.2 146 12)) 0) 146 12)) (-1))).bind fun s5 => gd (inb (s5 146 12) 60) (gd (inb ((st2 s5 156 (Int32.toNatClampNeg (s5 146 12)) (-1)) 146 12) 60) ((if x1 = 0 then ((some (st2 (st2 (st2 s5 156 (Int32.toNatClampNeg (s5 146 12)) (-1)) 157 (Int32.toNatClampNeg ((st2 s5 156 (Int32.toNatClampNeg (s5 146 12)) (-1)) 146 12)) (-1)) 146 3 (((st2 (st2 s5 156 (Int32.toNatClampNeg (s5 146 12)) (-1)) 157 (Int32.toNatClampNeg ((st2 s5 156 (Int32.toNatClampNeg (s5 146 12)) (-1)) 146 12)) (-1)) 146 3) + 1))).bind fun s9 => some s9) else (if x1 = 1 then ((fX3_breakDown (st2 (st2 s5 156 (Int32.toNatClampNeg (s5 146 12)) (-1)) 157 (Int32.toNatClampNeg ((st2 s5 156 (Int32.toNatClampNeg (s5 146 12)) (-1)) 146 12)) (-1))).bind fun q11 => some q11) else (if x1 = 2 then (gd (inb x2 4) ((fX3_doStep (158 + 4 * (Int32.toNatClampNeg x2)) (st2 (st2 s5 156 (Int32.toNatClampNeg (s5 146 12)) (-1)) 157 (Int32.toNatClampNeg ((st2 s5 156 (Int32.toNatClampNeg (s5 146 12)) (-1)) 146 12)) (-1))).bind fun q15 => some q15)) else (if x1 = 3 then ((fX3_tryCommit x2 (st2 (st2 s5 156 (Int32.toNatClampNeg (s5 146 12)) (-1)) 157 (Int32.toNatClampNeg ((st2 s5 156 (Int32.toNatClampNeg (s5 146 12)) (-1)) 146 12)) (-1))).bind fun q18 => some q18) else (if x1 = 4 then (gd (inb x2 4) ((some (st2 (st2 (st2 s5 156 (Int32.toNatClampNeg (s5 146 12)) (-1)) 157 (Int32.toNatClampNeg ((st2 s5 156 (Int32.toNatClampNeg (s5 146 12)) (-1)) 146 12)) (-1)) 146 17 (((st2 (st2 s5 156 (Int32.toNatClampNeg (s5 146 12)) (-1)) 157 (Int32.toNatClampNeg ((st2 s5 156 (Int32.toNatClampNeg (s5 146 12)) (-1)) 146 12)) (-1)) 146 17) + ((st2 (st2 s5 156 (Int32.toNatClampNeg (s5 146 12)) (-1)) 157 (Int32.toNatClampNeg ((st2 s5 156 (Int32.toNatClampNeg (s5 146 12)) (-1)) 146 12)) (-1)) (158 + 4 * (Int32.toNatClampNeg x2)) 2)))).bind fun s22 => gd (inb x2 4) ((fX10_rest (158 + 4 * (Int32.toNatClampNeg x2)) s22).bind fun q24 => some q24))) else (if x1 = 5 then ((fX3_writeToDisk x2 (st2 (st2 s5 156 (Int32.toNatClampNeg (s5 146 12)) (-1)) 157 (Int32.toNatClampNeg ((st2 s5 156 (Int32.toNatClampNeg (s5 146 12)) (-1)) 146 12)) (-1))).bind fun q27 => some q27) else (gd (inb x2 4) ((fX10_take (158 + 4 * (Int32.toNatClampNeg x2)) x3 ((st2 (st2 s5 156 (Int32.toNatClampNeg (s5 146 12)) (-1)) 157 (Int32.toNatClampNeg ((st2 s5 156 (Int32.toNatClampNeg (s5 146 12)) (-1)) 146 12)) (-1)) 146 3) (st2 (st2 s5 156 (Int32.toNatClampNeg (s5 146 12)) (-1)) 157 (Int32.toNatClampNeg ((st2 s5 156 (Int32.toNatClampNeg (s5 146 12)) (-1)) 146 12)) (-1))).bind fun q30 => some q30))))))) : Option (Mem)).bind fun q32 => some (true, (st2 q32 146 12 ((q32 146 12) + 1)))))))) else (some (false, q1.2))
set_option maxRecDepth 20000 in
theorem sX3_perform (G : GT) (d : Nat) {x1 : Int32} {x2 : Int32} {x3 : Int32}  {σ : Mem} {o : (Bool × Mem)} (h : fX3_perform x1 x2 x3 σ = some o) : Spec G yX3_perform cX3_perform 4 (some .boolean) (d + HX3_perform) [.ref (gA G 146), .int x1, .int x2, .int x3] σ (kB fun x z => (x, z) = o) := by
  refine spec_run (by decide) (Nat.le_of_ble_eq_true rfl) ?_
  unfold fX3_perform at h
  show Run G RX3 cX3_perform 4 (some .boolean) _ 0 [(0, .ref (gA G 146)), (1, .int x1), (2, .int x2), (3, .int x3)] [] σ
  refine run_aload_n 0 dX3_perform_0 rfl rfl ?_
  refine run_iload_n 1 dX3_perform_1 rfl rfl ?_
  refine run_iload_n 2 dX3_perform_2 rfl rfl ?_
  refine run_iload_n 3 dX3_perform_3 rfl rfl ?_
  obtain ⟨q1, h34, h⟩ := Option.bind_eq_some_iff.mp h
  refine run_callVb (As := [.int x1, .int x2, .int x3]) (fun r z => (r, z) = q1) mw_X3_can mi_X3_can ml_X3_101 is_146 (by decide) rfl rfl rfl (RF.lt (HX3_perform_X3_can_lt d)) (Nat.le_of_ble_eq_true rfl) dX3_perform_4 (sX3_can G d  h34) (fun r z h8 => ?_) rfl
  rw [show r = q1.1 from congrArg Prod.fst h8, show z = q1.2 from congrArg Prod.snd h8]
  clear h8
  refine run_ifb_ne 12 dX3_perform_7 (by decide) (fun c2 => ?_) (fun c2 => ?_)
  · rw [if_pos c2] at h
    refine run_aload_n 0 dX3_perform_12 rfl rfl ?_
    refine run_getr fl_X3_39 is_146 (by decide) rfl ce_146_13 dX3_perform_13 ?_
    refine run_aload_n 0 dX3_perform_16 rfl rfl ?_
    refine run_geti fl_X3_89 is_146 (by decide) rfl dX3_perform_17 ?_
    refine run_iconst (v := 0) dX3_perform_20 rfl ?_
    obtain ⟨g3, h⟩ := gd_s h
    refine run_iast' is_154 ln_154 g3 rfl dX3_perform_21 ?_
    refine run_aload_n 0 dX3_perform_22 rfl rfl ?_
    refine run_getr fl_X3_42 is_146 (by decide) rfl ce_146_14 dX3_perform_23 ?_
    refine run_aload_n 0 dX3_perform_26 rfl rfl ?_
    refine run_geti fl_X3_89 is_146 (by decide) rfl dX3_perform_27 ?_
    refine run_iconst (v := -1) dX3_perform_30 rfl ?_
    obtain ⟨g4, h⟩ := gd_s h
    refine run_iast' is_155 ln_155 g4 rfl dX3_perform_31 ?_
    rw [Option.bind_some] at h
    refine run_mem (fun s5 es5 => ?_)
    rw [← es5] at h
    refine run_aload_n 0 dX3_perform_32 rfl rfl ?_
    refine run_getr fl_X3_45 is_146 (by decide) rfl ce_146_15 dX3_perform_33 ?_
    refine run_aload_n 0 dX3_perform_36 rfl rfl ?_
    refine run_geti fl_X3_89 is_146 (by decide) rfl dX3_perform_37 ?_
    refine run_iconst (v := -1) dX3_perform_40 rfl ?_
    obtain ⟨g6, h⟩ := gd_s h
    refine run_iast' is_156 ln_156 g6 rfl dX3_perform_41 ?_
    refine run_aload_n 0 dX3_perform_42 rfl rfl ?_
    refine run_getr fl_X3_48 is_146 (by decide) rfl ce_146_16 dX3_perform_43 ?_
    refine run_aload_n 0 dX3_perform_46 rfl rfl ?_
    refine run_geti fl_X3_89 is_146 (by decide) rfl dX3_perform_47 ?_
    refine run_iconst (v := -1) dX3_perform_50 rfl ?_
    obtain ⟨g7, h⟩ := gd_s h
    refine run_iast' is_157 ln_157 g7 rfl dX3_perform_51 ?_
    refine run_iload_n 1 dX3_perform_52 rfl rfl ?_
    obtain ⟨q32, h, h9⟩ := Option.bind_eq_some_iff.mp h
    have hj33 : Run G RX3 cX3_perform 4 (some .boolean) (mF G (d + HX3_perform) (kB fun x z => (x, z) = o)) 185 [(0, .ref (gA G 146))] [] q32 := by
      clear h
      have h := h9
      clear h9
      refine run_aload_n 0 dX3_perform_185 rfl rfl ?_
      refine run_dup dX3_perform_186 rfl ?_
      refine run_geti fl_X3_89 is_146 (by decide) rfl dX3_perform_187 ?_
      refine run_iconst (v := 1) dX3_perform_190 rfl ?_
      refine run_iadd dX3_perform_191 ?_
      refine run_puti fp_X3_89 is_146 (by decide) rfl dX3_perform_192 ?_
      refine run_iconst (v := 1) dX3_perform_195 rfl ?_
      exact run_bret (b := true) dX3_perform_196 ⟨_, rfl, Option.some.inj h⟩
    clear h9
    by_cases c8 : x1 = 0
    · rw [if_pos c8] at h
      refine run_tblIn 92 dX3_perform_53 (by rw [c8]; decide) (by rw [c8]; decide) (off := 39) (by rw [c8]; rfl) (by decide) ?_
      refine run_aload_n 0 dX3_perform_92 rfl rfl ?_
      refine run_dup dX3_perform_93 rfl ?_
      refine run_geti fl_X3_68 is_146 (by decide) rfl dX3_perform_94 ?_
      refine run_iconst (v := 1) dX3_perform_97 rfl ?_
      refine run_iadd dX3_perform_98 ?_
      refine run_puti fp_X3_68 is_146 (by decide) rfl dX3_perform_99 ?_
      rw [Option.bind_some] at h
      refine run_mem (fun s9 es9 => ?_)
      rw [← es9] at h
      refine run_goto 185 dX3_perform_102 (by decide) ?_
      rw [← Option.some.inj h] at hj33
      refine run_forget [0] rfl ?_
      exact hj33
    · rw [if_neg c8] at h
      by_cases c10 : x1 = 1
      · rw [if_pos c10] at h
        refine run_tblIn 105 dX3_perform_53 (by rw [c10]; decide) (by rw [c10]; decide) (off := 52) (by rw [c10]; rfl) (by decide) ?_
        refine run_aload_n 0 dX3_perform_105 rfl rfl ?_
        obtain ⟨q11, h12, h⟩ := Option.bind_eq_some_iff.mp h
        refine run_callVv (As := []) (fun z => z = q11) mw_X3_breakDown mi_X3_breakDown ml_X3_105 is_146 (by decide) rfl rfl rfl (RF.lt (HX3_perform_X3_breakDown_lt d)) (Nat.le_of_ble_eq_true rfl) dX3_perform_106 (sX3_breakDown G d  h12) (fun z h8 => ?_) rfl
        rw [h8]
        clear h8
        refine run_goto 185 dX3_perform_109 (by decide) ?_
        rw [← Option.some.inj h] at hj33
        refine run_forget [0] rfl ?_
        exact hj33
      · rw [if_neg c10] at h
        by_cases c13 : x1 = 2
        · rw [if_pos c13] at h
          refine run_tblIn 112 dX3_perform_53 (by rw [c13]; decide) (by rw [c13]; decide) (off := 59) (by rw [c13]; rfl) (by decide) ?_
          refine run_aload_n 0 dX3_perform_112 rfl rfl ?_
          refine run_aload_n 0 dX3_perform_113 rfl rfl ?_
          refine run_getr fl_X3_29 is_146 (by decide) rfl ce_146_9 dX3_perform_114 ?_
          refine run_iload_n 2 dX3_perform_117 rfl rfl ?_
          obtain ⟨g14, h⟩ := gd_s h
          refine run_aald' (j := (Int32.toNatClampNeg x2)) is_152 (by decide) (by decide) (t0 := 9) rfl ln_152 g14 rfl (es_152 _) dX3_perform_118 ?_
          obtain ⟨q15, h16, h⟩ := Option.bind_eq_some_iff.mp h
          refine run_callVv (As := [.ref (gA G (158 + 4 * (Int32.toNatClampNeg x2)))]) (fun z => z = q15) mw_X3_doStep mi_X3_doStep ml_X3_108 is_146 (by decide) rfl rfl rfl (RF.lt (HX3_perform_X3_doStep_lt d)) (Nat.le_of_ble_eq_true rfl) dX3_perform_119 (sX3_doStep G d (el_152 (inb_lt g14)) h16) (fun z h8 => ?_) rfl
          rw [h8]
          clear h8
          refine run_goto 185 dX3_perform_122 (by decide) ?_
          rw [← Option.some.inj h] at hj33
          refine run_forget [0] rfl ?_
          exact hj33
        · rw [if_neg c13] at h
          by_cases c17 : x1 = 3
          · rw [if_pos c17] at h
            refine run_tblIn 125 dX3_perform_53 (by rw [c17]; decide) (by rw [c17]; decide) (off := 72) (by rw [c17]; rfl) (by decide) ?_
            refine run_aload_n 0 dX3_perform_125 rfl rfl ?_
            refine run_iload_n 2 dX3_perform_126 rfl rfl ?_
            obtain ⟨q18, h19, h⟩ := Option.bind_eq_some_iff.mp h
            refine run_callVv (As := [.int x2]) (fun z => z = q18) mw_X3_tryCommit mi_X3_tryCommit ml_X3_112 is_146 (by decide) rfl rfl rfl (RF.lt (HX3_perform_X3_tryCommit_lt d)) (Nat.le_of_ble_eq_true rfl) dX3_perform_127 (sX3_tryCommit G d  h19) (fun z h8 => ?_) rfl
            rw [h8]
            clear h8
            refine run_goto 185 dX3_perform_130 (by decide) ?_
            rw [← Option.some.inj h] at hj33
            refine run_forget [0] rfl ?_
            exact hj33
          · rw [if_neg c17] at h
            by_cases c20 : x1 = 4
            · rw [if_pos c20] at h
              refine run_tblIn 133 dX3_perform_53 (by rw [c20]; decide) (by rw [c20]; decide) (off := 80) (by rw [c20]; rfl) (by decide) ?_
              refine run_aload_n 0 dX3_perform_133 rfl rfl ?_
              refine run_dup dX3_perform_134 rfl ?_
              refine run_geti fl_X3_92 is_146 (by decide) rfl dX3_perform_135 ?_
              refine run_aload_n 0 dX3_perform_138 rfl rfl ?_
              refine run_getr fl_X3_29 is_146 (by decide) rfl ce_146_9 dX3_perform_139 ?_
              refine run_iload_n 2 dX3_perform_142 rfl rfl ?_
              obtain ⟨g21, h⟩ := gd_s h
              refine run_aald' (j := (Int32.toNatClampNeg x2)) is_152 (by decide) (by decide) (t0 := 9) rfl ln_152 g21 rfl (es_152 _) dX3_perform_143 ?_
              refine run_geti fl_X3_115 (el_152 (inb_lt g21)) (by decide) rfl dX3_perform_144 ?_
              refine run_iadd dX3_perform_147 ?_
              refine run_puti fp_X3_92 is_146 (by decide) rfl dX3_perform_148 ?_
              rw [Option.bind_some] at h
              refine run_mem (fun s22 es22 => ?_)
              rw [← es22] at h
              refine run_aload_n 0 dX3_perform_151 rfl rfl ?_
              refine run_getr fl_X3_29 is_146 (by decide) rfl ce_146_9 dX3_perform_152 ?_
              refine run_iload_n 2 dX3_perform_155 rfl rfl ?_
              obtain ⟨g23, h⟩ := gd_s h
              refine run_aald' (j := (Int32.toNatClampNeg x2)) is_152 (by decide) (by decide) (t0 := 9) rfl ln_152 g23 rfl (es_152 _) dX3_perform_156 ?_
              obtain ⟨q24, h25, h⟩ := Option.bind_eq_some_iff.mp h
              refine run_callVv (As := []) (fun z => z = q24) mw_X10_rest mi_X10_rest ml_X3_118 (el_152 (inb_lt g23)) (by decide) rfl rfl rfl (RF.lt (HX3_perform_X10_rest_lt d)) (Nat.le_of_ble_eq_true rfl) dX3_perform_157 (sX10_rest G d (el_152 (inb_lt g23)) h25) (fun z h8 => ?_) rfl
              rw [h8]
              clear h8
              refine run_goto 185 dX3_perform_160 (by decide) ?_
              rw [← Option.some.inj h] at hj33
              refine run_forget [0] rfl ?_
              exact hj33
            · rw [if_neg c20] at h
              by_cases c26 : x1 = 5
              · rw [if_pos c26] at h
                refine run_tblIn 163 dX3_perform_53 (by rw [c26]; decide) (by rw [c26]; decide) (off := 110) (by rw [c26]; rfl) (by decide) ?_
                refine run_aload_n 0 dX3_perform_163 rfl rfl ?_
                refine run_iload_n 2 dX3_perform_164 rfl rfl ?_
                obtain ⟨q27, h28, h⟩ := Option.bind_eq_some_iff.mp h
                refine run_callVv (As := [.int x2]) (fun z => z = q27) mw_X3_writeToDisk mi_X3_writeToDisk ml_X3_121 is_146 (by decide) rfl rfl rfl (RF.lt (HX3_perform_X3_writeToDisk_lt d)) (Nat.le_of_ble_eq_true rfl) dX3_perform_165 (sX3_writeToDisk G d  h28) (fun z h8 => ?_) rfl
                rw [h8]
                clear h8
                refine run_goto 185 dX3_perform_168 (by decide) ?_
                rw [← Option.some.inj h] at hj33
                refine run_forget [0] rfl ?_
                exact hj33
              · rw [if_neg c26] at h
                refine run_tblOut 171 dX3_perform_53 (by have tc8 := tbl_ne c8 (z := 0) rfl; have tc10 := tbl_ne c10 (z := 1) rfl; have tc13 := tbl_ne c13 (z := 2) rfl; have tc17 := tbl_ne c17 (z := 3) rfl; have tc20 := tbl_ne c20 (z := 4) rfl; have tc26 := tbl_ne c26 (z := 5) rfl; omega) (by decide) ?_
                refine run_aload_n 0 dX3_perform_171 rfl rfl ?_
                refine run_getr fl_X3_29 is_146 (by decide) rfl ce_146_9 dX3_perform_172 ?_
                refine run_iload_n 2 dX3_perform_175 rfl rfl ?_
                obtain ⟨g29, h⟩ := gd_s h
                refine run_aald' (j := (Int32.toNatClampNeg x2)) is_152 (by decide) (by decide) (t0 := 9) rfl ln_152 g29 rfl (es_152 _) dX3_perform_176 ?_
                refine run_iload_n 3 dX3_perform_177 rfl rfl ?_
                refine run_aload_n 0 dX3_perform_178 rfl rfl ?_
                refine run_geti fl_X3_68 is_146 (by decide) rfl dX3_perform_179 ?_
                obtain ⟨q30, h31, h⟩ := Option.bind_eq_some_iff.mp h
                refine run_callVv (As := [.int x3, .int ((st2 (st2 s5 156 (Int32.toNatClampNeg (s5 146 12)) (-1)) 157 (Int32.toNatClampNeg ((st2 s5 156 (Int32.toNatClampNeg (s5 146 12)) (-1)) 146 12)) (-1)) 146 3)]) (fun z => z = q30) mw_X10_take mi_X10_take ml_X3_124 (el_152 (inb_lt g29)) (by decide) rfl rfl rfl (RF.lt (HX3_perform_X10_take_lt d)) (Nat.le_of_ble_eq_true rfl) dX3_perform_182 (sX10_take G d (el_152 (inb_lt g29)) h31) (fun z h8 => ?_) rfl
                rw [h8]
                clear h8
                rw [← Option.some.inj h] at hj33
                refine run_forget [0] rfl ?_
                exact hj33
  · rw [if_neg c2] at h
    refine run_iconst (v := 0) dX3_perform_10 rfl ?_
    exact run_bret (b := false) dX3_perform_11 ⟨_, rfl, Option.some.inj h⟩
def HX3_weaveOnce : Nat := 6
theorem HX3_weaveOnce_X3_perform_lt (d : Nat) : d + HX3_perform < d + HX3_weaveOnce := Nat.add_lt_add_left (by decide) d
theorem HX3_weaveOnce_X3_start_lt (d : Nat) : d + HX3_start < d + HX3_weaveOnce := Nat.add_lt_add_left (by decide) d
theorem HX3_weaveOnce_0 (d : Nat) : 0 < d + HX3_weaveOnce := Nat.lt_of_lt_of_le (by decide) (Nat.le_add_left _ d)
def lX3_weaveOnce_43 (x3 : Int32) (x4 : Int32) (x5 : Int32) : Nat → Int32 → Mem → Option (Mem)
  | 0, _, _ => none
  | n + 1, x6, σ => if 6 ≤ x6 then (some σ) else ((fX3_perform 2 x3 (-1) σ).bind fun q9 => lX3_weaveOnce_43 x3 x4 x5 n (x6 + 1) q9.2)
set_option maxRecDepth 20000 in
theorem lpX3_weaveOnce_43 (G : GT) (d : Nat) (x3 : Int32) (x4 : Int32) (x5 : Int32)  {K : Option Value → Mem → Prop} : ∀ (n : Nat) (x6 : Int32) (σ : Mem) (o : Mem), lX3_weaveOnce_43 x3 x4 x5 n x6 σ = some o → (Run G RX3 cX3_weaveOnce 7 (some .int) (mF G (d + HX3_weaveOnce) K) 64 [(0, .ref (gA G 146)), (3, .int x3), (4, .int x4), (5, .int x5)] [] o) → Run G RX3 cX3_weaveOnce 7 (some .int) (mF G (d + HX3_weaveOnce) K) 43 [(0, .ref (gA G 146)), (3, .int x3), (4, .int x4), (5, .int x5), (6, .int x6)] [] σ := by
  intro n
  induction n with
  | zero => intro x6 σ o h; exact absurd h (by simp [lX3_weaveOnce_43])
  | succ n ih =>
    intro x6 σ o h kx
    rw [lX3_weaveOnce_43] at h
    refine run_iload 4 dX3_weaveOnce_43 rfl ?_
    refine run_bipush (v := 6) dX3_weaveOnce_45 rfl ?_
    refine run_icmp_ge 64 dX3_weaveOnce_47 (by decide) (fun c8 => ?_) (fun c8 => ?_)
    · rw [if_pos c8] at h
      rw [← Option.some.inj h] at kx
      refine run_forget [0, 1, 2, 3] rfl ?_
      exact kx
    · rw [if_neg c8] at h
      refine run_aload_n 0 dX3_weaveOnce_50 rfl rfl ?_
      refine run_iconst (v := 2) dX3_weaveOnce_51 rfl ?_
      refine run_iload_n 1 dX3_weaveOnce_52 rfl rfl ?_
      refine run_iconst (v := -1) dX3_weaveOnce_53 rfl ?_
      obtain ⟨q9, h10, h⟩ := Option.bind_eq_some_iff.mp h
      refine run_callVb (As := [.int 2, .int x3, .int (-1)]) (fun r z => (r, z) = q9) mw_X3_perform mi_X3_perform ml_X3_308 is_146 (by decide) rfl rfl rfl (RF.lt (HX3_weaveOnce_X3_perform_lt d)) (Nat.le_of_ble_eq_true rfl) dX3_weaveOnce_54 (sX3_perform G d  h10) (fun r z h8 => ?_) rfl
      rw [show r = q9.1 from congrArg Prod.fst h8, show z = q9.2 from congrArg Prod.snd h8]
      clear h8
      refine run_pop dX3_weaveOnce_57 rfl ?_
      refine run_iinc 4 [(0, .ref (gA G 146)), (3, .int x3), (4, .int x4), (5, .int x5), (6, .int (x6 + 1))] [1, 2, 3, 4, 0] dX3_weaveOnce_58 rfl rfl (by decide) rfl ?_
      refine run_goto 43 dX3_weaveOnce_61 (by decide) ?_
      exact ih _ _ _ h kx
def lX3_weaveOnce_67 (x3 : Int32) (x4 : Int32) (x5 : Int32) : Nat → Int32 → Mem → Option (Mem)
  | 0, _, _ => none
  | n + 1, x6, σ => if x4 ≤ x6 then (some σ) else ((fX3_perform 2 x5 (-1) σ).bind fun q15 => lX3_weaveOnce_67 x3 x4 x5 n (x6 + 1) q15.2)
set_option maxRecDepth 20000 in
theorem lpX3_weaveOnce_67 (G : GT) (d : Nat) (x3 : Int32) (x4 : Int32) (x5 : Int32)  {K : Option Value → Mem → Prop} : ∀ (n : Nat) (x6 : Int32) (σ : Mem) (o : Mem), lX3_weaveOnce_67 x3 x4 x5 n x6 σ = some o → (Run G RX3 cX3_weaveOnce 7 (some .int) (mF G (d + HX3_weaveOnce) K) 89 [(0, .ref (gA G 146)), (3, .int x3), (5, .int x5)] [] o) → Run G RX3 cX3_weaveOnce 7 (some .int) (mF G (d + HX3_weaveOnce) K) 67 [(0, .ref (gA G 146)), (3, .int x3), (4, .int x4), (5, .int x5), (6, .int x6)] [] σ := by
  intro n
  induction n with
  | zero => intro x6 σ o h; exact absurd h (by simp [lX3_weaveOnce_67])
  | succ n ih =>
    intro x6 σ o h kx
    rw [lX3_weaveOnce_67] at h
    refine run_iload 4 dX3_weaveOnce_67 rfl ?_
    refine run_iload 2 dX3_weaveOnce_69 rfl ?_
    refine run_icmp_ge 89 dX3_weaveOnce_71 (by decide) (fun c14 => ?_) (fun c14 => ?_)
    · rw [if_pos c14] at h
      rw [← Option.some.inj h] at kx
      refine run_forget [0, 1, 3] rfl ?_
      exact kx
    · rw [if_neg c14] at h
      refine run_aload_n 0 dX3_weaveOnce_74 rfl rfl ?_
      refine run_iconst (v := 2) dX3_weaveOnce_75 rfl ?_
      refine run_iload 3 dX3_weaveOnce_76 rfl ?_
      refine run_iconst (v := -1) dX3_weaveOnce_78 rfl ?_
      obtain ⟨q15, h16, h⟩ := Option.bind_eq_some_iff.mp h
      refine run_callVb (As := [.int 2, .int x5, .int (-1)]) (fun r z => (r, z) = q15) mw_X3_perform mi_X3_perform ml_X3_308 is_146 (by decide) rfl rfl rfl (RF.lt (HX3_weaveOnce_X3_perform_lt d)) (Nat.le_of_ble_eq_true rfl) dX3_weaveOnce_79 (sX3_perform G d  h16) (fun r z h8 => ?_) rfl
      rw [show r = q15.1 from congrArg Prod.fst h8, show z = q15.2 from congrArg Prod.snd h8]
      clear h8
      refine run_pop dX3_weaveOnce_82 rfl ?_
      refine run_iinc 4 [(0, .ref (gA G 146)), (3, .int x3), (4, .int x4), (5, .int x5), (6, .int (x6 + 1))] [1, 2, 3, 4, 0] dX3_weaveOnce_83 rfl rfl (by decide) rfl ?_
      refine run_goto 67 dX3_weaveOnce_86 (by decide) ?_
      exact ih _ _ _ h kx
def lX3_weaveOnce_100 (x5 : Int32) : Nat → Int32 → Mem → Option (Mem)
  | 0, _, _ => none
  | n + 1, x6, σ => if 6 ≤ x6 then (some σ) else ((fX3_perform 2 x5 (-1) σ).bind fun q22 => lX3_weaveOnce_100 x5 n (x6 + 1) q22.2)
set_option maxRecDepth 20000 in
theorem lpX3_weaveOnce_100 (G : GT) (d : Nat) (x5 : Int32)  {K : Option Value → Mem → Prop} : ∀ (n : Nat) (x6 : Int32) (σ : Mem) (o : Mem), lX3_weaveOnce_100 x5 n x6 σ = some o → (Run G RX3 cX3_weaveOnce 7 (some .int) (mF G (d + HX3_weaveOnce) K) 122 [(0, .ref (gA G 146)), (5, .int x5)] [] o) → Run G RX3 cX3_weaveOnce 7 (some .int) (mF G (d + HX3_weaveOnce) K) 100 [(0, .ref (gA G 146)), (5, .int x5), (6, .int x6)] [] σ := by
  intro n
  induction n with
  | zero => intro x6 σ o h; exact absurd h (by simp [lX3_weaveOnce_100])
  | succ n ih =>
    intro x6 σ o h kx
    rw [lX3_weaveOnce_100] at h
    refine run_iload 2 dX3_weaveOnce_100 rfl ?_
    refine run_bipush (v := 6) dX3_weaveOnce_102 rfl ?_
    refine run_icmp_ge 122 dX3_weaveOnce_104 (by decide) (fun c21 => ?_) (fun c21 => ?_)
    · rw [if_pos c21] at h
      rw [← Option.some.inj h] at kx
      refine run_forget [0, 1] rfl ?_
      exact kx
    · rw [if_neg c21] at h
      refine run_aload_n 0 dX3_weaveOnce_107 rfl rfl ?_
      refine run_iconst (v := 2) dX3_weaveOnce_108 rfl ?_
      refine run_iload 1 dX3_weaveOnce_109 rfl ?_
      refine run_iconst (v := -1) dX3_weaveOnce_111 rfl ?_
      obtain ⟨q22, h23, h⟩ := Option.bind_eq_some_iff.mp h
      refine run_callVb (As := [.int 2, .int x5, .int (-1)]) (fun r z => (r, z) = q22) mw_X3_perform mi_X3_perform ml_X3_308 is_146 (by decide) rfl rfl rfl (RF.lt (HX3_weaveOnce_X3_perform_lt d)) (Nat.le_of_ble_eq_true rfl) dX3_weaveOnce_112 (sX3_perform G d  h23) (fun r z h8 => ?_) rfl
      rw [show r = q22.1 from congrArg Prod.fst h8, show z = q22.2 from congrArg Prod.snd h8]
      clear h8
      refine run_pop dX3_weaveOnce_115 rfl ?_
      refine run_iinc 2 [(0, .ref (gA G 146)), (5, .int x5), (6, .int (x6 + 1))] [1, 2, 0] dX3_weaveOnce_116 rfl rfl (by decide) rfl ?_
      refine run_goto 100 dX3_weaveOnce_119 (by decide) ?_
      exact ih _ _ _ h kx
def fX3_weaveOnce (x1 : Int32) (x2 : Int32) (x3 : Int32) (x4 : Int32) (σ : Mem) : Option (Int32 × Mem) := gd (isB (rfN (σ 146 0)) 7) (gd (isB (rfN (σ 146 1)) 8) ((fX3_start (rfN (σ 146 0)) (rfN (σ 146 1)) σ).bind fun q3 => (fX3_perform 6 0 x1 (st2 q3 146 2 2)).bind fun q4 => (fX3_perform 6 1 x2 q4.2).bind fun q5 => (lX3_weaveOnce_43 x3 x4 ((1 : Int32) - x3) FU 0 q5.2).bind fun q11 => (lX3_weaveOnce_67 x3 x4 ((1 : Int32) - x3) FU 0 q11).bind fun q17 => (fX3_perform 3 x3 (-1) q17).bind fun q18 => (lX3_weaveOnce_100 ((1 : Int32) - x3) FU 0 q18.2).bind fun q24 => (fX3_perform 3 ((1 : Int32) - x3) (-1) q24).bind fun q25 => if (q25.2 146 12) ≤ 0 then (some (0, q25.2)) else (gd (inb ((q25.2 146 12) - 1) 60) (some ((q25.2 154 (Int32.toNatClampNeg ((q25.2 146 12) - 1))), q25.2)))))
set_option maxRecDepth 20000 in
theorem sX3_weaveOnce (G : GT) (d : Nat) {x1 : Int32} {x2 : Int32} {x3 : Int32} {x4 : Int32}  {σ : Mem} {o : (Int32 × Mem)} (h : fX3_weaveOnce x1 x2 x3 x4 σ = some o) : Spec G yX3_weaveOnce cX3_weaveOnce 7 (some .int) (d + HX3_weaveOnce) [.ref (gA G 146), .int x1, .int x2, .int x3, .int x4] σ (kI fun x z => (x, z) = o) := by
  refine spec_run (by decide) (Nat.le_of_ble_eq_true rfl) ?_
  unfold fX3_weaveOnce at h
  show Run G RX3 cX3_weaveOnce 7 (some .int) _ 0 [(0, .ref (gA G 146)), (1, .int x1), (2, .int x2), (3, .int x3), (4, .int x4)] [] σ
  refine run_aload_n 0 dX3_weaveOnce_0 rfl rfl ?_
  refine run_aload_n 0 dX3_weaveOnce_1 rfl rfl ?_
  obtain ⟨g1, h⟩ := gd_s h
  refine run_getd fl_X3_51 is_146 (by decide) rfl dX3_weaveOnce_2 ?_
  refine run_aload_n 0 dX3_weaveOnce_5 rfl rfl ?_
  obtain ⟨g2, h⟩ := gd_s h
  refine run_getd fl_X3_55 is_146 (by decide) rfl dX3_weaveOnce_6 ?_
  obtain ⟨q3, h35, h⟩ := Option.bind_eq_some_iff.mp h
  refine run_callVv (As := [.ref (gA G (rfN (σ 146 0))), .ref (gA G (rfN (σ 146 1)))]) (fun z => z = q3) mw_X3_start mi_X3_start ml_X3_304 is_146 (by decide) rfl rfl rfl (RF.lt (HX3_weaveOnce_X3_start_lt d)) (Nat.le_of_ble_eq_true rfl) dX3_weaveOnce_9 (sX3_start G d (isB_Is g1) (isB_Is g2) h35) (fun z h8 => ?_) rfl
  rw [h8]
  clear h8
  refine run_aload_n 0 dX3_weaveOnce_12 rfl rfl ?_
  refine run_iconst (v := 2) dX3_weaveOnce_13 rfl ?_
  refine run_puti fp_X3_67 is_146 (by decide) rfl dX3_weaveOnce_14 ?_
  refine run_iconst (v := 1) dX3_weaveOnce_17 rfl ?_
  refine run_iload_n 3 dX3_weaveOnce_18 rfl rfl ?_
  refine run_isub dX3_weaveOnce_19 ?_
  refine run_istore [(0, .ref (gA G 146)), (1, .int x1), (2, .int x2), (3, .int x3), (4, .int x4), (5, .int ((1 : Int32) - x3))] [1, 2, 3, 4, 5, 0] dX3_weaveOnce_20 (by decide) rfl ?_
  refine run_aload_n 0 dX3_weaveOnce_22 rfl rfl ?_
  refine run_bipush (v := 6) dX3_weaveOnce_23 rfl ?_
  refine run_iconst (v := 0) dX3_weaveOnce_25 rfl ?_
  refine run_iload_n 1 dX3_weaveOnce_26 rfl rfl ?_
  obtain ⟨q4, h34, h⟩ := Option.bind_eq_some_iff.mp h
  refine run_callVb (As := [.int 6, .int 0, .int x1]) (fun r z => (r, z) = q4) mw_X3_perform mi_X3_perform ml_X3_308 is_146 (by decide) rfl rfl rfl (RF.lt (HX3_weaveOnce_X3_perform_lt d)) (Nat.le_of_ble_eq_true rfl) dX3_weaveOnce_27 (sX3_perform G d  h34) (fun r z h8 => ?_) rfl
  rw [show r = q4.1 from congrArg Prod.fst h8, show z = q4.2 from congrArg Prod.snd h8]
  clear h8
  refine run_pop dX3_weaveOnce_30 rfl ?_
  refine run_aload_n 0 dX3_weaveOnce_31 rfl rfl ?_
  refine run_bipush (v := 6) dX3_weaveOnce_32 rfl ?_
  refine run_iconst (v := 1) dX3_weaveOnce_34 rfl ?_
  refine run_iload_n 2 dX3_weaveOnce_35 rfl rfl ?_
  obtain ⟨q5, h33, h⟩ := Option.bind_eq_some_iff.mp h
  refine run_callVb (As := [.int 6, .int 1, .int x2]) (fun r z => (r, z) = q5) mw_X3_perform mi_X3_perform ml_X3_308 is_146 (by decide) rfl rfl rfl (RF.lt (HX3_weaveOnce_X3_perform_lt d)) (Nat.le_of_ble_eq_true rfl) dX3_weaveOnce_36 (sX3_perform G d  h33) (fun r z h8 => ?_) rfl
  rw [show r = q5.1 from congrArg Prod.fst h8, show z = q5.2 from congrArg Prod.snd h8]
  clear h8
  refine run_pop dX3_weaveOnce_39 rfl ?_
  refine run_iconst (v := 0) dX3_weaveOnce_40 rfl ?_
  refine run_istore [(0, .ref (gA G 146)), (3, .int x3), (4, .int x4), (5, .int ((1 : Int32) - x3)), (6, .int 0)] [1, 4, 5, 6, 0] dX3_weaveOnce_41 (by decide) rfl ?_
  obtain ⟨q11, h32, h⟩ := Option.bind_eq_some_iff.mp h
  refine lpX3_weaveOnce_43 G d _ _ _ _ _ _ _ h32 ?_
  refine run_iconst (v := 0) dX3_weaveOnce_64 rfl ?_
  refine run_istore [(0, .ref (gA G 146)), (3, .int x3), (4, .int x4), (5, .int ((1 : Int32) - x3)), (6, .int 0)] [1, 2, 3, 4, 0] dX3_weaveOnce_65 (by decide) rfl ?_
  obtain ⟨q17, h31, h⟩ := Option.bind_eq_some_iff.mp h
  refine lpX3_weaveOnce_67 G d _ _ _ _ _ _ _ h31 ?_
  refine run_aload_n 0 dX3_weaveOnce_89 rfl rfl ?_
  refine run_iconst (v := 3) dX3_weaveOnce_90 rfl ?_
  refine run_iload_n 1 dX3_weaveOnce_91 rfl rfl ?_
  refine run_iconst (v := -1) dX3_weaveOnce_92 rfl ?_
  obtain ⟨q18, h30, h⟩ := Option.bind_eq_some_iff.mp h
  refine run_callVb (As := [.int 3, .int x3, .int (-1)]) (fun r z => (r, z) = q18) mw_X3_perform mi_X3_perform ml_X3_308 is_146 (by decide) rfl rfl rfl (RF.lt (HX3_weaveOnce_X3_perform_lt d)) (Nat.le_of_ble_eq_true rfl) dX3_weaveOnce_93 (sX3_perform G d  h30) (fun r z h8 => ?_) rfl
  rw [show r = q18.1 from congrArg Prod.fst h8, show z = q18.2 from congrArg Prod.snd h8]
  clear h8
  refine run_pop dX3_weaveOnce_96 rfl ?_
  refine run_iconst (v := 0) dX3_weaveOnce_97 rfl ?_
  refine run_istore [(0, .ref (gA G 146)), (5, .int ((1 : Int32) - x3)), (6, .int 0)] [1, 3, 0] dX3_weaveOnce_98 (by decide) rfl ?_
  obtain ⟨q24, h29, h⟩ := Option.bind_eq_some_iff.mp h
  refine lpX3_weaveOnce_100 G d _ _ _ _ _ h29 ?_
  refine run_aload_n 0 dX3_weaveOnce_122 rfl rfl ?_
  refine run_iconst (v := 3) dX3_weaveOnce_123 rfl ?_
  refine run_iload 1 dX3_weaveOnce_124 rfl ?_
  refine run_iconst (v := -1) dX3_weaveOnce_126 rfl ?_
  obtain ⟨q25, h28, h⟩ := Option.bind_eq_some_iff.mp h
  refine run_callVb (As := [.int 3, .int ((1 : Int32) - x3), .int (-1)]) (fun r z => (r, z) = q25) mw_X3_perform mi_X3_perform ml_X3_308 is_146 (by decide) rfl rfl rfl (RF.lt (HX3_weaveOnce_X3_perform_lt d)) (Nat.le_of_ble_eq_true rfl) dX3_weaveOnce_127 (sX3_perform G d  h28) (fun r z h8 => ?_) rfl
  rw [show r = q25.1 from congrArg Prod.fst h8, show z = q25.2 from congrArg Prod.snd h8]
  clear h8
  refine run_pop dX3_weaveOnce_130 rfl ?_
  refine run_aload_n 0 dX3_weaveOnce_131 rfl rfl ?_
  refine run_geti fl_X3_89 is_146 (by decide) rfl dX3_weaveOnce_132 ?_
  refine run_if_le 152 dX3_weaveOnce_135 (by decide) (fun c26 => ?_) (fun c26 => ?_)
  · rw [if_pos c26] at h
    refine run_iconst (v := 0) dX3_weaveOnce_152 rfl ?_
    exact run_iret dX3_weaveOnce_153 ⟨_, rfl, Option.some.inj h⟩
  · rw [if_neg c26] at h
    refine run_aload_n 0 dX3_weaveOnce_138 rfl rfl ?_
    refine run_getr fl_X3_39 is_146 (by decide) rfl ce_146_13 dX3_weaveOnce_139 ?_
    refine run_aload_n 0 dX3_weaveOnce_142 rfl rfl ?_
    refine run_geti fl_X3_89 is_146 (by decide) rfl dX3_weaveOnce_143 ?_
    refine run_iconst (v := 1) dX3_weaveOnce_146 rfl ?_
    refine run_isub dX3_weaveOnce_147 ?_
    obtain ⟨g27, h⟩ := gd_s h
    refine run_iald' is_154 ln_154 g27 rfl dX3_weaveOnce_148 ?_
    refine run_goto 153 dX3_weaveOnce_149 (by decide) ?_
    exact run_iret dX3_weaveOnce_153 ⟨_, rfl, Option.some.inj h⟩
def HX11_play : Nat := 6
theorem HX11_play_X3_perform_lt (d : Nat) : d + HX3_perform < d + HX11_play := Nat.add_lt_add_left (by decide) d
theorem HX11_play_X3_start_lt (d : Nat) : d + HX3_start < d + HX11_play := Nat.add_lt_add_left (by decide) d
theorem HX11_play_X9_has_lt (d : Nat) : d + HX9_has < d + HX11_play := Nat.add_lt_add_left (by decide) d
theorem HX11_play_0 (d : Nat) : 0 < d + HX11_play := Nat.lt_of_lt_of_le (by decide) (Nat.le_add_left _ d)
def lX11_play_80 (x4 : Int32) (n5 : Nat) : Nat → Int32 → Int32 → Mem → Option (Mem)
  | 0, _, _, _ => none
  | n + 1, x6, x7, σ => if x4 ≤ x7 then (some σ) else (if (σ n5 0) ≤ x7 then (some σ) else (if x6 = 0 then (some σ) else (gd (inb x7 40) (gd (inb x7 40) (gd (inb x7 40) ((fX3_perform (σ (n5 + 1) (Int32.toNatClampNeg x7)) (σ (n5 + 2) (Int32.toNatClampNeg x7)) (σ (n5 + 3) (Int32.toNatClampNeg x7)) σ).bind fun q24 => lX11_play_80 x4 n5 n (b2 q24.1) (x7 + 1) q24.2))))))
set_option maxRecDepth 20000 in
theorem lpX11_play_80 (G : GT) (d : Nat) (x4 : Int32) (n5 : Nat) (hn5 : Is n5 4) {K : Option Value → Mem → Prop} : ∀ (n : Nat) (x6 : Int32) (x7 : Int32) (σ : Mem) (o : Mem), lX11_play_80 x4 n5 n x6 x7 σ = some o → (Run G RX11 cX11_play 8 (some .boolean) (mF G (d + HX11_play) K) 141 [] [] o) → Run G RX11 cX11_play 8 (some .boolean) (mF G (d + HX11_play) K) 80 [(0, .ref (gA G 0)), (4, .int x4), (5, .ref (gA G n5)), (6, .int x6), (7, .int x7)] [] σ := by
  intro n
  induction n with
  | zero => intro x6 x7 σ o h; exact absurd h (by simp [lX11_play_80])
  | succ n ih =>
    intro x6 x7 σ o h kx
    rw [lX11_play_80] at h
    refine run_iload 4 dX11_play_80 rfl ?_
    refine run_iload 1 dX11_play_82 rfl ?_
    refine run_icmp_ge 141 dX11_play_84 (by decide) (fun c18 => ?_) (fun c18 => ?_)
    · rw [if_pos c18] at h
      rw [← Option.some.inj h] at kx
      refine run_forget [] rfl ?_
      exact kx
    · rw [if_neg c18] at h
      refine run_iload 4 dX11_play_87 rfl ?_
      refine run_aload 2 dX11_play_89 rfl ?_
      refine run_geti fl_X11_156 hn5 (by decide) rfl dX11_play_91 ?_
      refine run_icmp_ge 141 dX11_play_94 (by decide) (fun c19 => ?_) (fun c19 => ?_)
      · rw [if_pos c19] at h
        rw [← Option.some.inj h] at kx
        refine run_forget [] rfl ?_
        exact kx
      · rw [if_neg c19] at h
        refine run_iload 3 dX11_play_97 rfl ?_
        refine run_if_eq 141 dX11_play_99 (by decide) (fun c20 => ?_) (fun c20 => ?_)
        · rw [if_pos c20] at h
          rw [← Option.some.inj h] at kx
          refine run_forget [] rfl ?_
          exact kx
        · rw [if_neg c20] at h
          refine run_aload_n 0 dX11_play_102 rfl rfl ?_
          refine run_getr fl_X11_50 is_0 (by decide) rfl ce_0_4 dX11_play_103 ?_
          refine run_aload 2 dX11_play_106 rfl ?_
          refine run_getr fl_X11_159 hn5 (by decide) rfl (cs_4_1 hn5) dX11_play_108 ?_
          refine run_iload 4 dX11_play_111 rfl ?_
          obtain ⟨g21, h⟩ := gd_s h
          refine run_iald' (ch_4_1 hn5) (cl_4_1 hn5) g21 rfl dX11_play_113 ?_
          refine run_aload 2 dX11_play_114 rfl ?_
          refine run_getr fl_X11_160 hn5 (by decide) rfl (cs_4_2 hn5) dX11_play_116 ?_
          refine run_iload 4 dX11_play_119 rfl ?_
          obtain ⟨g22, h⟩ := gd_s h
          refine run_iald' (ch_4_2 hn5) (cl_4_2 hn5) g22 rfl dX11_play_121 ?_
          refine run_aload 2 dX11_play_122 rfl ?_
          refine run_getr fl_X11_163 hn5 (by decide) rfl (cs_4_3 hn5) dX11_play_124 ?_
          refine run_iload 4 dX11_play_127 rfl ?_
          obtain ⟨g23, h⟩ := gd_s h
          refine run_iald' (ch_4_3 hn5) (cl_4_3 hn5) g23 rfl dX11_play_129 ?_
          obtain ⟨q24, h25, h⟩ := Option.bind_eq_some_iff.mp h
          refine run_callVb (As := [.int (σ (n5 + 1) (Int32.toNatClampNeg x7)), .int (σ (n5 + 2) (Int32.toNatClampNeg x7)), .int (σ (n5 + 3) (Int32.toNatClampNeg x7))]) (fun r z => (r, z) = q24) mw_X3_perform mi_X3_perform ml_X11_308 is_146 (by decide) rfl rfl rfl (RF.lt (HX11_play_X3_perform_lt d)) (Nat.le_of_ble_eq_true rfl) dX11_play_130 (sX3_perform G d  h25) (fun r z h8 => ?_) rfl
          rw [show r = q24.1 from congrArg Prod.fst h8, show z = q24.2 from congrArg Prod.snd h8]
          clear h8
          refine run_istore [(0, .ref (gA G 0)), (4, .int x4), (5, .ref (gA G n5)), (6, .int (b2 q24.1)), (7, .int x7)] [1, 2, 3, 0, 4] dX11_play_133 (by decide) rfl ?_
          refine run_iinc 4 [(0, .ref (gA G 0)), (4, .int x4), (5, .ref (gA G n5)), (6, .int (b2 q24.1)), (7, .int (x7 + 1))] [1, 2, 3, 4, 0] dX11_play_135 rfl rfl (by decide) rfl ?_
          refine run_goto 80 dX11_play_138 (by decide) ?_
          exact ih _ _ _ _ h kx
def fX11_play (x1 : Int32) (x2 : Int32) (x3 : Int32) (x4 : Int32) (σ : Mem) : Option (Bool × Mem) := (fX9_has 1 0 x1 σ).bind fun q1 => if q1.1 = true then ((fX9_has 1 1 x2 q1.2).bind fun q3 => if q3.1 = true then ((fX9_has 1 2 x3 q3.2).bind fun q5 => if q5.1 = true then (gd (inb x3 2) (gd (inb x1 2) (gd (inb x2 2) ((fX3_start (8 + 14 * (Int32.toNatClampNeg x1)) (10 + 14 * (Int32.toNatClampNeg x2)) q5.2).bind fun q10 => (lX11_play_80 x4 (15 + 14 * (Int32.toNatClampNeg x3)) FU 1 0 q10).bind fun q26 => some (true, q26))))) else (some (false, q5.2))) else (some (false, q3.2))) else (some (false, q1.2))
set_option maxRecDepth 20000 in
theorem sX11_play (G : GT) (d : Nat) {x1 : Int32} {x2 : Int32} {x3 : Int32} {x4 : Int32}  {σ : Mem} {o : (Bool × Mem)} (h : fX11_play x1 x2 x3 x4 σ = some o) : Spec G yX11_play cX11_play 8 (some .boolean) (d + HX11_play) [.ref (gA G 0), .int x1, .int x2, .int x3, .int x4] σ (kB fun x z => (x, z) = o) := by
  refine spec_run (by decide) (Nat.le_of_ble_eq_true rfl) ?_
  unfold fX11_play at h
  show Run G RX11 cX11_play 8 (some .boolean) _ 0 [(0, .ref (gA G 0)), (1, .int x1), (2, .int x2), (3, .int x3), (4, .int x4)] [] σ
  refine run_aload_n 0 dX11_play_0 rfl rfl ?_
  refine run_getr fl_X11_10 is_0 (by decide) rfl ce_0_0 dX11_play_1 ?_
  refine run_iconst (v := 0) dX11_play_4 rfl ?_
  refine run_iload_n 1 dX11_play_5 rfl rfl ?_
  obtain ⟨q1, h31, h⟩ := Option.bind_eq_some_iff.mp h
  refine run_callVb (As := [.int 0, .int x1]) (fun r z => (r, z) = q1) mw_X9_has mi_X9_has ml_X11_109 is_1 (by decide) rfl rfl rfl (RF.lt (HX11_play_X9_has_lt d)) (Nat.le_of_ble_eq_true rfl) dX11_play_6 (sX9_has G d is_1 h31) (fun r z h8 => ?_) rfl
  rw [show r = q1.1 from congrArg Prod.fst h8, show z = q1.2 from congrArg Prod.snd h8]
  clear h8
  refine run_ifb_eq 36 dX11_play_9 (by decide) (fun c2 => ?_) (fun c2 => ?_)
  · rw [if_neg c2] at h
    refine run_iconst (v := 0) dX11_play_36 rfl ?_
    exact run_bret (b := false) dX11_play_37 ⟨_, rfl, Option.some.inj h⟩
  · rw [if_pos c2] at h
    refine run_aload_n 0 dX11_play_12 rfl rfl ?_
    refine run_getr fl_X11_10 is_0 (by decide) rfl ce_0_0 dX11_play_13 ?_
    refine run_iconst (v := 1) dX11_play_16 rfl ?_
    refine run_iload_n 2 dX11_play_17 rfl rfl ?_
    obtain ⟨q3, h30, h⟩ := Option.bind_eq_some_iff.mp h
    refine run_callVb (As := [.int 1, .int x2]) (fun r z => (r, z) = q3) mw_X9_has mi_X9_has ml_X11_109 is_1 (by decide) rfl rfl rfl (RF.lt (HX11_play_X9_has_lt d)) (Nat.le_of_ble_eq_true rfl) dX11_play_18 (sX9_has G d is_1 h30) (fun r z h8 => ?_) rfl
    rw [show r = q3.1 from congrArg Prod.fst h8, show z = q3.2 from congrArg Prod.snd h8]
    clear h8
    refine run_ifb_eq 36 dX11_play_21 (by decide) (fun c4 => ?_) (fun c4 => ?_)
    · rw [if_neg c4] at h
      refine run_iconst (v := 0) dX11_play_36 rfl ?_
      exact run_bret (b := false) dX11_play_37 ⟨_, rfl, Option.some.inj h⟩
    · rw [if_pos c4] at h
      refine run_aload_n 0 dX11_play_24 rfl rfl ?_
      refine run_getr fl_X11_10 is_0 (by decide) rfl ce_0_0 dX11_play_25 ?_
      refine run_iconst (v := 2) dX11_play_28 rfl ?_
      refine run_iload_n 3 dX11_play_29 rfl rfl ?_
      obtain ⟨q5, h29, h⟩ := Option.bind_eq_some_iff.mp h
      refine run_callVb (As := [.int 2, .int x3]) (fun r z => (r, z) = q5) mw_X9_has mi_X9_has ml_X11_109 is_1 (by decide) rfl rfl rfl (RF.lt (HX11_play_X9_has_lt d)) (Nat.le_of_ble_eq_true rfl) dX11_play_30 (sX9_has G d is_1 h29) (fun r z h8 => ?_) rfl
      rw [show r = q5.1 from congrArg Prod.fst h8, show z = q5.2 from congrArg Prod.snd h8]
      clear h8
      refine run_ifb_ne 38 dX11_play_33 (by decide) (fun c6 => ?_) (fun c6 => ?_)
      · rw [if_pos c6] at h
        refine run_aload_n 0 dX11_play_38 rfl rfl ?_
        refine run_getr fl_X11_10 is_0 (by decide) rfl ce_0_0 dX11_play_39 ?_
        refine run_getr fl_X11_152 is_1 (by decide) rfl ce_1_7 dX11_play_42 ?_
        refine run_iload_n 3 dX11_play_45 rfl rfl ?_
        obtain ⟨g7, h⟩ := gd_s h
        refine run_aald' (j := (Int32.toNatClampNeg x3)) is_6 (by decide) (by decide) (t0 := 5) rfl ln_6 g7 rfl (es_6 _) dX11_play_46 ?_
        refine run_astore [(0, .ref (gA G 0)), (1, .int x1), (2, .int x2), (4, .int x4), (5, .ref (gA G (15 + 14 * (Int32.toNatClampNeg x3))))] [1, 2, 3, 5, 0] dX11_play_47 (by decide) rfl ?_
        refine run_aload_n 0 dX11_play_49 rfl rfl ?_
        refine run_getr fl_X11_50 is_0 (by decide) rfl ce_0_4 dX11_play_50 ?_
        refine run_aload_n 0 dX11_play_53 rfl rfl ?_
        refine run_getr fl_X11_10 is_0 (by decide) rfl ce_0_0 dX11_play_54 ?_
        refine run_getr fl_X11_39 is_1 (by decide) rfl ce_1_5 dX11_play_57 ?_
        refine run_iload_n 1 dX11_play_60 rfl rfl ?_
        obtain ⟨g8, h⟩ := gd_s h
        refine run_aald' (j := (Int32.toNatClampNeg x1)) is_4 (by decide) (by decide) (t0 := 6) rfl ln_4 g8 rfl (es_4 _) dX11_play_61 ?_
        refine run_aload_n 0 dX11_play_62 rfl rfl ?_
        refine run_getr fl_X11_10 is_0 (by decide) rfl ce_0_0 dX11_play_63 ?_
        refine run_getr fl_X11_43 is_1 (by decide) rfl ce_1_6 dX11_play_66 ?_
        refine run_iload_n 2 dX11_play_69 rfl rfl ?_
        obtain ⟨g9, h⟩ := gd_s h
        refine run_aald' (j := (Int32.toNatClampNeg x2)) is_5 (by decide) (by decide) (t0 := 7) rfl ln_5 g9 rfl (es_5 _) dX11_play_70 ?_
        obtain ⟨q10, h28, h⟩ := Option.bind_eq_some_iff.mp h
        refine run_callVv (As := [.ref (gA G (8 + 14 * (Int32.toNatClampNeg x1))), .ref (gA G (10 + 14 * (Int32.toNatClampNeg x2)))]) (fun z => z = q10) mw_X3_start mi_X3_start ml_X11_245 is_146 (by decide) rfl rfl rfl (RF.lt (HX11_play_X3_start_lt d)) (Nat.le_of_ble_eq_true rfl) dX11_play_71 (sX3_start G d (el_4 (inb_lt g8)) (el_5 (inb_lt g9)) h28) (fun z h8 => ?_) rfl
        rw [h8]
        clear h8
        refine run_iconst (v := 1) dX11_play_74 rfl ?_
        refine run_istore [(0, .ref (gA G 0)), (4, .int x4), (5, .ref (gA G (15 + 14 * (Int32.toNatClampNeg x3)))), (6, .int 1)] [1, 4, 5, 0] dX11_play_75 (by decide) rfl ?_
        refine run_iconst (v := 0) dX11_play_77 rfl ?_
        refine run_istore [(0, .ref (gA G 0)), (4, .int x4), (5, .ref (gA G (15 + 14 * (Int32.toNatClampNeg x3)))), (6, .int 1), (7, .int 0)] [1, 2, 3, 4, 0] dX11_play_78 (by decide) rfl ?_
        obtain ⟨q26, h27, h⟩ := Option.bind_eq_some_iff.mp h
        refine lpX11_play_80 G d _ _ (el_6 (inb_lt g7)) _ _ _ _ _ h27 ?_
        refine run_iconst (v := 1) dX11_play_141 rfl ?_
        exact run_bret (b := true) dX11_play_142 ⟨_, rfl, Option.some.inj h⟩
      · rw [if_neg c6] at h
        refine run_iconst (v := 0) dX11_play_36 rfl ?_
        exact run_bret (b := false) dX11_play_37 ⟨_, rfl, Option.some.inj h⟩
def HX11_performDrawn : Nat := 6
theorem HX11_performDrawn_X11_drawBelow_lt (d : Nat) : d + HX11_drawBelow < d + HX11_performDrawn := Nat.add_lt_add_left (by decide) d
theorem HX11_performDrawn_X3_perform_lt (d : Nat) : d + HX3_perform < d + HX11_performDrawn := Nat.add_lt_add_left (by decide) d
theorem HX11_performDrawn_0 (d : Nat) : 0 < d + HX11_performDrawn := Nat.lt_of_lt_of_le (by decide) (Nat.le_add_left _ d)
def fX11_performDrawn (x1 : Int32) (σ : Mem) : Option Mem := (fX11_drawBelow 12 σ).bind fun q1 => if 2 < q1.1 then (if 6 < q1.1 then (if 8 < q1.1 then (if q1.1 = 9 then ((fX11_drawBelow (q1.2 146 2) q1.2).bind fun q14 => (fX3_perform 5 q14.1 (-1) q14.2).bind fun q15 => some q15.2) else (if q1.1 = 10 then ((fX3_perform 0 (-1) (-1) q1.2).bind fun q12 => some q12.2) else ((fX11_drawBelow 4 q1.2).bind fun q7 => if q7.1 = 0 then ((fX3_perform 1 (-1) (-1) q7.2).bind fun q9 => some q9.2) else (some q7.2)))) else ((fX11_drawBelow (q1.2 146 2) q1.2).bind fun q18 => (fX3_perform 3 q18.1 (-1) q18.2).bind fun q19 => some q19.2)) else ((fX11_drawBelow (q1.2 146 2) q1.2).bind fun q22 => (fX3_perform 2 q22.1 (-1) q22.2).bind fun q23 => some q23.2)) else (if x1 ≤ 0 then (some q1.2) else ((fX11_drawBelow (q1.2 146 2) q1.2).bind fun q27 => (fX11_drawBelow x1 q27.2).bind fun q28 => (fX3_perform 6 q27.1 q28.1 q28.2).bind fun q29 => some q29.2))
set_option maxRecDepth 20000 in
theorem sX11_performDrawn (G : GT) (d : Nat) {x1 : Int32}  {σ : Mem} {o : Mem} (h : fX11_performDrawn x1 σ = some o) : Spec G yX11_performDrawn cX11_performDrawn 4 none (d + HX11_performDrawn) [.ref (gA G 0), .int x1] σ (kV fun z => z = o) := by
  refine spec_run (by decide) (Nat.le_of_ble_eq_true rfl) ?_
  unfold fX11_performDrawn at h
  show Run G RX11 cX11_performDrawn 4 none _ 0 [(0, .ref (gA G 0)), (1, .int x1)] [] σ
  refine run_aload_n 0 dX11_performDrawn_0 rfl rfl ?_
  refine run_bipush (v := 12) dX11_performDrawn_1 rfl ?_
  obtain ⟨q1, h33, h⟩ := Option.bind_eq_some_iff.mp h
  refine run_callVi (As := [.int 12]) (fun r z => (r, z) = q1) mw_X11_drawBelow mi_X11_drawBelow ml_X11_322 is_0 (by decide) rfl rfl rfl (RF.lt (HX11_performDrawn_X11_drawBelow_lt d)) (Nat.le_of_ble_eq_true rfl) dX11_performDrawn_3 (sX11_drawBelow G d  h33) (fun r z h8 => ?_) rfl
  rw [show r = q1.1 from congrArg Prod.fst h8, show z = q1.2 from congrArg Prod.snd h8]
  clear h8
  refine run_istore_n [(0, .ref (gA G 0)), (1, .int x1), (2, .int q1.1)] [1, 2, 0] dX11_performDrawn_6 rfl (by decide) rfl ?_
  refine run_iload_n 2 dX11_performDrawn_7 rfl rfl ?_
  refine run_iconst (v := 2) dX11_performDrawn_8 rfl ?_
  refine run_icmp_gt 47 dX11_performDrawn_9 (by decide) (fun c2 => ?_) (fun c2 => ?_)
  · rw [if_pos c2] at h
    refine run_iload_n 2 dX11_performDrawn_47 rfl rfl ?_
    refine run_bipush (v := 6) dX11_performDrawn_48 rfl ?_
    refine run_icmp_gt 77 dX11_performDrawn_50 (by decide) (fun c3 => ?_) (fun c3 => ?_)
    · rw [if_pos c3] at h
      refine run_iload_n 2 dX11_performDrawn_77 rfl rfl ?_
      refine run_bipush (v := 8) dX11_performDrawn_78 rfl ?_
      refine run_icmp_gt 107 dX11_performDrawn_80 (by decide) (fun c4 => ?_) (fun c4 => ?_)
      · rw [if_pos c4] at h
        refine run_iload_n 2 dX11_performDrawn_107 rfl rfl ?_
        refine run_bipush (v := 9) dX11_performDrawn_108 rfl ?_
        refine run_icmp_ne 137 dX11_performDrawn_110 (by decide) (fun c5 => ?_) (fun c5 => ?_)
        · rw [if_neg c5] at h
          refine run_iload_n 2 dX11_performDrawn_137 rfl rfl ?_
          refine run_bipush (v := 10) dX11_performDrawn_138 rfl ?_
          refine run_icmp_ne 157 dX11_performDrawn_140 (by decide) (fun c6 => ?_) (fun c6 => ?_)
          · rw [if_neg c6] at h
            refine run_aload_n 0 dX11_performDrawn_157 rfl rfl ?_
            refine run_iconst (v := 4) dX11_performDrawn_158 rfl ?_
            obtain ⟨q7, h11, h⟩ := Option.bind_eq_some_iff.mp h
            refine run_callVi (As := [.int 4]) (fun r z => (r, z) = q7) mw_X11_drawBelow mi_X11_drawBelow ml_X11_322 is_0 (by decide) rfl rfl rfl (RF.lt (HX11_performDrawn_X11_drawBelow_lt d)) (Nat.le_of_ble_eq_true rfl) dX11_performDrawn_159 (sX11_drawBelow G d  h11) (fun r z h8 => ?_) rfl
            rw [show r = q7.1 from congrArg Prod.fst h8, show z = q7.2 from congrArg Prod.snd h8]
            clear h8
            refine run_if_ne 176 dX11_performDrawn_162 (by decide) (fun c8 => ?_) (fun c8 => ?_)
            · rw [if_neg c8] at h
              exact run_vret dX11_performDrawn_176 ⟨rfl, Option.some.inj h⟩
            · rw [if_pos c8] at h
              refine run_aload_n 0 dX11_performDrawn_165 rfl rfl ?_
              refine run_getr fl_X11_50 is_0 (by decide) rfl ce_0_4 dX11_performDrawn_166 ?_
              refine run_iconst (v := 1) dX11_performDrawn_169 rfl ?_
              refine run_iconst (v := -1) dX11_performDrawn_170 rfl ?_
              refine run_iconst (v := -1) dX11_performDrawn_171 rfl ?_
              obtain ⟨q9, h10, h⟩ := Option.bind_eq_some_iff.mp h
              refine run_callVb (As := [.int 1, .int (-1), .int (-1)]) (fun r z => (r, z) = q9) mw_X3_perform mi_X3_perform ml_X11_308 is_146 (by decide) rfl rfl rfl (RF.lt (HX11_performDrawn_X3_perform_lt d)) (Nat.le_of_ble_eq_true rfl) dX11_performDrawn_172 (sX3_perform G d  h10) (fun r z h8 => ?_) rfl
              rw [show r = q9.1 from congrArg Prod.fst h8, show z = q9.2 from congrArg Prod.snd h8]
              clear h8
              refine run_pop dX11_performDrawn_175 rfl ?_
              exact run_vret dX11_performDrawn_176 ⟨rfl, Option.some.inj h⟩
          · rw [if_pos c6] at h
            refine run_aload_n 0 dX11_performDrawn_143 rfl rfl ?_
            refine run_getr fl_X11_50 is_0 (by decide) rfl ce_0_4 dX11_performDrawn_144 ?_
            refine run_iconst (v := 0) dX11_performDrawn_147 rfl ?_
            refine run_iconst (v := -1) dX11_performDrawn_148 rfl ?_
            refine run_iconst (v := -1) dX11_performDrawn_149 rfl ?_
            obtain ⟨q12, h13, h⟩ := Option.bind_eq_some_iff.mp h
            refine run_callVb (As := [.int 0, .int (-1), .int (-1)]) (fun r z => (r, z) = q12) mw_X3_perform mi_X3_perform ml_X11_308 is_146 (by decide) rfl rfl rfl (RF.lt (HX11_performDrawn_X3_perform_lt d)) (Nat.le_of_ble_eq_true rfl) dX11_performDrawn_150 (sX3_perform G d  h13) (fun r z h8 => ?_) rfl
            rw [show r = q12.1 from congrArg Prod.fst h8, show z = q12.2 from congrArg Prod.snd h8]
            clear h8
            refine run_pop dX11_performDrawn_153 rfl ?_
            refine run_goto 176 dX11_performDrawn_154 (by decide) ?_
            exact run_vret dX11_performDrawn_176 ⟨rfl, Option.some.inj h⟩
        · rw [if_pos c5] at h
          refine run_aload_n 0 dX11_performDrawn_113 rfl rfl ?_
          refine run_getr fl_X11_50 is_0 (by decide) rfl ce_0_4 dX11_performDrawn_114 ?_
          refine run_iconst (v := 5) dX11_performDrawn_117 rfl ?_
          refine run_aload_n 0 dX11_performDrawn_118 rfl rfl ?_
          refine run_aload_n 0 dX11_performDrawn_119 rfl rfl ?_
          refine run_getr fl_X11_50 is_0 (by decide) rfl ce_0_4 dX11_performDrawn_120 ?_
          refine run_geti fl_X11_238 is_146 (by decide) rfl dX11_performDrawn_123 ?_
          obtain ⟨q14, h17, h⟩ := Option.bind_eq_some_iff.mp h
          refine run_callVi (As := [.int (q1.2 146 2)]) (fun r z => (r, z) = q14) mw_X11_drawBelow mi_X11_drawBelow ml_X11_322 is_0 (by decide) rfl rfl rfl (RF.lt (HX11_performDrawn_X11_drawBelow_lt d)) (Nat.le_of_ble_eq_true rfl) dX11_performDrawn_126 (sX11_drawBelow G d  h17) (fun r z h8 => ?_) rfl
          rw [show r = q14.1 from congrArg Prod.fst h8, show z = q14.2 from congrArg Prod.snd h8]
          clear h8
          refine run_iconst (v := -1) dX11_performDrawn_129 rfl ?_
          obtain ⟨q15, h16, h⟩ := Option.bind_eq_some_iff.mp h
          refine run_callVb (As := [.int 5, .int q14.1, .int (-1)]) (fun r z => (r, z) = q15) mw_X3_perform mi_X3_perform ml_X11_308 is_146 (by decide) rfl rfl rfl (RF.lt (HX11_performDrawn_X3_perform_lt d)) (Nat.le_of_ble_eq_true rfl) dX11_performDrawn_130 (sX3_perform G d  h16) (fun r z h8 => ?_) rfl
          rw [show r = q15.1 from congrArg Prod.fst h8, show z = q15.2 from congrArg Prod.snd h8]
          clear h8
          refine run_pop dX11_performDrawn_133 rfl ?_
          refine run_goto 176 dX11_performDrawn_134 (by decide) ?_
          exact run_vret dX11_performDrawn_176 ⟨rfl, Option.some.inj h⟩
      · rw [if_neg c4] at h
        refine run_aload_n 0 dX11_performDrawn_83 rfl rfl ?_
        refine run_getr fl_X11_50 is_0 (by decide) rfl ce_0_4 dX11_performDrawn_84 ?_
        refine run_iconst (v := 3) dX11_performDrawn_87 rfl ?_
        refine run_aload_n 0 dX11_performDrawn_88 rfl rfl ?_
        refine run_aload_n 0 dX11_performDrawn_89 rfl rfl ?_
        refine run_getr fl_X11_50 is_0 (by decide) rfl ce_0_4 dX11_performDrawn_90 ?_
        refine run_geti fl_X11_238 is_146 (by decide) rfl dX11_performDrawn_93 ?_
        obtain ⟨q18, h21, h⟩ := Option.bind_eq_some_iff.mp h
        refine run_callVi (As := [.int (q1.2 146 2)]) (fun r z => (r, z) = q18) mw_X11_drawBelow mi_X11_drawBelow ml_X11_322 is_0 (by decide) rfl rfl rfl (RF.lt (HX11_performDrawn_X11_drawBelow_lt d)) (Nat.le_of_ble_eq_true rfl) dX11_performDrawn_96 (sX11_drawBelow G d  h21) (fun r z h8 => ?_) rfl
        rw [show r = q18.1 from congrArg Prod.fst h8, show z = q18.2 from congrArg Prod.snd h8]
        clear h8
        refine run_iconst (v := -1) dX11_performDrawn_99 rfl ?_
        obtain ⟨q19, h20, h⟩ := Option.bind_eq_some_iff.mp h
        refine run_callVb (As := [.int 3, .int q18.1, .int (-1)]) (fun r z => (r, z) = q19) mw_X3_perform mi_X3_perform ml_X11_308 is_146 (by decide) rfl rfl rfl (RF.lt (HX11_performDrawn_X3_perform_lt d)) (Nat.le_of_ble_eq_true rfl) dX11_performDrawn_100 (sX3_perform G d  h20) (fun r z h8 => ?_) rfl
        rw [show r = q19.1 from congrArg Prod.fst h8, show z = q19.2 from congrArg Prod.snd h8]
        clear h8
        refine run_pop dX11_performDrawn_103 rfl ?_
        refine run_goto 176 dX11_performDrawn_104 (by decide) ?_
        exact run_vret dX11_performDrawn_176 ⟨rfl, Option.some.inj h⟩
    · rw [if_neg c3] at h
      refine run_aload_n 0 dX11_performDrawn_53 rfl rfl ?_
      refine run_getr fl_X11_50 is_0 (by decide) rfl ce_0_4 dX11_performDrawn_54 ?_
      refine run_iconst (v := 2) dX11_performDrawn_57 rfl ?_
      refine run_aload_n 0 dX11_performDrawn_58 rfl rfl ?_
      refine run_aload_n 0 dX11_performDrawn_59 rfl rfl ?_
      refine run_getr fl_X11_50 is_0 (by decide) rfl ce_0_4 dX11_performDrawn_60 ?_
      refine run_geti fl_X11_238 is_146 (by decide) rfl dX11_performDrawn_63 ?_
      obtain ⟨q22, h25, h⟩ := Option.bind_eq_some_iff.mp h
      refine run_callVi (As := [.int (q1.2 146 2)]) (fun r z => (r, z) = q22) mw_X11_drawBelow mi_X11_drawBelow ml_X11_322 is_0 (by decide) rfl rfl rfl (RF.lt (HX11_performDrawn_X11_drawBelow_lt d)) (Nat.le_of_ble_eq_true rfl) dX11_performDrawn_66 (sX11_drawBelow G d  h25) (fun r z h8 => ?_) rfl
      rw [show r = q22.1 from congrArg Prod.fst h8, show z = q22.2 from congrArg Prod.snd h8]
      clear h8
      refine run_iconst (v := -1) dX11_performDrawn_69 rfl ?_
      obtain ⟨q23, h24, h⟩ := Option.bind_eq_some_iff.mp h
      refine run_callVb (As := [.int 2, .int q22.1, .int (-1)]) (fun r z => (r, z) = q23) mw_X3_perform mi_X3_perform ml_X11_308 is_146 (by decide) rfl rfl rfl (RF.lt (HX11_performDrawn_X3_perform_lt d)) (Nat.le_of_ble_eq_true rfl) dX11_performDrawn_70 (sX3_perform G d  h24) (fun r z h8 => ?_) rfl
      rw [show r = q23.1 from congrArg Prod.fst h8, show z = q23.2 from congrArg Prod.snd h8]
      clear h8
      refine run_pop dX11_performDrawn_73 rfl ?_
      refine run_goto 176 dX11_performDrawn_74 (by decide) ?_
      exact run_vret dX11_performDrawn_176 ⟨rfl, Option.some.inj h⟩
  · rw [if_neg c2] at h
    refine run_iload_n 1 dX11_performDrawn_12 rfl rfl ?_
    refine run_if_le 176 dX11_performDrawn_13 (by decide) (fun c26 => ?_) (fun c26 => ?_)
    · rw [if_pos c26] at h
      exact run_vret dX11_performDrawn_176 ⟨rfl, Option.some.inj h⟩
    · rw [if_neg c26] at h
      refine run_aload_n 0 dX11_performDrawn_16 rfl rfl ?_
      refine run_aload_n 0 dX11_performDrawn_17 rfl rfl ?_
      refine run_getr fl_X11_50 is_0 (by decide) rfl ce_0_4 dX11_performDrawn_18 ?_
      refine run_geti fl_X11_238 is_146 (by decide) rfl dX11_performDrawn_21 ?_
      obtain ⟨q27, h32, h⟩ := Option.bind_eq_some_iff.mp h
      refine run_callVi (As := [.int (q1.2 146 2)]) (fun r z => (r, z) = q27) mw_X11_drawBelow mi_X11_drawBelow ml_X11_322 is_0 (by decide) rfl rfl rfl (RF.lt (HX11_performDrawn_X11_drawBelow_lt d)) (Nat.le_of_ble_eq_true rfl) dX11_performDrawn_24 (sX11_drawBelow G d  h32) (fun r z h8 => ?_) rfl
      rw [show r = q27.1 from congrArg Prod.fst h8, show z = q27.2 from congrArg Prod.snd h8]
      clear h8
      refine run_istore_n [(0, .ref (gA G 0)), (1, .int x1), (3, .int q27.1)] [1, 2, 0] dX11_performDrawn_27 rfl (by decide) rfl ?_
      refine run_aload_n 0 dX11_performDrawn_28 rfl rfl ?_
      refine run_getr fl_X11_50 is_0 (by decide) rfl ce_0_4 dX11_performDrawn_29 ?_
      refine run_bipush (v := 6) dX11_performDrawn_32 rfl ?_
      refine run_iload_n 2 dX11_performDrawn_34 rfl rfl ?_
      refine run_aload_n 0 dX11_performDrawn_35 rfl rfl ?_
      refine run_iload_n 1 dX11_performDrawn_36 rfl rfl ?_
      obtain ⟨q28, h31, h⟩ := Option.bind_eq_some_iff.mp h
      refine run_callVi (As := [.int x1]) (fun r z => (r, z) = q28) mw_X11_drawBelow mi_X11_drawBelow ml_X11_322 is_0 (by decide) rfl rfl rfl (RF.lt (HX11_performDrawn_X11_drawBelow_lt d)) (Nat.le_of_ble_eq_true rfl) dX11_performDrawn_37 (sX11_drawBelow G d  h31) (fun r z h8 => ?_) rfl
      rw [show r = q28.1 from congrArg Prod.fst h8, show z = q28.2 from congrArg Prod.snd h8]
      clear h8
      obtain ⟨q29, h30, h⟩ := Option.bind_eq_some_iff.mp h
      refine run_callVb (As := [.int 6, .int q27.1, .int q28.1]) (fun r z => (r, z) = q29) mw_X3_perform mi_X3_perform ml_X11_308 is_146 (by decide) rfl rfl rfl (RF.lt (HX11_performDrawn_X3_perform_lt d)) (Nat.le_of_ble_eq_true rfl) dX11_performDrawn_40 (sX3_perform G d  h30) (fun r z h8 => ?_) rfl
      rw [show r = q29.1 from congrArg Prod.fst h8, show z = q29.2 from congrArg Prod.snd h8]
      clear h8
      refine run_pop dX11_performDrawn_43 rfl ?_
      refine run_goto 176 dX11_performDrawn_44 (by decide) ?_
      exact run_vret dX11_performDrawn_176 ⟨rfl, Option.some.inj h⟩
