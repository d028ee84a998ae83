/-! methods, translated -/
def HX12_keepOf : Nat := 2
theorem HX12_keepOf_X12_keep_lt (d : Nat) : d + HX12_keep < d + HX12_keepOf := Nat.add_lt_add_left (by decide) d
theorem HX12_keepOf_0 (d : Nat) : 0 < d + HX12_keepOf := Nat.lt_of_lt_of_le (by decide) (Nat.le_add_left _ d)
def fX12_keepOf (x1 : Int32) (x2 : Int32) (σ : Mem) : Option Mem := if x1 = 0 then ((fX12_keep 275 104 13 x2 σ).bind fun q10 => some q10) else (if x1 = 1 then ((fX12_keep 276 1072 134 x2 σ).bind fun q8 => some q8) else (if x1 = 2 then ((fX12_keep 277 968 121 x2 σ).bind fun q6 => some q6) else ((fX12_keep 278 136 17 x2 σ).bind fun q4 => some q4)))
set_option maxRecDepth 20000 in
theorem sX12_keepOf (G : GT) (d : Nat) {x1 : Int32} {x2 : Int32}  {σ : Mem} {o : Mem} (h : fX12_keepOf x1 x2 σ = some o) : Spec G yX12_keepOf cX12_keepOf 3 none (d + HX12_keepOf) [.ref (gA G 269), .int x1, .int x2] σ (kV fun z => z = o) := by
  refine spec_run (by decide) (Nat.le_of_ble_eq_true rfl) ?_
  unfold fX12_keepOf at h
  show Run G RX12 cX12_keepOf 3 none _ 0 [(0, .ref (gA G 269)), (1, .int x1), (2, .int x2)] [] σ
  refine run_iload_n 1 dX12_keepOf_0 rfl rfl ?_
  refine run_if_ne 18 dX12_keepOf_1 (by decide) (fun c1 => ?_) (fun c1 => ?_)
  · rw [if_neg c1] at h
    refine run_iload_n 1 dX12_keepOf_18 rfl rfl ?_
    refine run_iconst (v := 1) dX12_keepOf_19 rfl ?_
    refine run_icmp_ne 38 dX12_keepOf_20 (by decide) (fun c2 => ?_) (fun c2 => ?_)
    · rw [if_neg c2] at h
      refine run_iload_n 1 dX12_keepOf_38 rfl rfl ?_
      refine run_iconst (v := 2) dX12_keepOf_39 rfl ?_
      refine run_icmp_ne 57 dX12_keepOf_40 (by decide) (fun c3 => ?_) (fun c3 => ?_)
      · rw [if_neg c3] at h
        refine run_aload_n 0 dX12_keepOf_57 rfl rfl ?_
        refine run_aload_n 0 dX12_keepOf_58 rfl rfl ?_
        refine run_getr fl_X12_35 is_269 (by decide) rfl ce_269_9 dX12_keepOf_59 ?_
        refine run_bipush (v := 17) dX12_keepOf_62 rfl ?_
        refine run_iload_n 2 dX12_keepOf_64 rfl rfl ?_
        obtain ⟨q4, h5, h⟩ := Option.bind_eq_some_iff.mp h
        refine run_callVv (As := [.ref (gA G 278), .int 17, .int x2]) (fun z => z = q4) mw_X12_keep mi_X12_keep ml_X12_301 is_269 (by decide) rfl rfl rfl (RF.lt (HX12_keepOf_X12_keep_lt d)) (Nat.le_of_ble_eq_true rfl) dX12_keepOf_65 (sX12_keep G d is_278 ln_278 (by decide) h5) (fun z h8 => ?_) rfl
        rw [h8]
        clear h8
        exact run_vret dX12_keepOf_68 ⟨rfl, Option.some.inj h⟩
      · rw [if_pos c3] at h
        refine run_aload_n 0 dX12_keepOf_43 rfl rfl ?_
        refine run_aload_n 0 dX12_keepOf_44 rfl rfl ?_
        refine run_getr fl_X12_32 is_269 (by decide) rfl ce_269_8 dX12_keepOf_45 ?_
        refine run_bipush (v := 121) dX12_keepOf_48 rfl ?_
        refine run_iload_n 2 dX12_keepOf_50 rfl rfl ?_
        obtain ⟨q6, h7, h⟩ := Option.bind_eq_some_iff.mp h
        refine run_callVv (As := [.ref (gA G 277), .int 121, .int x2]) (fun z => z = q6) mw_X12_keep mi_X12_keep ml_X12_301 is_269 (by decide) rfl rfl rfl (RF.lt (HX12_keepOf_X12_keep_lt d)) (Nat.le_of_ble_eq_true rfl) dX12_keepOf_51 (sX12_keep G d is_277 ln_277 (by decide) h7) (fun z h8 => ?_) rfl
        rw [h8]
        clear h8
        refine run_goto 68 dX12_keepOf_54 (by decide) ?_
        exact run_vret dX12_keepOf_68 ⟨rfl, Option.some.inj h⟩
    · rw [if_pos c2] at h
      refine run_aload_n 0 dX12_keepOf_23 rfl rfl ?_
      refine run_aload_n 0 dX12_keepOf_24 rfl rfl ?_
      refine run_getr fl_X12_29 is_269 (by decide) rfl ce_269_7 dX12_keepOf_25 ?_
      refine run_sipush (v := 134) dX12_keepOf_28 rfl ?_
      refine run_iload_n 2 dX12_keepOf_31 rfl rfl ?_
      obtain ⟨q8, h9, h⟩ := Option.bind_eq_some_iff.mp h
      refine run_callVv (As := [.ref (gA G 276), .int 134, .int x2]) (fun z => z = q8) mw_X12_keep mi_X12_keep ml_X12_301 is_269 (by decide) rfl rfl rfl (RF.lt (HX12_keepOf_X12_keep_lt d)) (Nat.le_of_ble_eq_true rfl) dX12_keepOf_32 (sX12_keep G d is_276 ln_276 (by decide) h9) (fun z h8 => ?_) rfl
      rw [h8]
      clear h8
      refine run_goto 68 dX12_keepOf_35 (by decide) ?_
      exact run_vret dX12_keepOf_68 ⟨rfl, Option.some.inj h⟩
  · rw [if_pos c1] at h
    refine run_aload_n 0 dX12_keepOf_4 rfl rfl ?_
    refine run_aload_n 0 dX12_keepOf_5 rfl rfl ?_
    refine run_getr fl_X12_26 is_269 (by decide) rfl ce_269_6 dX12_keepOf_6 ?_
    refine run_bipush (v := 13) dX12_keepOf_9 rfl ?_
    refine run_iload_n 2 dX12_keepOf_11 rfl rfl ?_
    obtain ⟨q10, h11, h⟩ := Option.bind_eq_some_iff.mp h
    refine run_callVv (As := [.ref (gA G 275), .int 13, .int x2]) (fun z => z = q10) mw_X12_keep mi_X12_keep ml_X12_301 is_269 (by decide) rfl rfl rfl (RF.lt (HX12_keepOf_X12_keep_lt d)) (Nat.le_of_ble_eq_true rfl) dX12_keepOf_12 (sX12_keep G d is_275 ln_275 (by decide) h11) (fun z h8 => ?_) rfl
    rw [h8]
    clear h8
    refine run_goto 68 dX12_keepOf_15 (by decide) ?_
    exact run_vret dX12_keepOf_68 ⟨rfl, Option.some.inj h⟩
def HX12_text : Nat := 9
theorem HX12_text_X12_in_lt (d : Nat) : d + HX12_in < d + HX12_text := Nat.add_lt_add_left (by decide) d
theorem HX12_text_X12_is_lt (d : Nat) : d + HX12_is < d + HX12_text := Nat.add_lt_add_left (by decide) d
theorem HX12_text_X12_keepOf_lt (d : Nat) : d + HX12_keepOf < d + HX12_text := Nat.add_lt_add_left (by decide) d
theorem HX12_text_X12_readText_lt (d : Nat) : d + HX12_readText < d + HX12_text := Nat.add_lt_add_left (by decide) d
theorem HX12_text_0 (d : Nat) : 0 < d + HX12_text := Nat.lt_of_lt_of_le (by decide) (Nat.le_add_left _ d)
def jX12_text_75 (x1 : Int32) (x2 : Int32) (σ : Mem) : Option (Int32 × Mem) := (fX12_readText x1 σ).bind fun q6 => if q6.1 = true then ((if x2 = (-1) then (gd (inb x1 16) (some (q6.2 274 (Int32.toNatClampNeg x1)))) else (some x2) : Option (Int32)).bind fun q10 => gd (inb x1 16) ((if x2 = (-1) then (some true) else (some false) : Option (Bool)).bind fun q13 => gd (inb x1 16) ((fX12_keepOf x1 q10 (st2 q6.2 274 (Int32.toNatClampNeg x1) ((q6.2 274 (Int32.toNatClampNeg x1)) + (b2 q13)))).bind fun q15 => some (q10, q15)))) else (some ((-1), q6.2))
set_option maxRecDepth 20000 in
theorem jnX12_text_75 (G : GT) (d : Nat) (x1 : Int32) (x2 : Int32)  (σ : Mem) (o : (Int32 × Mem)) (h : jX12_text_75 x1 x2 σ = some o) : Run G RX12 cX12_text 4 (some .int) (mF G (d + HX12_text) (kI fun x z => (x, z) = o)) 75 [(0, .ref (gA G 269)), (1, .int x1), (2, .int x2)] [] σ := by
  unfold jX12_text_75 at h
  refine run_aload_n 0 dX12_text_75 rfl rfl ?_
  refine run_iload_n 1 dX12_text_76 rfl rfl ?_
  obtain ⟨q6, h19, h⟩ := Option.bind_eq_some_iff.mp h
  refine run_callVb (As := [.int x1]) (fun r z => (r, z) = q6) mw_X12_readText mi_X12_readText ml_X12_308 is_269 (by decide) rfl rfl rfl (RF.lt (HX12_text_X12_readText_lt d)) (Nat.le_of_ble_eq_true rfl) dX12_text_77 (sX12_readText G d  h19) (fun r z h8 => ?_) rfl
  rw [show r = q6.1 from congrArg Prod.fst h8, show z = q6.2 from congrArg Prod.snd h8]
  clear h8
  refine run_ifb_ne 85 dX12_text_80 (by decide) (fun c7 => ?_) (fun c7 => ?_)
  · rw [if_pos c7] at h
    refine run_iload_n 2 dX12_text_85 rfl rfl ?_
    refine run_iconst (v := -1) dX12_text_86 rfl ?_
    obtain ⟨q10, h, h9⟩ := Option.bind_eq_some_iff.mp h
    have hj18 : Run G RX12 cX12_text 4 (some .int) (mF G (d + HX12_text) (kI fun x z => (x, z) = o)) 100 [(0, .ref (gA G 269)), (1, .int x1), (2, .int x2)] [.int q10] q6.2 := by
      clear h
      have h := h9
      clear h9
      refine run_istore_n [(0, .ref (gA G 269)), (1, .int x1), (2, .int x2), (3, .int q10)] [1, 2, 3, 0] dX12_text_100 rfl (by decide) rfl ?_
      refine run_aload_n 0 dX12_text_101 rfl rfl ?_
      refine run_getr fl_X12_23 is_269 (by decide) rfl ce_269_5 dX12_text_102 ?_
      refine run_iload_n 1 dX12_text_105 rfl rfl ?_
      refine run_dup2 dX12_text_106 rfl rfl ?_
      obtain ⟨g11, h⟩ := gd_s h
      refine run_iald' is_274 ln_274 g11 rfl dX12_text_107 ?_
      refine run_iload_n 2 dX12_text_108 rfl rfl ?_
      refine run_iconst (v := -1) dX12_text_109 rfl ?_
      obtain ⟨q13, h, h9⟩ := Option.bind_eq_some_iff.mp h
      have hj17 : Run G RX12 cX12_text 4 (some .int) (mF G (d + HX12_text) (kI fun x z => (x, z) = o)) 118 [(0, .ref (gA G 269)), (1, .int x1), (3, .int q10)] [.int (b2 q13), .int (q6.2 274 (Int32.toNatClampNeg x1)), .int x1, .ref (gA G 274)] q6.2 := by
        clear h
        have h := h9
        clear h9
        refine run_iadd dX12_text_118 ?_
        obtain ⟨g14, h⟩ := gd_s h
        refine run_iast' is_274 ln_274 g14 rfl dX12_text_119 ?_
        refine run_aload_n 0 dX12_text_120 rfl rfl ?_
        refine run_iload_n 1 dX12_text_121 rfl rfl ?_
        refine run_iload_n 2 dX12_text_122 rfl rfl ?_
        obtain ⟨q15, h16, h⟩ := Option.bind_eq_some_iff.mp h
        refine run_callVv (As := [.int x1, .int q10]) (fun z => z = q15) mw_X12_keepOf mi_X12_keepOf ml_X12_311 is_269 (by decide) rfl rfl rfl (RF.lt (HX12_text_X12_keepOf_lt d)) (Nat.le_of_ble_eq_true rfl) dX12_text_123 (sX12_keepOf G d  h16) (fun z h8 => ?_) rfl
        rw [h8]
        clear h8
        refine run_iload_n 2 dX12_text_126 rfl rfl ?_
        exact run_iret dX12_text_127 ⟨_, rfl, Option.some.inj h⟩
      clear h9
      refine run_icmp_ne 117 dX12_text_110 (by decide) (fun c12 => ?_) (fun c12 => ?_)
      · rw [if_neg c12] at h
        refine run_iconst (v := 0) dX12_text_117 rfl ?_
        rw [← Option.some.inj h] at hj17
        refine run_forget [0, 1, 3] rfl ?_
        exact hj17
      · rw [if_pos c12] at h
        refine run_iconst (v := 1) dX12_text_113 rfl ?_
        refine run_goto 118 dX12_text_114 (by decide) ?_
        rw [← Option.some.inj h] at hj17
        refine run_forget [0, 1, 3] rfl ?_
        exact hj17
    clear h9
    refine run_icmp_ne 99 dX12_text_87 (by decide) (fun c8 => ?_) (fun c8 => ?_)
    · rw [if_neg c8] at h
      refine run_iload_n 2 dX12_text_99 rfl rfl ?_
      rw [← Option.some.inj h] at hj18
      exact hj18
    · rw [if_pos c8] at h
      refine run_aload_n 0 dX12_text_90 rfl rfl ?_
      refine run_getr fl_X12_23 is_269 (by decide) rfl ce_269_5 dX12_text_91 ?_
      refine run_iload_n 1 dX12_text_94 rfl rfl ?_
      obtain ⟨g9, h⟩ := gd_s h
      refine run_iald' is_274 ln_274 g9 rfl dX12_text_95 ?_
      refine run_goto 100 dX12_text_96 (by decide) ?_
      rw [← Option.some.inj h] at hj18
      exact hj18
  · rw [if_neg c7] at h
    refine run_iconst (v := -1) dX12_text_83 rfl ?_
    exact run_iret dX12_text_84 ⟨_, rfl, Option.some.inj h⟩
def fX12_text (x1 : Int32) (x2 : Int32) (σ : Mem) : Option (Int32 × Mem) := (fX12_in x1 0 3 (st2 (st2 (st2 (st2 (st2 σ 269 0 0) 269 11 ((st2 σ 269 0 0) 271 0)) 271 0 0) 272 0 0) 273 0 (-1))).bind fun q1 => if q1.1 = true then (if x2 = (-1) then (gd (inb x1 16) (if (q1.2 274 (Int32.toNatClampNeg x1)) = 2 then (some ((-2), q1.2)) else (jX12_text_75 x1 x2 q1.2))) else ((fX12_is x1 x2 q1.2).bind fun q4 => if q4.1 = true then (jX12_text_75 x1 x2 q4.2) else (some ((-2), q4.2)))) else (some ((-2), q1.2))
set_option maxRecDepth 20000 in
theorem sX12_text (G : GT) (d : Nat) {x1 : Int32} {x2 : Int32}  {σ : Mem} {o : (Int32 × Mem)} (h : fX12_text x1 x2 σ = some o) : Spec G yX12_text cX12_text 4 (some .int) (d + HX12_text) [.ref (gA G 269), .int x1, .int x2] σ (kI fun x z => (x, z) = o) := by
  refine spec_run (by decide) (Nat.le_of_ble_eq_true rfl) ?_
  unfold fX12_text at h
  show Run G RX12 cX12_text 4 (some .int) _ 0 [(0, .ref (gA G 269)), (1, .int x1), (2, .int x2)] [] σ
  refine run_aload_n 0 dX12_text_0 rfl rfl ?_
  refine run_iconst (v := 0) dX12_text_1 rfl ?_
  refine run_puti fp_X12_144 is_269 (by decide) rfl dX12_text_2 ?_
  refine run_aload_n 0 dX12_text_5 rfl rfl ?_
  refine run_aload_n 0 dX12_text_6 rfl rfl ?_
  refine run_getr fl_X12_13 is_269 (by decide) rfl ce_269_2 dX12_text_7 ?_
  refine run_iconst (v := 0) dX12_text_10 rfl ?_
  refine run_iald' (j := 0) is_271 ln_271 (by decide) rfl dX12_text_11 ?_
  refine run_puti fp_X12_167 is_269 (by decide) rfl dX12_text_12 ?_
  refine run_aload_n 0 dX12_text_15 rfl rfl ?_
  refine run_getr fl_X12_13 is_269 (by decide) rfl ce_269_2 dX12_text_16 ?_
  refine run_iconst (v := 0) dX12_text_19 rfl ?_
  refine run_iconst (v := 0) dX12_text_20 rfl ?_
  refine run_iast' (j := 0) is_271 ln_271 (by decide) rfl dX12_text_21 ?_
  refine run_aload_n 0 dX12_text_22 rfl rfl ?_
  refine run_getr fl_X12_17 is_269 (by decide) rfl ce_269_3 dX12_text_23 ?_
  refine run_iconst (v := 0) dX12_text_26 rfl ?_
  refine run_iconst (v := 0) dX12_text_27 rfl ?_
  refine run_iast' (j := 0) is_272 ln_272 (by decide) rfl dX12_text_28 ?_
  refine run_aload_n 0 dX12_text_29 rfl rfl ?_
  refine run_getr fl_X12_20 is_269 (by decide) rfl ce_269_4 dX12_text_30 ?_
  refine run_iconst (v := 0) dX12_text_33 rfl ?_
  refine run_iconst (v := -1) dX12_text_34 rfl ?_
  refine run_iast' (j := 0) is_273 ln_273 (by decide) rfl dX12_text_35 ?_
  refine run_iload_n 1 dX12_text_36 rfl rfl ?_
  refine run_iconst (v := 0) dX12_text_37 rfl ?_
  refine run_iconst (v := 3) dX12_text_38 rfl ?_
  obtain ⟨q1, h23, h⟩ := Option.bind_eq_some_iff.mp h
  refine run_callSb (As := [.int x1, .int 0, .int 3]) (fun r z => (r, z) = q1) mw_X12_in ms_X12_in ml_X12_156 rfl (RF.lt (HX12_text_X12_in_lt d)) (Nat.le_of_ble_eq_true rfl) dX12_text_39 (sX12_in G d  h23) (fun r z h8 => ?_) rfl
  rw [show r = q1.1 from congrArg Prod.fst h8, show z = q1.2 from congrArg Prod.snd h8]
  clear h8
  refine run_ifb_eq 72 dX12_text_42 (by decide) (fun c2 => ?_) (fun c2 => ?_)
  · rw [if_neg c2] at h
    refine run_bipush (v := -2) dX12_text_72 rfl ?_
    exact run_iret dX12_text_74 ⟨_, rfl, Option.some.inj h⟩
  · rw [if_pos c2] at h
    refine run_iload_n 2 dX12_text_45 rfl rfl ?_
    refine run_iconst (v := -1) dX12_text_46 rfl ?_
    refine run_icmp_ne 63 dX12_text_47 (by decide) (fun c3 => ?_) (fun c3 => ?_)
    · rw [if_neg c3] at h
      refine run_aload_n 0 dX12_text_63 rfl rfl ?_
      refine run_iload_n 1 dX12_text_64 rfl rfl ?_
      refine run_iload_n 2 dX12_text_65 rfl rfl ?_
      obtain ⟨q4, h20, h⟩ := Option.bind_eq_some_iff.mp h
      refine run_callVb (As := [.int x1, .int x2]) (fun r z => (r, z) = q4) mw_X12_is mi_X12_is ml_X12_305 is_269 (by decide) rfl rfl rfl (RF.lt (HX12_text_X12_is_lt d)) (Nat.le_of_ble_eq_true rfl) dX12_text_66 (sX12_is G d  h20) (fun r z h8 => ?_) rfl
      rw [show r = q4.1 from congrArg Prod.fst h8, show z = q4.2 from congrArg Prod.snd h8]
      clear h8
      refine run_ifb_ne 75 dX12_text_69 (by decide) (fun c5 => ?_) (fun c5 => ?_)
      · rw [if_pos c5] at h
        exact jnX12_text_75 G d _ _ _ _ h
      · rw [if_neg c5] at h
        refine run_bipush (v := -2) dX12_text_72 rfl ?_
        exact run_iret dX12_text_74 ⟨_, rfl, Option.some.inj h⟩
    · rw [if_pos c3] at h
      refine run_aload_n 0 dX12_text_50 rfl rfl ?_
      refine run_getr fl_X12_23 is_269 (by decide) rfl ce_269_5 dX12_text_51 ?_
      refine run_iload_n 1 dX12_text_54 rfl rfl ?_
      obtain ⟨g21, h⟩ := gd_s h
      refine run_iald' is_274 ln_274 g21 rfl dX12_text_55 ?_
      refine run_iconst (v := 2) dX12_text_56 rfl ?_
      refine run_icmp_ne 75 dX12_text_57 (by decide) (fun c22 => ?_) (fun c22 => ?_)
      · rw [if_neg c22] at h
        exact jnX12_text_75 G d _ _ _ _ h
      · rw [if_pos c22] at h
        refine run_goto 72 dX12_text_60 (by decide) ?_
        refine run_bipush (v := -2) dX12_text_72 rfl ?_
        exact run_iret dX12_text_74 ⟨_, rfl, Option.some.inj h⟩
def HX12_fault : Nat := 1
theorem HX12_fault_0 (d : Nat) : 0 < d + HX12_fault := Nat.lt_of_lt_of_le (by decide) (Nat.le_add_left _ d)
def fX12_fault (x1 : Int32) (σ : Mem) : Option (Int32 × Mem) := if x1 = 0 then (some (((st2 σ 269 0 0) 272 0), (st2 σ 269 0 0))) else (if x1 = 1 then (some (((st2 σ 269 0 0) 273 0), (st2 σ 269 0 0))) else (some ((-1), (st2 σ 269 0 0))))
set_option maxRecDepth 20000 in
theorem sX12_fault (G : GT) (d : Nat) {x1 : Int32}  {σ : Mem} {o : (Int32 × Mem)} (h : fX12_fault x1 σ = some o) : Spec G yX12_fault cX12_fault 2 (some .int) (d + HX12_fault) [.ref (gA G 269), .int x1] σ (kI fun x z => (x, z) = o) := by
  refine spec_run (by decide) (Nat.le_of_ble_eq_true rfl) ?_
  unfold fX12_fault at h
  show Run G RX12 cX12_fault 2 (some .int) _ 0 [(0, .ref (gA G 269)), (1, .int x1)] [] σ
  refine run_aload_n 0 dX12_fault_0 rfl rfl ?_
  refine run_iconst (v := 0) dX12_fault_1 rfl ?_
  refine run_puti fp_X12_144 is_269 (by decide) rfl dX12_fault_2 ?_
  refine run_iload_n 1 dX12_fault_5 rfl rfl ?_
  refine run_if_ne 18 dX12_fault_6 (by decide) (fun c1 => ?_) (fun c1 => ?_)
  · rw [if_neg c1] at h
    refine run_iload_n 1 dX12_fault_18 rfl rfl ?_
    refine run_iconst (v := 1) dX12_fault_19 rfl ?_
    refine run_icmp_ne 32 dX12_fault_20 (by decide) (fun c2 => ?_) (fun c2 => ?_)
    · rw [if_neg c2] at h
      refine run_iconst (v := -1) dX12_fault_32 rfl ?_
      exact run_iret dX12_fault_33 ⟨_, rfl, Option.some.inj h⟩
    · rw [if_pos c2] at h
      refine run_aload_n 0 dX12_fault_23 rfl rfl ?_
      refine run_getr fl_X12_20 is_269 (by decide) rfl ce_269_4 dX12_fault_24 ?_
      refine run_iconst (v := 0) dX12_fault_27 rfl ?_
      refine run_iald' (j := 0) is_273 ln_273 (by decide) rfl dX12_fault_28 ?_
      refine run_goto 33 dX12_fault_29 (by decide) ?_
      exact run_iret dX12_fault_33 ⟨_, rfl, Option.some.inj h⟩
  · rw [if_pos c1] at h
    refine run_aload_n 0 dX12_fault_9 rfl rfl ?_
    refine run_getr fl_X12_17 is_269 (by decide) rfl ce_269_3 dX12_fault_10 ?_
    refine run_iconst (v := 0) dX12_fault_13 rfl ?_
    refine run_iald' (j := 0) is_272 ln_272 (by decide) rfl dX12_fault_14 ?_
    refine run_goto 33 dX12_fault_15 (by decide) ?_
    exact run_iret dX12_fault_33 ⟨_, rfl, Option.some.inj h⟩
def HX12_ofStore : Nat := 1
theorem HX12_ofStore_0 (d : Nat) : 0 < d + HX12_ofStore := Nat.lt_of_lt_of_le (by decide) (Nat.le_add_left _ d)
def fX12_ofStore (x1 : Int32) (σ : Mem) : Option (Int32 × Mem) := gd (inb (((13 : Int32) * (σ 269 23)) + x1) 104) (some ((σ 275 (Int32.toNatClampNeg (((13 : Int32) * (σ 269 23)) + x1))), σ))
set_option maxRecDepth 20000 in
theorem sX12_ofStore (G : GT) (d : Nat) {x1 : Int32}  {σ : Mem} {o : (Int32 × Mem)} (h : fX12_ofStore x1 σ = some o) : Spec G yX12_ofStore cX12_ofStore 2 (some .int) (d + HX12_ofStore) [.ref (gA G 269), .int x1] σ (kI fun x z => (x, z) = o) := by
  refine spec_run (by decide) (Nat.le_of_ble_eq_true rfl) ?_
  unfold fX12_ofStore at h
  show Run G RX12 cX12_ofStore 2 (some .int) _ 0 [(0, .ref (gA G 269)), (1, .int x1)] [] σ
  refine run_aload_n 0 dX12_ofStore_0 rfl rfl ?_
  refine run_getr fl_X12_26 is_269 (by decide) rfl ce_269_6 dX12_ofStore_1 ?_
  refine run_bipush (v := 13) dX12_ofStore_4 rfl ?_
  refine run_aload_n 0 dX12_ofStore_6 rfl rfl ?_
  refine run_geti fl_X12_314 is_269 (by decide) rfl dX12_ofStore_7 ?_
  refine run_imul dX12_ofStore_10 ?_
  refine run_iload_n 1 dX12_ofStore_11 rfl rfl ?_
  refine run_iadd dX12_ofStore_12 ?_
  obtain ⟨g1, h⟩ := gd_s h
  refine run_iald' is_275 ln_275 g1 rfl dX12_ofStore_13 ?_
  exact run_iret dX12_ofStore_14 ⟨_, rfl, Option.some.inj h⟩
def HX12_ofTask : Nat := 1
theorem HX12_ofTask_0 (d : Nat) : 0 < d + HX12_ofTask := Nat.lt_of_lt_of_le (by decide) (Nat.le_add_left _ d)
def fX12_ofTask (x1 : Int32) (x2 : Int32) (σ : Mem) : Option (Int32 × Mem) := gd (inb (((((134 : Int32) * (σ 269 24)) + 1) + ((19 : Int32) * x1)) + x2) 1072) (some ((σ 276 (Int32.toNatClampNeg (((((134 : Int32) * (σ 269 24)) + 1) + ((19 : Int32) * x1)) + x2))), σ))
set_option maxRecDepth 20000 in
theorem sX12_ofTask (G : GT) (d : Nat) {x1 : Int32} {x2 : Int32}  {σ : Mem} {o : (Int32 × Mem)} (h : fX12_ofTask x1 x2 σ = some o) : Spec G yX12_ofTask cX12_ofTask 3 (some .int) (d + HX12_ofTask) [.ref (gA G 269), .int x1, .int x2] σ (kI fun x z => (x, z) = o) := by
  refine spec_run (by decide) (Nat.le_of_ble_eq_true rfl) ?_
  unfold fX12_ofTask at h
  show Run G RX12 cX12_ofTask 3 (some .int) _ 0 [(0, .ref (gA G 269)), (1, .int x1), (2, .int x2)] [] σ
  refine run_aload_n 0 dX12_ofTask_0 rfl rfl ?_
  refine run_getr fl_X12_29 is_269 (by decide) rfl ce_269_7 dX12_ofTask_1 ?_
  refine run_sipush (v := 134) dX12_ofTask_4 rfl ?_
  refine run_aload_n 0 dX12_ofTask_7 rfl rfl ?_
  refine run_geti fl_X12_317 is_269 (by decide) rfl dX12_ofTask_8 ?_
  refine run_imul dX12_ofTask_11 ?_
  refine run_iconst (v := 1) dX12_ofTask_12 rfl ?_
  refine run_iadd dX12_ofTask_13 ?_
  refine run_bipush (v := 19) dX12_ofTask_14 rfl ?_
  refine run_iload_n 1 dX12_ofTask_16 rfl rfl ?_
  refine run_imul dX12_ofTask_17 ?_
  refine run_iadd dX12_ofTask_18 ?_
  refine run_iload_n 2 dX12_ofTask_19 rfl rfl ?_
  refine run_iadd dX12_ofTask_20 ?_
  obtain ⟨g1, h⟩ := gd_s h
  refine run_iald' is_276 ln_276 g1 rfl dX12_ofTask_21 ?_
  exact run_iret dX12_ofTask_22 ⟨_, rfl, Option.some.inj h⟩
def HX12_stepsOf : Nat := 2
theorem HX12_stepsOf_X12_ofTask_lt (d : Nat) : d + HX12_ofTask < d + HX12_stepsOf := Nat.add_lt_add_left (by decide) d
theorem HX12_stepsOf_0 (d : Nat) : 0 < d + HX12_stepsOf := Nat.lt_of_lt_of_le (by decide) (Nat.le_add_left _ d)
def fX12_stepsOf (x1 : Int32) (σ : Mem) : Option (Int32 × Mem) := (fX12_ofTask x1 0 σ).bind fun q1 => some (q1.1, q1.2)
set_option maxRecDepth 20000 in
theorem sX12_stepsOf (G : GT) (d : Nat) {x1 : Int32}  {σ : Mem} {o : (Int32 × Mem)} (h : fX12_stepsOf x1 σ = some o) : Spec G yX12_stepsOf cX12_stepsOf 2 (some .int) (d + HX12_stepsOf) [.ref (gA G 269), .int x1] σ (kI fun x z => (x, z) = o) := by
  refine spec_run (by decide) (Nat.le_of_ble_eq_true rfl) ?_
  unfold fX12_stepsOf at h
  show Run G RX12 cX12_stepsOf 2 (some .int) _ 0 [(0, .ref (gA G 269)), (1, .int x1)] [] σ
  refine run_aload_n 0 dX12_stepsOf_0 rfl rfl ?_
  refine run_iload_n 1 dX12_stepsOf_1 rfl rfl ?_
  refine run_iconst (v := 0) dX12_stepsOf_2 rfl ?_
  obtain ⟨q1, h2, h⟩ := Option.bind_eq_some_iff.mp h
  refine run_callVi (As := [.int x1, .int 0]) (fun r z => (r, z) = q1) mw_X12_ofTask mi_X12_ofTask ml_X12_320 is_269 (by decide) rfl rfl rfl (RF.lt (HX12_stepsOf_X12_ofTask_lt d)) (Nat.le_of_ble_eq_true rfl) dX12_stepsOf_3 (sX12_ofTask G d  h2) (fun r z h8 => ?_) rfl
  rw [show r = q1.1 from congrArg Prod.fst h8, show z = q1.2 from congrArg Prod.snd h8]
  clear h8
  exact run_iret dX12_stepsOf_6 ⟨_, rfl, Option.some.inj h⟩
def HX12_hasBook : Nat := 3
theorem HX12_hasBook_X12_is_lt (d : Nat) : d + HX12_is < d + HX12_hasBook := Nat.add_lt_add_left (by decide) d
theorem HX12_hasBook_0 (d : Nat) : 0 < d + HX12_hasBook := Nat.lt_of_lt_of_le (by decide) (Nat.le_add_left _ d)
def fX12_hasBook (x1 : Int32) (σ : Mem) : Option (Bool × Mem) := (fX12_is 1 x1 (st2 σ 269 24 x1)).bind fun q1 => if q1.1 = true then (gd (inb ((134 : Int32) * x1) 1072) (some (true, (st2 q1.2 269 27 (q1.2 276 (Int32.toNatClampNeg ((134 : Int32) * x1))))))) else (some (false, q1.2))
set_option maxRecDepth 20000 in
theorem sX12_hasBook (G : GT) (d : Nat) {x1 : Int32}  {σ : Mem} {o : (Bool × Mem)} (h : fX12_hasBook x1 σ = some o) : Spec G yX12_hasBook cX12_hasBook 2 (some .boolean) (d + HX12_hasBook) [.ref (gA G 269), .int x1] σ (kB fun x z => (x, z) = o) := by
  refine spec_run (by decide) (Nat.le_of_ble_eq_true rfl) ?_
  unfold fX12_hasBook at h
  show Run G RX12 cX12_hasBook 2 (some .boolean) _ 0 [(0, .ref (gA G 269)), (1, .int x1)] [] σ
  refine run_aload_n 0 dX12_hasBook_0 rfl rfl ?_
  refine run_iload_n 1 dX12_hasBook_1 rfl rfl ?_
  refine run_puti fp_X12_317 is_269 (by decide) rfl dX12_hasBook_2 ?_
  refine run_aload_n 0 dX12_hasBook_5 rfl rfl ?_
  refine run_iconst (v := 1) dX12_hasBook_6 rfl ?_
  refine run_iload_n 1 dX12_hasBook_7 rfl rfl ?_
  obtain ⟨q1, h4, h⟩ := Option.bind_eq_some_iff.mp h
  refine run_callVb (As := [.int 1, .int x1]) (fun r z => (r, z) = q1) mw_X12_is mi_X12_is ml_X12_305 is_269 (by decide) rfl rfl rfl (RF.lt (HX12_hasBook_X12_is_lt d)) (Nat.le_of_ble_eq_true rfl) dX12_hasBook_8 (sX12_is G d  h4) (fun r z h8 => ?_) rfl
  rw [show r = q1.1 from congrArg Prod.fst h8, show z = q1.2 from congrArg Prod.snd h8]
  clear h8
  refine run_ifb_ne 16 dX12_hasBook_11 (by decide) (fun c2 => ?_) (fun c2 => ?_)
  · rw [if_pos c2] at h
    refine run_aload_n 0 dX12_hasBook_16 rfl rfl ?_
    refine run_aload_n 0 dX12_hasBook_17 rfl rfl ?_
    refine run_getr fl_X12_29 is_269 (by decide) rfl ce_269_7 dX12_hasBook_18 ?_
    refine run_sipush (v := 134) dX12_hasBook_21 rfl ?_
    refine run_iload_n 1 dX12_hasBook_24 rfl rfl ?_
    refine run_imul dX12_hasBook_25 ?_
    obtain ⟨g3, h⟩ := gd_s h
    refine run_iald' is_276 ln_276 g3 rfl dX12_hasBook_26 ?_
    refine run_puti fp_X12_323 is_269 (by decide) rfl dX12_hasBook_27 ?_
    refine run_iconst (v := 1) dX12_hasBook_30 rfl ?_
    exact run_bret (b := true) dX12_hasBook_31 ⟨_, rfl, Option.some.inj h⟩
  · rw [if_neg c2] at h
    refine run_iconst (v := 0) dX12_hasBook_14 rfl ?_
    exact run_bret (b := false) dX12_hasBook_15 ⟨_, rfl, Option.some.inj h⟩
def HX12_isTask : Nat := 2
theorem HX12_isTask_X12_in_lt (d : Nat) : d + HX12_in < d + HX12_isTask := Nat.add_lt_add_left (by decide) d
theorem HX12_isTask_0 (d : Nat) : 0 < d + HX12_isTask := Nat.lt_of_lt_of_le (by decide) (Nat.le_add_left _ d)
def fX12_isTask (x1 : Int32) (σ : Mem) : Option (Bool × Mem) := (fX12_in x1 0 ((σ 269 27) - 1) σ).bind fun q1 => some (q1.1, q1.2)
set_option maxRecDepth 20000 in
theorem sX12_isTask (G : GT) (d : Nat) {x1 : Int32}  {σ : Mem} {o : (Bool × Mem)} (h : fX12_isTask x1 σ = some o) : Spec G yX12_isTask cX12_isTask 2 (some .boolean) (d + HX12_isTask) [.ref (gA G 269), .int x1] σ (kB fun x z => (x, z) = o) := by
  refine spec_run (by decide) (Nat.le_of_ble_eq_true rfl) ?_
  unfold fX12_isTask at h
  show Run G RX12 cX12_isTask 2 (some .boolean) _ 0 [(0, .ref (gA G 269)), (1, .int x1)] [] σ
  refine run_iload_n 1 dX12_isTask_0 rfl rfl ?_
  refine run_iconst (v := 0) dX12_isTask_1 rfl ?_
  refine run_aload_n 0 dX12_isTask_2 rfl rfl ?_
  refine run_geti fl_X12_323 is_269 (by decide) rfl dX12_isTask_3 ?_
  refine run_iconst (v := 1) dX12_isTask_6 rfl ?_
  refine run_isub dX12_isTask_7 ?_
  obtain ⟨q1, h2, h⟩ := Option.bind_eq_some_iff.mp h
  refine run_callSb (As := [.int x1, .int 0, .int ((σ 269 27) - 1)]) (fun r z => (r, z) = q1) mw_X12_in ms_X12_in ml_X12_156 rfl (RF.lt (HX12_isTask_X12_in_lt d)) (Nat.le_of_ble_eq_true rfl) dX12_isTask_8 (sX12_in G d  h2) (fun r z h8 => ?_) rfl
  rw [show r = q1.1 from congrArg Prod.fst h8, show z = q1.2 from congrArg Prod.snd h8]
  clear h8
  exact run_bret (b := q1.1) dX12_isTask_11 ⟨_, rfl, Option.some.inj h⟩
def HX12_isWorker : Nat := 2
theorem HX12_isWorker_X12_in_lt (d : Nat) : d + HX12_in < d + HX12_isWorker := Nat.add_lt_add_left (by decide) d
theorem HX12_isWorker_0 (d : Nat) : 0 < d + HX12_isWorker := Nat.lt_of_lt_of_le (by decide) (Nat.le_add_left _ d)
def fX12_isWorker (x1 : Int32) (σ : Mem) : Option (Bool × Mem) := (fX12_in x1 0 ((σ 269 26) - 1) σ).bind fun q1 => some (q1.1, q1.2)
set_option maxRecDepth 20000 in
theorem sX12_isWorker (G : GT) (d : Nat) {x1 : Int32}  {σ : Mem} {o : (Bool × Mem)} (h : fX12_isWorker x1 σ = some o) : Spec G yX12_isWorker cX12_isWorker 2 (some .boolean) (d + HX12_isWorker) [.ref (gA G 269), .int x1] σ (kB fun x z => (x, z) = o) := by
  refine spec_run (by decide) (Nat.le_of_ble_eq_true rfl) ?_
  unfold fX12_isWorker at h
  show Run G RX12 cX12_isWorker 2 (some .boolean) _ 0 [(0, .ref (gA G 269)), (1, .int x1)] [] σ
  refine run_iload_n 1 dX12_isWorker_0 rfl rfl ?_
  refine run_iconst (v := 0) dX12_isWorker_1 rfl ?_
  refine run_aload_n 0 dX12_isWorker_2 rfl rfl ?_
  refine run_geti fl_X12_326 is_269 (by decide) rfl dX12_isWorker_3 ?_
  refine run_iconst (v := 1) dX12_isWorker_6 rfl ?_
  refine run_isub dX12_isWorker_7 ?_
  obtain ⟨q1, h2, h⟩ := Option.bind_eq_some_iff.mp h
  refine run_callSb (As := [.int x1, .int 0, .int ((σ 269 26) - 1)]) (fun r z => (r, z) = q1) mw_X12_in ms_X12_in ml_X12_156 rfl (RF.lt (HX12_isWorker_X12_in_lt d)) (Nat.le_of_ble_eq_true rfl) dX12_isWorker_8 (sX12_in G d  h2) (fun r z h8 => ?_) rfl
  rw [show r = q1.1 from congrArg Prod.fst h8, show z = q1.2 from congrArg Prod.snd h8]
  clear h8
  exact run_bret (b := q1.1) dX12_isWorker_11 ⟨_, rfl, Option.some.inj h⟩
def HX12_nodeOf : Nat := 1
theorem HX12_nodeOf_0 (d : Nat) : 0 < d + HX12_nodeOf := Nat.lt_of_lt_of_le (by decide) (Nat.le_add_left _ d)
def fX12_nodeOf (x1 : Int32) (σ : Mem) : Option (Int32 × Mem) := gd (decide (¬ (σ 269 25) = 0)) (some ((x1 / (σ 269 25)), σ))
set_option maxRecDepth 20000 in
theorem sX12_nodeOf (G : GT) (d : Nat) {x1 : Int32}  {σ : Mem} {o : (Int32 × Mem)} (h : fX12_nodeOf x1 σ = some o) : Spec G yX12_nodeOf cX12_nodeOf 2 (some .int) (d + HX12_nodeOf) [.ref (gA G 269), .int x1] σ (kI fun x z => (x, z) = o) := by
  refine spec_run (by decide) (Nat.le_of_ble_eq_true rfl) ?_
  unfold fX12_nodeOf at h
  show Run G RX12 cX12_nodeOf 2 (some .int) _ 0 [(0, .ref (gA G 269)), (1, .int x1)] [] σ
  refine run_iload_n 1 dX12_nodeOf_0 rfl rfl ?_
  refine run_aload_n 0 dX12_nodeOf_1 rfl rfl ?_
  refine run_geti fl_X12_329 is_269 (by decide) rfl dX12_nodeOf_2 ?_
  obtain ⟨g1, h⟩ := gd_s h
  refine run_idiv dX12_nodeOf_5 (of_decide_eq_true g1) ?_
  exact run_iret dX12_nodeOf_6 ⟨_, rfl, Option.some.inj h⟩
def HX12_keysAsTold : Nat := 2
theorem HX12_keysAsTold_X12_ofStore_lt (d : Nat) : d + HX12_ofStore < d + HX12_keysAsTold := Nat.add_lt_add_left (by decide) d
theorem HX12_keysAsTold_0 (d : Nat) : 0 < d + HX12_keysAsTold := Nat.lt_of_lt_of_le (by decide) (Nat.le_add_left _ d)
def lX12_keysAsTold_11  : Nat → Int32 → Mem → Option (Mem)
  | 0, _, _ => none
  | n + 1, x1, σ => if 10 ≤ x1 then (some σ) else ((fX12_ofStore ((3 : Int32) + x1) σ).bind fun q8 => gd (inb x1 10) (gd (inb x1 10) (gd (inb x1 10) (lX12_keysAsTold_11 n (x1 + 1) (st2 (st2 (st2 q8.2 281 (Int32.toNatClampNeg x1) q8.1) 282 (Int32.toNatClampNeg x1) 0) 283 (Int32.toNatClampNeg x1) 0)))))
set_option maxRecDepth 20000 in
theorem lpX12_keysAsTold_11 (G : GT) (d : Nat)   {K : Option Value → Mem → Prop} : ∀ (n : Nat) (x1 : Int32) (σ : Mem) (o : Mem), lX12_keysAsTold_11 n x1 σ = some o → (Run G RX12 cX12_keysAsTold 2 none (mF G (d + HX12_keysAsTold) K) 50 [] [] o) → Run G RX12 cX12_keysAsTold 2 none (mF G (d + HX12_keysAsTold) K) 11 [(0, .ref (gA G 269)), (1, .int x1)] [] σ := by
  intro n
  induction n with
  | zero => intro x1 σ o h; exact absurd h (by simp [lX12_keysAsTold_11])
  | succ n ih =>
    intro x1 σ o h kx
    rw [lX12_keysAsTold_11] at h
    refine run_iload_n 1 dX12_keysAsTold_11 rfl rfl ?_
    refine run_bipush (v := 10) dX12_keysAsTold_12 rfl ?_
    refine run_icmp_ge 50 dX12_keysAsTold_14 (by decide) (fun c7 => ?_) (fun c7 => ?_)
    · rw [if_pos c7] at h
      rw [← Option.some.inj h] at kx
      refine run_forget [] rfl ?_
      exact kx
    · rw [if_neg c7] at h
      refine run_aload_n 0 dX12_keysAsTold_17 rfl rfl ?_
      refine run_getr fl_X12_44 is_269 (by decide) rfl ce_269_31 dX12_keysAsTold_18 ?_
      refine run_iload_n 1 dX12_keysAsTold_21 rfl rfl ?_
      refine run_aload_n 0 dX12_keysAsTold_22 rfl rfl ?_
      refine run_iconst (v := 3) dX12_keysAsTold_23 rfl ?_
      refine run_iload_n 1 dX12_keysAsTold_24 rfl rfl ?_
      refine run_iadd dX12_keysAsTold_25 ?_
      obtain ⟨q8, h12, h⟩ := Option.bind_eq_some_iff.mp h
      refine run_callVi (As := [.int ((3 : Int32) + x1)]) (fun r z => (r, z) = q8) mw_X12_ofStore mi_X12_ofStore ml_X12_332 is_269 (by decide) rfl rfl rfl (RF.lt (HX12_keysAsTold_X12_ofStore_lt d)) (Nat.le_of_ble_eq_true rfl) dX12_keysAsTold_26 (sX12_ofStore G d  h12) (fun r z h8 => ?_) rfl
      rw [show r = q8.1 from congrArg Prod.fst h8, show z = q8.2 from congrArg Prod.snd h8]
      clear h8
      obtain ⟨g9, h⟩ := gd_s h
      refine run_iast' is_281 ln_281 g9 rfl dX12_keysAsTold_29 ?_
      refine run_aload_n 0 dX12_keysAsTold_30 rfl rfl ?_
      refine run_getr fl_X12_47 is_269 (by decide) rfl ce_269_32 dX12_keysAsTold_31 ?_
      refine run_iload_n 1 dX12_keysAsTold_34 rfl rfl ?_
      refine run_iconst (v := 0) dX12_keysAsTold_35 rfl ?_
      obtain ⟨g10, h⟩ := gd_s h
      refine run_iast' is_282 ln_282 g10 rfl dX12_keysAsTold_36 ?_
      refine run_aload_n 0 dX12_keysAsTold_37 rfl rfl ?_
      refine run_getr fl_X12_50 is_269 (by decide) rfl ce_269_33 dX12_keysAsTold_38 ?_
      refine run_iload_n 1 dX12_keysAsTold_41 rfl rfl ?_
      refine run_iconst (v := 0) dX12_keysAsTold_42 rfl ?_
      obtain ⟨g11, h⟩ := gd_s h
      refine run_iast' is_283 ln_283 g11 rfl dX12_keysAsTold_43 ?_
      refine run_iinc 1 [(0, .ref (gA G 269)), (1, .int (x1 + 1))] [1, 0] dX12_keysAsTold_44 rfl rfl (by decide) rfl ?_
      refine run_goto 11 dX12_keysAsTold_47 (by decide) ?_
      exact ih _ _ _ h kx
def fX12_keysAsTold  (σ : Mem) : Option Mem := (fX12_ofStore 2 σ).bind fun q1 => (lX12_keysAsTold_11 FU 0 (st2 q1.2 269 30 q1.1)).bind fun q13 => some q13
set_option maxRecDepth 20000 in
theorem sX12_keysAsTold (G : GT) (d : Nat)   {σ : Mem} {o : Mem} (h : fX12_keysAsTold σ = some o) : Spec G yX12_keysAsTold cX12_keysAsTold 2 none (d + HX12_keysAsTold) [.ref (gA G 269)] σ (kV fun z => z = o) := by
  refine spec_run (by decide) (Nat.le_of_ble_eq_true rfl) ?_
  unfold fX12_keysAsTold at h
  show Run G RX12 cX12_keysAsTold 2 none _ 0 [(0, .ref (gA G 269))] [] σ
  refine run_aload_n 0 dX12_keysAsTold_0 rfl rfl ?_
  refine run_aload_n 0 dX12_keysAsTold_1 rfl rfl ?_
  refine run_iconst (v := 2) dX12_keysAsTold_2 rfl ?_
  obtain ⟨q1, h15, h⟩ := Option.bind_eq_some_iff.mp h
  refine run_callVi (As := [.int 2]) (fun r z => (r, z) = q1) mw_X12_ofStore mi_X12_ofStore ml_X12_332 is_269 (by decide) rfl rfl rfl (RF.lt (HX12_keysAsTold_X12_ofStore_lt d)) (Nat.le_of_ble_eq_true rfl) dX12_keysAsTold_3 (sX12_ofStore G d  h15) (fun r z h8 => ?_) rfl
  rw [show r = q1.1 from congrArg Prod.fst h8, show z = q1.2 from congrArg Prod.snd h8]
  clear h8
  refine run_puti fp_X12_336 is_269 (by decide) rfl dX12_keysAsTold_6 ?_
  refine run_iconst (v := 0) dX12_keysAsTold_9 rfl ?_
  refine run_istore_n [(0, .ref (gA G 269)), (1, .int 0)] [1, 0] dX12_keysAsTold_10 rfl (by decide) rfl ?_
  obtain ⟨q13, h14, h⟩ := Option.bind_eq_some_iff.mp h
  refine lpX12_keysAsTold_11 G d _ _ _ _ h14 ?_
  exact run_vret dX12_keysAsTold_50 ⟨rfl, Option.some.inj h⟩
def HX12_idle : Nat := 1
theorem HX12_idle_0 (d : Nat) : 0 < d + HX12_idle := Nat.lt_of_lt_of_le (by decide) (Nat.le_add_left _ d)
def fX12_idle (x1 : Int32) (σ : Mem) : Option Mem := gd (inb x1 4) (gd (inb x1 4) (gd (inb x1 4) (some (st2 (st2 (st2 σ 286 (Int32.toNatClampNeg x1) (-1)) 287 (Int32.toNatClampNeg x1) 0) 288 (Int32.toNatClampNeg x1) 0))))
set_option maxRecDepth 20000 in
theorem sX12_idle (G : GT) (d : Nat) {x1 : Int32}  {σ : Mem} {o : Mem} (h : fX12_idle x1 σ = some o) : Spec G yX12_idle cX12_idle 2 none (d + HX12_idle) [.ref (gA G 269), .int x1] σ (kV fun z => z = o) := by
  refine spec_run (by decide) (Nat.le_of_ble_eq_true rfl) ?_
  unfold fX12_idle at h
  show Run G RX12 cX12_idle 2 none _ 0 [(0, .ref (gA G 269)), (1, .int x1)] [] σ
  refine run_aload_n 0 dX12_idle_0 rfl rfl ?_
  refine run_getr fl_X12_59 is_269 (by decide) rfl ce_269_36 dX12_idle_1 ?_
  refine run_iload_n 1 dX12_idle_4 rfl rfl ?_
  refine run_iconst (v := -1) dX12_idle_5 rfl ?_
  obtain ⟨g1, h⟩ := gd_s h
  refine run_iast' is_286 ln_286 g1 rfl dX12_idle_6 ?_
  refine run_aload_n 0 dX12_idle_7 rfl rfl ?_
  refine run_getr fl_X12_62 is_269 (by decide) rfl ce_269_37 dX12_idle_8 ?_
  refine run_iload_n 1 dX12_idle_11 rfl rfl ?_
  refine run_iconst (v := 0) dX12_idle_12 rfl ?_
  obtain ⟨g2, h⟩ := gd_s h
  refine run_iast' is_287 ln_287 g2 rfl dX12_idle_13 ?_
  refine run_aload_n 0 dX12_idle_14 rfl rfl ?_
  refine run_getr fl_X12_65 is_269 (by decide) rfl ce_269_38 dX12_idle_15 ?_
  refine run_iload_n 1 dX12_idle_18 rfl rfl ?_
  refine run_iconst (v := 0) dX12_idle_19 rfl ?_
  obtain ⟨g3, h⟩ := gd_s h
  refine run_iast' is_288 ln_288 g3 rfl dX12_idle_20 ?_
  exact run_vret dX12_idle_21 ⟨rfl, Option.some.inj h⟩
def HX12_beginPlan : Nat := 3
theorem HX12_beginPlan_X12_idle_lt (d : Nat) : d + HX12_idle < d + HX12_beginPlan := Nat.add_lt_add_left (by decide) d
theorem HX12_beginPlan_X12_keysAsTold_lt (d : Nat) : d + HX12_keysAsTold < d + HX12_beginPlan := Nat.add_lt_add_left (by decide) d
theorem HX12_beginPlan_0 (d : Nat) : 0 < d + HX12_beginPlan := Nat.lt_of_lt_of_le (by decide) (Nat.le_add_left _ d)
def lX12_beginPlan_41  : Nat → Int32 → Mem → Option (Mem)
  | 0, _, _ => none
  | n + 1, x1, σ => if 10 ≤ x1 then (some σ) else (gd (inb x1 10) (gd (inb x1 10) (gd (inb x1 10) (lX12_beginPlan_41 n (x1 + 1) (st2 (st2 (st2 σ 284 (Int32.toNatClampNeg x1) (-1)) 285 (Int32.toNatClampNeg x1) (-1)) 305 (Int32.toNatClampNeg x1) 0)))))
set_option maxRecDepth 20000 in
theorem lpX12_beginPlan_41 (G : GT) (d : Nat)   {K : Option Value → Mem → Prop} : ∀ (n : Nat) (x1 : Int32) (σ : Mem) (o : Mem), lX12_beginPlan_41 n x1 σ = some o → (Run G RX12 cX12_beginPlan 2 none (mF G (d + HX12_beginPlan) K) 74 [(0, .ref (gA G 269))] [] o) → Run G RX12 cX12_beginPlan 2 none (mF G (d + HX12_beginPlan) K) 41 [(0, .ref (gA G 269)), (1, .int x1)] [] σ := by
  intro n
  induction n with
  | zero => intro x1 σ o h; exact absurd h (by simp [lX12_beginPlan_41])
  | succ n ih =>
    intro x1 σ o h kx
    rw [lX12_beginPlan_41] at h
    refine run_iload_n 1 dX12_beginPlan_41 rfl rfl ?_
    refine run_bipush (v := 10) dX12_beginPlan_42 rfl ?_
    refine run_icmp_ge 74 dX12_beginPlan_44 (by decide) (fun c6 => ?_) (fun c6 => ?_)
    · rw [if_pos c6] at h
      rw [← Option.some.inj h] at kx
      refine run_forget [0] rfl ?_
      exact kx
    · rw [if_neg c6] at h
      refine run_aload_n 0 dX12_beginPlan_47 rfl rfl ?_
      refine run_getr fl_X12_53 is_269 (by decide) rfl ce_269_34 dX12_beginPlan_48 ?_
      refine run_iload_n 1 dX12_beginPlan_51 rfl rfl ?_
      refine run_iconst (v := -1) dX12_beginPlan_52 rfl ?_
      obtain ⟨g7, h⟩ := gd_s h
      refine run_iast' is_284 ln_284 g7 rfl dX12_beginPlan_53 ?_
      refine run_aload_n 0 dX12_beginPlan_54 rfl rfl ?_
      refine run_getr fl_X12_56 is_269 (by decide) rfl ce_269_35 dX12_beginPlan_55 ?_
      refine run_iload_n 1 dX12_beginPlan_58 rfl rfl ?_
      refine run_iconst (v := -1) dX12_beginPlan_59 rfl ?_
      obtain ⟨g8, h⟩ := gd_s h
      refine run_iast' is_285 ln_285 g8 rfl dX12_beginPlan_60 ?_
      refine run_aload_n 0 dX12_beginPlan_61 rfl rfl ?_
      refine run_getr fl_X12_116 is_269 (by decide) rfl ce_269_61 dX12_beginPlan_62 ?_
      refine run_iload_n 1 dX12_beginPlan_65 rfl rfl ?_
      refine run_iconst (v := 0) dX12_beginPlan_66 rfl ?_
      obtain ⟨g9, h⟩ := gd_s h
      refine run_iast' is_305 ln_305 g9 rfl dX12_beginPlan_67 ?_
      refine run_iinc 1 [(0, .ref (gA G 269)), (1, .int (x1 + 1))] [1, 0] dX12_beginPlan_68 rfl rfl (by decide) rfl ?_
      refine run_goto 41 dX12_beginPlan_71 (by decide) ?_
      exact ih _ _ _ h kx
def lX12_beginPlan_76  : Nat → Int32 → Mem → Option (Mem)
  | 0, _, _ => none
  | n + 1, x1, σ => if 7 ≤ x1 then (some σ) else (gd (inb x1 7) (lX12_beginPlan_76 n (x1 + 1) (st2 σ 304 (Int32.toNatClampNeg x1) 0)))
set_option maxRecDepth 20000 in
theorem lpX12_beginPlan_76 (G : GT) (d : Nat)   {K : Option Value → Mem → Prop} : ∀ (n : Nat) (x1 : Int32) (σ : Mem) (o : Mem), lX12_beginPlan_76 n x1 σ = some o → (Run G RX12 cX12_beginPlan 2 none (mF G (d + HX12_beginPlan) K) 95 [(0, .ref (gA G 269))] [] o) → Run G RX12 cX12_beginPlan 2 none (mF G (d + HX12_beginPlan) K) 76 [(0, .ref (gA G 269)), (1, .int x1)] [] σ := by
  intro n
  induction n with
  | zero => intro x1 σ o h; exact absurd h (by simp [lX12_beginPlan_76])
  | succ n ih =>
    intro x1 σ o h kx
    rw [lX12_beginPlan_76] at h
    refine run_iload_n 1 dX12_beginPlan_76 rfl rfl ?_
    refine run_bipush (v := 7) dX12_beginPlan_77 rfl ?_
    refine run_icmp_ge 95 dX12_beginPlan_79 (by decide) (fun c13 => ?_) (fun c13 => ?_)
    · rw [if_pos c13] at h
      rw [← Option.some.inj h] at kx
      refine run_forget [0] rfl ?_
      exact kx
    · rw [if_neg c13] at h
      refine run_aload_n 0 dX12_beginPlan_82 rfl rfl ?_
      refine run_getr fl_X12_113 is_269 (by decide) rfl ce_269_60 dX12_beginPlan_83 ?_
      refine run_iload_n 1 dX12_beginPlan_86 rfl rfl ?_
      refine run_iconst (v := 0) dX12_beginPlan_87 rfl ?_
      obtain ⟨g14, h⟩ := gd_s h
      refine run_iast' is_304 ln_304 g14 rfl dX12_beginPlan_88 ?_
      refine run_iinc 1 [(0, .ref (gA G 269)), (1, .int (x1 + 1))] [1, 0] dX12_beginPlan_89 rfl rfl (by decide) rfl ?_
      refine run_goto 76 dX12_beginPlan_92 (by decide) ?_
      exact ih _ _ _ h kx
def lX12_beginPlan_97  : Nat → Int32 → Mem → Option (Mem)
  | 0, _, _ => none
  | n + 1, x1, σ => if 4 ≤ x1 then (some σ) else ((fX12_idle x1 σ).bind fun q21 => gd (inb x1 4) (gd (inb x1 4) (lX12_beginPlan_97 n (x1 + 1) (st2 (st2 q21 290 (Int32.toNatClampNeg x1) 0) 291 (Int32.toNatClampNeg x1) 0))))
set_option maxRecDepth 20000 in
theorem lpX12_beginPlan_97 (G : GT) (d : Nat)   {K : Option Value → Mem → Prop} : ∀ (n : Nat) (x1 : Int32) (σ : Mem) (o : Mem), lX12_beginPlan_97 n x1 σ = some o → (Run G RX12 cX12_beginPlan 2 none (mF G (d + HX12_beginPlan) K) 127 [] [] o) → Run G RX12 cX12_beginPlan 2 none (mF G (d + HX12_beginPlan) K) 97 [(0, .ref (gA G 269)), (1, .int x1)] [] σ := by
  intro n
  induction n with
  | zero => intro x1 σ o h; exact absurd h (by simp [lX12_beginPlan_97])
  | succ n ih =>
    intro x1 σ o h kx
    rw [lX12_beginPlan_97] at h
    refine run_iload_n 1 dX12_beginPlan_97 rfl rfl ?_
    refine run_iconst (v := 4) dX12_beginPlan_98 rfl ?_
    refine run_icmp_ge 127 dX12_beginPlan_99 (by decide) (fun c20 => ?_) (fun c20 => ?_)
    · rw [if_pos c20] at h
      rw [← Option.some.inj h] at kx
      refine run_forget [] rfl ?_
      exact kx
    · rw [if_neg c20] at h
      refine run_aload_n 0 dX12_beginPlan_102 rfl rfl ?_
      refine run_iload_n 1 dX12_beginPlan_103 rfl rfl ?_
      obtain ⟨q21, h24, h⟩ := Option.bind_eq_some_iff.mp h
      refine run_callVv (As := [.int x1]) (fun z => z = q21) mw_X12_idle mi_X12_idle ml_X12_363 is_269 (by decide) rfl rfl rfl (RF.lt (HX12_beginPlan_X12_idle_lt d)) (Nat.le_of_ble_eq_true rfl) dX12_beginPlan_104 (sX12_idle G d  h24) (fun z h8 => ?_) rfl
      rw [h8]
      clear h8
      refine run_aload_n 0 dX12_beginPlan_107 rfl rfl ?_
      refine run_getr fl_X12_71 is_269 (by decide) rfl ce_269_40 dX12_beginPlan_108 ?_
      refine run_iload_n 1 dX12_beginPlan_111 rfl rfl ?_
      refine run_iconst (v := 0) dX12_beginPlan_112 rfl ?_
      obtain ⟨g22, h⟩ := gd_s h
      refine run_iast' is_290 ln_290 g22 rfl dX12_beginPlan_113 ?_
      refine run_aload_n 0 dX12_beginPlan_114 rfl rfl ?_
      refine run_getr fl_X12_74 is_269 (by decide) rfl ce_269_41 dX12_beginPlan_115 ?_
      refine run_iload_n 1 dX12_beginPlan_118 rfl rfl ?_
      refine run_iconst (v := 0) dX12_beginPlan_119 rfl ?_
      obtain ⟨g23, h⟩ := gd_s h
      refine run_iast' is_291 ln_291 g23 rfl dX12_beginPlan_120 ?_
      refine run_iinc 1 [(0, .ref (gA G 269)), (1, .int (x1 + 1))] [1, 0] dX12_beginPlan_121 rfl rfl (by decide) rfl ?_
      refine run_goto 97 dX12_beginPlan_124 (by decide) ?_
      exact ih _ _ _ h kx
def fX12_beginPlan  (σ : Mem) : Option Mem := (fX12_keysAsTold σ).bind fun q1 => (lX12_beginPlan_41 FU 0 (st2 (st2 (st2 (st2 (st2 (st2 (st2 q1 269 29 1) 269 54 0) 269 55 0) 269 56 0) 269 57 0) 269 58 0) 269 59 0)).bind fun q10 => (lX12_beginPlan_76 FU 0 q10).bind fun q15 => (lX12_beginPlan_97 FU 0 q15).bind fun q25 => some q25
set_option maxRecDepth 20000 in
theorem sX12_beginPlan (G : GT) (d : Nat)   {σ : Mem} {o : Mem} (h : fX12_beginPlan σ = some o) : Spec G yX12_beginPlan cX12_beginPlan 2 none (d + HX12_beginPlan) [.ref (gA G 269)] σ (kV fun z => z = o) := by
  refine spec_run (by decide) (Nat.le_of_ble_eq_true rfl) ?_
  unfold fX12_beginPlan at h
  show Run G RX12 cX12_beginPlan 2 none _ 0 [(0, .ref (gA G 269))] [] σ
  refine run_aload_n 0 dX12_beginPlan_0 rfl rfl ?_
  obtain ⟨q1, h29, h⟩ := Option.bind_eq_some_iff.mp h
  refine run_callVv (As := []) (fun z => z = q1) mw_X12_keysAsTold mi_X12_keysAsTold ml_X12_339 is_269 (by decide) rfl rfl rfl (RF.lt (HX12_beginPlan_X12_keysAsTold_lt d)) (Nat.le_of_ble_eq_true rfl) dX12_beginPlan_1 (sX12_keysAsTold G d  h29) (fun z h8 => ?_) rfl
  rw [h8]
  clear h8
  refine run_aload_n 0 dX12_beginPlan_4 rfl rfl ?_
  refine run_iconst (v := 1) dX12_beginPlan_5 rfl ?_
  refine run_puti fp_X12_342 is_269 (by decide) rfl dX12_beginPlan_6 ?_
  refine run_aload_n 0 dX12_beginPlan_9 rfl rfl ?_
  refine run_iconst (v := 0) dX12_beginPlan_10 rfl ?_
  refine run_puti fp_X12_345 is_269 (by decide) rfl dX12_beginPlan_11 ?_
  refine run_aload_n 0 dX12_beginPlan_14 rfl rfl ?_
  refine run_iconst (v := 0) dX12_beginPlan_15 rfl ?_
  refine run_puti fp_X12_348 is_269 (by decide) rfl dX12_beginPlan_16 ?_
  refine run_aload_n 0 dX12_beginPlan_19 rfl rfl ?_
  refine run_iconst (v := 0) dX12_beginPlan_20 rfl ?_
  refine run_puti fp_X12_351 is_269 (by decide) rfl dX12_beginPlan_21 ?_
  refine run_aload_n 0 dX12_beginPlan_24 rfl rfl ?_
  refine run_iconst (v := 0) dX12_beginPlan_25 rfl ?_
  refine run_puti fp_X12_354 is_269 (by decide) rfl dX12_beginPlan_26 ?_
  refine run_aload_n 0 dX12_beginPlan_29 rfl rfl ?_
  refine run_iconst (v := 0) dX12_beginPlan_30 rfl ?_
  refine run_puti fp_X12_357 is_269 (by decide) rfl dX12_beginPlan_31 ?_
  refine run_aload_n 0 dX12_beginPlan_34 rfl rfl ?_
  refine run_iconst (v := 0) dX12_beginPlan_35 rfl ?_
  refine run_puti fp_X12_360 is_269 (by decide) rfl dX12_beginPlan_36 ?_
  refine run_iconst (v := 0) dX12_beginPlan_39 rfl ?_
  refine run_istore_n [(0, .ref (gA G 269)), (1, .int 0)] [1, 0] dX12_beginPlan_40 rfl (by decide) rfl ?_
  obtain ⟨q10, h28, h⟩ := Option.bind_eq_some_iff.mp h
  refine lpX12_beginPlan_41 G d _ _ _ _ h28 ?_
  refine run_iconst (v := 0) dX12_beginPlan_74 rfl ?_
  refine run_istore_n [(0, .ref (gA G 269)), (1, .int 0)] [1, 0] dX12_beginPlan_75 rfl (by decide) rfl ?_
  obtain ⟨q15, h27, h⟩ := Option.bind_eq_some_iff.mp h
  refine lpX12_beginPlan_76 G d _ _ _ _ h27 ?_
  refine run_iconst (v := 0) dX12_beginPlan_95 rfl ?_
  refine run_istore_n [(0, .ref (gA G 269)), (1, .int 0)] [1, 0] dX12_beginPlan_96 rfl (by decide) rfl ?_
  obtain ⟨q25, h26, h⟩ := Option.bind_eq_some_iff.mp h
  refine lpX12_beginPlan_97 G d _ _ _ _ h26 ?_
  exact run_vret dX12_beginPlan_127 ⟨rfl, Option.some.inj h⟩
def HX12_hand : Nat := 4
theorem HX12_hand_X12_beginPlan_lt (d : Nat) : d + HX12_beginPlan < d + HX12_hand := Nat.add_lt_add_left (by decide) d
theorem HX12_hand_X12_hasBook_lt (d : Nat) : d + HX12_hasBook < d + HX12_hand := Nat.add_lt_add_left (by decide) d
theorem HX12_hand_X12_is_lt (d : Nat) : d + HX12_is < d + HX12_hand := Nat.add_lt_add_left (by decide) d
theorem HX12_hand_X12_nodeOf_lt (d : Nat) : d + HX12_nodeOf < d + HX12_hand := Nat.add_lt_add_left (by decide) d
theorem HX12_hand_X12_ofStore_lt (d : Nat) : d + HX12_ofStore < d + HX12_hand := Nat.add_lt_add_left (by decide) d
theorem HX12_hand_0 (d : Nat) : 0 < d + HX12_hand := Nat.lt_of_lt_of_le (by decide) (Nat.le_add_left _ d)
def fX12_hand (x1 : Int32) (x2 : Int32) (σ : Mem) : Option (Bool × Mem) := (fX12_is 0 x1 (st2 σ 269 23 x1)).bind fun q1 => if q1.1 = true then ((fX12_hasBook x2 q1.2).bind fun q3 => if q3.1 = true then ((fX12_ofStore 0 q3.2).bind fun q5 => (fX12_ofStore 1 (st2 q5.2 269 25 q5.1)).bind fun q6 => (fX12_nodeOf 9 (st2 q6.2 269 26 q6.1)).bind fun q7 => (fX12_beginPlan (st2 q7.2 269 28 (q7.1 + 1))).bind fun q8 => some (true, q8)) else (some (false, q3.2))) else (some (false, q1.2))
set_option maxRecDepth 20000 in
theorem sX12_hand (G : GT) (d : Nat) {x1 : Int32} {x2 : Int32}  {σ : Mem} {o : (Bool × Mem)} (h : fX12_hand x1 x2 σ = some o) : Spec G yX12_hand cX12_hand 3 (some .boolean) (d + HX12_hand) [.ref (gA G 269), .int x1, .int x2] σ (kB fun x z => (x, z) = o) := by
  refine spec_run (by decide) (Nat.le_of_ble_eq_true rfl) ?_
  unfold fX12_hand at h
  show Run G RX12 cX12_hand 3 (some .boolean) _ 0 [(0, .ref (gA G 269)), (1, .int x1), (2, .int x2)] [] σ
  refine run_aload_n 0 dX12_hand_0 rfl rfl ?_
  refine run_iload_n 1 dX12_hand_1 rfl rfl ?_
  refine run_puti fp_X12_314 is_269 (by decide) rfl dX12_hand_2 ?_
  refine run_aload_n 0 dX12_hand_5 rfl rfl ?_
  refine run_iconst (v := 0) dX12_hand_6 rfl ?_
  refine run_iload_n 1 dX12_hand_7 rfl rfl ?_
  obtain ⟨q1, h14, h⟩ := Option.bind_eq_some_iff.mp h
  refine run_callVb (As := [.int 0, .int x1]) (fun r z => (r, z) = q1) mw_X12_is mi_X12_is ml_X12_305 is_269 (by decide) rfl rfl rfl (RF.lt (HX12_hand_X12_is_lt d)) (Nat.le_of_ble_eq_true rfl) dX12_hand_8 (sX12_is G d  h14) (fun r z h8 => ?_) rfl
  rw [show r = q1.1 from congrArg Prod.fst h8, show z = q1.2 from congrArg Prod.snd h8]
  clear h8
  refine run_ifb_eq 22 dX12_hand_11 (by decide) (fun c2 => ?_) (fun c2 => ?_)
  · rw [if_neg c2] at h
    refine run_iconst (v := 0) dX12_hand_22 rfl ?_
    exact run_bret (b := false) dX12_hand_23 ⟨_, rfl, Option.some.inj h⟩
  · rw [if_pos c2] at h
    refine run_aload_n 0 dX12_hand_14 rfl rfl ?_
    refine run_iload_n 2 dX12_hand_15 rfl rfl ?_
    obtain ⟨q3, h13, h⟩ := Option.bind_eq_some_iff.mp h
    refine run_callVb (As := [.int x2]) (fun r z => (r, z) = q3) mw_X12_hasBook mi_X12_hasBook ml_X12_366 is_269 (by decide) rfl rfl rfl (RF.lt (HX12_hand_X12_hasBook_lt d)) (Nat.le_of_ble_eq_true rfl) dX12_hand_16 (sX12_hasBook G d  h13) (fun r z h8 => ?_) rfl
    rw [show r = q3.1 from congrArg Prod.fst h8, show z = q3.2 from congrArg Prod.snd h8]
    clear h8
    refine run_ifb_ne 24 dX12_hand_19 (by decide) (fun c4 => ?_) (fun c4 => ?_)
    · rw [if_pos c4] at h
      refine run_aload_n 0 dX12_hand_24 rfl rfl ?_
      refine run_aload_n 0 dX12_hand_25 rfl rfl ?_
      refine run_iconst (v := 0) dX12_hand_26 rfl ?_
      obtain ⟨q5, h12, h⟩ := Option.bind_eq_some_iff.mp h
      refine run_callVi (As := [.int 0]) (fun r z => (r, z) = q5) mw_X12_ofStore mi_X12_ofStore ml_X12_332 is_269 (by decide) rfl rfl rfl (RF.lt (HX12_hand_X12_ofStore_lt d)) (Nat.le_of_ble_eq_true rfl) dX12_hand_27 (sX12_ofStore G d  h12) (fun r z h8 => ?_) rfl
      rw [show r = q5.1 from congrArg Prod.fst h8, show z = q5.2 from congrArg Prod.snd h8]
      clear h8
      refine run_puti fp_X12_329 is_269 (by decide) rfl dX12_hand_30 ?_
      refine run_aload_n 0 dX12_hand_33 rfl rfl ?_
      refine run_aload_n 0 dX12_hand_34 rfl rfl ?_
      refine run_iconst (v := 1) dX12_hand_35 rfl ?_
      obtain ⟨q6, h11, h⟩ := Option.bind_eq_some_iff.mp h
      refine run_callVi (As := [.int 1]) (fun r z => (r, z) = q6) mw_X12_ofStore mi_X12_ofStore ml_X12_332 is_269 (by decide) rfl rfl rfl (RF.lt (HX12_hand_X12_ofStore_lt d)) (Nat.le_of_ble_eq_true rfl) dX12_hand_36 (sX12_ofStore G d  h11) (fun r z h8 => ?_) rfl
      rw [show r = q6.1 from congrArg Prod.fst h8, show z = q6.2 from congrArg Prod.snd h8]
      clear h8
      refine run_puti fp_X12_326 is_269 (by decide) rfl dX12_hand_39 ?_
      refine run_aload_n 0 dX12_hand_42 rfl rfl ?_
      refine run_aload_n 0 dX12_hand_43 rfl rfl ?_
      refine run_bipush (v := 9) dX12_hand_44 rfl ?_
      obtain ⟨q7, h10, h⟩ := Option.bind_eq_some_iff.mp h
      refine run_callVi (As := [.int 9]) (fun r z => (r, z) = q7) mw_X12_nodeOf mi_X12_nodeOf ml_X12_369 is_269 (by decide) rfl rfl rfl (RF.lt (HX12_hand_X12_nodeOf_lt d)) (Nat.le_of_ble_eq_true rfl) dX12_hand_46 (sX12_nodeOf G d  h10) (fun r z h8 => ?_) rfl
      rw [show r = q7.1 from congrArg Prod.fst h8, show z = q7.2 from congrArg Prod.snd h8]
      clear h8
      refine run_iconst (v := 1) dX12_hand_49 rfl ?_
      refine run_iadd dX12_hand_50 ?_
      refine run_puti fp_X12_372 is_269 (by decide) rfl dX12_hand_51 ?_
      refine run_aload_n 0 dX12_hand_54 rfl rfl ?_
      obtain ⟨q8, h9, h⟩ := Option.bind_eq_some_iff.mp h
      refine run_callVv (As := []) (fun z => z = q8) mw_X12_beginPlan mi_X12_beginPlan ml_X12_375 is_269 (by decide) rfl rfl rfl (RF.lt (HX12_hand_X12_beginPlan_lt d)) (Nat.le_of_ble_eq_true rfl) dX12_hand_55 (sX12_beginPlan G d  h9) (fun z h8 => ?_) rfl
      rw [h8]
      clear h8
      refine run_iconst (v := 1) dX12_hand_58 rfl ?_
      exact run_bret (b := true) dX12_hand_59 ⟨_, rfl, Option.some.inj h⟩
    · rw [if_neg c4] at h
      refine run_iconst (v := 0) dX12_hand_22 rfl ?_
      exact run_bret (b := false) dX12_hand_23 ⟨_, rfl, Option.some.inj h⟩
