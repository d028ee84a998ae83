/-! methods, translated -/
def HX12_full : Nat := 2
theorem HX12_full_X12_addsFault_lt (d : Nat) : d + HX12_addsFault < d + HX12_full := Nat.add_lt_add_left (by decide) d
theorem HX12_full_0 (d : Nat) : 0 < d + HX12_full := Nat.lt_of_lt_of_le (by decide) (Nat.le_add_left _ d)
def fX12_full (x1 : Int32) (x2 : Int32) (x3 : Int32) (σ : Mem) : Option Mem := gd (inb x1 134) (if (σ 279 (Int32.toNatClampNeg x1)) < x2 then (some σ) else ((fX12_addsFault 3 x3 σ).bind fun q3 => some q3))
set_option maxRecDepth 20000 in
theorem sX12_full (G : GT) (d : Nat) {x1 : Int32} {x2 : Int32} {x3 : Int32}  {σ : Mem} {o : Mem} (h : fX12_full x1 x2 x3 σ = some o) : Spec G yX12_full cX12_full 4 none (d + HX12_full) [.ref (gA G 269), .int x1, .int x2, .int x3] σ (kV fun z => z = o) := by
  refine spec_run (by decide) (Nat.le_of_ble_eq_true rfl) ?_
  unfold fX12_full at h
  show Run G RX12 cX12_full 4 none _ 0 [(0, .ref (gA G 269)), (1, .int x1), (2, .int x2), (3, .int x3)] [] σ
  refine run_aload_n 0 dX12_full_0 rfl rfl ?_
  refine run_getr fl_X12_38 is_269 (by decide) rfl ce_269_19 dX12_full_1 ?_
  refine run_iload_n 1 dX12_full_4 rfl rfl ?_
  obtain ⟨g1, h⟩ := gd_s h
  refine run_iald' is_279 ln_279 g1 rfl dX12_full_5 ?_
  refine run_iload_n 2 dX12_full_6 rfl rfl ?_
  refine run_icmp_lt 16 dX12_full_7 (by decide) (fun c2 => ?_) (fun c2 => ?_)
  · rw [if_pos c2] at h
    exact run_vret dX12_full_16 ⟨rfl, Option.some.inj h⟩
  · rw [if_neg c2] at h
    refine run_aload_n 0 dX12_full_10 rfl rfl ?_
    refine run_iconst (v := 3) dX12_full_11 rfl ?_
    refine run_iload_n 3 dX12_full_12 rfl rfl ?_
    obtain ⟨q3, h4, h⟩ := Option.bind_eq_some_iff.mp h
    refine run_callVv (As := [.int 3, .int x3]) (fun z => z = q3) mw_X12_addsFault mi_X12_addsFault ml_X12_200 is_269 (by decide) rfl rfl rfl (RF.lt (HX12_full_X12_addsFault_lt d)) (Nat.le_of_ble_eq_true rfl) dX12_full_13 (sX12_addsFault G d  h4) (fun z h8 => ?_) rfl
    rw [h8]
    clear h8
    exact run_vret dX12_full_16 ⟨rfl, Option.some.inj h⟩
def HX12_storeLine : Nat := 4
theorem HX12_storeLine_X12_fails_lt (d : Nat) : d + HX12_fails < d + HX12_storeLine := Nat.add_lt_add_left (by decide) d
theorem HX12_storeLine_X12_take_lt (d : Nat) : d + HX12_take < d + HX12_storeLine := Nat.add_lt_add_left (by decide) d
theorem HX12_storeLine_X12_token_lt (d : Nat) : d + HX12_token < d + HX12_storeLine := Nat.add_lt_add_left (by decide) d
theorem HX12_storeLine_0 (d : Nat) : 0 < d + HX12_storeLine := Nat.lt_of_lt_of_le (by decide) (Nat.le_add_left _ d)
def jX12_storeLine_29 (x1 : Int64) (σ : Mem) : Option (Bool × Mem) := (fX12_token σ).bind fun q2 => if x1 = 7038329 then ((fX12_take 0 0 9 q2).bind fun q17 => if q17.1 = true then ((fX12_take 1 0 99 q17.2).bind fun q19 => if q19.1 = true then (if (q19.2 269 21) = 0 then (some (true, q19.2)) else (gd (inb ((3 : Int32) + ((st2 q19.2 279 2 ((q19.2 279 2) ||| ((1 : Int32) <<< ((q19.2 280 0) &&& 31)))) 280 0)) 134) ((some (st2 (st2 q19.2 279 2 ((q19.2 279 2) ||| ((1 : Int32) <<< ((q19.2 280 0) &&& 31)))) 279 (Int32.toNatClampNeg ((3 : Int32) + ((st2 q19.2 279 2 ((q19.2 279 2) ||| ((1 : Int32) <<< ((q19.2 280 0) &&& 31)))) 280 0))) ((st2 q19.2 279 2 ((q19.2 279 2) ||| ((1 : Int32) <<< ((q19.2 280 0) &&& 31)))) 280 1))).bind fun s23 => some (true, s23)))) else (some (false, q19.2))) else (some (false, q17.2))) else ((if x1 = 1936744814 then (some 5) else (some 4) : Option (Int32)).bind fun q5 => (fX12_take 0 1 q5 q2).bind fun q6 => if q6.1 = true then ((if x1 = 1936744814 then (some false) else (some true) : Option (Bool)).bind fun q9 => if (q6.2 269 21) = 0 then (gd (inb (b2 q9) 134) (gd (inb (b2 q9) 134) (some (true, (st2 q6.2 279 (Int32.toNatClampNeg (b2 q9)) (q6.2 279 (Int32.toNatClampNeg (b2 q9)))))))) else (gd (inb (b2 q9) 134) (some (true, (st2 q6.2 279 (Int32.toNatClampNeg (b2 q9)) (q6.2 280 0)))))) else (some (false, q6.2)))
set_option maxRecDepth 20000 in
theorem jnX12_storeLine_29 (G : GT) (d : Nat) (x1 : Int64)  (σ : Mem) (o : (Bool × Mem)) (h : jX12_storeLine_29 x1 σ = some o) : Run G RX12 cX12_storeLine 4 (some .boolean) (mF G (d + HX12_storeLine) (kB fun x z => (x, z) = o)) 29 [(0, .ref (gA G 269)), (1, .long x1)] [] σ := by
  unfold jX12_storeLine_29 at h
  refine run_aload_n 0 dX12_storeLine_29 rfl rfl ?_
  obtain ⟨q2, h26, h⟩ := Option.bind_eq_some_iff.mp h
  refine run_callVv (As := []) (fun z => z = q2) mw_X12_token mi_X12_token ml_X12_208 is_269 (by decide) rfl rfl rfl (RF.lt (HX12_storeLine_X12_token_lt d)) (Nat.le_of_ble_eq_true rfl) dX12_storeLine_30 (sX12_token G d  h26) (fun z h8 => ?_) rfl
  rw [h8]
  clear h8
  refine run_lload_n 1 dX12_storeLine_33 rfl rfl ?_
  refine run_ldc2 kl_X12_215 dX12_storeLine_34 ?_
  refine run_lcmp dX12_storeLine_37 ?_
  refine run_lc_ne 110 dX12_storeLine_38 (by decide) (fun c3 => ?_) (fun c3 => ?_)
  · rw [if_neg c3] at h
    refine run_aload_n 0 dX12_storeLine_110 rfl rfl ?_
    refine run_iconst (v := 0) dX12_storeLine_111 rfl ?_
    refine run_iconst (v := 1) dX12_storeLine_112 rfl ?_
    refine run_lload_n 1 dX12_storeLine_113 rfl rfl ?_
    refine run_ldc2 kl_X12_211 dX12_storeLine_114 ?_
    refine run_lcmp dX12_storeLine_117 ?_
    obtain ⟨q5, h, h9⟩ := Option.bind_eq_some_iff.mp h
    have hj16 : Run G RX12 cX12_storeLine 4 (some .boolean) (mF G (d + HX12_storeLine) (kB fun x z => (x, z) = o)) 126 [(0, .ref (gA G 269)), (1, .long x1)] [.int q5, .int 1, .int 0, .ref (gA G 269)] q2 := by
      clear h
      have h := h9
      clear h9
      obtain ⟨q6, h15, h⟩ := Option.bind_eq_some_iff.mp h
      refine run_callVb (As := [.int 0, .int 1, .int q5]) (fun r z => (r, z) = q6) mw_X12_take mi_X12_take ml_X12_217 is_269 (by decide) rfl rfl rfl (RF.lt (HX12_storeLine_X12_take_lt d)) (Nat.le_of_ble_eq_true rfl) dX12_storeLine_126 (sX12_take G d  h15) (fun r z h8 => ?_) rfl
      rw [show r = q6.1 from congrArg Prod.fst h8, show z = q6.2 from congrArg Prod.snd h8]
      clear h8
      refine run_ifb_ne 134 dX12_storeLine_129 (by decide) (fun c7 => ?_) (fun c7 => ?_)
      · rw [if_pos c7] at h
        refine run_lload_n 1 dX12_storeLine_134 rfl rfl ?_
        refine run_ldc2 kl_X12_211 dX12_storeLine_135 ?_
        refine run_lcmp dX12_storeLine_138 ?_
        obtain ⟨q9, h, h9⟩ := Option.bind_eq_some_iff.mp h
        have hj14 : Run G RX12 cX12_storeLine 4 (some .boolean) (mF G (d + HX12_storeLine) (kB fun x z => (x, z) = o)) 147 [(0, .ref (gA G 269))] [.int (b2 q9)] q6.2 := by
          clear h
          have h := h9
          clear h9
          refine run_istore_n [(0, .ref (gA G 269)), (3, .int (b2 q9))] [1, 0] dX12_storeLine_147 rfl (by decide) rfl ?_
          refine run_aload_n 0 dX12_storeLine_148 rfl rfl ?_
          refine run_getr fl_X12_38 is_269 (by decide) rfl ce_269_19 dX12_storeLine_149 ?_
          refine run_iload_n 1 dX12_storeLine_152 rfl rfl ?_
          refine run_aload_n 0 dX12_storeLine_153 rfl rfl ?_
          refine run_geti fl_X12_204 is_269 (by decide) rfl dX12_storeLine_154 ?_
          refine run_if_eq 169 dX12_storeLine_157 (by decide) (fun c10 => ?_) (fun c10 => ?_)
          · rw [if_pos c10] at h
            refine run_aload_n 0 dX12_storeLine_169 rfl rfl ?_
            refine run_getr fl_X12_38 is_269 (by decide) rfl ce_269_19 dX12_storeLine_170 ?_
            refine run_iload_n 1 dX12_storeLine_173 rfl rfl ?_
            obtain ⟨g11, h⟩ := gd_s h
            refine run_iald' is_279 ln_279 g11 rfl dX12_storeLine_174 ?_
            obtain ⟨g12, h⟩ := gd_s h
            refine run_iast' is_279 ln_279 g12 rfl dX12_storeLine_175 ?_
            refine run_iconst (v := 1) dX12_storeLine_176 rfl ?_
            exact run_bret (b := true) dX12_storeLine_177 ⟨_, rfl, Option.some.inj h⟩
          · rw [if_neg c10] at h
            refine run_aload_n 0 dX12_storeLine_160 rfl rfl ?_
            refine run_getr fl_X12_41 is_269 (by decide) rfl ce_269_20 dX12_storeLine_161 ?_
            refine run_iconst (v := 0) dX12_storeLine_164 rfl ?_
            refine run_iald' (j := 0) is_280 ln_280 (by decide) rfl dX12_storeLine_165 ?_
            refine run_goto 175 dX12_storeLine_166 (by decide) ?_
            obtain ⟨g13, h⟩ := gd_s h
            refine run_iast' is_279 ln_279 g13 rfl dX12_storeLine_175 ?_
            refine run_iconst (v := 1) dX12_storeLine_176 rfl ?_
            exact run_bret (b := true) dX12_storeLine_177 ⟨_, rfl, Option.some.inj h⟩
        clear h9
        refine run_lc_ne 146 dX12_storeLine_139 (by decide) (fun c8 => ?_) (fun c8 => ?_)
        · rw [if_neg c8] at h
          refine run_iconst (v := 1) dX12_storeLine_146 rfl ?_
          rw [← Option.some.inj h] at hj14
          refine run_forget [0] rfl ?_
          exact hj14
        · rw [if_pos c8] at h
          refine run_iconst (v := 0) dX12_storeLine_142 rfl ?_
          refine run_goto 147 dX12_storeLine_143 (by decide) ?_
          rw [← Option.some.inj h] at hj14
          refine run_forget [0] rfl ?_
          exact hj14
      · rw [if_neg c7] at h
        refine run_iconst (v := 0) dX12_storeLine_132 rfl ?_
        exact run_bret (b := false) dX12_storeLine_133 ⟨_, rfl, Option.some.inj h⟩
    clear h9
    refine run_lc_ne 125 dX12_storeLine_118 (by decide) (fun c4 => ?_) (fun c4 => ?_)
    · rw [if_neg c4] at h
      refine run_iconst (v := 4) dX12_storeLine_125 rfl ?_
      rw [← Option.some.inj h] at hj16
      exact hj16
    · rw [if_pos c4] at h
      refine run_iconst (v := 5) dX12_storeLine_121 rfl ?_
      refine run_goto 126 dX12_storeLine_122 (by decide) ?_
      rw [← Option.some.inj h] at hj16
      exact hj16
  · rw [if_pos c3] at h
    refine run_aload_n 0 dX12_storeLine_41 rfl rfl ?_
    refine run_iconst (v := 0) dX12_storeLine_42 rfl ?_
    refine run_iconst (v := 0) dX12_storeLine_43 rfl ?_
    refine run_bipush (v := 9) dX12_storeLine_44 rfl ?_
    obtain ⟨q17, h25, h⟩ := Option.bind_eq_some_iff.mp h
    refine run_callVb (As := [.int 0, .int 0, .int 9]) (fun r z => (r, z) = q17) mw_X12_take mi_X12_take ml_X12_217 is_269 (by decide) rfl rfl rfl (RF.lt (HX12_storeLine_X12_take_lt d)) (Nat.le_of_ble_eq_true rfl) dX12_storeLine_46 (sX12_take G d  h25) (fun r z h8 => ?_) rfl
    rw [show r = q17.1 from congrArg Prod.fst h8, show z = q17.2 from congrArg Prod.snd h8]
    clear h8
    refine run_ifb_eq 63 dX12_storeLine_49 (by decide) (fun c18 => ?_) (fun c18 => ?_)
    · rw [if_neg c18] at h
      refine run_iconst (v := 0) dX12_storeLine_63 rfl ?_
      exact run_bret (b := false) dX12_storeLine_64 ⟨_, rfl, Option.some.inj h⟩
    · rw [if_pos c18] at h
      refine run_aload_n 0 dX12_storeLine_52 rfl rfl ?_
      refine run_iconst (v := 1) dX12_storeLine_53 rfl ?_
      refine run_iconst (v := 0) dX12_storeLine_54 rfl ?_
      refine run_bipush (v := 99) dX12_storeLine_55 rfl ?_
      obtain ⟨q19, h24, h⟩ := Option.bind_eq_some_iff.mp h
      refine run_callVb (As := [.int 1, .int 0, .int 99]) (fun r z => (r, z) = q19) mw_X12_take mi_X12_take ml_X12_217 is_269 (by decide) rfl rfl rfl (RF.lt (HX12_storeLine_X12_take_lt d)) (Nat.le_of_ble_eq_true rfl) dX12_storeLine_57 (sX12_take G d  h24) (fun r z h8 => ?_) rfl
      rw [show r = q19.1 from congrArg Prod.fst h8, show z = q19.2 from congrArg Prod.snd h8]
      clear h8
      refine run_ifb_ne 65 dX12_storeLine_60 (by decide) (fun c20 => ?_) (fun c20 => ?_)
      · rw [if_pos c20] at h
        refine run_aload_n 0 dX12_storeLine_65 rfl rfl ?_
        refine run_geti fl_X12_204 is_269 (by decide) rfl dX12_storeLine_66 ?_
        refine run_if_eq 108 dX12_storeLine_69 (by decide) (fun c21 => ?_) (fun c21 => ?_)
        · rw [if_pos c21] at h
          refine run_iconst (v := 1) dX12_storeLine_108 rfl ?_
          exact run_bret (b := true) dX12_storeLine_109 ⟨_, rfl, Option.some.inj h⟩
        · rw [if_neg c21] at h
          refine run_aload_n 0 dX12_storeLine_72 rfl rfl ?_
          refine run_getr fl_X12_38 is_269 (by decide) rfl ce_269_19 dX12_storeLine_73 ?_
          refine run_iconst (v := 2) dX12_storeLine_76 rfl ?_
          refine run_dup2 dX12_storeLine_77 rfl rfl ?_
          refine run_iald' (j := 2) is_279 ln_279 (by decide) rfl dX12_storeLine_78 ?_
          refine run_iconst (v := 1) dX12_storeLine_79 rfl ?_
          refine run_aload_n 0 dX12_storeLine_80 rfl rfl ?_
          refine run_getr fl_X12_41 is_269 (by decide) rfl ce_269_20 dX12_storeLine_81 ?_
          refine run_iconst (v := 0) dX12_storeLine_84 rfl ?_
          refine run_iald' (j := 0) is_280 ln_280 (by decide) rfl dX12_storeLine_85 ?_
          refine run_ishl dX12_storeLine_86 ?_
          refine run_ior dX12_storeLine_87 ?_
          refine run_iast' (j := 2) is_279 ln_279 (by decide) rfl dX12_storeLine_88 ?_
          refine run_aload_n 0 dX12_storeLine_89 rfl rfl ?_
          refine run_getr fl_X12_38 is_269 (by decide) rfl ce_269_19 dX12_storeLine_90 ?_
          refine run_iconst (v := 3) dX12_storeLine_93 rfl ?_
          refine run_aload_n 0 dX12_storeLine_94 rfl rfl ?_
          refine run_getr fl_X12_41 is_269 (by decide) rfl ce_269_20 dX12_storeLine_95 ?_
          refine run_iconst (v := 0) dX12_storeLine_98 rfl ?_
          refine run_iald' (j := 0) is_280 ln_280 (by decide) rfl dX12_storeLine_99 ?_
          refine run_iadd dX12_storeLine_100 ?_
          refine run_aload_n 0 dX12_storeLine_101 rfl rfl ?_
          refine run_getr fl_X12_41 is_269 (by decide) rfl ce_269_20 dX12_storeLine_102 ?_
          refine run_iconst (v := 1) dX12_storeLine_105 rfl ?_
          refine run_iald' (j := 1) is_280 ln_280 (by decide) rfl dX12_storeLine_106 ?_
          obtain ⟨g22, h⟩ := gd_s h
          refine run_iast' is_279 ln_279 g22 rfl dX12_storeLine_107 ?_
          rw [Option.bind_some] at h
          refine run_mem (fun s23 es23 => ?_)
          rw [← es23] at h
          refine run_iconst (v := 1) dX12_storeLine_108 rfl ?_
          exact run_bret (b := true) dX12_storeLine_109 ⟨_, rfl, Option.some.inj h⟩
      · rw [if_neg c20] at h
        refine run_iconst (v := 0) dX12_storeLine_63 rfl ?_
        exact run_bret (b := false) dX12_storeLine_64 ⟨_, rfl, Option.some.inj h⟩
def fX12_storeLine (x1 : Int64) (σ : Mem) : Option (Bool × Mem) := if x1 = 1936744814 then (jX12_storeLine_29 x1 σ) else (if x1 = 33618059447333491 then (jX12_storeLine_29 x1 σ) else (if x1 = 7038329 then (jX12_storeLine_29 x1 σ) else ((fX12_fails σ).bind fun q29 => some (q29.1, q29.2))))
set_option maxRecDepth 20000 in
theorem sX12_storeLine (G : GT) (d : Nat) {x1 : Int64}  {σ : Mem} {o : (Bool × Mem)} (h : fX12_storeLine x1 σ = some o) : Spec G yX12_storeLine cX12_storeLine 4 (some .boolean) (d + HX12_storeLine) [.ref (gA G 269), .long x1] σ (kB fun x z => (x, z) = o) := by
  refine spec_run (by decide) (Nat.le_of_ble_eq_true rfl) ?_
  unfold fX12_storeLine at h
  show Run G RX12 cX12_storeLine 4 (some .boolean) _ 0 [(0, .ref (gA G 269)), (1, .long x1)] [] σ
  refine run_lload_n 1 dX12_storeLine_0 rfl rfl ?_
  refine run_ldc2 kl_X12_211 dX12_storeLine_1 ?_
  refine run_lcmp dX12_storeLine_4 ?_
  refine run_lc_eq 29 dX12_storeLine_5 (by decide) (fun c1 => ?_) (fun c1 => ?_)
  · rw [if_pos c1] at h
    exact jnX12_storeLine_29 G d _ _ _ h
  · rw [if_neg c1] at h
    refine run_lload_n 1 dX12_storeLine_8 rfl rfl ?_
    refine run_ldc2 kl_X12_213 dX12_storeLine_9 ?_
    refine run_lcmp dX12_storeLine_12 ?_
    refine run_lc_eq 29 dX12_storeLine_13 (by decide) (fun c27 => ?_) (fun c27 => ?_)
    · rw [if_pos c27] at h
      exact jnX12_storeLine_29 G d _ _ _ h
    · rw [if_neg c27] at h
      refine run_lload_n 1 dX12_storeLine_16 rfl rfl ?_
      refine run_ldc2 kl_X12_215 dX12_storeLine_17 ?_
      refine run_lcmp dX12_storeLine_20 ?_
      refine run_lc_eq 29 dX12_storeLine_21 (by decide) (fun c28 => ?_) (fun c28 => ?_)
      · rw [if_pos c28] at h
        exact jnX12_storeLine_29 G d _ _ _ h
      · rw [if_neg c28] at h
        refine run_aload_n 0 dX12_storeLine_24 rfl rfl ?_
        obtain ⟨q29, h30, h⟩ := Option.bind_eq_some_iff.mp h
        refine run_callVb (As := []) (fun r z => (r, z) = q29) mw_X12_fails mi_X12_fails ml_X12_196 is_269 (by decide) rfl rfl rfl (RF.lt (HX12_storeLine_X12_fails_lt d)) (Nat.le_of_ble_eq_true rfl) dX12_storeLine_25 (sX12_fails G d  h30) (fun r z h8 => ?_) rfl
        rw [show r = q29.1 from congrArg Prod.fst h8, show z = q29.2 from congrArg Prod.snd h8]
        clear h8
        exact run_bret (b := q29.1) dX12_storeLine_28 ⟨_, rfl, Option.some.inj h⟩
def HX12_stepBy : Nat := 1
theorem HX12_stepBy_0 (d : Nat) : 0 < d + HX12_stepBy := Nat.lt_of_lt_of_le (by decide) (Nat.le_add_left _ d)
def fX12_stepBy (x1 : Int64) (σ : Mem) : Option (Int32 × Mem) := if x1 = 1919246692 then (some (0, σ)) else (if x1 = 6518132 then (some (1, σ)) else (if x1 = 1935767141 then (some (2, σ)) else (if x1 = 7370100 then (some (3, σ)) else (if x1 = 6382692 then (some (4, σ)) else (if x1 = 1935892846 then (some (5, σ)) else (some ((-1), σ)))))))
set_option maxRecDepth 20000 in
theorem sX12_stepBy (G : GT) (d : Nat) {x1 : Int64}  {σ : Mem} {o : (Int32 × Mem)} (h : fX12_stepBy x1 σ = some o) : Spec G yX12_stepBy cX12_stepBy 3 (some .int) (d + HX12_stepBy) [.ref (gA G 269), .long x1] σ (kI fun x z => (x, z) = o) := by
  refine spec_run (by decide) (Nat.le_of_ble_eq_true rfl) ?_
  unfold fX12_stepBy at h
  show Run G RX12 cX12_stepBy 3 (some .int) _ 0 [(0, .ref (gA G 269)), (1, .long x1)] [] σ
  refine run_lload_n 1 dX12_stepBy_0 rfl rfl ?_
  refine run_ldc2 kl_X12_220 dX12_stepBy_1 ?_
  refine run_lcmp dX12_stepBy_4 ?_
  refine run_lc_ne 12 dX12_stepBy_5 (by decide) (fun c1 => ?_) (fun c1 => ?_)
  · rw [if_neg c1] at h
    refine run_lload_n 1 dX12_stepBy_12 rfl rfl ?_
    refine run_ldc2 kl_X12_222 dX12_stepBy_13 ?_
    refine run_lcmp dX12_stepBy_16 ?_
    refine run_lc_ne 24 dX12_stepBy_17 (by decide) (fun c2 => ?_) (fun c2 => ?_)
    · rw [if_neg c2] at h
      refine run_lload_n 1 dX12_stepBy_24 rfl rfl ?_
      refine run_ldc2 kl_X12_224 dX12_stepBy_25 ?_
      refine run_lcmp dX12_stepBy_28 ?_
      refine run_lc_ne 36 dX12_stepBy_29 (by decide) (fun c3 => ?_) (fun c3 => ?_)
      · rw [if_neg c3] at h
        refine run_lload_n 1 dX12_stepBy_36 rfl rfl ?_
        refine run_ldc2 kl_X12_226 dX12_stepBy_37 ?_
        refine run_lcmp dX12_stepBy_40 ?_
        refine run_lc_ne 48 dX12_stepBy_41 (by decide) (fun c4 => ?_) (fun c4 => ?_)
        · rw [if_neg c4] at h
          refine run_lload_n 1 dX12_stepBy_48 rfl rfl ?_
          refine run_ldc2 kl_X12_228 dX12_stepBy_49 ?_
          refine run_lcmp dX12_stepBy_52 ?_
          refine run_lc_ne 60 dX12_stepBy_53 (by decide) (fun c5 => ?_) (fun c5 => ?_)
          · rw [if_neg c5] at h
            refine run_lload_n 1 dX12_stepBy_60 rfl rfl ?_
            refine run_ldc2 kl_X12_230 dX12_stepBy_61 ?_
            refine run_lcmp dX12_stepBy_64 ?_
            refine run_lc_ne 72 dX12_stepBy_65 (by decide) (fun c6 => ?_) (fun c6 => ?_)
            · rw [if_neg c6] at h
              refine run_iconst (v := -1) dX12_stepBy_72 rfl ?_
              exact run_iret dX12_stepBy_73 ⟨_, rfl, Option.some.inj h⟩
            · rw [if_pos c6] at h
              refine run_iconst (v := 5) dX12_stepBy_68 rfl ?_
              refine run_goto 73 dX12_stepBy_69 (by decide) ?_
              exact run_iret dX12_stepBy_73 ⟨_, rfl, Option.some.inj h⟩
          · rw [if_pos c5] at h
            refine run_iconst (v := 4) dX12_stepBy_56 rfl ?_
            refine run_goto 73 dX12_stepBy_57 (by decide) ?_
            exact run_iret dX12_stepBy_73 ⟨_, rfl, Option.some.inj h⟩
        · rw [if_pos c4] at h
          refine run_iconst (v := 3) dX12_stepBy_44 rfl ?_
          refine run_goto 73 dX12_stepBy_45 (by decide) ?_
          exact run_iret dX12_stepBy_73 ⟨_, rfl, Option.some.inj h⟩
      · rw [if_pos c3] at h
        refine run_iconst (v := 2) dX12_stepBy_32 rfl ?_
        refine run_goto 73 dX12_stepBy_33 (by decide) ?_
        exact run_iret dX12_stepBy_73 ⟨_, rfl, Option.some.inj h⟩
    · rw [if_pos c2] at h
      refine run_iconst (v := 1) dX12_stepBy_20 rfl ?_
      refine run_goto 73 dX12_stepBy_21 (by decide) ?_
      exact run_iret dX12_stepBy_73 ⟨_, rfl, Option.some.inj h⟩
  · rw [if_pos c1] at h
    refine run_iconst (v := 0) dX12_stepBy_8 rfl ?_
    refine run_goto 73 dX12_stepBy_9 (by decide) ?_
    exact run_iret dX12_stepBy_73 ⟨_, rfl, Option.some.inj h⟩
def HX12_taskLine : Nat := 3
theorem HX12_taskLine_X12_full_lt (d : Nat) : d + HX12_full < d + HX12_taskLine := Nat.add_lt_add_left (by decide) d
theorem HX12_taskLine_X12_lesser_lt (d : Nat) : d + HX12_lesser < d + HX12_taskLine := Nat.add_lt_add_left (by decide) d
theorem HX12_taskLine_X12_token_lt (d : Nat) : d + HX12_token < d + HX12_taskLine := Nat.add_lt_add_left (by decide) d
theorem HX12_taskLine_0 (d : Nat) : 0 < d + HX12_taskLine := Nat.lt_of_lt_of_le (by decide) (Nat.le_add_left _ d)
def fX12_taskLine (x1 : Int32) (σ : Mem) : Option (Bool × Mem) := (fX12_full 0 7 x1 σ).bind fun q1 => (fX12_token q1).bind fun q2 => (fX12_lesser 7 ((st2 q2 269 22 ((q2 279 0) + 1)) 269 22) (st2 q2 269 22 ((q2 279 0) + 1))).bind fun q3 => some (true, (st2 q3.2 279 0 q3.1))
set_option maxRecDepth 20000 in
theorem sX12_taskLine (G : GT) (d : Nat) {x1 : Int32}  {σ : Mem} {o : (Bool × Mem)} (h : fX12_taskLine x1 σ = some o) : Spec G yX12_taskLine cX12_taskLine 2 (some .boolean) (d + HX12_taskLine) [.ref (gA G 269), .int x1] σ (kB fun x z => (x, z) = o) := by
  refine spec_run (by decide) (Nat.le_of_ble_eq_true rfl) ?_
  unfold fX12_taskLine at h
  show Run G RX12 cX12_taskLine 2 (some .boolean) _ 0 [(0, .ref (gA G 269)), (1, .int x1)] [] σ
  refine run_aload_n 0 dX12_taskLine_0 rfl rfl ?_
  refine run_iconst (v := 0) dX12_taskLine_1 rfl ?_
  refine run_bipush (v := 7) dX12_taskLine_2 rfl ?_
  refine run_iload_n 1 dX12_taskLine_4 rfl rfl ?_
  obtain ⟨q1, h6, h⟩ := Option.bind_eq_some_iff.mp h
  refine run_callVv (As := [.int 0, .int 7, .int x1]) (fun z => z = q1) mw_X12_full mi_X12_full ml_X12_232 is_269 (by decide) rfl rfl rfl (RF.lt (HX12_taskLine_X12_full_lt d)) (Nat.le_of_ble_eq_true rfl) dX12_taskLine_5 (sX12_full G d  h6) (fun z h8 => ?_) rfl
  rw [h8]
  clear h8
  refine run_aload_n 0 dX12_taskLine_8 rfl rfl ?_
  obtain ⟨q2, h5, h⟩ := Option.bind_eq_some_iff.mp h
  refine run_callVv (As := []) (fun z => z = q2) mw_X12_token mi_X12_token ml_X12_208 is_269 (by decide) rfl rfl rfl (RF.lt (HX12_taskLine_X12_token_lt d)) (Nat.le_of_ble_eq_true rfl) dX12_taskLine_9 (sX12_token G d  h5) (fun z h8 => ?_) rfl
  rw [h8]
  clear h8
  refine run_aload_n 0 dX12_taskLine_12 rfl rfl ?_
  refine run_aload_n 0 dX12_taskLine_13 rfl rfl ?_
  refine run_getr fl_X12_38 is_269 (by decide) rfl ce_269_19 dX12_taskLine_14 ?_
  refine run_iconst (v := 0) dX12_taskLine_17 rfl ?_
  refine run_iald' (j := 0) is_279 ln_279 (by decide) rfl dX12_taskLine_18 ?_
  refine run_iconst (v := 1) dX12_taskLine_19 rfl ?_
  refine run_iadd dX12_taskLine_20 ?_
  refine run_puti fp_X12_236 is_269 (by decide) rfl dX12_taskLine_21 ?_
  refine run_aload_n 0 dX12_taskLine_24 rfl rfl ?_
  refine run_getr fl_X12_38 is_269 (by decide) rfl ce_269_19 dX12_taskLine_25 ?_
  refine run_iconst (v := 0) dX12_taskLine_28 rfl ?_
  refine run_bipush (v := 7) dX12_taskLine_29 rfl ?_
  refine run_aload_n 0 dX12_taskLine_31 rfl rfl ?_
  refine run_geti fl_X12_236 is_269 (by decide) rfl dX12_taskLine_32 ?_
  obtain ⟨q3, h4, h⟩ := Option.bind_eq_some_iff.mp h
  refine run_callSi (As := [.int 7, .int ((st2 q2 269 22 ((q2 279 0) + 1)) 269 22)]) (fun r z => (r, z) = q3) mw_X12_lesser ms_X12_lesser ml_X12_239 rfl (RF.lt (HX12_taskLine_X12_lesser_lt d)) (Nat.le_of_ble_eq_true rfl) dX12_taskLine_35 (sX12_lesser G d  h4) (fun r z h8 => ?_) rfl
  rw [show r = q3.1 from congrArg Prod.fst h8, show z = q3.2 from congrArg Prod.snd h8]
  clear h8
  refine run_iast' (j := 0) is_279 ln_279 (by decide) rfl dX12_taskLine_38 ?_
  refine run_iconst (v := 1) dX12_taskLine_39 rfl ?_
  exact run_bret (b := true) dX12_taskLine_40 ⟨_, rfl, Option.some.inj h⟩
def HX12_stepLine : Nat := 4
theorem HX12_stepLine_X12_addsFault_lt (d : Nat) : d + HX12_addsFault < d + HX12_stepLine := Nat.add_lt_add_left (by decide) d
theorem HX12_stepLine_X12_in_lt (d : Nat) : d + HX12_in < d + HX12_stepLine := Nat.add_lt_add_left (by decide) d
theorem HX12_stepLine_X12_lesser_lt (d : Nat) : d + HX12_lesser < d + HX12_stepLine := Nat.add_lt_add_left (by decide) d
theorem HX12_stepLine_X12_take_lt (d : Nat) : d + HX12_take < d + HX12_stepLine := Nat.add_lt_add_left (by decide) d
theorem HX12_stepLine_X12_token_lt (d : Nat) : d + HX12_token < d + HX12_stepLine := Nat.add_lt_add_left (by decide) d
theorem HX12_stepLine_0 (d : Nat) : 0 < d + HX12_stepLine := Nat.lt_of_lt_of_le (by decide) (Nat.le_add_left _ d)
def jX12_stepLine_109 (x1 : Int32) (x3 : Int32) (x4 : Int32) (σ : Mem) : Option (Bool × Mem) := (fX12_in x3 0 6 σ).bind fun q14 => if q14.1 = true then (gd (inb x4 134) ((if 6 ≤ (q14.2 279 (Int32.toNatClampNeg x4)) then (some q14.2) else (gd (inb ((x4 + 1) + ((3 : Int32) * (q14.2 279 (Int32.toNatClampNeg x4)))) 134) (gd (inb ((x4 + 2) + ((3 : Int32) * (q14.2 279 (Int32.toNatClampNeg x4)))) 134) ((some (st2 (st2 q14.2 279 (Int32.toNatClampNeg ((x4 + 1) + ((3 : Int32) * (q14.2 279 (Int32.toNatClampNeg x4))))) x1) 279 (Int32.toNatClampNeg ((x4 + 2) + ((3 : Int32) * (q14.2 279 (Int32.toNatClampNeg x4))))) ((st2 q14.2 279 (Int32.toNatClampNeg ((x4 + 1) + ((3 : Int32) * (q14.2 279 (Int32.toNatClampNeg x4))))) x1) 280 0))).bind fun s20 => gd (inb ((x4 + 3) + ((3 : Int32) * (q14.2 279 (Int32.toNatClampNeg x4)))) 134) (some (st2 s20 279 (Int32.toNatClampNeg ((x4 + 3) + ((3 : Int32) * (q14.2 279 (Int32.toNatClampNeg x4))))) (s20 280 1)))))) : Option (Mem)).bind fun q22 => (fX12_lesser 6 ((q14.2 279 (Int32.toNatClampNeg x4)) + 1) q22).bind fun q23 => gd (inb x4 134) (some (true, (st2 q23.2 279 (Int32.toNatClampNeg x4) q23.1))))) else (some (true, q14.2))
set_option maxRecDepth 20000 in
theorem jnX12_stepLine_109 (G : GT) (d : Nat) (x1 : Int32) (x3 : Int32) (x4 : Int32)  (σ : Mem) (o : (Bool × Mem)) (h : jX12_stepLine_109 x1 x3 x4 σ = some o) : Run G RX12 cX12_stepLine 6 (some .boolean) (mF G (d + HX12_stepLine) (kB fun x z => (x, z) = o)) 109 [(0, .ref (gA G 269)), (1, .int x1), (3, .int x3), (4, .int x4)] [] σ := by
  unfold jX12_stepLine_109 at h
  refine run_iload_n 2 dX12_stepLine_109 rfl rfl ?_
  refine run_iconst (v := 0) dX12_stepLine_110 rfl ?_
  refine run_bipush (v := 6) dX12_stepLine_111 rfl ?_
  obtain ⟨q14, h27, h⟩ := Option.bind_eq_some_iff.mp h
  refine run_callSb (As := [.int x3, .int 0, .int 6]) (fun r z => (r, z) = q14) mw_X12_in ms_X12_in ml_X12_156 rfl (RF.lt (HX12_stepLine_X12_in_lt d)) (Nat.le_of_ble_eq_true rfl) dX12_stepLine_113 (sX12_in G d  h27) (fun r z h8 => ?_) rfl
  rw [show r = q14.1 from congrArg Prod.fst h8, show z = q14.2 from congrArg Prod.snd h8]
  clear h8
  refine run_ifb_eq 206 dX12_stepLine_116 (by decide) (fun c15 => ?_) (fun c15 => ?_)
  · rw [if_neg c15] at h
    refine run_iconst (v := 1) dX12_stepLine_206 rfl ?_
    exact run_bret (b := true) dX12_stepLine_207 ⟨_, rfl, Option.some.inj h⟩
  · rw [if_pos c15] at h
    refine run_aload_n 0 dX12_stepLine_119 rfl rfl ?_
    refine run_getr fl_X12_38 is_269 (by decide) rfl ce_269_19 dX12_stepLine_120 ?_
    refine run_iload 3 dX12_stepLine_123 rfl ?_
    obtain ⟨g16, h⟩ := gd_s h
    refine run_iald' is_279 ln_279 g16 rfl dX12_stepLine_125 ?_
    refine run_istore [(0, .ref (gA G 269)), (1, .int x1), (4, .int x4), (5, .int (q14.2 279 (Int32.toNatClampNeg x4)))] [1, 2, 4, 0] dX12_stepLine_126 (by decide) rfl ?_
    refine run_iload 3 dX12_stepLine_128 rfl ?_
    refine run_bipush (v := 6) dX12_stepLine_130 rfl ?_
    obtain ⟨q22, h, h9⟩ := Option.bind_eq_some_iff.mp h
    have hj26 : Run G RX12 cX12_stepLine 6 (some .boolean) (mF G (d + HX12_stepLine) (kB fun x z => (x, z) = o)) 190 [(0, .ref (gA G 269)), (4, .int x4), (5, .int (q14.2 279 (Int32.toNatClampNeg x4)))] [] q22 := by
      clear h
      have h := h9
      clear h9
      refine run_aload_n 0 dX12_stepLine_190 rfl rfl ?_
      refine run_getr fl_X12_38 is_269 (by decide) rfl ce_269_19 dX12_stepLine_191 ?_
      refine run_iload 1 dX12_stepLine_194 rfl ?_
      refine run_bipush (v := 6) dX12_stepLine_196 rfl ?_
      refine run_iload 2 dX12_stepLine_198 rfl ?_
      refine run_iconst (v := 1) dX12_stepLine_200 rfl ?_
      refine run_iadd dX12_stepLine_201 ?_
      obtain ⟨q23, h25, h⟩ := Option.bind_eq_some_iff.mp h
      refine run_callSi (As := [.int 6, .int ((q14.2 279 (Int32.toNatClampNeg x4)) + 1)]) (fun r z => (r, z) = q23) mw_X12_lesser ms_X12_lesser ml_X12_239 rfl (RF.lt (HX12_stepLine_X12_lesser_lt d)) (Nat.le_of_ble_eq_true rfl) dX12_stepLine_202 (sX12_lesser G d  h25) (fun r z h8 => ?_) rfl
      rw [show r = q23.1 from congrArg Prod.fst h8, show z = q23.2 from congrArg Prod.snd h8]
      clear h8
      obtain ⟨g24, h⟩ := gd_s h
      refine run_iast' is_279 ln_279 g24 rfl dX12_stepLine_205 ?_
      refine run_iconst (v := 1) dX12_stepLine_206 rfl ?_
      exact run_bret (b := true) dX12_stepLine_207 ⟨_, rfl, Option.some.inj h⟩
    clear h9
    refine run_icmp_ge 190 dX12_stepLine_132 (by decide) (fun c17 => ?_) (fun c17 => ?_)
    · rw [if_pos c17] at h
      rw [← Option.some.inj h] at hj26
      refine run_forget [0, 2, 3] rfl ?_
      exact hj26
    · rw [if_neg c17] at h
      refine run_aload_n 0 dX12_stepLine_135 rfl rfl ?_
      refine run_getr fl_X12_38 is_269 (by decide) rfl ce_269_19 dX12_stepLine_136 ?_
      refine run_iload 2 dX12_stepLine_139 rfl ?_
      refine run_iconst (v := 1) dX12_stepLine_141 rfl ?_
      refine run_iadd dX12_stepLine_142 ?_
      refine run_iconst (v := 3) dX12_stepLine_143 rfl ?_
      refine run_iload 3 dX12_stepLine_144 rfl ?_
      refine run_imul dX12_stepLine_146 ?_
      refine run_iadd dX12_stepLine_147 ?_
      refine run_iload_n 1 dX12_stepLine_148 rfl rfl ?_
      obtain ⟨g18, h⟩ := gd_s h
      refine run_iast' is_279 ln_279 g18 rfl dX12_stepLine_149 ?_
      refine run_aload_n 0 dX12_stepLine_150 rfl rfl ?_
      refine run_getr fl_X12_38 is_269 (by decide) rfl ce_269_19 dX12_stepLine_151 ?_
      refine run_iload 2 dX12_stepLine_154 rfl ?_
      refine run_iconst (v := 2) dX12_stepLine_156 rfl ?_
      refine run_iadd dX12_stepLine_157 ?_
      refine run_iconst (v := 3) dX12_stepLine_158 rfl ?_
      refine run_iload 3 dX12_stepLine_159 rfl ?_
      refine run_imul dX12_stepLine_161 ?_
      refine run_iadd dX12_stepLine_162 ?_
      refine run_aload_n 0 dX12_stepLine_163 rfl rfl ?_
      refine run_getr fl_X12_41 is_269 (by decide) rfl ce_269_20 dX12_stepLine_164 ?_
      refine run_iconst (v := 0) dX12_stepLine_167 rfl ?_
      refine run_iald' (j := 0) is_280 ln_280 (by decide) rfl dX12_stepLine_168 ?_
      obtain ⟨g19, h⟩ := gd_s h
      refine run_iast' is_279 ln_279 g19 rfl dX12_stepLine_169 ?_
      rw [Option.bind_some] at h
      refine run_mem (fun s20 es20 => ?_)
      rw [← es20] at h
      refine run_aload_n 0 dX12_stepLine_170 rfl rfl ?_
      refine run_getr fl_X12_38 is_269 (by decide) rfl ce_269_19 dX12_stepLine_171 ?_
      refine run_iload 2 dX12_stepLine_174 rfl ?_
      refine run_iconst (v := 3) dX12_stepLine_176 rfl ?_
      refine run_iadd dX12_stepLine_177 ?_
      refine run_iconst (v := 3) dX12_stepLine_178 rfl ?_
      refine run_iload 3 dX12_stepLine_179 rfl ?_
      refine run_imul dX12_stepLine_181 ?_
      refine run_iadd dX12_stepLine_182 ?_
      refine run_aload_n 0 dX12_stepLine_183 rfl rfl ?_
      refine run_getr fl_X12_41 is_269 (by decide) rfl ce_269_20 dX12_stepLine_184 ?_
      refine run_iconst (v := 1) dX12_stepLine_187 rfl ?_
      refine run_iald' (j := 1) is_280 ln_280 (by decide) rfl dX12_stepLine_188 ?_
      obtain ⟨g21, h⟩ := gd_s h
      refine run_iast' is_279 ln_279 g21 rfl dX12_stepLine_189 ?_
      rw [← Option.some.inj h] at hj26
      refine run_forget [0, 2, 3] rfl ?_
      exact hj26
def jX12_stepLine_43 (x1 : Int32) (x3 : Int32) (x4 : Int32) (σ : Mem) : Option (Bool × Mem) := (fX12_token σ).bind fun q10 => (fX12_take 0 0 9 (st2 q10 280 1 (-1))).bind fun q11 => if q11.1 = true then (if x1 < 3 then (jX12_stepLine_109 x1 x3 x4 q11.2) else ((if x1 = 5 then (some (q11.2 280 0)) else (some 0) : Option (Int32)).bind fun q29 => (if x1 = 5 then (some 9) else (some 99) : Option (Int32)).bind fun q31 => (fX12_take 1 q29 q31 q11.2).bind fun q32 => if q32.1 = true then (jX12_stepLine_109 x1 x3 x4 q32.2) else (some (false, q32.2)))) else (some (false, q11.2))
set_option maxRecDepth 20000 in
theorem jnX12_stepLine_43 (G : GT) (d : Nat) (x1 : Int32) (x3 : Int32) (x4 : Int32)  (σ : Mem) (o : (Bool × Mem)) (h : jX12_stepLine_43 x1 x3 x4 σ = some o) : Run G RX12 cX12_stepLine 6 (some .boolean) (mF G (d + HX12_stepLine) (kB fun x z => (x, z) = o)) 43 [(0, .ref (gA G 269)), (1, .int x1), (3, .int x3), (4, .int x4)] [] σ := by
  unfold jX12_stepLine_43 at h
  refine run_aload_n 0 dX12_stepLine_43 rfl rfl ?_
  obtain ⟨q10, h38, h⟩ := Option.bind_eq_some_iff.mp h
  refine run_callVv (As := []) (fun z => z = q10) mw_X12_token mi_X12_token ml_X12_208 is_269 (by decide) rfl rfl rfl (RF.lt (HX12_stepLine_X12_token_lt d)) (Nat.le_of_ble_eq_true rfl) dX12_stepLine_44 (sX12_token G d  h38) (fun z h8 => ?_) rfl
  rw [h8]
  clear h8
  refine run_aload_n 0 dX12_stepLine_47 rfl rfl ?_
  refine run_getr fl_X12_41 is_269 (by decide) rfl ce_269_20 dX12_stepLine_48 ?_
  refine run_iconst (v := 1) dX12_stepLine_51 rfl ?_
  refine run_iconst (v := -1) dX12_stepLine_52 rfl ?_
  refine run_iast' (j := 1) is_280 ln_280 (by decide) rfl dX12_stepLine_53 ?_
  refine run_aload_n 0 dX12_stepLine_54 rfl rfl ?_
  refine run_iconst (v := 0) dX12_stepLine_55 rfl ?_
  refine run_iconst (v := 0) dX12_stepLine_56 rfl ?_
  refine run_bipush (v := 9) dX12_stepLine_57 rfl ?_
  obtain ⟨q11, h37, h⟩ := Option.bind_eq_some_iff.mp h
  refine run_callVb (As := [.int 0, .int 0, .int 9]) (fun r z => (r, z) = q11) mw_X12_take mi_X12_take ml_X12_217 is_269 (by decide) rfl rfl rfl (RF.lt (HX12_stepLine_X12_take_lt d)) (Nat.le_of_ble_eq_true rfl) dX12_stepLine_59 (sX12_take G d  h37) (fun r z h8 => ?_) rfl
  rw [show r = q11.1 from congrArg Prod.fst h8, show z = q11.2 from congrArg Prod.snd h8]
  clear h8
  refine run_ifb_ne 67 dX12_stepLine_62 (by decide) (fun c12 => ?_) (fun c12 => ?_)
  · rw [if_pos c12] at h
    refine run_iload_n 1 dX12_stepLine_67 rfl rfl ?_
    refine run_iconst (v := 3) dX12_stepLine_68 rfl ?_
    refine run_icmp_lt 109 dX12_stepLine_69 (by decide) (fun c13 => ?_) (fun c13 => ?_)
    · rw [if_pos c13] at h
      exact jnX12_stepLine_109 G d _ _ _ _ _ h
    · rw [if_neg c13] at h
      refine run_aload_n 0 dX12_stepLine_72 rfl rfl ?_
      refine run_iconst (v := 1) dX12_stepLine_73 rfl ?_
      refine run_iload_n 1 dX12_stepLine_74 rfl rfl ?_
      refine run_iconst (v := 5) dX12_stepLine_75 rfl ?_
      obtain ⟨q29, h, h9⟩ := Option.bind_eq_some_iff.mp h
      have hj36 : Run G RX12 cX12_stepLine 6 (some .boolean) (mF G (d + HX12_stepLine) (kB fun x z => (x, z) = o)) 89 [(0, .ref (gA G 269)), (1, .int x1), (3, .int x3), (4, .int x4)] [.int q29, .int 1, .ref (gA G 269)] q11.2 := by
        clear h
        have h := h9
        clear h9
        refine run_iload_n 1 dX12_stepLine_89 rfl rfl ?_
        refine run_iconst (v := 5) dX12_stepLine_90 rfl ?_
        obtain ⟨q31, h, h9⟩ := Option.bind_eq_some_iff.mp h
        have hj35 : Run G RX12 cX12_stepLine 6 (some .boolean) (mF G (d + HX12_stepLine) (kB fun x z => (x, z) = o)) 101 [(0, .ref (gA G 269)), (1, .int x1), (3, .int x3), (4, .int x4)] [.int q31, .int q29, .int 1, .ref (gA G 269)] q11.2 := by
          clear h
          have h := h9
          clear h9
          obtain ⟨q32, h34, h⟩ := Option.bind_eq_some_iff.mp h
          refine run_callVb (As := [.int 1, .int q29, .int q31]) (fun r z => (r, z) = q32) mw_X12_take mi_X12_take ml_X12_217 is_269 (by decide) rfl rfl rfl (RF.lt (HX12_stepLine_X12_take_lt d)) (Nat.le_of_ble_eq_true rfl) dX12_stepLine_101 (sX12_take G d  h34) (fun r z h8 => ?_) rfl
          rw [show r = q32.1 from congrArg Prod.fst h8, show z = q32.2 from congrArg Prod.snd h8]
          clear h8
          refine run_ifb_ne 109 dX12_stepLine_104 (by decide) (fun c33 => ?_) (fun c33 => ?_)
          · rw [if_pos c33] at h
            exact jnX12_stepLine_109 G d _ _ _ _ _ h
          · rw [if_neg c33] at h
            refine run_iconst (v := 0) dX12_stepLine_107 rfl ?_
            exact run_bret (b := false) dX12_stepLine_108 ⟨_, rfl, Option.some.inj h⟩
        clear h9
        refine run_icmp_ne 99 dX12_stepLine_91 (by decide) (fun c30 => ?_) (fun c30 => ?_)
        · rw [if_neg c30] at h
          refine run_bipush (v := 99) dX12_stepLine_99 rfl ?_
          rw [← Option.some.inj h] at hj35
          exact hj35
        · rw [if_pos c30] at h
          refine run_bipush (v := 9) dX12_stepLine_94 rfl ?_
          refine run_goto 101 dX12_stepLine_96 (by decide) ?_
          rw [← Option.some.inj h] at hj35
          exact hj35
      clear h9
      refine run_icmp_ne 88 dX12_stepLine_76 (by decide) (fun c28 => ?_) (fun c28 => ?_)
      · rw [if_neg c28] at h
        refine run_iconst (v := 0) dX12_stepLine_88 rfl ?_
        rw [← Option.some.inj h] at hj36
        exact hj36
      · rw [if_pos c28] at h
        refine run_aload_n 0 dX12_stepLine_79 rfl rfl ?_
        refine run_getr fl_X12_41 is_269 (by decide) rfl ce_269_20 dX12_stepLine_80 ?_
        refine run_iconst (v := 0) dX12_stepLine_83 rfl ?_
        refine run_iald' (j := 0) is_280 ln_280 (by decide) rfl dX12_stepLine_84 ?_
        refine run_goto 89 dX12_stepLine_85 (by decide) ?_
        rw [← Option.some.inj h] at hj36
        exact hj36
  · rw [if_neg c12] at h
    refine run_iconst (v := 0) dX12_stepLine_65 rfl ?_
    exact run_bret (b := false) dX12_stepLine_66 ⟨_, rfl, Option.some.inj h⟩
def fX12_stepLine (x1 : Int32) (x2 : Int32) (σ : Mem) : Option (Bool × Mem) := (if ((σ 269 22) - 1) < 0 then ((fX12_addsFault 3 x2 σ).bind fun q2 => some q2) else (if 7 ≤ ((σ 269 22) - 1) then (some σ) else (gd (inb ((1 : Int32) + ((19 : Int32) * ((σ 269 22) - 1))) 134) (if (σ 279 (Int32.toNatClampNeg ((1 : Int32) + ((19 : Int32) * ((σ 269 22) - 1))))) = 6 then ((fX12_addsFault 3 x2 σ).bind fun q7 => some q7) else (some σ)))) : Option (Mem)).bind fun q9 => jX12_stepLine_43 x1 ((σ 269 22) - 1) ((1 : Int32) + ((19 : Int32) * ((σ 269 22) - 1))) q9
set_option maxRecDepth 20000 in
theorem sX12_stepLine (G : GT) (d : Nat) {x1 : Int32} {x2 : Int32}  {σ : Mem} {o : (Bool × Mem)} (h : fX12_stepLine x1 x2 σ = some o) : Spec G yX12_stepLine cX12_stepLine 6 (some .boolean) (d + HX12_stepLine) [.ref (gA G 269), .int x1, .int x2] σ (kB fun x z => (x, z) = o) := by
  refine spec_run (by decide) (Nat.le_of_ble_eq_true rfl) ?_
  unfold fX12_stepLine at h
  show Run G RX12 cX12_stepLine 6 (some .boolean) _ 0 [(0, .ref (gA G 269)), (1, .int x1), (2, .int x2)] [] σ
  refine run_aload_n 0 dX12_stepLine_0 rfl rfl ?_
  refine run_geti fl_X12_236 is_269 (by decide) rfl dX12_stepLine_1 ?_
  refine run_iconst (v := 1) dX12_stepLine_4 rfl ?_
  refine run_isub dX12_stepLine_5 ?_
  refine run_istore_n [(0, .ref (gA G 269)), (1, .int x1), (2, .int x2), (3, .int ((σ 269 22) - 1))] [1, 2, 3, 0] dX12_stepLine_6 rfl (by decide) rfl ?_
  refine run_iconst (v := 1) dX12_stepLine_7 rfl ?_
  refine run_bipush (v := 19) dX12_stepLine_8 rfl ?_
  refine run_iload_n 3 dX12_stepLine_10 rfl rfl ?_
  refine run_imul dX12_stepLine_11 ?_
  refine run_iadd dX12_stepLine_12 ?_
  refine run_istore [(0, .ref (gA G 269)), (1, .int x1), (2, .int x2), (3, .int ((σ 269 22) - 1)), (4, .int ((1 : Int32) + ((19 : Int32) * ((σ 269 22) - 1))))] [1, 2, 3, 4, 0] dX12_stepLine_13 (by decide) rfl ?_
  refine run_iload_n 3 dX12_stepLine_15 rfl rfl ?_
  obtain ⟨q9, h, h9⟩ := Option.bind_eq_some_iff.mp h
  have hj39 : Run G RX12 cX12_stepLine 6 (some .boolean) (mF G (d + HX12_stepLine) (kB fun x z => (x, z) = o)) 43 [(0, .ref (gA G 269)), (1, .int x1), (3, .int ((σ 269 22) - 1)), (4, .int ((1 : Int32) + ((19 : Int32) * ((σ 269 22) - 1))))] [] q9 := by
    clear h
    have h := h9
    clear h9
    exact jnX12_stepLine_43 G d _ _ _ _ _ h
  clear h9
  refine run_if_lt 37 dX12_stepLine_16 (by decide) (fun c1 => ?_) (fun c1 => ?_)
  · rw [if_pos c1] at h
    refine run_aload_n 0 dX12_stepLine_37 rfl rfl ?_
    refine run_iconst (v := 3) dX12_stepLine_38 rfl ?_
    refine run_iload_n 2 dX12_stepLine_39 rfl rfl ?_
    obtain ⟨q2, h3, h⟩ := Option.bind_eq_some_iff.mp h
    refine run_callVv (As := [.int 3, .int x2]) (fun z => z = q2) mw_X12_addsFault mi_X12_addsFault ml_X12_200 is_269 (by decide) rfl rfl rfl (RF.lt (HX12_stepLine_X12_addsFault_lt d)) (Nat.le_of_ble_eq_true rfl) dX12_stepLine_40 (sX12_addsFault G d  h3) (fun z h8 => ?_) rfl
    rw [h8]
    clear h8
    rw [← Option.some.inj h] at hj39
    refine run_forget [0, 1, 3, 4] rfl ?_
    exact hj39
  · rw [if_neg c1] at h
    refine run_iload_n 3 dX12_stepLine_19 rfl rfl ?_
    refine run_bipush (v := 7) dX12_stepLine_20 rfl ?_
    refine run_icmp_ge 43 dX12_stepLine_22 (by decide) (fun c4 => ?_) (fun c4 => ?_)
    · rw [if_pos c4] at h
      rw [← Option.some.inj h] at hj39
      refine run_forget [0, 1, 3, 4] rfl ?_
      exact hj39
    · rw [if_neg c4] at h
      refine run_aload_n 0 dX12_stepLine_25 rfl rfl ?_
      refine run_getr fl_X12_38 is_269 (by decide) rfl ce_269_19 dX12_stepLine_26 ?_
      refine run_iload 4 dX12_stepLine_29 rfl ?_
      obtain ⟨g5, h⟩ := gd_s h
      refine run_iald' is_279 ln_279 g5 rfl dX12_stepLine_31 ?_
      refine run_bipush (v := 6) dX12_stepLine_32 rfl ?_
      refine run_icmp_ne 43 dX12_stepLine_34 (by decide) (fun c6 => ?_) (fun c6 => ?_)
      · rw [if_neg c6] at h
        rw [← Option.some.inj h] at hj39
        refine run_forget [0, 1, 3, 4] rfl ?_
        exact hj39
      · rw [if_pos c6] at h
        refine run_aload_n 0 dX12_stepLine_37 rfl rfl ?_
        refine run_iconst (v := 3) dX12_stepLine_38 rfl ?_
        refine run_iload_n 2 dX12_stepLine_39 rfl rfl ?_
        obtain ⟨q7, h8, h⟩ := Option.bind_eq_some_iff.mp h
        refine run_callVv (As := [.int 3, .int x2]) (fun z => z = q7) mw_X12_addsFault mi_X12_addsFault ml_X12_200 is_269 (by decide) rfl rfl rfl (RF.lt (HX12_stepLine_X12_addsFault_lt d)) (Nat.le_of_ble_eq_true rfl) dX12_stepLine_40 (sX12_addsFault G d  h8) (fun z h8 => ?_) rfl
        rw [h8]
        clear h8
        rw [← Option.some.inj h] at hj39
        refine run_forget [0, 1, 3, 4] rfl ?_
        exact hj39
def HX12_bookLine : Nat := 5
theorem HX12_bookLine_X12_fails_lt (d : Nat) : d + HX12_fails < d + HX12_bookLine := Nat.add_lt_add_left (by decide) d
theorem HX12_bookLine_X12_stepBy_lt (d : Nat) : d + HX12_stepBy < d + HX12_bookLine := Nat.add_lt_add_left (by decide) d
theorem HX12_bookLine_X12_stepLine_lt (d : Nat) : d + HX12_stepLine < d + HX12_bookLine := Nat.add_lt_add_left (by decide) d
theorem HX12_bookLine_X12_taskLine_lt (d : Nat) : d + HX12_taskLine < d + HX12_bookLine := Nat.add_lt_add_left (by decide) d
theorem HX12_bookLine_0 (d : Nat) : 0 < d + HX12_bookLine := Nat.lt_of_lt_of_le (by decide) (Nat.le_add_left _ d)
def fX12_bookLine (x1 : Int64) (x3 : Int32) (σ : Mem) : Option (Bool × Mem) := (fX12_stepBy x1 σ).bind fun q1 => if x1 = 1952543595 then ((fX12_taskLine x3 q1.2).bind fun q8 => some (q8.1, q8.2)) else (if q1.1 = (-1) then ((fX12_fails q1.2).bind fun q6 => some (q6.1, q6.2)) else ((fX12_stepLine q1.1 x3 q1.2).bind fun q4 => some (q4.1, q4.2)))
set_option maxRecDepth 20000 in
theorem sX12_bookLine (G : GT) (d : Nat) {x1 : Int64} {x3 : Int32}  {σ : Mem} {o : (Bool × Mem)} (h : fX12_bookLine x1 x3 σ = some o) : Spec G yX12_bookLine cX12_bookLine 5 (some .boolean) (d + HX12_bookLine) [.ref (gA G 269), .long x1, .int x3] σ (kB fun x z => (x, z) = o) := by
  refine spec_run (by decide) (Nat.le_of_ble_eq_true rfl) ?_
  unfold fX12_bookLine at h
  show Run G RX12 cX12_bookLine 5 (some .boolean) _ 0 [(0, .ref (gA G 269)), (1, .long x1), (3, .int x3)] [] σ
  refine run_aload_n 0 dX12_bookLine_0 rfl rfl ?_
  refine run_lload_n 1 dX12_bookLine_1 rfl rfl ?_
  obtain ⟨q1, h10, h⟩ := Option.bind_eq_some_iff.mp h
  refine run_callVi (As := [.long x1]) (fun r z => (r, z) = q1) mw_X12_stepBy mi_X12_stepBy ml_X12_243 is_269 (by decide) rfl rfl rfl (RF.lt (HX12_bookLine_X12_stepBy_lt d)) (Nat.le_of_ble_eq_true rfl) dX12_bookLine_2 (sX12_stepBy G d  h10) (fun r z h8 => ?_) rfl
  rw [show r = q1.1 from congrArg Prod.fst h8, show z = q1.2 from congrArg Prod.snd h8]
  clear h8
  refine run_istore [(0, .ref (gA G 269)), (1, .long x1), (3, .int x3), (4, .int q1.1)] [1, 2, 3, 0] dX12_bookLine_5 (by decide) rfl ?_
  refine run_lload_n 1 dX12_bookLine_7 rfl rfl ?_
  refine run_ldc2 kl_X12_247 dX12_bookLine_8 ?_
  refine run_lcmp dX12_bookLine_11 ?_
  refine run_lc_ne 23 dX12_bookLine_12 (by decide) (fun c2 => ?_) (fun c2 => ?_)
  · rw [if_neg c2] at h
    refine run_iload 3 dX12_bookLine_23 rfl ?_
    refine run_iconst (v := -1) dX12_bookLine_25 rfl ?_
    refine run_icmp_ne 36 dX12_bookLine_26 (by decide) (fun c3 => ?_) (fun c3 => ?_)
    · rw [if_neg c3] at h
      refine run_aload_n 0 dX12_bookLine_36 rfl rfl ?_
      refine run_iload 3 dX12_bookLine_37 rfl ?_
      refine run_iload_n 2 dX12_bookLine_39 rfl rfl ?_
      obtain ⟨q4, h5, h⟩ := Option.bind_eq_some_iff.mp h
      refine run_callVb (As := [.int q1.1, .int x3]) (fun r z => (r, z) = q4) mw_X12_stepLine mi_X12_stepLine ml_X12_253 is_269 (by decide) rfl rfl rfl (RF.lt (HX12_bookLine_X12_stepLine_lt d)) (Nat.le_of_ble_eq_true rfl) dX12_bookLine_40 (sX12_stepLine G d  h5) (fun r z h8 => ?_) rfl
      rw [show r = q4.1 from congrArg Prod.fst h8, show z = q4.2 from congrArg Prod.snd h8]
      clear h8
      exact run_bret (b := q4.1) dX12_bookLine_43 ⟨_, rfl, Option.some.inj h⟩
    · rw [if_pos c3] at h
      refine run_aload_n 0 dX12_bookLine_29 rfl rfl ?_
      obtain ⟨q6, h7, h⟩ := Option.bind_eq_some_iff.mp h
      refine run_callVb (As := []) (fun r z => (r, z) = q6) mw_X12_fails mi_X12_fails ml_X12_196 is_269 (by decide) rfl rfl rfl (RF.lt (HX12_bookLine_X12_fails_lt d)) (Nat.le_of_ble_eq_true rfl) dX12_bookLine_30 (sX12_fails G d  h7) (fun r z h8 => ?_) rfl
      rw [show r = q6.1 from congrArg Prod.fst h8, show z = q6.2 from congrArg Prod.snd h8]
      clear h8
      refine run_goto 43 dX12_bookLine_33 (by decide) ?_
      exact run_bret (b := q6.1) dX12_bookLine_43 ⟨_, rfl, Option.some.inj h⟩
  · rw [if_pos c2] at h
    refine run_aload_n 0 dX12_bookLine_15 rfl rfl ?_
    refine run_iload_n 2 dX12_bookLine_16 rfl rfl ?_
    obtain ⟨q8, h9, h⟩ := Option.bind_eq_some_iff.mp h
    refine run_callVb (As := [.int x3]) (fun r z => (r, z) = q8) mw_X12_taskLine mi_X12_taskLine ml_X12_249 is_269 (by decide) rfl rfl rfl (RF.lt (HX12_bookLine_X12_taskLine_lt d)) (Nat.le_of_ble_eq_true rfl) dX12_bookLine_17 (sX12_taskLine G d  h9) (fun r z h8 => ?_) rfl
    rw [show r = q8.1 from congrArg Prod.fst h8, show z = q8.2 from congrArg Prod.snd h8]
    clear h8
    refine run_goto 43 dX12_bookLine_20 (by decide) ?_
    exact run_bret (b := q8.1) dX12_bookLine_43 ⟨_, rfl, Option.some.inj h⟩
def HX12_deedBy : Nat := 1
theorem HX12_deedBy_0 (d : Nat) : 0 < d + HX12_deedBy := Nat.lt_of_lt_of_le (by decide) (Nat.le_add_left _ d)
def fX12_deedBy (x1 : Int64) (σ : Mem) : Option (Int32 × Mem) := if x1 = 435678045032 then (some (0, σ)) else (if x1 = 427120751464 then (some (1, σ)) else (if x1 = 1937007984 then (some (2, σ)) else (if x1 = 109330228406644 then (some (3, σ)) else (if x1 = 1903520116 then (some (4, σ)) else (if x1 = 439906300776 then (some (5, σ)) else (if x1 = 422608071022 then (some (6, σ)) else (some ((-1), σ))))))))
set_option maxRecDepth 20000 in
theorem sX12_deedBy (G : GT) (d : Nat) {x1 : Int64}  {σ : Mem} {o : (Int32 × Mem)} (h : fX12_deedBy x1 σ = some o) : Spec G yX12_deedBy cX12_deedBy 3 (some .int) (d + HX12_deedBy) [.ref (gA G 269), .long x1] σ (kI fun x z => (x, z) = o) := by
  refine spec_run (by decide) (Nat.le_of_ble_eq_true rfl) ?_
  unfold fX12_deedBy at h
  show Run G RX12 cX12_deedBy 3 (some .int) _ 0 [(0, .ref (gA G 269)), (1, .long x1)] [] σ
  refine run_lload_n 1 dX12_deedBy_0 rfl rfl ?_
  refine run_ldc2 kl_X12_256 dX12_deedBy_1 ?_
  refine run_lcmp dX12_deedBy_4 ?_
  refine run_lc_ne 12 dX12_deedBy_5 (by decide) (fun c1 => ?_) (fun c1 => ?_)
  · rw [if_neg c1] at h
    refine run_lload_n 1 dX12_deedBy_12 rfl rfl ?_
    refine run_ldc2 kl_X12_258 dX12_deedBy_13 ?_
    refine run_lcmp dX12_deedBy_16 ?_
    refine run_lc_ne 24 dX12_deedBy_17 (by decide) (fun c2 => ?_) (fun c2 => ?_)
    · rw [if_neg c2] at h
      refine run_lload_n 1 dX12_deedBy_24 rfl rfl ?_
      refine run_ldc2 kl_X12_260 dX12_deedBy_25 ?_
      refine run_lcmp dX12_deedBy_28 ?_
      refine run_lc_ne 36 dX12_deedBy_29 (by decide) (fun c3 => ?_) (fun c3 => ?_)
      · rw [if_neg c3] at h
        refine run_lload_n 1 dX12_deedBy_36 rfl rfl ?_
        refine run_ldc2 kl_X12_262 dX12_deedBy_37 ?_
        refine run_lcmp dX12_deedBy_40 ?_
        refine run_lc_ne 48 dX12_deedBy_41 (by decide) (fun c4 => ?_) (fun c4 => ?_)
        · rw [if_neg c4] at h
          refine run_lload_n 1 dX12_deedBy_48 rfl rfl ?_
          refine run_ldc2 kl_X12_264 dX12_deedBy_49 ?_
          refine run_lcmp dX12_deedBy_52 ?_
          refine run_lc_ne 60 dX12_deedBy_53 (by decide) (fun c5 => ?_) (fun c5 => ?_)
          · rw [if_neg c5] at h
            refine run_lload_n 1 dX12_deedBy_60 rfl rfl ?_
            refine run_ldc2 kl_X12_266 dX12_deedBy_61 ?_
            refine run_lcmp dX12_deedBy_64 ?_
            refine run_lc_ne 72 dX12_deedBy_65 (by decide) (fun c6 => ?_) (fun c6 => ?_)
            · rw [if_neg c6] at h
              refine run_lload_n 1 dX12_deedBy_72 rfl rfl ?_
              refine run_ldc2 kl_X12_268 dX12_deedBy_73 ?_
              refine run_lcmp dX12_deedBy_76 ?_
              refine run_lc_ne 85 dX12_deedBy_77 (by decide) (fun c7 => ?_) (fun c7 => ?_)
              · rw [if_neg c7] at h
                refine run_iconst (v := -1) dX12_deedBy_85 rfl ?_
                exact run_iret dX12_deedBy_86 ⟨_, rfl, Option.some.inj h⟩
              · rw [if_pos c7] at h
                refine run_bipush (v := 6) dX12_deedBy_80 rfl ?_
                refine run_goto 86 dX12_deedBy_82 (by decide) ?_
                exact run_iret dX12_deedBy_86 ⟨_, rfl, Option.some.inj h⟩
            · rw [if_pos c6] at h
              refine run_iconst (v := 5) dX12_deedBy_68 rfl ?_
              refine run_goto 86 dX12_deedBy_69 (by decide) ?_
              exact run_iret dX12_deedBy_86 ⟨_, rfl, Option.some.inj h⟩
          · rw [if_pos c5] at h
            refine run_iconst (v := 4) dX12_deedBy_56 rfl ?_
            refine run_goto 86 dX12_deedBy_57 (by decide) ?_
            exact run_iret dX12_deedBy_86 ⟨_, rfl, Option.some.inj h⟩
        · rw [if_pos c4] at h
          refine run_iconst (v := 3) dX12_deedBy_44 rfl ?_
          refine run_goto 86 dX12_deedBy_45 (by decide) ?_
          exact run_iret dX12_deedBy_86 ⟨_, rfl, Option.some.inj h⟩
      · rw [if_pos c3] at h
        refine run_iconst (v := 2) dX12_deedBy_32 rfl ?_
        refine run_goto 86 dX12_deedBy_33 (by decide) ?_
        exact run_iret dX12_deedBy_86 ⟨_, rfl, Option.some.inj h⟩
    · rw [if_pos c2] at h
      refine run_iconst (v := 1) dX12_deedBy_20 rfl ?_
      refine run_goto 86 dX12_deedBy_21 (by decide) ?_
      exact run_iret dX12_deedBy_86 ⟨_, rfl, Option.some.inj h⟩
  · rw [if_pos c1] at h
    refine run_iconst (v := 0) dX12_deedBy_8 rfl ?_
    refine run_goto 86 dX12_deedBy_9 (by decide) ?_
    exact run_iret dX12_deedBy_86 ⟨_, rfl, Option.some.inj h⟩
