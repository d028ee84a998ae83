/-! methods, translated -/
def HX12_copyAll : Nat := 2
theorem HX12_copyAll_X12_copyRow_lt (d : Nat) : d + HX12_copyRow < d + HX12_copyAll := Nat.add_lt_add_left (by decide) d
theorem HX12_copyAll_0 (d : Nat) : 0 < d + HX12_copyAll := Nat.lt_of_lt_of_le (by decide) (Nat.le_add_left _ d)
def lX12_copyAll_2 (x1 : Int32) (x2 : Int32) : Nat → Int32 → Mem → Option (Mem)
  | 0, _, _ => none
  | n + 1, x3, σ => if 600 ≤ x3 then (some σ) else (gd (inb (((600 : Int32) * x1) + x3) 2400) (gd (inb (((600 : Int32) * x2) + x3) 2400) (lX12_copyAll_2 x1 x2 n (x3 + 1) (st2 σ 270 (Int32.toNatClampNeg (((600 : Int32) * x2) + x3)) (Int8.toInt32 (Int32.toInt8 (σ 270 (Int32.toNatClampNeg (((600 : Int32) * x1) + x3)))))))))
set_option maxRecDepth 20000 in
theorem lpX12_copyAll_2 (G : GT) (d : Nat) (x1 : Int32) (x2 : Int32)  {K : Option Value → Mem → Prop} : ∀ (n : Nat) (x3 : Int32) (σ : Mem) (o : Mem), lX12_copyAll_2 x1 x2 n x3 σ = some o → (Run G RX12 cX12_copyAll 4 none (mF G (d + HX12_copyAll) K) 39 [(0, .ref (gA G 269)), (1, .int x1), (2, .int x2)] [] o) → Run G RX12 cX12_copyAll 4 none (mF G (d + HX12_copyAll) K) 2 [(0, .ref (gA G 269)), (1, .int x1), (2, .int x2), (3, .int x3)] [] σ := by
  intro n
  induction n with
  | zero => intro x3 σ o h; exact absurd h (by simp [lX12_copyAll_2])
  | succ n ih =>
    intro x3 σ o h kx
    rw [lX12_copyAll_2] at h
    refine run_iload_n 3 dX12_copyAll_2 rfl rfl ?_
    refine run_sipush (v := 600) dX12_copyAll_3 rfl ?_
    refine run_icmp_ge 39 dX12_copyAll_6 (by decide) (fun c5 => ?_) (fun c5 => ?_)
    · rw [if_pos c5] at h
      rw [← Option.some.inj h] at kx
      refine run_forget [0, 1, 2] rfl ?_
      exact kx
    · rw [if_neg c5] at h
      refine run_aload_n 0 dX12_copyAll_9 rfl rfl ?_
      refine run_getr fl_X12_7 is_269 (by decide) rfl ce_269_1 dX12_copyAll_10 ?_
      refine run_sipush (v := 600) dX12_copyAll_13 rfl ?_
      refine run_iload_n 2 dX12_copyAll_16 rfl rfl ?_
      refine run_imul dX12_copyAll_17 ?_
      refine run_iload_n 3 dX12_copyAll_18 rfl rfl ?_
      refine run_iadd dX12_copyAll_19 ?_
      refine run_aload_n 0 dX12_copyAll_20 rfl rfl ?_
      refine run_getr fl_X12_7 is_269 (by decide) rfl ce_269_1 dX12_copyAll_21 ?_
      refine run_sipush (v := 600) dX12_copyAll_24 rfl ?_
      refine run_iload_n 1 dX12_copyAll_27 rfl rfl ?_
      refine run_imul dX12_copyAll_28 ?_
      refine run_iload_n 3 dX12_copyAll_29 rfl rfl ?_
      refine run_iadd dX12_copyAll_30 ?_
      obtain ⟨g6, h⟩ := gd_s h
      refine run_bald' is_270 ln_270 g6 rfl dX12_copyAll_31 ?_
      obtain ⟨g7, h⟩ := gd_s h
      refine run_bast' is_270 ln_270 g7 rfl dX12_copyAll_32 ?_
      refine run_iinc 3 [(0, .ref (gA G 269)), (1, .int x1), (2, .int x2), (3, .int (x3 + 1))] [1, 2, 3, 0] dX12_copyAll_33 rfl rfl (by decide) rfl ?_
      refine run_goto 2 dX12_copyAll_36 (by decide) ?_
      exact ih _ _ _ h kx
def fX12_copyAll (x1 : Int32) (x2 : Int32) (σ : Mem) : Option Mem := (lX12_copyAll_2 x1 x2 FU 0 σ).bind fun q8 => (fX12_copyRow 271 4 1 x1 x2 q8).bind fun q9 => (fX12_copyRow 272 4 1 x1 x2 q9).bind fun q10 => (fX12_copyRow 273 4 1 x1 x2 q10).bind fun q11 => (fX12_copyRow 274 16 4 x1 x2 q11).bind fun q12 => (fX12_copyRow 275 104 26 x1 x2 q12).bind fun q13 => (fX12_copyRow 276 1072 268 x1 x2 q13).bind fun q14 => (fX12_copyRow 277 968 242 x1 x2 q14).bind fun q15 => (fX12_copyRow 278 136 34 x1 x2 q15).bind fun q16 => some q16
set_option maxRecDepth 20000 in
theorem sX12_copyAll (G : GT) (d : Nat) {x1 : Int32} {x2 : Int32}  {σ : Mem} {o : Mem} (h : fX12_copyAll x1 x2 σ = some o) : Spec G yX12_copyAll cX12_copyAll 4 none (d + HX12_copyAll) [.ref (gA G 269), .int x1, .int x2] σ (kV fun z => z = o) := by
  refine spec_run (by decide) (Nat.le_of_ble_eq_true rfl) ?_
  unfold fX12_copyAll at h
  show Run G RX12 cX12_copyAll 4 none _ 0 [(0, .ref (gA G 269)), (1, .int x1), (2, .int x2)] [] σ
  refine run_iconst (v := 0) dX12_copyAll_0 rfl ?_
  refine run_istore_n [(0, .ref (gA G 269)), (1, .int x1), (2, .int x2), (3, .int 0)] [1, 2, 3, 0] dX12_copyAll_1 rfl (by decide) rfl ?_
  obtain ⟨q8, h25, h⟩ := Option.bind_eq_some_iff.mp h
  refine lpX12_copyAll_2 G d _ _ _ _ _ _ h25 ?_
  refine run_aload_n 0 dX12_copyAll_39 rfl rfl ?_
  refine run_getr fl_X12_13 is_269 (by decide) rfl ce_269_2 dX12_copyAll_40 ?_
  refine run_iconst (v := 1) dX12_copyAll_43 rfl ?_
  refine run_iload_n 1 dX12_copyAll_44 rfl rfl ?_
  refine run_iload_n 2 dX12_copyAll_45 rfl rfl ?_
  obtain ⟨q9, h24, h⟩ := Option.bind_eq_some_iff.mp h
  refine run_callSv (As := [.ref (gA G 271), .int 1, .int x1, .int x2]) (fun z => z = q9) mw_X12_copyRow ms_X12_copyRow ml_X12_152 rfl (RF.lt (HX12_copyAll_X12_copyRow_lt d)) (Nat.le_of_ble_eq_true rfl) dX12_copyAll_46 (sX12_copyRow G d is_271 ln_271 (by decide) h24) (fun z h8 => ?_) rfl
  rw [h8]
  clear h8
  refine run_aload_n 0 dX12_copyAll_49 rfl rfl ?_
  refine run_getr fl_X12_17 is_269 (by decide) rfl ce_269_3 dX12_copyAll_50 ?_
  refine run_iconst (v := 1) dX12_copyAll_53 rfl ?_
  refine run_iload_n 1 dX12_copyAll_54 rfl rfl ?_
  refine run_iload_n 2 dX12_copyAll_55 rfl rfl ?_
  obtain ⟨q10, h23, h⟩ := Option.bind_eq_some_iff.mp h
  refine run_callSv (As := [.ref (gA G 272), .int 1, .int x1, .int x2]) (fun z => z = q10) mw_X12_copyRow ms_X12_copyRow ml_X12_152 rfl (RF.lt (HX12_copyAll_X12_copyRow_lt d)) (Nat.le_of_ble_eq_true rfl) dX12_copyAll_56 (sX12_copyRow G d is_272 ln_272 (by decide) h23) (fun z h8 => ?_) rfl
  rw [h8]
  clear h8
  refine run_aload_n 0 dX12_copyAll_59 rfl rfl ?_
  refine run_getr fl_X12_20 is_269 (by decide) rfl ce_269_4 dX12_copyAll_60 ?_
  refine run_iconst (v := 1) dX12_copyAll_63 rfl ?_
  refine run_iload_n 1 dX12_copyAll_64 rfl rfl ?_
  refine run_iload_n 2 dX12_copyAll_65 rfl rfl ?_
  obtain ⟨q11, h22, h⟩ := Option.bind_eq_some_iff.mp h
  refine run_callSv (As := [.ref (gA G 273), .int 1, .int x1, .int x2]) (fun z => z = q11) mw_X12_copyRow ms_X12_copyRow ml_X12_152 rfl (RF.lt (HX12_copyAll_X12_copyRow_lt d)) (Nat.le_of_ble_eq_true rfl) dX12_copyAll_66 (sX12_copyRow G d is_273 ln_273 (by decide) h22) (fun z h8 => ?_) rfl
  rw [h8]
  clear h8
  refine run_aload_n 0 dX12_copyAll_69 rfl rfl ?_
  refine run_getr fl_X12_23 is_269 (by decide) rfl ce_269_5 dX12_copyAll_70 ?_
  refine run_iconst (v := 4) dX12_copyAll_73 rfl ?_
  refine run_iload_n 1 dX12_copyAll_74 rfl rfl ?_
  refine run_iload_n 2 dX12_copyAll_75 rfl rfl ?_
  obtain ⟨q12, h21, h⟩ := Option.bind_eq_some_iff.mp h
  refine run_callSv (As := [.ref (gA G 274), .int 4, .int x1, .int x2]) (fun z => z = q12) mw_X12_copyRow ms_X12_copyRow ml_X12_152 rfl (RF.lt (HX12_copyAll_X12_copyRow_lt d)) (Nat.le_of_ble_eq_true rfl) dX12_copyAll_76 (sX12_copyRow G d is_274 ln_274 (by decide) h21) (fun z h8 => ?_) rfl
  rw [h8]
  clear h8
  refine run_aload_n 0 dX12_copyAll_79 rfl rfl ?_
  refine run_getr fl_X12_26 is_269 (by decide) rfl ce_269_6 dX12_copyAll_80 ?_
  refine run_bipush (v := 26) dX12_copyAll_83 rfl ?_
  refine run_iload_n 1 dX12_copyAll_85 rfl rfl ?_
  refine run_iload_n 2 dX12_copyAll_86 rfl rfl ?_
  obtain ⟨q13, h20, h⟩ := Option.bind_eq_some_iff.mp h
  refine run_callSv (As := [.ref (gA G 275), .int 26, .int x1, .int x2]) (fun z => z = q13) mw_X12_copyRow ms_X12_copyRow ml_X12_152 rfl (RF.lt (HX12_copyAll_X12_copyRow_lt d)) (Nat.le_of_ble_eq_true rfl) dX12_copyAll_87 (sX12_copyRow G d is_275 ln_275 (by decide) h20) (fun z h8 => ?_) rfl
  rw [h8]
  clear h8
  refine run_aload_n 0 dX12_copyAll_90 rfl rfl ?_
  refine run_getr fl_X12_29 is_269 (by decide) rfl ce_269_7 dX12_copyAll_91 ?_
  refine run_sipush (v := 268) dX12_copyAll_94 rfl ?_
  refine run_iload_n 1 dX12_copyAll_97 rfl rfl ?_
  refine run_iload_n 2 dX12_copyAll_98 rfl rfl ?_
  obtain ⟨q14, h19, h⟩ := Option.bind_eq_some_iff.mp h
  refine run_callSv (As := [.ref (gA G 276), .int 268, .int x1, .int x2]) (fun z => z = q14) mw_X12_copyRow ms_X12_copyRow ml_X12_152 rfl (RF.lt (HX12_copyAll_X12_copyRow_lt d)) (Nat.le_of_ble_eq_true rfl) dX12_copyAll_99 (sX12_copyRow G d is_276 ln_276 (by decide) h19) (fun z h8 => ?_) rfl
  rw [h8]
  clear h8
  refine run_aload_n 0 dX12_copyAll_102 rfl rfl ?_
  refine run_getr fl_X12_32 is_269 (by decide) rfl ce_269_8 dX12_copyAll_103 ?_
  refine run_sipush (v := 242) dX12_copyAll_106 rfl ?_
  refine run_iload_n 1 dX12_copyAll_109 rfl rfl ?_
  refine run_iload_n 2 dX12_copyAll_110 rfl rfl ?_
  obtain ⟨q15, h18, h⟩ := Option.bind_eq_some_iff.mp h
  refine run_callSv (As := [.ref (gA G 277), .int 242, .int x1, .int x2]) (fun z => z = q15) mw_X12_copyRow ms_X12_copyRow ml_X12_152 rfl (RF.lt (HX12_copyAll_X12_copyRow_lt d)) (Nat.le_of_ble_eq_true rfl) dX12_copyAll_111 (sX12_copyRow G d is_277 ln_277 (by decide) h18) (fun z h8 => ?_) rfl
  rw [h8]
  clear h8
  refine run_aload_n 0 dX12_copyAll_114 rfl rfl ?_
  refine run_getr fl_X12_35 is_269 (by decide) rfl ce_269_9 dX12_copyAll_115 ?_
  refine run_bipush (v := 34) dX12_copyAll_118 rfl ?_
  refine run_iload_n 1 dX12_copyAll_120 rfl rfl ?_
  refine run_iload_n 2 dX12_copyAll_121 rfl rfl ?_
  obtain ⟨q16, h17, h⟩ := Option.bind_eq_some_iff.mp h
  refine run_callSv (As := [.ref (gA G 278), .int 34, .int x1, .int x2]) (fun z => z = q16) mw_X12_copyRow ms_X12_copyRow ml_X12_152 rfl (RF.lt (HX12_copyAll_X12_copyRow_lt d)) (Nat.le_of_ble_eq_true rfl) dX12_copyAll_122 (sX12_copyRow G d is_278 ln_278 (by decide) h17) (fun z h8 => ?_) rfl
  rw [h8]
  clear h8
  exact run_vret dX12_copyAll_125 ⟨rfl, Option.some.inj h⟩
def HX12_is : Nat := 2
theorem HX12_is_X12_in_lt (d : Nat) : d + HX12_in < d + HX12_is := Nat.add_lt_add_left (by decide) d
theorem HX12_is_0 (d : Nat) : 0 < d + HX12_is := Nat.lt_of_lt_of_le (by decide) (Nat.le_add_left _ d)
def fX12_is (x1 : Int32) (x2 : Int32) (σ : Mem) : Option (Bool × Mem) := gd (inb x1 16) ((fX12_in x2 0 ((σ 274 (Int32.toNatClampNeg x1)) - 1) σ).bind fun q2 => some (q2.1, q2.2))
set_option maxRecDepth 20000 in
theorem sX12_is (G : GT) (d : Nat) {x1 : Int32} {x2 : Int32}  {σ : Mem} {o : (Bool × Mem)} (h : fX12_is x1 x2 σ = some o) : Spec G yX12_is cX12_is 3 (some .boolean) (d + HX12_is) [.ref (gA G 269), .int x1, .int x2] σ (kB fun x z => (x, z) = o) := by
  refine spec_run (by decide) (Nat.le_of_ble_eq_true rfl) ?_
  unfold fX12_is at h
  show Run G RX12 cX12_is 3 (some .boolean) _ 0 [(0, .ref (gA G 269)), (1, .int x1), (2, .int x2)] [] σ
  refine run_iload_n 2 dX12_is_0 rfl rfl ?_
  refine run_iconst (v := 0) dX12_is_1 rfl ?_
  refine run_aload_n 0 dX12_is_2 rfl rfl ?_
  refine run_getr fl_X12_23 is_269 (by decide) rfl ce_269_5 dX12_is_3 ?_
  refine run_iload_n 1 dX12_is_6 rfl rfl ?_
  obtain ⟨g1, h⟩ := gd_s h
  refine run_iald' is_274 ln_274 g1 rfl dX12_is_7 ?_
  refine run_iconst (v := 1) dX12_is_8 rfl ?_
  refine run_isub dX12_is_9 ?_
  obtain ⟨q2, h3, h⟩ := Option.bind_eq_some_iff.mp h
  refine run_callSb (As := [.int x2, .int 0, .int ((σ 274 (Int32.toNatClampNeg x1)) - 1)]) (fun r z => (r, z) = q2) mw_X12_in ms_X12_in ml_X12_156 rfl (RF.lt (HX12_is_X12_in_lt d)) (Nat.le_of_ble_eq_true rfl) dX12_is_10 (sX12_in G d  h3) (fun r z h8 => ?_) rfl
  rw [show r = q2.1 from congrArg Prod.fst h8, show z = q2.2 from congrArg Prod.snd h8]
  clear h8
  exact run_bret (b := q2.1) dX12_is_13 ⟨_, rfl, Option.some.inj h⟩
def HX12_four : Nat := 1
theorem HX12_four_0 (d : Nat) : 0 < d + HX12_four := Nat.lt_of_lt_of_le (by decide) (Nat.le_add_left _ d)
def lX12_four_3 (x1 : Int32) : Nat → Int32 → Mem → Option (Mem)
  | 0, _, _ => none
  | n + 1, x2, σ => if x2 < 0 then (some σ) else (gd (inb (σ 271 0) 2400) ((some (st2 (st2 σ 270 (Int32.toNatClampNeg (σ 271 0)) (Int8.toInt32 (Int32.toInt8 (Int8.toInt32 (Int32.toInt8 (x1 >>> (x2 &&& 31))))))) 271 0 (((st2 σ 270 (Int32.toNatClampNeg (σ 271 0)) (Int8.toInt32 (Int32.toInt8 (Int8.toInt32 (Int32.toInt8 (x1 >>> (x2 &&& 31))))))) 271 0) + 1))).bind fun s3 => lX12_four_3 x1 n (x2 + (-8)) s3))
set_option maxRecDepth 20000 in
theorem lpX12_four_3 (G : GT) (d : Nat) (x1 : Int32)  {K : Option Value → Mem → Prop} : ∀ (n : Nat) (x2 : Int32) (σ : Mem) (o : Mem), lX12_four_3 x1 n x2 σ = some o → (Run G RX12 cX12_four 3 none (mF G (d + HX12_four) K) 38 [] [] o) → Run G RX12 cX12_four 3 none (mF G (d + HX12_four) K) 3 [(0, .ref (gA G 269)), (1, .int x1), (2, .int x2)] [] σ := by
  intro n
  induction n with
  | zero => intro x2 σ o h; exact absurd h (by simp [lX12_four_3])
  | succ n ih =>
    intro x2 σ o h kx
    rw [lX12_four_3] at h
    refine run_iload_n 2 dX12_four_3 rfl rfl ?_
    refine run_if_lt 38 dX12_four_4 (by decide) (fun c1 => ?_) (fun c1 => ?_)
    · rw [if_pos c1] at h
      rw [← Option.some.inj h] at kx
      refine run_forget [] rfl ?_
      exact kx
    · rw [if_neg c1] at h
      refine run_aload_n 0 dX12_four_7 rfl rfl ?_
      refine run_getr fl_X12_7 is_269 (by decide) rfl ce_269_1 dX12_four_8 ?_
      refine run_aload_n 0 dX12_four_11 rfl rfl ?_
      refine run_getr fl_X12_13 is_269 (by decide) rfl ce_269_2 dX12_four_12 ?_
      refine run_iconst (v := 0) dX12_four_15 rfl ?_
      refine run_iald' (j := 0) is_271 ln_271 (by decide) rfl dX12_four_16 ?_
      refine run_iload_n 1 dX12_four_17 rfl rfl ?_
      refine run_iload_n 2 dX12_four_18 rfl rfl ?_
      refine run_ishr dX12_four_19 ?_
      refine run_i2b dX12_four_20 ?_
      obtain ⟨g2, h⟩ := gd_s h
      refine run_bast' is_270 ln_270 g2 rfl dX12_four_21 ?_
      refine run_aload_n 0 dX12_four_22 rfl rfl ?_
      refine run_getr fl_X12_13 is_269 (by decide) rfl ce_269_2 dX12_four_23 ?_
      refine run_iconst (v := 0) dX12_four_26 rfl ?_
      refine run_dup2 dX12_four_27 rfl rfl ?_
      refine run_iald' (j := 0) is_271 ln_271 (by decide) rfl dX12_four_28 ?_
      refine run_iconst (v := 1) dX12_four_29 rfl ?_
      refine run_iadd dX12_four_30 ?_
      refine run_iast' (j := 0) is_271 ln_271 (by decide) rfl dX12_four_31 ?_
      rw [Option.bind_some] at h
      refine run_mem (fun s3 es3 => ?_)
      rw [← es3] at h
      refine run_iinc 2 [(0, .ref (gA G 269)), (1, .int x1), (2, .int (x2 + (-8)))] [1, 2, 0] dX12_four_32 rfl rfl (by decide) rfl ?_
      refine run_goto 3 dX12_four_35 (by decide) ?_
      exact ih _ _ _ h kx
def fX12_four (x1 : Int32) (σ : Mem) : Option Mem := (lX12_four_3 x1 FU 24 σ).bind fun q4 => some q4
set_option maxRecDepth 20000 in
theorem sX12_four (G : GT) (d : Nat) {x1 : Int32}  {σ : Mem} {o : Mem} (h : fX12_four x1 σ = some o) : Spec G yX12_four cX12_four 3 none (d + HX12_four) [.ref (gA G 269), .int x1] σ (kV fun z => z = o) := by
  refine spec_run (by decide) (Nat.le_of_ble_eq_true rfl) ?_
  unfold fX12_four at h
  show Run G RX12 cX12_four 3 none _ 0 [(0, .ref (gA G 269)), (1, .int x1)] [] σ
  refine run_bipush (v := 24) dX12_four_0 rfl ?_
  refine run_istore_n [(0, .ref (gA G 269)), (1, .int x1), (2, .int 24)] [1, 2, 0] dX12_four_2 rfl (by decide) rfl ?_
  obtain ⟨q4, h5, h⟩ := Option.bind_eq_some_iff.mp h
  refine lpX12_four_3 G d _ _ _ _ _ h5 ?_
  exact run_vret dX12_four_38 ⟨rfl, Option.some.inj h⟩
def HX12_end : Nat := 2
theorem HX12_end_X12_in_lt (d : Nat) : d + HX12_in < d + HX12_end := Nat.add_lt_add_left (by decide) d
theorem HX12_end_0 (d : Nat) : 0 < d + HX12_end := Nat.lt_of_lt_of_le (by decide) (Nat.le_add_left _ d)
def fX12_end (x1 : Int32) (σ : Mem) : Option (Int32 × Mem) := (fX12_in x1 0 ((st2 σ 269 0 0) 271 0) (st2 σ 269 0 0)).bind fun q1 => if q1.1 = true then (some (x1, (st2 q1.2 271 0 x1))) else (some ((-1), q1.2))
set_option maxRecDepth 20000 in
theorem sX12_end (G : GT) (d : Nat) {x1 : Int32}  {σ : Mem} {o : (Int32 × Mem)} (h : fX12_end x1 σ = some o) : Spec G yX12_end cX12_end 2 (some .int) (d + HX12_end) [.ref (gA G 269), .int x1] σ (kI fun x z => (x, z) = o) := by
  refine spec_run (by decide) (Nat.le_of_ble_eq_true rfl) ?_
  unfold fX12_end at h
  show Run G RX12 cX12_end 2 (some .int) _ 0 [(0, .ref (gA G 269)), (1, .int x1)] [] σ
  refine run_aload_n 0 dX12_end_0 rfl rfl ?_
  refine run_iconst (v := 0) dX12_end_1 rfl ?_
  refine run_puti fp_X12_144 is_269 (by decide) rfl dX12_end_2 ?_
  refine run_iload_n 1 dX12_end_5 rfl rfl ?_
  refine run_iconst (v := 0) dX12_end_6 rfl ?_
  refine run_aload_n 0 dX12_end_7 rfl rfl ?_
  refine run_getr fl_X12_13 is_269 (by decide) rfl ce_269_2 dX12_end_8 ?_
  refine run_iconst (v := 0) dX12_end_11 rfl ?_
  refine run_iald' (j := 0) is_271 ln_271 (by decide) rfl dX12_end_12 ?_
  obtain ⟨q1, h3, h⟩ := Option.bind_eq_some_iff.mp h
  refine run_callSb (As := [.int x1, .int 0, .int ((st2 σ 269 0 0) 271 0)]) (fun r z => (r, z) = q1) mw_X12_in ms_X12_in ml_X12_156 rfl (RF.lt (HX12_end_X12_in_lt d)) (Nat.le_of_ble_eq_true rfl) dX12_end_13 (sX12_in G d  h3) (fun r z h8 => ?_) rfl
  rw [show r = q1.1 from congrArg Prod.fst h8, show z = q1.2 from congrArg Prod.snd h8]
  clear h8
  refine run_ifb_ne 21 dX12_end_16 (by decide) (fun c2 => ?_) (fun c2 => ?_)
  · rw [if_pos c2] at h
    refine run_aload_n 0 dX12_end_21 rfl rfl ?_
    refine run_getr fl_X12_13 is_269 (by decide) rfl ce_269_2 dX12_end_22 ?_
    refine run_iconst (v := 0) dX12_end_25 rfl ?_
    refine run_iload_n 1 dX12_end_26 rfl rfl ?_
    refine run_iast' (j := 0) is_271 ln_271 (by decide) rfl dX12_end_27 ?_
    refine run_iload_n 1 dX12_end_28 rfl rfl ?_
    exact run_iret dX12_end_29 ⟨_, rfl, Option.some.inj h⟩
  · rw [if_neg c2] at h
    refine run_iconst (v := -1) dX12_end_19 rfl ?_
    exact run_iret dX12_end_20 ⟨_, rfl, Option.some.inj h⟩
def HX12_see : Nat := 1
theorem HX12_see_0 (d : Nat) : 0 < d + HX12_see := Nat.lt_of_lt_of_le (by decide) (Nat.le_add_left _ d)
def fX12_see  (σ : Mem) : Option (Int32 × Mem) := if (σ 269 11) ≤ (σ 269 10) then (some ((-1), σ)) else (gd (inb (σ 269 10) 2400) (some (((σ 270 (Int32.toNatClampNeg (σ 269 10))) &&& 255), σ)))
set_option maxRecDepth 20000 in
theorem sX12_see (G : GT) (d : Nat)   {σ : Mem} {o : (Int32 × Mem)} (h : fX12_see σ = some o) : Spec G yX12_see cX12_see 1 (some .int) (d + HX12_see) [.ref (gA G 269)] σ (kI fun x z => (x, z) = o) := by
  refine spec_run (by decide) (Nat.le_of_ble_eq_true rfl) ?_
  unfold fX12_see at h
  show Run G RX12 cX12_see 1 (some .int) _ 0 [(0, .ref (gA G 269))] [] σ
  refine run_aload_n 0 dX12_see_0 rfl rfl ?_
  refine run_geti fl_X12_164 is_269 (by decide) rfl dX12_see_1 ?_
  refine run_aload_n 0 dX12_see_4 rfl rfl ?_
  refine run_geti fl_X12_167 is_269 (by decide) rfl dX12_see_5 ?_
  refine run_icmp_ge 27 dX12_see_8 (by decide) (fun c1 => ?_) (fun c1 => ?_)
  · rw [if_pos c1] at h
    refine run_iconst (v := -1) dX12_see_27 rfl ?_
    exact run_iret dX12_see_28 ⟨_, rfl, Option.some.inj h⟩
  · rw [if_neg c1] at h
    refine run_aload_n 0 dX12_see_11 rfl rfl ?_
    refine run_getr fl_X12_7 is_269 (by decide) rfl ce_269_1 dX12_see_12 ?_
    refine run_aload_n 0 dX12_see_15 rfl rfl ?_
    refine run_geti fl_X12_164 is_269 (by decide) rfl dX12_see_16 ?_
    obtain ⟨g2, h⟩ := gd_s h
    refine run_bald' is_270 ln_270 g2 rfl dX12_see_19 ?_
    refine run_sipush (v := 255) dX12_see_20 rfl ?_
    refine run_iand dX12_see_23 ?_
    refine run_goto 28 dX12_see_24 (by decide) ?_
    exact run_iret dX12_see_28 ⟨_, rfl, Option.some.inj h⟩
def HX12_token : Nat := 2
theorem HX12_token_X12_in_lt (d : Nat) : d + HX12_in < d + HX12_token := Nat.add_lt_add_left (by decide) d
theorem HX12_token_X12_see_lt (d : Nat) : d + HX12_see < d + HX12_token := Nat.add_lt_add_left (by decide) d
theorem HX12_token_0 (d : Nat) : 0 < d + HX12_token := Nat.lt_of_lt_of_le (by decide) (Nat.le_add_left _ d)
def lX12_token_0  : Nat → Mem → Option (Mem)
  | 0, _ => none
  | n + 1, σ => (fX12_see σ).bind fun q1 => if q1.1 = 10 then (lX12_token_0 n (st2 q1.2 269 10 ((q1.2 269 10) + 1))) else ((fX12_see q1.2).bind fun q4 => if q4.1 = 32 then (lX12_token_0 n (st2 q4.2 269 10 ((q4.2 269 10) + 1))) else (some q4.2))
set_option maxRecDepth 20000 in
theorem lpX12_token_0 (G : GT) (d : Nat)   {K : Option Value → Mem → Prop} : ∀ (n : Nat) (σ : Mem) (o : Mem), lX12_token_0 n σ = some o → (Run G RX12 cX12_token 3 none (mF G (d + HX12_token) K) 31 [(0, .ref (gA G 269))] [] o) → Run G RX12 cX12_token 3 none (mF G (d + HX12_token) K) 0 [(0, .ref (gA G 269))] [] σ := by
  intro n
  induction n with
  | zero => intro σ o h; exact absurd h (by simp [lX12_token_0])
  | succ n ih =>
    intro σ o h kx
    rw [lX12_token_0] at h
    refine run_aload_n 0 dX12_token_0 rfl rfl ?_
    obtain ⟨q1, h7, h⟩ := Option.bind_eq_some_iff.mp h
    refine run_callVi (As := []) (fun r z => (r, z) = q1) mw_X12_see mi_X12_see ml_X12_170 is_269 (by decide) rfl rfl rfl (RF.lt (HX12_token_X12_see_lt d)) (Nat.le_of_ble_eq_true rfl) dX12_token_1 (sX12_see G d  h7) (fun r z h8 => ?_) rfl
    rw [show r = q1.1 from congrArg Prod.fst h8, show z = q1.2 from congrArg Prod.snd h8]
    clear h8
    refine run_bipush (v := 10) dX12_token_4 rfl ?_
    refine run_icmp_eq 18 dX12_token_6 (by decide) (fun c3 => ?_) (fun c3 => ?_)
    · rw [if_pos c3] at h
      refine run_aload_n 0 dX12_token_18 rfl rfl ?_
      refine run_dup dX12_token_19 rfl ?_
      refine run_geti fl_X12_164 is_269 (by decide) rfl dX12_token_20 ?_
      refine run_iconst (v := 1) dX12_token_23 rfl ?_
      refine run_iadd dX12_token_24 ?_
      refine run_puti fp_X12_164 is_269 (by decide) rfl dX12_token_25 ?_
      refine run_goto 0 dX12_token_28 (by decide) ?_
      exact ih _ _ h kx
    · rw [if_neg c3] at h
      refine run_aload_n 0 dX12_token_9 rfl rfl ?_
      obtain ⟨q4, h6, h⟩ := Option.bind_eq_some_iff.mp h
      refine run_callVi (As := []) (fun r z => (r, z) = q4) mw_X12_see mi_X12_see ml_X12_170 is_269 (by decide) rfl rfl rfl (RF.lt (HX12_token_X12_see_lt d)) (Nat.le_of_ble_eq_true rfl) dX12_token_10 (sX12_see G d  h6) (fun r z h8 => ?_) rfl
      rw [show r = q4.1 from congrArg Prod.fst h8, show z = q4.2 from congrArg Prod.snd h8]
      clear h8
      refine run_bipush (v := 32) dX12_token_13 rfl ?_
      refine run_icmp_ne 31 dX12_token_15 (by decide) (fun c5 => ?_) (fun c5 => ?_)
      · rw [if_neg c5] at h
        rw [← Option.some.inj h] at kx
        exact kx
      · rw [if_pos c5] at h
        refine run_aload_n 0 dX12_token_18 rfl rfl ?_
        refine run_dup dX12_token_19 rfl ?_
        refine run_geti fl_X12_164 is_269 (by decide) rfl dX12_token_20 ?_
        refine run_iconst (v := 1) dX12_token_23 rfl ?_
        refine run_iadd dX12_token_24 ?_
        refine run_puti fp_X12_164 is_269 (by decide) rfl dX12_token_25 ?_
        refine run_goto 0 dX12_token_28 (by decide) ?_
        exact ih _ _ h kx
def lX12_token_163  : Nat → Int32 → Mem → Option (Int32 × Mem)
  | 0, _, _ => none
  | n + 1, x2, σ => (fX12_see σ).bind fun q23 => (fX12_in q23.1 48 57 q23.2).bind fun q24 => if q24.1 = true then ((if 2 ≤ x2 then (some ((q24.2 269 14), q24.2)) else ((fX12_see q24.2).bind fun q27 => some (((((10 : Int32) * (q24.2 269 14)) + q27.1) - 48), q27.2)) : Option (Int32 × Mem)).bind fun q29 => lX12_token_163 n (x2 + 1) (st2 (st2 (q29.2) 269 14 (q29.1)) 269 10 (((st2 (q29.2) 269 14 (q29.1)) 269 10) + 1))) else (some (x2, q24.2))
set_option maxRecDepth 20000 in
theorem lpX12_token_163 (G : GT) (d : Nat)   {K : Option Value → Mem → Prop} : ∀ (n : Nat) (x2 : Int32) (σ : Mem) (o : Int32 × Mem), lX12_token_163 n x2 σ = some o → (Run G RX12 cX12_token 3 none (mF G (d + HX12_token) K) 224 [(0, .ref (gA G 269)), (2, .int (o.1))] [] (o.2)) → Run G RX12 cX12_token 3 none (mF G (d + HX12_token) K) 163 [(0, .ref (gA G 269)), (2, .int x2)] [] σ := by
  intro n
  induction n with
  | zero => intro x2 σ o h; exact absurd h (by simp [lX12_token_163])
  | succ n ih =>
    intro x2 σ o h kx
    rw [lX12_token_163] at h
    refine run_aload_n 0 dX12_token_163 rfl rfl ?_
    obtain ⟨q23, h32, h⟩ := Option.bind_eq_some_iff.mp h
    refine run_callVi (As := []) (fun r z => (r, z) = q23) mw_X12_see mi_X12_see ml_X12_170 is_269 (by decide) rfl rfl rfl (RF.lt (HX12_token_X12_see_lt d)) (Nat.le_of_ble_eq_true rfl) dX12_token_164 (sX12_see G d  h32) (fun r z h8 => ?_) rfl
    rw [show r = q23.1 from congrArg Prod.fst h8, show z = q23.2 from congrArg Prod.snd h8]
    clear h8
    refine run_bipush (v := 48) dX12_token_167 rfl ?_
    refine run_bipush (v := 57) dX12_token_169 rfl ?_
    obtain ⟨q24, h31, h⟩ := Option.bind_eq_some_iff.mp h
    refine run_callSb (As := [.int q23.1, .int 48, .int 57]) (fun r z => (r, z) = q24) mw_X12_in ms_X12_in ml_X12_156 rfl (RF.lt (HX12_token_X12_in_lt d)) (Nat.le_of_ble_eq_true rfl) dX12_token_171 (sX12_in G d  h31) (fun r z h8 => ?_) rfl
    rw [show r = q24.1 from congrArg Prod.fst h8, show z = q24.2 from congrArg Prod.snd h8]
    clear h8
    refine run_ifb_eq 224 dX12_token_174 (by decide) (fun c25 => ?_) (fun c25 => ?_)
    · rw [if_neg c25] at h
      rw [← Option.some.inj h] at kx
      exact kx
    · rw [if_pos c25] at h
      refine run_aload_n 0 dX12_token_177 rfl rfl ?_
      refine run_iload_n 1 dX12_token_178 rfl rfl ?_
      refine run_iconst (v := 2) dX12_token_179 rfl ?_
      obtain ⟨q29, h, h9⟩ := Option.bind_eq_some_iff.mp h
      have hj30 : Run G RX12 cX12_token 3 none (mF G (d + HX12_token) K) 205 [(0, .ref (gA G 269)), (2, .int x2)] [.int (q29.1), .ref (gA G 269)] (q29.2) := by
        clear h
        have h := h9
        clear h9
        refine run_puti fp_X12_184 is_269 (by decide) rfl dX12_token_205 ?_
        refine run_aload_n 0 dX12_token_208 rfl rfl ?_
        refine run_dup dX12_token_209 rfl ?_
        refine run_geti fl_X12_164 is_269 (by decide) rfl dX12_token_210 ?_
        refine run_iconst (v := 1) dX12_token_213 rfl ?_
        refine run_iadd dX12_token_214 ?_
        refine run_puti fp_X12_164 is_269 (by decide) rfl dX12_token_215 ?_
        refine run_iinc 1 [(0, .ref (gA G 269)), (2, .int (x2 + 1))] [1, 0] dX12_token_218 rfl rfl (by decide) rfl ?_
        refine run_goto 163 dX12_token_221 (by decide) ?_
        exact ih _ _ _ h kx
      clear h9
      refine run_icmp_ge 201 dX12_token_180 (by decide) (fun c26 => ?_) (fun c26 => ?_)
      · rw [if_pos c26] at h
        refine run_aload_n 0 dX12_token_201 rfl rfl ?_
        refine run_geti fl_X12_184 is_269 (by decide) rfl dX12_token_202 ?_
        rw [← Option.some.inj h] at hj30
        exact hj30
      · rw [if_neg c26] at h
        refine run_bipush (v := 10) dX12_token_183 rfl ?_
        refine run_aload_n 0 dX12_token_185 rfl rfl ?_
        refine run_geti fl_X12_184 is_269 (by decide) rfl dX12_token_186 ?_
        refine run_imul dX12_token_189 ?_
        refine run_aload_n 0 dX12_token_190 rfl rfl ?_
        obtain ⟨q27, h28, h⟩ := Option.bind_eq_some_iff.mp h
        refine run_callVi (As := []) (fun r z => (r, z) = q27) mw_X12_see mi_X12_see ml_X12_170 is_269 (by decide) rfl rfl rfl (RF.lt (HX12_token_X12_see_lt d)) (Nat.le_of_ble_eq_true rfl) dX12_token_191 (sX12_see G d  h28) (fun r z h8 => ?_) rfl
        rw [show r = q27.1 from congrArg Prod.fst h8, show z = q27.2 from congrArg Prod.snd h8]
        clear h8
        refine run_iadd dX12_token_194 ?_
        refine run_bipush (v := 48) dX12_token_195 rfl ?_
        refine run_isub dX12_token_197 ?_
        refine run_goto 205 dX12_token_198 (by decide) ?_
        rw [← Option.some.inj h] at hj30
        exact hj30
def lX12_token_74  : Nat → Int32 → Mem → Option (Int32 × Mem)
  | 0, _, _ => none
  | n + 1, x2, σ => (fX12_see σ).bind fun q42 => (fX12_in q42.1 97 122 q42.2).bind fun q43 => if q43.1 = true then ((fX12_see q43.2).bind fun q45 => (some (st2 (st2 q45.2 269 1015 (lgL (((lgJ (q43.2 269 15) (q43.2 269 1015)) <<< (Int32.toInt64 8 &&& 63)) ||| (Int32.toInt64 q45.1)))) 269 15 (lgH (((lgJ (q43.2 269 15) (q43.2 269 1015)) <<< (Int32.toInt64 8 &&& 63)) ||| (Int32.toInt64 q45.1))))).bind fun s46 => lX12_token_74 n (x2 + 1) (st2 s46 269 10 ((s46 269 10) + 1))) else (some (x2, q43.2))
set_option maxRecDepth 20000 in
theorem lpX12_token_74 (G : GT) (d : Nat)   {K : Option Value → Mem → Prop} : ∀ (n : Nat) (x2 : Int32) (σ : Mem) (o : Int32 × Mem), lX12_token_74 n x2 σ = some o → (Run G RX12 cX12_token 3 none (mF G (d + HX12_token) K) 121 [(0, .ref (gA G 269)), (2, .int (o.1))] [] (o.2)) → Run G RX12 cX12_token 3 none (mF G (d + HX12_token) K) 74 [(0, .ref (gA G 269)), (2, .int x2)] [] σ := by
  intro n
  induction n with
  | zero => intro x2 σ o h; exact absurd h (by simp [lX12_token_74])
  | succ n ih =>
    intro x2 σ o h kx
    rw [lX12_token_74] at h
    refine run_aload_n 0 dX12_token_74 rfl rfl ?_
    obtain ⟨q42, h49, h⟩ := Option.bind_eq_some_iff.mp h
    refine run_callVi (As := []) (fun r z => (r, z) = q42) mw_X12_see mi_X12_see ml_X12_170 is_269 (by decide) rfl rfl rfl (RF.lt (HX12_token_X12_see_lt d)) (Nat.le_of_ble_eq_true rfl) dX12_token_75 (sX12_see G d  h49) (fun r z h8 => ?_) rfl
    rw [show r = q42.1 from congrArg Prod.fst h8, show z = q42.2 from congrArg Prod.snd h8]
    clear h8
    refine run_bipush (v := 97) dX12_token_78 rfl ?_
    refine run_bipush (v := 122) dX12_token_80 rfl ?_
    obtain ⟨q43, h48, h⟩ := Option.bind_eq_some_iff.mp h
    refine run_callSb (As := [.int q42.1, .int 97, .int 122]) (fun r z => (r, z) = q43) mw_X12_in ms_X12_in ml_X12_156 rfl (RF.lt (HX12_token_X12_in_lt d)) (Nat.le_of_ble_eq_true rfl) dX12_token_82 (sX12_in G d  h48) (fun r z h8 => ?_) rfl
    rw [show r = q43.1 from congrArg Prod.fst h8, show z = q43.2 from congrArg Prod.snd h8]
    clear h8
    refine run_ifb_eq 121 dX12_token_85 (by decide) (fun c44 => ?_) (fun c44 => ?_)
    · rw [if_neg c44] at h
      rw [← Option.some.inj h] at kx
      exact kx
    · rw [if_pos c44] at h
      refine run_aload_n 0 dX12_token_88 rfl rfl ?_
      refine run_aload_n 0 dX12_token_89 rfl rfl ?_
      refine run_getl fl_X12_177 is_269 (by decide) rfl dX12_token_90 ?_
      refine run_bipush (v := 8) dX12_token_93 rfl ?_
      refine run_lshl dX12_token_95 ?_
      refine run_aload_n 0 dX12_token_96 rfl rfl ?_
      obtain ⟨q45, h47, h⟩ := Option.bind_eq_some_iff.mp h
      refine run_callVi (As := []) (fun r z => (r, z) = q45) mw_X12_see mi_X12_see ml_X12_170 is_269 (by decide) rfl rfl rfl (RF.lt (HX12_token_X12_see_lt d)) (Nat.le_of_ble_eq_true rfl) dX12_token_97 (sX12_see G d  h47) (fun r z h8 => ?_) rfl
      rw [show r = q45.1 from congrArg Prod.fst h8, show z = q45.2 from congrArg Prod.snd h8]
      clear h8
      refine run_i2l dX12_token_100 ?_
      refine run_lor dX12_token_101 ?_
      refine run_putl fp_X12_177 is_269 (by decide) rfl dX12_token_102 ?_
      rw [Option.bind_some] at h
      refine run_mem (fun s46 es46 => ?_)
      rw [← es46] at h
      refine run_aload_n 0 dX12_token_105 rfl rfl ?_
      refine run_dup dX12_token_106 rfl ?_
      refine run_geti fl_X12_164 is_269 (by decide) rfl dX12_token_107 ?_
      refine run_iconst (v := 1) dX12_token_110 rfl ?_
      refine run_iadd dX12_token_111 ?_
      refine run_puti fp_X12_164 is_269 (by decide) rfl dX12_token_112 ?_
      refine run_iinc 1 [(0, .ref (gA G 269)), (2, .int (x2 + 1))] [1, 0] dX12_token_115 rfl rfl (by decide) rfl ?_
      refine run_goto 74 dX12_token_118 (by decide) ?_
      exact ih _ _ _ h kx
def fX12_token  (σ : Mem) : Option Mem := (lX12_token_0 FU σ).bind fun q8 => (fX12_see (st2 q8 269 12 (q8 269 10))).bind fun q9 => if 0 ≤ q9.1 then ((fX12_in q9.1 97 122 (st2 (st2 q9.2 269 1015 (lgL 0)) 269 15 (lgH 0))).bind fun q11 => if q11.1 = true then ((lX12_token_74 FU 0 q11.2).bind fun q50 => (if (q50.1) ≤ 8 then (some (lgJ ((q50.2) 269 15) ((q50.2) 269 1015))) else (some 0) : Option (Int64)).bind fun q52 => some (st2 (st2 (st2 (q50.2) 269 1015 (lgL q52)) 269 15 (lgH q52)) 269 13 2)) else ((fX12_in q9.1 48 57 q11.2).bind fun q13 => if q13.1 = true then ((lX12_token_163 FU 0 (st2 q13.2 269 14 0)).bind fun q33 => if (q33.1) ≤ 2 then (some (st2 (q33.2) 269 13 3)) else (some (st2 (q33.2) 269 13 1))) else (if q9.1 = 59 then (some (st2 (st2 q13.2 269 10 ((q13.2 269 10) + 1)) 269 13 4)) else (some (st2 (st2 q13.2 269 10 ((q13.2 269 10) + 1)) 269 13 1))))) else (some (st2 (st2 (st2 q9.2 269 1015 (lgL 0)) 269 15 (lgH 0)) 269 13 0))
set_option maxRecDepth 20000 in
theorem sX12_token (G : GT) (d : Nat)   {σ : Mem} {o : Mem} (h : fX12_token σ = some o) : Spec G yX12_token cX12_token 3 none (d + HX12_token) [.ref (gA G 269)] σ (kV fun z => z = o) := by
  refine spec_run (by decide) (Nat.le_of_ble_eq_true rfl) ?_
  unfold fX12_token at h
  show Run G RX12 cX12_token 3 none _ 0 [(0, .ref (gA G 269))] [] σ
  obtain ⟨q8, h57, h⟩ := Option.bind_eq_some_iff.mp h
  refine lpX12_token_0 G d _ _ _ h57 ?_
  refine run_aload_n 0 dX12_token_31 rfl rfl ?_
  refine run_aload_n 0 dX12_token_32 rfl rfl ?_
  refine run_geti fl_X12_164 is_269 (by decide) rfl dX12_token_33 ?_
  refine run_puti fp_X12_174 is_269 (by decide) rfl dX12_token_36 ?_
  refine run_aload_n 0 dX12_token_39 rfl rfl ?_
  obtain ⟨q9, h56, h⟩ := Option.bind_eq_some_iff.mp h
  refine run_callVi (As := []) (fun r z => (r, z) = q9) mw_X12_see mi_X12_see ml_X12_170 is_269 (by decide) rfl rfl rfl (RF.lt (HX12_token_X12_see_lt d)) (Nat.le_of_ble_eq_true rfl) dX12_token_40 (sX12_see G d  h56) (fun r z h8 => ?_) rfl
  rw [show r = q9.1 from congrArg Prod.fst h8, show z = q9.2 from congrArg Prod.snd h8]
  clear h8
  refine run_istore_n [(0, .ref (gA G 269)), (1, .int q9.1)] [1, 0] dX12_token_43 rfl (by decide) rfl ?_
  refine run_aload_n 0 dX12_token_44 rfl rfl ?_
  refine run_lconst (v := 0) dX12_token_45 rfl ?_
  refine run_putl fp_X12_177 is_269 (by decide) rfl dX12_token_46 ?_
  refine run_iconst (v := 0) dX12_token_49 rfl ?_
  refine run_istore_n [(0, .ref (gA G 269)), (1, .int q9.1), (2, .int 0)] [1, 2, 0] dX12_token_50 rfl (by decide) rfl ?_
  refine run_iload_n 1 dX12_token_51 rfl rfl ?_
  refine run_if_ge 63 dX12_token_52 (by decide) (fun c10 => ?_) (fun c10 => ?_)
  · rw [if_pos c10] at h
    refine run_iload_n 1 dX12_token_63 rfl rfl ?_
    refine run_bipush (v := 97) dX12_token_64 rfl ?_
    refine run_bipush (v := 122) dX12_token_66 rfl ?_
    obtain ⟨q11, h55, h⟩ := Option.bind_eq_some_iff.mp h
    refine run_callSb (As := [.int q9.1, .int 97, .int 122]) (fun r z => (r, z) = q11) mw_X12_in ms_X12_in ml_X12_156 rfl (RF.lt (HX12_token_X12_in_lt d)) (Nat.le_of_ble_eq_true rfl) dX12_token_68 (sX12_in G d  h55) (fun r z h8 => ?_) rfl
    rw [show r = q11.1 from congrArg Prod.fst h8, show z = q11.2 from congrArg Prod.snd h8]
    clear h8
    refine run_ifb_eq 147 dX12_token_71 (by decide) (fun c12 => ?_) (fun c12 => ?_)
    · rw [if_neg c12] at h
      refine run_iload_n 1 dX12_token_147 rfl rfl ?_
      refine run_bipush (v := 48) dX12_token_148 rfl ?_
      refine run_bipush (v := 57) dX12_token_150 rfl ?_
      obtain ⟨q13, h36, h⟩ := Option.bind_eq_some_iff.mp h
      refine run_callSb (As := [.int q9.1, .int 48, .int 57]) (fun r z => (r, z) = q13) mw_X12_in ms_X12_in ml_X12_156 rfl (RF.lt (HX12_token_X12_in_lt d)) (Nat.le_of_ble_eq_true rfl) dX12_token_152 (sX12_in G d  h36) (fun r z h8 => ?_) rfl
      rw [show r = q13.1 from congrArg Prod.fst h8, show z = q13.2 from congrArg Prod.snd h8]
      clear h8
      refine run_ifb_eq 241 dX12_token_155 (by decide) (fun c14 => ?_) (fun c14 => ?_)
      · rw [if_neg c14] at h
        refine run_aload_n 0 dX12_token_241 rfl rfl ?_
        refine run_dup dX12_token_242 rfl ?_
        refine run_geti fl_X12_164 is_269 (by decide) rfl dX12_token_243 ?_
        refine run_iconst (v := 1) dX12_token_246 rfl ?_
        refine run_iadd dX12_token_247 ?_
        refine run_puti fp_X12_164 is_269 (by decide) rfl dX12_token_248 ?_
        refine run_aload_n 0 dX12_token_251 rfl rfl ?_
        refine run_iload_n 1 dX12_token_252 rfl rfl ?_
        refine run_bipush (v := 59) dX12_token_253 rfl ?_
        refine run_icmp_ne 262 dX12_token_255 (by decide) (fun c15 => ?_) (fun c15 => ?_)
        · rw [if_neg c15] at h
          refine run_iconst (v := 1) dX12_token_262 rfl ?_
          refine run_puti fp_X12_181 is_269 (by decide) rfl dX12_token_263 ?_
          exact run_vret dX12_token_266 ⟨rfl, Option.some.inj h⟩
        · rw [if_pos c15] at h
          refine run_iconst (v := 4) dX12_token_258 rfl ?_
          refine run_goto 263 dX12_token_259 (by decide) ?_
          refine run_puti fp_X12_181 is_269 (by decide) rfl dX12_token_263 ?_
          exact run_vret dX12_token_266 ⟨rfl, Option.some.inj h⟩
      · rw [if_pos c14] at h
        refine run_aload_n 0 dX12_token_158 rfl rfl ?_
        refine run_iconst (v := 0) dX12_token_159 rfl ?_
        refine run_puti fp_X12_184 is_269 (by decide) rfl dX12_token_160 ?_
        obtain ⟨q33, h35, h⟩ := Option.bind_eq_some_iff.mp h
        refine run_forget [0, 2] rfl ?_
        refine lpX12_token_163 G d _ _ _ _ h35 ?_
        refine run_aload_n 0 dX12_token_224 rfl rfl ?_
        refine run_iload_n 1 dX12_token_225 rfl rfl ?_
        refine run_iconst (v := 2) dX12_token_226 rfl ?_
        refine run_icmp_le 234 dX12_token_227 (by decide) (fun c34 => ?_) (fun c34 => ?_)
        · rw [if_pos c34] at h
          refine run_iconst (v := 3) dX12_token_234 rfl ?_
          refine run_puti fp_X12_181 is_269 (by decide) rfl dX12_token_235 ?_
          refine run_goto 266 dX12_token_238 (by decide) ?_
          exact run_vret dX12_token_266 ⟨rfl, Option.some.inj h⟩
        · rw [if_neg c34] at h
          refine run_iconst (v := 1) dX12_token_230 rfl ?_
          refine run_goto 235 dX12_token_231 (by decide) ?_
          refine run_puti fp_X12_181 is_269 (by decide) rfl dX12_token_235 ?_
          refine run_goto 266 dX12_token_238 (by decide) ?_
          exact run_vret dX12_token_266 ⟨rfl, Option.some.inj h⟩
    · rw [if_pos c12] at h
      obtain ⟨q50, h54, h⟩ := Option.bind_eq_some_iff.mp h
      refine run_forget [0, 2] rfl ?_
      refine lpX12_token_74 G d _ _ _ _ h54 ?_
      refine run_aload_n 0 dX12_token_121 rfl rfl ?_
      refine run_iload_n 1 dX12_token_122 rfl rfl ?_
      refine run_bipush (v := 8) dX12_token_123 rfl ?_
      obtain ⟨q52, h, h9⟩ := Option.bind_eq_some_iff.mp h
      have hj53 : Run G RX12 cX12_token 3 none (mF G (d + HX12_token) (kV fun z => z = o)) 136 [(0, .ref (gA G 269))] [.long q52, .ref (gA G 269)] (q50.2) := by
        clear h
        have h := h9
        clear h9
        refine run_putl fp_X12_177 is_269 (by decide) rfl dX12_token_136 ?_
        refine run_aload_n 0 dX12_token_139 rfl rfl ?_
        refine run_iconst (v := 2) dX12_token_140 rfl ?_
        refine run_puti fp_X12_181 is_269 (by decide) rfl dX12_token_141 ?_
        refine run_goto 266 dX12_token_144 (by decide) ?_
        exact run_vret dX12_token_266 ⟨rfl, Option.some.inj h⟩
      clear h9
      refine run_icmp_le 132 dX12_token_125 (by decide) (fun c51 => ?_) (fun c51 => ?_)
      · rw [if_pos c51] at h
        refine run_aload_n 0 dX12_token_132 rfl rfl ?_
        refine run_getl fl_X12_177 is_269 (by decide) rfl dX12_token_133 ?_
        rw [← Option.some.inj h] at hj53
        refine run_forget [0] rfl ?_
        exact hj53
      · rw [if_neg c51] at h
        refine run_lconst (v := 0) dX12_token_128 rfl ?_
        refine run_goto 136 dX12_token_129 (by decide) ?_
        rw [← Option.some.inj h] at hj53
        refine run_forget [0] rfl ?_
        exact hj53
  · rw [if_neg c10] at h
    refine run_aload_n 0 dX12_token_55 rfl rfl ?_
    refine run_iconst (v := 0) dX12_token_56 rfl ?_
    refine run_puti fp_X12_181 is_269 (by decide) rfl dX12_token_57 ?_
    refine run_goto 266 dX12_token_60 (by decide) ?_
    exact run_vret dX12_token_266 ⟨rfl, Option.some.inj h⟩
def HX12_fails : Nat := 1
theorem HX12_fails_0 (d : Nat) : 0 < d + HX12_fails := Nat.lt_of_lt_of_le (by decide) (Nat.le_add_left _ d)
def fX12_fails  (σ : Mem) : Option (Bool × Mem) := some (false, (st2 σ 269 16 (σ 269 12)))
set_option maxRecDepth 20000 in
theorem sX12_fails (G : GT) (d : Nat)   {σ : Mem} {o : (Bool × Mem)} (h : fX12_fails σ = some o) : Spec G yX12_fails cX12_fails 1 (some .boolean) (d + HX12_fails) [.ref (gA G 269)] σ (kB fun x z => (x, z) = o) := by
  refine spec_run (by decide) (Nat.le_of_ble_eq_true rfl) ?_
  unfold fX12_fails at h
  show Run G RX12 cX12_fails 1 (some .boolean) _ 0 [(0, .ref (gA G 269))] [] σ
  refine run_aload_n 0 dX12_fails_0 rfl rfl ?_
  refine run_aload_n 0 dX12_fails_1 rfl rfl ?_
  refine run_geti fl_X12_174 is_269 (by decide) rfl dX12_fails_2 ?_
  refine run_puti fp_X12_187 is_269 (by decide) rfl dX12_fails_5 ?_
  refine run_iconst (v := 0) dX12_fails_8 rfl ?_
  exact run_bret (b := false) dX12_fails_9 ⟨_, rfl, Option.some.inj h⟩
def HX12_addsFault : Nat := 1
theorem HX12_addsFault_0 (d : Nat) : 0 < d + HX12_addsFault := Nat.lt_of_lt_of_le (by decide) (Nat.le_add_left _ d)
def fX12_addsFault (x1 : Int32) (x2 : Int32) (σ : Mem) : Option Mem := if (σ 269 17) = 0 then (some (st2 (st2 σ 269 17 x1) 269 18 x2)) else (if x2 < (σ 269 18) then (some (st2 (st2 σ 269 17 x1) 269 18 x2)) else (if x2 = (σ 269 18) then (if (σ 269 17) ≤ x1 then (some σ) else (some (st2 (st2 σ 269 17 x1) 269 18 x2))) else (some σ)))
set_option maxRecDepth 20000 in
theorem sX12_addsFault (G : GT) (d : Nat) {x1 : Int32} {x2 : Int32}  {σ : Mem} {o : Mem} (h : fX12_addsFault x1 x2 σ = some o) : Spec G yX12_addsFault cX12_addsFault 3 none (d + HX12_addsFault) [.ref (gA G 269), .int x1, .int x2] σ (kV fun z => z = o) := by
  refine spec_run (by decide) (Nat.le_of_ble_eq_true rfl) ?_
  unfold fX12_addsFault at h
  show Run G RX12 cX12_addsFault 3 none _ 0 [(0, .ref (gA G 269)), (1, .int x1), (2, .int x2)] [] σ
  refine run_aload_n 0 dX12_addsFault_0 rfl rfl ?_
  refine run_geti fl_X12_190 is_269 (by decide) rfl dX12_addsFault_1 ?_
  refine run_if_eq 31 dX12_addsFault_4 (by decide) (fun c1 => ?_) (fun c1 => ?_)
  · rw [if_pos c1] at h
    refine run_aload_n 0 dX12_addsFault_31 rfl rfl ?_
    refine run_iload_n 1 dX12_addsFault_32 rfl rfl ?_
    refine run_puti fp_X12_190 is_269 (by decide) rfl dX12_addsFault_33 ?_
    refine run_aload_n 0 dX12_addsFault_36 rfl rfl ?_
    refine run_iload_n 2 dX12_addsFault_37 rfl rfl ?_
    refine run_puti fp_X12_193 is_269 (by decide) rfl dX12_addsFault_38 ?_
    exact run_vret dX12_addsFault_41 ⟨rfl, Option.some.inj h⟩
  · rw [if_neg c1] at h
    refine run_iload_n 2 dX12_addsFault_7 rfl rfl ?_
    refine run_aload_n 0 dX12_addsFault_8 rfl rfl ?_
    refine run_geti fl_X12_193 is_269 (by decide) rfl dX12_addsFault_9 ?_
    refine run_icmp_lt 31 dX12_addsFault_12 (by decide) (fun c2 => ?_) (fun c2 => ?_)
    · rw [if_pos c2] at h
      refine run_aload_n 0 dX12_addsFault_31 rfl rfl ?_
      refine run_iload_n 1 dX12_addsFault_32 rfl rfl ?_
      refine run_puti fp_X12_190 is_269 (by decide) rfl dX12_addsFault_33 ?_
      refine run_aload_n 0 dX12_addsFault_36 rfl rfl ?_
      refine run_iload_n 2 dX12_addsFault_37 rfl rfl ?_
      refine run_puti fp_X12_193 is_269 (by decide) rfl dX12_addsFault_38 ?_
      exact run_vret dX12_addsFault_41 ⟨rfl, Option.some.inj h⟩
    · rw [if_neg c2] at h
      refine run_iload_n 2 dX12_addsFault_15 rfl rfl ?_
      refine run_aload_n 0 dX12_addsFault_16 rfl rfl ?_
      refine run_geti fl_X12_193 is_269 (by decide) rfl dX12_addsFault_17 ?_
      refine run_icmp_ne 41 dX12_addsFault_20 (by decide) (fun c3 => ?_) (fun c3 => ?_)
      · rw [if_neg c3] at h
        exact run_vret dX12_addsFault_41 ⟨rfl, Option.some.inj h⟩
      · rw [if_pos c3] at h
        refine run_iload_n 1 dX12_addsFault_23 rfl rfl ?_
        refine run_aload_n 0 dX12_addsFault_24 rfl rfl ?_
        refine run_geti fl_X12_190 is_269 (by decide) rfl dX12_addsFault_25 ?_
        refine run_icmp_ge 41 dX12_addsFault_28 (by decide) (fun c4 => ?_) (fun c4 => ?_)
        · rw [if_pos c4] at h
          exact run_vret dX12_addsFault_41 ⟨rfl, Option.some.inj h⟩
        · rw [if_neg c4] at h
          refine run_aload_n 0 dX12_addsFault_31 rfl rfl ?_
          refine run_iload_n 1 dX12_addsFault_32 rfl rfl ?_
          refine run_puti fp_X12_190 is_269 (by decide) rfl dX12_addsFault_33 ?_
          refine run_aload_n 0 dX12_addsFault_36 rfl rfl ?_
          refine run_iload_n 2 dX12_addsFault_37 rfl rfl ?_
          refine run_puti fp_X12_193 is_269 (by decide) rfl dX12_addsFault_38 ?_
          exact run_vret dX12_addsFault_41 ⟨rfl, Option.some.inj h⟩
def HX12_take : Nat := 3
theorem HX12_take_X12_addsFault_lt (d : Nat) : d + HX12_addsFault < d + HX12_take := Nat.add_lt_add_left (by decide) d
theorem HX12_take_X12_fails_lt (d : Nat) : d + HX12_fails < d + HX12_take := Nat.add_lt_add_left (by decide) d
theorem HX12_take_X12_in_lt (d : Nat) : d + HX12_in < d + HX12_take := Nat.add_lt_add_left (by decide) d
theorem HX12_take_X12_token_lt (d : Nat) : d + HX12_token < d + HX12_take := Nat.add_lt_add_left (by decide) d
theorem HX12_take_0 (d : Nat) : 0 < d + HX12_take := Nat.lt_of_lt_of_le (by decide) (Nat.le_add_left _ d)
def fX12_take (x1 : Int32) (x2 : Int32) (x3 : Int32) (σ : Mem) : Option (Bool × Mem) := if (σ 269 13) = 3 then (gd (inb x1 3) ((fX12_in ((st2 σ 280 (Int32.toNatClampNeg x1) (σ 269 14)) 269 14) x2 x3 (st2 σ 280 (Int32.toNatClampNeg x1) (σ 269 14))).bind fun q3 => (if q3.1 = true then (some q3.2) else ((fX12_addsFault 2 (q3.2 269 12) q3.2).bind fun q5 => some (st2 q5 269 21 0)) : Option (Mem)).bind fun q7 => (fX12_token q7).bind fun q8 => some (true, q8))) else ((fX12_fails σ).bind fun q12 => some (q12.1, q12.2))
set_option maxRecDepth 20000 in
theorem sX12_take (G : GT) (d : Nat) {x1 : Int32} {x2 : Int32} {x3 : Int32}  {σ : Mem} {o : (Bool × Mem)} (h : fX12_take x1 x2 x3 σ = some o) : Spec G yX12_take cX12_take 4 (some .boolean) (d + HX12_take) [.ref (gA G 269), .int x1, .int x2, .int x3] σ (kB fun x z => (x, z) = o) := by
  refine spec_run (by decide) (Nat.le_of_ble_eq_true rfl) ?_
  unfold fX12_take at h
  show Run G RX12 cX12_take 4 (some .boolean) _ 0 [(0, .ref (gA G 269)), (1, .int x1), (2, .int x2), (3, .int x3)] [] σ
  refine run_aload_n 0 dX12_take_0 rfl rfl ?_
  refine run_geti fl_X12_181 is_269 (by decide) rfl dX12_take_1 ?_
  refine run_iconst (v := 3) dX12_take_4 rfl ?_
  refine run_icmp_eq 13 dX12_take_5 (by decide) (fun c1 => ?_) (fun c1 => ?_)
  · rw [if_pos c1] at h
    refine run_aload_n 0 dX12_take_13 rfl rfl ?_
    refine run_getr fl_X12_41 is_269 (by decide) rfl ce_269_20 dX12_take_14 ?_
    refine run_iload_n 1 dX12_take_17 rfl rfl ?_
    refine run_aload_n 0 dX12_take_18 rfl rfl ?_
    refine run_geti fl_X12_184 is_269 (by decide) rfl dX12_take_19 ?_
    obtain ⟨g2, h⟩ := gd_s h
    refine run_iast' is_280 ln_280 g2 rfl dX12_take_22 ?_
    refine run_aload_n 0 dX12_take_23 rfl rfl ?_
    refine run_geti fl_X12_184 is_269 (by decide) rfl dX12_take_24 ?_
    refine run_iload_n 2 dX12_take_27 rfl rfl ?_
    refine run_iload_n 3 dX12_take_28 rfl rfl ?_
    obtain ⟨q3, h11, h⟩ := Option.bind_eq_some_iff.mp h
    refine run_callSb (As := [.int ((st2 σ 280 (Int32.toNatClampNeg x1) (σ 269 14)) 269 14), .int x2, .int x3]) (fun r z => (r, z) = q3) mw_X12_in ms_X12_in ml_X12_156 rfl (RF.lt (HX12_take_X12_in_lt d)) (Nat.le_of_ble_eq_true rfl) dX12_take_29 (sX12_in G d  h11) (fun r z h8 => ?_) rfl
    rw [show r = q3.1 from congrArg Prod.fst h8, show z = q3.2 from congrArg Prod.snd h8]
    clear h8
    obtain ⟨q7, h, h9⟩ := Option.bind_eq_some_iff.mp h
    have hj10 : Run G RX12 cX12_take 4 (some .boolean) (mF G (d + HX12_take) (kB fun x z => (x, z) = o)) 49 [(0, .ref (gA G 269))] [] q7 := by
      clear h
      have h := h9
      clear h9
      refine run_aload_n 0 dX12_take_49 rfl rfl ?_
      obtain ⟨q8, h9, h⟩ := Option.bind_eq_some_iff.mp h
      refine run_callVv (As := []) (fun z => z = q8) mw_X12_token mi_X12_token ml_X12_208 is_269 (by decide) rfl rfl rfl (RF.lt (HX12_take_X12_token_lt d)) (Nat.le_of_ble_eq_true rfl) dX12_take_50 (sX12_token G d  h9) (fun z h8 => ?_) rfl
      rw [h8]
      clear h8
      refine run_iconst (v := 1) dX12_take_53 rfl ?_
      exact run_bret (b := true) dX12_take_54 ⟨_, rfl, Option.some.inj h⟩
    clear h9
    refine run_ifb_ne 49 dX12_take_32 (by decide) (fun c4 => ?_) (fun c4 => ?_)
    · rw [if_pos c4] at h
      rw [← Option.some.inj h] at hj10
      refine run_forget [0] rfl ?_
      exact hj10
    · rw [if_neg c4] at h
      refine run_aload_n 0 dX12_take_35 rfl rfl ?_
      refine run_iconst (v := 2) dX12_take_36 rfl ?_
      refine run_aload_n 0 dX12_take_37 rfl rfl ?_
      refine run_geti fl_X12_174 is_269 (by decide) rfl dX12_take_38 ?_
      obtain ⟨q5, h6, h⟩ := Option.bind_eq_some_iff.mp h
      refine run_callVv (As := [.int 2, .int (q3.2 269 12)]) (fun z => z = q5) mw_X12_addsFault mi_X12_addsFault ml_X12_200 is_269 (by decide) rfl rfl rfl (RF.lt (HX12_take_X12_addsFault_lt d)) (Nat.le_of_ble_eq_true rfl) dX12_take_41 (sX12_addsFault G d  h6) (fun z h8 => ?_) rfl
      rw [h8]
      clear h8
      refine run_aload_n 0 dX12_take_44 rfl rfl ?_
      refine run_iconst (v := 0) dX12_take_45 rfl ?_
      refine run_putz fp_X12_204 is_269 (by decide) rfl (by decide) dX12_take_46 ?_
      rw [← Option.some.inj h] at hj10
      refine run_forget [0] rfl ?_
      exact hj10
  · rw [if_neg c1] at h
    refine run_aload_n 0 dX12_take_8 rfl rfl ?_
    obtain ⟨q12, h13, h⟩ := Option.bind_eq_some_iff.mp h
    refine run_callVb (As := []) (fun r z => (r, z) = q12) mw_X12_fails mi_X12_fails ml_X12_196 is_269 (by decide) rfl rfl rfl (RF.lt (HX12_take_X12_fails_lt d)) (Nat.le_of_ble_eq_true rfl) dX12_take_9 (sX12_fails G d  h13) (fun r z h8 => ?_) rfl
    rw [show r = q12.1 from congrArg Prod.fst h8, show z = q12.2 from congrArg Prod.snd h8]
    clear h8
    exact run_bret (b := q12.1) dX12_take_12 ⟨_, rfl, Option.some.inj h⟩
