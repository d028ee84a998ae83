/-! methods, translated -/
def HX12_crash : Nat := 4
theorem HX12_crash_X12_durable_lt (d : Nat) : d + HX12_durable < d + HX12_crash := Nat.add_lt_add_left (by decide) d
theorem HX12_crash_X12_idle_lt (d : Nat) : d + HX12_idle < d + HX12_crash := Nat.add_lt_add_left (by decide) d
theorem HX12_crash_X12_isSafe_lt (d : Nat) : d + HX12_isSafe < d + HX12_crash := Nat.add_lt_add_left (by decide) d
theorem HX12_crash_X12_layLeft_lt (d : Nat) : d + HX12_layLeft < d + HX12_crash := Nat.add_lt_add_left (by decide) d
theorem HX12_crash_X12_loses_lt (d : Nat) : d + HX12_loses < d + HX12_crash := Nat.add_lt_add_left (by decide) d
theorem HX12_crash_0 (d : Nat) : 0 < d + HX12_crash := Nat.lt_of_lt_of_le (by decide) (Nat.le_add_left _ d)
def lX12_crash_42 (x1 : Int32) : Nat → Int32 → Mem → Option (Mem)
  | 0, _, _ => none
  | n + 1, x2, σ => if 10 ≤ x2 then (some σ) else (gd (inb x2 10) (gd (inb x2 10) (gd (inb x2 10) (gd (inb x2 10) ((some (st2 (st2 σ 281 (Int32.toNatClampNeg x2) (σ 306 (Int32.toNatClampNeg x2))) 282 (Int32.toNatClampNeg x2) ((st2 σ 281 (Int32.toNatClampNeg x2) (σ 306 (Int32.toNatClampNeg x2))) 307 (Int32.toNatClampNeg x2)))).bind fun s17 => gd (inb x2 10) (lX12_crash_42 x1 n (x2 + 1) (st2 s17 283 (Int32.toNatClampNeg x2) 0)))))))
set_option maxRecDepth 20000 in
theorem lpX12_crash_42 (G : GT) (d : Nat) (x1 : Int32)  {K : Option Value → Mem → Prop} : ∀ (n : Nat) (x2 : Int32) (σ : Mem) (o : Mem), lX12_crash_42 x1 n x2 σ = some o → (Run G RX12 cX12_crash 3 (some .boolean) (mF G (d + HX12_crash) K) 85 [(0, .ref (gA G 269)), (1, .int x1)] [] o) → Run G RX12 cX12_crash 3 (some .boolean) (mF G (d + HX12_crash) K) 42 [(0, .ref (gA G 269)), (1, .int x1), (2, .int x2)] [] σ := by
  intro n
  induction n with
  | zero => intro x2 σ o h; exact absurd h (by simp [lX12_crash_42])
  | succ n ih =>
    intro x2 σ o h kx
    rw [lX12_crash_42] at h
    refine run_iload_n 2 dX12_crash_42 rfl rfl ?_
    refine run_bipush (v := 10) dX12_crash_43 rfl ?_
    refine run_icmp_ge 85 dX12_crash_45 (by decide) (fun c12 => ?_) (fun c12 => ?_)
    · rw [if_pos c12] at h
      rw [← Option.some.inj h] at kx
      refine run_forget [0, 1] rfl ?_
      exact kx
    · rw [if_neg c12] at h
      refine run_aload_n 0 dX12_crash_48 rfl rfl ?_
      refine run_getr fl_X12_44 is_269 (by decide) rfl ce_269_31 dX12_crash_49 ?_
      refine run_iload_n 2 dX12_crash_52 rfl rfl ?_
      refine run_aload_n 0 dX12_crash_53 rfl rfl ?_
      refine run_getr fl_X12_119 is_269 (by decide) rfl ce_269_67 dX12_crash_54 ?_
      refine run_iload_n 2 dX12_crash_57 rfl rfl ?_
      obtain ⟨g13, h⟩ := gd_s h
      refine run_iald' is_306 ln_306 g13 rfl dX12_crash_58 ?_
      obtain ⟨g14, h⟩ := gd_s h
      refine run_iast' is_281 ln_281 g14 rfl dX12_crash_59 ?_
      refine run_aload_n 0 dX12_crash_60 rfl rfl ?_
      refine run_getr fl_X12_47 is_269 (by decide) rfl ce_269_32 dX12_crash_61 ?_
      refine run_iload_n 2 dX12_crash_64 rfl rfl ?_
      refine run_aload_n 0 dX12_crash_65 rfl rfl ?_
      refine run_getr fl_X12_122 is_269 (by decide) rfl ce_269_68 dX12_crash_66 ?_
      refine run_iload_n 2 dX12_crash_69 rfl rfl ?_
      obtain ⟨g15, h⟩ := gd_s h
      refine run_iald' is_307 ln_307 g15 rfl dX12_crash_70 ?_
      obtain ⟨g16, h⟩ := gd_s h
      refine run_iast' is_282 ln_282 g16 rfl dX12_crash_71 ?_
      rw [Option.bind_some] at h
      refine run_mem (fun s17 es17 => ?_)
      rw [← es17] at h
      refine run_aload_n 0 dX12_crash_72 rfl rfl ?_
      refine run_getr fl_X12_50 is_269 (by decide) rfl ce_269_33 dX12_crash_73 ?_
      refine run_iload_n 2 dX12_crash_76 rfl rfl ?_
      refine run_iconst (v := 0) dX12_crash_77 rfl ?_
      obtain ⟨g18, h⟩ := gd_s h
      refine run_iast' is_283 ln_283 g18 rfl dX12_crash_78 ?_
      refine run_iinc 2 [(0, .ref (gA G 269)), (1, .int x1), (2, .int (x2 + 1))] [1, 2, 0] dX12_crash_79 rfl rfl (by decide) rfl ?_
      refine run_goto 42 dX12_crash_82 (by decide) ?_
      exact ih _ _ _ h kx
def lX12_crash_87 (x1 : Int32) : Nat → Int32 → Mem → Option (Mem)
  | 0, _, _ => none
  | n + 1, x2, σ => if (σ 269 54) ≤ x2 then (some σ) else ((fX12_isSafe x2 x1 σ).bind fun q27 => (if q27.1 = true then (gd (inb x2 64) (some (q27.2 295 (Int32.toNatClampNeg x2)))) else (some (-1)) : Option (Int32)).bind fun q30 => gd (inb x2 64) (lX12_crash_87 x1 n (x2 + 1) (st2 q27.2 295 (Int32.toNatClampNeg x2) q30)))
set_option maxRecDepth 20000 in
theorem lpX12_crash_87 (G : GT) (d : Nat) (x1 : Int32)  {K : Option Value → Mem → Prop} : ∀ (n : Nat) (x2 : Int32) (σ : Mem) (o : Mem), lX12_crash_87 x1 n x2 σ = some o → (Run G RX12 cX12_crash 3 (some .boolean) (mF G (d + HX12_crash) K) 126 [(0, .ref (gA G 269)), (1, .int x1)] [] o) → Run G RX12 cX12_crash 3 (some .boolean) (mF G (d + HX12_crash) K) 87 [(0, .ref (gA G 269)), (1, .int x1), (2, .int x2)] [] σ := by
  intro n
  induction n with
  | zero => intro x2 σ o h; exact absurd h (by simp [lX12_crash_87])
  | succ n ih =>
    intro x2 σ o h kx
    rw [lX12_crash_87] at h
    refine run_iload_n 2 dX12_crash_87 rfl rfl ?_
    refine run_aload_n 0 dX12_crash_88 rfl rfl ?_
    refine run_geti fl_X12_345 is_269 (by decide) rfl dX12_crash_89 ?_
    refine run_icmp_ge 126 dX12_crash_92 (by decide) (fun c26 => ?_) (fun c26 => ?_)
    · rw [if_pos c26] at h
      rw [← Option.some.inj h] at kx
      refine run_forget [0, 1] rfl ?_
      exact kx
    · rw [if_neg c26] at h
      refine run_aload_n 0 dX12_crash_95 rfl rfl ?_
      refine run_getr fl_X12_86 is_269 (by decide) rfl ce_269_45 dX12_crash_96 ?_
      refine run_iload_n 2 dX12_crash_99 rfl rfl ?_
      refine run_aload_n 0 dX12_crash_100 rfl rfl ?_
      refine run_iload_n 2 dX12_crash_101 rfl rfl ?_
      refine run_iload_n 1 dX12_crash_102 rfl rfl ?_
      obtain ⟨q27, h33, h⟩ := Option.bind_eq_some_iff.mp h
      refine run_callVb (As := [.int x2, .int x1]) (fun r z => (r, z) = q27) mw_X12_isSafe mi_X12_isSafe ml_X12_433 is_269 (by decide) rfl rfl rfl (RF.lt (HX12_crash_X12_isSafe_lt d)) (Nat.le_of_ble_eq_true rfl) dX12_crash_103 (sX12_isSafe G d  h33) (fun r z h8 => ?_) rfl
      rw [show r = q27.1 from congrArg Prod.fst h8, show z = q27.2 from congrArg Prod.snd h8]
      clear h8
      obtain ⟨q30, h, h9⟩ := Option.bind_eq_some_iff.mp h
      have hj32 : Run G RX12 cX12_crash 3 (some .boolean) (mF G (d + HX12_crash) K) 119 [(0, .ref (gA G 269)), (1, .int x1), (2, .int x2)] [.int q30, .int x2, .ref (gA G 295)] q27.2 := by
        clear h
        have h := h9
        clear h9
        obtain ⟨g31, h⟩ := gd_s h
        refine run_iast' is_295 ln_295 g31 rfl dX12_crash_119 ?_
        refine run_iinc 2 [(0, .ref (gA G 269)), (1, .int x1), (2, .int (x2 + 1))] [1, 2, 0] dX12_crash_120 rfl rfl (by decide) rfl ?_
        refine run_goto 87 dX12_crash_123 (by decide) ?_
        exact ih _ _ _ h kx
      clear h9
      refine run_ifb_eq 118 dX12_crash_106 (by decide) (fun c28 => ?_) (fun c28 => ?_)
      · rw [if_neg c28] at h
        refine run_iconst (v := -1) dX12_crash_118 rfl ?_
        rw [← Option.some.inj h] at hj32
        exact hj32
      · rw [if_pos c28] at h
        refine run_aload_n 0 dX12_crash_109 rfl rfl ?_
        refine run_getr fl_X12_86 is_269 (by decide) rfl ce_269_45 dX12_crash_110 ?_
        refine run_iload_n 2 dX12_crash_113 rfl rfl ?_
        obtain ⟨g29, h⟩ := gd_s h
        refine run_iald' is_295 ln_295 g29 rfl dX12_crash_114 ?_
        refine run_goto 119 dX12_crash_115 (by decide) ?_
        rw [← Option.some.inj h] at hj32
        exact hj32
def lX12_crash_128 (x1 : Int32) : Nat → Int32 → Mem → Option (Mem)
  | 0, _, _ => none
  | n + 1, x2, σ => if (σ 269 26) ≤ x2 then (some σ) else (gd (inb x2 4) ((fX12_idle x2 (st2 σ 269 57 ((σ 269 57) + (σ 287 (Int32.toNatClampNeg x2))))).bind fun q42 => gd (inb x2 4) (gd (inb x2 4) (lX12_crash_128 x1 n (x2 + 1) (st2 (st2 q42 290 (Int32.toNatClampNeg x2) 0) 291 (Int32.toNatClampNeg x2) x1)))))
set_option maxRecDepth 20000 in
theorem lpX12_crash_128 (G : GT) (d : Nat) (x1 : Int32)  {K : Option Value → Mem → Prop} : ∀ (n : Nat) (x2 : Int32) (σ : Mem) (o : Mem), lX12_crash_128 x1 n x2 σ = some o → (Run G RX12 cX12_crash 3 (some .boolean) (mF G (d + HX12_crash) K) 176 [(0, .ref (gA G 269)), (1, .int x1)] [] o) → Run G RX12 cX12_crash 3 (some .boolean) (mF G (d + HX12_crash) K) 128 [(0, .ref (gA G 269)), (1, .int x1), (2, .int x2)] [] σ := by
  intro n
  induction n with
  | zero => intro x2 σ o h; exact absurd h (by simp [lX12_crash_128])
  | succ n ih =>
    intro x2 σ o h kx
    rw [lX12_crash_128] at h
    refine run_iload_n 2 dX12_crash_128 rfl rfl ?_
    refine run_aload_n 0 dX12_crash_129 rfl rfl ?_
    refine run_geti fl_X12_326 is_269 (by decide) rfl dX12_crash_130 ?_
    refine run_icmp_ge 176 dX12_crash_133 (by decide) (fun c40 => ?_) (fun c40 => ?_)
    · rw [if_pos c40] at h
      rw [← Option.some.inj h] at kx
      refine run_forget [0, 1] rfl ?_
      exact kx
    · rw [if_neg c40] at h
      refine run_aload_n 0 dX12_crash_136 rfl rfl ?_
      refine run_dup dX12_crash_137 rfl ?_
      refine run_geti fl_X12_354 is_269 (by decide) rfl dX12_crash_138 ?_
      refine run_aload_n 0 dX12_crash_141 rfl rfl ?_
      refine run_getr fl_X12_62 is_269 (by decide) rfl ce_269_37 dX12_crash_142 ?_
      refine run_iload_n 2 dX12_crash_145 rfl rfl ?_
      obtain ⟨g41, h⟩ := gd_s h
      refine run_iald' is_287 ln_287 g41 rfl dX12_crash_146 ?_
      refine run_iadd dX12_crash_147 ?_
      refine run_puti fp_X12_354 is_269 (by decide) rfl dX12_crash_148 ?_
      refine run_aload_n 0 dX12_crash_151 rfl rfl ?_
      refine run_iload_n 2 dX12_crash_152 rfl rfl ?_
      obtain ⟨q42, h45, h⟩ := Option.bind_eq_some_iff.mp h
      refine run_callVv (As := [.int x2]) (fun z => z = q42) mw_X12_idle mi_X12_idle ml_X12_363 is_269 (by decide) rfl rfl rfl (RF.lt (HX12_crash_X12_idle_lt d)) (Nat.le_of_ble_eq_true rfl) dX12_crash_153 (sX12_idle G d  h45) (fun z h8 => ?_) rfl
      rw [h8]
      clear h8
      refine run_aload_n 0 dX12_crash_156 rfl rfl ?_
      refine run_getr fl_X12_71 is_269 (by decide) rfl ce_269_40 dX12_crash_157 ?_
      refine run_iload_n 2 dX12_crash_160 rfl rfl ?_
      refine run_iconst (v := 0) dX12_crash_161 rfl ?_
      obtain ⟨g43, h⟩ := gd_s h
      refine run_iast' is_290 ln_290 g43 rfl dX12_crash_162 ?_
      refine run_aload_n 0 dX12_crash_163 rfl rfl ?_
      refine run_getr fl_X12_74 is_269 (by decide) rfl ce_269_41 dX12_crash_164 ?_
      refine run_iload_n 2 dX12_crash_167 rfl rfl ?_
      refine run_iload_n 1 dX12_crash_168 rfl rfl ?_
      obtain ⟨g44, h⟩ := gd_s h
      refine run_iast' is_291 ln_291 g44 rfl dX12_crash_169 ?_
      refine run_iinc 2 [(0, .ref (gA G 269)), (1, .int x1), (2, .int (x2 + 1))] [1, 2, 0] dX12_crash_170 rfl rfl (by decide) rfl ?_
      refine run_goto 128 dX12_crash_173 (by decide) ?_
      exact ih _ _ _ h kx
def fX12_crash  (σ : Mem) : Option (Bool × Mem) := (fX12_durable σ).bind fun q1 => (fX12_layLeft q1.2).bind fun q2 => (fX12_loses q2).bind fun q3 => (some (st2 (st2 (st2 q3.2 269 59 ((q2 269 59) + q3.1)) 269 58 (((st2 q3.2 269 59 ((q2 269 59) + q3.1)) 269 58) + 1)) 269 30 ((st2 (st2 q3.2 269 59 ((q2 269 59) + q3.1)) 269 58 (((st2 q3.2 269 59 ((q2 269 59) + q3.1)) 269 58) + 1)) 269 66))).bind fun s4 => (lX12_crash_42 q1.1 FU 0 s4).bind fun q19 => (lX12_crash_87 q1.1 FU 0 q19).bind fun q34 => (lX12_crash_128 q1.1 FU 0 q34).bind fun q46 => some (true, (st2 q46 269 29 (q1.1 + 1)))
set_option maxRecDepth 20000 in
theorem sX12_crash (G : GT) (d : Nat)   {σ : Mem} {o : (Bool × Mem)} (h : fX12_crash σ = some o) : Spec G yX12_crash cX12_crash 3 (some .boolean) (d + HX12_crash) [.ref (gA G 269)] σ (kB fun x z => (x, z) = o) := by
  refine spec_run (by decide) (Nat.le_of_ble_eq_true rfl) ?_
  unfold fX12_crash at h
  show Run G RX12 cX12_crash 3 (some .boolean) _ 0 [(0, .ref (gA G 269))] [] σ
  refine run_aload_n 0 dX12_crash_0 rfl rfl ?_
  obtain ⟨q1, h52, h⟩ := Option.bind_eq_some_iff.mp h
  refine run_callVi (As := []) (fun r z => (r, z) = q1) mw_X12_durable mi_X12_durable ml_X12_436 is_269 (by decide) rfl rfl rfl (RF.lt (HX12_crash_X12_durable_lt d)) (Nat.le_of_ble_eq_true rfl) dX12_crash_1 (sX12_durable G d  h52) (fun r z h8 => ?_) rfl
  rw [show r = q1.1 from congrArg Prod.fst h8, show z = q1.2 from congrArg Prod.snd h8]
  clear h8
  refine run_istore_n [(0, .ref (gA G 269)), (1, .int q1.1)] [1, 0] dX12_crash_4 rfl (by decide) rfl ?_
  refine run_aload_n 0 dX12_crash_5 rfl rfl ?_
  obtain ⟨q2, h51, h⟩ := Option.bind_eq_some_iff.mp h
  refine run_callVv (As := []) (fun z => z = q2) mw_X12_layLeft mi_X12_layLeft ml_X12_445 is_269 (by decide) rfl rfl rfl (RF.lt (HX12_crash_X12_layLeft_lt d)) (Nat.le_of_ble_eq_true rfl) dX12_crash_6 (sX12_layLeft G d  h51) (fun z h8 => ?_) rfl
  rw [h8]
  clear h8
  refine run_aload_n 0 dX12_crash_9 rfl rfl ?_
  refine run_dup dX12_crash_10 rfl ?_
  refine run_geti fl_X12_360 is_269 (by decide) rfl dX12_crash_11 ?_
  refine run_aload_n 0 dX12_crash_14 rfl rfl ?_
  obtain ⟨q3, h50, h⟩ := Option.bind_eq_some_iff.mp h
  refine run_callVi (As := []) (fun r z => (r, z) = q3) mw_X12_loses mi_X12_loses ml_X12_448 is_269 (by decide) rfl rfl rfl (RF.lt (HX12_crash_X12_loses_lt d)) (Nat.le_of_ble_eq_true rfl) dX12_crash_15 (sX12_loses G d  h50) (fun r z h8 => ?_) rfl
  rw [show r = q3.1 from congrArg Prod.fst h8, show z = q3.2 from congrArg Prod.snd h8]
  clear h8
  refine run_iadd dX12_crash_18 ?_
  refine run_puti fp_X12_360 is_269 (by decide) rfl dX12_crash_19 ?_
  refine run_aload_n 0 dX12_crash_22 rfl rfl ?_
  refine run_dup dX12_crash_23 rfl ?_
  refine run_geti fl_X12_357 is_269 (by decide) rfl dX12_crash_24 ?_
  refine run_iconst (v := 1) dX12_crash_27 rfl ?_
  refine run_iadd dX12_crash_28 ?_
  refine run_puti fp_X12_357 is_269 (by decide) rfl dX12_crash_29 ?_
  refine run_aload_n 0 dX12_crash_32 rfl rfl ?_
  refine run_aload_n 0 dX12_crash_33 rfl rfl ?_
  refine run_geti fl_X12_439 is_269 (by decide) rfl dX12_crash_34 ?_
  refine run_puti fp_X12_336 is_269 (by decide) rfl dX12_crash_37 ?_
  rw [Option.bind_some] at h
  refine run_mem (fun s4 es4 => ?_)
  rw [← es4] at h
  refine run_iconst (v := 0) dX12_crash_40 rfl ?_
  refine run_istore_n [(0, .ref (gA G 269)), (1, .int q1.1), (2, .int 0)] [1, 2, 0] dX12_crash_41 rfl (by decide) rfl ?_
  obtain ⟨q19, h49, h⟩ := Option.bind_eq_some_iff.mp h
  refine lpX12_crash_42 G d _ _ _ _ _ h49 ?_
  refine run_iconst (v := 0) dX12_crash_85 rfl ?_
  refine run_istore_n [(0, .ref (gA G 269)), (1, .int q1.1), (2, .int 0)] [1, 2, 0] dX12_crash_86 rfl (by decide) rfl ?_
  obtain ⟨q34, h48, h⟩ := Option.bind_eq_some_iff.mp h
  refine lpX12_crash_87 G d _ _ _ _ _ h48 ?_
  refine run_iconst (v := 0) dX12_crash_126 rfl ?_
  refine run_istore_n [(0, .ref (gA G 269)), (1, .int q1.1), (2, .int 0)] [1, 2, 0] dX12_crash_127 rfl (by decide) rfl ?_
  obtain ⟨q46, h47, h⟩ := Option.bind_eq_some_iff.mp h
  refine lpX12_crash_128 G d _ _ _ _ _ h47 ?_
  refine run_aload_n 0 dX12_crash_176 rfl rfl ?_
  refine run_iload_n 1 dX12_crash_177 rfl rfl ?_
  refine run_iconst (v := 1) dX12_crash_178 rfl ?_
  refine run_iadd dX12_crash_179 ?_
  refine run_puti fp_X12_342 is_269 (by decide) rfl dX12_crash_180 ?_
  refine run_iconst (v := 1) dX12_crash_183 rfl ?_
  exact run_bret (b := true) dX12_crash_184 ⟨_, rfl, Option.some.inj h⟩
def HX12_does : Nat := 8
theorem HX12_does_X12_begins_lt (d : Nat) : d + HX12_begins < d + HX12_does := Nat.add_lt_add_left (by decide) d
theorem HX12_does_X12_crash_lt (d : Nat) : d + HX12_crash < d + HX12_does := Nat.add_lt_add_left (by decide) d
theorem HX12_does_X12_flushes_lt (d : Nat) : d + HX12_flushes < d + HX12_does := Nat.add_lt_add_left (by decide) d
theorem HX12_does_X12_idle_lt (d : Nat) : d + HX12_idle < d + HX12_does := Nat.add_lt_add_left (by decide) d
theorem HX12_does_X12_isTask_lt (d : Nat) : d + HX12_isTask < d + HX12_does := Nat.add_lt_add_left (by decide) d
theorem HX12_does_X12_isWorker_lt (d : Nat) : d + HX12_isWorker < d + HX12_does := Nat.add_lt_add_left (by decide) d
theorem HX12_does_X12_nextEpoch_lt (d : Nat) : d + HX12_nextEpoch < d + HX12_does := Nat.add_lt_add_left (by decide) d
theorem HX12_does_X12_steps_lt (d : Nat) : d + HX12_steps < d + HX12_does := Nat.add_lt_add_left (by decide) d
theorem HX12_does_X12_tries_lt (d : Nat) : d + HX12_tries < d + HX12_does := Nat.add_lt_add_left (by decide) d
theorem HX12_does_0 (d : Nat) : 0 < d + HX12_does := Nat.lt_of_lt_of_le (by decide) (Nat.le_add_left _ d)
def fX12_does (x1 : Int32) (x2 : Int32) (x3 : Int32) (x4 : Int32) (σ : Mem) : Option (Bool × Mem) := if x1 = 0 then ((fX12_nextEpoch σ).bind fun q30 => some (q30.1, q30.2)) else (if x1 = 1 then ((fX12_crash σ).bind fun q28 => some (q28.1, q28.2)) else ((fX12_isWorker x2 σ).bind fun q3 => if q3.1 = true then (if x1 = 2 then ((fX12_steps x2 q3.2).bind fun q6 => some (q6.1, q6.2)) else (if x1 = 3 then ((fX12_tries x2 x4 q3.2).bind fun q9 => some (q9.1, q9.2)) else (if x1 = 4 then (gd (inb x2 4) (if (q3.2 286 (Int32.toNatClampNeg x2)) = (-1) then (some (false, q3.2)) else (gd (inb x2 4) ((fX12_idle x2 (st2 q3.2 269 57 ((q3.2 269 57) + (q3.2 287 (Int32.toNatClampNeg x2))))).bind fun q15 => some (true, q15))))) else (if x1 = 5 then ((fX12_flushes x2 q3.2).bind fun q18 => some (true, q18)) else (gd (inb x2 4) (if (q3.2 286 (Int32.toNatClampNeg x2)) = (-1) then ((fX12_isTask x3 q3.2).bind fun q22 => if q22.1 = true then ((fX12_begins x2 x3 q22.2).bind fun q24 => some (true, q24)) else (some (false, q22.2))) else (some (false, q3.2)))))))) else (some (false, q3.2))))
set_option maxRecDepth 20000 in
theorem sX12_does (G : GT) (d : Nat) {x1 : Int32} {x2 : Int32} {x3 : Int32} {x4 : Int32}  {σ : Mem} {o : (Bool × Mem)} (h : fX12_does x1 x2 x3 x4 σ = some o) : Spec G yX12_does cX12_does 5 (some .boolean) (d + HX12_does) [.ref (gA G 269), .int x1, .int x2, .int x3, .int x4] σ (kB fun x z => (x, z) = o) := by
  refine spec_run (by decide) (Nat.le_of_ble_eq_true rfl) ?_
  unfold fX12_does at h
  show Run G RX12 cX12_does 5 (some .boolean) _ 0 [(0, .ref (gA G 269)), (1, .int x1), (2, .int x2), (3, .int x3), (4, .int x4)] [] σ
  refine run_iload_n 1 dX12_does_0 rfl rfl ?_
  refine run_if_ne 9 dX12_does_1 (by decide) (fun c1 => ?_) (fun c1 => ?_)
  · rw [if_neg c1] at h
    refine run_iload_n 1 dX12_does_9 rfl rfl ?_
    refine run_iconst (v := 1) dX12_does_10 rfl ?_
    refine run_icmp_ne 19 dX12_does_11 (by decide) (fun c2 => ?_) (fun c2 => ?_)
    · rw [if_neg c2] at h
      refine run_aload_n 0 dX12_does_19 rfl rfl ?_
      refine run_iload_n 2 dX12_does_20 rfl rfl ?_
      obtain ⟨q3, h27, h⟩ := Option.bind_eq_some_iff.mp h
      refine run_callVb (As := [.int x2]) (fun r z => (r, z) = q3) mw_X12_isWorker mi_X12_isWorker ml_X12_457 is_269 (by decide) rfl rfl rfl (RF.lt (HX12_does_X12_isWorker_lt d)) (Nat.le_of_ble_eq_true rfl) dX12_does_21 (sX12_isWorker G d  h27) (fun r z h8 => ?_) rfl
      rw [show r = q3.1 from congrArg Prod.fst h8, show z = q3.2 from congrArg Prod.snd h8]
      clear h8
      refine run_ifb_ne 29 dX12_does_24 (by decide) (fun c4 => ?_) (fun c4 => ?_)
      · rw [if_pos c4] at h
        refine run_iload_n 1 dX12_does_29 rfl rfl ?_
        by_cases c5 : x1 = 2
        · rw [if_pos c5] at h
          refine run_tblIn 60 dX12_does_30 (by rw [c5]; decide) (by rw [c5]; decide) (off := 30) (by rw [c5]; rfl) (by decide) ?_
          refine run_aload_n 0 dX12_does_60 rfl rfl ?_
          refine run_iload_n 2 dX12_does_61 rfl rfl ?_
          obtain ⟨q6, h7, h⟩ := Option.bind_eq_some_iff.mp h
          refine run_callVb (As := [.int x2]) (fun r z => (r, z) = q6) mw_X12_steps mi_X12_steps ml_X12_460 is_269 (by decide) rfl rfl rfl (RF.lt (HX12_does_X12_steps_lt d)) (Nat.le_of_ble_eq_true rfl) dX12_does_62 (sX12_steps G d  h7) (fun r z h8 => ?_) rfl
          rw [show r = q6.1 from congrArg Prod.fst h8, show z = q6.2 from congrArg Prod.snd h8]
          clear h8
          exact run_bret (b := q6.1) dX12_does_65 ⟨_, rfl, Option.some.inj h⟩
        · rw [if_neg c5] at h
          by_cases c8 : x1 = 3
          · rw [if_pos c8] at h
            refine run_tblIn 66 dX12_does_30 (by rw [c8]; decide) (by rw [c8]; decide) (off := 36) (by rw [c8]; rfl) (by decide) ?_
            refine run_aload_n 0 dX12_does_66 rfl rfl ?_
            refine run_iload_n 2 dX12_does_67 rfl rfl ?_
            refine run_iload 4 dX12_does_68 rfl ?_
            obtain ⟨q9, h10, h⟩ := Option.bind_eq_some_iff.mp h
            refine run_callVb (As := [.int x2, .int x4]) (fun r z => (r, z) = q9) mw_X12_tries mi_X12_tries ml_X12_463 is_269 (by decide) rfl rfl rfl (RF.lt (HX12_does_X12_tries_lt d)) (Nat.le_of_ble_eq_true rfl) dX12_does_70 (sX12_tries G d  h10) (fun r z h8 => ?_) rfl
            rw [show r = q9.1 from congrArg Prod.fst h8, show z = q9.2 from congrArg Prod.snd h8]
            clear h8
            exact run_bret (b := q9.1) dX12_does_73 ⟨_, rfl, Option.some.inj h⟩
          · rw [if_neg c8] at h
            by_cases c11 : x1 = 4
            · rw [if_pos c11] at h
              refine run_tblIn 74 dX12_does_30 (by rw [c11]; decide) (by rw [c11]; decide) (off := 44) (by rw [c11]; rfl) (by decide) ?_
              refine run_aload_n 0 dX12_does_74 rfl rfl ?_
              refine run_getr fl_X12_59 is_269 (by decide) rfl ce_269_36 dX12_does_75 ?_
              refine run_iload_n 2 dX12_does_78 rfl rfl ?_
              obtain ⟨g12, h⟩ := gd_s h
              refine run_iald' is_286 ln_286 g12 rfl dX12_does_79 ?_
              refine run_iconst (v := -1) dX12_does_80 rfl ?_
              refine run_icmp_ne 86 dX12_does_81 (by decide) (fun c13 => ?_) (fun c13 => ?_)
              · rw [if_neg c13] at h
                refine run_aload_n 0 dX12_does_86 rfl rfl ?_
                refine run_dup dX12_does_87 rfl ?_
                refine run_geti fl_X12_354 is_269 (by decide) rfl dX12_does_88 ?_
                refine run_aload_n 0 dX12_does_91 rfl rfl ?_
                refine run_getr fl_X12_62 is_269 (by decide) rfl ce_269_37 dX12_does_92 ?_
                refine run_iload_n 2 dX12_does_95 rfl rfl ?_
                obtain ⟨g14, h⟩ := gd_s h
                refine run_iald' is_287 ln_287 g14 rfl dX12_does_96 ?_
                refine run_iadd dX12_does_97 ?_
                refine run_puti fp_X12_354 is_269 (by decide) rfl dX12_does_98 ?_
                refine run_aload_n 0 dX12_does_101 rfl rfl ?_
                refine run_iload_n 2 dX12_does_102 rfl rfl ?_
                obtain ⟨q15, h16, h⟩ := Option.bind_eq_some_iff.mp h
                refine run_callVv (As := [.int x2]) (fun z => z = q15) mw_X12_idle mi_X12_idle ml_X12_363 is_269 (by decide) rfl rfl rfl (RF.lt (HX12_does_X12_idle_lt d)) (Nat.le_of_ble_eq_true rfl) dX12_does_103 (sX12_idle G d  h16) (fun z h8 => ?_) rfl
                rw [h8]
                clear h8
                refine run_iconst (v := 1) dX12_does_106 rfl ?_
                exact run_bret (b := true) dX12_does_107 ⟨_, rfl, Option.some.inj h⟩
              · rw [if_pos c13] at h
                refine run_iconst (v := 0) dX12_does_84 rfl ?_
                exact run_bret (b := false) dX12_does_85 ⟨_, rfl, Option.some.inj h⟩
            · rw [if_neg c11] at h
              by_cases c17 : x1 = 5
              · rw [if_pos c17] at h
                refine run_tblIn 108 dX12_does_30 (by rw [c17]; decide) (by rw [c17]; decide) (off := 78) (by rw [c17]; rfl) (by decide) ?_
                refine run_aload_n 0 dX12_does_108 rfl rfl ?_
                refine run_iload_n 2 dX12_does_109 rfl rfl ?_
                obtain ⟨q18, h19, h⟩ := Option.bind_eq_some_iff.mp h
                refine run_callVv (As := [.int x2]) (fun z => z = q18) mw_X12_flushes mi_X12_flushes ml_X12_466 is_269 (by decide) rfl rfl rfl (RF.lt (HX12_does_X12_flushes_lt d)) (Nat.le_of_ble_eq_true rfl) dX12_does_110 (sX12_flushes G d  h19) (fun z h8 => ?_) rfl
                rw [h8]
                clear h8
                refine run_iconst (v := 1) dX12_does_113 rfl ?_
                exact run_bret (b := true) dX12_does_114 ⟨_, rfl, Option.some.inj h⟩
              · rw [if_neg c17] at h
                refine run_tblOut 115 dX12_does_30 (by have tc5 := tbl_ne c5 (z := 2) rfl; have tc8 := tbl_ne c8 (z := 3) rfl; have tc11 := tbl_ne c11 (z := 4) rfl; have tc17 := tbl_ne c17 (z := 5) rfl; omega) (by decide) ?_
                refine run_aload_n 0 dX12_does_115 rfl rfl ?_
                refine run_getr fl_X12_59 is_269 (by decide) rfl ce_269_36 dX12_does_116 ?_
                refine run_iload_n 2 dX12_does_119 rfl rfl ?_
                obtain ⟨g20, h⟩ := gd_s h
                refine run_iald' is_286 ln_286 g20 rfl dX12_does_120 ?_
                refine run_iconst (v := -1) dX12_does_121 rfl ?_
                refine run_icmp_ne 133 dX12_does_122 (by decide) (fun c21 => ?_) (fun c21 => ?_)
                · rw [if_neg c21] at h
                  refine run_iconst (v := 0) dX12_does_133 rfl ?_
                  exact run_bret (b := false) dX12_does_134 ⟨_, rfl, Option.some.inj h⟩
                · rw [if_pos c21] at h
                  refine run_aload_n 0 dX12_does_125 rfl rfl ?_
                  refine run_iload_n 3 dX12_does_126 rfl rfl ?_
                  obtain ⟨q22, h26, h⟩ := Option.bind_eq_some_iff.mp h
                  refine run_callVb (As := [.int x3]) (fun r z => (r, z) = q22) mw_X12_isTask mi_X12_isTask ml_X12_378 is_269 (by decide) rfl rfl rfl (RF.lt (HX12_does_X12_isTask_lt d)) (Nat.le_of_ble_eq_true rfl) dX12_does_127 (sX12_isTask G d  h26) (fun r z h8 => ?_) rfl
                  rw [show r = q22.1 from congrArg Prod.fst h8, show z = q22.2 from congrArg Prod.snd h8]
                  clear h8
                  refine run_ifb_ne 135 dX12_does_130 (by decide) (fun c23 => ?_) (fun c23 => ?_)
                  · rw [if_pos c23] at h
                    refine run_aload_n 0 dX12_does_135 rfl rfl ?_
                    refine run_iload_n 2 dX12_does_136 rfl rfl ?_
                    refine run_iload_n 3 dX12_does_137 rfl rfl ?_
                    obtain ⟨q24, h25, h⟩ := Option.bind_eq_some_iff.mp h
                    refine run_callVv (As := [.int x2, .int x3]) (fun z => z = q24) mw_X12_begins mi_X12_begins ml_X12_469 is_269 (by decide) rfl rfl rfl (RF.lt (HX12_does_X12_begins_lt d)) (Nat.le_of_ble_eq_true rfl) dX12_does_138 (sX12_begins G d  h25) (fun z h8 => ?_) rfl
                    rw [h8]
                    clear h8
                    refine run_iconst (v := 1) dX12_does_141 rfl ?_
                    exact run_bret (b := true) dX12_does_142 ⟨_, rfl, Option.some.inj h⟩
                  · rw [if_neg c23] at h
                    refine run_iconst (v := 0) dX12_does_133 rfl ?_
                    exact run_bret (b := false) dX12_does_134 ⟨_, rfl, Option.some.inj h⟩
      · rw [if_neg c4] at h
        refine run_iconst (v := 0) dX12_does_27 rfl ?_
        exact run_bret (b := false) dX12_does_28 ⟨_, rfl, Option.some.inj h⟩
    · rw [if_pos c2] at h
      refine run_aload_n 0 dX12_does_14 rfl rfl ?_
      obtain ⟨q28, h29, h⟩ := Option.bind_eq_some_iff.mp h
      refine run_callVb (As := []) (fun r z => (r, z) = q28) mw_X12_crash mi_X12_crash ml_X12_454 is_269 (by decide) rfl rfl rfl (RF.lt (HX12_does_X12_crash_lt d)) (Nat.le_of_ble_eq_true rfl) dX12_does_15 (sX12_crash G d  h29) (fun r z h8 => ?_) rfl
      rw [show r = q28.1 from congrArg Prod.fst h8, show z = q28.2 from congrArg Prod.snd h8]
      clear h8
      exact run_bret (b := q28.1) dX12_does_18 ⟨_, rfl, Option.some.inj h⟩
  · rw [if_pos c1] at h
    refine run_aload_n 0 dX12_does_4 rfl rfl ?_
    obtain ⟨q30, h31, h⟩ := Option.bind_eq_some_iff.mp h
    refine run_callVb (As := []) (fun r z => (r, z) = q30) mw_X12_nextEpoch mi_X12_nextEpoch ml_X12_451 is_269 (by decide) rfl rfl rfl (RF.lt (HX12_does_X12_nextEpoch_lt d)) (Nat.le_of_ble_eq_true rfl) dX12_does_5 (sX12_nextEpoch G d  h31) (fun r z h8 => ?_) rfl
    rw [show r = q30.1 from congrArg Prod.fst h8, show z = q30.2 from congrArg Prod.snd h8]
    clear h8
    exact run_bret (b := q30.1) dX12_does_8 ⟨_, rfl, Option.some.inj h⟩
def HX12_play : Nat := 9
theorem HX12_play_X12_deedOf_lt (d : Nat) : d + HX12_deedOf < d + HX12_play := Nat.add_lt_add_left (by decide) d
theorem HX12_play_X12_does_lt (d : Nat) : d + HX12_does < d + HX12_play := Nat.add_lt_add_left (by decide) d
theorem HX12_play_0 (d : Nat) : 0 < d + HX12_play := Nat.lt_of_lt_of_le (by decide) (Nat.le_add_left _ d)
def lX12_play_2 (x1 : Int32) : Nat → Int32 → Mem → Option (Int32 × Mem)
  | 0, _, _ => none
  | n + 1, x2, σ => if x1 ≤ x2 then (some (x2, σ)) else ((fX12_deedOf x2 0 σ).bind fun q8 => (fX12_deedOf x2 1 q8.2).bind fun q9 => (fX12_deedOf x2 2 q9.2).bind fun q10 => (fX12_does q8.1 q9.1 q10.1 x2 q10.2).bind fun q11 => if q11.1 = true then (lX12_play_2 x1 n (x2 + 1) q11.2) else (some (x2, q11.2)))
set_option maxRecDepth 20000 in
theorem lpX12_play_2 (G : GT) (d : Nat) (x1 : Int32)  {K : Option Value → Mem → Prop} : ∀ (n : Nat) (x2 : Int32) (σ : Mem) (o : Int32 × Mem), lX12_play_2 x1 n x2 σ = some o → (Run G RX12 cX12_play 3 (some .int) (mF G (d + HX12_play) K) 39 [(2, .int (o.1))] [] (o.2)) → Run G RX12 cX12_play 3 (some .int) (mF G (d + HX12_play) K) 2 [(0, .ref (gA G 269)), (1, .int x1), (2, .int x2)] [] σ := by
  intro n
  induction n with
  | zero => intro x2 σ o h; exact absurd h (by simp [lX12_play_2])
  | succ n ih =>
    intro x2 σ o h kx
    rw [lX12_play_2] at h
    refine run_iload_n 2 dX12_play_2 rfl rfl ?_
    refine run_iload_n 1 dX12_play_3 rfl rfl ?_
    refine run_icmp_ge 39 dX12_play_4 (by decide) (fun c7 => ?_) (fun c7 => ?_)
    · rw [if_pos c7] at h
      rw [← Option.some.inj h] at kx
      refine run_forget [2] rfl ?_
      exact kx
    · rw [if_neg c7] at h
      refine run_aload_n 0 dX12_play_7 rfl rfl ?_
      refine run_aload_n 0 dX12_play_8 rfl rfl ?_
      refine run_iload_n 2 dX12_play_9 rfl rfl ?_
      refine run_iconst (v := 0) dX12_play_10 rfl ?_
      obtain ⟨q8, h16, h⟩ := Option.bind_eq_some_iff.mp h
      refine run_callVi (As := [.int x2, .int 0]) (fun r z => (r, z) = q8) mw_X12_deedOf mi_X12_deedOf ml_X12_480 is_269 (by decide) rfl rfl rfl (RF.lt (HX12_play_X12_deedOf_lt d)) (Nat.le_of_ble_eq_true rfl) dX12_play_11 (sX12_deedOf G d  h16) (fun r z h8 => ?_) rfl
      rw [show r = q8.1 from congrArg Prod.fst h8, show z = q8.2 from congrArg Prod.snd h8]
      clear h8
      refine run_aload_n 0 dX12_play_14 rfl rfl ?_
      refine run_iload_n 2 dX12_play_15 rfl rfl ?_
      refine run_iconst (v := 1) dX12_play_16 rfl ?_
      obtain ⟨q9, h15, h⟩ := Option.bind_eq_some_iff.mp h
      refine run_callVi (As := [.int x2, .int 1]) (fun r z => (r, z) = q9) mw_X12_deedOf mi_X12_deedOf ml_X12_480 is_269 (by decide) rfl rfl rfl (RF.lt (HX12_play_X12_deedOf_lt d)) (Nat.le_of_ble_eq_true rfl) dX12_play_17 (sX12_deedOf G d  h15) (fun r z h8 => ?_) rfl
      rw [show r = q9.1 from congrArg Prod.fst h8, show z = q9.2 from congrArg Prod.snd h8]
      clear h8
      refine run_aload_n 0 dX12_play_20 rfl rfl ?_
      refine run_iload_n 2 dX12_play_21 rfl rfl ?_
      refine run_iconst (v := 2) dX12_play_22 rfl ?_
      obtain ⟨q10, h14, h⟩ := Option.bind_eq_some_iff.mp h
      refine run_callVi (As := [.int x2, .int 2]) (fun r z => (r, z) = q10) mw_X12_deedOf mi_X12_deedOf ml_X12_480 is_269 (by decide) rfl rfl rfl (RF.lt (HX12_play_X12_deedOf_lt d)) (Nat.le_of_ble_eq_true rfl) dX12_play_23 (sX12_deedOf G d  h14) (fun r z h8 => ?_) rfl
      rw [show r = q10.1 from congrArg Prod.fst h8, show z = q10.2 from congrArg Prod.snd h8]
      clear h8
      refine run_iload_n 2 dX12_play_26 rfl rfl ?_
      obtain ⟨q11, h13, h⟩ := Option.bind_eq_some_iff.mp h
      refine run_callVb (As := [.int q8.1, .int q9.1, .int q10.1, .int x2]) (fun r z => (r, z) = q11) mw_X12_does mi_X12_does ml_X12_483 is_269 (by decide) rfl rfl rfl (RF.lt (HX12_play_X12_does_lt d)) (Nat.le_of_ble_eq_true rfl) dX12_play_27 (sX12_does G d  h13) (fun r z h8 => ?_) rfl
      rw [show r = q11.1 from congrArg Prod.fst h8, show z = q11.2 from congrArg Prod.snd h8]
      clear h8
      refine run_ifb_eq 39 dX12_play_30 (by decide) (fun c12 => ?_) (fun c12 => ?_)
      · rw [if_neg c12] at h
        rw [← Option.some.inj h] at kx
        refine run_forget [2] rfl ?_
        exact kx
      · rw [if_pos c12] at h
        refine run_iinc 2 [(0, .ref (gA G 269)), (1, .int x1), (2, .int (x2 + 1))] [1, 2, 0] dX12_play_33 rfl rfl (by decide) rfl ?_
        refine run_goto 2 dX12_play_36 (by decide) ?_
        exact ih _ _ _ h kx
def fX12_play (x1 : Int32) (σ : Mem) : Option (Int32 × Mem) := (lX12_play_2 x1 FU 0 σ).bind fun q17 => some ((q17.1), (q17.2))
set_option maxRecDepth 20000 in
theorem sX12_play (G : GT) (d : Nat) {x1 : Int32}  {σ : Mem} {o : (Int32 × Mem)} (h : fX12_play x1 σ = some o) : Spec G yX12_play cX12_play 3 (some .int) (d + HX12_play) [.ref (gA G 269), .int x1] σ (kI fun x z => (x, z) = o) := by
  refine spec_run (by decide) (Nat.le_of_ble_eq_true rfl) ?_
  unfold fX12_play at h
  show Run G RX12 cX12_play 3 (some .int) _ 0 [(0, .ref (gA G 269)), (1, .int x1)] [] σ
  refine run_iconst (v := 0) dX12_play_0 rfl ?_
  refine run_istore_n [(0, .ref (gA G 269)), (1, .int x1), (2, .int 0)] [1, 2, 0] dX12_play_1 rfl (by decide) rfl ?_
  obtain ⟨q17, h18, h⟩ := Option.bind_eq_some_iff.mp h
  refine lpX12_play_2 G d _ _ _ _ _ h18 ?_
  refine run_iload_n 0 dX12_play_39 rfl rfl ?_
  exact run_iret dX12_play_40 ⟨_, rfl, Option.some.inj h⟩
def HX12_stop : Nat := 10
theorem HX12_stop_X12_deeds_lt (d : Nat) : d + HX12_deeds < d + HX12_stop := Nat.add_lt_add_left (by decide) d
theorem HX12_stop_X12_layAll_lt (d : Nat) : d + HX12_layAll < d + HX12_stop := Nat.add_lt_add_left (by decide) d
theorem HX12_stop_X12_play_lt (d : Nat) : d + HX12_play < d + HX12_stop := Nat.add_lt_add_left (by decide) d
theorem HX12_stop_0 (d : Nat) : 0 < d + HX12_stop := Nat.lt_of_lt_of_le (by decide) (Nat.le_add_left _ d)
def fX12_stop (x1 : Int32) (x2 : Int32) (x3 : Int32) (σ : Mem) : Option (Int32 × Mem) := (fX12_layAll x1 x2 x3 (st2 σ 269 0 0)).bind fun q1 => if q1.1 = true then ((fX12_deeds q1.2).bind fun q3 => (fX12_play q3.1 q3.2).bind fun q4 => some (q4.1, q4.2)) else (some ((-1), q1.2))
set_option maxRecDepth 20000 in
theorem sX12_stop (G : GT) (d : Nat) {x1 : Int32} {x2 : Int32} {x3 : Int32}  {σ : Mem} {o : (Int32 × Mem)} (h : fX12_stop x1 x2 x3 σ = some o) : Spec G yX12_stop cX12_stop 4 (some .int) (d + HX12_stop) [.ref (gA G 269), .int x1, .int x2, .int x3] σ (kI fun x z => (x, z) = o) := by
  refine spec_run (by decide) (Nat.le_of_ble_eq_true rfl) ?_
  unfold fX12_stop at h
  show Run G RX12 cX12_stop 4 (some .int) _ 0 [(0, .ref (gA G 269)), (1, .int x1), (2, .int x2), (3, .int x3)] [] σ
  refine run_aload_n 0 dX12_stop_0 rfl rfl ?_
  refine run_iconst (v := 0) dX12_stop_1 rfl ?_
  refine run_puti fp_X12_144 is_269 (by decide) rfl dX12_stop_2 ?_
  refine run_aload_n 0 dX12_stop_5 rfl rfl ?_
  refine run_iload_n 1 dX12_stop_6 rfl rfl ?_
  refine run_iload_n 2 dX12_stop_7 rfl rfl ?_
  refine run_iload_n 3 dX12_stop_8 rfl rfl ?_
  obtain ⟨q1, h7, h⟩ := Option.bind_eq_some_iff.mp h
  refine run_callVb (As := [.int x1, .int x2, .int x3]) (fun r z => (r, z) = q1) mw_X12_layAll mi_X12_layAll ml_X12_490 is_269 (by decide) rfl rfl rfl (RF.lt (HX12_stop_X12_layAll_lt d)) (Nat.le_of_ble_eq_true rfl) dX12_stop_9 (sX12_layAll G d  h7) (fun r z h8 => ?_) rfl
  rw [show r = q1.1 from congrArg Prod.fst h8, show z = q1.2 from congrArg Prod.snd h8]
  clear h8
  refine run_ifb_eq 26 dX12_stop_12 (by decide) (fun c2 => ?_) (fun c2 => ?_)
  · rw [if_neg c2] at h
    refine run_iconst (v := -1) dX12_stop_26 rfl ?_
    exact run_iret dX12_stop_27 ⟨_, rfl, Option.some.inj h⟩
  · rw [if_pos c2] at h
    refine run_aload_n 0 dX12_stop_15 rfl rfl ?_
    refine run_aload_n 0 dX12_stop_16 rfl rfl ?_
    obtain ⟨q3, h6, h⟩ := Option.bind_eq_some_iff.mp h
    refine run_callVi (As := []) (fun r z => (r, z) = q3) mw_X12_deeds mi_X12_deeds ml_X12_477 is_269 (by decide) rfl rfl rfl (RF.lt (HX12_stop_X12_deeds_lt d)) (Nat.le_of_ble_eq_true rfl) dX12_stop_17 (sX12_deeds G d  h6) (fun r z h8 => ?_) rfl
    rw [show r = q3.1 from congrArg Prod.fst h8, show z = q3.2 from congrArg Prod.snd h8]
    clear h8
    obtain ⟨q4, h5, h⟩ := Option.bind_eq_some_iff.mp h
    refine run_callVi (As := [.int q3.1]) (fun r z => (r, z) = q4) mw_X12_play mi_X12_play ml_X12_493 is_269 (by decide) rfl rfl rfl (RF.lt (HX12_stop_X12_play_lt d)) (Nat.le_of_ble_eq_true rfl) dX12_stop_20 (sX12_play G d  h5) (fun r z h8 => ?_) rfl
    rw [show r = q4.1 from congrArg Prod.fst h8, show z = q4.2 from congrArg Prod.snd h8]
    clear h8
    refine run_goto 27 dX12_stop_23 (by decide) ?_
    exact run_iret dX12_stop_27 ⟨_, rfl, Option.some.inj h⟩
def HX12_ofKeys : Nat := 4
theorem HX12_ofKeys_X12_has_lt (d : Nat) : d + HX12_has < d + HX12_ofKeys := Nat.add_lt_add_left (by decide) d
theorem HX12_ofKeys_X12_layLeft_lt (d : Nat) : d + HX12_layLeft < d + HX12_ofKeys := Nat.add_lt_add_left (by decide) d
theorem HX12_ofKeys_0 (d : Nat) : 0 < d + HX12_ofKeys := Nat.lt_of_lt_of_le (by decide) (Nat.le_add_left _ d)
def fX12_ofKeys (x1 : Int32) (x2 : Int32) (σ : Mem) : Option (Int32 × Mem) := if x2 = 1 then ((fX12_has (σ 269 30) x1 σ).bind fun q2 => if q2.1 = true then (gd (inb x1 10) (some ((q2.2 281 (Int32.toNatClampNeg x1)), q2.2))) else (some ((-1), q2.2))) else (if x2 = 2 then (gd (inb x1 10) (some ((σ 282 (Int32.toNatClampNeg x1)), σ))) else (if x2 = 3 then ((fX12_layLeft σ).bind fun q9 => (fX12_has (q9 269 66) x1 q9).bind fun q10 => if q10.1 = true then (gd (inb x1 10) (some ((q10.2 306 (Int32.toNatClampNeg x1)), q10.2))) else (some ((-1), q10.2))) else (if (σ 269 28) ≤ x1 then (some ((-2), σ)) else (gd (inb x1 10) (some ((σ 283 (Int32.toNatClampNeg x1)), σ))))))
set_option maxRecDepth 20000 in
theorem sX12_ofKeys (G : GT) (d : Nat) {x1 : Int32} {x2 : Int32}  {σ : Mem} {o : (Int32 × Mem)} (h : fX12_ofKeys x1 x2 σ = some o) : Spec G yX12_ofKeys cX12_ofKeys 3 (some .int) (d + HX12_ofKeys) [.ref (gA G 269), .int x1, .int x2] σ (kI fun x z => (x, z) = o) := by
  refine spec_run (by decide) (Nat.le_of_ble_eq_true rfl) ?_
  unfold fX12_ofKeys at h
  show Run G RX12 cX12_ofKeys 3 (some .int) _ 0 [(0, .ref (gA G 269)), (1, .int x1), (2, .int x2)] [] σ
  refine run_iload_n 2 dX12_ofKeys_0 rfl rfl ?_
  by_cases c1 : x2 = 1
  · rw [if_pos c1] at h
    refine run_tblIn 28 dX12_ofKeys_1 (by rw [c1]; decide) (by rw [c1]; decide) (off := 27) (by rw [c1]; rfl) (by decide) ?_
    refine run_aload_n 0 dX12_ofKeys_28 rfl rfl ?_
    refine run_geti fl_X12_336 is_269 (by decide) rfl dX12_ofKeys_29 ?_
    refine run_iload_n 1 dX12_ofKeys_32 rfl rfl ?_
    obtain ⟨q2, h5, h⟩ := Option.bind_eq_some_iff.mp h
    refine run_callSb (As := [.int (σ 269 30), .int x1]) (fun r z => (r, z) = q2) mw_X12_has ms_X12_has ml_X12_148 rfl (RF.lt (HX12_ofKeys_X12_has_lt d)) (Nat.le_of_ble_eq_true rfl) dX12_ofKeys_33 (sX12_has G d  h5) (fun r z h8 => ?_) rfl
    rw [show r = q2.1 from congrArg Prod.fst h8, show z = q2.2 from congrArg Prod.snd h8]
    clear h8
    refine run_ifb_eq 48 dX12_ofKeys_36 (by decide) (fun c3 => ?_) (fun c3 => ?_)
    · rw [if_neg c3] at h
      refine run_iconst (v := -1) dX12_ofKeys_48 rfl ?_
      exact run_iret dX12_ofKeys_49 ⟨_, rfl, Option.some.inj h⟩
    · rw [if_pos c3] at h
      refine run_aload_n 0 dX12_ofKeys_39 rfl rfl ?_
      refine run_getr fl_X12_44 is_269 (by decide) rfl ce_269_31 dX12_ofKeys_40 ?_
      refine run_iload_n 1 dX12_ofKeys_43 rfl rfl ?_
      obtain ⟨g4, h⟩ := gd_s h
      refine run_iald' is_281 ln_281 g4 rfl dX12_ofKeys_44 ?_
      refine run_goto 49 dX12_ofKeys_45 (by decide) ?_
      exact run_iret dX12_ofKeys_49 ⟨_, rfl, Option.some.inj h⟩
  · rw [if_neg c1] at h
    by_cases c6 : x2 = 2
    · rw [if_pos c6] at h
      refine run_tblIn 50 dX12_ofKeys_1 (by rw [c6]; decide) (by rw [c6]; decide) (off := 49) (by rw [c6]; rfl) (by decide) ?_
      refine run_aload_n 0 dX12_ofKeys_50 rfl rfl ?_
      refine run_getr fl_X12_47 is_269 (by decide) rfl ce_269_32 dX12_ofKeys_51 ?_
      refine run_iload_n 1 dX12_ofKeys_54 rfl rfl ?_
      obtain ⟨g7, h⟩ := gd_s h
      refine run_iald' is_282 ln_282 g7 rfl dX12_ofKeys_55 ?_
      exact run_iret dX12_ofKeys_56 ⟨_, rfl, Option.some.inj h⟩
    · rw [if_neg c6] at h
      by_cases c8 : x2 = 3
      · rw [if_pos c8] at h
        refine run_tblIn 57 dX12_ofKeys_1 (by rw [c8]; decide) (by rw [c8]; decide) (off := 56) (by rw [c8]; rfl) (by decide) ?_
        refine run_aload_n 0 dX12_ofKeys_57 rfl rfl ?_
        obtain ⟨q9, h14, h⟩ := Option.bind_eq_some_iff.mp h
        refine run_callVv (As := []) (fun z => z = q9) mw_X12_layLeft mi_X12_layLeft ml_X12_445 is_269 (by decide) rfl rfl rfl (RF.lt (HX12_ofKeys_X12_layLeft_lt d)) (Nat.le_of_ble_eq_true rfl) dX12_ofKeys_58 (sX12_layLeft G d  h14) (fun z h8 => ?_) rfl
        rw [h8]
        clear h8
        refine run_aload_n 0 dX12_ofKeys_61 rfl rfl ?_
        refine run_geti fl_X12_439 is_269 (by decide) rfl dX12_ofKeys_62 ?_
        refine run_iload_n 1 dX12_ofKeys_65 rfl rfl ?_
        obtain ⟨q10, h13, h⟩ := Option.bind_eq_some_iff.mp h
        refine run_callSb (As := [.int (q9 269 66), .int x1]) (fun r z => (r, z) = q10) mw_X12_has ms_X12_has ml_X12_148 rfl (RF.lt (HX12_ofKeys_X12_has_lt d)) (Nat.le_of_ble_eq_true rfl) dX12_ofKeys_66 (sX12_has G d  h13) (fun r z h8 => ?_) rfl
        rw [show r = q10.1 from congrArg Prod.fst h8, show z = q10.2 from congrArg Prod.snd h8]
        clear h8
        refine run_ifb_eq 81 dX12_ofKeys_69 (by decide) (fun c11 => ?_) (fun c11 => ?_)
        · rw [if_neg c11] at h
          refine run_iconst (v := -1) dX12_ofKeys_81 rfl ?_
          exact run_iret dX12_ofKeys_82 ⟨_, rfl, Option.some.inj h⟩
        · rw [if_pos c11] at h
          refine run_aload_n 0 dX12_ofKeys_72 rfl rfl ?_
          refine run_getr fl_X12_119 is_269 (by decide) rfl ce_269_67 dX12_ofKeys_73 ?_
          refine run_iload_n 1 dX12_ofKeys_76 rfl rfl ?_
          obtain ⟨g12, h⟩ := gd_s h
          refine run_iald' is_306 ln_306 g12 rfl dX12_ofKeys_77 ?_
          refine run_goto 82 dX12_ofKeys_78 (by decide) ?_
          exact run_iret dX12_ofKeys_82 ⟨_, rfl, Option.some.inj h⟩
      · rw [if_neg c8] at h
        refine run_tblOut 83 dX12_ofKeys_1 (by have tc1 := tbl_ne c1 (z := 1) rfl; have tc6 := tbl_ne c6 (z := 2) rfl; have tc8 := tbl_ne c8 (z := 3) rfl; omega) (by decide) ?_
        refine run_iload_n 1 dX12_ofKeys_83 rfl rfl ?_
        refine run_aload_n 0 dX12_ofKeys_84 rfl rfl ?_
        refine run_geti fl_X12_372 is_269 (by decide) rfl dX12_ofKeys_85 ?_
        refine run_icmp_ge 100 dX12_ofKeys_88 (by decide) (fun c15 => ?_) (fun c15 => ?_)
        · rw [if_pos c15] at h
          refine run_bipush (v := -2) dX12_ofKeys_100 rfl ?_
          exact run_iret dX12_ofKeys_102 ⟨_, rfl, Option.some.inj h⟩
        · rw [if_neg c15] at h
          refine run_aload_n 0 dX12_ofKeys_91 rfl rfl ?_
          refine run_getr fl_X12_50 is_269 (by decide) rfl ce_269_33 dX12_ofKeys_92 ?_
          refine run_iload_n 1 dX12_ofKeys_95 rfl rfl ?_
          obtain ⟨g16, h⟩ := gd_s h
          refine run_iald' is_283 ln_283 g16 rfl dX12_ofKeys_96 ?_
          refine run_goto 102 dX12_ofKeys_97 (by decide) ?_
          exact run_iret dX12_ofKeys_102 ⟨_, rfl, Option.some.inj h⟩
def HX12_ofState : Nat := 5
theorem HX12_ofState_X12_durable_lt (d : Nat) : d + HX12_durable < d + HX12_ofState := Nat.add_lt_add_left (by decide) d
theorem HX12_ofState_X12_loses_lt (d : Nat) : d + HX12_loses < d + HX12_ofState := Nat.add_lt_add_left (by decide) d
theorem HX12_ofState_X12_ofKeys_lt (d : Nat) : d + HX12_ofKeys < d + HX12_ofState := Nat.add_lt_add_left (by decide) d
theorem HX12_ofState_X12_ofWorker_lt (d : Nat) : d + HX12_ofWorker < d + HX12_ofState := Nat.add_lt_add_left (by decide) d
theorem HX12_ofState_0 (d : Nat) : 0 < d + HX12_ofState := Nat.lt_of_lt_of_le (by decide) (Nat.le_add_left _ d)
def fX12_ofState (x1 : Int32) (σ : Mem) : Option (Int32 × Mem) := if x1 < 10 then (if x1 = 0 then (some ((σ 269 29), σ)) else (if x1 = 1 then ((fX12_durable σ).bind fun q4 => some (q4.1, q4.2)) else (if x1 = 2 then (some ((σ 269 55), σ)) else (if x1 = 3 then (some ((σ 269 56), σ)) else (if x1 = 4 then (some ((σ 269 30), σ)) else (if x1 = 5 then ((fX12_loses σ).bind fun q10 => some (q10.1, q10.2)) else (some ((-2), σ)))))))) else (if 50 ≤ x1 then (if 110 ≤ x1 then (some ((-2), σ)) else ((fX12_ofWorker (x1 % 10) (x1 / 10) σ).bind fun q14 => some (q14.1, q14.2))) else ((fX12_ofKeys (x1 % 10) (x1 / 10) σ).bind fun q16 => some (q16.1, q16.2)))
set_option maxRecDepth 20000 in
theorem sX12_ofState (G : GT) (d : Nat) {x1 : Int32}  {σ : Mem} {o : (Int32 × Mem)} (h : fX12_ofState x1 σ = some o) : Spec G yX12_ofState cX12_ofState 2 (some .int) (d + HX12_ofState) [.ref (gA G 269), .int x1] σ (kI fun x z => (x, z) = o) := by
  refine spec_run (by decide) (Nat.le_of_ble_eq_true rfl) ?_
  unfold fX12_ofState at h
  show Run G RX12 cX12_ofState 2 (some .int) _ 0 [(0, .ref (gA G 269)), (1, .int x1)] [] σ
  refine run_iload_n 1 dX12_ofState_0 rfl rfl ?_
  refine run_bipush (v := 10) dX12_ofState_1 rfl ?_
  refine run_icmp_lt 51 dX12_ofState_3 (by decide) (fun c1 => ?_) (fun c1 => ?_)
  · rw [if_pos c1] at h
    refine run_iload_n 1 dX12_ofState_51 rfl rfl ?_
    by_cases c2 : x1 = 0
    · rw [if_pos c2] at h
      refine run_tblIn 92 dX12_ofState_52 (by rw [c2]; decide) (by rw [c2]; decide) (off := 40) (by rw [c2]; rfl) (by decide) ?_
      refine run_aload_n 0 dX12_ofState_92 rfl rfl ?_
      refine run_geti fl_X12_342 is_269 (by decide) rfl dX12_ofState_93 ?_
      exact run_iret dX12_ofState_96 ⟨_, rfl, Option.some.inj h⟩
    · rw [if_neg c2] at h
      by_cases c3 : x1 = 1
      · rw [if_pos c3] at h
        refine run_tblIn 97 dX12_ofState_52 (by rw [c3]; decide) (by rw [c3]; decide) (off := 45) (by rw [c3]; rfl) (by decide) ?_
        refine run_aload_n 0 dX12_ofState_97 rfl rfl ?_
        obtain ⟨q4, h5, h⟩ := Option.bind_eq_some_iff.mp h
        refine run_callVi (As := []) (fun r z => (r, z) = q4) mw_X12_durable mi_X12_durable ml_X12_436 is_269 (by decide) rfl rfl rfl (RF.lt (HX12_ofState_X12_durable_lt d)) (Nat.le_of_ble_eq_true rfl) dX12_ofState_98 (sX12_durable G d  h5) (fun r z h8 => ?_) rfl
        rw [show r = q4.1 from congrArg Prod.fst h8, show z = q4.2 from congrArg Prod.snd h8]
        clear h8
        exact run_iret dX12_ofState_101 ⟨_, rfl, Option.some.inj h⟩
      · rw [if_neg c3] at h
        by_cases c6 : x1 = 2
        · rw [if_pos c6] at h
          refine run_tblIn 102 dX12_ofState_52 (by rw [c6]; decide) (by rw [c6]; decide) (off := 50) (by rw [c6]; rfl) (by decide) ?_
          refine run_aload_n 0 dX12_ofState_102 rfl rfl ?_
          refine run_geti fl_X12_348 is_269 (by decide) rfl dX12_ofState_103 ?_
          exact run_iret dX12_ofState_106 ⟨_, rfl, Option.some.inj h⟩
        · rw [if_neg c6] at h
          by_cases c7 : x1 = 3
          · rw [if_pos c7] at h
            refine run_tblIn 107 dX12_ofState_52 (by rw [c7]; decide) (by rw [c7]; decide) (off := 55) (by rw [c7]; rfl) (by decide) ?_
            refine run_aload_n 0 dX12_ofState_107 rfl rfl ?_
            refine run_geti fl_X12_351 is_269 (by decide) rfl dX12_ofState_108 ?_
            exact run_iret dX12_ofState_111 ⟨_, rfl, Option.some.inj h⟩
          · rw [if_neg c7] at h
            by_cases c8 : x1 = 4
            · rw [if_pos c8] at h
              refine run_tblIn 112 dX12_ofState_52 (by rw [c8]; decide) (by rw [c8]; decide) (off := 60) (by rw [c8]; rfl) (by decide) ?_
              refine run_aload_n 0 dX12_ofState_112 rfl rfl ?_
              refine run_geti fl_X12_336 is_269 (by decide) rfl dX12_ofState_113 ?_
              exact run_iret dX12_ofState_116 ⟨_, rfl, Option.some.inj h⟩
            · rw [if_neg c8] at h
              by_cases c9 : x1 = 5
              · rw [if_pos c9] at h
                refine run_tblIn 117 dX12_ofState_52 (by rw [c9]; decide) (by rw [c9]; decide) (off := 65) (by rw [c9]; rfl) (by decide) ?_
                refine run_aload_n 0 dX12_ofState_117 rfl rfl ?_
                obtain ⟨q10, h11, h⟩ := Option.bind_eq_some_iff.mp h
                refine run_callVi (As := []) (fun r z => (r, z) = q10) mw_X12_loses mi_X12_loses ml_X12_448 is_269 (by decide) rfl rfl rfl (RF.lt (HX12_ofState_X12_loses_lt d)) (Nat.le_of_ble_eq_true rfl) dX12_ofState_118 (sX12_loses G d  h11) (fun r z h8 => ?_) rfl
                rw [show r = q10.1 from congrArg Prod.fst h8, show z = q10.2 from congrArg Prod.snd h8]
                clear h8
                exact run_iret dX12_ofState_121 ⟨_, rfl, Option.some.inj h⟩
              · rw [if_neg c9] at h
                refine run_tblOut 122 dX12_ofState_52 (by have tc2 := tbl_ne c2 (z := 0) rfl; have tc3 := tbl_ne c3 (z := 1) rfl; have tc6 := tbl_ne c6 (z := 2) rfl; have tc7 := tbl_ne c7 (z := 3) rfl; have tc8 := tbl_ne c8 (z := 4) rfl; have tc9 := tbl_ne c9 (z := 5) rfl; omega) (by decide) ?_
                refine run_bipush (v := -2) dX12_ofState_122 rfl ?_
                exact run_iret dX12_ofState_124 ⟨_, rfl, Option.some.inj h⟩
  · rw [if_neg c1] at h
    refine run_iload_n 1 dX12_ofState_6 rfl rfl ?_
    refine run_bipush (v := 50) dX12_ofState_7 rfl ?_
    refine run_icmp_ge 27 dX12_ofState_9 (by decide) (fun c12 => ?_) (fun c12 => ?_)
    · rw [if_pos c12] at h
      refine run_iload_n 1 dX12_ofState_27 rfl rfl ?_
      refine run_bipush (v := 110) dX12_ofState_28 rfl ?_
      refine run_icmp_ge 48 dX12_ofState_30 (by decide) (fun c13 => ?_) (fun c13 => ?_)
      · rw [if_pos c13] at h
        refine run_bipush (v := -2) dX12_ofState_48 rfl ?_
        exact run_iret dX12_ofState_50 ⟨_, rfl, Option.some.inj h⟩
      · rw [if_neg c13] at h
        refine run_aload_n 0 dX12_ofState_33 rfl rfl ?_
        refine run_iload_n 1 dX12_ofState_34 rfl rfl ?_
        refine run_bipush (v := 10) dX12_ofState_35 rfl ?_
        refine run_irem dX12_ofState_37 (by decide) ?_
        refine run_iload_n 1 dX12_ofState_38 rfl rfl ?_
        refine run_bipush (v := 10) dX12_ofState_39 rfl ?_
        refine run_idiv dX12_ofState_41 (by decide) ?_
        obtain ⟨q14, h15, h⟩ := Option.bind_eq_some_iff.mp h
        refine run_callVi (As := [.int (x1 % 10), .int (x1 / 10)]) (fun r z => (r, z) = q14) mw_X12_ofWorker mi_X12_ofWorker ml_X12_503 is_269 (by decide) rfl rfl rfl (RF.lt (HX12_ofState_X12_ofWorker_lt d)) (Nat.le_of_ble_eq_true rfl) dX12_ofState_42 (sX12_ofWorker G d  h15) (fun r z h8 => ?_) rfl
        rw [show r = q14.1 from congrArg Prod.fst h8, show z = q14.2 from congrArg Prod.snd h8]
        clear h8
        refine run_goto 50 dX12_ofState_45 (by decide) ?_
        exact run_iret dX12_ofState_50 ⟨_, rfl, Option.some.inj h⟩
    · rw [if_neg c12] at h
      refine run_aload_n 0 dX12_ofState_12 rfl rfl ?_
      refine run_iload_n 1 dX12_ofState_13 rfl rfl ?_
      refine run_bipush (v := 10) dX12_ofState_14 rfl ?_
      refine run_irem dX12_ofState_16 (by decide) ?_
      refine run_iload_n 1 dX12_ofState_17 rfl rfl ?_
      refine run_bipush (v := 10) dX12_ofState_18 rfl ?_
      refine run_idiv dX12_ofState_20 (by decide) ?_
      obtain ⟨q16, h17, h⟩ := Option.bind_eq_some_iff.mp h
      refine run_callVi (As := [.int (x1 % 10), .int (x1 / 10)]) (fun r z => (r, z) = q16) mw_X12_ofKeys mi_X12_ofKeys ml_X12_500 is_269 (by decide) rfl rfl rfl (RF.lt (HX12_ofState_X12_ofKeys_lt d)) (Nat.le_of_ble_eq_true rfl) dX12_ofState_21 (sX12_ofKeys G d  h17) (fun r z h8 => ?_) rfl
      rw [show r = q16.1 from congrArg Prod.fst h8, show z = q16.2 from congrArg Prod.snd h8]
      clear h8
      refine run_goto 50 dX12_ofState_24 (by decide) ?_
      exact run_iret dX12_ofState_50 ⟨_, rfl, Option.some.inj h⟩
def HX12_state : Nat := 10
theorem HX12_state_X12_deeds_lt (d : Nat) : d + HX12_deeds < d + HX12_state := Nat.add_lt_add_left (by decide) d
theorem HX12_state_X12_in_lt (d : Nat) : d + HX12_in < d + HX12_state := Nat.add_lt_add_left (by decide) d
theorem HX12_state_X12_layAll_lt (d : Nat) : d + HX12_layAll < d + HX12_state := Nat.add_lt_add_left (by decide) d
theorem HX12_state_X12_ofState_lt (d : Nat) : d + HX12_ofState < d + HX12_state := Nat.add_lt_add_left (by decide) d
theorem HX12_state_X12_play_lt (d : Nat) : d + HX12_play < d + HX12_state := Nat.add_lt_add_left (by decide) d
theorem HX12_state_0 (d : Nat) : 0 < d + HX12_state := Nat.lt_of_lt_of_le (by decide) (Nat.le_add_left _ d)
def fX12_state (x1 : Int32) (x2 : Int32) (x3 : Int32) (x4 : Int32) (x5 : Int32) (σ : Mem) : Option (Int32 × Mem) := (fX12_layAll x1 x2 x3 (st2 σ 269 0 0)).bind fun q1 => if q1.1 = true then ((fX12_deeds q1.2).bind fun q3 => (fX12_in x4 0 q3.1 q3.2).bind fun q4 => if q4.1 = true then ((fX12_play x4 q4.2).bind fun q6 => if q6.1 = x4 then ((fX12_ofState x5 q6.2).bind fun q8 => some (q8.1, q8.2)) else (some ((-2), q6.2))) else (some ((-2), q4.2))) else (some ((-2), q1.2))
set_option maxRecDepth 20000 in
theorem sX12_state (G : GT) (d : Nat) {x1 : Int32} {x2 : Int32} {x3 : Int32} {x4 : Int32} {x5 : Int32}  {σ : Mem} {o : (Int32 × Mem)} (h : fX12_state x1 x2 x3 x4 x5 σ = some o) : Spec G yX12_state cX12_state 6 (some .int) (d + HX12_state) [.ref (gA G 269), .int x1, .int x2, .int x3, .int x4, .int x5] σ (kI fun x z => (x, z) = o) := by
  refine spec_run (by decide) (Nat.le_of_ble_eq_true rfl) ?_
  unfold fX12_state at h
  show Run G RX12 cX12_state 6 (some .int) _ 0 [(0, .ref (gA G 269)), (1, .int x1), (2, .int x2), (3, .int x3), (4, .int x4), (5, .int x5)] [] σ
  refine run_aload_n 0 dX12_state_0 rfl rfl ?_
  refine run_iconst (v := 0) dX12_state_1 rfl ?_
  refine run_puti fp_X12_144 is_269 (by decide) rfl dX12_state_2 ?_
  refine run_aload_n 0 dX12_state_5 rfl rfl ?_
  refine run_iload_n 1 dX12_state_6 rfl rfl ?_
  refine run_iload_n 2 dX12_state_7 rfl rfl ?_
  refine run_iload_n 3 dX12_state_8 rfl rfl ?_
  obtain ⟨q1, h13, h⟩ := Option.bind_eq_some_iff.mp h
  refine run_callVb (As := [.int x1, .int x2, .int x3]) (fun r z => (r, z) = q1) mw_X12_layAll mi_X12_layAll ml_X12_490 is_269 (by decide) rfl rfl rfl (RF.lt (HX12_state_X12_layAll_lt d)) (Nat.le_of_ble_eq_true rfl) dX12_state_9 (sX12_layAll G d  h13) (fun r z h8 => ?_) rfl
  rw [show r = q1.1 from congrArg Prod.fst h8, show z = q1.2 from congrArg Prod.snd h8]
  clear h8
  refine run_ifb_eq 48 dX12_state_12 (by decide) (fun c2 => ?_) (fun c2 => ?_)
  · rw [if_neg c2] at h
    refine run_bipush (v := -2) dX12_state_48 rfl ?_
    exact run_iret dX12_state_50 ⟨_, rfl, Option.some.inj h⟩
  · rw [if_pos c2] at h
    refine run_iload 4 dX12_state_15 rfl ?_
    refine run_iconst (v := 0) dX12_state_17 rfl ?_
    refine run_aload_n 0 dX12_state_18 rfl rfl ?_
    obtain ⟨q3, h12, h⟩ := Option.bind_eq_some_iff.mp h
    refine run_callVi (As := []) (fun r z => (r, z) = q3) mw_X12_deeds mi_X12_deeds ml_X12_477 is_269 (by decide) rfl rfl rfl (RF.lt (HX12_state_X12_deeds_lt d)) (Nat.le_of_ble_eq_true rfl) dX12_state_19 (sX12_deeds G d  h12) (fun r z h8 => ?_) rfl
    rw [show r = q3.1 from congrArg Prod.fst h8, show z = q3.2 from congrArg Prod.snd h8]
    clear h8
    obtain ⟨q4, h11, h⟩ := Option.bind_eq_some_iff.mp h
    refine run_callSb (As := [.int x4, .int 0, .int q3.1]) (fun r z => (r, z) = q4) mw_X12_in ms_X12_in ml_X12_156 rfl (RF.lt (HX12_state_X12_in_lt d)) (Nat.le_of_ble_eq_true rfl) dX12_state_22 (sX12_in G d  h11) (fun r z h8 => ?_) rfl
    rw [show r = q4.1 from congrArg Prod.fst h8, show z = q4.2 from congrArg Prod.snd h8]
    clear h8
    refine run_ifb_eq 48 dX12_state_25 (by decide) (fun c5 => ?_) (fun c5 => ?_)
    · rw [if_neg c5] at h
      refine run_bipush (v := -2) dX12_state_48 rfl ?_
      exact run_iret dX12_state_50 ⟨_, rfl, Option.some.inj h⟩
    · rw [if_pos c5] at h
      refine run_aload_n 0 dX12_state_28 rfl rfl ?_
      refine run_iload 4 dX12_state_29 rfl ?_
      obtain ⟨q6, h10, h⟩ := Option.bind_eq_some_iff.mp h
      refine run_callVi (As := [.int x4]) (fun r z => (r, z) = q6) mw_X12_play mi_X12_play ml_X12_493 is_269 (by decide) rfl rfl rfl (RF.lt (HX12_state_X12_play_lt d)) (Nat.le_of_ble_eq_true rfl) dX12_state_31 (sX12_play G d  h10) (fun r z h8 => ?_) rfl
      rw [show r = q6.1 from congrArg Prod.fst h8, show z = q6.2 from congrArg Prod.snd h8]
      clear h8
      refine run_iload 4 dX12_state_34 rfl ?_
      refine run_icmp_ne 48 dX12_state_36 (by decide) (fun c7 => ?_) (fun c7 => ?_)
      · rw [if_neg c7] at h
        refine run_bipush (v := -2) dX12_state_48 rfl ?_
        exact run_iret dX12_state_50 ⟨_, rfl, Option.some.inj h⟩
      · rw [if_pos c7] at h
        refine run_aload_n 0 dX12_state_39 rfl rfl ?_
        refine run_iload 5 dX12_state_40 rfl ?_
        obtain ⟨q8, h9, h⟩ := Option.bind_eq_some_iff.mp h
        refine run_callVi (As := [.int x5]) (fun r z => (r, z) = q8) mw_X12_ofState mi_X12_ofState ml_X12_506 is_269 (by decide) rfl rfl rfl (RF.lt (HX12_state_X12_ofState_lt d)) (Nat.le_of_ble_eq_true rfl) dX12_state_42 (sX12_ofState G d  h9) (fun r z h8 => ?_) rfl
        rw [show r = q8.1 from congrArg Prod.fst h8, show z = q8.2 from congrArg Prod.snd h8]
        clear h8
        refine run_goto 50 dX12_state_45 (by decide) ?_
        exact run_iret dX12_state_50 ⟨_, rfl, Option.some.inj h⟩
