/-! methods, translated -/
def HX7_take : Nat := 1
theorem HX7_take_0 (d : Nat) : 0 < d + HX7_take := Nat.lt_of_lt_of_le (by decide) (Nat.le_add_left _ d)
def fX7_take (n0 : Nat) (x1 : Int32) (x2 : Int32) (x3 : Int32) (σ : Mem) : Option Mem := if x1 = 0 then (some (st2 σ n0 0 x2)) else (if x1 = 1 then (some (st2 σ n0 1 x2)) else (if x2 < 0 then (some σ) else (if 10 ≤ x2 then (some σ) else (gd (inb x2 10) (some (st2 σ (n0 + 1) (Int32.toNatClampNeg x2) x3))))))
set_option maxRecDepth 20000 in
theorem sX7_take (G : GT) (d : Nat) {n0 : Nat} {x1 : Int32} {x2 : Int32} {x3 : Int32} (hn0 : Is n0 7) {σ : Mem} {o : Mem} (h : fX7_take n0 x1 x2 x3 σ = some o) : Spec G yX7_take cX7_take 4 none (d + HX7_take) [.ref (gA G n0), .int x1, .int x2, .int x3] σ (kV fun z => z = o) := by
  refine spec_run (by decide) (Nat.le_of_ble_eq_true rfl) ?_
  unfold fX7_take at h
  show Run G RX7 cX7_take 4 none _ 0 [(0, .ref (gA G n0)), (1, .int x1), (2, .int x2), (3, .int x3)] [] σ
  refine run_iload_n 1 dX7_take_0 rfl rfl ?_
  refine run_if_ne 12 dX7_take_1 (by decide) (fun c1 => ?_) (fun c1 => ?_)
  · rw [if_neg c1] at h
    refine run_iload_n 1 dX7_take_12 rfl rfl ?_
    refine run_iconst (v := 1) dX7_take_13 rfl ?_
    refine run_icmp_ne 25 dX7_take_14 (by decide) (fun c2 => ?_) (fun c2 => ?_)
    · rw [if_neg c2] at h
      refine run_iload_n 2 dX7_take_25 rfl rfl ?_
      refine run_if_lt 42 dX7_take_26 (by decide) (fun c3 => ?_) (fun c3 => ?_)
      · rw [if_pos c3] at h
        exact run_vret dX7_take_42 ⟨rfl, Option.some.inj h⟩
      · rw [if_neg c3] at h
        refine run_iload_n 2 dX7_take_29 rfl rfl ?_
        refine run_bipush (v := 10) dX7_take_30 rfl ?_
        refine run_icmp_ge 42 dX7_take_32 (by decide) (fun c4 => ?_) (fun c4 => ?_)
        · rw [if_pos c4] at h
          exact run_vret dX7_take_42 ⟨rfl, Option.some.inj h⟩
        · rw [if_neg c4] at h
          refine run_aload_n 0 dX7_take_35 rfl rfl ?_
          refine run_getr fl_X7_9 hn0 (by decide) rfl (cs_7_2 hn0) dX7_take_36 ?_
          refine run_iload_n 2 dX7_take_39 rfl rfl ?_
          refine run_iload_n 3 dX7_take_40 rfl rfl ?_
          obtain ⟨g5, h⟩ := gd_s h
          refine run_iast' (ch_7_2 hn0) (cl_7_2 hn0) g5 rfl dX7_take_41 ?_
          exact run_vret dX7_take_42 ⟨rfl, Option.some.inj h⟩
    · rw [if_pos c2] at h
      refine run_aload_n 0 dX7_take_17 rfl rfl ?_
      refine run_iload_n 2 dX7_take_18 rfl rfl ?_
      refine run_puti fp_X7_22 hn0 (by decide) rfl dX7_take_19 ?_
      refine run_goto 42 dX7_take_22 (by decide) ?_
      exact run_vret dX7_take_42 ⟨rfl, Option.some.inj h⟩
  · rw [if_pos c1] at h
    refine run_aload_n 0 dX7_take_4 rfl rfl ?_
    refine run_iload_n 2 dX7_take_5 rfl rfl ?_
    refine run_puti fp_X7_18 hn0 (by decide) rfl dX7_take_6 ?_
    refine run_goto 42 dX7_take_9 (by decide) ?_
    exact run_vret dX7_take_42 ⟨rfl, Option.some.inj h⟩
def HX8_holds : Nat := 1
theorem HX8_holds_0 (d : Nat) : 0 < d + HX8_holds := Nat.lt_of_lt_of_le (by decide) (Nat.le_add_left _ d)
def fX8_holds (n0 : Nat) (x1 : Int32) (σ : Mem) : Option (Bool × Mem) := if x1 < 0 then (some (false, σ)) else (if (σ n0 0) ≤ x1 then (some (false, σ)) else (some (true, σ)))
set_option maxRecDepth 20000 in
theorem sX8_holds (G : GT) (d : Nat) {n0 : Nat} {x1 : Int32} (hn0 : Is n0 8) {σ : Mem} {o : (Bool × Mem)} (h : fX8_holds n0 x1 σ = some o) : Spec G yX8_holds cX8_holds 2 (some .boolean) (d + HX8_holds) [.ref (gA G n0), .int x1] σ (kB fun x z => (x, z) = o) := by
  refine spec_run (by decide) (Nat.le_of_ble_eq_true rfl) ?_
  unfold fX8_holds at h
  show Run G RX8 cX8_holds 2 (some .boolean) _ 0 [(0, .ref (gA G n0)), (1, .int x1)] [] σ
  refine run_iload_n 1 dX8_holds_0 rfl rfl ?_
  refine run_if_lt 16 dX8_holds_1 (by decide) (fun c1 => ?_) (fun c1 => ?_)
  · rw [if_pos c1] at h
    refine run_iconst (v := 0) dX8_holds_16 rfl ?_
    exact run_bret (b := false) dX8_holds_17 ⟨_, rfl, Option.some.inj h⟩
  · rw [if_neg c1] at h
    refine run_iload_n 1 dX8_holds_4 rfl rfl ?_
    refine run_aload_n 0 dX8_holds_5 rfl rfl ?_
    refine run_geti fl_X8_24 hn0 (by decide) rfl dX8_holds_6 ?_
    refine run_icmp_ge 16 dX8_holds_9 (by decide) (fun c2 => ?_) (fun c2 => ?_)
    · rw [if_pos c2] at h
      refine run_iconst (v := 0) dX8_holds_16 rfl ?_
      exact run_bret (b := false) dX8_holds_17 ⟨_, rfl, Option.some.inj h⟩
    · rw [if_neg c2] at h
      refine run_iconst (v := 1) dX8_holds_12 rfl ?_
      refine run_goto 17 dX8_holds_13 (by decide) ?_
      exact run_bret (b := true) dX8_holds_17 ⟨_, rfl, Option.some.inj h⟩
def HX8_take : Nat := 1
theorem HX8_take_0 (d : Nat) : 0 < d + HX8_take := Nat.lt_of_lt_of_le (by decide) (Nat.le_add_left _ d)
def fX8_take (n0 : Nat) (x1 : Int32) (x2 : Int32) (x3 : Int32) (σ : Mem) : Option Mem := if x1 = 9 then (if 7 ≤ (σ n0 0) then (some σ) else (gd (inb (σ n0 0) 7) (some (st2 (st2 σ (n0 + 1) (Int32.toNatClampNeg (σ n0 0)) 0) n0 0 (((st2 σ (n0 + 1) (Int32.toNatClampNeg (σ n0 0)) 0) n0 0) + 1))))) else (if ((σ n0 0) - 1) < 0 then (some σ) else (gd (inb ((σ n0 0) - 1) 7) (if (σ (n0 + 1) (Int32.toNatClampNeg ((σ n0 0) - 1))) < 6 then (gd (inb ((σ n0 0) - 1) 7) ((some (((((σ n0 0) - 1) * 6) + (σ (n0 + 1) (Int32.toNatClampNeg ((σ n0 0) - 1)))))).bind fun y6 => gd (inb y6 42) (gd (inb y6 42) (gd (inb y6 42) (gd (inb ((σ n0 0) - 1) 7) (gd (inb ((σ n0 0) - 1) 7) ((some (st2 (st2 (st2 (st2 σ (n0 + 2) (Int32.toNatClampNeg y6) (x1 - 3)) (n0 + 3) (Int32.toNatClampNeg y6) x2) (n0 + 4) (Int32.toNatClampNeg y6) x3) (n0 + 1) (Int32.toNatClampNeg ((σ n0 0) - 1)) (((st2 (st2 (st2 σ (n0 + 2) (Int32.toNatClampNeg y6) (x1 - 3)) (n0 + 3) (Int32.toNatClampNeg y6) x2) (n0 + 4) (Int32.toNatClampNeg y6) x3) (n0 + 1) (Int32.toNatClampNeg ((σ n0 0) - 1))) + 1))).bind fun s12 => some s12))))))) else (some σ))))
set_option maxRecDepth 20000 in
theorem sX8_take (G : GT) (d : Nat) {n0 : Nat} {x1 : Int32} {x2 : Int32} {x3 : Int32} (hn0 : Is n0 8) {σ : Mem} {o : Mem} (h : fX8_take n0 x1 x2 x3 σ = some o) : Spec G yX8_take cX8_take 6 none (d + HX8_take) [.ref (gA G n0), .int x1, .int x2, .int x3] σ (kV fun z => z = o) := by
  refine spec_run (by decide) (Nat.le_of_ble_eq_true rfl) ?_
  unfold fX8_take at h
  show Run G RX8 cX8_take 6 none _ 0 [(0, .ref (gA G n0)), (1, .int x1), (2, .int x2), (3, .int x3)] [] σ
  refine run_iload_n 1 dX8_take_0 rfl rfl ?_
  refine run_bipush (v := 9) dX8_take_1 rfl ?_
  refine run_icmp_ne 36 dX8_take_3 (by decide) (fun c1 => ?_) (fun c1 => ?_)
  · rw [if_neg c1] at h
    refine run_aload_n 0 dX8_take_36 rfl rfl ?_
    refine run_geti fl_X8_24 hn0 (by decide) rfl dX8_take_37 ?_
    refine run_iconst (v := 1) dX8_take_40 rfl ?_
    refine run_isub dX8_take_41 ?_
    refine run_istore [(0, .ref (gA G n0)), (1, .int x1), (2, .int x2), (3, .int x3), (4, .int ((σ n0 0) - 1))] [1, 2, 3, 4, 0] dX8_take_42 (by decide) rfl ?_
    refine run_iload 4 dX8_take_44 rfl ?_
    refine run_if_lt 61 dX8_take_46 (by decide) (fun c2 => ?_) (fun c2 => ?_)
    · rw [if_pos c2] at h
      exact run_vret dX8_take_61 ⟨rfl, Option.some.inj h⟩
    · rw [if_neg c2] at h
      refine run_aload_n 0 dX8_take_49 rfl rfl ?_
      refine run_getr fl_X8_9 hn0 (by decide) rfl (cs_8_1 hn0) dX8_take_50 ?_
      refine run_iload 4 dX8_take_53 rfl ?_
      obtain ⟨g3, h⟩ := gd_s h
      refine run_iald' (ch_8_1 hn0) (cl_8_1 hn0) g3 rfl dX8_take_55 ?_
      refine run_bipush (v := 6) dX8_take_56 rfl ?_
      refine run_icmp_lt 62 dX8_take_58 (by decide) (fun c4 => ?_) (fun c4 => ?_)
      · rw [if_pos c4] at h
        refine run_iload 4 dX8_take_62 rfl ?_
        refine run_bipush (v := 6) dX8_take_64 rfl ?_
        refine run_imul dX8_take_66 ?_
        refine run_aload_n 0 dX8_take_67 rfl rfl ?_
        refine run_getr fl_X8_9 hn0 (by decide) rfl (cs_8_1 hn0) dX8_take_68 ?_
        refine run_iload 4 dX8_take_71 rfl ?_
        obtain ⟨g5, h⟩ := gd_s h
        refine run_iald' (ch_8_1 hn0) (cl_8_1 hn0) g5 rfl dX8_take_73 ?_
        refine run_iadd dX8_take_74 ?_
        rw [Option.bind_some] at h
        refine run_topi (fun y6 ey6 => ?_)
        rw [← ey6] at h
        refine run_istore [(0, .ref (gA G n0)), (1, .int x1), (2, .int x2), (3, .int x3), (4, .int ((σ n0 0) - 1)), (5, .int y6)] [1, 2, 3, 4, 5, 0] dX8_take_75 (by decide) rfl ?_
        refine run_aload_n 0 dX8_take_77 rfl rfl ?_
        refine run_getr fl_X8_15 hn0 (by decide) rfl (cs_8_2 hn0) dX8_take_78 ?_
        refine run_iload 5 dX8_take_81 rfl ?_
        refine run_iload_n 1 dX8_take_83 rfl rfl ?_
        refine run_iconst (v := 3) dX8_take_84 rfl ?_
        refine run_isub dX8_take_85 ?_
        obtain ⟨g7, h⟩ := gd_s h
        refine run_iast' (ch_8_2 hn0) (cl_8_2 hn0) g7 rfl dX8_take_86 ?_
        refine run_aload_n 0 dX8_take_87 rfl rfl ?_
        refine run_getr fl_X8_18 hn0 (by decide) rfl (cs_8_3 hn0) dX8_take_88 ?_
        refine run_iload 5 dX8_take_91 rfl ?_
        refine run_iload_n 2 dX8_take_93 rfl rfl ?_
        obtain ⟨g8, h⟩ := gd_s h
        refine run_iast' (ch_8_3 hn0) (cl_8_3 hn0) g8 rfl dX8_take_94 ?_
        refine run_aload_n 0 dX8_take_95 rfl rfl ?_
        refine run_getr fl_X8_21 hn0 (by decide) rfl (cs_8_4 hn0) dX8_take_96 ?_
        refine run_iload 5 dX8_take_99 rfl ?_
        refine run_iload_n 3 dX8_take_101 rfl rfl ?_
        obtain ⟨g9, h⟩ := gd_s h
        refine run_iast' (ch_8_4 hn0) (cl_8_4 hn0) g9 rfl dX8_take_102 ?_
        refine run_aload_n 0 dX8_take_103 rfl rfl ?_
        refine run_getr fl_X8_9 hn0 (by decide) rfl (cs_8_1 hn0) dX8_take_104 ?_
        refine run_iload 4 dX8_take_107 rfl ?_
        refine run_dup2 dX8_take_109 rfl rfl ?_
        obtain ⟨g10, h⟩ := gd_s h
        refine run_iald' (ch_8_1 hn0) (cl_8_1 hn0) g10 rfl dX8_take_110 ?_
        refine run_iconst (v := 1) dX8_take_111 rfl ?_
        refine run_iadd dX8_take_112 ?_
        obtain ⟨g11, h⟩ := gd_s h
        refine run_iast' (ch_8_1 hn0) (cl_8_1 hn0) g11 rfl dX8_take_113 ?_
        rw [Option.bind_some] at h
        refine run_mem (fun s12 es12 => ?_)
        rw [← es12] at h
        exact run_vret dX8_take_114 ⟨rfl, Option.some.inj h⟩
      · rw [if_neg c4] at h
        exact run_vret dX8_take_61 ⟨rfl, Option.some.inj h⟩
  · rw [if_pos c1] at h
    refine run_aload_n 0 dX8_take_6 rfl rfl ?_
    refine run_geti fl_X8_24 hn0 (by decide) rfl dX8_take_7 ?_
    refine run_bipush (v := 7) dX8_take_10 rfl ?_
    refine run_icmp_ge 35 dX8_take_12 (by decide) (fun c13 => ?_) (fun c13 => ?_)
    · rw [if_pos c13] at h
      exact run_vret dX8_take_35 ⟨rfl, Option.some.inj h⟩
    · rw [if_neg c13] at h
      refine run_aload_n 0 dX8_take_15 rfl rfl ?_
      refine run_getr fl_X8_9 hn0 (by decide) rfl (cs_8_1 hn0) dX8_take_16 ?_
      refine run_aload_n 0 dX8_take_19 rfl rfl ?_
      refine run_geti fl_X8_24 hn0 (by decide) rfl dX8_take_20 ?_
      refine run_iconst (v := 0) dX8_take_23 rfl ?_
      obtain ⟨g14, h⟩ := gd_s h
      refine run_iast' (ch_8_1 hn0) (cl_8_1 hn0) g14 rfl dX8_take_24 ?_
      refine run_aload_n 0 dX8_take_25 rfl rfl ?_
      refine run_dup dX8_take_26 rfl ?_
      refine run_geti fl_X8_24 hn0 (by decide) rfl dX8_take_27 ?_
      refine run_iconst (v := 1) dX8_take_30 rfl ?_
      refine run_iadd dX8_take_31 ?_
      refine run_puti fp_X8_24 hn0 (by decide) rfl dX8_take_32 ?_
      exact run_vret dX8_take_35 ⟨rfl, Option.some.inj h⟩
def HX8_copyFrom : Nat := 1
theorem HX8_copyFrom_0 (d : Nat) : 0 < d + HX8_copyFrom := Nat.lt_of_lt_of_le (by decide) (Nat.le_add_left _ d)
def fX8_copyFrom (n0 : Nat) (n1 : Nat) (σ : Mem) : Option Mem := some (cp2 (cp2 (cp2 (cp2 (st2 σ n0 0 (σ n1 0)) (n1 + 1) (n0 + 1) 0 0 7) (n1 + 2) (n0 + 2) 0 0 42) (n1 + 3) (n0 + 3) 0 0 42) (n1 + 4) (n0 + 4) 0 0 42)
set_option maxRecDepth 20000 in
theorem sX8_copyFrom (G : GT) (d : Nat) {n0 : Nat} {n1 : Nat} (hn0 : Is n0 8) (hn1 : Is n1 8) {σ : Mem} {o : Mem} (h : fX8_copyFrom n0 n1 σ = some o) : Spec G yX8_copyFrom cX8_copyFrom 2 none (d + HX8_copyFrom) [.ref (gA G n0), .ref (gA G n1)] σ (kV fun z => z = o) := by
  refine spec_run (by decide) (Nat.le_of_ble_eq_true rfl) ?_
  unfold fX8_copyFrom at h
  show Run G RX8 cX8_copyFrom 2 none _ 0 [(0, .ref (gA G n0)), (1, .ref (gA G n1))] [] σ
  refine run_aload_n 0 dX8_copyFrom_0 rfl rfl ?_
  refine run_aload_n 1 dX8_copyFrom_1 rfl rfl ?_
  refine run_geti fl_X8_24 hn1 (by decide) rfl dX8_copyFrom_2 ?_
  refine run_puti fp_X8_24 hn0 (by decide) rfl dX8_copyFrom_5 ?_
  refine run_aload_n 1 dX8_copyFrom_8 rfl rfl ?_
  refine run_getr fl_X8_9 hn1 (by decide) rfl (cs_8_1 hn1) dX8_copyFrom_9 ?_
  refine run_iconst (v := 0) dX8_copyFrom_12 rfl ?_
  refine run_aload_n 0 dX8_copyFrom_13 rfl rfl ?_
  refine run_getr fl_X8_9 hn0 (by decide) rfl (cs_8_1 hn0) dX8_copyFrom_14 ?_
  refine run_iconst (v := 0) dX8_copyFrom_17 rfl ?_
  refine run_bipush (v := 7) dX8_copyFrom_18 rfl ?_
  refine run_copyi' 0 0 7 rfl rfl rfl mc_X8_28 (ch_8_1 hn1) (ch_8_1 hn0) (cl_8_1 hn1) (cl_8_1 hn0) (by decide) (by decide) (by decide) (by decide) (by decide) (RF.lt (HX8_copyFrom_0 d)) (Nat.le_of_ble_eq_true rfl) dX8_copyFrom_20 ?_
  refine run_aload_n 1 dX8_copyFrom_23 rfl rfl ?_
  refine run_getr fl_X8_15 hn1 (by decide) rfl (cs_8_2 hn1) dX8_copyFrom_24 ?_
  refine run_iconst (v := 0) dX8_copyFrom_27 rfl ?_
  refine run_aload_n 0 dX8_copyFrom_28 rfl rfl ?_
  refine run_getr fl_X8_15 hn0 (by decide) rfl (cs_8_2 hn0) dX8_copyFrom_29 ?_
  refine run_iconst (v := 0) dX8_copyFrom_32 rfl ?_
  refine run_bipush (v := 42) dX8_copyFrom_33 rfl ?_
  refine run_copyi' 0 0 42 rfl rfl rfl mc_X8_28 (ch_8_2 hn1) (ch_8_2 hn0) (cl_8_2 hn1) (cl_8_2 hn0) (by decide) (by decide) (by decide) (by decide) (by decide) (RF.lt (HX8_copyFrom_0 d)) (Nat.le_of_ble_eq_true rfl) dX8_copyFrom_35 ?_
  refine run_aload_n 1 dX8_copyFrom_38 rfl rfl ?_
  refine run_getr fl_X8_18 hn1 (by decide) rfl (cs_8_3 hn1) dX8_copyFrom_39 ?_
  refine run_iconst (v := 0) dX8_copyFrom_42 rfl ?_
  refine run_aload_n 0 dX8_copyFrom_43 rfl rfl ?_
  refine run_getr fl_X8_18 hn0 (by decide) rfl (cs_8_3 hn0) dX8_copyFrom_44 ?_
  refine run_iconst (v := 0) dX8_copyFrom_47 rfl ?_
  refine run_bipush (v := 42) dX8_copyFrom_48 rfl ?_
  refine run_copyi' 0 0 42 rfl rfl rfl mc_X8_28 (ch_8_3 hn1) (ch_8_3 hn0) (cl_8_3 hn1) (cl_8_3 hn0) (by decide) (by decide) (by decide) (by decide) (by decide) (RF.lt (HX8_copyFrom_0 d)) (Nat.le_of_ble_eq_true rfl) dX8_copyFrom_50 ?_
  refine run_aload_n 1 dX8_copyFrom_53 rfl rfl ?_
  refine run_getr fl_X8_21 hn1 (by decide) rfl (cs_8_4 hn1) dX8_copyFrom_54 ?_
  refine run_iconst (v := 0) dX8_copyFrom_57 rfl ?_
  refine run_aload_n 0 dX8_copyFrom_58 rfl rfl ?_
  refine run_getr fl_X8_21 hn0 (by decide) rfl (cs_8_4 hn0) dX8_copyFrom_59 ?_
  refine run_iconst (v := 0) dX8_copyFrom_62 rfl ?_
  refine run_bipush (v := 42) dX8_copyFrom_63 rfl ?_
  refine run_copyi' 0 0 42 rfl rfl rfl mc_X8_28 (ch_8_4 hn1) (ch_8_4 hn0) (cl_8_4 hn1) (cl_8_4 hn0) (by decide) (by decide) (by decide) (by decide) (by decide) (RF.lt (HX8_copyFrom_0 d)) (Nat.le_of_ble_eq_true rfl) dX8_copyFrom_65 ?_
  exact run_vret dX8_copyFrom_68 ⟨rfl, Option.some.inj h⟩
def HX8_readsOf : Nat := 1
theorem HX8_readsOf_0 (d : Nat) : 0 < d + HX8_readsOf := Nat.lt_of_lt_of_le (by decide) (Nat.le_add_left _ d)
def lX8_readsOf_4 (n0 : Nat) (x1 : Int32) : Nat → Int32 → Int32 → Mem → Option (Int32 × Mem)
  | 0, _, _, _ => none
  | n + 1, x2, x3, σ => gd (inb x1 7) (if (σ (n0 + 1) (Int32.toNatClampNeg x1)) ≤ x3 then (some (x2, σ)) else (gd (inb ((x1 * 6) + x3) 42) ((if (σ (n0 + 2) (Int32.toNatClampNeg ((x1 * 6) + x3))) = 0 then (gd (inb ((x1 * 6) + x3) 42) ((some ((x2 ||| ((1 : Int32) <<< ((σ (n0 + 3) (Int32.toNatClampNeg ((x1 * 6) + x3))) &&& 31))))).bind fun y22 => some y22)) else (gd (inb ((x1 * 6) + x3) 42) (if (σ (n0 + 2) (Int32.toNatClampNeg ((x1 * 6) + x3))) = 4 then (gd (inb ((x1 * 6) + x3) 42) ((some ((x2 ||| ((1 : Int32) <<< ((σ (n0 + 3) (Int32.toNatClampNeg ((x1 * 6) + x3))) &&& 31))))).bind fun y31 => some y31)) else (gd (inb ((x1 * 6) + x3) 42) (if (σ (n0 + 2) (Int32.toNatClampNeg ((x1 * 6) + x3))) = 5 then (gd (inb ((x1 * 6) + x3) 42) (gd (inb ((x1 * 6) + x3) 42) ((some ((x2 ||| (((2 : Int32) <<< ((σ (n0 + 4) (Int32.toNatClampNeg ((x1 * 6) + x3))) &&& 31)) - ((1 : Int32) <<< ((σ (n0 + 3) (Int32.toNatClampNeg ((x1 * 6) + x3))) &&& 31)))))).bind fun y29 => some y29))) else (some x2))))) : Option (Int32)).bind fun q32 => lX8_readsOf_4 n0 x1 n q32 (x3 + 1) σ)))
set_option maxRecDepth 20000 in
theorem lpX8_readsOf_4 (G : GT) (d : Nat) (n0 : Nat) (x1 : Int32) (hn0 : Is n0 8) {K : Option Value → Mem → Prop} : ∀ (n : Nat) (x2 : Int32) (x3 : Int32) (σ : Mem) (o : Int32 × Mem), lX8_readsOf_4 n0 x1 n x2 x3 σ = some o → (Run G RX8 cX8_readsOf 5 (some .int) (mF G (d + HX8_readsOf) K) 97 [(2, .int (o.1))] [] (o.2)) → Run G RX8 cX8_readsOf 5 (some .int) (mF G (d + HX8_readsOf) K) 4 [(0, .ref (gA G n0)), (1, .int x1), (2, .int x2), (3, .int x3)] [] σ := by
  intro n
  induction n with
  | zero => intro x2 x3 σ o h; exact absurd h (by simp [lX8_readsOf_4])
  | succ n ih =>
    intro x2 x3 σ o h kx
    rw [lX8_readsOf_4] at h
    refine run_iload_n 3 dX8_readsOf_4 rfl rfl ?_
    refine run_aload_n 0 dX8_readsOf_5 rfl rfl ?_
    refine run_getr fl_X8_9 hn0 (by decide) rfl (cs_8_1 hn0) dX8_readsOf_6 ?_
    refine run_iload_n 1 dX8_readsOf_9 rfl rfl ?_
    obtain ⟨g17, h⟩ := gd_s h
    refine run_iald' (ch_8_1 hn0) (cl_8_1 hn0) g17 rfl dX8_readsOf_10 ?_
    refine run_icmp_ge 97 dX8_readsOf_11 (by decide) (fun c18 => ?_) (fun c18 => ?_)
    · rw [if_pos c18] at h
      rw [← Option.some.inj h] at kx
      refine run_forget [2] rfl ?_
      exact kx
    · rw [if_neg c18] at h
      refine run_iload_n 1 dX8_readsOf_14 rfl rfl ?_
      refine run_bipush (v := 6) dX8_readsOf_15 rfl ?_
      refine run_imul dX8_readsOf_17 ?_
      refine run_iload_n 3 dX8_readsOf_18 rfl rfl ?_
      refine run_iadd dX8_readsOf_19 ?_
      refine run_istore [(0, .ref (gA G n0)), (1, .int x1), (2, .int x2), (3, .int x3), (4, .int ((x1 * 6) + x3))] [1, 2, 3, 4, 0] dX8_readsOf_20 (by decide) rfl ?_
      refine run_aload_n 0 dX8_readsOf_22 rfl rfl ?_
      refine run_getr fl_X8_15 hn0 (by decide) rfl (cs_8_2 hn0) dX8_readsOf_23 ?_
      refine run_iload 4 dX8_readsOf_26 rfl ?_
      obtain ⟨g19, h⟩ := gd_s h
      refine run_iald' (ch_8_2 hn0) (cl_8_2 hn0) g19 rfl dX8_readsOf_28 ?_
      obtain ⟨q32, h, h9⟩ := Option.bind_eq_some_iff.mp h
      have hj33 : Run G RX8 cX8_readsOf 5 (some .int) (mF G (d + HX8_readsOf) K) 91 [(0, .ref (gA G n0)), (1, .int x1), (2, .int q32), (3, .int x3)] [] σ := by
        clear h
        have h := h9
        clear h9
        refine run_iinc 3 [(0, .ref (gA G n0)), (1, .int x1), (2, .int q32), (3, .int (x3 + 1))] [1, 2, 3, 0] dX8_readsOf_91 rfl rfl (by decide) rfl ?_
        refine run_goto 4 dX8_readsOf_94 (by decide) ?_
        exact ih _ _ _ _ h kx
      clear h9
      refine run_if_eq 43 dX8_readsOf_29 (by decide) (fun c20 => ?_) (fun c20 => ?_)
      · rw [if_pos c20] at h
        refine run_iload_n 2 dX8_readsOf_43 rfl rfl ?_
        refine run_iconst (v := 1) dX8_readsOf_44 rfl ?_
        refine run_aload_n 0 dX8_readsOf_45 rfl rfl ?_
        refine run_getr fl_X8_18 hn0 (by decide) rfl (cs_8_3 hn0) dX8_readsOf_46 ?_
        refine run_iload 4 dX8_readsOf_49 rfl ?_
        obtain ⟨g21, h⟩ := gd_s h
        refine run_iald' (ch_8_3 hn0) (cl_8_3 hn0) g21 rfl dX8_readsOf_51 ?_
        refine run_ishl dX8_readsOf_52 ?_
        refine run_ior dX8_readsOf_53 ?_
        rw [Option.bind_some] at h
        refine run_topi (fun y22 ey22 => ?_)
        rw [← ey22] at h
        refine run_istore_n [(0, .ref (gA G n0)), (1, .int x1), (2, .int y22), (3, .int x3)] [1, 2, 0, 3] dX8_readsOf_54 rfl (by decide) rfl ?_
        refine run_goto 91 dX8_readsOf_55 (by decide) ?_
        rw [← Option.some.inj h] at hj33
        exact hj33
      · rw [if_neg c20] at h
        refine run_aload_n 0 dX8_readsOf_32 rfl rfl ?_
        refine run_getr fl_X8_15 hn0 (by decide) rfl (cs_8_2 hn0) dX8_readsOf_33 ?_
        refine run_iload 4 dX8_readsOf_36 rfl ?_
        obtain ⟨g23, h⟩ := gd_s h
        refine run_iald' (ch_8_2 hn0) (cl_8_2 hn0) g23 rfl dX8_readsOf_38 ?_
        refine run_iconst (v := 4) dX8_readsOf_39 rfl ?_
        refine run_icmp_ne 58 dX8_readsOf_40 (by decide) (fun c24 => ?_) (fun c24 => ?_)
        · rw [if_neg c24] at h
          refine run_aload_n 0 dX8_readsOf_58 rfl rfl ?_
          refine run_getr fl_X8_15 hn0 (by decide) rfl (cs_8_2 hn0) dX8_readsOf_59 ?_
          refine run_iload 4 dX8_readsOf_62 rfl ?_
          obtain ⟨g25, h⟩ := gd_s h
          refine run_iald' (ch_8_2 hn0) (cl_8_2 hn0) g25 rfl dX8_readsOf_64 ?_
          refine run_iconst (v := 5) dX8_readsOf_65 rfl ?_
          refine run_icmp_ne 91 dX8_readsOf_66 (by decide) (fun c26 => ?_) (fun c26 => ?_)
          · rw [if_neg c26] at h
            rw [← Option.some.inj h] at hj33
            refine run_forget [0, 1, 2, 3] rfl ?_
            exact hj33
          · rw [if_pos c26] at h
            refine run_iload_n 2 dX8_readsOf_69 rfl rfl ?_
            refine run_iconst (v := 2) dX8_readsOf_70 rfl ?_
            refine run_aload_n 0 dX8_readsOf_71 rfl rfl ?_
            refine run_getr fl_X8_21 hn0 (by decide) rfl (cs_8_4 hn0) dX8_readsOf_72 ?_
            refine run_iload 4 dX8_readsOf_75 rfl ?_
            obtain ⟨g27, h⟩ := gd_s h
            refine run_iald' (ch_8_4 hn0) (cl_8_4 hn0) g27 rfl dX8_readsOf_77 ?_
            refine run_ishl dX8_readsOf_78 ?_
            refine run_iconst (v := 1) dX8_readsOf_79 rfl ?_
            refine run_aload_n 0 dX8_readsOf_80 rfl rfl ?_
            refine run_getr fl_X8_18 hn0 (by decide) rfl (cs_8_3 hn0) dX8_readsOf_81 ?_
            refine run_iload 4 dX8_readsOf_84 rfl ?_
            obtain ⟨g28, h⟩ := gd_s h
            refine run_iald' (ch_8_3 hn0) (cl_8_3 hn0) g28 rfl dX8_readsOf_86 ?_
            refine run_ishl dX8_readsOf_87 ?_
            refine run_isub dX8_readsOf_88 ?_
            refine run_ior dX8_readsOf_89 ?_
            rw [Option.bind_some] at h
            refine run_topi (fun y29 ey29 => ?_)
            rw [← ey29] at h
            refine run_istore_n [(0, .ref (gA G n0)), (1, .int x1), (2, .int y29), (3, .int x3)] [1, 2, 0, 3] dX8_readsOf_90 rfl (by decide) rfl ?_
            rw [← Option.some.inj h] at hj33
            exact hj33
        · rw [if_pos c24] at h
          refine run_iload_n 2 dX8_readsOf_43 rfl rfl ?_
          refine run_iconst (v := 1) dX8_readsOf_44 rfl ?_
          refine run_aload_n 0 dX8_readsOf_45 rfl rfl ?_
          refine run_getr fl_X8_18 hn0 (by decide) rfl (cs_8_3 hn0) dX8_readsOf_46 ?_
          refine run_iload 4 dX8_readsOf_49 rfl ?_
          obtain ⟨g30, h⟩ := gd_s h
          refine run_iald' (ch_8_3 hn0) (cl_8_3 hn0) g30 rfl dX8_readsOf_51 ?_
          refine run_ishl dX8_readsOf_52 ?_
          refine run_ior dX8_readsOf_53 ?_
          rw [Option.bind_some] at h
          refine run_topi (fun y31 ey31 => ?_)
          rw [← ey31] at h
          refine run_istore_n [(0, .ref (gA G n0)), (1, .int x1), (2, .int y31), (3, .int x3)] [1, 2, 0, 3] dX8_readsOf_54 rfl (by decide) rfl ?_
          refine run_goto 91 dX8_readsOf_55 (by decide) ?_
          rw [← Option.some.inj h] at hj33
          exact hj33
def fX8_readsOf (n0 : Nat) (x1 : Int32) (σ : Mem) : Option (Int32 × Mem) := (lX8_readsOf_4 n0 x1 FU 0 0 σ).bind fun q34 => some ((q34.1), (q34.2))
set_option maxRecDepth 20000 in
theorem sX8_readsOf (G : GT) (d : Nat) {n0 : Nat} {x1 : Int32} (hn0 : Is n0 8) {σ : Mem} {o : (Int32 × Mem)} (h : fX8_readsOf n0 x1 σ = some o) : Spec G yX8_readsOf cX8_readsOf 5 (some .int) (d + HX8_readsOf) [.ref (gA G n0), .int x1] σ (kI fun x z => (x, z) = o) := by
  refine spec_run (by decide) (Nat.le_of_ble_eq_true rfl) ?_
  unfold fX8_readsOf at h
  show Run G RX8 cX8_readsOf 5 (some .int) _ 0 [(0, .ref (gA G n0)), (1, .int x1)] [] σ
  refine run_iconst (v := 0) dX8_readsOf_0 rfl ?_
  refine run_istore_n [(0, .ref (gA G n0)), (1, .int x1), (2, .int 0)] [1, 2, 0] dX8_readsOf_1 rfl (by decide) rfl ?_
  refine run_iconst (v := 0) dX8_readsOf_2 rfl ?_
  refine run_istore_n [(0, .ref (gA G n0)), (1, .int x1), (2, .int 0), (3, .int 0)] [1, 2, 3, 0] dX8_readsOf_3 rfl (by decide) rfl ?_
  obtain ⟨q34, h35, h⟩ := Option.bind_eq_some_iff.mp h
  refine lpX8_readsOf_4 G d _ _ hn0 _ _ _ _ _ h35 ?_
  refine run_iload_n 0 dX8_readsOf_97 rfl rfl ?_
  exact run_iret dX8_readsOf_98 ⟨_, rfl, Option.some.inj h⟩
def HX8_writesOf : Nat := 1
theorem HX8_writesOf_0 (d : Nat) : 0 < d + HX8_writesOf := Nat.lt_of_lt_of_le (by decide) (Nat.le_add_left _ d)
def lX8_writesOf_4 (n0 : Nat) (x1 : Int32) : Nat → Int32 → Int32 → Mem → Option (Int32 × Mem)
  | 0, _, _, _ => none
  | n + 1, x2, x3, σ => gd (inb x1 7) (if (σ (n0 + 1) (Int32.toNatClampNeg x1)) ≤ x3 then (some (x2, σ)) else (gd (inb ((x1 * 6) + x3) 42) ((if (σ (n0 + 2) (Int32.toNatClampNeg ((x1 * 6) + x3))) = 0 then (some x2) else (gd (inb ((x1 * 6) + x3) 42) (if (σ (n0 + 2) (Int32.toNatClampNeg ((x1 * 6) + x3))) = 5 then (some x2) else (gd (inb ((x1 * 6) + x3) 42) ((some ((x2 ||| ((1 : Int32) <<< ((σ (n0 + 3) (Int32.toNatClampNeg ((x1 * 6) + x3))) &&& 31))))).bind fun y17 => some y17)))) : Option (Int32)).bind fun q18 => lX8_writesOf_4 n0 x1 n q18 (x3 + 1) σ)))
set_option maxRecDepth 20000 in
theorem lpX8_writesOf_4 (G : GT) (d : Nat) (n0 : Nat) (x1 : Int32) (hn0 : Is n0 8) {K : Option Value → Mem → Prop} : ∀ (n : Nat) (x2 : Int32) (x3 : Int32) (σ : Mem) (o : Int32 × Mem), lX8_writesOf_4 n0 x1 n x2 x3 σ = some o → (Run G RX8 cX8_writesOf 5 (some .int) (mF G (d + HX8_writesOf) K) 61 [(2, .int (o.1))] [] (o.2)) → Run G RX8 cX8_writesOf 5 (some .int) (mF G (d + HX8_writesOf) K) 4 [(0, .ref (gA G n0)), (1, .int x1), (2, .int x2), (3, .int x3)] [] σ := by
  intro n
  induction n with
  | zero => intro x2 x3 σ o h; exact absurd h (by simp [lX8_writesOf_4])
  | succ n ih =>
    intro x2 x3 σ o h kx
    rw [lX8_writesOf_4] at h
    refine run_iload_n 3 dX8_writesOf_4 rfl rfl ?_
    refine run_aload_n 0 dX8_writesOf_5 rfl rfl ?_
    refine run_getr fl_X8_9 hn0 (by decide) rfl (cs_8_1 hn0) dX8_writesOf_6 ?_
    refine run_iload_n 1 dX8_writesOf_9 rfl rfl ?_
    obtain ⟨g10, h⟩ := gd_s h
    refine run_iald' (ch_8_1 hn0) (cl_8_1 hn0) g10 rfl dX8_writesOf_10 ?_
    refine run_icmp_ge 61 dX8_writesOf_11 (by decide) (fun c11 => ?_) (fun c11 => ?_)
    · rw [if_pos c11] at h
      rw [← Option.some.inj h] at kx
      refine run_forget [2] rfl ?_
      exact kx
    · rw [if_neg c11] at h
      refine run_iload_n 1 dX8_writesOf_14 rfl rfl ?_
      refine run_bipush (v := 6) dX8_writesOf_15 rfl ?_
      refine run_imul dX8_writesOf_17 ?_
      refine run_iload_n 3 dX8_writesOf_18 rfl rfl ?_
      refine run_iadd dX8_writesOf_19 ?_
      refine run_istore [(0, .ref (gA G n0)), (1, .int x1), (2, .int x2), (3, .int x3), (4, .int ((x1 * 6) + x3))] [1, 2, 3, 4, 0] dX8_writesOf_20 (by decide) rfl ?_
      refine run_aload_n 0 dX8_writesOf_22 rfl rfl ?_
      refine run_getr fl_X8_15 hn0 (by decide) rfl (cs_8_2 hn0) dX8_writesOf_23 ?_
      refine run_iload 4 dX8_writesOf_26 rfl ?_
      obtain ⟨g12, h⟩ := gd_s h
      refine run_iald' (ch_8_2 hn0) (cl_8_2 hn0) g12 rfl dX8_writesOf_28 ?_
      obtain ⟨q18, h, h9⟩ := Option.bind_eq_some_iff.mp h
      have hj19 : Run G RX8 cX8_writesOf 5 (some .int) (mF G (d + HX8_writesOf) K) 55 [(0, .ref (gA G n0)), (1, .int x1), (2, .int q18), (3, .int x3)] [] σ := by
        clear h
        have h := h9
        clear h9
        refine run_iinc 3 [(0, .ref (gA G n0)), (1, .int x1), (2, .int q18), (3, .int (x3 + 1))] [1, 2, 3, 0] dX8_writesOf_55 rfl rfl (by decide) rfl ?_
        refine run_goto 4 dX8_writesOf_58 (by decide) ?_
        exact ih _ _ _ _ h kx
      clear h9
      refine run_if_eq 55 dX8_writesOf_29 (by decide) (fun c13 => ?_) (fun c13 => ?_)
      · rw [if_pos c13] at h
        rw [← Option.some.inj h] at hj19
        refine run_forget [0, 1, 2, 3] rfl ?_
        exact hj19
      · rw [if_neg c13] at h
        refine run_aload_n 0 dX8_writesOf_32 rfl rfl ?_
        refine run_getr fl_X8_15 hn0 (by decide) rfl (cs_8_2 hn0) dX8_writesOf_33 ?_
        refine run_iload 4 dX8_writesOf_36 rfl ?_
        obtain ⟨g14, h⟩ := gd_s h
        refine run_iald' (ch_8_2 hn0) (cl_8_2 hn0) g14 rfl dX8_writesOf_38 ?_
        refine run_iconst (v := 5) dX8_writesOf_39 rfl ?_
        refine run_icmp_eq 55 dX8_writesOf_40 (by decide) (fun c15 => ?_) (fun c15 => ?_)
        · rw [if_pos c15] at h
          rw [← Option.some.inj h] at hj19
          refine run_forget [0, 1, 2, 3] rfl ?_
          exact hj19
        · rw [if_neg c15] at h
          refine run_iload_n 2 dX8_writesOf_43 rfl rfl ?_
          refine run_iconst (v := 1) dX8_writesOf_44 rfl ?_
          refine run_aload_n 0 dX8_writesOf_45 rfl rfl ?_
          refine run_getr fl_X8_18 hn0 (by decide) rfl (cs_8_3 hn0) dX8_writesOf_46 ?_
          refine run_iload 4 dX8_writesOf_49 rfl ?_
          obtain ⟨g16, h⟩ := gd_s h
          refine run_iald' (ch_8_3 hn0) (cl_8_3 hn0) g16 rfl dX8_writesOf_51 ?_
          refine run_ishl dX8_writesOf_52 ?_
          refine run_ior dX8_writesOf_53 ?_
          rw [Option.bind_some] at h
          refine run_topi (fun y17 ey17 => ?_)
          rw [← ey17] at h
          refine run_istore_n [(0, .ref (gA G n0)), (1, .int x1), (2, .int y17), (3, .int x3)] [1, 2, 0, 3] dX8_writesOf_54 rfl (by decide) rfl ?_
          rw [← Option.some.inj h] at hj19
          exact hj19
def fX8_writesOf (n0 : Nat) (x1 : Int32) (σ : Mem) : Option (Int32 × Mem) := (lX8_writesOf_4 n0 x1 FU 0 0 σ).bind fun q20 => some ((q20.1), (q20.2))
set_option maxRecDepth 20000 in
theorem sX8_writesOf (G : GT) (d : Nat) {n0 : Nat} {x1 : Int32} (hn0 : Is n0 8) {σ : Mem} {o : (Int32 × Mem)} (h : fX8_writesOf n0 x1 σ = some o) : Spec G yX8_writesOf cX8_writesOf 5 (some .int) (d + HX8_writesOf) [.ref (gA G n0), .int x1] σ (kI fun x z => (x, z) = o) := by
  refine spec_run (by decide) (Nat.le_of_ble_eq_true rfl) ?_
  unfold fX8_writesOf at h
  show Run G RX8 cX8_writesOf 5 (some .int) _ 0 [(0, .ref (gA G n0)), (1, .int x1)] [] σ
  refine run_iconst (v := 0) dX8_writesOf_0 rfl ?_
  refine run_istore_n [(0, .ref (gA G n0)), (1, .int x1), (2, .int 0)] [1, 2, 0] dX8_writesOf_1 rfl (by decide) rfl ?_
  refine run_iconst (v := 0) dX8_writesOf_2 rfl ?_
  refine run_istore_n [(0, .ref (gA G n0)), (1, .int x1), (2, .int 0), (3, .int 0)] [1, 2, 3, 0] dX8_writesOf_3 rfl (by decide) rfl ?_
  obtain ⟨q20, h21, h⟩ := Option.bind_eq_some_iff.mp h
  refine lpX8_writesOf_4 G d _ _ hn0 _ _ _ _ _ h21 ?_
  refine run_iload_n 0 dX8_writesOf_61 rfl rfl ?_
  exact run_iret dX8_writesOf_62 ⟨_, rfl, Option.some.inj h⟩
def HX8_freeCouples : Nat := 2
theorem HX8_freeCouples_X8_readsOf_lt (d : Nat) : d + HX8_readsOf < d + HX8_freeCouples := Nat.add_lt_add_left (by decide) d
theorem HX8_freeCouples_X8_writesOf_lt (d : Nat) : d + HX8_writesOf < d + HX8_freeCouples := Nat.add_lt_add_left (by decide) d
theorem HX8_freeCouples_0 (d : Nat) : 0 < d + HX8_freeCouples := Nat.lt_of_lt_of_le (by decide) (Nat.le_add_left _ d)
def lX8_freeCouples_16 (n0 : Nat) (x2 : Int32) : Nat → Int32 → Int32 → Mem → Option (Int32 × Mem)
  | 0, _, _, _ => none
  | n + 1, x1, x3, σ => if (σ n0 0) ≤ x3 then (some (x1, σ)) else ((fX8_readsOf n0 x2 σ).bind fun q33 => (fX8_writesOf n0 x2 q33.2).bind fun q34 => (fX8_readsOf n0 x3 q34.2).bind fun q35 => (fX8_writesOf n0 x3 q35.2).bind fun q36 => (fX8_writesOf n0 x2 q36.2).bind fun q37 => (if (q37.1 &&& (q35.1 ||| q36.1)) = 0 then ((fX8_writesOf n0 x3 q37.2).bind fun q39 => if (q39.1 &&& (q33.1 ||| q34.1)) = 0 then (some ((x1 + 1), q39.2)) else (some (x1, q39.2))) else (some (x1, q37.2)) : Option (Int32 × Mem)).bind fun q42 => lX8_freeCouples_16 n0 x2 n (q42.1) (x3 + 1) (q42.2))
set_option maxRecDepth 20000 in
theorem lpX8_freeCouples_16 (G : GT) (d : Nat) (n0 : Nat) (x2 : Int32) (hn0 : Is n0 8) {K : Option Value → Mem → Prop} : ∀ (n : Nat) (x1 : Int32) (x3 : Int32) (σ : Mem) (o : Int32 × Mem), lX8_freeCouples_16 n0 x2 n x1 x3 σ = some o → (Run G RX8 cX8_freeCouples 6 (some .int) (mF G (d + HX8_freeCouples) K) 81 [(0, .ref (gA G n0)), (1, .int (o.1)), (2, .int x2)] [] (o.2)) → Run G RX8 cX8_freeCouples 6 (some .int) (mF G (d + HX8_freeCouples) K) 16 [(0, .ref (gA G n0)), (1, .int x1), (2, .int x2), (3, .int x3)] [] σ := by
  intro n
  induction n with
  | zero => intro x1 x3 σ o h; exact absurd h (by simp [lX8_freeCouples_16])
  | succ n ih =>
    intro x1 x3 σ o h kx
    rw [lX8_freeCouples_16] at h
    refine run_iload_n 3 dX8_freeCouples_16 rfl rfl ?_
    refine run_aload_n 0 dX8_freeCouples_17 rfl rfl ?_
    refine run_geti fl_X8_24 hn0 (by decide) rfl dX8_freeCouples_18 ?_
    refine run_icmp_ge 81 dX8_freeCouples_21 (by decide) (fun c32 => ?_) (fun c32 => ?_)
    · rw [if_pos c32] at h
      rw [← Option.some.inj h] at kx
      refine run_forget [0, 1, 2] rfl ?_
      exact kx
    · rw [if_neg c32] at h
      refine run_aload_n 0 dX8_freeCouples_24 rfl rfl ?_
      refine run_iload_n 2 dX8_freeCouples_25 rfl rfl ?_
      obtain ⟨q33, h48, h⟩ := Option.bind_eq_some_iff.mp h
      refine run_callVi (As := [.int x2]) (fun r z => (r, z) = q33) mw_X8_readsOf mi_X8_readsOf ml_X8_34 hn0 (by decide) rfl rfl rfl (RF.lt (HX8_freeCouples_X8_readsOf_lt d)) (Nat.le_of_ble_eq_true rfl) dX8_freeCouples_26 (sX8_readsOf G d hn0 h48) (fun r z h8 => ?_) rfl
      rw [show r = q33.1 from congrArg Prod.fst h8, show z = q33.2 from congrArg Prod.snd h8]
      clear h8
      refine run_aload_n 0 dX8_freeCouples_29 rfl rfl ?_
      refine run_iload_n 2 dX8_freeCouples_30 rfl rfl ?_
      obtain ⟨q34, h47, h⟩ := Option.bind_eq_some_iff.mp h
      refine run_callVi (As := [.int x2]) (fun r z => (r, z) = q34) mw_X8_writesOf mi_X8_writesOf ml_X8_38 hn0 (by decide) rfl rfl rfl (RF.lt (HX8_freeCouples_X8_writesOf_lt d)) (Nat.le_of_ble_eq_true rfl) dX8_freeCouples_31 (sX8_writesOf G d hn0 h47) (fun r z h8 => ?_) rfl
      rw [show r = q34.1 from congrArg Prod.fst h8, show z = q34.2 from congrArg Prod.snd h8]
      clear h8
      refine run_ior dX8_freeCouples_34 ?_
      refine run_istore [(0, .ref (gA G n0)), (1, .int x1), (2, .int x2), (3, .int x3), (4, .int (q33.1 ||| q34.1))] [1, 2, 3, 4, 0] dX8_freeCouples_35 (by decide) rfl ?_
      refine run_aload_n 0 dX8_freeCouples_37 rfl rfl ?_
      refine run_iload_n 3 dX8_freeCouples_38 rfl rfl ?_
      obtain ⟨q35, h46, h⟩ := Option.bind_eq_some_iff.mp h
      refine run_callVi (As := [.int x3]) (fun r z => (r, z) = q35) mw_X8_readsOf mi_X8_readsOf ml_X8_34 hn0 (by decide) rfl rfl rfl (RF.lt (HX8_freeCouples_X8_readsOf_lt d)) (Nat.le_of_ble_eq_true rfl) dX8_freeCouples_39 (sX8_readsOf G d hn0 h46) (fun r z h8 => ?_) rfl
      rw [show r = q35.1 from congrArg Prod.fst h8, show z = q35.2 from congrArg Prod.snd h8]
      clear h8
      refine run_aload_n 0 dX8_freeCouples_42 rfl rfl ?_
      refine run_iload_n 3 dX8_freeCouples_43 rfl rfl ?_
      obtain ⟨q36, h45, h⟩ := Option.bind_eq_some_iff.mp h
      refine run_callVi (As := [.int x3]) (fun r z => (r, z) = q36) mw_X8_writesOf mi_X8_writesOf ml_X8_38 hn0 (by decide) rfl rfl rfl (RF.lt (HX8_freeCouples_X8_writesOf_lt d)) (Nat.le_of_ble_eq_true rfl) dX8_freeCouples_44 (sX8_writesOf G d hn0 h45) (fun r z h8 => ?_) rfl
      rw [show r = q36.1 from congrArg Prod.fst h8, show z = q36.2 from congrArg Prod.snd h8]
      clear h8
      refine run_ior dX8_freeCouples_47 ?_
      refine run_istore [(0, .ref (gA G n0)), (1, .int x1), (2, .int x2), (3, .int x3), (4, .int (q33.1 ||| q34.1)), (5, .int (q35.1 ||| q36.1))] [1, 2, 3, 4, 5, 0] dX8_freeCouples_48 (by decide) rfl ?_
      refine run_aload_n 0 dX8_freeCouples_50 rfl rfl ?_
      refine run_iload_n 2 dX8_freeCouples_51 rfl rfl ?_
      obtain ⟨q37, h44, h⟩ := Option.bind_eq_some_iff.mp h
      refine run_callVi (As := [.int x2]) (fun r z => (r, z) = q37) mw_X8_writesOf mi_X8_writesOf ml_X8_38 hn0 (by decide) rfl rfl rfl (RF.lt (HX8_freeCouples_X8_writesOf_lt d)) (Nat.le_of_ble_eq_true rfl) dX8_freeCouples_52 (sX8_writesOf G d hn0 h44) (fun r z h8 => ?_) rfl
      rw [show r = q37.1 from congrArg Prod.fst h8, show z = q37.2 from congrArg Prod.snd h8]
      clear h8
      refine run_iload 5 dX8_freeCouples_55 rfl ?_
      refine run_iand dX8_freeCouples_57 ?_
      obtain ⟨q42, h, h9⟩ := Option.bind_eq_some_iff.mp h
      have hj43 : Run G RX8 cX8_freeCouples 6 (some .int) (mF G (d + HX8_freeCouples) K) 75 [(0, .ref (gA G n0)), (1, .int (q42.1)), (2, .int x2), (3, .int x3)] [] (q42.2) := by
        clear h
        have h := h9
        clear h9
        refine run_iinc 3 [(0, .ref (gA G n0)), (1, .int (q42.1)), (2, .int x2), (3, .int (x3 + 1))] [1, 2, 3, 0] dX8_freeCouples_75 rfl rfl (by decide) rfl ?_
        refine run_goto 16 dX8_freeCouples_78 (by decide) ?_
        exact ih _ _ _ _ h kx
      clear h9
      refine run_if_ne 75 dX8_freeCouples_58 (by decide) (fun c38 => ?_) (fun c38 => ?_)
      · rw [if_neg c38] at h
        rw [← Option.some.inj h] at hj43
        refine run_forget [0, 1, 2, 3] rfl ?_
        exact hj43
      · rw [if_pos c38] at h
        refine run_aload_n 0 dX8_freeCouples_61 rfl rfl ?_
        refine run_iload_n 3 dX8_freeCouples_62 rfl rfl ?_
        obtain ⟨q39, h41, h⟩ := Option.bind_eq_some_iff.mp h
        refine run_callVi (As := [.int x3]) (fun r z => (r, z) = q39) mw_X8_writesOf mi_X8_writesOf ml_X8_38 hn0 (by decide) rfl rfl rfl (RF.lt (HX8_freeCouples_X8_writesOf_lt d)) (Nat.le_of_ble_eq_true rfl) dX8_freeCouples_63 (sX8_writesOf G d hn0 h41) (fun r z h8 => ?_) rfl
        rw [show r = q39.1 from congrArg Prod.fst h8, show z = q39.2 from congrArg Prod.snd h8]
        clear h8
        refine run_iload 4 dX8_freeCouples_66 rfl ?_
        refine run_iand dX8_freeCouples_68 ?_
        refine run_if_ne 75 dX8_freeCouples_69 (by decide) (fun c40 => ?_) (fun c40 => ?_)
        · rw [if_neg c40] at h
          rw [← Option.some.inj h] at hj43
          refine run_forget [0, 1, 2, 3] rfl ?_
          exact hj43
        · rw [if_pos c40] at h
          refine run_iinc 1 [(0, .ref (gA G n0)), (1, .int (x1 + 1)), (2, .int x2), (3, .int x3)] [1, 0, 2, 3] dX8_freeCouples_72 rfl rfl (by decide) rfl ?_
          rw [← Option.some.inj h] at hj43
          exact hj43
def lX8_freeCouples_4 (n0 : Nat) : Nat → Int32 → Int32 → Mem → Option (Int32 × Mem)
  | 0, _, _, _ => none
  | n + 1, x1, x2, σ => if (σ n0 0) ≤ x2 then (some (x1, σ)) else ((lX8_freeCouples_16 n0 x2 FU x1 (x2 + 1) σ).bind fun q49 => lX8_freeCouples_4 n0 n (q49.1) (x2 + 1) (q49.2))
set_option maxRecDepth 20000 in
theorem lpX8_freeCouples_4 (G : GT) (d : Nat) (n0 : Nat) (hn0 : Is n0 8) {K : Option Value → Mem → Prop} : ∀ (n : Nat) (x1 : Int32) (x2 : Int32) (σ : Mem) (o : Int32 × Mem), lX8_freeCouples_4 n0 n x1 x2 σ = some o → (Run G RX8 cX8_freeCouples 6 (some .int) (mF G (d + HX8_freeCouples) K) 87 [(1, .int (o.1))] [] (o.2)) → Run G RX8 cX8_freeCouples 6 (some .int) (mF G (d + HX8_freeCouples) K) 4 [(0, .ref (gA G n0)), (1, .int x1), (2, .int x2)] [] σ := by
  intro n
  induction n with
  | zero => intro x1 x2 σ o h; exact absurd h (by simp [lX8_freeCouples_4])
  | succ n ih =>
    intro x1 x2 σ o h kx
    rw [lX8_freeCouples_4] at h
    refine run_iload_n 2 dX8_freeCouples_4 rfl rfl ?_
    refine run_aload_n 0 dX8_freeCouples_5 rfl rfl ?_
    refine run_geti fl_X8_24 hn0 (by decide) rfl dX8_freeCouples_6 ?_
    refine run_icmp_ge 87 dX8_freeCouples_9 (by decide) (fun c31 => ?_) (fun c31 => ?_)
    · rw [if_pos c31] at h
      rw [← Option.some.inj h] at kx
      refine run_forget [1] rfl ?_
      exact kx
    · rw [if_neg c31] at h
      refine run_iload_n 2 dX8_freeCouples_12 rfl rfl ?_
      refine run_iconst (v := 1) dX8_freeCouples_13 rfl ?_
      refine run_iadd dX8_freeCouples_14 ?_
      refine run_istore_n [(0, .ref (gA G n0)), (1, .int x1), (2, .int x2), (3, .int (x2 + 1))] [1, 2, 3, 0] dX8_freeCouples_15 rfl (by decide) rfl ?_
      obtain ⟨q49, h50, h⟩ := Option.bind_eq_some_iff.mp h
      refine lpX8_freeCouples_16 G d _ _ hn0 _ _ _ _ _ h50 ?_
      refine run_iinc 2 [(0, .ref (gA G n0)), (1, .int (q49.1)), (2, .int (x2 + 1))] [1, 2, 0] dX8_freeCouples_81 rfl rfl (by decide) rfl ?_
      refine run_goto 4 dX8_freeCouples_84 (by decide) ?_
      exact ih _ _ _ _ h kx
def fX8_freeCouples (n0 : Nat) (σ : Mem) : Option (Int32 × Mem) := (lX8_freeCouples_4 n0 FU 0 0 σ).bind fun q51 => some ((q51.1), (q51.2))
set_option maxRecDepth 20000 in
theorem sX8_freeCouples (G : GT) (d : Nat) {n0 : Nat} (hn0 : Is n0 8) {σ : Mem} {o : (Int32 × Mem)} (h : fX8_freeCouples n0 σ = some o) : Spec G yX8_freeCouples cX8_freeCouples 6 (some .int) (d + HX8_freeCouples) [.ref (gA G n0)] σ (kI fun x z => (x, z) = o) := by
  refine spec_run (by decide) (Nat.le_of_ble_eq_true rfl) ?_
  unfold fX8_freeCouples at h
  show Run G RX8 cX8_freeCouples 6 (some .int) _ 0 [(0, .ref (gA G n0))] [] σ
  refine run_iconst (v := 0) dX8_freeCouples_0 rfl ?_
  refine run_istore_n [(0, .ref (gA G n0)), (1, .int 0)] [1, 0] dX8_freeCouples_1 rfl (by decide) rfl ?_
  refine run_iconst (v := 0) dX8_freeCouples_2 rfl ?_
  refine run_istore_n [(0, .ref (gA G n0)), (1, .int 0), (2, .int 0)] [1, 2, 0] dX8_freeCouples_3 rfl (by decide) rfl ?_
  obtain ⟨q51, h52, h⟩ := Option.bind_eq_some_iff.mp h
  refine lpX8_freeCouples_4 G d _ hn0 _ _ _ _ _ h52 ?_
  refine run_iload_n 0 dX8_freeCouples_87 rfl rfl ?_
  exact run_iret dX8_freeCouples_88 ⟨_, rfl, Option.some.inj h⟩
def HX8_blinds : Nat := 2
theorem HX8_blinds_X8_readsOf_lt (d : Nat) : d + HX8_readsOf < d + HX8_blinds := Nat.add_lt_add_left (by decide) d
theorem HX8_blinds_X8_writesOf_lt (d : Nat) : d + HX8_writesOf < d + HX8_blinds := Nat.add_lt_add_left (by decide) d
theorem HX8_blinds_0 (d : Nat) : 0 < d + HX8_blinds := Nat.lt_of_lt_of_le (by decide) (Nat.le_add_left _ d)
def lX8_blinds_4 (n0 : Nat) : Nat → Int32 → Int32 → Mem → Option (Int32 × Mem)
  | 0, _, _, _ => none
  | n + 1, x1, x2, σ => if (σ n0 0) ≤ x2 then (some (x1, σ)) else ((fX8_writesOf n0 x2 σ).bind fun q9 => (if q9.1 = 0 then (some (x1, q9.2)) else ((fX8_readsOf n0 x2 q9.2).bind fun q11 => if q11.1 = 0 then (some ((x1 ||| ((1 : Int32) <<< (x2 &&& 31))), q11.2)) else (some (x1, q11.2))) : Option (Int32 × Mem)).bind fun q14 => lX8_blinds_4 n0 n (q14.1) (x2 + 1) (q14.2))
set_option maxRecDepth 20000 in
theorem lpX8_blinds_4 (G : GT) (d : Nat) (n0 : Nat) (hn0 : Is n0 8) {K : Option Value → Mem → Prop} : ∀ (n : Nat) (x1 : Int32) (x2 : Int32) (σ : Mem) (o : Int32 × Mem), lX8_blinds_4 n0 n x1 x2 σ = some o → (Run G RX8 cX8_blinds 3 (some .int) (mF G (d + HX8_blinds) K) 40 [(1, .int (o.1))] [] (o.2)) → Run G RX8 cX8_blinds 3 (some .int) (mF G (d + HX8_blinds) K) 4 [(0, .ref (gA G n0)), (1, .int x1), (2, .int x2)] [] σ := by
  intro n
  induction n with
  | zero => intro x1 x2 σ o h; exact absurd h (by simp [lX8_blinds_4])
  | succ n ih =>
    intro x1 x2 σ o h kx
    rw [lX8_blinds_4] at h
    refine run_iload_n 2 dX8_blinds_4 rfl rfl ?_
    refine run_aload_n 0 dX8_blinds_5 rfl rfl ?_
    refine run_geti fl_X8_24 hn0 (by decide) rfl dX8_blinds_6 ?_
    refine run_icmp_ge 40 dX8_blinds_9 (by decide) (fun c8 => ?_) (fun c8 => ?_)
    · rw [if_pos c8] at h
      rw [← Option.some.inj h] at kx
      refine run_forget [1] rfl ?_
      exact kx
    · rw [if_neg c8] at h
      refine run_aload_n 0 dX8_blinds_12 rfl rfl ?_
      refine run_iload_n 2 dX8_blinds_13 rfl rfl ?_
      obtain ⟨q9, h16, h⟩ := Option.bind_eq_some_iff.mp h
      refine run_callVi (As := [.int x2]) (fun r z => (r, z) = q9) mw_X8_writesOf mi_X8_writesOf ml_X8_38 hn0 (by decide) rfl rfl rfl (RF.lt (HX8_blinds_X8_writesOf_lt d)) (Nat.le_of_ble_eq_true rfl) dX8_blinds_14 (sX8_writesOf G d hn0 h16) (fun r z h8 => ?_) rfl
      rw [show r = q9.1 from congrArg Prod.fst h8, show z = q9.2 from congrArg Prod.snd h8]
      clear h8
      obtain ⟨q14, h, h9⟩ := Option.bind_eq_some_iff.mp h
      have hj15 : Run G RX8 cX8_blinds 3 (some .int) (mF G (d + HX8_blinds) K) 34 [(0, .ref (gA G n0)), (1, .int (q14.1)), (2, .int x2)] [] (q14.2) := by
        clear h
        have h := h9
        clear h9
        refine run_iinc 2 [(0, .ref (gA G n0)), (1, .int (q14.1)), (2, .int (x2 + 1))] [1, 2, 0] dX8_blinds_34 rfl rfl (by decide) rfl ?_
        refine run_goto 4 dX8_blinds_37 (by decide) ?_
        exact ih _ _ _ _ h kx
      clear h9
      refine run_if_eq 34 dX8_blinds_17 (by decide) (fun c10 => ?_) (fun c10 => ?_)
      · rw [if_pos c10] at h
        rw [← Option.some.inj h] at hj15
        exact hj15
      · rw [if_neg c10] at h
        refine run_aload_n 0 dX8_blinds_20 rfl rfl ?_
        refine run_iload_n 2 dX8_blinds_21 rfl rfl ?_
        obtain ⟨q11, h13, h⟩ := Option.bind_eq_some_iff.mp h
        refine run_callVi (As := [.int x2]) (fun r z => (r, z) = q11) mw_X8_readsOf mi_X8_readsOf ml_X8_34 hn0 (by decide) rfl rfl rfl (RF.lt (HX8_blinds_X8_readsOf_lt d)) (Nat.le_of_ble_eq_true rfl) dX8_blinds_22 (sX8_readsOf G d hn0 h13) (fun r z h8 => ?_) rfl
        rw [show r = q11.1 from congrArg Prod.fst h8, show z = q11.2 from congrArg Prod.snd h8]
        clear h8
        refine run_if_ne 34 dX8_blinds_25 (by decide) (fun c12 => ?_) (fun c12 => ?_)
        · rw [if_neg c12] at h
          rw [← Option.some.inj h] at hj15
          exact hj15
        · rw [if_pos c12] at h
          refine run_iload_n 1 dX8_blinds_28 rfl rfl ?_
          refine run_iconst (v := 1) dX8_blinds_29 rfl ?_
          refine run_iload_n 2 dX8_blinds_30 rfl rfl ?_
          refine run_ishl dX8_blinds_31 ?_
          refine run_ior dX8_blinds_32 ?_
          refine run_istore_n [(0, .ref (gA G n0)), (1, .int (x1 ||| ((1 : Int32) <<< (x2 &&& 31)))), (2, .int x2)] [1, 0, 2] dX8_blinds_33 rfl (by decide) rfl ?_
          rw [← Option.some.inj h] at hj15
          exact hj15
def fX8_blinds (n0 : Nat) (σ : Mem) : Option (Int32 × Mem) := (lX8_blinds_4 n0 FU 0 0 σ).bind fun q17 => some ((q17.1), (q17.2))
set_option maxRecDepth 20000 in
theorem sX8_blinds (G : GT) (d : Nat) {n0 : Nat} (hn0 : Is n0 8) {σ : Mem} {o : (Int32 × Mem)} (h : fX8_blinds n0 σ = some o) : Spec G yX8_blinds cX8_blinds 3 (some .int) (d + HX8_blinds) [.ref (gA G n0)] σ (kI fun x z => (x, z) = o) := by
  refine spec_run (by decide) (Nat.le_of_ble_eq_true rfl) ?_
  unfold fX8_blinds at h
  show Run G RX8 cX8_blinds 3 (some .int) _ 0 [(0, .ref (gA G n0))] [] σ
  refine run_iconst (v := 0) dX8_blinds_0 rfl ?_
  refine run_istore_n [(0, .ref (gA G n0)), (1, .int 0)] [1, 0] dX8_blinds_1 rfl (by decide) rfl ?_
  refine run_iconst (v := 0) dX8_blinds_2 rfl ?_
  refine run_istore_n [(0, .ref (gA G n0)), (1, .int 0), (2, .int 0)] [1, 2, 0] dX8_blinds_3 rfl (by decide) rfl ?_
  obtain ⟨q17, h18, h⟩ := Option.bind_eq_some_iff.mp h
  refine lpX8_blinds_4 G d _ hn0 _ _ _ _ _ h18 ?_
  refine run_iload_n 0 dX8_blinds_40 rfl rfl ?_
  exact run_iret dX8_blinds_41 ⟨_, rfl, Option.some.inj h⟩
def HX8_stepAlone : Nat := 1
theorem HX8_stepAlone_0 (d : Nat) : 0 < d + HX8_stepAlone := Nat.lt_of_lt_of_le (by decide) (Nat.le_add_left _ d)
def lX8_stepAlone_129 (n0 : Nat) (x1 : Int32) (n2 : Nat) : Nat → Int32 → Int32 → Mem → Option (Int32 × Mem)
  | 0, _, _, _ => none
  | n + 1, x6, x7, σ => gd (inb x1 42) (if (σ (n0 + 4) (Int32.toNatClampNeg x1)) < x7 then (some (x6, σ)) else (if 10 ≤ x7 then (some (x6, σ)) else (gd (inb x7 10) (lX8_stepAlone_129 n0 x1 n2 n (x6 + (mx (σ n2 (Int32.toNatClampNeg x7)) 0)) (x7 + 1) σ))))
set_option maxRecDepth 20000 in
theorem lpX8_stepAlone_129 (G : GT) (d : Nat) (n0 : Nat) (x1 : Int32) (n2 : Nat) (hn0 : Is n0 8) (hn2 : Is n2 14) (hl2 : ln n2 = 10) {K : Option Value → Mem → Prop} : ∀ (n : Nat) (x6 : Int32) (x7 : Int32) (σ : Mem) (o : Int32 × Mem), lX8_stepAlone_129 n0 x1 n2 n x6 x7 σ = some o → (Run G RX8 cX8_stepAlone 8 (some .int) (mF G (d + HX8_stepAlone) K) 166 [(6, .int (o.1))] [] (o.2)) → Run G RX8 cX8_stepAlone 8 (some .int) (mF G (d + HX8_stepAlone) K) 129 [(0, .ref (gA G n0)), (1, .int x1), (2, .ref (gA G n2)), (6, .int x6), (7, .int x7)] [] σ := by
  intro n
  induction n with
  | zero => intro x6 x7 σ o h; exact absurd h (by simp [lX8_stepAlone_129])
  | succ n ih =>
    intro x6 x7 σ o h kx
    rw [lX8_stepAlone_129] at h
    refine run_iload 4 dX8_stepAlone_129 rfl ?_
    refine run_aload_n 0 dX8_stepAlone_131 rfl rfl ?_
    refine run_getr fl_X8_21 hn0 (by decide) rfl (cs_8_4 hn0) dX8_stepAlone_132 ?_
    refine run_iload_n 1 dX8_stepAlone_135 rfl rfl ?_
    obtain ⟨g17, h⟩ := gd_s h
    refine run_iald' (ch_8_4 hn0) (cl_8_4 hn0) g17 rfl dX8_stepAlone_136 ?_
    refine run_icmp_gt 166 dX8_stepAlone_137 (by decide) (fun c18 => ?_) (fun c18 => ?_)
    · rw [if_pos c18] at h
      rw [← Option.some.inj h] at kx
      refine run_forget [3] rfl ?_
      exact kx
    · rw [if_neg c18] at h
      refine run_iload 4 dX8_stepAlone_140 rfl ?_
      refine run_bipush (v := 10) dX8_stepAlone_142 rfl ?_
      refine run_icmp_ge 166 dX8_stepAlone_144 (by decide) (fun c19 => ?_) (fun c19 => ?_)
      · rw [if_pos c19] at h
        rw [← Option.some.inj h] at kx
        refine run_forget [3] rfl ?_
        exact kx
      · rw [if_neg c19] at h
        refine run_iload 3 dX8_stepAlone_147 rfl ?_
        refine run_aload_n 2 dX8_stepAlone_149 rfl rfl ?_
        refine run_iload 4 dX8_stepAlone_150 rfl ?_
        obtain ⟨g20, h⟩ := gd_s h
        refine run_iald' hn2 hl2 g20 rfl dX8_stepAlone_152 ?_
        refine run_iconst (v := 0) dX8_stepAlone_153 rfl ?_
        refine run_max mm_X8_45 (RF.lt (HX8_stepAlone_0 d)) (Nat.le_of_ble_eq_true rfl) dX8_stepAlone_154 ?_
        refine run_iadd dX8_stepAlone_157 ?_
        refine run_istore [(0, .ref (gA G n0)), (1, .int x1), (2, .ref (gA G n2)), (6, .int (x6 + (mx (σ n2 (Int32.toNatClampNeg x7)) 0))), (7, .int x7)] [1, 2, 3, 0, 4] dX8_stepAlone_158 (by decide) rfl ?_
        refine run_iinc 4 [(0, .ref (gA G n0)), (1, .int x1), (2, .ref (gA G n2)), (6, .int (x6 + (mx (σ n2 (Int32.toNatClampNeg x7)) 0))), (7, .int (x7 + 1))] [1, 2, 3, 4, 0] dX8_stepAlone_160 rfl rfl (by decide) rfl ?_
        refine run_goto 129 dX8_stepAlone_163 (by decide) ?_
        exact ih _ _ _ _ h kx
def fX8_stepAlone (n0 : Nat) (x1 : Int32) (n2 : Nat) (x3 : Int32) (σ : Mem) : Option (Int32 × Mem) := gd (inb x1 42) (gd (inb x1 42) (if (σ (n0 + 2) (Int32.toNatClampNeg x1)) = 0 then (gd (inb (σ (n0 + 3) (Int32.toNatClampNeg x1)) 10) (some (((x3 + (mx (σ n2 (Int32.toNatClampNeg (σ (n0 + 3) (Int32.toNatClampNeg x1)))) 0)) % 100), σ))) else (if (σ (n0 + 2) (Int32.toNatClampNeg x1)) = 1 then (gd (inb (σ (n0 + 3) (Int32.toNatClampNeg x1)) 10) (some (x3, (st2 σ n2 (Int32.toNatClampNeg (σ (n0 + 3) (Int32.toNatClampNeg x1))) (-1))))) else (if (σ (n0 + 2) (Int32.toNatClampNeg x1)) = 2 then (gd (inb (σ (n0 + 3) (Int32.toNatClampNeg x1)) 10) (some (x3, (st2 σ n2 (Int32.toNatClampNeg (σ (n0 + 3) (Int32.toNatClampNeg x1))) x3)))) else (if (σ (n0 + 2) (Int32.toNatClampNeg x1)) = 3 then (gd (inb x1 42) (gd (inb (σ (n0 + 3) (Int32.toNatClampNeg x1)) 10) (some (x3, (st2 σ n2 (Int32.toNatClampNeg (σ (n0 + 3) (Int32.toNatClampNeg x1))) (σ (n0 + 4) (Int32.toNatClampNeg x1))))))) else (if (σ (n0 + 2) (Int32.toNatClampNeg x1)) = 4 then (gd (inb (σ (n0 + 3) (Int32.toNatClampNeg x1)) 10) ((some ((mx (σ n2 (Int32.toNatClampNeg (σ (n0 + 3) (Int32.toNatClampNeg x1)))) 0))).bind fun y14 => gd (inb x1 42) (gd (inb (σ (n0 + 3) (Int32.toNatClampNeg x1)) 10) (some (((x3 + y14) % 100), (st2 σ n2 (Int32.toNatClampNeg (σ (n0 + 3) (Int32.toNatClampNeg x1))) ((y14 + (σ (n0 + 4) (Int32.toNatClampNeg x1))) % 100))))))) else ((lX8_stepAlone_129 n0 x1 n2 FU x3 (σ (n0 + 3) (Int32.toNatClampNeg x1)) σ).bind fun q21 => some (((q21.1) % 100), (q21.2)))))))))
set_option maxRecDepth 20000 in
theorem sX8_stepAlone (G : GT) (d : Nat) {n0 : Nat} {x1 : Int32} {n2 : Nat} {x3 : Int32} (hn0 : Is n0 8) (hn2 : Is n2 14) (hl2 : ln n2 = 10) {σ : Mem} {o : (Int32 × Mem)} (h : fX8_stepAlone n0 x1 n2 x3 σ = some o) : Spec G yX8_stepAlone cX8_stepAlone 8 (some .int) (d + HX8_stepAlone) [.ref (gA G n0), .int x1, .ref (gA G n2), .int x3] σ (kI fun x z => (x, z) = o) := by
  refine spec_run (by decide) (Nat.le_of_ble_eq_true rfl) ?_
  unfold fX8_stepAlone at h
  show Run G RX8 cX8_stepAlone 8 (some .int) _ 0 [(0, .ref (gA G n0)), (1, .int x1), (2, .ref (gA G n2)), (3, .int x3)] [] σ
  refine run_aload_n 0 dX8_stepAlone_0 rfl rfl ?_
  refine run_getr fl_X8_18 hn0 (by decide) rfl (cs_8_3 hn0) dX8_stepAlone_1 ?_
  refine run_iload_n 1 dX8_stepAlone_4 rfl rfl ?_
  obtain ⟨g1, h⟩ := gd_s h
  refine run_iald' (ch_8_3 hn0) (cl_8_3 hn0) g1 rfl dX8_stepAlone_5 ?_
  refine run_istore [(0, .ref (gA G n0)), (1, .int x1), (2, .ref (gA G n2)), (3, .int x3), (4, .int (σ (n0 + 3) (Int32.toNatClampNeg x1)))] [1, 2, 3, 4, 0] dX8_stepAlone_6 (by decide) rfl ?_
  refine run_aload_n 0 dX8_stepAlone_8 rfl rfl ?_
  refine run_getr fl_X8_15 hn0 (by decide) rfl (cs_8_2 hn0) dX8_stepAlone_9 ?_
  refine run_iload_n 1 dX8_stepAlone_12 rfl rfl ?_
  obtain ⟨g2, h⟩ := gd_s h
  refine run_iald' (ch_8_2 hn0) (cl_8_2 hn0) g2 rfl dX8_stepAlone_13 ?_
  by_cases c3 : (σ (n0 + 2) (Int32.toNatClampNeg x1)) = 0
  · rw [if_pos c3] at h
    refine run_tblIn 48 dX8_stepAlone_14 (by rw [c3]; decide) (by rw [c3]; decide) (off := 34) (by rw [c3]; rfl) (by decide) ?_
    refine run_iload_n 3 dX8_stepAlone_48 rfl rfl ?_
    refine run_aload_n 2 dX8_stepAlone_49 rfl rfl ?_
    refine run_iload 4 dX8_stepAlone_50 rfl ?_
    obtain ⟨g4, h⟩ := gd_s h
    refine run_iald' hn2 hl2 g4 rfl dX8_stepAlone_52 ?_
    refine run_iconst (v := 0) dX8_stepAlone_53 rfl ?_
    refine run_max mm_X8_45 (RF.lt (HX8_stepAlone_0 d)) (Nat.le_of_ble_eq_true rfl) dX8_stepAlone_54 ?_
    refine run_iadd dX8_stepAlone_57 ?_
    refine run_bipush (v := 100) dX8_stepAlone_58 rfl ?_
    refine run_irem dX8_stepAlone_60 (by decide) ?_
    exact run_iret dX8_stepAlone_61 ⟨_, rfl, Option.some.inj h⟩
  · rw [if_neg c3] at h
    by_cases c5 : (σ (n0 + 2) (Int32.toNatClampNeg x1)) = 1
    · rw [if_pos c5] at h
      refine run_tblIn 62 dX8_stepAlone_14 (by rw [c5]; decide) (by rw [c5]; decide) (off := 48) (by rw [c5]; rfl) (by decide) ?_
      refine run_aload_n 2 dX8_stepAlone_62 rfl rfl ?_
      refine run_iload 4 dX8_stepAlone_63 rfl ?_
      refine run_iconst (v := -1) dX8_stepAlone_65 rfl ?_
      obtain ⟨g6, h⟩ := gd_s h
      refine run_iast' hn2 hl2 g6 rfl dX8_stepAlone_66 ?_
      refine run_iload_n 3 dX8_stepAlone_67 rfl rfl ?_
      exact run_iret dX8_stepAlone_68 ⟨_, rfl, Option.some.inj h⟩
    · rw [if_neg c5] at h
      by_cases c7 : (σ (n0 + 2) (Int32.toNatClampNeg x1)) = 2
      · rw [if_pos c7] at h
        refine run_tblIn 69 dX8_stepAlone_14 (by rw [c7]; decide) (by rw [c7]; decide) (off := 55) (by rw [c7]; rfl) (by decide) ?_
        refine run_aload_n 2 dX8_stepAlone_69 rfl rfl ?_
        refine run_iload 4 dX8_stepAlone_70 rfl ?_
        refine run_iload_n 3 dX8_stepAlone_72 rfl rfl ?_
        obtain ⟨g8, h⟩ := gd_s h
        refine run_iast' hn2 hl2 g8 rfl dX8_stepAlone_73 ?_
        refine run_iload_n 3 dX8_stepAlone_74 rfl rfl ?_
        exact run_iret dX8_stepAlone_75 ⟨_, rfl, Option.some.inj h⟩
      · rw [if_neg c7] at h
        by_cases c9 : (σ (n0 + 2) (Int32.toNatClampNeg x1)) = 3
        · rw [if_pos c9] at h
          refine run_tblIn 76 dX8_stepAlone_14 (by rw [c9]; decide) (by rw [c9]; decide) (off := 62) (by rw [c9]; rfl) (by decide) ?_
          refine run_aload_n 2 dX8_stepAlone_76 rfl rfl ?_
          refine run_iload 4 dX8_stepAlone_77 rfl ?_
          refine run_aload_n 0 dX8_stepAlone_79 rfl rfl ?_
          refine run_getr fl_X8_21 hn0 (by decide) rfl (cs_8_4 hn0) dX8_stepAlone_80 ?_
          refine run_iload_n 1 dX8_stepAlone_83 rfl rfl ?_
          obtain ⟨g10, h⟩ := gd_s h
          refine run_iald' (ch_8_4 hn0) (cl_8_4 hn0) g10 rfl dX8_stepAlone_84 ?_
          obtain ⟨g11, h⟩ := gd_s h
          refine run_iast' hn2 hl2 g11 rfl dX8_stepAlone_85 ?_
          refine run_iload_n 3 dX8_stepAlone_86 rfl rfl ?_
          exact run_iret dX8_stepAlone_87 ⟨_, rfl, Option.some.inj h⟩
        · rw [if_neg c9] at h
          by_cases c12 : (σ (n0 + 2) (Int32.toNatClampNeg x1)) = 4
          · rw [if_pos c12] at h
            refine run_tblIn 88 dX8_stepAlone_14 (by rw [c12]; decide) (by rw [c12]; decide) (off := 74) (by rw [c12]; rfl) (by decide) ?_
            refine run_aload_n 2 dX8_stepAlone_88 rfl rfl ?_
            refine run_iload 4 dX8_stepAlone_89 rfl ?_
            obtain ⟨g13, h⟩ := gd_s h
            refine run_iald' hn2 hl2 g13 rfl dX8_stepAlone_91 ?_
            refine run_iconst (v := 0) dX8_stepAlone_92 rfl ?_
            refine run_max mm_X8_45 (RF.lt (HX8_stepAlone_0 d)) (Nat.le_of_ble_eq_true rfl) dX8_stepAlone_93 ?_
            rw [Option.bind_some] at h
            refine run_topi (fun y14 ey14 => ?_)
            rw [← ey14] at h
            refine run_istore [(0, .ref (gA G n0)), (1, .int x1), (2, .ref (gA G n2)), (3, .int x3), (4, .int (σ (n0 + 3) (Int32.toNatClampNeg x1))), (5, .int y14)] [1, 2, 3, 4, 5, 0] dX8_stepAlone_96 (by decide) rfl ?_
            refine run_aload_n 2 dX8_stepAlone_98 rfl rfl ?_
            refine run_iload 4 dX8_stepAlone_99 rfl ?_
            refine run_iload 5 dX8_stepAlone_101 rfl ?_
            refine run_aload_n 0 dX8_stepAlone_103 rfl rfl ?_
            refine run_getr fl_X8_21 hn0 (by decide) rfl (cs_8_4 hn0) dX8_stepAlone_104 ?_
            refine run_iload_n 1 dX8_stepAlone_107 rfl rfl ?_
            obtain ⟨g15, h⟩ := gd_s h
            refine run_iald' (ch_8_4 hn0) (cl_8_4 hn0) g15 rfl dX8_stepAlone_108 ?_
            refine run_iadd dX8_stepAlone_109 ?_
            refine run_bipush (v := 100) dX8_stepAlone_110 rfl ?_
            refine run_irem dX8_stepAlone_112 (by decide) ?_
            obtain ⟨g16, h⟩ := gd_s h
            refine run_iast' hn2 hl2 g16 rfl dX8_stepAlone_113 ?_
            refine run_iload_n 3 dX8_stepAlone_114 rfl rfl ?_
            refine run_iload 5 dX8_stepAlone_115 rfl ?_
            refine run_iadd dX8_stepAlone_117 ?_
            refine run_bipush (v := 100) dX8_stepAlone_118 rfl ?_
            refine run_irem dX8_stepAlone_120 (by decide) ?_
            exact run_iret dX8_stepAlone_121 ⟨_, rfl, Option.some.inj h⟩
          · rw [if_neg c12] at h
            refine run_tblOut 122 dX8_stepAlone_14 (by have tc3 := tbl_ne c3 (z := 0) rfl; have tc5 := tbl_ne c5 (z := 1) rfl; have tc7 := tbl_ne c7 (z := 2) rfl; have tc9 := tbl_ne c9 (z := 3) rfl; have tc12 := tbl_ne c12 (z := 4) rfl; omega) (by decide) ?_
            refine run_iload_n 3 dX8_stepAlone_122 rfl rfl ?_
            refine run_istore [(0, .ref (gA G n0)), (1, .int x1), (2, .ref (gA G n2)), (4, .int (σ (n0 + 3) (Int32.toNatClampNeg x1))), (6, .int x3)] [1, 2, 3, 5, 0] dX8_stepAlone_123 (by decide) rfl ?_
            refine run_iload 3 dX8_stepAlone_125 rfl ?_
            refine run_istore [(0, .ref (gA G n0)), (1, .int x1), (2, .ref (gA G n2)), (6, .int x3), (7, .int (σ (n0 + 3) (Int32.toNatClampNeg x1)))] [1, 2, 3, 5, 0] dX8_stepAlone_127 (by decide) rfl ?_
            obtain ⟨q21, h22, h⟩ := Option.bind_eq_some_iff.mp h
            refine lpX8_stepAlone_129 G d _ _ _ hn0 hn2 hl2 _ _ _ _ _ h22 ?_
            refine run_iload 0 dX8_stepAlone_166 rfl ?_
            refine run_bipush (v := 100) dX8_stepAlone_168 rfl ?_
            refine run_irem dX8_stepAlone_170 (by decide) ?_
            exact run_iret dX8_stepAlone_171 ⟨_, rfl, Option.some.inj h⟩
