/-! methods, translated -/
def HX9_has : Nat := 1
theorem HX9_has_0 (d : Nat) : 0 < d + HX9_has := Nat.lt_of_lt_of_le (by decide) (Nat.le_add_left _ d)
def fX9_has (n0 : Nat) (x1 : Int32) (x2 : Int32) (σ : Mem) : Option (Bool × Mem) := if x2 < 0 then (some (false, σ)) else (gd (inb x1 4) (if (σ (n0 + 2) (Int32.toNatClampNeg x1)) ≤ x2 then (some (false, σ)) else (some (true, σ))))
set_option maxRecDepth 20000 in
theorem sX9_has (G : GT) (d : Nat) {n0 : Nat} {x1 : Int32} {x2 : Int32} (hn0 : Is n0 9) {σ : Mem} {o : (Bool × Mem)} (h : fX9_has n0 x1 x2 σ = some o) : Spec G yX9_has cX9_has 3 (some .boolean) (d + HX9_has) [.ref (gA G n0), .int x1, .int x2] σ (kB fun x z => (x, z) = o) := by
  refine spec_run (by decide) (Nat.le_of_ble_eq_true rfl) ?_
  unfold fX9_has at h
  show Run G RX9 cX9_has 3 (some .boolean) _ 0 [(0, .ref (gA G n0)), (1, .int x1), (2, .int x2)] [] σ
  refine run_iload_n 2 dX9_has_0 rfl rfl ?_
  refine run_if_lt 18 dX9_has_1 (by decide) (fun c1 => ?_) (fun c1 => ?_)
  · rw [if_pos c1] at h
    refine run_iconst (v := 0) dX9_has_18 rfl ?_
    exact run_bret (b := false) dX9_has_19 ⟨_, rfl, Option.some.inj h⟩
  · rw [if_neg c1] at h
    refine run_iload_n 2 dX9_has_4 rfl rfl ?_
    refine run_aload_n 0 dX9_has_5 rfl rfl ?_
    refine run_getr fl_X9_19 hn0 (by decide) rfl (cs_9_4 hn0) dX9_has_6 ?_
    refine run_iload_n 1 dX9_has_9 rfl rfl ?_
    obtain ⟨g2, h⟩ := gd_s h
    refine run_iald' (ch_9_4 hn0) (cl_9_4 hn0) g2 rfl dX9_has_10 ?_
    refine run_icmp_ge 18 dX9_has_11 (by decide) (fun c3 => ?_) (fun c3 => ?_)
    · rw [if_pos c3] at h
      refine run_iconst (v := 0) dX9_has_18 rfl ?_
      exact run_bret (b := false) dX9_has_19 ⟨_, rfl, Option.some.inj h⟩
    · rw [if_neg c3] at h
      refine run_iconst (v := 1) dX9_has_14 rfl ?_
      refine run_goto 19 dX9_has_15 (by decide) ?_
      exact run_bret (b := true) dX9_has_19 ⟨_, rfl, Option.some.inj h⟩
def HX9_append : Nat := 1
theorem HX9_append_0 (d : Nat) : 0 < d + HX9_append := Nat.lt_of_lt_of_le (by decide) (Nat.le_add_left _ d)
def lX9_append_3 (n0 : Nat) (x1 : Int32) : Nat → Int32 → Mem → Option (Mem)
  | 0, _, _ => none
  | n + 1, x2, σ => if x2 < 0 then (some σ) else (if 600 ≤ (σ n0 1) then (some σ) else (gd (inb (σ n0 1) 600) ((some (st2 (st2 σ (n0 + 1) (Int32.toNatClampNeg (σ n0 1)) (Int8.toInt32 (Int32.toInt8 (Int8.toInt32 (Int32.toInt8 (ushr x1 x2)))))) n0 1 (((st2 σ (n0 + 1) (Int32.toNatClampNeg (σ n0 1)) (Int8.toInt32 (Int32.toInt8 (Int8.toInt32 (Int32.toInt8 (ushr x1 x2)))))) n0 1) + 1))).bind fun s4 => lX9_append_3 n0 x1 n (x2 + (-8)) s4)))
set_option maxRecDepth 20000 in
theorem lpX9_append_3 (G : GT) (d : Nat) (n0 : Nat) (x1 : Int32) (hn0 : Is n0 9) {K : Option Value → Mem → Prop} : ∀ (n : Nat) (x2 : Int32) (σ : Mem) (o : Mem), lX9_append_3 n0 x1 n x2 σ = some o → (Run G RX9 cX9_append 3 none (mF G (d + HX9_append) K) 46 [] [] o) → Run G RX9 cX9_append 3 none (mF G (d + HX9_append) K) 3 [(0, .ref (gA G n0)), (1, .int x1), (2, .int x2)] [] σ := by
  intro n
  induction n with
  | zero => intro x2 σ o h; exact absurd h (by simp [lX9_append_3])
  | succ n ih =>
    intro x2 σ o h kx
    rw [lX9_append_3] at h
    refine run_iload_n 2 dX9_append_3 rfl rfl ?_
    refine run_if_lt 46 dX9_append_4 (by decide) (fun c1 => ?_) (fun c1 => ?_)
    · rw [if_pos c1] at h
      rw [← Option.some.inj h] at kx
      refine run_forget [] rfl ?_
      exact kx
    · rw [if_neg c1] at h
      refine run_aload_n 0 dX9_append_7 rfl rfl ?_
      refine run_geti fl_X9_51 hn0 (by decide) rfl dX9_append_8 ?_
      refine run_sipush (v := 600) dX9_append_11 rfl ?_
      refine run_icmp_ge 46 dX9_append_14 (by decide) (fun c2 => ?_) (fun c2 => ?_)
      · rw [if_pos c2] at h
        rw [← Option.some.inj h] at kx
        refine run_forget [] rfl ?_
        exact kx
      · rw [if_neg c2] at h
        refine run_aload_n 0 dX9_append_17 rfl rfl ?_
        refine run_getr fl_X9_9 hn0 (by decide) rfl (cs_9_0 hn0) dX9_append_18 ?_
        refine run_aload_n 0 dX9_append_21 rfl rfl ?_
        refine run_geti fl_X9_51 hn0 (by decide) rfl dX9_append_22 ?_
        refine run_iload_n 1 dX9_append_25 rfl rfl ?_
        refine run_iload_n 2 dX9_append_26 rfl rfl ?_
        refine run_ushr dX9_append_27 ?_
        refine run_i2b dX9_append_28 ?_
        obtain ⟨g3, h⟩ := gd_s h
        refine run_bast' (ch_9_0 hn0) (cl_9_0 hn0) g3 rfl dX9_append_29 ?_
        refine run_aload_n 0 dX9_append_30 rfl rfl ?_
        refine run_dup dX9_append_31 rfl ?_
        refine run_geti fl_X9_51 hn0 (by decide) rfl dX9_append_32 ?_
        refine run_iconst (v := 1) dX9_append_35 rfl ?_
        refine run_iadd dX9_append_36 ?_
        refine run_puti fp_X9_51 hn0 (by decide) rfl dX9_append_37 ?_
        rw [Option.bind_some] at h
        refine run_mem (fun s4 es4 => ?_)
        rw [← es4] at h
        refine run_iinc 2 [(0, .ref (gA G n0)), (1, .int x1), (2, .int (x2 + (-8)))] [1, 2, 0] dX9_append_40 rfl rfl (by decide) rfl ?_
        refine run_goto 3 dX9_append_43 (by decide) ?_
        exact ih _ _ _ h kx
def fX9_append (n0 : Nat) (x1 : Int32) (σ : Mem) : Option Mem := (lX9_append_3 n0 x1 FU 24 σ).bind fun q5 => some q5
set_option maxRecDepth 20000 in
theorem sX9_append (G : GT) (d : Nat) {n0 : Nat} {x1 : Int32} (hn0 : Is n0 9) {σ : Mem} {o : Mem} (h : fX9_append n0 x1 σ = some o) : Spec G yX9_append cX9_append 3 none (d + HX9_append) [.ref (gA G n0), .int x1] σ (kV fun z => z = o) := by
  refine spec_run (by decide) (Nat.le_of_ble_eq_true rfl) ?_
  unfold fX9_append at h
  show Run G RX9 cX9_append 3 none _ 0 [(0, .ref (gA G n0)), (1, .int x1)] [] σ
  refine run_bipush (v := 24) dX9_append_0 rfl ?_
  refine run_istore_n [(0, .ref (gA G n0)), (1, .int x1), (2, .int 24)] [1, 2, 0] dX9_append_2 rfl (by decide) rfl ?_
  obtain ⟨q5, h6, h⟩ := Option.bind_eq_some_iff.mp h
  refine lpX9_append_3 G d _ _ hn0 _ _ _ _ h6 ?_
  exact run_vret dX9_append_46 ⟨rfl, Option.some.inj h⟩
def HX9_placeFor : Nat := 2
theorem HX9_placeFor_X9_has_lt (d : Nat) : d + HX9_has < d + HX9_placeFor := Nat.add_lt_add_left (by decide) d
theorem HX9_placeFor_0 (d : Nat) : 0 < d + HX9_placeFor := Nat.lt_of_lt_of_le (by decide) (Nat.le_add_left _ d)
def fX9_placeFor (n0 : Nat) (x1 : Int32) (x2 : Int32) (σ : Mem) : Option (Int32 × Mem) := if x1 < 0 then (some ((-1), σ)) else (if x1 < 4 then (if x2 = (-1) then (gd (inb x1 4) (if 2 ≤ (σ (n0 + 2) (Int32.toNatClampNeg x1)) then (some ((-1), σ)) else (gd (inb x1 4) (some ((σ (n0 + 2) (Int32.toNatClampNeg x1)), σ))))) else ((fX9_has n0 x1 x2 σ).bind fun q4 => if q4.1 = true then (some (x2, q4.2)) else (some ((-1), q4.2)))) else (some ((-1), σ)))
set_option maxRecDepth 20000 in
theorem sX9_placeFor (G : GT) (d : Nat) {n0 : Nat} {x1 : Int32} {x2 : Int32} (hn0 : Is n0 9) {σ : Mem} {o : (Int32 × Mem)} (h : fX9_placeFor n0 x1 x2 σ = some o) : Spec G yX9_placeFor cX9_placeFor 3 (some .int) (d + HX9_placeFor) [.ref (gA G n0), .int x1, .int x2] σ (kI fun x z => (x, z) = o) := by
  refine spec_run (by decide) (Nat.le_of_ble_eq_true rfl) ?_
  unfold fX9_placeFor at h
  show Run G RX9 cX9_placeFor 3 (some .int) _ 0 [(0, .ref (gA G n0)), (1, .int x1), (2, .int x2)] [] σ
  refine run_iload_n 1 dX9_placeFor_0 rfl rfl ?_
  refine run_if_lt 9 dX9_placeFor_1 (by decide) (fun c1 => ?_) (fun c1 => ?_)
  · rw [if_pos c1] at h
    refine run_iconst (v := -1) dX9_placeFor_9 rfl ?_
    exact run_iret dX9_placeFor_10 ⟨_, rfl, Option.some.inj h⟩
  · rw [if_neg c1] at h
    refine run_iload_n 1 dX9_placeFor_4 rfl rfl ?_
    refine run_iconst (v := 4) dX9_placeFor_5 rfl ?_
    refine run_icmp_lt 11 dX9_placeFor_6 (by decide) (fun c2 => ?_) (fun c2 => ?_)
    · rw [if_pos c2] at h
      refine run_iload_n 2 dX9_placeFor_11 rfl rfl ?_
      refine run_iconst (v := -1) dX9_placeFor_12 rfl ?_
      refine run_icmp_ne 37 dX9_placeFor_13 (by decide) (fun c3 => ?_) (fun c3 => ?_)
      · rw [if_neg c3] at h
        refine run_aload_n 0 dX9_placeFor_37 rfl rfl ?_
        refine run_iload_n 1 dX9_placeFor_38 rfl rfl ?_
        refine run_iload_n 2 dX9_placeFor_39 rfl rfl ?_
        obtain ⟨q4, h6, h⟩ := Option.bind_eq_some_iff.mp h
        refine run_callVb (As := [.int x1, .int x2]) (fun r z => (r, z) = q4) mw_X9_has mi_X9_has ml_X9_54 hn0 (by decide) rfl rfl rfl (RF.lt (HX9_placeFor_X9_has_lt d)) (Nat.le_of_ble_eq_true rfl) dX9_placeFor_40 (sX9_has G d hn0 h6) (fun r z h8 => ?_) rfl
        rw [show r = q4.1 from congrArg Prod.fst h8, show z = q4.2 from congrArg Prod.snd h8]
        clear h8
        refine run_ifb_eq 50 dX9_placeFor_43 (by decide) (fun c5 => ?_) (fun c5 => ?_)
        · rw [if_neg c5] at h
          refine run_iconst (v := -1) dX9_placeFor_50 rfl ?_
          exact run_iret dX9_placeFor_51 ⟨_, rfl, Option.some.inj h⟩
        · rw [if_pos c5] at h
          refine run_iload_n 2 dX9_placeFor_46 rfl rfl ?_
          refine run_goto 51 dX9_placeFor_47 (by decide) ?_
          exact run_iret dX9_placeFor_51 ⟨_, rfl, Option.some.inj h⟩
      · rw [if_pos c3] at h
        refine run_aload_n 0 dX9_placeFor_16 rfl rfl ?_
        refine run_getr fl_X9_19 hn0 (by decide) rfl (cs_9_4 hn0) dX9_placeFor_17 ?_
        refine run_iload_n 1 dX9_placeFor_20 rfl rfl ?_
        obtain ⟨g7, h⟩ := gd_s h
        refine run_iald' (ch_9_4 hn0) (cl_9_4 hn0) g7 rfl dX9_placeFor_21 ?_
        refine run_iconst (v := 2) dX9_placeFor_22 rfl ?_
        refine run_icmp_ge 35 dX9_placeFor_23 (by decide) (fun c8 => ?_) (fun c8 => ?_)
        · rw [if_pos c8] at h
          refine run_iconst (v := -1) dX9_placeFor_35 rfl ?_
          exact run_iret dX9_placeFor_36 ⟨_, rfl, Option.some.inj h⟩
        · rw [if_neg c8] at h
          refine run_aload_n 0 dX9_placeFor_26 rfl rfl ?_
          refine run_getr fl_X9_19 hn0 (by decide) rfl (cs_9_4 hn0) dX9_placeFor_27 ?_
          refine run_iload_n 1 dX9_placeFor_30 rfl rfl ?_
          obtain ⟨g9, h⟩ := gd_s h
          refine run_iald' (ch_9_4 hn0) (cl_9_4 hn0) g9 rfl dX9_placeFor_31 ?_
          refine run_goto 36 dX9_placeFor_32 (by decide) ?_
          exact run_iret dX9_placeFor_36 ⟨_, rfl, Option.some.inj h⟩
    · rw [if_neg c2] at h
      refine run_iconst (v := -1) dX9_placeFor_9 rfl ?_
      exact run_iret dX9_placeFor_10 ⟨_, rfl, Option.some.inj h⟩
def HX9_takeLine : Nat := 2
theorem HX9_takeLine_X1_take_lt (d : Nat) : d + HX1_take < d + HX9_takeLine := Nat.add_lt_add_left (by decide) d
theorem HX9_takeLine_X4_take_lt (d : Nat) : d + HX4_take < d + HX9_takeLine := Nat.add_lt_add_left (by decide) d
theorem HX9_takeLine_X7_take_lt (d : Nat) : d + HX7_take < d + HX9_takeLine := Nat.add_lt_add_left (by decide) d
theorem HX9_takeLine_X8_take_lt (d : Nat) : d + HX8_take < d + HX9_takeLine := Nat.add_lt_add_left (by decide) d
theorem HX9_takeLine_0 (d : Nat) : 0 < d + HX9_takeLine := Nat.lt_of_lt_of_le (by decide) (Nat.le_add_left _ d)
def fX9_takeLine (n0 : Nat) (x1 : Int32) (x2 : Int32) (x3 : Int32) (x4 : Int32) (x5 : Int32) (σ : Mem) : Option Mem := if x1 = 0 then (gd (inb x2 2) ((fX7_take (n0 + 7 + 14 * (Int32.toNatClampNeg x2)) x3 x4 x5 σ).bind fun q14 => some q14)) else (if x1 = 1 then (gd (inb x2 2) ((fX8_take (n0 + 9 + 14 * (Int32.toNatClampNeg x2)) x3 x4 x5 σ).bind fun q11 => some q11)) else (if x1 = 2 then (gd (inb x2 2) ((fX4_take (n0 + 14 + 14 * (Int32.toNatClampNeg x2)) x3 x4 x5 σ).bind fun q8 => some q8)) else (gd (inb x2 2) ((fX1_take (n0 + 18 + 14 * (Int32.toNatClampNeg x2)) x4 x5 σ).bind fun q5 => some q5))))
set_option maxRecDepth 20000 in
theorem sX9_takeLine (G : GT) (d : Nat) {n0 : Nat} {x1 : Int32} {x2 : Int32} {x3 : Int32} {x4 : Int32} {x5 : Int32} (hn0 : Is n0 9) {σ : Mem} {o : Mem} (h : fX9_takeLine n0 x1 x2 x3 x4 x5 σ = some o) : Spec G yX9_takeLine cX9_takeLine 6 none (d + HX9_takeLine) [.ref (gA G n0), .int x1, .int x2, .int x3, .int x4, .int x5] σ (kV fun z => z = o) := by
  refine spec_run (by decide) (Nat.le_of_ble_eq_true rfl) ?_
  unfold fX9_takeLine at h
  show Run G RX9 cX9_takeLine 6 none _ 0 [(0, .ref (gA G n0)), (1, .int x1), (2, .int x2), (3, .int x3), (4, .int x4), (5, .int x5)] [] σ
  refine run_iload_n 1 dX9_takeLine_0 rfl rfl ?_
  refine run_if_ne 21 dX9_takeLine_1 (by decide) (fun c1 => ?_) (fun c1 => ?_)
  · rw [if_neg c1] at h
    refine run_iload_n 1 dX9_takeLine_21 rfl rfl ?_
    refine run_iconst (v := 1) dX9_takeLine_22 rfl ?_
    refine run_icmp_ne 43 dX9_takeLine_23 (by decide) (fun c2 => ?_) (fun c2 => ?_)
    · rw [if_neg c2] at h
      refine run_iload_n 1 dX9_takeLine_43 rfl rfl ?_
      refine run_iconst (v := 2) dX9_takeLine_44 rfl ?_
      refine run_icmp_ne 65 dX9_takeLine_45 (by decide) (fun c3 => ?_) (fun c3 => ?_)
      · rw [if_neg c3] at h
        refine run_aload_n 0 dX9_takeLine_65 rfl rfl ?_
        refine run_getr fl_X9_43 hn0 (by decide) rfl (cs_9_8 hn0) dX9_takeLine_66 ?_
        refine run_iload_n 2 dX9_takeLine_69 rfl rfl ?_
        obtain ⟨g4, h⟩ := gd_s h
        refine run_aald' (j := (Int32.toNatClampNeg x2)) (ch_9_8 hn0) (by decide) (by decide) (t0 := 3) rfl (cl_9_8 hn0) g4 rfl (es_9_8 hn0 _) dX9_takeLine_70 ?_
        refine run_iload 4 dX9_takeLine_71 rfl ?_
        refine run_iload 5 dX9_takeLine_73 rfl ?_
        obtain ⟨q5, h6, h⟩ := Option.bind_eq_some_iff.mp h
        refine run_callVv (As := [.int x4, .int x5]) (fun z => z = q5) mw_X1_take mi_X1_take ml_X9_72 (el_9_8 hn0 (inb_lt g4)) (by decide) rfl rfl rfl (RF.lt (HX9_takeLine_X1_take_lt d)) (Nat.le_of_ble_eq_true rfl) dX9_takeLine_75 (sX1_take G d (el_9_8 hn0 (inb_lt g4)) h6) (fun z h8 => ?_) rfl
        rw [h8]
        clear h8
        exact run_vret dX9_takeLine_78 ⟨rfl, Option.some.inj h⟩
      · rw [if_pos c3] at h
        refine run_aload_n 0 dX9_takeLine_48 rfl rfl ?_
        refine run_getr fl_X9_37 hn0 (by decide) rfl (cs_9_7 hn0) dX9_takeLine_49 ?_
        refine run_iload_n 2 dX9_takeLine_52 rfl rfl ?_
        obtain ⟨g7, h⟩ := gd_s h
        refine run_aald' (j := (Int32.toNatClampNeg x2)) (ch_9_7 hn0) (by decide) (by decide) (t0 := 5) rfl (cl_9_7 hn0) g7 rfl (es_9_7 hn0 _) dX9_takeLine_53 ?_
        refine run_iload_n 3 dX9_takeLine_54 rfl rfl ?_
        refine run_iload 4 dX9_takeLine_55 rfl ?_
        refine run_iload 5 dX9_takeLine_57 rfl ?_
        obtain ⟨q8, h9, h⟩ := Option.bind_eq_some_iff.mp h
        refine run_callVv (As := [.int x3, .int x4, .int x5]) (fun z => z = q8) mw_X4_take mi_X4_take ml_X9_71 (el_9_7 hn0 (inb_lt g7)) (by decide) rfl rfl rfl (RF.lt (HX9_takeLine_X4_take_lt d)) (Nat.le_of_ble_eq_true rfl) dX9_takeLine_59 (sX4_take G d (el_9_7 hn0 (inb_lt g7)) h9) (fun z h8 => ?_) rfl
        rw [h8]
        clear h8
        refine run_goto 78 dX9_takeLine_62 (by decide) ?_
        exact run_vret dX9_takeLine_78 ⟨rfl, Option.some.inj h⟩
    · rw [if_pos c2] at h
      refine run_aload_n 0 dX9_takeLine_26 rfl rfl ?_
      refine run_getr fl_X9_31 hn0 (by decide) rfl (cs_9_6 hn0) dX9_takeLine_27 ?_
      refine run_iload_n 2 dX9_takeLine_30 rfl rfl ?_
      obtain ⟨g10, h⟩ := gd_s h
      refine run_aald' (j := (Int32.toNatClampNeg x2)) (ch_9_6 hn0) (by decide) (by decide) (t0 := 7) rfl (cl_9_6 hn0) g10 rfl (es_9_6 hn0 _) dX9_takeLine_31 ?_
      refine run_iload_n 3 dX9_takeLine_32 rfl rfl ?_
      refine run_iload 4 dX9_takeLine_33 rfl ?_
      refine run_iload 5 dX9_takeLine_35 rfl ?_
      obtain ⟨q11, h12, h⟩ := Option.bind_eq_some_iff.mp h
      refine run_callVv (As := [.int x3, .int x4, .int x5]) (fun z => z = q11) mw_X8_take mi_X8_take ml_X9_70 (el_9_6 hn0 (inb_lt g10)) (by decide) rfl rfl rfl (RF.lt (HX9_takeLine_X8_take_lt d)) (Nat.le_of_ble_eq_true rfl) dX9_takeLine_37 (sX8_take G d (el_9_6 hn0 (inb_lt g10)) h12) (fun z h8 => ?_) rfl
      rw [h8]
      clear h8
      refine run_goto 78 dX9_takeLine_40 (by decide) ?_
      exact run_vret dX9_takeLine_78 ⟨rfl, Option.some.inj h⟩
  · rw [if_pos c1] at h
    refine run_aload_n 0 dX9_takeLine_4 rfl rfl ?_
    refine run_getr fl_X9_25 hn0 (by decide) rfl (cs_9_5 hn0) dX9_takeLine_5 ?_
    refine run_iload_n 2 dX9_takeLine_8 rfl rfl ?_
    obtain ⟨g13, h⟩ := gd_s h
    refine run_aald' (j := (Int32.toNatClampNeg x2)) (ch_9_5 hn0) (by decide) (by decide) (t0 := 6) rfl (cl_9_5 hn0) g13 rfl (es_9_5 hn0 _) dX9_takeLine_9 ?_
    refine run_iload_n 3 dX9_takeLine_10 rfl rfl ?_
    refine run_iload 4 dX9_takeLine_11 rfl ?_
    refine run_iload 5 dX9_takeLine_13 rfl ?_
    obtain ⟨q14, h15, h⟩ := Option.bind_eq_some_iff.mp h
    refine run_callVv (As := [.int x3, .int x4, .int x5]) (fun z => z = q14) mw_X7_take mi_X7_take ml_X9_66 (el_9_5 hn0 (inb_lt g13)) (by decide) rfl rfl rfl (RF.lt (HX9_takeLine_X7_take_lt d)) (Nat.le_of_ble_eq_true rfl) dX9_takeLine_15 (sX7_take G d (el_9_5 hn0 (inb_lt g13)) h15) (fun z h8 => ?_) rfl
    rw [h8]
    clear h8
    refine run_goto 78 dX9_takeLine_18 (by decide) ?_
    exact run_vret dX9_takeLine_78 ⟨rfl, Option.some.inj h⟩
def HX10_take : Nat := 1
theorem HX10_take_0 (d : Nat) : 0 < d + HX10_take := Nat.lt_of_lt_of_le (by decide) (Nat.le_add_left _ d)
def fX10_take (n0 : Nat) (x1 : Int32) (x2 : Int32) (σ : Mem) : Option Mem := some (st2 (st2 (st2 (st2 (st2 (st2 (st2 σ n0 0 x1) n0 1 x2) n0 2 0) n0 3 0) n0 6 0) n0 7 0) n0 8 0)
set_option maxRecDepth 20000 in
theorem sX10_take (G : GT) (d : Nat) {n0 : Nat} {x1 : Int32} {x2 : Int32} (hn0 : Is n0 10) {σ : Mem} {o : Mem} (h : fX10_take n0 x1 x2 σ = some o) : Spec G yX10_take cX10_take 3 none (d + HX10_take) [.ref (gA G n0), .int x1, .int x2] σ (kV fun z => z = o) := by
  refine spec_run (by decide) (Nat.le_of_ble_eq_true rfl) ?_
  unfold fX10_take at h
  show Run G RX10 cX10_take 3 none _ 0 [(0, .ref (gA G n0)), (1, .int x1), (2, .int x2)] [] σ
  refine run_aload_n 0 dX10_take_0 rfl rfl ?_
  refine run_iload_n 1 dX10_take_1 rfl rfl ?_
  refine run_puti fp_X10_35 hn0 (by decide) rfl dX10_take_2 ?_
  refine run_aload_n 0 dX10_take_5 rfl rfl ?_
  refine run_iload_n 2 dX10_take_6 rfl rfl ?_
  refine run_puti fp_X10_38 hn0 (by decide) rfl dX10_take_7 ?_
  refine run_aload_n 0 dX10_take_10 rfl rfl ?_
  refine run_iconst (v := 0) dX10_take_11 rfl ?_
  refine run_puti fp_X10_41 hn0 (by decide) rfl dX10_take_12 ?_
  refine run_aload_n 0 dX10_take_15 rfl rfl ?_
  refine run_iconst (v := 0) dX10_take_16 rfl ?_
  refine run_puti fp_X10_44 hn0 (by decide) rfl dX10_take_17 ?_
  refine run_aload_n 0 dX10_take_20 rfl rfl ?_
  refine run_iconst (v := 0) dX10_take_21 rfl ?_
  refine run_puti fp_X10_47 hn0 (by decide) rfl dX10_take_22 ?_
  refine run_aload_n 0 dX10_take_25 rfl rfl ?_
  refine run_iconst (v := 0) dX10_take_26 rfl ?_
  refine run_puti fp_X10_50 hn0 (by decide) rfl dX10_take_27 ?_
  refine run_aload_n 0 dX10_take_30 rfl rfl ?_
  refine run_iconst (v := 0) dX10_take_31 rfl ?_
  refine run_puti fp_X10_53 hn0 (by decide) rfl dX10_take_32 ?_
  exact run_vret dX10_take_35 ⟨rfl, Option.some.inj h⟩
def HX10_noteRead : Nat := 1
theorem HX10_noteRead_0 (d : Nat) : 0 < d + HX10_noteRead := Nat.lt_of_lt_of_le (by decide) (Nat.le_add_left _ d)
def fX10_noteRead (n0 : Nat) (x1 : Int32) (x2 : Int32) (σ : Mem) : Option Mem := if (((σ n0 6) >>> (x1 &&& 31)) &&& 1) = 0 then (gd (inb x1 10) (some (st2 (st2 σ n0 6 ((σ n0 6) ||| ((1 : Int32) <<< (x1 &&& 31)))) (n0 + 1) (Int32.toNatClampNeg x1) x2))) else (some σ)
set_option maxRecDepth 20000 in
theorem sX10_noteRead (G : GT) (d : Nat) {n0 : Nat} {x1 : Int32} {x2 : Int32} (hn0 : Is n0 10) {σ : Mem} {o : Mem} (h : fX10_noteRead n0 x1 x2 σ = some o) : Spec G yX10_noteRead cX10_noteRead 3 none (d + HX10_noteRead) [.ref (gA G n0), .int x1, .int x2] σ (kV fun z => z = o) := by
  refine spec_run (by decide) (Nat.le_of_ble_eq_true rfl) ?_
  unfold fX10_noteRead at h
  show Run G RX10 cX10_noteRead 3 none _ 0 [(0, .ref (gA G n0)), (1, .int x1), (2, .int x2)] [] σ
  refine run_aload_n 0 dX10_noteRead_0 rfl rfl ?_
  refine run_geti fl_X10_47 hn0 (by decide) rfl dX10_noteRead_1 ?_
  refine run_iload_n 1 dX10_noteRead_4 rfl rfl ?_
  refine run_ishr dX10_noteRead_5 ?_
  refine run_iconst (v := 1) dX10_noteRead_6 rfl ?_
  refine run_iand dX10_noteRead_7 ?_
  refine run_if_ne 30 dX10_noteRead_8 (by decide) (fun c1 => ?_) (fun c1 => ?_)
  · rw [if_neg c1] at h
    exact run_vret dX10_noteRead_30 ⟨rfl, Option.some.inj h⟩
  · rw [if_pos c1] at h
    refine run_aload_n 0 dX10_noteRead_11 rfl rfl ?_
    refine run_dup dX10_noteRead_12 rfl ?_
    refine run_geti fl_X10_47 hn0 (by decide) rfl dX10_noteRead_13 ?_
    refine run_iconst (v := 1) dX10_noteRead_16 rfl ?_
    refine run_iload_n 1 dX10_noteRead_17 rfl rfl ?_
    refine run_ishl dX10_noteRead_18 ?_
    refine run_ior dX10_noteRead_19 ?_
    refine run_puti fp_X10_47 hn0 (by decide) rfl dX10_noteRead_20 ?_
    refine run_aload_n 0 dX10_noteRead_23 rfl rfl ?_
    refine run_getr fl_X10_9 hn0 (by decide) rfl (cs_10_9 hn0) dX10_noteRead_24 ?_
    refine run_iload_n 1 dX10_noteRead_27 rfl rfl ?_
    refine run_iload_n 2 dX10_noteRead_28 rfl rfl ?_
    obtain ⟨g2, h⟩ := gd_s h
    refine run_iast' (ch_10_9 hn0) (cl_10_9 hn0) g2 rfl dX10_noteRead_29 ?_
    exact run_vret dX10_noteRead_30 ⟨rfl, Option.some.inj h⟩
def HX10_noteGuard : Nat := 1
theorem HX10_noteGuard_0 (d : Nat) : 0 < d + HX10_noteGuard := Nat.lt_of_lt_of_le (by decide) (Nat.le_add_left _ d)
def fX10_noteGuard (n0 : Nat) (x1 : Int32) (x2 : Int32) (σ : Mem) : Option Mem := if (((σ n0 7) >>> (x1 &&& 31)) &&& 1) = 0 then (gd (inb x1 10) (some (st2 (st2 σ n0 7 ((σ n0 7) ||| ((1 : Int32) <<< (x1 &&& 31)))) (n0 + 2) (Int32.toNatClampNeg x1) x2))) else (some σ)
set_option maxRecDepth 20000 in
theorem sX10_noteGuard (G : GT) (d : Nat) {n0 : Nat} {x1 : Int32} {x2 : Int32} (hn0 : Is n0 10) {σ : Mem} {o : Mem} (h : fX10_noteGuard n0 x1 x2 σ = some o) : Spec G yX10_noteGuard cX10_noteGuard 3 none (d + HX10_noteGuard) [.ref (gA G n0), .int x1, .int x2] σ (kV fun z => z = o) := by
  refine spec_run (by decide) (Nat.le_of_ble_eq_true rfl) ?_
  unfold fX10_noteGuard at h
  show Run G RX10 cX10_noteGuard 3 none _ 0 [(0, .ref (gA G n0)), (1, .int x1), (2, .int x2)] [] σ
  refine run_aload_n 0 dX10_noteGuard_0 rfl rfl ?_
  refine run_geti fl_X10_50 hn0 (by decide) rfl dX10_noteGuard_1 ?_
  refine run_iload_n 1 dX10_noteGuard_4 rfl rfl ?_
  refine run_ishr dX10_noteGuard_5 ?_
  refine run_iconst (v := 1) dX10_noteGuard_6 rfl ?_
  refine run_iand dX10_noteGuard_7 ?_
  refine run_if_ne 30 dX10_noteGuard_8 (by decide) (fun c1 => ?_) (fun c1 => ?_)
  · rw [if_neg c1] at h
    exact run_vret dX10_noteGuard_30 ⟨rfl, Option.some.inj h⟩
  · rw [if_pos c1] at h
    refine run_aload_n 0 dX10_noteGuard_11 rfl rfl ?_
    refine run_dup dX10_noteGuard_12 rfl ?_
    refine run_geti fl_X10_50 hn0 (by decide) rfl dX10_noteGuard_13 ?_
    refine run_iconst (v := 1) dX10_noteGuard_16 rfl ?_
    refine run_iload_n 1 dX10_noteGuard_17 rfl rfl ?_
    refine run_ishl dX10_noteGuard_18 ?_
    refine run_ior dX10_noteGuard_19 ?_
    refine run_puti fp_X10_50 hn0 (by decide) rfl dX10_noteGuard_20 ?_
    refine run_aload_n 0 dX10_noteGuard_23 rfl rfl ?_
    refine run_getr fl_X10_15 hn0 (by decide) rfl (cs_10_10 hn0) dX10_noteGuard_24 ?_
    refine run_iload_n 1 dX10_noteGuard_27 rfl rfl ?_
    refine run_iload_n 2 dX10_noteGuard_28 rfl rfl ?_
    obtain ⟨g2, h⟩ := gd_s h
    refine run_iast' (ch_10_10 hn0) (cl_10_10 hn0) g2 rfl dX10_noteGuard_29 ?_
    exact run_vret dX10_noteGuard_30 ⟨rfl, Option.some.inj h⟩
def HX10_write : Nat := 1
theorem HX10_write_0 (d : Nat) : 0 < d + HX10_write := Nat.lt_of_lt_of_le (by decide) (Nat.le_add_left _ d)
def fX10_write (n0 : Nat) (x1 : Int32) (x2 : Int32) (σ : Mem) : Option Mem := gd (inb x1 10) (some (st2 (st2 σ n0 8 ((σ n0 8) ||| ((1 : Int32) <<< (x1 &&& 31)))) (n0 + 3) (Int32.toNatClampNeg x1) x2))
set_option maxRecDepth 20000 in
theorem sX10_write (G : GT) (d : Nat) {n0 : Nat} {x1 : Int32} {x2 : Int32} (hn0 : Is n0 10) {σ : Mem} {o : Mem} (h : fX10_write n0 x1 x2 σ = some o) : Spec G yX10_write cX10_write 3 none (d + HX10_write) [.ref (gA G n0), .int x1, .int x2] σ (kV fun z => z = o) := by
  refine spec_run (by decide) (Nat.le_of_ble_eq_true rfl) ?_
  unfold fX10_write at h
  show Run G RX10 cX10_write 3 none _ 0 [(0, .ref (gA G n0)), (1, .int x1), (2, .int x2)] [] σ
  refine run_aload_n 0 dX10_write_0 rfl rfl ?_
  refine run_dup dX10_write_1 rfl ?_
  refine run_geti fl_X10_53 hn0 (by decide) rfl dX10_write_2 ?_
  refine run_iconst (v := 1) dX10_write_5 rfl ?_
  refine run_iload_n 1 dX10_write_6 rfl rfl ?_
  refine run_ishl dX10_write_7 ?_
  refine run_ior dX10_write_8 ?_
  refine run_puti fp_X10_53 hn0 (by decide) rfl dX10_write_9 ?_
  refine run_aload_n 0 dX10_write_12 rfl rfl ?_
  refine run_getr fl_X10_18 hn0 (by decide) rfl (cs_10_11 hn0) dX10_write_13 ?_
  refine run_iload_n 1 dX10_write_16 rfl rfl ?_
  refine run_iload_n 2 dX10_write_17 rfl rfl ?_
  obtain ⟨g1, h⟩ := gd_s h
  refine run_iast' (ch_10_11 hn0) (cl_10_11 hn0) g1 rfl dX10_write_18 ?_
  exact run_vret dX10_write_19 ⟨rfl, Option.some.inj h⟩
def HX11_feed : Nat := 2
theorem HX11_feed_X9_append_lt (d : Nat) : d + HX9_append < d + HX11_feed := Nat.add_lt_add_left (by decide) d
theorem HX11_feed_0 (d : Nat) : 0 < d + HX11_feed := Nat.lt_of_lt_of_le (by decide) (Nat.le_add_left _ d)
def fX11_feed (x1 : Int32) (x2 : Int32) (x3 : Int32) (x4 : Int32) (x5 : Int32) (σ : Mem) : Option (Int32 × Mem) := if ((σ 1 1) + 20) ≤ 600 then ((fX9_append 1 x1 σ).bind fun q2 => (fX9_append 1 x2 q2).bind fun q3 => (fX9_append 1 x3 q3).bind fun q4 => (fX9_append 1 x4 q4).bind fun q5 => (fX9_append 1 x5 q5).bind fun q6 => some ((q6 1 1), q6)) else (some ((-1), σ))
set_option maxRecDepth 20000 in
theorem sX11_feed (G : GT) (d : Nat) {x1 : Int32} {x2 : Int32} {x3 : Int32} {x4 : Int32} {x5 : Int32}  {σ : Mem} {o : (Int32 × Mem)} (h : fX11_feed x1 x2 x3 x4 x5 σ = some o) : Spec G yX11_feed cX11_feed 6 (some .int) (d + HX11_feed) [.ref (gA G 0), .int x1, .int x2, .int x3, .int x4, .int x5] σ (kI fun x z => (x, z) = o) := by
  refine spec_run (by decide) (Nat.le_of_ble_eq_true rfl) ?_
  unfold fX11_feed at h
  show Run G RX11 cX11_feed 6 (some .int) _ 0 [(0, .ref (gA G 0)), (1, .int x1), (2, .int x2), (3, .int x3), (4, .int x4), (5, .int x5)] [] σ
  refine run_aload_n 0 dX11_feed_0 rfl rfl ?_
  refine run_getr fl_X11_10 is_0 (by decide) rfl ce_0_0 dX11_feed_1 ?_
  refine run_geti fl_X11_78 is_1 (by decide) rfl dX11_feed_4 ?_
  refine run_bipush (v := 20) dX11_feed_7 rfl ?_
  refine run_iadd dX11_feed_9 ?_
  refine run_sipush (v := 600) dX11_feed_10 rfl ?_
  refine run_icmp_le 18 dX11_feed_13 (by decide) (fun c1 => ?_) (fun c1 => ?_)
  · rw [if_pos c1] at h
    refine run_aload_n 0 dX11_feed_18 rfl rfl ?_
    refine run_getr fl_X11_10 is_0 (by decide) rfl ce_0_0 dX11_feed_19 ?_
    refine run_iload_n 1 dX11_feed_22 rfl rfl ?_
    obtain ⟨q2, h11, h⟩ := Option.bind_eq_some_iff.mp h
    refine run_callVv (As := [.int x1]) (fun z => z = q2) mw_X9_append mi_X9_append ml_X11_82 is_1 (by decide) rfl rfl rfl (RF.lt (HX11_feed_X9_append_lt d)) (Nat.le_of_ble_eq_true rfl) dX11_feed_23 (sX9_append G d is_1 h11) (fun z h8 => ?_) rfl
    rw [h8]
    clear h8
    refine run_aload_n 0 dX11_feed_26 rfl rfl ?_
    refine run_getr fl_X11_10 is_0 (by decide) rfl ce_0_0 dX11_feed_27 ?_
    refine run_iload_n 2 dX11_feed_30 rfl rfl ?_
    obtain ⟨q3, h10, h⟩ := Option.bind_eq_some_iff.mp h
    refine run_callVv (As := [.int x2]) (fun z => z = q3) mw_X9_append mi_X9_append ml_X11_82 is_1 (by decide) rfl rfl rfl (RF.lt (HX11_feed_X9_append_lt d)) (Nat.le_of_ble_eq_true rfl) dX11_feed_31 (sX9_append G d is_1 h10) (fun z h8 => ?_) rfl
    rw [h8]
    clear h8
    refine run_aload_n 0 dX11_feed_34 rfl rfl ?_
    refine run_getr fl_X11_10 is_0 (by decide) rfl ce_0_0 dX11_feed_35 ?_
    refine run_iload_n 3 dX11_feed_38 rfl rfl ?_
    obtain ⟨q4, h9, h⟩ := Option.bind_eq_some_iff.mp h
    refine run_callVv (As := [.int x3]) (fun z => z = q4) mw_X9_append mi_X9_append ml_X11_82 is_1 (by decide) rfl rfl rfl (RF.lt (HX11_feed_X9_append_lt d)) (Nat.le_of_ble_eq_true rfl) dX11_feed_39 (sX9_append G d is_1 h9) (fun z h8 => ?_) rfl
    rw [h8]
    clear h8
    refine run_aload_n 0 dX11_feed_42 rfl rfl ?_
    refine run_getr fl_X11_10 is_0 (by decide) rfl ce_0_0 dX11_feed_43 ?_
    refine run_iload 4 dX11_feed_46 rfl ?_
    obtain ⟨q5, h8, h⟩ := Option.bind_eq_some_iff.mp h
    refine run_callVv (As := [.int x4]) (fun z => z = q5) mw_X9_append mi_X9_append ml_X11_82 is_1 (by decide) rfl rfl rfl (RF.lt (HX11_feed_X9_append_lt d)) (Nat.le_of_ble_eq_true rfl) dX11_feed_48 (sX9_append G d is_1 h8) (fun z h8 => ?_) rfl
    rw [h8]
    clear h8
    refine run_aload_n 0 dX11_feed_51 rfl rfl ?_
    refine run_getr fl_X11_10 is_0 (by decide) rfl ce_0_0 dX11_feed_52 ?_
    refine run_iload 5 dX11_feed_55 rfl ?_
    obtain ⟨q6, h7, h⟩ := Option.bind_eq_some_iff.mp h
    refine run_callVv (As := [.int x5]) (fun z => z = q6) mw_X9_append mi_X9_append ml_X11_82 is_1 (by decide) rfl rfl rfl (RF.lt (HX11_feed_X9_append_lt d)) (Nat.le_of_ble_eq_true rfl) dX11_feed_57 (sX9_append G d is_1 h7) (fun z h8 => ?_) rfl
    rw [h8]
    clear h8
    refine run_aload_n 0 dX11_feed_60 rfl rfl ?_
    refine run_getr fl_X11_10 is_0 (by decide) rfl ce_0_0 dX11_feed_61 ?_
    refine run_geti fl_X11_78 is_1 (by decide) rfl dX11_feed_64 ?_
    exact run_iret dX11_feed_67 ⟨_, rfl, Option.some.inj h⟩
  · rw [if_neg c1] at h
    refine run_iconst (v := -1) dX11_feed_16 rfl ?_
    exact run_iret dX11_feed_17 ⟨_, rfl, Option.some.inj h⟩
def HX11_end : Nat := 1
theorem HX11_end_0 (d : Nat) : 0 < d + HX11_end := Nat.lt_of_lt_of_le (by decide) (Nat.le_add_left _ d)
def fX11_end (x1 : Int32) (σ : Mem) : Option (Int32 × Mem) := if x1 < 0 then (some ((-1), σ)) else (if x1 ≤ (σ 1 1) then (some (x1, (st2 σ 1 1 x1))) else (some ((-1), σ)))
set_option maxRecDepth 20000 in
theorem sX11_end (G : GT) (d : Nat) {x1 : Int32}  {σ : Mem} {o : (Int32 × Mem)} (h : fX11_end x1 σ = some o) : Spec G yX11_end cX11_end 2 (some .int) (d + HX11_end) [.ref (gA G 0), .int x1] σ (kI fun x z => (x, z) = o) := by
  refine spec_run (by decide) (Nat.le_of_ble_eq_true rfl) ?_
  unfold fX11_end at h
  show Run G RX11 cX11_end 2 (some .int) _ 0 [(0, .ref (gA G 0)), (1, .int x1)] [] σ
  refine run_iload_n 1 dX11_end_0 rfl rfl ?_
  refine run_if_lt 15 dX11_end_1 (by decide) (fun c1 => ?_) (fun c1 => ?_)
  · rw [if_pos c1] at h
    refine run_iconst (v := -1) dX11_end_15 rfl ?_
    exact run_iret dX11_end_16 ⟨_, rfl, Option.some.inj h⟩
  · rw [if_neg c1] at h
    refine run_iload_n 1 dX11_end_4 rfl rfl ?_
    refine run_aload_n 0 dX11_end_5 rfl rfl ?_
    refine run_getr fl_X11_10 is_0 (by decide) rfl ce_0_0 dX11_end_6 ?_
    refine run_geti fl_X11_78 is_1 (by decide) rfl dX11_end_9 ?_
    refine run_icmp_le 17 dX11_end_12 (by decide) (fun c2 => ?_) (fun c2 => ?_)
    · rw [if_pos c2] at h
      refine run_aload_n 0 dX11_end_17 rfl rfl ?_
      refine run_getr fl_X11_10 is_0 (by decide) rfl ce_0_0 dX11_end_18 ?_
      refine run_iload_n 1 dX11_end_21 rfl rfl ?_
      refine run_puti fp_X11_78 is_1 (by decide) rfl dX11_end_22 ?_
      refine run_iload_n 1 dX11_end_25 rfl rfl ?_
      exact run_iret dX11_end_26 ⟨_, rfl, Option.some.inj h⟩
    · rw [if_neg c2] at h
      refine run_iconst (v := -1) dX11_end_15 rfl ?_
      exact run_iret dX11_end_16 ⟨_, rfl, Option.some.inj h⟩
def HX11_fault : Nat := 1
theorem HX11_fault_0 (d : Nat) : 0 < d + HX11_fault := Nat.lt_of_lt_of_le (by decide) (Nat.le_add_left _ d)
def fX11_fault (x1 : Int32) (σ : Mem) : Option (Int32 × Mem) := if x1 = 0 then (some ((σ 1 2), σ)) else (if x1 = 1 then (some ((σ 1 3), σ)) else (some ((-1), σ)))
set_option maxRecDepth 20000 in
theorem sX11_fault (G : GT) (d : Nat) {x1 : Int32}  {σ : Mem} {o : (Int32 × Mem)} (h : fX11_fault x1 σ = some o) : Spec G yX11_fault cX11_fault 2 (some .int) (d + HX11_fault) [.ref (gA G 0), .int x1] σ (kI fun x z => (x, z) = o) := by
  refine spec_run (by decide) (Nat.le_of_ble_eq_true rfl) ?_
  unfold fX11_fault at h
  show Run G RX11 cX11_fault 2 (some .int) _ 0 [(0, .ref (gA G 0)), (1, .int x1)] [] σ
  refine run_iload_n 1 dX11_fault_0 rfl rfl ?_
  refine run_if_ne 12 dX11_fault_1 (by decide) (fun c1 => ?_) (fun c1 => ?_)
  · rw [if_neg c1] at h
    refine run_iload_n 1 dX11_fault_12 rfl rfl ?_
    refine run_iconst (v := 1) dX11_fault_13 rfl ?_
    refine run_icmp_ne 27 dX11_fault_14 (by decide) (fun c2 => ?_) (fun c2 => ?_)
    · rw [if_neg c2] at h
      refine run_iconst (v := -1) dX11_fault_27 rfl ?_
      exact run_iret dX11_fault_28 ⟨_, rfl, Option.some.inj h⟩
    · rw [if_pos c2] at h
      refine run_aload_n 0 dX11_fault_17 rfl rfl ?_
      refine run_getr fl_X11_10 is_0 (by decide) rfl ce_0_0 dX11_fault_18 ?_
      refine run_geti fl_X11_89 is_1 (by decide) rfl dX11_fault_21 ?_
      refine run_goto 28 dX11_fault_24 (by decide) ?_
      exact run_iret dX11_fault_28 ⟨_, rfl, Option.some.inj h⟩
  · rw [if_pos c1] at h
    refine run_aload_n 0 dX11_fault_4 rfl rfl ?_
    refine run_getr fl_X11_10 is_0 (by decide) rfl ce_0_0 dX11_fault_5 ?_
    refine run_geti fl_X11_86 is_1 (by decide) rfl dX11_fault_8 ?_
    exact run_iret dX11_fault_11 ⟨_, rfl, Option.some.inj h⟩
def HX11_task : Nat := 2
theorem HX11_task_X8_holds_lt (d : Nat) : d + HX8_holds < d + HX11_task := Nat.add_lt_add_left (by decide) d
theorem HX11_task_X9_has_lt (d : Nat) : d + HX9_has < d + HX11_task := Nat.add_lt_add_left (by decide) d
theorem HX11_task_0 (d : Nat) : 0 < d + HX11_task := Nat.lt_of_lt_of_le (by decide) (Nat.le_add_left _ d)
def fX11_task (x1 : Int32) (x2 : Int32) (x3 : Int32) (σ : Mem) : Option (Int32 × Mem) := (fX9_has 1 1 x1 σ).bind fun q1 => if q1.1 = true then (gd (inb x1 2) (if x2 = (-1) then (if x3 = 0 then (some ((q1.2 (10 + 14 * (Int32.toNatClampNeg x1)) 0), q1.2)) else (some ((-2), q1.2))) else ((fX8_holds (10 + 14 * (Int32.toNatClampNeg x1)) x2 q1.2).bind fun q5 => if q5.1 = true then (if x3 = 0 then (gd (inb x2 7) (some ((q5.2 ((10 + 14 * (Int32.toNatClampNeg x1)) + 1) (Int32.toNatClampNeg x2)), q5.2))) else (if x3 < 10 then (some ((-2), q5.2)) else (gd (inb x2 7) (if x3 < ((10 : Int32) + ((10 : Int32) * (q5.2 ((10 + 14 * (Int32.toNatClampNeg x1)) + 1) (Int32.toNatClampNeg x2)))) then (if (x3 % 10) = 0 then (gd (inb (((x2 * 6) + (x3 / 10)) - 1) 42) (some ((q5.2 ((10 + 14 * (Int32.toNatClampNeg x1)) + 2) (Int32.toNatClampNeg (((x2 * 6) + (x3 / 10)) - 1))), q5.2))) else (if (x3 % 10) = 1 then (gd (inb (((x2 * 6) + (x3 / 10)) - 1) 42) (some ((q5.2 ((10 + 14 * (Int32.toNatClampNeg x1)) + 3) (Int32.toNatClampNeg (((x2 * 6) + (x3 / 10)) - 1))), q5.2))) else (if (x3 % 10) = 2 then (gd (inb (((x2 * 6) + (x3 / 10)) - 1) 42) (some ((q5.2 ((10 + 14 * (Int32.toNatClampNeg x1)) + 4) (Int32.toNatClampNeg (((x2 * 6) + (x3 / 10)) - 1))), q5.2))) else (some ((-2), q5.2))))) else (some ((-2), q5.2)))))) else (some ((-2), q5.2))))) else (some ((-2), q1.2))
set_option maxRecDepth 20000 in
theorem sX11_task (G : GT) (d : Nat) {x1 : Int32} {x2 : Int32} {x3 : Int32}  {σ : Mem} {o : (Int32 × Mem)} (h : fX11_task x1 x2 x3 σ = some o) : Spec G yX11_task cX11_task 7 (some .int) (d + HX11_task) [.ref (gA G 0), .int x1, .int x2, .int x3] σ (kI fun x z => (x, z) = o) := by
  refine spec_run (by decide) (Nat.le_of_ble_eq_true rfl) ?_
  unfold fX11_task at h
  show Run G RX11 cX11_task 7 (some .int) _ 0 [(0, .ref (gA G 0)), (1, .int x1), (2, .int x2), (3, .int x3)] [] σ
  refine run_aload_n 0 dX11_task_0 rfl rfl ?_
  refine run_getr fl_X11_10 is_0 (by decide) rfl ce_0_0 dX11_task_1 ?_
  refine run_iconst (v := 1) dX11_task_4 rfl ?_
  refine run_iload_n 1 dX11_task_5 rfl rfl ?_
  obtain ⟨q1, h20, h⟩ := Option.bind_eq_some_iff.mp h
  refine run_callVb (As := [.int 1, .int x1]) (fun r z => (r, z) = q1) mw_X9_has mi_X9_has ml_X11_109 is_1 (by decide) rfl rfl rfl (RF.lt (HX11_task_X9_has_lt d)) (Nat.le_of_ble_eq_true rfl) dX11_task_6 (sX9_has G d is_1 h20) (fun r z h8 => ?_) rfl
  rw [show r = q1.1 from congrArg Prod.fst h8, show z = q1.2 from congrArg Prod.snd h8]
  clear h8
  refine run_ifb_ne 15 dX11_task_9 (by decide) (fun c2 => ?_) (fun c2 => ?_)
  · rw [if_pos c2] at h
    refine run_aload_n 0 dX11_task_15 rfl rfl ?_
    refine run_getr fl_X11_10 is_0 (by decide) rfl ce_0_0 dX11_task_16 ?_
    refine run_getr fl_X11_43 is_1 (by decide) rfl ce_1_6 dX11_task_19 ?_
    refine run_iload_n 1 dX11_task_22 rfl rfl ?_
    obtain ⟨g3, h⟩ := gd_s h
    refine run_aald' (j := (Int32.toNatClampNeg x1)) is_5 (by decide) (by decide) (t0 := 7) rfl ln_5 g3 rfl (es_5 _) dX11_task_23 ?_
    refine run_astore [(2, .int x2), (3, .int x3), (4, .ref (gA G (10 + 14 * (Int32.toNatClampNeg x1))))] [3, 4, 0] dX11_task_24 (by decide) rfl ?_
    refine run_iload_n 0 dX11_task_26 rfl rfl ?_
    refine run_iconst (v := -1) dX11_task_27 rfl ?_
    refine run_icmp_ne 46 dX11_task_28 (by decide) (fun c4 => ?_) (fun c4 => ?_)
    · rw [if_neg c4] at h
      refine run_aload 2 dX11_task_46 rfl ?_
      refine run_iload_n 0 dX11_task_48 rfl rfl ?_
      obtain ⟨q5, h18, h⟩ := Option.bind_eq_some_iff.mp h
      refine run_callVb (As := [.int x2]) (fun r z => (r, z) = q5) mw_X8_holds mi_X8_holds ml_X11_136 (el_5 (inb_lt g3)) (by decide) rfl rfl rfl (RF.lt (HX11_task_X8_holds_lt d)) (Nat.le_of_ble_eq_true rfl) dX11_task_49 (sX8_holds G d (el_5 (inb_lt g3)) h18) (fun r z h8 => ?_) rfl
      rw [show r = q5.1 from congrArg Prod.fst h8, show z = q5.2 from congrArg Prod.snd h8]
      clear h8
      refine run_ifb_ne 58 dX11_task_52 (by decide) (fun c6 => ?_) (fun c6 => ?_)
      · rw [if_pos c6] at h
        refine run_iload_n 1 dX11_task_58 rfl rfl ?_
        refine run_if_ne 70 dX11_task_59 (by decide) (fun c7 => ?_) (fun c7 => ?_)
        · rw [if_neg c7] at h
          refine run_iload_n 1 dX11_task_70 rfl rfl ?_
          refine run_bipush (v := 10) dX11_task_71 rfl ?_
          refine run_icmp_lt 93 dX11_task_73 (by decide) (fun c8 => ?_) (fun c8 => ?_)
          · rw [if_pos c8] at h
            refine run_bipush (v := -2) dX11_task_93 rfl ?_
            exact run_iret dX11_task_95 ⟨_, rfl, Option.some.inj h⟩
          · rw [if_neg c8] at h
            refine run_iload_n 1 dX11_task_76 rfl rfl ?_
            refine run_bipush (v := 10) dX11_task_77 rfl ?_
            refine run_bipush (v := 10) dX11_task_79 rfl ?_
            refine run_aload 2 dX11_task_81 rfl ?_
            refine run_getr fl_X11_140 (el_5 (inb_lt g3)) (by decide) rfl (cs_8_1 (el_5 (inb_lt g3))) dX11_task_83 ?_
            refine run_iload_n 0 dX11_task_86 rfl rfl ?_
            obtain ⟨g9, h⟩ := gd_s h
            refine run_iald' (ch_8_1 (el_5 (inb_lt g3))) (cl_8_1 (el_5 (inb_lt g3))) g9 rfl dX11_task_87 ?_
            refine run_imul dX11_task_88 ?_
            refine run_iadd dX11_task_89 ?_
            refine run_icmp_lt 96 dX11_task_90 (by decide) (fun c10 => ?_) (fun c10 => ?_)
            · rw [if_pos c10] at h
              refine run_iload_n 0 dX11_task_96 rfl rfl ?_
              refine run_bipush (v := 6) dX11_task_97 rfl ?_
              refine run_imul dX11_task_99 ?_
              refine run_iload_n 1 dX11_task_100 rfl rfl ?_
              refine run_bipush (v := 10) dX11_task_101 rfl ?_
              refine run_idiv dX11_task_103 (by decide) ?_
              refine run_iadd dX11_task_104 ?_
              refine run_iconst (v := 1) dX11_task_105 rfl ?_
              refine run_isub dX11_task_106 ?_
              refine run_istore [(3, .int x3), (4, .ref (gA G (10 + 14 * (Int32.toNatClampNeg x1)))), (5, .int (((x2 * 6) + (x3 / 10)) - 1))] [2, 3, 0] dX11_task_107 (by decide) rfl ?_
              refine run_iload_n 0 dX11_task_109 rfl rfl ?_
              refine run_bipush (v := 10) dX11_task_110 rfl ?_
              refine run_irem dX11_task_112 (by decide) ?_
              refine run_istore [(4, .ref (gA G (10 + 14 * (Int32.toNatClampNeg x1)))), (5, .int (((x2 * 6) + (x3 / 10)) - 1)), (6, .int (x3 % 10))] [2, 3, 0] dX11_task_113 (by decide) rfl ?_
              refine run_iload 2 dX11_task_115 rfl ?_
              refine run_if_ne 129 dX11_task_117 (by decide) (fun c11 => ?_) (fun c11 => ?_)
              · rw [if_neg c11] at h
                refine run_iload 2 dX11_task_129 rfl ?_
                refine run_iconst (v := 1) dX11_task_131 rfl ?_
                refine run_icmp_ne 144 dX11_task_132 (by decide) (fun c12 => ?_) (fun c12 => ?_)
                · rw [if_neg c12] at h
                  refine run_iload 2 dX11_task_144 rfl ?_
                  refine run_iconst (v := 2) dX11_task_146 rfl ?_
                  refine run_icmp_ne 161 dX11_task_147 (by decide) (fun c13 => ?_) (fun c13 => ?_)
                  · rw [if_neg c13] at h
                    refine run_bipush (v := -2) dX11_task_161 rfl ?_
                    exact run_iret dX11_task_163 ⟨_, rfl, Option.some.inj h⟩
                  · rw [if_pos c13] at h
                    refine run_aload 0 dX11_task_150 rfl ?_
                    refine run_getr fl_X11_149 (el_5 (inb_lt g3)) (by decide) rfl (cs_8_4 (el_5 (inb_lt g3))) dX11_task_152 ?_
                    refine run_iload 1 dX11_task_155 rfl ?_
                    obtain ⟨g14, h⟩ := gd_s h
                    refine run_iald' (ch_8_4 (el_5 (inb_lt g3))) (cl_8_4 (el_5 (inb_lt g3))) g14 rfl dX11_task_157 ?_
                    refine run_goto 163 dX11_task_158 (by decide) ?_
                    exact run_iret dX11_task_163 ⟨_, rfl, Option.some.inj h⟩
                · rw [if_pos c12] at h
                  refine run_aload 0 dX11_task_135 rfl ?_
                  refine run_getr fl_X11_146 (el_5 (inb_lt g3)) (by decide) rfl (cs_8_3 (el_5 (inb_lt g3))) dX11_task_137 ?_
                  refine run_iload 1 dX11_task_140 rfl ?_
                  obtain ⟨g15, h⟩ := gd_s h
                  refine run_iald' (ch_8_3 (el_5 (inb_lt g3))) (cl_8_3 (el_5 (inb_lt g3))) g15 rfl dX11_task_142 ?_
                  exact run_iret dX11_task_143 ⟨_, rfl, Option.some.inj h⟩
              · rw [if_pos c11] at h
                refine run_aload 0 dX11_task_120 rfl ?_
                refine run_getr fl_X11_143 (el_5 (inb_lt g3)) (by decide) rfl (cs_8_2 (el_5 (inb_lt g3))) dX11_task_122 ?_
                refine run_iload 1 dX11_task_125 rfl ?_
                obtain ⟨g16, h⟩ := gd_s h
                refine run_iald' (ch_8_2 (el_5 (inb_lt g3))) (cl_8_2 (el_5 (inb_lt g3))) g16 rfl dX11_task_127 ?_
                exact run_iret dX11_task_128 ⟨_, rfl, Option.some.inj h⟩
            · rw [if_neg c10] at h
              refine run_bipush (v := -2) dX11_task_93 rfl ?_
              exact run_iret dX11_task_95 ⟨_, rfl, Option.some.inj h⟩
        · rw [if_pos c7] at h
          refine run_aload 2 dX11_task_62 rfl ?_
          refine run_getr fl_X11_140 (el_5 (inb_lt g3)) (by decide) rfl (cs_8_1 (el_5 (inb_lt g3))) dX11_task_64 ?_
          refine run_iload_n 0 dX11_task_67 rfl rfl ?_
          obtain ⟨g17, h⟩ := gd_s h
          refine run_iald' (ch_8_1 (el_5 (inb_lt g3))) (cl_8_1 (el_5 (inb_lt g3))) g17 rfl dX11_task_68 ?_
          exact run_iret dX11_task_69 ⟨_, rfl, Option.some.inj h⟩
      · rw [if_neg c6] at h
        refine run_bipush (v := -2) dX11_task_55 rfl ?_
        exact run_iret dX11_task_57 ⟨_, rfl, Option.some.inj h⟩
    · rw [if_pos c4] at h
      refine run_iload_n 1 dX11_task_31 rfl rfl ?_
      refine run_if_ne 43 dX11_task_32 (by decide) (fun c19 => ?_) (fun c19 => ?_)
      · rw [if_neg c19] at h
        refine run_bipush (v := -2) dX11_task_43 rfl ?_
        exact run_iret dX11_task_45 ⟨_, rfl, Option.some.inj h⟩
      · rw [if_pos c19] at h
        refine run_aload 2 dX11_task_35 rfl ?_
        refine run_geti fl_X11_131 (el_5 (inb_lt g3)) (by decide) rfl dX11_task_37 ?_
        refine run_goto 45 dX11_task_40 (by decide) ?_
        exact run_iret dX11_task_45 ⟨_, rfl, Option.some.inj h⟩
  · rw [if_neg c2] at h
    refine run_bipush (v := -2) dX11_task_12 rfl ?_
    exact run_iret dX11_task_14 ⟨_, rfl, Option.some.inj h⟩
def HX11_deed : Nat := 2
theorem HX11_deed_X9_has_lt (d : Nat) : d + HX9_has < d + HX11_deed := Nat.add_lt_add_left (by decide) d
theorem HX11_deed_0 (d : Nat) : 0 < d + HX11_deed := Nat.lt_of_lt_of_le (by decide) (Nat.le_add_left _ d)
def fX11_deed (x1 : Int32) (x2 : Int32) (x3 : Int32) (σ : Mem) : Option (Int32 × Mem) := (fX9_has 1 2 x1 σ).bind fun q1 => if q1.1 = true then (gd (inb x1 2) (if x2 = (-1) then (if x3 = 0 then (some ((q1.2 (15 + 14 * (Int32.toNatClampNeg x1)) 0), q1.2)) else (some ((-2), q1.2))) else (if x2 < 0 then (some ((-2), q1.2)) else (if x2 < (q1.2 (15 + 14 * (Int32.toNatClampNeg x1)) 0) then (if x3 = 0 then (gd (inb x2 40) (some ((q1.2 ((15 + 14 * (Int32.toNatClampNeg x1)) + 1) (Int32.toNatClampNeg x2)), q1.2))) else (if x3 = 1 then (gd (inb x2 40) (some ((q1.2 ((15 + 14 * (Int32.toNatClampNeg x1)) + 2) (Int32.toNatClampNeg x2)), q1.2))) else (if x3 = 2 then (gd (inb x2 40) (some ((q1.2 ((15 + 14 * (Int32.toNatClampNeg x1)) + 3) (Int32.toNatClampNeg x2)), q1.2))) else (some ((-2), q1.2))))) else (some ((-2), q1.2)))))) else (some ((-2), q1.2))
set_option maxRecDepth 20000 in
theorem sX11_deed (G : GT) (d : Nat) {x1 : Int32} {x2 : Int32} {x3 : Int32}  {σ : Mem} {o : (Int32 × Mem)} (h : fX11_deed x1 x2 x3 σ = some o) : Spec G yX11_deed cX11_deed 5 (some .int) (d + HX11_deed) [.ref (gA G 0), .int x1, .int x2, .int x3] σ (kI fun x z => (x, z) = o) := by
  refine spec_run (by decide) (Nat.le_of_ble_eq_true rfl) ?_
  unfold fX11_deed at h
  show Run G RX11 cX11_deed 5 (some .int) _ 0 [(0, .ref (gA G 0)), (1, .int x1), (2, .int x2), (3, .int x3)] [] σ
  refine run_aload_n 0 dX11_deed_0 rfl rfl ?_
  refine run_getr fl_X11_10 is_0 (by decide) rfl ce_0_0 dX11_deed_1 ?_
  refine run_iconst (v := 2) dX11_deed_4 rfl ?_
  refine run_iload_n 1 dX11_deed_5 rfl rfl ?_
  obtain ⟨q1, h14, h⟩ := Option.bind_eq_some_iff.mp h
  refine run_callVb (As := [.int 2, .int x1]) (fun r z => (r, z) = q1) mw_X9_has mi_X9_has ml_X11_109 is_1 (by decide) rfl rfl rfl (RF.lt (HX11_deed_X9_has_lt d)) (Nat.le_of_ble_eq_true rfl) dX11_deed_6 (sX9_has G d is_1 h14) (fun r z h8 => ?_) rfl
  rw [show r = q1.1 from congrArg Prod.fst h8, show z = q1.2 from congrArg Prod.snd h8]
  clear h8
  refine run_ifb_ne 15 dX11_deed_9 (by decide) (fun c2 => ?_) (fun c2 => ?_)
  · rw [if_pos c2] at h
    refine run_aload_n 0 dX11_deed_15 rfl rfl ?_
    refine run_getr fl_X11_10 is_0 (by decide) rfl ce_0_0 dX11_deed_16 ?_
    refine run_getr fl_X11_152 is_1 (by decide) rfl ce_1_7 dX11_deed_19 ?_
    refine run_iload_n 1 dX11_deed_22 rfl rfl ?_
    obtain ⟨g3, h⟩ := gd_s h
    refine run_aald' (j := (Int32.toNatClampNeg x1)) is_6 (by decide) (by decide) (t0 := 5) rfl ln_6 g3 rfl (es_6 _) dX11_deed_23 ?_
    refine run_astore [(2, .int x2), (3, .int x3), (4, .ref (gA G (15 + 14 * (Int32.toNatClampNeg x1))))] [3, 4, 0] dX11_deed_24 (by decide) rfl ?_
    refine run_iload_n 0 dX11_deed_26 rfl rfl ?_
    refine run_iconst (v := -1) dX11_deed_27 rfl ?_
    refine run_icmp_ne 46 dX11_deed_28 (by decide) (fun c4 => ?_) (fun c4 => ?_)
    · rw [if_neg c4] at h
      refine run_iload_n 0 dX11_deed_46 rfl rfl ?_
      refine run_if_lt 59 dX11_deed_47 (by decide) (fun c5 => ?_) (fun c5 => ?_)
      · rw [if_pos c5] at h
        refine run_bipush (v := -2) dX11_deed_59 rfl ?_
        exact run_iret dX11_deed_61 ⟨_, rfl, Option.some.inj h⟩
      · rw [if_neg c5] at h
        refine run_iload_n 0 dX11_deed_50 rfl rfl ?_
        refine run_aload 2 dX11_deed_51 rfl ?_
        refine run_geti fl_X11_156 (el_6 (inb_lt g3)) (by decide) rfl dX11_deed_53 ?_
        refine run_icmp_lt 62 dX11_deed_56 (by decide) (fun c6 => ?_) (fun c6 => ?_)
        · rw [if_pos c6] at h
          refine run_iload_n 1 dX11_deed_62 rfl rfl ?_
          refine run_if_ne 74 dX11_deed_63 (by decide) (fun c7 => ?_) (fun c7 => ?_)
          · rw [if_neg c7] at h
            refine run_iload_n 1 dX11_deed_74 rfl rfl ?_
            refine run_iconst (v := 1) dX11_deed_75 rfl ?_
            refine run_icmp_ne 87 dX11_deed_76 (by decide) (fun c8 => ?_) (fun c8 => ?_)
            · rw [if_neg c8] at h
              refine run_iload_n 1 dX11_deed_87 rfl rfl ?_
              refine run_iconst (v := 2) dX11_deed_88 rfl ?_
              refine run_icmp_ne 102 dX11_deed_89 (by decide) (fun c9 => ?_) (fun c9 => ?_)
              · rw [if_neg c9] at h
                refine run_bipush (v := -2) dX11_deed_102 rfl ?_
                exact run_iret dX11_deed_104 ⟨_, rfl, Option.some.inj h⟩
              · rw [if_pos c9] at h
                refine run_aload 2 dX11_deed_92 rfl ?_
                refine run_getr fl_X11_163 (el_6 (inb_lt g3)) (by decide) rfl (cs_4_3 (el_6 (inb_lt g3))) dX11_deed_94 ?_
                refine run_iload_n 0 dX11_deed_97 rfl rfl ?_
                obtain ⟨g10, h⟩ := gd_s h
                refine run_iald' (ch_4_3 (el_6 (inb_lt g3))) (cl_4_3 (el_6 (inb_lt g3))) g10 rfl dX11_deed_98 ?_
                refine run_goto 104 dX11_deed_99 (by decide) ?_
                exact run_iret dX11_deed_104 ⟨_, rfl, Option.some.inj h⟩
            · rw [if_pos c8] at h
              refine run_aload 2 dX11_deed_79 rfl ?_
              refine run_getr fl_X11_160 (el_6 (inb_lt g3)) (by decide) rfl (cs_4_2 (el_6 (inb_lt g3))) dX11_deed_81 ?_
              refine run_iload_n 0 dX11_deed_84 rfl rfl ?_
              obtain ⟨g11, h⟩ := gd_s h
              refine run_iald' (ch_4_2 (el_6 (inb_lt g3))) (cl_4_2 (el_6 (inb_lt g3))) g11 rfl dX11_deed_85 ?_
              exact run_iret dX11_deed_86 ⟨_, rfl, Option.some.inj h⟩
          · rw [if_pos c7] at h
            refine run_aload 2 dX11_deed_66 rfl ?_
            refine run_getr fl_X11_159 (el_6 (inb_lt g3)) (by decide) rfl (cs_4_1 (el_6 (inb_lt g3))) dX11_deed_68 ?_
            refine run_iload_n 0 dX11_deed_71 rfl rfl ?_
            obtain ⟨g12, h⟩ := gd_s h
            refine run_iald' (ch_4_1 (el_6 (inb_lt g3))) (cl_4_1 (el_6 (inb_lt g3))) g12 rfl dX11_deed_72 ?_
            exact run_iret dX11_deed_73 ⟨_, rfl, Option.some.inj h⟩
        · rw [if_neg c6] at h
          refine run_bipush (v := -2) dX11_deed_59 rfl ?_
          exact run_iret dX11_deed_61 ⟨_, rfl, Option.some.inj h⟩
    · rw [if_pos c4] at h
      refine run_iload_n 1 dX11_deed_31 rfl rfl ?_
      refine run_if_ne 43 dX11_deed_32 (by decide) (fun c13 => ?_) (fun c13 => ?_)
      · rw [if_neg c13] at h
        refine run_bipush (v := -2) dX11_deed_43 rfl ?_
        exact run_iret dX11_deed_45 ⟨_, rfl, Option.some.inj h⟩
      · rw [if_pos c13] at h
        refine run_aload 2 dX11_deed_35 rfl ?_
        refine run_geti fl_X11_156 (el_6 (inb_lt g3)) (by decide) rfl dX11_deed_37 ?_
        refine run_goto 45 dX11_deed_40 (by decide) ?_
        exact run_iret dX11_deed_45 ⟨_, rfl, Option.some.inj h⟩
  · rw [if_neg c2] at h
    refine run_bipush (v := -2) dX11_deed_12 rfl ?_
    exact run_iret dX11_deed_14 ⟨_, rfl, Option.some.inj h⟩
def HX11_fact : Nat := 2
theorem HX11_fact_X9_has_lt (d : Nat) : d + HX9_has < d + HX11_fact := Nat.add_lt_add_left (by decide) d
theorem HX11_fact_0 (d : Nat) : 0 < d + HX11_fact := Nat.lt_of_lt_of_le (by decide) (Nat.le_add_left _ d)
def fX11_fact (x1 : Int32) (x2 : Int32) (x3 : Int32) (σ : Mem) : Option (Int32 × Mem) := (fX9_has 1 3 x1 σ).bind fun q1 => if q1.1 = true then (gd (inb x1 2) (if x2 = (-1) then (if x3 = 0 then (some ((q1.2 (19 + 14 * (Int32.toNatClampNeg x1)) 0), q1.2)) else (some ((-2), q1.2))) else (if x2 < 0 then (some ((-2), q1.2)) else (if x2 < (q1.2 (19 + 14 * (Int32.toNatClampNeg x1)) 0) then (if x3 = 0 then (gd (inb x2 8) (some ((q1.2 ((19 + 14 * (Int32.toNatClampNeg x1)) + 1) (Int32.toNatClampNeg x2)), q1.2))) else (if x3 = 1 then (gd (inb x2 8) (some ((q1.2 ((19 + 14 * (Int32.toNatClampNeg x1)) + 2) (Int32.toNatClampNeg x2)), q1.2))) else (some ((-2), q1.2)))) else (some ((-2), q1.2)))))) else (some ((-2), q1.2))
set_option maxRecDepth 20000 in
theorem sX11_fact (G : GT) (d : Nat) {x1 : Int32} {x2 : Int32} {x3 : Int32}  {σ : Mem} {o : (Int32 × Mem)} (h : fX11_fact x1 x2 x3 σ = some o) : Spec G yX11_fact cX11_fact 5 (some .int) (d + HX11_fact) [.ref (gA G 0), .int x1, .int x2, .int x3] σ (kI fun x z => (x, z) = o) := by
  refine spec_run (by decide) (Nat.le_of_ble_eq_true rfl) ?_
  unfold fX11_fact at h
  show Run G RX11 cX11_fact 5 (some .int) _ 0 [(0, .ref (gA G 0)), (1, .int x1), (2, .int x2), (3, .int x3)] [] σ
  refine run_aload_n 0 dX11_fact_0 rfl rfl ?_
  refine run_getr fl_X11_10 is_0 (by decide) rfl ce_0_0 dX11_fact_1 ?_
  refine run_iconst (v := 3) dX11_fact_4 rfl ?_
  refine run_iload_n 1 dX11_fact_5 rfl rfl ?_
  obtain ⟨q1, h12, h⟩ := Option.bind_eq_some_iff.mp h
  refine run_callVb (As := [.int 3, .int x1]) (fun r z => (r, z) = q1) mw_X9_has mi_X9_has ml_X11_109 is_1 (by decide) rfl rfl rfl (RF.lt (HX11_fact_X9_has_lt d)) (Nat.le_of_ble_eq_true rfl) dX11_fact_6 (sX9_has G d is_1 h12) (fun r z h8 => ?_) rfl
  rw [show r = q1.1 from congrArg Prod.fst h8, show z = q1.2 from congrArg Prod.snd h8]
  clear h8
  refine run_ifb_ne 15 dX11_fact_9 (by decide) (fun c2 => ?_) (fun c2 => ?_)
  · rw [if_pos c2] at h
    refine run_aload_n 0 dX11_fact_15 rfl rfl ?_
    refine run_getr fl_X11_10 is_0 (by decide) rfl ce_0_0 dX11_fact_16 ?_
    refine run_getr fl_X11_219 is_1 (by decide) rfl ce_1_8 dX11_fact_19 ?_
    refine run_iload_n 1 dX11_fact_22 rfl rfl ?_
    obtain ⟨g3, h⟩ := gd_s h
    refine run_aald' (j := (Int32.toNatClampNeg x1)) is_7 (by decide) (by decide) (t0 := 3) rfl ln_7 g3 rfl (es_7 _) dX11_fact_23 ?_
    refine run_astore [(2, .int x2), (3, .int x3), (4, .ref (gA G (19 + 14 * (Int32.toNatClampNeg x1))))] [3, 4, 0] dX11_fact_24 (by decide) rfl ?_
    refine run_iload_n 0 dX11_fact_26 rfl rfl ?_
    refine run_iconst (v := -1) dX11_fact_27 rfl ?_
    refine run_icmp_ne 46 dX11_fact_28 (by decide) (fun c4 => ?_) (fun c4 => ?_)
    · rw [if_neg c4] at h
      refine run_iload_n 0 dX11_fact_46 rfl rfl ?_
      refine run_if_lt 59 dX11_fact_47 (by decide) (fun c5 => ?_) (fun c5 => ?_)
      · rw [if_pos c5] at h
        refine run_bipush (v := -2) dX11_fact_59 rfl ?_
        exact run_iret dX11_fact_61 ⟨_, rfl, Option.some.inj h⟩
      · rw [if_neg c5] at h
        refine run_iload_n 0 dX11_fact_50 rfl rfl ?_
        refine run_aload 2 dX11_fact_51 rfl ?_
        refine run_geti fl_X11_223 (el_7 (inb_lt g3)) (by decide) rfl dX11_fact_53 ?_
        refine run_icmp_lt 62 dX11_fact_56 (by decide) (fun c6 => ?_) (fun c6 => ?_)
        · rw [if_pos c6] at h
          refine run_iload_n 1 dX11_fact_62 rfl rfl ?_
          refine run_if_ne 74 dX11_fact_63 (by decide) (fun c7 => ?_) (fun c7 => ?_)
          · rw [if_neg c7] at h
            refine run_iload_n 1 dX11_fact_74 rfl rfl ?_
            refine run_iconst (v := 1) dX11_fact_75 rfl ?_
            refine run_icmp_ne 89 dX11_fact_76 (by decide) (fun c8 => ?_) (fun c8 => ?_)
            · rw [if_neg c8] at h
              refine run_bipush (v := -2) dX11_fact_89 rfl ?_
              exact run_iret dX11_fact_91 ⟨_, rfl, Option.some.inj h⟩
            · rw [if_pos c8] at h
              refine run_aload 2 dX11_fact_79 rfl ?_
              refine run_getr fl_X11_227 (el_7 (inb_lt g3)) (by decide) rfl (cs_1_2 (el_7 (inb_lt g3))) dX11_fact_81 ?_
              refine run_iload_n 0 dX11_fact_84 rfl rfl ?_
              obtain ⟨g9, h⟩ := gd_s h
              refine run_iald' (ch_1_2 (el_7 (inb_lt g3))) (cl_1_2 (el_7 (inb_lt g3))) g9 rfl dX11_fact_85 ?_
              refine run_goto 91 dX11_fact_86 (by decide) ?_
              exact run_iret dX11_fact_91 ⟨_, rfl, Option.some.inj h⟩
          · rw [if_pos c7] at h
            refine run_aload 2 dX11_fact_66 rfl ?_
            refine run_getr fl_X11_226 (el_7 (inb_lt g3)) (by decide) rfl (cs_1_1 (el_7 (inb_lt g3))) dX11_fact_68 ?_
            refine run_iload_n 0 dX11_fact_71 rfl rfl ?_
            obtain ⟨g10, h⟩ := gd_s h
            refine run_iald' (ch_1_1 (el_7 (inb_lt g3))) (cl_1_1 (el_7 (inb_lt g3))) g10 rfl dX11_fact_72 ?_
            exact run_iret dX11_fact_73 ⟨_, rfl, Option.some.inj h⟩
        · rw [if_neg c6] at h
          refine run_bipush (v := -2) dX11_fact_59 rfl ?_
          exact run_iret dX11_fact_61 ⟨_, rfl, Option.some.inj h⟩
    · rw [if_pos c4] at h
      refine run_iload_n 1 dX11_fact_31 rfl rfl ?_
      refine run_if_ne 43 dX11_fact_32 (by decide) (fun c11 => ?_) (fun c11 => ?_)
      · rw [if_neg c11] at h
        refine run_bipush (v := -2) dX11_fact_43 rfl ?_
        exact run_iret dX11_fact_45 ⟨_, rfl, Option.some.inj h⟩
      · rw [if_pos c11] at h
        refine run_aload 2 dX11_fact_35 rfl ?_
        refine run_geti fl_X11_223 (el_7 (inb_lt g3)) (by decide) rfl dX11_fact_37 ?_
        refine run_goto 45 dX11_fact_40 (by decide) ?_
        exact run_iret dX11_fact_45 ⟨_, rfl, Option.some.inj h⟩
  · rw [if_neg c2] at h
    refine run_bipush (v := -2) dX11_fact_12 rfl ?_
    exact run_iret dX11_fact_14 ⟨_, rfl, Option.some.inj h⟩
