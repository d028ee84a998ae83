/-! methods, translated -/
def HX9_copyFrom : Nat := 3
theorem HX9_copyFrom_X1_copyFrom_lt (d : Nat) : d + HX1_copyFrom < d + HX9_copyFrom := Nat.add_lt_add_left (by decide) d
theorem HX9_copyFrom_X4_copyFrom_lt (d : Nat) : d + HX4_copyFrom < d + HX9_copyFrom := Nat.add_lt_add_left (by decide) d
theorem HX9_copyFrom_X7_copyFrom_lt (d : Nat) : d + HX7_copyFrom < d + HX9_copyFrom := Nat.add_lt_add_left (by decide) d
theorem HX9_copyFrom_X8_copyFrom_lt (d : Nat) : d + HX8_copyFrom < d + HX9_copyFrom := Nat.add_lt_add_left (by decide) d
theorem HX9_copyFrom_0 (d : Nat) : 0 < d + HX9_copyFrom := Nat.lt_of_lt_of_le (by decide) (Nat.le_add_left _ d)
def lX9_copyFrom_56 (n0 : Nat) (n1 : Nat) : Nat → Int32 → Mem → Option (Mem)
  | 0, _, _ => none
  | n + 1, x2, σ => if 2 ≤ x2 then (some σ) else (gd (inb x2 2) (gd (inb x2 2) ((fX7_copyFrom (n0 + 7 + 14 * (Int32.toNatClampNeg x2)) (n1 + 7 + 14 * (Int32.toNatClampNeg x2)) σ).bind fun q19 => gd (inb x2 2) (gd (inb x2 2) ((fX8_copyFrom (n0 + 9 + 14 * (Int32.toNatClampNeg x2)) (n1 + 9 + 14 * (Int32.toNatClampNeg x2)) q19).bind fun q22 => gd (inb x2 2) (gd (inb x2 2) ((fX4_copyFrom (n0 + 14 + 14 * (Int32.toNatClampNeg x2)) (n1 + 14 + 14 * (Int32.toNatClampNeg x2)) q22).bind fun q25 => gd (inb x2 2) (gd (inb x2 2) ((fX1_copyFrom (n0 + 18 + 14 * (Int32.toNatClampNeg x2)) (n1 + 18 + 14 * (Int32.toNatClampNeg x2)) q25).bind fun q28 => lX9_copyFrom_56 n0 n1 n (x2 + 1) q28)))))))))
set_option maxRecDepth 20000 in
theorem lpX9_copyFrom_56 (G : GT) (d : Nat) (n0 : Nat) (n1 : Nat) (hn0 : Is n0 9) (hn1 : Is n1 9) {K : Option Value → Mem → Prop} : ∀ (n : Nat) (x2 : Int32) (σ : Mem) (o : Mem), lX9_copyFrom_56 n0 n1 n x2 σ = some o → (Run G RX9 cX9_copyFrom 3 none (mF G (d + HX9_copyFrom) K) 127 [] [] o) → Run G RX9 cX9_copyFrom 3 none (mF G (d + HX9_copyFrom) K) 56 [(0, .ref (gA G n0)), (1, .ref (gA G n1)), (2, .int x2)] [] σ := by
  intro n
  induction n with
  | zero => intro x2 σ o h; exact absurd h (by simp [lX9_copyFrom_56])
  | succ n ih =>
    intro x2 σ o h kx
    rw [lX9_copyFrom_56] at h
    refine run_iload_n 2 dX9_copyFrom_56 rfl rfl ?_
    refine run_iconst (v := 2) dX9_copyFrom_57 rfl ?_
    refine run_icmp_ge 127 dX9_copyFrom_58 (by decide) (fun c16 => ?_) (fun c16 => ?_)
    · rw [if_pos c16] at h
      rw [← Option.some.inj h] at kx
      refine run_forget [] rfl ?_
      exact kx
    · rw [if_neg c16] at h
      refine run_aload_n 0 dX9_copyFrom_61 rfl rfl ?_
      refine run_getr fl_X9_25 hn0 (by decide) rfl (cs_9_5 hn0) dX9_copyFrom_62 ?_
      refine run_iload_n 2 dX9_copyFrom_65 rfl rfl ?_
      obtain ⟨g17, h⟩ := gd_s h
      refine run_aald' (j := (Int32.toNatClampNeg x2)) (ch_9_5 hn0) (by decide) (by decide) (t0 := 6) rfl (cl_9_5 hn0) g17 rfl (es_9_5 hn0 _) dX9_copyFrom_66 ?_
      refine run_aload_n 1 dX9_copyFrom_67 rfl rfl ?_
      refine run_getr fl_X9_25 hn1 (by decide) rfl (cs_9_5 hn1) dX9_copyFrom_68 ?_
      refine run_iload_n 2 dX9_copyFrom_71 rfl rfl ?_
      obtain ⟨g18, h⟩ := gd_s h
      refine run_aald' (j := (Int32.toNatClampNeg x2)) (ch_9_5 hn1) (by decide) (by decide) (t0 := 6) rfl (cl_9_5 hn1) g18 rfl (es_9_5 hn1 _) dX9_copyFrom_72 ?_
      obtain ⟨q19, h32, h⟩ := Option.bind_eq_some_iff.mp h
      refine run_callVv (As := [.ref (gA G (n1 + 7 + 14 * (Int32.toNatClampNeg x2)))]) (fun z => z = q19) mw_X7_copyFrom mi_X7_copyFrom ml_X9_84 (el_9_5 hn0 (inb_lt g17)) (by decide) rfl rfl rfl (RF.lt (HX9_copyFrom_X7_copyFrom_lt d)) (Nat.le_of_ble_eq_true rfl) dX9_copyFrom_73 (sX7_copyFrom G d (el_9_5 hn0 (inb_lt g17)) (el_9_5 hn1 (inb_lt g18)) h32) (fun z h8 => ?_) rfl
      rw [h8]
      clear h8
      refine run_aload_n 0 dX9_copyFrom_76 rfl rfl ?_
      refine run_getr fl_X9_31 hn0 (by decide) rfl (cs_9_6 hn0) dX9_copyFrom_77 ?_
      refine run_iload_n 2 dX9_copyFrom_80 rfl rfl ?_
      obtain ⟨g20, h⟩ := gd_s h
      refine run_aald' (j := (Int32.toNatClampNeg x2)) (ch_9_6 hn0) (by decide) (by decide) (t0 := 7) rfl (cl_9_6 hn0) g20 rfl (es_9_6 hn0 _) dX9_copyFrom_81 ?_
      refine run_aload_n 1 dX9_copyFrom_82 rfl rfl ?_
      refine run_getr fl_X9_31 hn1 (by decide) rfl (cs_9_6 hn1) dX9_copyFrom_83 ?_
      refine run_iload_n 2 dX9_copyFrom_86 rfl rfl ?_
      obtain ⟨g21, h⟩ := gd_s h
      refine run_aald' (j := (Int32.toNatClampNeg x2)) (ch_9_6 hn1) (by decide) (by decide) (t0 := 7) rfl (cl_9_6 hn1) g21 rfl (es_9_6 hn1 _) dX9_copyFrom_87 ?_
      obtain ⟨q22, h31, h⟩ := Option.bind_eq_some_iff.mp h
      refine run_callVv (As := [.ref (gA G (n1 + 9 + 14 * (Int32.toNatClampNeg x2)))]) (fun z => z = q22) mw_X8_copyFrom mi_X8_copyFrom ml_X9_88 (el_9_6 hn0 (inb_lt g20)) (by decide) rfl rfl rfl (RF.lt (HX9_copyFrom_X8_copyFrom_lt d)) (Nat.le_of_ble_eq_true rfl) dX9_copyFrom_88 (sX8_copyFrom G d (el_9_6 hn0 (inb_lt g20)) (el_9_6 hn1 (inb_lt g21)) h31) (fun z h8 => ?_) rfl
      rw [h8]
      clear h8
      refine run_aload_n 0 dX9_copyFrom_91 rfl rfl ?_
      refine run_getr fl_X9_37 hn0 (by decide) rfl (cs_9_7 hn0) dX9_copyFrom_92 ?_
      refine run_iload_n 2 dX9_copyFrom_95 rfl rfl ?_
      obtain ⟨g23, h⟩ := gd_s h
      refine run_aald' (j := (Int32.toNatClampNeg x2)) (ch_9_7 hn0) (by decide) (by decide) (t0 := 5) rfl (cl_9_7 hn0) g23 rfl (es_9_7 hn0 _) dX9_copyFrom_96 ?_
      refine run_aload_n 1 dX9_copyFrom_97 rfl rfl ?_
      refine run_getr fl_X9_37 hn1 (by decide) rfl (cs_9_7 hn1) dX9_copyFrom_98 ?_
      refine run_iload_n 2 dX9_copyFrom_101 rfl rfl ?_
      obtain ⟨g24, h⟩ := gd_s h
      refine run_aald' (j := (Int32.toNatClampNeg x2)) (ch_9_7 hn1) (by decide) (by decide) (t0 := 5) rfl (cl_9_7 hn1) g24 rfl (es_9_7 hn1 _) dX9_copyFrom_102 ?_
      obtain ⟨q25, h30, h⟩ := Option.bind_eq_some_iff.mp h
      refine run_callVv (As := [.ref (gA G (n1 + 14 + 14 * (Int32.toNatClampNeg x2)))]) (fun z => z = q25) mw_X4_copyFrom mi_X4_copyFrom ml_X9_91 (el_9_7 hn0 (inb_lt g23)) (by decide) rfl rfl rfl (RF.lt (HX9_copyFrom_X4_copyFrom_lt d)) (Nat.le_of_ble_eq_true rfl) dX9_copyFrom_103 (sX4_copyFrom G d (el_9_7 hn0 (inb_lt g23)) (el_9_7 hn1 (inb_lt g24)) h30) (fun z h8 => ?_) rfl
      rw [h8]
      clear h8
      refine run_aload_n 0 dX9_copyFrom_106 rfl rfl ?_
      refine run_getr fl_X9_43 hn0 (by decide) rfl (cs_9_8 hn0) dX9_copyFrom_107 ?_
      refine run_iload_n 2 dX9_copyFrom_110 rfl rfl ?_
      obtain ⟨g26, h⟩ := gd_s h
      refine run_aald' (j := (Int32.toNatClampNeg x2)) (ch_9_8 hn0) (by decide) (by decide) (t0 := 3) rfl (cl_9_8 hn0) g26 rfl (es_9_8 hn0 _) dX9_copyFrom_111 ?_
      refine run_aload_n 1 dX9_copyFrom_112 rfl rfl ?_
      refine run_getr fl_X9_43 hn1 (by decide) rfl (cs_9_8 hn1) dX9_copyFrom_113 ?_
      refine run_iload_n 2 dX9_copyFrom_116 rfl rfl ?_
      obtain ⟨g27, h⟩ := gd_s h
      refine run_aald' (j := (Int32.toNatClampNeg x2)) (ch_9_8 hn1) (by decide) (by decide) (t0 := 3) rfl (cl_9_8 hn1) g27 rfl (es_9_8 hn1 _) dX9_copyFrom_117 ?_
      obtain ⟨q28, h29, h⟩ := Option.bind_eq_some_iff.mp h
      refine run_callVv (As := [.ref (gA G (n1 + 18 + 14 * (Int32.toNatClampNeg x2)))]) (fun z => z = q28) mw_X1_copyFrom mi_X1_copyFrom ml_X9_94 (el_9_8 hn0 (inb_lt g26)) (by decide) rfl rfl rfl (RF.lt (HX9_copyFrom_X1_copyFrom_lt d)) (Nat.le_of_ble_eq_true rfl) dX9_copyFrom_118 (sX1_copyFrom G d (el_9_8 hn0 (inb_lt g26)) (el_9_8 hn1 (inb_lt g27)) h29) (fun z h8 => ?_) rfl
      rw [h8]
      clear h8
      refine run_iinc 2 [(0, .ref (gA G n0)), (1, .ref (gA G n1)), (2, .int (x2 + 1))] [1, 2, 0] dX9_copyFrom_121 rfl rfl (by decide) rfl ?_
      refine run_goto 56 dX9_copyFrom_124 (by decide) ?_
      exact ih _ _ _ h kx
def fX9_copyFrom (n0 : Nat) (n1 : Nat) (σ : Mem) : Option Mem := gd (bytB σ (n1 + 1) 0 600) ((some (st2 (st2 (cp2 σ (n1 + 1) (n0 + 1) 0 0 600) n0 1 ((cp2 σ (n1 + 1) (n0 + 1) 0 0 600) n1 1)) n0 2 ((st2 (cp2 σ (n1 + 1) (n0 + 1) 0 0 600) n0 1 ((cp2 σ (n1 + 1) (n0 + 1) 0 0 600) n1 1)) n1 2))).bind fun s2 => (lX9_copyFrom_56 n0 n1 FU 0 (cp2 (st2 s2 n0 3 (s2 n1 3)) (n1 + 2) (n0 + 2) 0 0 4)).bind fun q33 => some q33)
set_option maxRecDepth 20000 in
theorem sX9_copyFrom (G : GT) (d : Nat) {n0 : Nat} {n1 : Nat} (hn0 : Is n0 9) (hn1 : Is n1 9) {σ : Mem} {o : Mem} (h : fX9_copyFrom n0 n1 σ = some o) : Spec G yX9_copyFrom cX9_copyFrom 3 none (d + HX9_copyFrom) [.ref (gA G n0), .ref (gA G n1)] σ (kV fun z => z = o) := by
  refine spec_run (by decide) (Nat.le_of_ble_eq_true rfl) ?_
  unfold fX9_copyFrom at h
  show Run G RX9 cX9_copyFrom 3 none _ 0 [(0, .ref (gA G n0)), (1, .ref (gA G n1))] [] σ
  refine run_aload_n 1 dX9_copyFrom_0 rfl rfl ?_
  refine run_getr fl_X9_9 hn1 (by decide) rfl (cs_9_0 hn1) dX9_copyFrom_1 ?_
  refine run_iconst (v := 0) dX9_copyFrom_4 rfl ?_
  refine run_aload_n 0 dX9_copyFrom_5 rfl rfl ?_
  refine run_getr fl_X9_9 hn0 (by decide) rfl (cs_9_0 hn0) dX9_copyFrom_6 ?_
  refine run_iconst (v := 0) dX9_copyFrom_9 rfl ?_
  refine run_sipush (v := 600) dX9_copyFrom_10 rfl ?_
  obtain ⟨g1, h⟩ := gd_s h
  refine run_copyb' 0 0 600 rfl rfl rfl mc_X9_75 (ch_9_0 hn1) (ch_9_0 hn0) (cl_9_0 hn1) (cl_9_0 hn0) (by decide) (by decide) (by decide) (by decide) (by decide) (byt_fit g1) (RF.lt (HX9_copyFrom_0 d)) (Nat.le_of_ble_eq_true rfl) dX9_copyFrom_13 ?_
  refine run_aload_n 0 dX9_copyFrom_16 rfl rfl ?_
  refine run_aload_n 1 dX9_copyFrom_17 rfl rfl ?_
  refine run_geti fl_X9_51 hn1 (by decide) rfl dX9_copyFrom_18 ?_
  refine run_puti fp_X9_51 hn0 (by decide) rfl dX9_copyFrom_21 ?_
  refine run_aload_n 0 dX9_copyFrom_24 rfl rfl ?_
  refine run_aload_n 1 dX9_copyFrom_25 rfl rfl ?_
  refine run_geti fl_X9_81 hn1 (by decide) rfl dX9_copyFrom_26 ?_
  refine run_puti fp_X9_81 hn0 (by decide) rfl dX9_copyFrom_29 ?_
  rw [Option.bind_some] at h
  refine run_mem (fun s2 es2 => ?_)
  rw [← es2] at h
  refine run_aload_n 0 dX9_copyFrom_32 rfl rfl ?_
  refine run_aload_n 1 dX9_copyFrom_33 rfl rfl ?_
  refine run_geti fl_X9_15 hn1 (by decide) rfl dX9_copyFrom_34 ?_
  refine run_puti fp_X9_15 hn0 (by decide) rfl dX9_copyFrom_37 ?_
  refine run_aload_n 1 dX9_copyFrom_40 rfl rfl ?_
  refine run_getr fl_X9_19 hn1 (by decide) rfl (cs_9_4 hn1) dX9_copyFrom_41 ?_
  refine run_iconst (v := 0) dX9_copyFrom_44 rfl ?_
  refine run_aload_n 0 dX9_copyFrom_45 rfl rfl ?_
  refine run_getr fl_X9_19 hn0 (by decide) rfl (cs_9_4 hn0) dX9_copyFrom_46 ?_
  refine run_iconst (v := 0) dX9_copyFrom_49 rfl ?_
  refine run_iconst (v := 4) dX9_copyFrom_50 rfl ?_
  refine run_copyi' 0 0 4 rfl rfl rfl mc_X9_75 (ch_9_4 hn1) (ch_9_4 hn0) (cl_9_4 hn1) (cl_9_4 hn0) (by decide) (by decide) (by decide) (by decide) (by decide) (RF.lt (HX9_copyFrom_0 d)) (Nat.le_of_ble_eq_true rfl) dX9_copyFrom_51 ?_
  refine run_iconst (v := 0) dX9_copyFrom_54 rfl ?_
  refine run_istore_n [(0, .ref (gA G n0)), (1, .ref (gA G n1)), (2, .int 0)] [1, 2, 0] dX9_copyFrom_55 rfl (by decide) rfl ?_
  obtain ⟨q33, h34, h⟩ := Option.bind_eq_some_iff.mp h
  refine lpX9_copyFrom_56 G d _ _ hn0 hn1 _ _ _ _ h34 ?_
  exact run_vret dX9_copyFrom_127 ⟨rfl, Option.some.inj h⟩
def HX10_rest : Nat := 2
theorem HX10_rest_X10_take_lt (d : Nat) : d + HX10_take < d + HX10_rest := Nat.add_lt_add_left (by decide) d
theorem HX10_rest_0 (d : Nat) : 0 < d + HX10_rest := Nat.lt_of_lt_of_le (by decide) (Nat.le_add_left _ d)
def fX10_rest (n0 : Nat) (σ : Mem) : Option Mem := (fX10_take n0 (-1) 0 σ).bind fun q1 => some q1
set_option maxRecDepth 20000 in
theorem sX10_rest (G : GT) (d : Nat) {n0 : Nat} (hn0 : Is n0 10) {σ : Mem} {o : Mem} (h : fX10_rest n0 σ = some o) : Spec G yX10_rest cX10_rest 1 none (d + HX10_rest) [.ref (gA G n0)] σ (kV fun z => z = o) := by
  refine spec_run (by decide) (Nat.le_of_ble_eq_true rfl) ?_
  unfold fX10_rest at h
  show Run G RX10 cX10_rest 1 none _ 0 [(0, .ref (gA G n0))] [] σ
  refine run_aload_n 0 dX10_rest_0 rfl rfl ?_
  refine run_iconst (v := -1) dX10_rest_1 rfl ?_
  refine run_iconst (v := 0) dX10_rest_2 rfl ?_
  obtain ⟨q1, h2, h⟩ := Option.bind_eq_some_iff.mp h
  refine run_callVv (As := [.int (-1), .int 0]) (fun z => z = q1) mw_X10_take mi_X10_take ml_X10_31 hn0 (by decide) rfl rfl rfl (RF.lt (HX10_rest_X10_take_lt d)) (Nat.le_of_ble_eq_true rfl) dX10_rest_3 (sX10_take G d hn0 h2) (fun z h8 => ?_) rfl
  rw [h8]
  clear h8
  exact run_vret dX10_rest_6 ⟨rfl, Option.some.inj h⟩
def HX11_store : Nat := 2
theorem HX11_store_X11_inTen_lt (d : Nat) : d + HX11_inTen < d + HX11_store := Nat.add_lt_add_left (by decide) d
theorem HX11_store_X11_keysThere_lt (d : Nat) : d + HX11_keysThere < d + HX11_store := Nat.add_lt_add_left (by decide) d
theorem HX11_store_X9_has_lt (d : Nat) : d + HX9_has < d + HX11_store := Nat.add_lt_add_left (by decide) d
theorem HX11_store_0 (d : Nat) : 0 < d + HX11_store := Nat.lt_of_lt_of_le (by decide) (Nat.le_add_left _ d)
def fX11_store (x1 : Int32) (x2 : Int32) (σ : Mem) : Option (Int32 × Mem) := (fX9_has 1 0 x1 σ).bind fun q1 => if q1.1 = true then (gd (inb x1 2) (if x2 = 0 then (some ((q1.2 (8 + 14 * (Int32.toNatClampNeg x1)) 0), q1.2)) else (if x2 = 1 then (some ((q1.2 (8 + 14 * (Int32.toNatClampNeg x1)) 1), q1.2)) else (if x2 = 2 then ((fX11_keysThere ((8 + 14 * (Int32.toNatClampNeg x1)) + 1) q1.2).bind fun q11 => some (q11.1, q11.2)) else ((fX11_inTen x2 10 q1.2).bind fun q7 => if q7.1 = true then (gd (inb (x2 - 10) 10) (some ((q7.2 ((8 + 14 * (Int32.toNatClampNeg x1)) + 1) (Int32.toNatClampNeg (x2 - 10))), q7.2))) else (some ((-2), q7.2))))))) else (some ((-2), q1.2))
set_option maxRecDepth 20000 in
theorem sX11_store (G : GT) (d : Nat) {x1 : Int32} {x2 : Int32}  {σ : Mem} {o : (Int32 × Mem)} (h : fX11_store x1 x2 σ = some o) : Spec G yX11_store cX11_store 4 (some .int) (d + HX11_store) [.ref (gA G 0), .int x1, .int x2] σ (kI fun x z => (x, z) = o) := by
  refine spec_run (by decide) (Nat.le_of_ble_eq_true rfl) ?_
  unfold fX11_store at h
  show Run G RX11 cX11_store 4 (some .int) _ 0 [(0, .ref (gA G 0)), (1, .int x1), (2, .int x2)] [] σ
  refine run_aload_n 0 dX11_store_0 rfl rfl ?_
  refine run_getr fl_X11_10 is_0 (by decide) rfl ce_0_0 dX11_store_1 ?_
  refine run_iconst (v := 0) dX11_store_4 rfl ?_
  refine run_iload_n 1 dX11_store_5 rfl rfl ?_
  obtain ⟨q1, h13, h⟩ := Option.bind_eq_some_iff.mp h
  refine run_callVb (As := [.int 0, .int x1]) (fun r z => (r, z) = q1) mw_X9_has mi_X9_has ml_X11_109 is_1 (by decide) rfl rfl rfl (RF.lt (HX11_store_X9_has_lt d)) (Nat.le_of_ble_eq_true rfl) dX11_store_6 (sX9_has G d is_1 h13) (fun r z h8 => ?_) rfl
  rw [show r = q1.1 from congrArg Prod.fst h8, show z = q1.2 from congrArg Prod.snd h8]
  clear h8
  refine run_ifb_ne 15 dX11_store_9 (by decide) (fun c2 => ?_) (fun c2 => ?_)
  · rw [if_pos c2] at h
    refine run_aload_n 0 dX11_store_15 rfl rfl ?_
    refine run_getr fl_X11_10 is_0 (by decide) rfl ce_0_0 dX11_store_16 ?_
    refine run_getr fl_X11_39 is_1 (by decide) rfl ce_1_5 dX11_store_19 ?_
    refine run_iload_n 1 dX11_store_22 rfl rfl ?_
    obtain ⟨g3, h⟩ := gd_s h
    refine run_aald' (j := (Int32.toNatClampNeg x1)) is_4 (by decide) (by decide) (t0 := 6) rfl ln_4 g3 rfl (es_4 _) dX11_store_23 ?_
    refine run_astore_n [(2, .int x2), (3, .ref (gA G (8 + 14 * (Int32.toNatClampNeg x1))))] [3, 0] dX11_store_24 rfl (by decide) rfl ?_
    refine run_iload_n 0 dX11_store_25 rfl rfl ?_
    refine run_if_ne 34 dX11_store_26 (by decide) (fun c4 => ?_) (fun c4 => ?_)
    · rw [if_neg c4] at h
      refine run_iload_n 0 dX11_store_34 rfl rfl ?_
      refine run_iconst (v := 1) dX11_store_35 rfl ?_
      refine run_icmp_ne 44 dX11_store_36 (by decide) (fun c5 => ?_) (fun c5 => ?_)
      · rw [if_neg c5] at h
        refine run_iload_n 0 dX11_store_44 rfl rfl ?_
        refine run_iconst (v := 2) dX11_store_45 rfl ?_
        refine run_icmp_ne 57 dX11_store_46 (by decide) (fun c6 => ?_) (fun c6 => ?_)
        · rw [if_neg c6] at h
          refine run_iload_n 0 dX11_store_57 rfl rfl ?_
          refine run_bipush (v := 10) dX11_store_58 rfl ?_
          obtain ⟨q7, h10, h⟩ := Option.bind_eq_some_iff.mp h
          refine run_callSb (As := [.int x2, .int 10]) (fun r z => (r, z) = q7) mw_X11_inTen ms_X11_inTen ml_X11_128 rfl (RF.lt (HX11_store_X11_inTen_lt d)) (Nat.le_of_ble_eq_true rfl) dX11_store_60 (sX11_inTen G d  h10) (fun r z h8 => ?_) rfl
          rw [show r = q7.1 from congrArg Prod.fst h8, show z = q7.2 from congrArg Prod.snd h8]
          clear h8
          refine run_ifb_eq 78 dX11_store_63 (by decide) (fun c8 => ?_) (fun c8 => ?_)
          · rw [if_neg c8] at h
            refine run_bipush (v := -2) dX11_store_78 rfl ?_
            exact run_iret dX11_store_80 ⟨_, rfl, Option.some.inj h⟩
          · rw [if_pos c8] at h
            refine run_aload_n 1 dX11_store_66 rfl rfl ?_
            refine run_getr fl_X11_121 (el_4 (inb_lt g3)) (by decide) rfl (cs_7_2 (el_4 (inb_lt g3))) dX11_store_67 ?_
            refine run_iload_n 0 dX11_store_70 rfl rfl ?_
            refine run_bipush (v := 10) dX11_store_71 rfl ?_
            refine run_isub dX11_store_73 ?_
            obtain ⟨g9, h⟩ := gd_s h
            refine run_iald' (ch_7_2 (el_4 (inb_lt g3))) (cl_7_2 (el_4 (inb_lt g3))) g9 rfl dX11_store_74 ?_
            refine run_goto 80 dX11_store_75 (by decide) ?_
            exact run_iret dX11_store_80 ⟨_, rfl, Option.some.inj h⟩
        · rw [if_pos c6] at h
          refine run_aload_n 1 dX11_store_49 rfl rfl ?_
          refine run_getr fl_X11_121 (el_4 (inb_lt g3)) (by decide) rfl (cs_7_2 (el_4 (inb_lt g3))) dX11_store_50 ?_
          obtain ⟨q11, h12, h⟩ := Option.bind_eq_some_iff.mp h
          refine run_callSi (As := [.ref (gA G ((8 + 14 * (Int32.toNatClampNeg x1)) + 1))]) (fun r z => (r, z) = q11) mw_X11_keysThere ms_X11_keysThere ml_X11_124 rfl (RF.lt (HX11_store_X11_keysThere_lt d)) (Nat.le_of_ble_eq_true rfl) dX11_store_53 (sX11_keysThere G d (ch_7_2 (el_4 (inb_lt g3))) (cl_7_2 (el_4 (inb_lt g3))) h12) (fun r z h8 => ?_) rfl
          rw [show r = q11.1 from congrArg Prod.fst h8, show z = q11.2 from congrArg Prod.snd h8]
          clear h8
          exact run_iret dX11_store_56 ⟨_, rfl, Option.some.inj h⟩
      · rw [if_pos c5] at h
        refine run_aload_n 1 dX11_store_39 rfl rfl ?_
        refine run_geti fl_X11_118 (el_4 (inb_lt g3)) (by decide) rfl dX11_store_40 ?_
        exact run_iret dX11_store_43 ⟨_, rfl, Option.some.inj h⟩
    · rw [if_pos c4] at h
      refine run_aload_n 1 dX11_store_29 rfl rfl ?_
      refine run_geti fl_X11_113 (el_4 (inb_lt g3)) (by decide) rfl dX11_store_30 ?_
      exact run_iret dX11_store_33 ⟨_, rfl, Option.some.inj h⟩
  · rw [if_neg c2] at h
    refine run_bipush (v := -2) dX11_store_12 rfl ?_
    exact run_iret dX11_store_14 ⟨_, rfl, Option.some.inj h⟩
def HX11_alone : Nat := 3
theorem HX11_alone_X11_copyKeys_lt (d : Nat) : d + HX11_copyKeys < d + HX11_alone := Nat.add_lt_add_left (by decide) d
theorem HX11_alone_X11_inTen_lt (d : Nat) : d + HX11_inTen < d + HX11_alone := Nat.add_lt_add_left (by decide) d
theorem HX11_alone_X8_holds_lt (d : Nat) : d + HX8_holds < d + HX11_alone := Nat.add_lt_add_left (by decide) d
theorem HX11_alone_X8_runAlone_lt (d : Nat) : d + HX8_runAlone < d + HX11_alone := Nat.add_lt_add_left (by decide) d
theorem HX11_alone_X9_has_lt (d : Nat) : d + HX9_has < d + HX11_alone := Nat.add_lt_add_left (by decide) d
theorem HX11_alone_0 (d : Nat) : 0 < d + HX11_alone := Nat.lt_of_lt_of_le (by decide) (Nat.le_add_left _ d)
def fX11_alone (x1 : Int32) (x2 : Int32) (x3 : Int32) (x4 : Int32) (σ : Mem) : Option (Int32 × Mem) := (fX9_has 1 0 x1 σ).bind fun q1 => if q1.1 = true then ((fX9_has 1 1 x2 q1.2).bind fun q3 => if q3.1 = true then (gd (inb x2 2) ((fX8_holds (10 + 14 * (Int32.toNatClampNeg x2)) x3 q3.2).bind fun q6 => if q6.1 = true then (gd (inb x1 2) ((fX11_copyKeys ((8 + 14 * (Int32.toNatClampNeg x1)) + 1) 267 q6.2).bind fun q9 => gd (inb x2 2) ((fX8_runAlone (10 + 14 * (Int32.toNatClampNeg x2)) x3 267 q9).bind fun q11 => if x4 = 0 then (some (q11.1, q11.2)) else ((fX11_inTen x4 10 q11.2).bind fun q13 => if q13.1 = true then (gd (inb (x4 - 10) 10) (some ((q13.2 267 (Int32.toNatClampNeg (x4 - 10))), q13.2))) else (some ((-2), q13.2)))))) else (some ((-2), q6.2)))) else (some ((-2), q3.2))) else (some ((-2), q1.2))
set_option maxRecDepth 20000 in
theorem sX11_alone (G : GT) (d : Nat) {x1 : Int32} {x2 : Int32} {x3 : Int32} {x4 : Int32}  {σ : Mem} {o : (Int32 × Mem)} (h : fX11_alone x1 x2 x3 x4 σ = some o) : Spec G yX11_alone cX11_alone 6 (some .int) (d + HX11_alone) [.ref (gA G 0), .int x1, .int x2, .int x3, .int x4] σ (kI fun x z => (x, z) = o) := by
  refine spec_run (by decide) (Nat.le_of_ble_eq_true rfl) ?_
  unfold fX11_alone at h
  show Run G RX11 cX11_alone 6 (some .int) _ 0 [(0, .ref (gA G 0)), (1, .int x1), (2, .int x2), (3, .int x3), (4, .int x4)] [] σ
  refine run_aload_n 0 dX11_alone_0 rfl rfl ?_
  refine run_getr fl_X11_10 is_0 (by decide) rfl ce_0_0 dX11_alone_1 ?_
  refine run_iconst (v := 0) dX11_alone_4 rfl ?_
  refine run_iload_n 1 dX11_alone_5 rfl rfl ?_
  obtain ⟨q1, h21, h⟩ := Option.bind_eq_some_iff.mp h
  refine run_callVb (As := [.int 0, .int x1]) (fun r z => (r, z) = q1) mw_X9_has mi_X9_has ml_X11_109 is_1 (by decide) rfl rfl rfl (RF.lt (HX11_alone_X9_has_lt d)) (Nat.le_of_ble_eq_true rfl) dX11_alone_6 (sX9_has G d is_1 h21) (fun r z h8 => ?_) rfl
  rw [show r = q1.1 from congrArg Prod.fst h8, show z = q1.2 from congrArg Prod.snd h8]
  clear h8
  refine run_ifb_eq 40 dX11_alone_9 (by decide) (fun c2 => ?_) (fun c2 => ?_)
  · rw [if_neg c2] at h
    refine run_bipush (v := -2) dX11_alone_40 rfl ?_
    exact run_iret dX11_alone_42 ⟨_, rfl, Option.some.inj h⟩
  · rw [if_pos c2] at h
    refine run_aload_n 0 dX11_alone_12 rfl rfl ?_
    refine run_getr fl_X11_10 is_0 (by decide) rfl ce_0_0 dX11_alone_13 ?_
    refine run_iconst (v := 1) dX11_alone_16 rfl ?_
    refine run_iload_n 2 dX11_alone_17 rfl rfl ?_
    obtain ⟨q3, h20, h⟩ := Option.bind_eq_some_iff.mp h
    refine run_callVb (As := [.int 1, .int x2]) (fun r z => (r, z) = q3) mw_X9_has mi_X9_has ml_X11_109 is_1 (by decide) rfl rfl rfl (RF.lt (HX11_alone_X9_has_lt d)) (Nat.le_of_ble_eq_true rfl) dX11_alone_18 (sX9_has G d is_1 h20) (fun r z h8 => ?_) rfl
    rw [show r = q3.1 from congrArg Prod.fst h8, show z = q3.2 from congrArg Prod.snd h8]
    clear h8
    refine run_ifb_eq 40 dX11_alone_21 (by decide) (fun c4 => ?_) (fun c4 => ?_)
    · rw [if_neg c4] at h
      refine run_bipush (v := -2) dX11_alone_40 rfl ?_
      exact run_iret dX11_alone_42 ⟨_, rfl, Option.some.inj h⟩
    · rw [if_pos c4] at h
      refine run_aload_n 0 dX11_alone_24 rfl rfl ?_
      refine run_getr fl_X11_10 is_0 (by decide) rfl ce_0_0 dX11_alone_25 ?_
      refine run_getr fl_X11_43 is_1 (by decide) rfl ce_1_6 dX11_alone_28 ?_
      refine run_iload_n 2 dX11_alone_31 rfl rfl ?_
      obtain ⟨g5, h⟩ := gd_s h
      refine run_aald' (j := (Int32.toNatClampNeg x2)) is_5 (by decide) (by decide) (t0 := 7) rfl ln_5 g5 rfl (es_5 _) dX11_alone_32 ?_
      refine run_iload_n 3 dX11_alone_33 rfl rfl ?_
      obtain ⟨q6, h19, h⟩ := Option.bind_eq_some_iff.mp h
      refine run_callVb (As := [.int x3]) (fun r z => (r, z) = q6) mw_X8_holds mi_X8_holds ml_X11_136 (el_5 (inb_lt g5)) (by decide) rfl rfl rfl (RF.lt (HX11_alone_X8_holds_lt d)) (Nat.le_of_ble_eq_true rfl) dX11_alone_34 (sX8_holds G d (el_5 (inb_lt g5)) h19) (fun r z h8 => ?_) rfl
      rw [show r = q6.1 from congrArg Prod.fst h8, show z = q6.2 from congrArg Prod.snd h8]
      clear h8
      refine run_ifb_ne 43 dX11_alone_37 (by decide) (fun c7 => ?_) (fun c7 => ?_)
      · rw [if_pos c7] at h
        refine run_aload_n 0 dX11_alone_43 rfl rfl ?_
        refine run_getr fl_X11_10 is_0 (by decide) rfl ce_0_0 dX11_alone_44 ?_
        refine run_getr fl_X11_39 is_1 (by decide) rfl ce_1_5 dX11_alone_47 ?_
        refine run_iload_n 1 dX11_alone_50 rfl rfl ?_
        obtain ⟨g8, h⟩ := gd_s h
        refine run_aald' (j := (Int32.toNatClampNeg x1)) is_4 (by decide) (by decide) (t0 := 6) rfl ln_4 g8 rfl (es_4 _) dX11_alone_51 ?_
        refine run_getr fl_X11_121 (el_4 (inb_lt g8)) (by decide) rfl (cs_7_2 (el_4 (inb_lt g8))) dX11_alone_52 ?_
        refine run_aload_n 0 dX11_alone_55 rfl rfl ?_
        refine run_getr fl_X11_72 is_0 (by decide) rfl ce_0_8 dX11_alone_56 ?_
        obtain ⟨q9, h18, h⟩ := Option.bind_eq_some_iff.mp h
        refine run_callSv (As := [.ref (gA G ((8 + 14 * (Int32.toNatClampNeg x1)) + 1)), .ref (gA G 267)]) (fun z => z = q9) mw_X11_copyKeys ms_X11_copyKeys ml_X11_266 rfl (RF.lt (HX11_alone_X11_copyKeys_lt d)) (Nat.le_of_ble_eq_true rfl) dX11_alone_59 (sX11_copyKeys G d (ch_7_2 (el_4 (inb_lt g8))) (cl_7_2 (el_4 (inb_lt g8))) is_267 ln_267 h18) (fun z h8 => ?_) rfl
        rw [h8]
        clear h8
        refine run_aload_n 0 dX11_alone_62 rfl rfl ?_
        refine run_getr fl_X11_10 is_0 (by decide) rfl ce_0_0 dX11_alone_63 ?_
        refine run_getr fl_X11_43 is_1 (by decide) rfl ce_1_6 dX11_alone_66 ?_
        refine run_iload_n 2 dX11_alone_69 rfl rfl ?_
        obtain ⟨g10, h⟩ := gd_s h
        refine run_aald' (j := (Int32.toNatClampNeg x2)) is_5 (by decide) (by decide) (t0 := 7) rfl ln_5 g10 rfl (es_5 _) dX11_alone_70 ?_
        refine run_iload_n 3 dX11_alone_71 rfl rfl ?_
        refine run_aload_n 0 dX11_alone_72 rfl rfl ?_
        refine run_getr fl_X11_72 is_0 (by decide) rfl ce_0_8 dX11_alone_73 ?_
        obtain ⟨q11, h17, h⟩ := Option.bind_eq_some_iff.mp h
        refine run_callVi (As := [.int x3, .ref (gA G 267)]) (fun r z => (r, z) = q11) mw_X8_runAlone mi_X8_runAlone ml_X11_270 (el_5 (inb_lt g10)) (by decide) rfl rfl rfl (RF.lt (HX11_alone_X8_runAlone_lt d)) (Nat.le_of_ble_eq_true rfl) dX11_alone_76 (sX8_runAlone G d (el_5 (inb_lt g10)) is_267 ln_267 h17) (fun r z h8 => ?_) rfl
        rw [show r = q11.1 from congrArg Prod.fst h8, show z = q11.2 from congrArg Prod.snd h8]
        clear h8
        refine run_istore [(0, .ref (gA G 0)), (4, .int x4), (5, .int q11.1)] [1, 5, 0] dX11_alone_79 (by decide) rfl ?_
        refine run_iload 1 dX11_alone_81 rfl ?_
        refine run_if_ne 89 dX11_alone_83 (by decide) (fun c12 => ?_) (fun c12 => ?_)
        · rw [if_neg c12] at h
          refine run_iload 1 dX11_alone_89 rfl ?_
          refine run_bipush (v := 10) dX11_alone_91 rfl ?_
          obtain ⟨q13, h16, h⟩ := Option.bind_eq_some_iff.mp h
          refine run_callSb (As := [.int x4, .int 10]) (fun r z => (r, z) = q13) mw_X11_inTen ms_X11_inTen ml_X11_128 rfl (RF.lt (HX11_alone_X11_inTen_lt d)) (Nat.le_of_ble_eq_true rfl) dX11_alone_93 (sX11_inTen G d  h16) (fun r z h8 => ?_) rfl
          rw [show r = q13.1 from congrArg Prod.fst h8, show z = q13.2 from congrArg Prod.snd h8]
          clear h8
          refine run_ifb_eq 112 dX11_alone_96 (by decide) (fun c14 => ?_) (fun c14 => ?_)
          · rw [if_neg c14] at h
            refine run_bipush (v := -2) dX11_alone_112 rfl ?_
            exact run_iret dX11_alone_114 ⟨_, rfl, Option.some.inj h⟩
          · rw [if_pos c14] at h
            refine run_aload_n 0 dX11_alone_99 rfl rfl ?_
            refine run_getr fl_X11_72 is_0 (by decide) rfl ce_0_8 dX11_alone_100 ?_
            refine run_iload 1 dX11_alone_103 rfl ?_
            refine run_bipush (v := 10) dX11_alone_105 rfl ?_
            refine run_isub dX11_alone_107 ?_
            obtain ⟨g15, h⟩ := gd_s h
            refine run_iald' is_267 ln_267 g15 rfl dX11_alone_108 ?_
            refine run_goto 114 dX11_alone_109 (by decide) ?_
            exact run_iret dX11_alone_114 ⟨_, rfl, Option.some.inj h⟩
        · rw [if_pos c12] at h
          refine run_iload 2 dX11_alone_86 rfl ?_
          exact run_iret dX11_alone_88 ⟨_, rfl, Option.some.inj h⟩
      · rw [if_neg c7] at h
        refine run_bipush (v := -2) dX11_alone_40 rfl ?_
        exact run_iret dX11_alone_42 ⟨_, rfl, Option.some.inj h⟩
def HX11_image : Nat := 4
theorem HX11_image_X9_copyFrom_lt (d : Nat) : d + HX9_copyFrom < d + HX11_image := Nat.add_lt_add_left (by decide) d
theorem HX11_image_0 (d : Nat) : 0 < d + HX11_image := Nat.lt_of_lt_of_le (by decide) (Nat.le_add_left _ d)
def fX11_image (x1 : Int32) (σ : Mem) : Option (Bool × Mem) := if x1 < 0 then (some (false, σ)) else (if x1 < 3 then (gd (inb x1 3) ((fX9_copyFrom (37 + 35 * (Int32.toNatClampNeg x1)) 1 σ).bind fun q4 => gd (inb x1 3) (some (true, (st2 q4 142 (Int32.toNatClampNeg x1) 1))))) else (some (false, σ)))
set_option maxRecDepth 20000 in
theorem sX11_image (G : GT) (d : Nat) {x1 : Int32}  {σ : Mem} {o : (Bool × Mem)} (h : fX11_image x1 σ = some o) : Spec G yX11_image cX11_image 2 (some .boolean) (d + HX11_image) [.ref (gA G 0), .int x1] σ (kB fun x z => (x, z) = o) := by
  refine spec_run (by decide) (Nat.le_of_ble_eq_true rfl) ?_
  unfold fX11_image at h
  show Run G RX11 cX11_image 2 (some .boolean) _ 0 [(0, .ref (gA G 0)), (1, .int x1)] [] σ
  refine run_iload_n 1 dX11_image_0 rfl rfl ?_
  refine run_if_lt 9 dX11_image_1 (by decide) (fun c1 => ?_) (fun c1 => ?_)
  · rw [if_pos c1] at h
    refine run_iconst (v := 0) dX11_image_9 rfl ?_
    exact run_bret (b := false) dX11_image_10 ⟨_, rfl, Option.some.inj h⟩
  · rw [if_neg c1] at h
    refine run_iload_n 1 dX11_image_4 rfl rfl ?_
    refine run_iconst (v := 3) dX11_image_5 rfl ?_
    refine run_icmp_lt 11 dX11_image_6 (by decide) (fun c2 => ?_) (fun c2 => ?_)
    · rw [if_pos c2] at h
      refine run_aload_n 0 dX11_image_11 rfl rfl ?_
      refine run_getr fl_X11_16 is_0 (by decide) rfl ce_0_1 dX11_image_12 ?_
      refine run_iload_n 1 dX11_image_15 rfl rfl ?_
      obtain ⟨g3, h⟩ := gd_s h
      refine run_aald' (j := (Int32.toNatClampNeg x1)) is_36 (by decide) (by decide) (t0 := 8) rfl ln_36 g3 rfl (es_36 _) dX11_image_16 ?_
      refine run_aload_n 0 dX11_image_17 rfl rfl ?_
      refine run_getr fl_X11_10 is_0 (by decide) rfl ce_0_0 dX11_image_18 ?_
      obtain ⟨q4, h6, h⟩ := Option.bind_eq_some_iff.mp h
      refine run_callVv (As := [.ref (gA G 1)]) (fun z => z = q4) mw_X9_copyFrom mi_X9_copyFrom ml_X11_304 (el_36 (inb_lt g3)) (by decide) rfl rfl rfl (RF.lt (HX11_image_X9_copyFrom_lt d)) (Nat.le_of_ble_eq_true rfl) dX11_image_21 (sX9_copyFrom G d (el_36 (inb_lt g3)) is_1 h6) (fun z h8 => ?_) rfl
      rw [h8]
      clear h8
      refine run_aload_n 0 dX11_image_24 rfl rfl ?_
      refine run_getr fl_X11_20 is_0 (by decide) rfl ce_0_2 dX11_image_25 ?_
      refine run_iload_n 1 dX11_image_28 rfl rfl ?_
      refine run_iconst (v := 1) dX11_image_29 rfl ?_
      obtain ⟨g5, h⟩ := gd_s h
      refine run_zast' is_142 ln_142 g5 rfl (by decide) dX11_image_30 ?_
      refine run_iconst (v := 1) dX11_image_31 rfl ?_
      exact run_bret (b := true) dX11_image_32 ⟨_, rfl, Option.some.inj h⟩
    · rw [if_neg c2] at h
      refine run_iconst (v := 0) dX11_image_9 rfl ?_
      exact run_bret (b := false) dX11_image_10 ⟨_, rfl, Option.some.inj h⟩
def HX11_again : Nat := 4
theorem HX11_again_X9_copyFrom_lt (d : Nat) : d + HX9_copyFrom < d + HX11_again := Nat.add_lt_add_left (by decide) d
theorem HX11_again_0 (d : Nat) : 0 < d + HX11_again := Nat.lt_of_lt_of_le (by decide) (Nat.le_add_left _ d)
def fX11_again (x1 : Int32) (σ : Mem) : Option (Bool × Mem) := if x1 < 0 then (some (false, σ)) else (if 3 ≤ x1 then (some (false, σ)) else (gd (inb x1 3) (if (σ 142 (Int32.toNatClampNeg x1)) = 0 then (some (false, σ)) else (gd (inb x1 3) ((fX9_copyFrom 1 (37 + 35 * (Int32.toNatClampNeg x1)) σ).bind fun q6 => some (true, q6))))))
set_option maxRecDepth 20000 in
theorem sX11_again (G : GT) (d : Nat) {x1 : Int32}  {σ : Mem} {o : (Bool × Mem)} (h : fX11_again x1 σ = some o) : Spec G yX11_again cX11_again 2 (some .boolean) (d + HX11_again) [.ref (gA G 0), .int x1] σ (kB fun x z => (x, z) = o) := by
  refine spec_run (by decide) (Nat.le_of_ble_eq_true rfl) ?_
  unfold fX11_again at h
  show Run G RX11 cX11_again 2 (some .boolean) _ 0 [(0, .ref (gA G 0)), (1, .int x1)] [] σ
  refine run_iload_n 1 dX11_again_0 rfl rfl ?_
  refine run_if_lt 18 dX11_again_1 (by decide) (fun c1 => ?_) (fun c1 => ?_)
  · rw [if_pos c1] at h
    refine run_iconst (v := 0) dX11_again_18 rfl ?_
    exact run_bret (b := false) dX11_again_19 ⟨_, rfl, Option.some.inj h⟩
  · rw [if_neg c1] at h
    refine run_iload_n 1 dX11_again_4 rfl rfl ?_
    refine run_iconst (v := 3) dX11_again_5 rfl ?_
    refine run_icmp_ge 18 dX11_again_6 (by decide) (fun c2 => ?_) (fun c2 => ?_)
    · rw [if_pos c2] at h
      refine run_iconst (v := 0) dX11_again_18 rfl ?_
      exact run_bret (b := false) dX11_again_19 ⟨_, rfl, Option.some.inj h⟩
    · rw [if_neg c2] at h
      refine run_aload_n 0 dX11_again_9 rfl rfl ?_
      refine run_getr fl_X11_20 is_0 (by decide) rfl ce_0_2 dX11_again_10 ?_
      refine run_iload_n 1 dX11_again_13 rfl rfl ?_
      obtain ⟨g3, h⟩ := gd_s h
      refine run_zald' is_142 ln_142 g3 rfl dX11_again_14 ?_
      refine run_if_ne 20 dX11_again_15 (by decide) (fun c4 => ?_) (fun c4 => ?_)
      · rw [if_neg c4] at h
        refine run_aload_n 0 dX11_again_20 rfl rfl ?_
        refine run_getr fl_X11_10 is_0 (by decide) rfl ce_0_0 dX11_again_21 ?_
        refine run_aload_n 0 dX11_again_24 rfl rfl ?_
        refine run_getr fl_X11_16 is_0 (by decide) rfl ce_0_1 dX11_again_25 ?_
        refine run_iload_n 1 dX11_again_28 rfl rfl ?_
        obtain ⟨g5, h⟩ := gd_s h
        refine run_aald' (j := (Int32.toNatClampNeg x1)) is_36 (by decide) (by decide) (t0 := 8) rfl ln_36 g5 rfl (es_36 _) dX11_again_29 ?_
        obtain ⟨q6, h7, h⟩ := Option.bind_eq_some_iff.mp h
        refine run_callVv (As := [.ref (gA G (37 + 35 * (Int32.toNatClampNeg x1)))]) (fun z => z = q6) mw_X9_copyFrom mi_X9_copyFrom ml_X11_304 is_1 (by decide) rfl rfl rfl (RF.lt (HX11_again_X9_copyFrom_lt d)) (Nat.le_of_ble_eq_true rfl) dX11_again_30 (sX9_copyFrom G d is_1 (el_36 (inb_lt g5)) h7) (fun z h8 => ?_) rfl
        rw [h8]
        clear h8
        refine run_iconst (v := 1) dX11_again_33 rfl ?_
        exact run_bret (b := true) dX11_again_34 ⟨_, rfl, Option.some.inj h⟩
      · rw [if_pos c4] at h
        refine run_iconst (v := 0) dX11_again_18 rfl ?_
        exact run_bret (b := false) dX11_again_19 ⟨_, rfl, Option.some.inj h⟩
def HX11_runBoth : Nat := 3
theorem HX11_runBoth_X11_copyKeys_lt (d : Nat) : d + HX11_copyKeys < d + HX11_runBoth := Nat.add_lt_add_left (by decide) d
theorem HX11_runBoth_X8_runAlone_lt (d : Nat) : d + HX8_runAlone < d + HX11_runBoth := Nat.add_lt_add_left (by decide) d
theorem HX11_runBoth_0 (d : Nat) : 0 < d + HX11_runBoth := Nat.lt_of_lt_of_le (by decide) (Nat.le_add_left _ d)
def fX11_runBoth (n0 : Nat) (n1 : Nat) (x2 : Int32) (x3 : Int32) (n4 : Nat) (σ : Mem) : Option Mem := (fX11_copyKeys (n0 + 1) n4 σ).bind fun q1 => (fX8_runAlone n1 x2 n4 q1).bind fun q2 => (fX8_runAlone n1 x3 n4 q2.2).bind fun q3 => some q3.2
set_option maxRecDepth 20000 in
theorem sX11_runBoth (G : GT) (d : Nat) {n0 : Nat} {n1 : Nat} {x2 : Int32} {x3 : Int32} {n4 : Nat} (hn0 : Is n0 7) (hn1 : Is n1 8) (hn4 : Is n4 14) (hl4 : ln n4 = 10) {σ : Mem} {o : Mem} (h : fX11_runBoth n0 n1 x2 x3 n4 σ = some o) : Spec G yX11_runBoth cX11_runBoth 5 none (d + HX11_runBoth) [.ref (gA G n0), .ref (gA G n1), .int x2, .int x3, .ref (gA G n4)] σ (kV fun z => z = o) := by
  refine spec_run (by decide) (Nat.le_of_ble_eq_true rfl) ?_
  unfold fX11_runBoth at h
  show Run G RX11 cX11_runBoth 5 none _ 0 [(0, .ref (gA G n0)), (1, .ref (gA G n1)), (2, .int x2), (3, .int x3), (4, .ref (gA G n4))] [] σ
  refine run_aload_n 0 dX11_runBoth_0 rfl rfl ?_
  refine run_getr fl_X11_121 hn0 (by decide) rfl (cs_7_2 hn0) dX11_runBoth_1 ?_
  refine run_aload 4 dX11_runBoth_4 rfl ?_
  obtain ⟨q1, h6, h⟩ := Option.bind_eq_some_iff.mp h
  refine run_callSv (As := [.ref (gA G (n0 + 1)), .ref (gA G n4)]) (fun z => z = q1) mw_X11_copyKeys ms_X11_copyKeys ml_X11_266 rfl (RF.lt (HX11_runBoth_X11_copyKeys_lt d)) (Nat.le_of_ble_eq_true rfl) dX11_runBoth_6 (sX11_copyKeys G d (ch_7_2 hn0) (cl_7_2 hn0) hn4 hl4 h6) (fun z h8 => ?_) rfl
  rw [h8]
  clear h8
  refine run_aload_n 1 dX11_runBoth_9 rfl rfl ?_
  refine run_iload_n 2 dX11_runBoth_10 rfl rfl ?_
  refine run_aload 4 dX11_runBoth_11 rfl ?_
  obtain ⟨q2, h5, h⟩ := Option.bind_eq_some_iff.mp h
  refine run_callVi (As := [.int x2, .ref (gA G n4)]) (fun r z => (r, z) = q2) mw_X8_runAlone mi_X8_runAlone ml_X11_270 hn1 (by decide) rfl rfl rfl (RF.lt (HX11_runBoth_X8_runAlone_lt d)) (Nat.le_of_ble_eq_true rfl) dX11_runBoth_13 (sX8_runAlone G d hn1 hn4 hl4 h5) (fun r z h8 => ?_) rfl
  rw [show r = q2.1 from congrArg Prod.fst h8, show z = q2.2 from congrArg Prod.snd h8]
  clear h8
  refine run_pop dX11_runBoth_16 rfl ?_
  refine run_aload_n 1 dX11_runBoth_17 rfl rfl ?_
  refine run_iload_n 3 dX11_runBoth_18 rfl rfl ?_
  refine run_aload 4 dX11_runBoth_19 rfl ?_
  obtain ⟨q3, h4, h⟩ := Option.bind_eq_some_iff.mp h
  refine run_callVi (As := [.int x3, .ref (gA G n4)]) (fun r z => (r, z) = q3) mw_X8_runAlone mi_X8_runAlone ml_X11_270 hn1 (by decide) rfl rfl rfl (RF.lt (HX11_runBoth_X8_runAlone_lt d)) (Nat.le_of_ble_eq_true rfl) dX11_runBoth_21 (sX8_runAlone G d hn1 hn4 hl4 h4) (fun r z h8 => ?_) rfl
  rw [show r = q3.1 from congrArg Prod.fst h8, show z = q3.2 from congrArg Prod.snd h8]
  clear h8
  refine run_pop dX11_runBoth_24 rfl ?_
  exact run_vret dX11_runBoth_25 ⟨rfl, Option.some.inj h⟩
def HX12_feed : Nat := 2
theorem HX12_feed_X12_four_lt (d : Nat) : d + HX12_four < d + HX12_feed := Nat.add_lt_add_left (by decide) d
theorem HX12_feed_0 (d : Nat) : 0 < d + HX12_feed := Nat.lt_of_lt_of_le (by decide) (Nat.le_add_left _ d)
def fX12_feed (x1 : Int32) (x2 : Int32) (x3 : Int32) (x4 : Int32) (x5 : Int32) (σ : Mem) : Option (Int32 × Mem) := if (((st2 σ 269 0 0) 271 0) + 20) ≤ 600 then ((fX12_four x1 (st2 σ 269 0 0)).bind fun q2 => (fX12_four x2 q2).bind fun q3 => (fX12_four x3 q3).bind fun q4 => (fX12_four x4 q4).bind fun q5 => (fX12_four x5 q5).bind fun q6 => some ((q6 271 0), q6)) else (some ((-1), (st2 σ 269 0 0)))
set_option maxRecDepth 20000 in
theorem sX12_feed (G : GT) (d : Nat) {x1 : Int32} {x2 : Int32} {x3 : Int32} {x4 : Int32} {x5 : Int32}  {σ : Mem} {o : (Int32 × Mem)} (h : fX12_feed x1 x2 x3 x4 x5 σ = some o) : Spec G yX12_feed cX12_feed 6 (some .int) (d + HX12_feed) [.ref (gA G 269), .int x1, .int x2, .int x3, .int x4, .int x5] σ (kI fun x z => (x, z) = o) := by
  refine spec_run (by decide) (Nat.le_of_ble_eq_true rfl) ?_
  unfold fX12_feed at h
  show Run G RX12 cX12_feed 6 (some .int) _ 0 [(0, .ref (gA G 269)), (1, .int x1), (2, .int x2), (3, .int x3), (4, .int x4), (5, .int x5)] [] σ
  refine run_aload_n 0 dX12_feed_0 rfl rfl ?_
  refine run_iconst (v := 0) dX12_feed_1 rfl ?_
  refine run_puti fp_X12_144 is_269 (by decide) rfl dX12_feed_2 ?_
  refine run_aload_n 0 dX12_feed_5 rfl rfl ?_
  refine run_getr fl_X12_13 is_269 (by decide) rfl ce_269_2 dX12_feed_6 ?_
  refine run_iconst (v := 0) dX12_feed_9 rfl ?_
  refine run_iald' (j := 0) is_271 ln_271 (by decide) rfl dX12_feed_10 ?_
  refine run_bipush (v := 20) dX12_feed_11 rfl ?_
  refine run_iadd dX12_feed_13 ?_
  refine run_sipush (v := 600) dX12_feed_14 rfl ?_
  refine run_icmp_le 22 dX12_feed_17 (by decide) (fun c1 => ?_) (fun c1 => ?_)
  · rw [if_pos c1] at h
    refine run_aload_n 0 dX12_feed_22 rfl rfl ?_
    refine run_iload_n 1 dX12_feed_23 rfl rfl ?_
    obtain ⟨q2, h11, h⟩ := Option.bind_eq_some_iff.mp h
    refine run_callVv (As := [.int x1]) (fun z => z = q2) mw_X12_four mi_X12_four ml_X12_160 is_269 (by decide) rfl rfl rfl (RF.lt (HX12_feed_X12_four_lt d)) (Nat.le_of_ble_eq_true rfl) dX12_feed_24 (sX12_four G d  h11) (fun z h8 => ?_) rfl
    rw [h8]
    clear h8
    refine run_aload_n 0 dX12_feed_27 rfl rfl ?_
    refine run_iload_n 2 dX12_feed_28 rfl rfl ?_
    obtain ⟨q3, h10, h⟩ := Option.bind_eq_some_iff.mp h
    refine run_callVv (As := [.int x2]) (fun z => z = q3) mw_X12_four mi_X12_four ml_X12_160 is_269 (by decide) rfl rfl rfl (RF.lt (HX12_feed_X12_four_lt d)) (Nat.le_of_ble_eq_true rfl) dX12_feed_29 (sX12_four G d  h10) (fun z h8 => ?_) rfl
    rw [h8]
    clear h8
    refine run_aload_n 0 dX12_feed_32 rfl rfl ?_
    refine run_iload_n 3 dX12_feed_33 rfl rfl ?_
    obtain ⟨q4, h9, h⟩ := Option.bind_eq_some_iff.mp h
    refine run_callVv (As := [.int x3]) (fun z => z = q4) mw_X12_four mi_X12_four ml_X12_160 is_269 (by decide) rfl rfl rfl (RF.lt (HX12_feed_X12_four_lt d)) (Nat.le_of_ble_eq_true rfl) dX12_feed_34 (sX12_four G d  h9) (fun z h8 => ?_) rfl
    rw [h8]
    clear h8
    refine run_aload_n 0 dX12_feed_37 rfl rfl ?_
    refine run_iload 4 dX12_feed_38 rfl ?_
    obtain ⟨q5, h8, h⟩ := Option.bind_eq_some_iff.mp h
    refine run_callVv (As := [.int x4]) (fun z => z = q5) mw_X12_four mi_X12_four ml_X12_160 is_269 (by decide) rfl rfl rfl (RF.lt (HX12_feed_X12_four_lt d)) (Nat.le_of_ble_eq_true rfl) dX12_feed_40 (sX12_four G d  h8) (fun z h8 => ?_) rfl
    rw [h8]
    clear h8
    refine run_aload_n 0 dX12_feed_43 rfl rfl ?_
    refine run_iload 5 dX12_feed_44 rfl ?_
    obtain ⟨q6, h7, h⟩ := Option.bind_eq_some_iff.mp h
    refine run_callVv (As := [.int x5]) (fun z => z = q6) mw_X12_four mi_X12_four ml_X12_160 is_269 (by decide) rfl rfl rfl (RF.lt (HX12_feed_X12_four_lt d)) (Nat.le_of_ble_eq_true rfl) dX12_feed_46 (sX12_four G d  h7) (fun z h8 => ?_) rfl
    rw [h8]
    clear h8
    refine run_aload_n 0 dX12_feed_49 rfl rfl ?_
    refine run_getr fl_X12_13 is_269 (by decide) rfl ce_269_2 dX12_feed_50 ?_
    refine run_iconst (v := 0) dX12_feed_53 rfl ?_
    refine run_iald' (j := 0) is_271 ln_271 (by decide) rfl dX12_feed_54 ?_
    exact run_iret dX12_feed_55 ⟨_, rfl, Option.some.inj h⟩
  · rw [if_neg c1] at h
    refine run_iconst (v := -1) dX12_feed_20 rfl ?_
    exact run_iret dX12_feed_21 ⟨_, rfl, Option.some.inj h⟩
def HX12_nextSafe : Nat := 2
theorem HX12_nextSafe_X12_isBehind_lt (d : Nat) : d + HX12_isBehind < d + HX12_nextSafe := Nat.add_lt_add_left (by decide) d
theorem HX12_nextSafe_X12_isSafe_lt (d : Nat) : d + HX12_isSafe < d + HX12_nextSafe := Nat.add_lt_add_left (by decide) d
theorem HX12_nextSafe_0 (d : Nat) : 0 < d + HX12_nextSafe := Nat.lt_of_lt_of_le (by decide) (Nat.le_add_left _ d)
def lX12_nextSafe_5 (x1 : Int32) (x2 : Int32) : Nat → Int32 → Int32 → Mem → Option (Int32 × Mem)
  | 0, _, _, _ => none
  | n + 1, x3, x4, σ => if (σ 269 54) ≤ x4 then (some (x3, σ)) else ((if x1 = (-1) then (some (true, σ)) else ((fX12_isBehind x4 x1 σ).bind fun q17 => if q17.1 = true then (some (true, q17.2)) else (some (false, q17.2))) : Option (Bool × Mem)).bind fun q20 => (fX12_isSafe x4 x2 (q20.2)).bind fun q21 => (if q21.1 = true then (if (q20.1) = true then (if x3 = (-1) then (some (x4, q21.2)) else ((fX12_isBehind x3 x4 q21.2).bind fun q25 => if q25.1 = true then (some (x4, q25.2)) else (some (x3, q25.2)))) else (some (x3, q21.2))) else (some (x3, q21.2)) : Option (Int32 × Mem)).bind fun q28 => lX12_nextSafe_5 x1 x2 n (q28.1) (x4 + 1) (q28.2))
set_option maxRecDepth 20000 in
theorem lpX12_nextSafe_5 (G : GT) (d : Nat) (x1 : Int32) (x2 : Int32)  {K : Option Value → Mem → Prop} : ∀ (n : Nat) (x3 : Int32) (x4 : Int32) (σ : Mem) (o : Int32 × Mem), lX12_nextSafe_5 x1 x2 n x3 x4 σ = some o → (Run G RX12 cX12_nextSafe 6 (some .int) (mF G (d + HX12_nextSafe) K) 79 [(3, .int (o.1))] [] (o.2)) → Run G RX12 cX12_nextSafe 6 (some .int) (mF G (d + HX12_nextSafe) K) 5 [(0, .ref (gA G 269)), (1, .int x1), (2, .int x2), (3, .int x3), (4, .int x4)] [] σ := by
  intro n
  induction n with
  | zero => intro x3 x4 σ o h; exact absurd h (by simp [lX12_nextSafe_5])
  | succ n ih =>
    intro x3 x4 σ o h kx
    rw [lX12_nextSafe_5] at h
    refine run_iload 4 dX12_nextSafe_5 rfl ?_
    refine run_aload_n 0 dX12_nextSafe_7 rfl rfl ?_
    refine run_geti fl_X12_345 is_269 (by decide) rfl dX12_nextSafe_8 ?_
    refine run_icmp_ge 79 dX12_nextSafe_11 (by decide) (fun c15 => ?_) (fun c15 => ?_)
    · rw [if_pos c15] at h
      rw [← Option.some.inj h] at kx
      refine run_forget [3] rfl ?_
      exact kx
    · rw [if_neg c15] at h
      refine run_iload_n 1 dX12_nextSafe_14 rfl rfl ?_
      refine run_iconst (v := -1) dX12_nextSafe_15 rfl ?_
      obtain ⟨q20, h, h9⟩ := Option.bind_eq_some_iff.mp h
      have hj31 : Run G RX12 cX12_nextSafe 6 (some .int) (mF G (d + HX12_nextSafe) K) 34 [(0, .ref (gA G 269)), (1, .int x1), (2, .int x2), (3, .int x3), (4, .int x4)] [.int (b2 (q20.1))] (q20.2) := by
        clear h
        have h := h9
        clear h9
        refine run_istore [(0, .ref (gA G 269)), (1, .int x1), (2, .int x2), (3, .int x3), (4, .int x4), (5, .int (b2 (q20.1)))] [1, 2, 3, 4, 5, 0] dX12_nextSafe_34 (by decide) rfl ?_
        refine run_aload_n 0 dX12_nextSafe_36 rfl rfl ?_
        refine run_iload 4 dX12_nextSafe_37 rfl ?_
        refine run_iload_n 2 dX12_nextSafe_39 rfl rfl ?_
        obtain ⟨q21, h30, h⟩ := Option.bind_eq_some_iff.mp h
        refine run_callVb (As := [.int x4, .int x2]) (fun r z => (r, z) = q21) mw_X12_isSafe mi_X12_isSafe ml_X12_433 is_269 (by decide) rfl rfl rfl (RF.lt (HX12_nextSafe_X12_isSafe_lt d)) (Nat.le_of_ble_eq_true rfl) dX12_nextSafe_40 (sX12_isSafe G d  h30) (fun r z h8 => ?_) rfl
        rw [show r = q21.1 from congrArg Prod.fst h8, show z = q21.2 from congrArg Prod.snd h8]
        clear h8
        obtain ⟨q28, h, h9⟩ := Option.bind_eq_some_iff.mp h
        have hj29 : Run G RX12 cX12_nextSafe 6 (some .int) (mF G (d + HX12_nextSafe) K) 72 [(0, .ref (gA G 269)), (1, .int x1), (2, .int x2), (4, .int x4)] [.int (q28.1)] (q28.2) := by
          clear h
          have h := h9
          clear h9
          refine run_istore_n [(0, .ref (gA G 269)), (1, .int x1), (2, .int x2), (3, .int (q28.1)), (4, .int x4)] [1, 2, 3, 0, 4] dX12_nextSafe_72 rfl (by decide) rfl ?_
          refine run_iinc 4 [(0, .ref (gA G 269)), (1, .int x1), (2, .int x2), (3, .int (q28.1)), (4, .int (x4 + 1))] [1, 2, 3, 4, 0] dX12_nextSafe_73 rfl rfl (by decide) rfl ?_
          refine run_goto 5 dX12_nextSafe_76 (by decide) ?_
          exact ih _ _ _ _ h kx
        clear h9
        refine run_ifb_eq 71 dX12_nextSafe_43 (by decide) (fun c22 => ?_) (fun c22 => ?_)
        · rw [if_neg c22] at h
          refine run_iload_n 3 dX12_nextSafe_71 rfl rfl ?_
          rw [← Option.some.inj h] at hj29
          refine run_forget [0, 1, 2, 4] rfl ?_
          exact hj29
        · rw [if_pos c22] at h
          refine run_iload 5 dX12_nextSafe_46 rfl ?_
          refine run_ifb_eq 71 dX12_nextSafe_48 (by decide) (fun c23 => ?_) (fun c23 => ?_)
          · rw [if_neg c23] at h
            refine run_iload_n 3 dX12_nextSafe_71 rfl rfl ?_
            rw [← Option.some.inj h] at hj29
            refine run_forget [0, 1, 2, 4] rfl ?_
            exact hj29
          · rw [if_pos c23] at h
            refine run_iload_n 3 dX12_nextSafe_51 rfl rfl ?_
            refine run_iconst (v := -1) dX12_nextSafe_52 rfl ?_
            refine run_icmp_eq 66 dX12_nextSafe_53 (by decide) (fun c24 => ?_) (fun c24 => ?_)
            · rw [if_pos c24] at h
              refine run_iload 4 dX12_nextSafe_66 rfl ?_
              refine run_goto 72 dX12_nextSafe_68 (by decide) ?_
              rw [← Option.some.inj h] at hj29
              refine run_forget [0, 1, 2, 4] rfl ?_
              exact hj29
            · rw [if_neg c24] at h
              refine run_aload_n 0 dX12_nextSafe_56 rfl rfl ?_
              refine run_iload_n 3 dX12_nextSafe_57 rfl rfl ?_
              refine run_iload 4 dX12_nextSafe_58 rfl ?_
              obtain ⟨q25, h27, h⟩ := Option.bind_eq_some_iff.mp h
              refine run_callVb (As := [.int x3, .int x4]) (fun r z => (r, z) = q25) mw_X12_isBehind mi_X12_isBehind ml_X12_430 is_269 (by decide) rfl rfl rfl (RF.lt (HX12_nextSafe_X12_isBehind_lt d)) (Nat.le_of_ble_eq_true rfl) dX12_nextSafe_60 (sX12_isBehind G d  h27) (fun r z h8 => ?_) rfl
              rw [show r = q25.1 from congrArg Prod.fst h8, show z = q25.2 from congrArg Prod.snd h8]
              clear h8
              refine run_ifb_eq 71 dX12_nextSafe_63 (by decide) (fun c26 => ?_) (fun c26 => ?_)
              · rw [if_neg c26] at h
                refine run_iload_n 3 dX12_nextSafe_71 rfl rfl ?_
                rw [← Option.some.inj h] at hj29
                refine run_forget [0, 1, 2, 4] rfl ?_
                exact hj29
              · rw [if_pos c26] at h
                refine run_iload 4 dX12_nextSafe_66 rfl ?_
                refine run_goto 72 dX12_nextSafe_68 (by decide) ?_
                rw [← Option.some.inj h] at hj29
                refine run_forget [0, 1, 2, 4] rfl ?_
                exact hj29
      clear h9
      refine run_icmp_eq 29 dX12_nextSafe_16 (by decide) (fun c16 => ?_) (fun c16 => ?_)
      · rw [if_pos c16] at h
        refine run_iconst (v := 1) dX12_nextSafe_29 rfl ?_
        refine run_goto 34 dX12_nextSafe_30 (by decide) ?_
        rw [← Option.some.inj h] at hj31
        exact hj31
      · rw [if_neg c16] at h
        refine run_aload_n 0 dX12_nextSafe_19 rfl rfl ?_
        refine run_iload 4 dX12_nextSafe_20 rfl ?_
        refine run_iload_n 1 dX12_nextSafe_22 rfl rfl ?_
        obtain ⟨q17, h19, h⟩ := Option.bind_eq_some_iff.mp h
        refine run_callVb (As := [.int x4, .int x1]) (fun r z => (r, z) = q17) mw_X12_isBehind mi_X12_isBehind ml_X12_430 is_269 (by decide) rfl rfl rfl (RF.lt (HX12_nextSafe_X12_isBehind_lt d)) (Nat.le_of_ble_eq_true rfl) dX12_nextSafe_23 (sX12_isBehind G d  h19) (fun r z h8 => ?_) rfl
        rw [show r = q17.1 from congrArg Prod.fst h8, show z = q17.2 from congrArg Prod.snd h8]
        clear h8
        refine run_ifb_eq 33 dX12_nextSafe_26 (by decide) (fun c18 => ?_) (fun c18 => ?_)
        · rw [if_neg c18] at h
          refine run_iconst (v := 0) dX12_nextSafe_33 rfl ?_
          rw [← Option.some.inj h] at hj31
          exact hj31
        · rw [if_pos c18] at h
          refine run_iconst (v := 1) dX12_nextSafe_29 rfl ?_
          refine run_goto 34 dX12_nextSafe_30 (by decide) ?_
          rw [← Option.some.inj h] at hj31
          exact hj31
def fX12_nextSafe (x1 : Int32) (x2 : Int32) (σ : Mem) : Option (Int32 × Mem) := (lX12_nextSafe_5 x1 x2 FU (-1) 0 σ).bind fun q32 => some ((q32.1), (q32.2))
set_option maxRecDepth 20000 in
theorem sX12_nextSafe (G : GT) (d : Nat) {x1 : Int32} {x2 : Int32}  {σ : Mem} {o : (Int32 × Mem)} (h : fX12_nextSafe x1 x2 σ = some o) : Spec G yX12_nextSafe cX12_nextSafe 6 (some .int) (d + HX12_nextSafe) [.ref (gA G 269), .int x1, .int x2] σ (kI fun x z => (x, z) = o) := by
  refine spec_run (by decide) (Nat.le_of_ble_eq_true rfl) ?_
  unfold fX12_nextSafe at h
  show Run G RX12 cX12_nextSafe 6 (some .int) _ 0 [(0, .ref (gA G 269)), (1, .int x1), (2, .int x2)] [] σ
  refine run_iconst (v := -1) dX12_nextSafe_0 rfl ?_
  refine run_istore_n [(0, .ref (gA G 269)), (1, .int x1), (2, .int x2), (3, .int (-1))] [1, 2, 3, 0] dX12_nextSafe_1 rfl (by decide) rfl ?_
  refine run_iconst (v := 0) dX12_nextSafe_2 rfl ?_
  refine run_istore [(0, .ref (gA G 269)), (1, .int x1), (2, .int x2), (3, .int (-1)), (4, .int 0)] [1, 2, 3, 4, 0] dX12_nextSafe_3 (by decide) rfl ?_
  obtain ⟨q32, h33, h⟩ := Option.bind_eq_some_iff.mp h
  refine lpX12_nextSafe_5 G d _ _ _ _ _ _ _ h33 ?_
  refine run_iload_n 0 dX12_nextSafe_79 rfl rfl ?_
  exact run_iret dX12_nextSafe_80 ⟨_, rfl, Option.some.inj h⟩
def HX12_layLeft : Nat := 3
theorem HX12_layLeft_X12_durable_lt (d : Nat) : d + HX12_durable < d + HX12_layLeft := Nat.add_lt_add_left (by decide) d
theorem HX12_layLeft_X12_nextSafe_lt (d : Nat) : d + HX12_nextSafe < d + HX12_layLeft := Nat.add_lt_add_left (by decide) d
theorem HX12_layLeft_X12_ofStore_lt (d : Nat) : d + HX12_ofStore < d + HX12_layLeft := Nat.add_lt_add_left (by decide) d
theorem HX12_layLeft_0 (d : Nat) : 0 < d + HX12_layLeft := Nat.lt_of_lt_of_le (by decide) (Nat.le_add_left _ d)
def lX12_layLeft_16 (x1 : Int32) : Nat → Int32 → Mem → Option (Mem)
  | 0, _, _ => none
  | n + 1, x2, σ => if 10 ≤ x2 then (some σ) else ((fX12_ofStore ((3 : Int32) + x2) σ).bind fun q8 => gd (inb x2 10) (gd (inb x2 10) (lX12_layLeft_16 x1 n (x2 + 1) (st2 (st2 q8.2 306 (Int32.toNatClampNeg x2) q8.1) 307 (Int32.toNatClampNeg x2) 0))))
set_option maxRecDepth 20000 in
theorem lpX12_layLeft_16 (G : GT) (d : Nat) (x1 : Int32)  {K : Option Value → Mem → Prop} : ∀ (n : Nat) (x2 : Int32) (σ : Mem) (o : Mem), lX12_layLeft_16 x1 n x2 σ = some o → (Run G RX12 cX12_layLeft 5 none (mF G (d + HX12_layLeft) K) 48 [(0, .ref (gA G 269)), (1, .int x1)] [] o) → Run G RX12 cX12_layLeft 5 none (mF G (d + HX12_layLeft) K) 16 [(0, .ref (gA G 269)), (1, .int x1), (2, .int x2)] [] σ := by
  intro n
  induction n with
  | zero => intro x2 σ o h; exact absurd h (by simp [lX12_layLeft_16])
  | succ n ih =>
    intro x2 σ o h kx
    rw [lX12_layLeft_16] at h
    refine run_iload_n 2 dX12_layLeft_16 rfl rfl ?_
    refine run_bipush (v := 10) dX12_layLeft_17 rfl ?_
    refine run_icmp_ge 48 dX12_layLeft_19 (by decide) (fun c7 => ?_) (fun c7 => ?_)
    · rw [if_pos c7] at h
      rw [← Option.some.inj h] at kx
      refine run_forget [0, 1] rfl ?_
      exact kx
    · rw [if_neg c7] at h
      refine run_aload_n 0 dX12_layLeft_22 rfl rfl ?_
      refine run_getr fl_X12_119 is_269 (by decide) rfl ce_269_67 dX12_layLeft_23 ?_
      refine run_iload_n 2 dX12_layLeft_26 rfl rfl ?_
      refine run_aload_n 0 dX12_layLeft_27 rfl rfl ?_
      refine run_iconst (v := 3) dX12_layLeft_28 rfl ?_
      refine run_iload_n 2 dX12_layLeft_29 rfl rfl ?_
      refine run_iadd dX12_layLeft_30 ?_
      obtain ⟨q8, h11, h⟩ := Option.bind_eq_some_iff.mp h
      refine run_callVi (As := [.int ((3 : Int32) + x2)]) (fun r z => (r, z) = q8) mw_X12_ofStore mi_X12_ofStore ml_X12_332 is_269 (by decide) rfl rfl rfl (RF.lt (HX12_layLeft_X12_ofStore_lt d)) (Nat.le_of_ble_eq_true rfl) dX12_layLeft_31 (sX12_ofStore G d  h11) (fun r z h8 => ?_) rfl
      rw [show r = q8.1 from congrArg Prod.fst h8, show z = q8.2 from congrArg Prod.snd h8]
      clear h8
      obtain ⟨g9, h⟩ := gd_s h
      refine run_iast' is_306 ln_306 g9 rfl dX12_layLeft_34 ?_
      refine run_aload_n 0 dX12_layLeft_35 rfl rfl ?_
      refine run_getr fl_X12_122 is_269 (by decide) rfl ce_269_68 dX12_layLeft_36 ?_
      refine run_iload_n 2 dX12_layLeft_39 rfl rfl ?_
      refine run_iconst (v := 0) dX12_layLeft_40 rfl ?_
      obtain ⟨g10, h⟩ := gd_s h
      refine run_iast' is_307 ln_307 g10 rfl dX12_layLeft_41 ?_
      refine run_iinc 2 [(0, .ref (gA G 269)), (1, .int x1), (2, .int (x2 + 1))] [1, 2, 0] dX12_layLeft_42 rfl rfl (by decide) rfl ?_
      refine run_goto 16 dX12_layLeft_45 (by decide) ?_
      exact ih _ _ _ h kx
def lX12_layLeft_62 (x1 : Int32) (x2 : Int32) : Nat → Int32 → Mem → Option (Mem)
  | 0, _, _ => none
  | n + 1, x3, σ => if 10 ≤ x3 then (some σ) else (gd (inb (((10 : Int32) * x2) + x3) 640) ((if (σ 303 (Int32.toNatClampNeg (((10 : Int32) * x2) + x3))) = (-2) then (some σ) else ((if (σ 303 (Int32.toNatClampNeg (((10 : Int32) * x2) + x3))) = (-1) then (some ((σ 269 66) &&& (((1 : Int32) <<< (x3 &&& 31)) ^^^ (-1)))) else (some ((σ 269 66) ||| ((1 : Int32) <<< (x3 &&& 31)))) : Option (Int32)).bind fun q34 => (if (σ 303 (Int32.toNatClampNeg (((10 : Int32) * x2) + x3))) = (-1) then (some 0) else (some (σ 303 (Int32.toNatClampNeg (((10 : Int32) * x2) + x3)))) : Option (Int32)).bind fun q36 => gd (inb x3 10) (gd (inb x2 64) (gd (inb x3 10) ((some (st2 (st2 (st2 σ 269 66 q34) 306 (Int32.toNatClampNeg x3) q36) 307 (Int32.toNatClampNeg x3) ((st2 (st2 σ 269 66 q34) 306 (Int32.toNatClampNeg x3) q36) 298 (Int32.toNatClampNeg x2)))).bind fun s40 => some s40)))) : Option (Mem)).bind fun q43 => lX12_layLeft_62 x1 x2 n (x3 + 1) q43))
set_option maxRecDepth 20000 in
theorem lpX12_layLeft_62 (G : GT) (d : Nat) (x1 : Int32) (x2 : Int32)  {K : Option Value → Mem → Prop} : ∀ (n : Nat) (x3 : Int32) (σ : Mem) (o : Mem), lX12_layLeft_62 x1 x2 n x3 σ = some o → (Run G RX12 cX12_layLeft 5 none (mF G (d + HX12_layLeft) K) 155 [(0, .ref (gA G 269)), (1, .int x1), (2, .int x2)] [] o) → Run G RX12 cX12_layLeft 5 none (mF G (d + HX12_layLeft) K) 62 [(0, .ref (gA G 269)), (1, .int x1), (2, .int x2), (3, .int x3)] [] σ := by
  intro n
  induction n with
  | zero => intro x3 σ o h; exact absurd h (by simp [lX12_layLeft_62])
  | succ n ih =>
    intro x3 σ o h kx
    rw [lX12_layLeft_62] at h
    refine run_iload_n 3 dX12_layLeft_62 rfl rfl ?_
    refine run_bipush (v := 10) dX12_layLeft_63 rfl ?_
    refine run_icmp_ge 155 dX12_layLeft_65 (by decide) (fun c30 => ?_) (fun c30 => ?_)
    · rw [if_pos c30] at h
      rw [← Option.some.inj h] at kx
      refine run_forget [0, 1, 2] rfl ?_
      exact kx
    · rw [if_neg c30] at h
      refine run_aload_n 0 dX12_layLeft_68 rfl rfl ?_
      refine run_getr fl_X12_110 is_269 (by decide) rfl ce_269_53 dX12_layLeft_69 ?_
      refine run_bipush (v := 10) dX12_layLeft_72 rfl ?_
      refine run_iload_n 2 dX12_layLeft_74 rfl rfl ?_
      refine run_imul dX12_layLeft_75 ?_
      refine run_iload_n 3 dX12_layLeft_76 rfl rfl ?_
      refine run_iadd dX12_layLeft_77 ?_
      obtain ⟨g31, h⟩ := gd_s h
      refine run_iald' is_303 ln_303 g31 rfl dX12_layLeft_78 ?_
      refine run_istore [(0, .ref (gA G 269)), (1, .int x1), (2, .int x2), (3, .int x3), (4, .int (σ 303 (Int32.toNatClampNeg (((10 : Int32) * x2) + x3))))] [1, 2, 3, 4, 0] dX12_layLeft_79 (by decide) rfl ?_
      refine run_iload 4 dX12_layLeft_81 rfl ?_
      refine run_bipush (v := -2) dX12_layLeft_83 rfl ?_
      obtain ⟨q43, h, h9⟩ := Option.bind_eq_some_iff.mp h
      have hj44 : Run G RX12 cX12_layLeft 5 none (mF G (d + HX12_layLeft) K) 149 [(0, .ref (gA G 269)), (1, .int x1), (2, .int x2), (3, .int x3)] [] q43 := by
        clear h
        have h := h9
        clear h9
        refine run_iinc 3 [(0, .ref (gA G 269)), (1, .int x1), (2, .int x2), (3, .int (x3 + 1))] [1, 2, 3, 0] dX12_layLeft_149 rfl rfl (by decide) rfl ?_
        refine run_goto 62 dX12_layLeft_152 (by decide) ?_
        exact ih _ _ _ h kx
      clear h9
      refine run_icmp_eq 149 dX12_layLeft_85 (by decide) (fun c32 => ?_) (fun c32 => ?_)
      · rw [if_pos c32] at h
        rw [← Option.some.inj h] at hj44
        refine run_forget [0, 1, 2, 3] rfl ?_
        exact hj44
      · rw [if_neg c32] at h
        refine run_aload_n 0 dX12_layLeft_88 rfl rfl ?_
        refine run_iload 4 dX12_layLeft_89 rfl ?_
        refine run_iconst (v := -1) dX12_layLeft_91 rfl ?_
        obtain ⟨q34, h, h9⟩ := Option.bind_eq_some_iff.mp h
        have hj42 : Run G RX12 cX12_layLeft 5 none (mF G (d + HX12_layLeft) K) 116 [(0, .ref (gA G 269)), (1, .int x1), (2, .int x2), (3, .int x3), (4, .int (σ 303 (Int32.toNatClampNeg (((10 : Int32) * x2) + x3))))] [.int q34, .ref (gA G 269)] σ := by
          clear h
          have h := h9
          clear h9
          refine run_puti fp_X12_439 is_269 (by decide) rfl dX12_layLeft_116 ?_
          refine run_aload_n 0 dX12_layLeft_119 rfl rfl ?_
          refine run_getr fl_X12_119 is_269 (by decide) rfl ce_269_67 dX12_layLeft_120 ?_
          refine run_iload_n 3 dX12_layLeft_123 rfl rfl ?_
          refine run_iload 4 dX12_layLeft_124 rfl ?_
          refine run_iconst (v := -1) dX12_layLeft_126 rfl ?_
          obtain ⟨q36, h, h9⟩ := Option.bind_eq_some_iff.mp h
          have hj41 : Run G RX12 cX12_layLeft 5 none (mF G (d + HX12_layLeft) K) 136 [(0, .ref (gA G 269)), (1, .int x1), (2, .int x2), (3, .int x3)] [.int q36, .int x3, .ref (gA G 306)] (st2 σ 269 66 q34) := by
            clear h
            have h := h9
            clear h9
            obtain ⟨g37, h⟩ := gd_s h
            refine run_iast' is_306 ln_306 g37 rfl dX12_layLeft_136 ?_
            refine run_aload_n 0 dX12_layLeft_137 rfl rfl ?_
            refine run_getr fl_X12_122 is_269 (by decide) rfl ce_269_68 dX12_layLeft_138 ?_
            refine run_iload_n 3 dX12_layLeft_141 rfl rfl ?_
            refine run_aload_n 0 dX12_layLeft_142 rfl rfl ?_
            refine run_getr fl_X12_95 is_269 (by decide) rfl ce_269_48 dX12_layLeft_143 ?_
            refine run_iload_n 2 dX12_layLeft_146 rfl rfl ?_
            obtain ⟨g38, h⟩ := gd_s h
            refine run_iald' is_298 ln_298 g38 rfl dX12_layLeft_147 ?_
            obtain ⟨g39, h⟩ := gd_s h
            refine run_iast' is_307 ln_307 g39 rfl dX12_layLeft_148 ?_
            rw [Option.bind_some] at h
            refine run_mem (fun s40 es40 => ?_)
            rw [← es40] at h
            rw [← Option.some.inj h] at hj44
            exact hj44
          clear h9
          refine run_icmp_ne 134 dX12_layLeft_127 (by decide) (fun c35 => ?_) (fun c35 => ?_)
          · rw [if_neg c35] at h
            refine run_iload 4 dX12_layLeft_134 rfl ?_
            rw [← Option.some.inj h] at hj41
            refine run_forget [0, 1, 2, 3] rfl ?_
            exact hj41
          · rw [if_pos c35] at h
            refine run_iconst (v := 0) dX12_layLeft_130 rfl ?_
            refine run_goto 136 dX12_layLeft_131 (by decide) ?_
            rw [← Option.some.inj h] at hj41
            refine run_forget [0, 1, 2, 3] rfl ?_
            exact hj41
        clear h9
        refine run_icmp_ne 108 dX12_layLeft_92 (by decide) (fun c33 => ?_) (fun c33 => ?_)
        · rw [if_neg c33] at h
          refine run_aload_n 0 dX12_layLeft_108 rfl rfl ?_
          refine run_geti fl_X12_439 is_269 (by decide) rfl dX12_layLeft_109 ?_
          refine run_iconst (v := 1) dX12_layLeft_112 rfl ?_
          refine run_iload_n 3 dX12_layLeft_113 rfl rfl ?_
          refine run_ishl dX12_layLeft_114 ?_
          refine run_ior dX12_layLeft_115 ?_
          rw [← Option.some.inj h] at hj42
          exact hj42
        · rw [if_pos c33] at h
          refine run_aload_n 0 dX12_layLeft_95 rfl rfl ?_
          refine run_geti fl_X12_439 is_269 (by decide) rfl dX12_layLeft_96 ?_
          refine run_iconst (v := 1) dX12_layLeft_99 rfl ?_
          refine run_iload_n 3 dX12_layLeft_100 rfl rfl ?_
          refine run_ishl dX12_layLeft_101 ?_
          refine run_iconst (v := -1) dX12_layLeft_102 rfl ?_
          refine run_ixor dX12_layLeft_103 ?_
          refine run_iand dX12_layLeft_104 ?_
          refine run_goto 116 dX12_layLeft_105 (by decide) ?_
          rw [← Option.some.inj h] at hj42
          exact hj42
def lX12_layLeft_55 (x1 : Int32) : Nat → Int32 → Mem → Option (Mem)
  | 0, _, _ => none
  | n + 1, x2, σ => if x2 = (-1) then (some σ) else ((lX12_layLeft_62 x1 x2 FU 0 σ).bind fun q45 => (fX12_nextSafe x2 x1 q45).bind fun q46 => lX12_layLeft_55 x1 n q46.1 q46.2)
set_option maxRecDepth 20000 in
theorem lpX12_layLeft_55 (G : GT) (d : Nat) (x1 : Int32)  {K : Option Value → Mem → Prop} : ∀ (n : Nat) (x2 : Int32) (σ : Mem) (o : Mem), lX12_layLeft_55 x1 n x2 σ = some o → (Run G RX12 cX12_layLeft 5 none (mF G (d + HX12_layLeft) K) 165 [] [] o) → Run G RX12 cX12_layLeft 5 none (mF G (d + HX12_layLeft) K) 55 [(0, .ref (gA G 269)), (1, .int x1), (2, .int x2)] [] σ := by
  intro n
  induction n with
  | zero => intro x2 σ o h; exact absurd h (by simp [lX12_layLeft_55])
  | succ n ih =>
    intro x2 σ o h kx
    rw [lX12_layLeft_55] at h
    refine run_iload_n 2 dX12_layLeft_55 rfl rfl ?_
    refine run_iconst (v := -1) dX12_layLeft_56 rfl ?_
    refine run_icmp_eq 165 dX12_layLeft_57 (by decide) (fun c14 => ?_) (fun c14 => ?_)
    · rw [if_pos c14] at h
      rw [← Option.some.inj h] at kx
      refine run_forget [] rfl ?_
      exact kx
    · rw [if_neg c14] at h
      refine run_iconst (v := 0) dX12_layLeft_60 rfl ?_
      refine run_istore_n [(0, .ref (gA G 269)), (1, .int x1), (2, .int x2), (3, .int 0)] [1, 2, 3, 0] dX12_layLeft_61 rfl (by decide) rfl ?_
      obtain ⟨q45, h48, h⟩ := Option.bind_eq_some_iff.mp h
      refine lpX12_layLeft_62 G d _ _ _ _ _ _ h48 ?_
      refine run_aload_n 0 dX12_layLeft_155 rfl rfl ?_
      refine run_iload_n 2 dX12_layLeft_156 rfl rfl ?_
      refine run_iload_n 1 dX12_layLeft_157 rfl rfl ?_
      obtain ⟨q46, h47, h⟩ := Option.bind_eq_some_iff.mp h
      refine run_callVi (As := [.int x2, .int x1]) (fun r z => (r, z) = q46) mw_X12_nextSafe mi_X12_nextSafe ml_X12_442 is_269 (by decide) rfl rfl rfl (RF.lt (HX12_layLeft_X12_nextSafe_lt d)) (Nat.le_of_ble_eq_true rfl) dX12_layLeft_158 (sX12_nextSafe G d  h47) (fun r z h8 => ?_) rfl
      rw [show r = q46.1 from congrArg Prod.fst h8, show z = q46.2 from congrArg Prod.snd h8]
      clear h8
      refine run_istore_n [(0, .ref (gA G 269)), (1, .int x1), (2, .int q46.1)] [1, 2, 0] dX12_layLeft_161 rfl (by decide) rfl ?_
      refine run_goto 55 dX12_layLeft_162 (by decide) ?_
      exact ih _ _ _ h kx
def fX12_layLeft  (σ : Mem) : Option Mem := (fX12_durable σ).bind fun q1 => (fX12_ofStore 2 q1.2).bind fun q2 => (lX12_layLeft_16 q1.1 FU 0 (st2 q2.2 269 66 q2.1)).bind fun q12 => (fX12_nextSafe (-1) q1.1 q12).bind fun q13 => (lX12_layLeft_55 q1.1 FU q13.1 q13.2).bind fun q49 => some q49
set_option maxRecDepth 20000 in
theorem sX12_layLeft (G : GT) (d : Nat)   {σ : Mem} {o : Mem} (h : fX12_layLeft σ = some o) : Spec G yX12_layLeft cX12_layLeft 5 none (d + HX12_layLeft) [.ref (gA G 269)] σ (kV fun z => z = o) := by
  refine spec_run (by decide) (Nat.le_of_ble_eq_true rfl) ?_
  unfold fX12_layLeft at h
  show Run G RX12 cX12_layLeft 5 none _ 0 [(0, .ref (gA G 269))] [] σ
  refine run_aload_n 0 dX12_layLeft_0 rfl rfl ?_
  obtain ⟨q1, h54, h⟩ := Option.bind_eq_some_iff.mp h
  refine run_callVi (As := []) (fun r z => (r, z) = q1) mw_X12_durable mi_X12_durable ml_X12_436 is_269 (by decide) rfl rfl rfl (RF.lt (HX12_layLeft_X12_durable_lt d)) (Nat.le_of_ble_eq_true rfl) dX12_layLeft_1 (sX12_durable G d  h54) (fun r z h8 => ?_) rfl
  rw [show r = q1.1 from congrArg Prod.fst h8, show z = q1.2 from congrArg Prod.snd h8]
  clear h8
  refine run_istore_n [(0, .ref (gA G 269)), (1, .int q1.1)] [1, 0] dX12_layLeft_4 rfl (by decide) rfl ?_
  refine run_aload_n 0 dX12_layLeft_5 rfl rfl ?_
  refine run_aload_n 0 dX12_layLeft_6 rfl rfl ?_
  refine run_iconst (v := 2) dX12_layLeft_7 rfl ?_
  obtain ⟨q2, h53, h⟩ := Option.bind_eq_some_iff.mp h
  refine run_callVi (As := [.int 2]) (fun r z => (r, z) = q2) mw_X12_ofStore mi_X12_ofStore ml_X12_332 is_269 (by decide) rfl rfl rfl (RF.lt (HX12_layLeft_X12_ofStore_lt d)) (Nat.le_of_ble_eq_true rfl) dX12_layLeft_8 (sX12_ofStore G d  h53) (fun r z h8 => ?_) rfl
  rw [show r = q2.1 from congrArg Prod.fst h8, show z = q2.2 from congrArg Prod.snd h8]
  clear h8
  refine run_puti fp_X12_439 is_269 (by decide) rfl dX12_layLeft_11 ?_
  refine run_iconst (v := 0) dX12_layLeft_14 rfl ?_
  refine run_istore_n [(0, .ref (gA G 269)), (1, .int q1.1), (2, .int 0)] [1, 2, 0] dX12_layLeft_15 rfl (by decide) rfl ?_
  obtain ⟨q12, h52, h⟩ := Option.bind_eq_some_iff.mp h
  refine lpX12_layLeft_16 G d _ _ _ _ _ h52 ?_
  refine run_aload_n 0 dX12_layLeft_48 rfl rfl ?_
  refine run_iconst (v := -1) dX12_layLeft_49 rfl ?_
  refine run_iload_n 1 dX12_layLeft_50 rfl rfl ?_
  obtain ⟨q13, h51, h⟩ := Option.bind_eq_some_iff.mp h
  refine run_callVi (As := [.int (-1), .int q1.1]) (fun r z => (r, z) = q13) mw_X12_nextSafe mi_X12_nextSafe ml_X12_442 is_269 (by decide) rfl rfl rfl (RF.lt (HX12_layLeft_X12_nextSafe_lt d)) (Nat.le_of_ble_eq_true rfl) dX12_layLeft_51 (sX12_nextSafe G d  h51) (fun r z h8 => ?_) rfl
  rw [show r = q13.1 from congrArg Prod.fst h8, show z = q13.2 from congrArg Prod.snd h8]
  clear h8
  refine run_istore_n [(0, .ref (gA G 269)), (1, .int q1.1), (2, .int q13.1)] [1, 2, 0] dX12_layLeft_54 rfl (by decide) rfl ?_
  obtain ⟨q49, h50, h⟩ := Option.bind_eq_some_iff.mp h
  refine lpX12_layLeft_55 G d _ _ _ _ _ h50 ?_
  exact run_vret dX12_layLeft_165 ⟨rfl, Option.some.inj h⟩
