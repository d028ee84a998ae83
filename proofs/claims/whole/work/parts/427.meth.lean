/-! methods, translated -/
def HX11_weave : Nat := 8
theorem HX11_weave_X11_weaveAll_lt (d : Nat) : d + HX11_weaveAll < d + HX11_weave := Nat.add_lt_add_left (by decide) d
theorem HX11_weave_X8_holds_lt (d : Nat) : d + HX8_holds < d + HX11_weave := Nat.add_lt_add_left (by decide) d
theorem HX11_weave_X9_has_lt (d : Nat) : d + HX9_has < d + HX11_weave := Nat.add_lt_add_left (by decide) d
theorem HX11_weave_0 (d : Nat) : 0 < d + HX11_weave := Nat.lt_of_lt_of_le (by decide) (Nat.le_add_left _ d)
def fX11_weave (x1 : Int32) (x2 : Int32) (x3 : Int32) (x4 : Int32) (x5 : Int32) (σ : Mem) : Option (Int32 × Mem) := (fX9_has 1 0 x1 σ).bind fun q1 => if q1.1 = true then ((fX9_has 1 1 x2 q1.2).bind fun q3 => if q3.1 = true then (gd (inb x2 2) ((fX8_holds (10 + 14 * (Int32.toNatClampNeg x2)) x3 q3.2).bind fun q6 => if q6.1 = true then ((fX8_holds (10 + 14 * (Int32.toNatClampNeg x2)) x4 q6.2).bind fun q8 => if q8.1 = true then (if x5 < 0 then (some ((-1), q8.2)) else (if x5 < 5 then (gd (inb x1 2) ((fX11_weaveAll (8 + 14 * (Int32.toNatClampNeg x1)) (10 + 14 * (Int32.toNatClampNeg x2)) x3 x4 q8.2).bind fun q13 => gd (inb x5 5) (some ((q13 266 (Int32.toNatClampNeg x5)), q13)))) else (some ((-1), q8.2)))) else (some ((-1), q8.2))) else (some ((-1), q6.2)))) else (some ((-1), q3.2))) else (some ((-1), q1.2))
set_option maxRecDepth 20000 in
theorem sX11_weave (G : GT) (d : Nat) {x1 : Int32} {x2 : Int32} {x3 : Int32} {x4 : Int32} {x5 : Int32}  {σ : Mem} {o : (Int32 × Mem)} (h : fX11_weave x1 x2 x3 x4 x5 σ = some o) : Spec G yX11_weave cX11_weave 7 (some .int) (d + HX11_weave) [.ref (gA G 0), .int x1, .int x2, .int x3, .int x4, .int x5] σ (kI fun x z => (x, z) = o) := by
  refine spec_run (by decide) (Nat.le_of_ble_eq_true rfl) ?_
  unfold fX11_weave at h
  show Run G RX11 cX11_weave 7 (some .int) _ 0 [(0, .ref (gA G 0)), (1, .int x1), (2, .int x2), (3, .int x3), (4, .int x4), (5, .int x5)] [] σ
  refine run_aload_n 0 dX11_weave_0 rfl rfl ?_
  refine run_getr fl_X11_10 is_0 (by decide) rfl ce_0_0 dX11_weave_1 ?_
  refine run_iconst (v := 0) dX11_weave_4 rfl ?_
  refine run_iload_n 1 dX11_weave_5 rfl rfl ?_
  obtain ⟨q1, h19, h⟩ := Option.bind_eq_some_iff.mp h
  refine run_callVb (As := [.int 0, .int x1]) (fun r z => (r, z) = q1) mw_X9_has mi_X9_has ml_X11_109 is_1 (by decide) rfl rfl rfl (RF.lt (HX11_weave_X9_has_lt d)) (Nat.le_of_ble_eq_true rfl) dX11_weave_6 (sX9_has G d is_1 h19) (fun r z h8 => ?_) rfl
  rw [show r = q1.1 from congrArg Prod.fst h8, show z = q1.2 from congrArg Prod.snd h8]
  clear h8
  refine run_ifb_eq 24 dX11_weave_9 (by decide) (fun c2 => ?_) (fun c2 => ?_)
  · rw [if_neg c2] at h
    refine run_iconst (v := -1) dX11_weave_24 rfl ?_
    exact run_iret dX11_weave_25 ⟨_, rfl, Option.some.inj h⟩
  · rw [if_pos c2] at h
    refine run_aload_n 0 dX11_weave_12 rfl rfl ?_
    refine run_getr fl_X11_10 is_0 (by decide) rfl ce_0_0 dX11_weave_13 ?_
    refine run_iconst (v := 1) dX11_weave_16 rfl ?_
    refine run_iload_n 2 dX11_weave_17 rfl rfl ?_
    obtain ⟨q3, h18, h⟩ := Option.bind_eq_some_iff.mp h
    refine run_callVb (As := [.int 1, .int x2]) (fun r z => (r, z) = q3) mw_X9_has mi_X9_has ml_X11_109 is_1 (by decide) rfl rfl rfl (RF.lt (HX11_weave_X9_has_lt d)) (Nat.le_of_ble_eq_true rfl) dX11_weave_18 (sX9_has G d is_1 h18) (fun r z h8 => ?_) rfl
    rw [show r = q3.1 from congrArg Prod.fst h8, show z = q3.2 from congrArg Prod.snd h8]
    clear h8
    refine run_ifb_ne 26 dX11_weave_21 (by decide) (fun c4 => ?_) (fun c4 => ?_)
    · rw [if_pos c4] at h
      refine run_aload_n 0 dX11_weave_26 rfl rfl ?_
      refine run_getr fl_X11_10 is_0 (by decide) rfl ce_0_0 dX11_weave_27 ?_
      refine run_getr fl_X11_43 is_1 (by decide) rfl ce_1_6 dX11_weave_30 ?_
      refine run_iload_n 2 dX11_weave_33 rfl rfl ?_
      obtain ⟨g5, h⟩ := gd_s h
      refine run_aald' (j := (Int32.toNatClampNeg x2)) is_5 (by decide) (by decide) (t0 := 7) rfl ln_5 g5 rfl (es_5 _) dX11_weave_34 ?_
      refine run_astore [(0, .ref (gA G 0)), (1, .int x1), (3, .int x3), (4, .int x4), (5, .int x5), (6, .ref (gA G (10 + 14 * (Int32.toNatClampNeg x2))))] [1, 2, 4, 5, 6, 0] dX11_weave_35 (by decide) rfl ?_
      refine run_aload 5 dX11_weave_37 rfl ?_
      refine run_iload_n 2 dX11_weave_39 rfl rfl ?_
      obtain ⟨q6, h17, h⟩ := Option.bind_eq_some_iff.mp h
      refine run_callVb (As := [.int x3]) (fun r z => (r, z) = q6) mw_X8_holds mi_X8_holds ml_X11_136 (el_5 (inb_lt g5)) (by decide) rfl rfl rfl (RF.lt (HX11_weave_X8_holds_lt d)) (Nat.le_of_ble_eq_true rfl) dX11_weave_40 (sX8_holds G d (el_5 (inb_lt g5)) h17) (fun r z h8 => ?_) rfl
      rw [show r = q6.1 from congrArg Prod.fst h8, show z = q6.2 from congrArg Prod.snd h8]
      clear h8
      refine run_ifb_eq 67 dX11_weave_43 (by decide) (fun c7 => ?_) (fun c7 => ?_)
      · rw [if_neg c7] at h
        refine run_iconst (v := -1) dX11_weave_67 rfl ?_
        exact run_iret dX11_weave_68 ⟨_, rfl, Option.some.inj h⟩
      · rw [if_pos c7] at h
        refine run_aload 5 dX11_weave_46 rfl ?_
        refine run_iload 3 dX11_weave_48 rfl ?_
        obtain ⟨q8, h16, h⟩ := Option.bind_eq_some_iff.mp h
        refine run_callVb (As := [.int x4]) (fun r z => (r, z) = q8) mw_X8_holds mi_X8_holds ml_X11_136 (el_5 (inb_lt g5)) (by decide) rfl rfl rfl (RF.lt (HX11_weave_X8_holds_lt d)) (Nat.le_of_ble_eq_true rfl) dX11_weave_50 (sX8_holds G d (el_5 (inb_lt g5)) h16) (fun r z h8 => ?_) rfl
        rw [show r = q8.1 from congrArg Prod.fst h8, show z = q8.2 from congrArg Prod.snd h8]
        clear h8
        refine run_ifb_eq 67 dX11_weave_53 (by decide) (fun c9 => ?_) (fun c9 => ?_)
        · rw [if_neg c9] at h
          refine run_iconst (v := -1) dX11_weave_67 rfl ?_
          exact run_iret dX11_weave_68 ⟨_, rfl, Option.some.inj h⟩
        · rw [if_pos c9] at h
          refine run_iload 4 dX11_weave_56 rfl ?_
          refine run_if_lt 67 dX11_weave_58 (by decide) (fun c10 => ?_) (fun c10 => ?_)
          · rw [if_pos c10] at h
            refine run_iconst (v := -1) dX11_weave_67 rfl ?_
            exact run_iret dX11_weave_68 ⟨_, rfl, Option.some.inj h⟩
          · rw [if_neg c10] at h
            refine run_iload 4 dX11_weave_61 rfl ?_
            refine run_iconst (v := 5) dX11_weave_63 rfl ?_
            refine run_icmp_lt 69 dX11_weave_64 (by decide) (fun c11 => ?_) (fun c11 => ?_)
            · rw [if_pos c11] at h
              refine run_aload_n 0 dX11_weave_69 rfl rfl ?_
              refine run_aload_n 0 dX11_weave_70 rfl rfl ?_
              refine run_getr fl_X11_10 is_0 (by decide) rfl ce_0_0 dX11_weave_71 ?_
              refine run_getr fl_X11_39 is_1 (by decide) rfl ce_1_5 dX11_weave_74 ?_
              refine run_iload_n 1 dX11_weave_77 rfl rfl ?_
              obtain ⟨g12, h⟩ := gd_s h
              refine run_aald' (j := (Int32.toNatClampNeg x1)) is_4 (by decide) (by decide) (t0 := 6) rfl ln_4 g12 rfl (es_4 _) dX11_weave_78 ?_
              refine run_aload 5 dX11_weave_79 rfl ?_
              refine run_iload_n 2 dX11_weave_81 rfl rfl ?_
              refine run_iload 3 dX11_weave_82 rfl ?_
              obtain ⟨q13, h15, h⟩ := Option.bind_eq_some_iff.mp h
              refine run_callVv (As := [.ref (gA G (8 + 14 * (Int32.toNatClampNeg x1))), .ref (gA G (10 + 14 * (Int32.toNatClampNeg x2))), .int x3, .int x4]) (fun z => z = q13) mw_X11_weaveAll mi_X11_weaveAll ml_X11_282 is_0 (by decide) rfl rfl rfl (RF.lt (HX11_weave_X11_weaveAll_lt d)) (Nat.le_of_ble_eq_true rfl) dX11_weave_84 (sX11_weaveAll G d (el_4 (inb_lt g12)) (el_5 (inb_lt g5)) h15) (fun z h8 => ?_) rfl
              rw [h8]
              clear h8
              refine run_aload_n 0 dX11_weave_87 rfl rfl ?_
              refine run_getr fl_X11_68 is_0 (by decide) rfl ce_0_7 dX11_weave_88 ?_
              refine run_iload 4 dX11_weave_91 rfl ?_
              obtain ⟨g14, h⟩ := gd_s h
              refine run_iald' is_266 ln_266 g14 rfl dX11_weave_93 ?_
              exact run_iret dX11_weave_94 ⟨_, rfl, Option.some.inj h⟩
            · rw [if_neg c11] at h
              refine run_iconst (v := -1) dX11_weave_67 rfl ?_
              exact run_iret dX11_weave_68 ⟨_, rfl, Option.some.inj h⟩
    · rw [if_neg c4] at h
      refine run_iconst (v := -1) dX11_weave_24 rfl ?_
      exact run_iret dX11_weave_25 ⟨_, rfl, Option.some.inj h⟩
def HX11_risk : Nat := 8
theorem HX11_risk_X11_weaveAll_lt (d : Nat) : d + HX11_weaveAll < d + HX11_risk := Nat.add_lt_add_left (by decide) d
theorem HX11_risk_X8_holds_lt (d : Nat) : d + HX8_holds < d + HX11_risk := Nat.add_lt_add_left (by decide) d
theorem HX11_risk_X9_has_lt (d : Nat) : d + HX9_has < d + HX11_risk := Nat.add_lt_add_left (by decide) d
theorem HX11_risk_0 (d : Nat) : 0 < d + HX11_risk := Nat.lt_of_lt_of_le (by decide) (Nat.le_add_left _ d)
def lX11_risk_59 (x1 : Int32) (x3 : Int32) (n4 : Nat) : Nat → Int32 → Int32 → Mem → Option (Int32 × Mem)
  | 0, _, _, _ => none
  | n + 1, x5, x6, σ => if (σ n4 0) ≤ x6 then (some (x5, σ)) else (gd (inb x1 2) ((fX11_weaveAll (8 + 14 * (Int32.toNatClampNeg x1)) n4 x3 x6 σ).bind fun q16 => (if (q16 266 2) ≤ 0 then (some x5) else (some (x5 ||| ((1 : Int32) <<< (x6 &&& 31)))) : Option (Int32)).bind fun q18 => lX11_risk_59 x1 x3 n4 n q18 (x6 + 1) q16))
set_option maxRecDepth 20000 in
theorem lpX11_risk_59 (G : GT) (d : Nat) (x1 : Int32) (x3 : Int32) (n4 : Nat) (hn4 : Is n4 8) {K : Option Value → Mem → Prop} : ∀ (n : Nat) (x5 : Int32) (x6 : Int32) (σ : Mem) (o : Int32 × Mem), lX11_risk_59 x1 x3 n4 n x5 x6 σ = some o → (Run G RX11 cX11_risk 7 (some .int) (mF G (d + HX11_risk) K) 111 [(5, .int (o.1))] [] (o.2)) → Run G RX11 cX11_risk 7 (some .int) (mF G (d + HX11_risk) K) 59 [(0, .ref (gA G 0)), (1, .int x1), (3, .int x3), (4, .ref (gA G n4)), (5, .int x5), (6, .int x6)] [] σ := by
  intro n
  induction n with
  | zero => intro x5 x6 σ o h; exact absurd h (by simp [lX11_risk_59])
  | succ n ih =>
    intro x5 x6 σ o h kx
    rw [lX11_risk_59] at h
    refine run_iload 5 dX11_risk_59 rfl ?_
    refine run_aload 3 dX11_risk_61 rfl ?_
    refine run_geti fl_X11_131 hn4 (by decide) rfl dX11_risk_63 ?_
    refine run_icmp_ge 111 dX11_risk_66 (by decide) (fun c14 => ?_) (fun c14 => ?_)
    · rw [if_pos c14] at h
      rw [← Option.some.inj h] at kx
      refine run_forget [4] rfl ?_
      exact kx
    · rw [if_neg c14] at h
      refine run_aload_n 0 dX11_risk_69 rfl rfl ?_
      refine run_aload_n 0 dX11_risk_70 rfl rfl ?_
      refine run_getr fl_X11_10 is_0 (by decide) rfl ce_0_0 dX11_risk_71 ?_
      refine run_getr fl_X11_39 is_1 (by decide) rfl ce_1_5 dX11_risk_74 ?_
      refine run_iload_n 1 dX11_risk_77 rfl rfl ?_
      obtain ⟨g15, h⟩ := gd_s h
      refine run_aald' (j := (Int32.toNatClampNeg x1)) is_4 (by decide) (by decide) (t0 := 6) rfl ln_4 g15 rfl (es_4 _) dX11_risk_78 ?_
      refine run_aload 3 dX11_risk_79 rfl ?_
      refine run_iload_n 2 dX11_risk_81 rfl rfl ?_
      refine run_iload 5 dX11_risk_82 rfl ?_
      obtain ⟨q16, h20, h⟩ := Option.bind_eq_some_iff.mp h
      refine run_callVv (As := [.ref (gA G (8 + 14 * (Int32.toNatClampNeg x1))), .ref (gA G n4), .int x3, .int x6]) (fun z => z = q16) mw_X11_weaveAll mi_X11_weaveAll ml_X11_282 is_0 (by decide) rfl rfl rfl (RF.lt (HX11_risk_X11_weaveAll_lt d)) (Nat.le_of_ble_eq_true rfl) dX11_risk_84 (sX11_weaveAll G d (el_4 (inb_lt g15)) hn4 h20) (fun z h8 => ?_) rfl
      rw [h8]
      clear h8
      refine run_aload_n 0 dX11_risk_87 rfl rfl ?_
      refine run_getr fl_X11_68 is_0 (by decide) rfl ce_0_7 dX11_risk_88 ?_
      refine run_iconst (v := 2) dX11_risk_91 rfl ?_
      refine run_iald' (j := 2) is_266 ln_266 (by decide) rfl dX11_risk_92 ?_
      obtain ⟨q18, h, h9⟩ := Option.bind_eq_some_iff.mp h
      have hj19 : Run G RX11 cX11_risk 7 (some .int) (mF G (d + HX11_risk) K) 105 [(0, .ref (gA G 0)), (1, .int x1), (3, .int x3), (4, .ref (gA G n4)), (5, .int q18), (6, .int x6)] [] q16 := by
        clear h
        have h := h9
        clear h9
        refine run_iinc 5 [(0, .ref (gA G 0)), (1, .int x1), (3, .int x3), (4, .ref (gA G n4)), (5, .int q18), (6, .int (x6 + 1))] [1, 2, 3, 4, 5, 0] dX11_risk_105 rfl rfl (by decide) rfl ?_
        refine run_goto 59 dX11_risk_108 (by decide) ?_
        exact ih _ _ _ _ h kx
      clear h9
      refine run_if_le 105 dX11_risk_93 (by decide) (fun c17 => ?_) (fun c17 => ?_)
      · rw [if_pos c17] at h
        rw [← Option.some.inj h] at hj19
        exact hj19
      · rw [if_neg c17] at h
        refine run_iload 4 dX11_risk_96 rfl ?_
        refine run_iconst (v := 1) dX11_risk_98 rfl ?_
        refine run_iload 5 dX11_risk_99 rfl ?_
        refine run_ishl dX11_risk_101 ?_
        refine run_ior dX11_risk_102 ?_
        refine run_istore [(0, .ref (gA G 0)), (1, .int x1), (3, .int x3), (4, .ref (gA G n4)), (5, .int (x5 ||| ((1 : Int32) <<< (x6 &&& 31)))), (6, .int x6)] [1, 2, 3, 4, 0, 5] dX11_risk_103 (by decide) rfl ?_
        rw [← Option.some.inj h] at hj19
        exact hj19
def fX11_risk (x1 : Int32) (x2 : Int32) (x3 : Int32) (σ : Mem) : Option (Int32 × Mem) := (fX9_has 1 0 x1 σ).bind fun q1 => if q1.1 = true then ((fX9_has 1 1 x2 q1.2).bind fun q3 => if q3.1 = true then (gd (inb x2 2) ((fX8_holds (10 + 14 * (Int32.toNatClampNeg x2)) x3 q3.2).bind fun q6 => if q6.1 = true then (gd (inb x2 2) ((lX11_risk_59 x1 x3 (10 + 14 * (Int32.toNatClampNeg x2)) FU 0 0 q6.2).bind fun q21 => some ((q21.1), (q21.2)))) else (some ((-1), q6.2)))) else (some ((-1), q3.2))) else (some ((-1), q1.2))
set_option maxRecDepth 20000 in
theorem sX11_risk (G : GT) (d : Nat) {x1 : Int32} {x2 : Int32} {x3 : Int32}  {σ : Mem} {o : (Int32 × Mem)} (h : fX11_risk x1 x2 x3 σ = some o) : Spec G yX11_risk cX11_risk 7 (some .int) (d + HX11_risk) [.ref (gA G 0), .int x1, .int x2, .int x3] σ (kI fun x z => (x, z) = o) := by
  refine spec_run (by decide) (Nat.le_of_ble_eq_true rfl) ?_
  unfold fX11_risk at h
  show Run G RX11 cX11_risk 7 (some .int) _ 0 [(0, .ref (gA G 0)), (1, .int x1), (2, .int x2), (3, .int x3)] [] σ
  refine run_aload_n 0 dX11_risk_0 rfl rfl ?_
  refine run_getr fl_X11_10 is_0 (by decide) rfl ce_0_0 dX11_risk_1 ?_
  refine run_iconst (v := 0) dX11_risk_4 rfl ?_
  refine run_iload_n 1 dX11_risk_5 rfl rfl ?_
  obtain ⟨q1, h25, h⟩ := Option.bind_eq_some_iff.mp h
  refine run_callVb (As := [.int 0, .int x1]) (fun r z => (r, z) = q1) mw_X9_has mi_X9_has ml_X11_109 is_1 (by decide) rfl rfl rfl (RF.lt (HX11_risk_X9_has_lt d)) (Nat.le_of_ble_eq_true rfl) dX11_risk_6 (sX9_has G d is_1 h25) (fun r z h8 => ?_) rfl
  rw [show r = q1.1 from congrArg Prod.fst h8, show z = q1.2 from congrArg Prod.snd h8]
  clear h8
  refine run_ifb_eq 40 dX11_risk_9 (by decide) (fun c2 => ?_) (fun c2 => ?_)
  · rw [if_neg c2] at h
    refine run_iconst (v := -1) dX11_risk_40 rfl ?_
    exact run_iret dX11_risk_41 ⟨_, rfl, Option.some.inj h⟩
  · rw [if_pos c2] at h
    refine run_aload_n 0 dX11_risk_12 rfl rfl ?_
    refine run_getr fl_X11_10 is_0 (by decide) rfl ce_0_0 dX11_risk_13 ?_
    refine run_iconst (v := 1) dX11_risk_16 rfl ?_
    refine run_iload_n 2 dX11_risk_17 rfl rfl ?_
    obtain ⟨q3, h24, h⟩ := Option.bind_eq_some_iff.mp h
    refine run_callVb (As := [.int 1, .int x2]) (fun r z => (r, z) = q3) mw_X9_has mi_X9_has ml_X11_109 is_1 (by decide) rfl rfl rfl (RF.lt (HX11_risk_X9_has_lt d)) (Nat.le_of_ble_eq_true rfl) dX11_risk_18 (sX9_has G d is_1 h24) (fun r z h8 => ?_) rfl
    rw [show r = q3.1 from congrArg Prod.fst h8, show z = q3.2 from congrArg Prod.snd h8]
    clear h8
    refine run_ifb_eq 40 dX11_risk_21 (by decide) (fun c4 => ?_) (fun c4 => ?_)
    · rw [if_neg c4] at h
      refine run_iconst (v := -1) dX11_risk_40 rfl ?_
      exact run_iret dX11_risk_41 ⟨_, rfl, Option.some.inj h⟩
    · rw [if_pos c4] at h
      refine run_aload_n 0 dX11_risk_24 rfl rfl ?_
      refine run_getr fl_X11_10 is_0 (by decide) rfl ce_0_0 dX11_risk_25 ?_
      refine run_getr fl_X11_43 is_1 (by decide) rfl ce_1_6 dX11_risk_28 ?_
      refine run_iload_n 2 dX11_risk_31 rfl rfl ?_
      obtain ⟨g5, h⟩ := gd_s h
      refine run_aald' (j := (Int32.toNatClampNeg x2)) is_5 (by decide) (by decide) (t0 := 7) rfl ln_5 g5 rfl (es_5 _) dX11_risk_32 ?_
      refine run_iload_n 3 dX11_risk_33 rfl rfl ?_
      obtain ⟨q6, h23, h⟩ := Option.bind_eq_some_iff.mp h
      refine run_callVb (As := [.int x3]) (fun r z => (r, z) = q6) mw_X8_holds mi_X8_holds ml_X11_136 (el_5 (inb_lt g5)) (by decide) rfl rfl rfl (RF.lt (HX11_risk_X8_holds_lt d)) (Nat.le_of_ble_eq_true rfl) dX11_risk_34 (sX8_holds G d (el_5 (inb_lt g5)) h23) (fun r z h8 => ?_) rfl
      rw [show r = q6.1 from congrArg Prod.fst h8, show z = q6.2 from congrArg Prod.snd h8]
      clear h8
      refine run_ifb_ne 42 dX11_risk_37 (by decide) (fun c7 => ?_) (fun c7 => ?_)
      · rw [if_pos c7] at h
        refine run_aload_n 0 dX11_risk_42 rfl rfl ?_
        refine run_getr fl_X11_10 is_0 (by decide) rfl ce_0_0 dX11_risk_43 ?_
        refine run_getr fl_X11_43 is_1 (by decide) rfl ce_1_6 dX11_risk_46 ?_
        refine run_iload_n 2 dX11_risk_49 rfl rfl ?_
        obtain ⟨g8, h⟩ := gd_s h
        refine run_aald' (j := (Int32.toNatClampNeg x2)) is_5 (by decide) (by decide) (t0 := 7) rfl ln_5 g8 rfl (es_5 _) dX11_risk_50 ?_
        refine run_astore [(0, .ref (gA G 0)), (1, .int x1), (3, .int x3), (4, .ref (gA G (10 + 14 * (Int32.toNatClampNeg x2))))] [1, 2, 4, 0] dX11_risk_51 (by decide) rfl ?_
        refine run_iconst (v := 0) dX11_risk_53 rfl ?_
        refine run_istore [(0, .ref (gA G 0)), (1, .int x1), (3, .int x3), (4, .ref (gA G (10 + 14 * (Int32.toNatClampNeg x2)))), (5, .int 0)] [1, 2, 3, 4, 0] dX11_risk_54 (by decide) rfl ?_
        refine run_iconst (v := 0) dX11_risk_56 rfl ?_
        refine run_istore [(0, .ref (gA G 0)), (1, .int x1), (3, .int x3), (4, .ref (gA G (10 + 14 * (Int32.toNatClampNeg x2)))), (5, .int 0), (6, .int 0)] [1, 2, 3, 4, 5, 0] dX11_risk_57 (by decide) rfl ?_
        obtain ⟨q21, h22, h⟩ := Option.bind_eq_some_iff.mp h
        refine lpX11_risk_59 G d _ _ _ (el_5 (inb_lt g8)) _ _ _ _ _ h22 ?_
        refine run_iload 0 dX11_risk_111 rfl ?_
        exact run_iret dX11_risk_113 ⟨_, rfl, Option.some.inj h⟩
      · rw [if_neg c7] at h
        refine run_iconst (v := -1) dX11_risk_40 rfl ?_
        exact run_iret dX11_risk_41 ⟨_, rfl, Option.some.inj h⟩
def HX11_after : Nat := 7
theorem HX11_after_X11_play_lt (d : Nat) : d + HX11_play < d + HX11_after := Nat.add_lt_add_left (by decide) d
theorem HX11_after_X3_hot_lt (d : Nat) : d + HX3_hot < d + HX11_after := Nat.add_lt_add_left (by decide) d
theorem HX11_after_X3_often_lt (d : Nat) : d + HX3_often < d + HX11_after := Nat.add_lt_add_left (by decide) d
theorem HX11_after_X3_topStamp_lt (d : Nat) : d + HX3_topStamp < d + HX11_after := Nat.add_lt_add_left (by decide) d
theorem HX11_after_0 (d : Nat) : 0 < d + HX11_after := Nat.lt_of_lt_of_le (by decide) (Nat.le_add_left _ d)
def fX11_after (x1 : Int32) (x2 : Int32) (x3 : Int32) (x4 : Int32) (σ : Mem) : Option (Int32 × Mem) := (fX11_play x1 x2 x3 40 σ).bind fun q1 => if q1.1 = true then (if x4 = 0 then ((fX3_often q1.2).bind fun q4 => some (q4.1, q4.2)) else (if x4 = 1 then ((fX3_hot q1.2).bind fun q7 => some (q7.1, q7.2)) else (if x4 = 2 then (some ((q1.2 146 17), q1.2)) else (if x4 = 3 then (some ((q1.2 146 18), q1.2)) else (if x4 = 4 then (some ((q1.2 146 19), q1.2)) else (if x4 = 5 then ((fX3_topStamp q1.2).bind fun q13 => some (q13.1, q13.2)) else (some ((-2), q1.2)))))))) else (some ((-2), q1.2))
set_option maxRecDepth 20000 in
theorem sX11_after (G : GT) (d : Nat) {x1 : Int32} {x2 : Int32} {x3 : Int32} {x4 : Int32}  {σ : Mem} {o : (Int32 × Mem)} (h : fX11_after x1 x2 x3 x4 σ = some o) : Spec G yX11_after cX11_after 5 (some .int) (d + HX11_after) [.ref (gA G 0), .int x1, .int x2, .int x3, .int x4] σ (kI fun x z => (x, z) = o) := by
  refine spec_run (by decide) (Nat.le_of_ble_eq_true rfl) ?_
  unfold fX11_after at h
  show Run G RX11 cX11_after 5 (some .int) _ 0 [(0, .ref (gA G 0)), (1, .int x1), (2, .int x2), (3, .int x3), (4, .int x4)] [] σ
  refine run_aload_n 0 dX11_after_0 rfl rfl ?_
  refine run_iload_n 1 dX11_after_1 rfl rfl ?_
  refine run_iload_n 2 dX11_after_2 rfl rfl ?_
  refine run_iload_n 3 dX11_after_3 rfl rfl ?_
  refine run_bipush (v := 40) dX11_after_4 rfl ?_
  obtain ⟨q1, h15, h⟩ := Option.bind_eq_some_iff.mp h
  refine run_callVb (As := [.int x1, .int x2, .int x3, .int 40]) (fun r z => (r, z) = q1) mw_X11_play mi_X11_play ml_X11_166 is_0 (by decide) rfl rfl rfl (RF.lt (HX11_after_X11_play_lt d)) (Nat.le_of_ble_eq_true rfl) dX11_after_6 (sX11_play G d  h15) (fun r z h8 => ?_) rfl
  rw [show r = q1.1 from congrArg Prod.fst h8, show z = q1.2 from congrArg Prod.snd h8]
  clear h8
  refine run_ifb_ne 15 dX11_after_9 (by decide) (fun c2 => ?_) (fun c2 => ?_)
  · rw [if_pos c2] at h
    refine run_iload 4 dX11_after_15 rfl ?_
    by_cases c3 : x4 = 0
    · rw [if_pos c3] at h
      refine run_tblIn 56 dX11_after_17 (by rw [c3]; decide) (by rw [c3]; decide) (off := 39) (by rw [c3]; rfl) (by decide) ?_
      refine run_aload_n 0 dX11_after_56 rfl rfl ?_
      refine run_getr fl_X11_50 is_0 (by decide) rfl ce_0_4 dX11_after_57 ?_
      obtain ⟨q4, h5, h⟩ := Option.bind_eq_some_iff.mp h
      refine run_callVi (As := []) (fun r z => (r, z) = q4) mw_X3_often mi_X3_often ml_X11_286 is_146 (by decide) rfl rfl rfl (RF.lt (HX11_after_X3_often_lt d)) (Nat.le_of_ble_eq_true rfl) dX11_after_60 (sX3_often G d  h5) (fun r z h8 => ?_) rfl
      rw [show r = q4.1 from congrArg Prod.fst h8, show z = q4.2 from congrArg Prod.snd h8]
      clear h8
      exact run_iret dX11_after_63 ⟨_, rfl, Option.some.inj h⟩
    · rw [if_neg c3] at h
      by_cases c6 : x4 = 1
      · rw [if_pos c6] at h
        refine run_tblIn 64 dX11_after_17 (by rw [c6]; decide) (by rw [c6]; decide) (off := 47) (by rw [c6]; rfl) (by decide) ?_
        refine run_aload_n 0 dX11_after_64 rfl rfl ?_
        refine run_getr fl_X11_50 is_0 (by decide) rfl ce_0_4 dX11_after_65 ?_
        obtain ⟨q7, h8, h⟩ := Option.bind_eq_some_iff.mp h
        refine run_callVi (As := []) (fun r z => (r, z) = q7) mw_X3_hot mi_X3_hot ml_X11_289 is_146 (by decide) rfl rfl rfl (RF.lt (HX11_after_X3_hot_lt d)) (Nat.le_of_ble_eq_true rfl) dX11_after_68 (sX3_hot G d  h8) (fun r z h8 => ?_) rfl
        rw [show r = q7.1 from congrArg Prod.fst h8, show z = q7.2 from congrArg Prod.snd h8]
        clear h8
        exact run_iret dX11_after_71 ⟨_, rfl, Option.some.inj h⟩
      · rw [if_neg c6] at h
        by_cases c9 : x4 = 2
        · rw [if_pos c9] at h
          refine run_tblIn 72 dX11_after_17 (by rw [c9]; decide) (by rw [c9]; decide) (off := 55) (by rw [c9]; rfl) (by decide) ?_
          refine run_aload_n 0 dX11_after_72 rfl rfl ?_
          refine run_getr fl_X11_50 is_0 (by decide) rfl ce_0_4 dX11_after_73 ?_
          refine run_geti fl_X11_292 is_146 (by decide) rfl dX11_after_76 ?_
          exact run_iret dX11_after_79 ⟨_, rfl, Option.some.inj h⟩
        · rw [if_neg c9] at h
          by_cases c10 : x4 = 3
          · rw [if_pos c10] at h
            refine run_tblIn 80 dX11_after_17 (by rw [c10]; decide) (by rw [c10]; decide) (off := 63) (by rw [c10]; rfl) (by decide) ?_
            refine run_aload_n 0 dX11_after_80 rfl rfl ?_
            refine run_getr fl_X11_50 is_0 (by decide) rfl ce_0_4 dX11_after_81 ?_
            refine run_geti fl_X11_295 is_146 (by decide) rfl dX11_after_84 ?_
            exact run_iret dX11_after_87 ⟨_, rfl, Option.some.inj h⟩
          · rw [if_neg c10] at h
            by_cases c11 : x4 = 4
            · rw [if_pos c11] at h
              refine run_tblIn 88 dX11_after_17 (by rw [c11]; decide) (by rw [c11]; decide) (off := 71) (by rw [c11]; rfl) (by decide) ?_
              refine run_aload_n 0 dX11_after_88 rfl rfl ?_
              refine run_getr fl_X11_50 is_0 (by decide) rfl ce_0_4 dX11_after_89 ?_
              refine run_geti fl_X11_298 is_146 (by decide) rfl dX11_after_92 ?_
              exact run_iret dX11_after_95 ⟨_, rfl, Option.some.inj h⟩
            · rw [if_neg c11] at h
              by_cases c12 : x4 = 5
              · rw [if_pos c12] at h
                refine run_tblIn 96 dX11_after_17 (by rw [c12]; decide) (by rw [c12]; decide) (off := 79) (by rw [c12]; rfl) (by decide) ?_
                refine run_aload_n 0 dX11_after_96 rfl rfl ?_
                refine run_getr fl_X11_50 is_0 (by decide) rfl ce_0_4 dX11_after_97 ?_
                obtain ⟨q13, h14, h⟩ := Option.bind_eq_some_iff.mp h
                refine run_callVi (As := []) (fun r z => (r, z) = q13) mw_X3_topStamp mi_X3_topStamp ml_X11_301 is_146 (by decide) rfl rfl rfl (RF.lt (HX11_after_X3_topStamp_lt d)) (Nat.le_of_ble_eq_true rfl) dX11_after_100 (sX3_topStamp G d  h14) (fun r z h8 => ?_) rfl
                rw [show r = q13.1 from congrArg Prod.fst h8, show z = q13.2 from congrArg Prod.snd h8]
                clear h8
                exact run_iret dX11_after_103 ⟨_, rfl, Option.some.inj h⟩
              · rw [if_neg c12] at h
                refine run_tblOut 104 dX11_after_17 (by have tc3 := tbl_ne c3 (z := 0) rfl; have tc6 := tbl_ne c6 (z := 1) rfl; have tc9 := tbl_ne c9 (z := 2) rfl; have tc10 := tbl_ne c10 (z := 3) rfl; have tc11 := tbl_ne c11 (z := 4) rfl; have tc12 := tbl_ne c12 (z := 5) rfl; omega) (by decide) ?_
                refine run_bipush (v := -2) dX11_after_104 rfl ?_
                exact run_iret dX11_after_106 ⟨_, rfl, Option.some.inj h⟩
  · rw [if_neg c2] at h
    refine run_bipush (v := -2) dX11_after_12 rfl ?_
    exact run_iret dX11_after_14 ⟨_, rfl, Option.some.inj h⟩
