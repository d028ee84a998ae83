/-! methods, translated -/
def HX11_keys : Nat := 2
theorem HX11_keys_X8_holds_lt (d : Nat) : d + HX8_holds < d + HX11_keys := Nat.add_lt_add_left (by decide) d
theorem HX11_keys_X8_readsOf_lt (d : Nat) : d + HX8_readsOf < d + HX11_keys := Nat.add_lt_add_left (by decide) d
theorem HX11_keys_X8_writesOf_lt (d : Nat) : d + HX8_writesOf < d + HX11_keys := Nat.add_lt_add_left (by decide) d
theorem HX11_keys_X9_has_lt (d : Nat) : d + HX9_has < d + HX11_keys := Nat.add_lt_add_left (by decide) d
theorem HX11_keys_0 (d : Nat) : 0 < d + HX11_keys := Nat.lt_of_lt_of_le (by decide) (Nat.le_add_left _ d)
def fX11_keys (x1 : Int32) (x2 : Int32) (x3 : Int32) (σ : Mem) : Option (Int32 × Mem) := (fX9_has 1 1 x1 σ).bind fun q1 => if q1.1 = true then (gd (inb x1 2) ((fX8_holds (10 + 14 * (Int32.toNatClampNeg x1)) x2 q1.2).bind fun q4 => if q4.1 = true then (if x3 = 0 then (gd (inb x1 2) ((fX8_readsOf (10 + 14 * (Int32.toNatClampNeg x1)) x2 q4.2).bind fun q12 => some (q12.1, q12.2))) else (if x3 = 1 then (gd (inb x1 2) ((fX8_writesOf (10 + 14 * (Int32.toNatClampNeg x1)) x2 q4.2).bind fun q9 => some (q9.1, q9.2))) else (some ((-1), q4.2)))) else (some ((-1), q4.2)))) else (some ((-1), q1.2))
set_option maxRecDepth 20000 in
theorem sX11_keys (G : GT) (d : Nat) {x1 : Int32} {x2 : Int32} {x3 : Int32}  {σ : Mem} {o : (Int32 × Mem)} (h : fX11_keys x1 x2 x3 σ = some o) : Spec G yX11_keys cX11_keys 4 (some .int) (d + HX11_keys) [.ref (gA G 0), .int x1, .int x2, .int x3] σ (kI fun x z => (x, z) = o) := by
  refine spec_run (by decide) (Nat.le_of_ble_eq_true rfl) ?_
  unfold fX11_keys at h
  show Run G RX11 cX11_keys 4 (some .int) _ 0 [(0, .ref (gA G 0)), (1, .int x1), (2, .int x2), (3, .int x3)] [] σ
  refine run_aload_n 0 dX11_keys_0 rfl rfl ?_
  refine run_getr fl_X11_10 is_0 (by decide) rfl ce_0_0 dX11_keys_1 ?_
  refine run_iconst (v := 1) dX11_keys_4 rfl ?_
  refine run_iload_n 1 dX11_keys_5 rfl rfl ?_
  obtain ⟨q1, h15, h⟩ := Option.bind_eq_some_iff.mp h
  refine run_callVb (As := [.int 1, .int x1]) (fun r z => (r, z) = q1) mw_X9_has mi_X9_has ml_X11_109 is_1 (by decide) rfl rfl rfl (RF.lt (HX11_keys_X9_has_lt d)) (Nat.le_of_ble_eq_true rfl) dX11_keys_6 (sX9_has G d is_1 h15) (fun r z h8 => ?_) rfl
  rw [show r = q1.1 from congrArg Prod.fst h8, show z = q1.2 from congrArg Prod.snd h8]
  clear h8
  refine run_ifb_eq 28 dX11_keys_9 (by decide) (fun c2 => ?_) (fun c2 => ?_)
  · rw [if_neg c2] at h
    refine run_iconst (v := -1) dX11_keys_28 rfl ?_
    exact run_iret dX11_keys_29 ⟨_, rfl, Option.some.inj h⟩
  · rw [if_pos c2] at h
    refine run_aload_n 0 dX11_keys_12 rfl rfl ?_
    refine run_getr fl_X11_10 is_0 (by decide) rfl ce_0_0 dX11_keys_13 ?_
    refine run_getr fl_X11_43 is_1 (by decide) rfl ce_1_6 dX11_keys_16 ?_
    refine run_iload_n 1 dX11_keys_19 rfl rfl ?_
    obtain ⟨g3, h⟩ := gd_s h
    refine run_aald' (j := (Int32.toNatClampNeg x1)) is_5 (by decide) (by decide) (t0 := 7) rfl ln_5 g3 rfl (es_5 _) dX11_keys_20 ?_
    refine run_iload_n 2 dX11_keys_21 rfl rfl ?_
    obtain ⟨q4, h14, h⟩ := Option.bind_eq_some_iff.mp h
    refine run_callVb (As := [.int x2]) (fun r z => (r, z) = q4) mw_X8_holds mi_X8_holds ml_X11_136 (el_5 (inb_lt g3)) (by decide) rfl rfl rfl (RF.lt (HX11_keys_X8_holds_lt d)) (Nat.le_of_ble_eq_true rfl) dX11_keys_22 (sX8_holds G d (el_5 (inb_lt g3)) h14) (fun r z h8 => ?_) rfl
    rw [show r = q4.1 from congrArg Prod.fst h8, show z = q4.2 from congrArg Prod.snd h8]
    clear h8
    refine run_ifb_ne 30 dX11_keys_25 (by decide) (fun c5 => ?_) (fun c5 => ?_)
    · rw [if_pos c5] at h
      refine run_iload_n 3 dX11_keys_30 rfl rfl ?_
      refine run_if_ne 48 dX11_keys_31 (by decide) (fun c6 => ?_) (fun c6 => ?_)
      · rw [if_neg c6] at h
        refine run_iload_n 3 dX11_keys_48 rfl rfl ?_
        refine run_iconst (v := 1) dX11_keys_49 rfl ?_
        refine run_icmp_ne 69 dX11_keys_50 (by decide) (fun c7 => ?_) (fun c7 => ?_)
        · rw [if_neg c7] at h
          refine run_iconst (v := -1) dX11_keys_69 rfl ?_
          exact run_iret dX11_keys_70 ⟨_, rfl, Option.some.inj h⟩
        · rw [if_pos c7] at h
          refine run_aload_n 0 dX11_keys_53 rfl rfl ?_
          refine run_getr fl_X11_10 is_0 (by decide) rfl ce_0_0 dX11_keys_54 ?_
          refine run_getr fl_X11_43 is_1 (by decide) rfl ce_1_6 dX11_keys_57 ?_
          refine run_iload_n 1 dX11_keys_60 rfl rfl ?_
          obtain ⟨g8, h⟩ := gd_s h
          refine run_aald' (j := (Int32.toNatClampNeg x1)) is_5 (by decide) (by decide) (t0 := 7) rfl ln_5 g8 rfl (es_5 _) dX11_keys_61 ?_
          refine run_iload_n 2 dX11_keys_62 rfl rfl ?_
          obtain ⟨q9, h10, h⟩ := Option.bind_eq_some_iff.mp h
          refine run_callVi (As := [.int x2]) (fun r z => (r, z) = q9) mw_X8_writesOf mi_X8_writesOf ml_X11_257 (el_5 (inb_lt g8)) (by decide) rfl rfl rfl (RF.lt (HX11_keys_X8_writesOf_lt d)) (Nat.le_of_ble_eq_true rfl) dX11_keys_63 (sX8_writesOf G d (el_5 (inb_lt g8)) h10) (fun r z h8 => ?_) rfl
          rw [show r = q9.1 from congrArg Prod.fst h8, show z = q9.2 from congrArg Prod.snd h8]
          clear h8
          refine run_goto 70 dX11_keys_66 (by decide) ?_
          exact run_iret dX11_keys_70 ⟨_, rfl, Option.some.inj h⟩
      · rw [if_pos c6] at h
        refine run_aload_n 0 dX11_keys_34 rfl rfl ?_
        refine run_getr fl_X11_10 is_0 (by decide) rfl ce_0_0 dX11_keys_35 ?_
        refine run_getr fl_X11_43 is_1 (by decide) rfl ce_1_6 dX11_keys_38 ?_
        refine run_iload_n 1 dX11_keys_41 rfl rfl ?_
        obtain ⟨g11, h⟩ := gd_s h
        refine run_aald' (j := (Int32.toNatClampNeg x1)) is_5 (by decide) (by decide) (t0 := 7) rfl ln_5 g11 rfl (es_5 _) dX11_keys_42 ?_
        refine run_iload_n 2 dX11_keys_43 rfl rfl ?_
        obtain ⟨q12, h13, h⟩ := Option.bind_eq_some_iff.mp h
        refine run_callVi (As := [.int x2]) (fun r z => (r, z) = q12) mw_X8_readsOf mi_X8_readsOf ml_X11_254 (el_5 (inb_lt g11)) (by decide) rfl rfl rfl (RF.lt (HX11_keys_X8_readsOf_lt d)) (Nat.le_of_ble_eq_true rfl) dX11_keys_44 (sX8_readsOf G d (el_5 (inb_lt g11)) h13) (fun r z h8 => ?_) rfl
        rw [show r = q12.1 from congrArg Prod.fst h8, show z = q12.2 from congrArg Prod.snd h8]
        clear h8
        exact run_iret dX11_keys_47 ⟨_, rfl, Option.some.inj h⟩
    · rw [if_neg c5] at h
      refine run_iconst (v := -1) dX11_keys_28 rfl ?_
      exact run_iret dX11_keys_29 ⟨_, rfl, Option.some.inj h⟩
def HX11_free : Nat := 3
theorem HX11_free_X8_blinds_lt (d : Nat) : d + HX8_blinds < d + HX11_free := Nat.add_lt_add_left (by decide) d
theorem HX11_free_X8_freeCouples_lt (d : Nat) : d + HX8_freeCouples < d + HX11_free := Nat.add_lt_add_left (by decide) d
theorem HX11_free_X9_has_lt (d : Nat) : d + HX9_has < d + HX11_free := Nat.add_lt_add_left (by decide) d
theorem HX11_free_0 (d : Nat) : 0 < d + HX11_free := Nat.lt_of_lt_of_le (by decide) (Nat.le_add_left _ d)
def fX11_free (x1 : Int32) (x2 : Int32) (σ : Mem) : Option (Int32 × Mem) := (fX9_has 1 1 x1 σ).bind fun q1 => if q1.1 = true then (if x2 = 0 then (gd (inb x1 2) ((fX8_freeCouples (10 + 14 * (Int32.toNatClampNeg x1)) q1.2).bind fun q9 => some (q9.1, q9.2))) else (if x2 = 1 then (gd (inb x1 2) ((fX8_blinds (10 + 14 * (Int32.toNatClampNeg x1)) q1.2).bind fun q6 => some (q6.1, q6.2))) else (some ((-1), q1.2)))) else (some ((-1), q1.2))
set_option maxRecDepth 20000 in
theorem sX11_free (G : GT) (d : Nat) {x1 : Int32} {x2 : Int32}  {σ : Mem} {o : (Int32 × Mem)} (h : fX11_free x1 x2 σ = some o) : Spec G yX11_free cX11_free 3 (some .int) (d + HX11_free) [.ref (gA G 0), .int x1, .int x2] σ (kI fun x z => (x, z) = o) := by
  refine spec_run (by decide) (Nat.le_of_ble_eq_true rfl) ?_
  unfold fX11_free at h
  show Run G RX11 cX11_free 3 (some .int) _ 0 [(0, .ref (gA G 0)), (1, .int x1), (2, .int x2)] [] σ
  refine run_aload_n 0 dX11_free_0 rfl rfl ?_
  refine run_getr fl_X11_10 is_0 (by decide) rfl ce_0_0 dX11_free_1 ?_
  refine run_iconst (v := 1) dX11_free_4 rfl ?_
  refine run_iload_n 1 dX11_free_5 rfl rfl ?_
  obtain ⟨q1, h11, h⟩ := Option.bind_eq_some_iff.mp h
  refine run_callVb (As := [.int 1, .int x1]) (fun r z => (r, z) = q1) mw_X9_has mi_X9_has ml_X11_109 is_1 (by decide) rfl rfl rfl (RF.lt (HX11_free_X9_has_lt d)) (Nat.le_of_ble_eq_true rfl) dX11_free_6 (sX9_has G d is_1 h11) (fun r z h8 => ?_) rfl
  rw [show r = q1.1 from congrArg Prod.fst h8, show z = q1.2 from congrArg Prod.snd h8]
  clear h8
  refine run_ifb_ne 14 dX11_free_9 (by decide) (fun c2 => ?_) (fun c2 => ?_)
  · rw [if_pos c2] at h
    refine run_iload_n 2 dX11_free_14 rfl rfl ?_
    refine run_if_ne 31 dX11_free_15 (by decide) (fun c3 => ?_) (fun c3 => ?_)
    · rw [if_neg c3] at h
      refine run_iload_n 2 dX11_free_31 rfl rfl ?_
      refine run_iconst (v := 1) dX11_free_32 rfl ?_
      refine run_icmp_ne 51 dX11_free_33 (by decide) (fun c4 => ?_) (fun c4 => ?_)
      · rw [if_neg c4] at h
        refine run_iconst (v := -1) dX11_free_51 rfl ?_
        exact run_iret dX11_free_52 ⟨_, rfl, Option.some.inj h⟩
      · rw [if_pos c4] at h
        refine run_aload_n 0 dX11_free_36 rfl rfl ?_
        refine run_getr fl_X11_10 is_0 (by decide) rfl ce_0_0 dX11_free_37 ?_
        refine run_getr fl_X11_43 is_1 (by decide) rfl ce_1_6 dX11_free_40 ?_
        refine run_iload_n 1 dX11_free_43 rfl rfl ?_
        obtain ⟨g5, h⟩ := gd_s h
        refine run_aald' (j := (Int32.toNatClampNeg x1)) is_5 (by decide) (by decide) (t0 := 7) rfl ln_5 g5 rfl (es_5 _) dX11_free_44 ?_
        obtain ⟨q6, h7, h⟩ := Option.bind_eq_some_iff.mp h
        refine run_callVi (As := []) (fun r z => (r, z) = q6) mw_X8_blinds mi_X8_blinds ml_X11_263 (el_5 (inb_lt g5)) (by decide) rfl rfl rfl (RF.lt (HX11_free_X8_blinds_lt d)) (Nat.le_of_ble_eq_true rfl) dX11_free_45 (sX8_blinds G d (el_5 (inb_lt g5)) h7) (fun r z h8 => ?_) rfl
        rw [show r = q6.1 from congrArg Prod.fst h8, show z = q6.2 from congrArg Prod.snd h8]
        clear h8
        refine run_goto 52 dX11_free_48 (by decide) ?_
        exact run_iret dX11_free_52 ⟨_, rfl, Option.some.inj h⟩
    · rw [if_pos c3] at h
      refine run_aload_n 0 dX11_free_18 rfl rfl ?_
      refine run_getr fl_X11_10 is_0 (by decide) rfl ce_0_0 dX11_free_19 ?_
      refine run_getr fl_X11_43 is_1 (by decide) rfl ce_1_6 dX11_free_22 ?_
      refine run_iload_n 1 dX11_free_25 rfl rfl ?_
      obtain ⟨g8, h⟩ := gd_s h
      refine run_aald' (j := (Int32.toNatClampNeg x1)) is_5 (by decide) (by decide) (t0 := 7) rfl ln_5 g8 rfl (es_5 _) dX11_free_26 ?_
      obtain ⟨q9, h10, h⟩ := Option.bind_eq_some_iff.mp h
      refine run_callVi (As := []) (fun r z => (r, z) = q9) mw_X8_freeCouples mi_X8_freeCouples ml_X11_260 (el_5 (inb_lt g8)) (by decide) rfl rfl rfl (RF.lt (HX11_free_X8_freeCouples_lt d)) (Nat.le_of_ble_eq_true rfl) dX11_free_27 (sX8_freeCouples G d (el_5 (inb_lt g8)) h10) (fun r z h8 => ?_) rfl
      rw [show r = q9.1 from congrArg Prod.fst h8, show z = q9.2 from congrArg Prod.snd h8]
      clear h8
      exact run_iret dX11_free_30 ⟨_, rfl, Option.some.inj h⟩
  · rw [if_neg c2] at h
    refine run_iconst (v := -1) dX11_free_12 rfl ?_
    exact run_iret dX11_free_13 ⟨_, rfl, Option.some.inj h⟩
def HX11_count : Nat := 1
theorem HX11_count_0 (d : Nat) : 0 < d + HX11_count := Nat.lt_of_lt_of_le (by decide) (Nat.le_add_left _ d)
def fX11_count (x1 : Int32) (σ : Mem) : Option (Int32 × Mem) := if x1 < 0 then (some ((-2), σ)) else (if 4 ≤ x1 then (some ((-2), σ)) else (gd (inb x1 4) (some ((σ 3 (Int32.toNatClampNeg x1)), σ))))
set_option maxRecDepth 20000 in
theorem sX11_count (G : GT) (d : Nat) {x1 : Int32}  {σ : Mem} {o : (Int32 × Mem)} (h : fX11_count x1 σ = some o) : Spec G yX11_count cX11_count 2 (some .int) (d + HX11_count) [.ref (gA G 0), .int x1] σ (kI fun x z => (x, z) = o) := by
  refine spec_run (by decide) (Nat.le_of_ble_eq_true rfl) ?_
  unfold fX11_count at h
  show Run G RX11 cX11_count 2 (some .int) _ 0 [(0, .ref (gA G 0)), (1, .int x1)] [] σ
  refine run_iload_n 1 dX11_count_0 rfl rfl ?_
  refine run_if_lt 21 dX11_count_1 (by decide) (fun c1 => ?_) (fun c1 => ?_)
  · rw [if_pos c1] at h
    refine run_bipush (v := -2) dX11_count_21 rfl ?_
    exact run_iret dX11_count_23 ⟨_, rfl, Option.some.inj h⟩
  · rw [if_neg c1] at h
    refine run_iload_n 1 dX11_count_4 rfl rfl ?_
    refine run_iconst (v := 4) dX11_count_5 rfl ?_
    refine run_icmp_ge 21 dX11_count_6 (by decide) (fun c2 => ?_) (fun c2 => ?_)
    · rw [if_pos c2] at h
      refine run_bipush (v := -2) dX11_count_21 rfl ?_
      exact run_iret dX11_count_23 ⟨_, rfl, Option.some.inj h⟩
    · rw [if_neg c2] at h
      refine run_aload_n 0 dX11_count_9 rfl rfl ?_
      refine run_getr fl_X11_10 is_0 (by decide) rfl ce_0_0 dX11_count_10 ?_
      refine run_getr fl_X11_106 is_1 (by decide) rfl ce_1_4 dX11_count_13 ?_
      refine run_iload_n 1 dX11_count_16 rfl rfl ?_
      obtain ⟨g3, h⟩ := gd_s h
      refine run_iald' is_3 ln_3 g3 rfl dX11_count_17 ?_
      refine run_goto 23 dX11_count_18 (by decide) ?_
      exact run_iret dX11_count_23 ⟨_, rfl, Option.some.inj h⟩
def HX11_drawBelow : Nat := 1
theorem HX11_drawBelow_0 (d : Nat) : 0 < d + HX11_drawBelow := Nat.lt_of_lt_of_le (by decide) (Nat.le_add_left _ d)
def fX11_drawBelow (x1 : Int32) (σ : Mem) : Option (Int32 × Mem) := if x1 ≤ 0 then (some (0, (st2 σ 0 10 (((σ 0 10) * 1103515245) + 12345)))) else (gd (decide (¬ x1 = 0)) (some (((ushr ((st2 σ 0 10 (((σ 0 10) * 1103515245) + 12345)) 0 10) 16) % x1), (st2 σ 0 10 (((σ 0 10) * 1103515245) + 12345)))))
set_option maxRecDepth 20000 in
theorem sX11_drawBelow (G : GT) (d : Nat) {x1 : Int32}  {σ : Mem} {o : (Int32 × Mem)} (h : fX11_drawBelow x1 σ = some o) : Spec G yX11_drawBelow cX11_drawBelow 2 (some .int) (d + HX11_drawBelow) [.ref (gA G 0), .int x1] σ (kI fun x z => (x, z) = o) := by
  refine spec_run (by decide) (Nat.le_of_ble_eq_true rfl) ?_
  unfold fX11_drawBelow at h
  show Run G RX11 cX11_drawBelow 2 (some .int) _ 0 [(0, .ref (gA G 0)), (1, .int x1)] [] σ
  refine run_aload_n 0 dX11_drawBelow_0 rfl rfl ?_
  refine run_aload_n 0 dX11_drawBelow_1 rfl rfl ?_
  refine run_geti fl_X11_248 is_0 (by decide) rfl dX11_drawBelow_2 ?_
  refine run_ldcw kc_X11_321 dX11_drawBelow_5 ?_
  refine run_imul dX11_drawBelow_8 ?_
  refine run_sipush (v := 12345) dX11_drawBelow_9 rfl ?_
  refine run_iadd dX11_drawBelow_12 ?_
  refine run_puti fp_X11_248 is_0 (by decide) rfl dX11_drawBelow_13 ?_
  refine run_iload_n 1 dX11_drawBelow_16 rfl rfl ?_
  refine run_if_le 32 dX11_drawBelow_17 (by decide) (fun c1 => ?_) (fun c1 => ?_)
  · rw [if_pos c1] at h
    refine run_iconst (v := 0) dX11_drawBelow_32 rfl ?_
    exact run_iret dX11_drawBelow_33 ⟨_, rfl, Option.some.inj h⟩
  · rw [if_neg c1] at h
    refine run_aload_n 0 dX11_drawBelow_20 rfl rfl ?_
    refine run_geti fl_X11_248 is_0 (by decide) rfl dX11_drawBelow_21 ?_
    refine run_bipush (v := 16) dX11_drawBelow_24 rfl ?_
    refine run_ushr dX11_drawBelow_26 ?_
    refine run_iload_n 1 dX11_drawBelow_27 rfl rfl ?_
    obtain ⟨g2, h⟩ := gd_s h
    refine run_irem dX11_drawBelow_28 (of_decide_eq_true g2) ?_
    refine run_goto 33 dX11_drawBelow_29 (by decide) ?_
    exact run_iret dX11_drawBelow_33 ⟨_, rfl, Option.some.inj h⟩
def HX11_countWoven : Nat := 1
theorem HX11_countWoven_0 (d : Nat) : 0 < d + HX11_countWoven := Nat.lt_of_lt_of_le (by decide) (Nat.le_add_left _ d)
def fX11_countWoven (x1 : Int32) (x2 : Int32) (x3 : Int32) (σ : Mem) : Option Mem := if x2 = 1 then (some (st2 (st2 σ 266 0 ((σ 266 0) + x3)) 266 1 (((st2 σ 266 0 ((σ 266 0) + x3)) 266 1) + x3))) else ((if x1 = 0 then (some 2) else (some 3) : Option (Int32)).bind fun q3 => gd (inb q3 5) (gd (inb q3 5) (if x2 = 3 then ((some (st2 (st2 (st2 σ 266 0 ((σ 266 0) + x3)) 266 (Int32.toNatClampNeg q3) (((st2 σ 266 0 ((σ 266 0) + x3)) 266 (Int32.toNatClampNeg q3)) + x3)) 266 4 (((st2 (st2 σ 266 0 ((σ 266 0) + x3)) 266 (Int32.toNatClampNeg q3) (((st2 σ 266 0 ((σ 266 0) + x3)) 266 (Int32.toNatClampNeg q3)) + x3)) 266 4) + x3))).bind fun s7 => some s7) else (some (st2 (st2 σ 266 0 ((σ 266 0) + x3)) 266 (Int32.toNatClampNeg q3) (((st2 σ 266 0 ((σ 266 0) + x3)) 266 (Int32.toNatClampNeg q3)) + x3))))))
set_option maxRecDepth 20000 in
theorem sX11_countWoven (G : GT) (d : Nat) {x1 : Int32} {x2 : Int32} {x3 : Int32}  {σ : Mem} {o : Mem} (h : fX11_countWoven x1 x2 x3 σ = some o) : Spec G yX11_countWoven cX11_countWoven 4 none (d + HX11_countWoven) [.ref (gA G 0), .int x1, .int x2, .int x3] σ (kV fun z => z = o) := by
  refine spec_run (by decide) (Nat.le_of_ble_eq_true rfl) ?_
  unfold fX11_countWoven at h
  show Run G RX11 cX11_countWoven 4 none _ 0 [(0, .ref (gA G 0)), (1, .int x1), (2, .int x2), (3, .int x3)] [] σ
  refine run_aload_n 0 dX11_countWoven_0 rfl rfl ?_
  refine run_getr fl_X11_68 is_0 (by decide) rfl ce_0_7 dX11_countWoven_1 ?_
  refine run_iconst (v := 0) dX11_countWoven_4 rfl ?_
  refine run_dup2 dX11_countWoven_5 rfl rfl ?_
  refine run_iald' (j := 0) is_266 ln_266 (by decide) rfl dX11_countWoven_6 ?_
  refine run_iload_n 3 dX11_countWoven_7 rfl rfl ?_
  refine run_iadd dX11_countWoven_8 ?_
  refine run_iast' (j := 0) is_266 ln_266 (by decide) rfl dX11_countWoven_9 ?_
  refine run_iload_n 2 dX11_countWoven_10 rfl rfl ?_
  refine run_iconst (v := 1) dX11_countWoven_11 rfl ?_
  refine run_icmp_ne 26 dX11_countWoven_12 (by decide) (fun c1 => ?_) (fun c1 => ?_)
  · rw [if_neg c1] at h
    refine run_aload_n 0 dX11_countWoven_26 rfl rfl ?_
    refine run_getr fl_X11_68 is_0 (by decide) rfl ce_0_7 dX11_countWoven_27 ?_
    refine run_iload_n 1 dX11_countWoven_30 rfl rfl ?_
    obtain ⟨q3, h, h9⟩ := Option.bind_eq_some_iff.mp h
    have hj8 : Run G RX11 cX11_countWoven 4 none (mF G (d + HX11_countWoven) (kV fun z => z = o)) 39 [(0, .ref (gA G 0)), (2, .int x2), (3, .int x3)] [.int q3, .ref (gA G 266)] (st2 σ 266 0 ((σ 266 0) + x3)) := by
      clear h
      have h := h9
      clear h9
      refine run_dup2 dX11_countWoven_39 rfl rfl ?_
      obtain ⟨g4, h⟩ := gd_s h
      refine run_iald' is_266 ln_266 g4 rfl dX11_countWoven_40 ?_
      refine run_iload_n 2 dX11_countWoven_41 rfl rfl ?_
      refine run_iadd dX11_countWoven_42 ?_
      obtain ⟨g5, h⟩ := gd_s h
      refine run_iast' is_266 ln_266 g5 rfl dX11_countWoven_43 ?_
      refine run_iload_n 1 dX11_countWoven_44 rfl rfl ?_
      refine run_iconst (v := 3) dX11_countWoven_45 rfl ?_
      refine run_icmp_ne 59 dX11_countWoven_46 (by decide) (fun c6 => ?_) (fun c6 => ?_)
      · rw [if_neg c6] at h
        exact run_vret dX11_countWoven_59 ⟨rfl, Option.some.inj h⟩
      · rw [if_pos c6] at h
        refine run_aload_n 0 dX11_countWoven_49 rfl rfl ?_
        refine run_getr fl_X11_68 is_0 (by decide) rfl ce_0_7 dX11_countWoven_50 ?_
        refine run_iconst (v := 4) dX11_countWoven_53 rfl ?_
        refine run_dup2 dX11_countWoven_54 rfl rfl ?_
        refine run_iald' (j := 4) is_266 ln_266 (by decide) rfl dX11_countWoven_55 ?_
        refine run_iload_n 2 dX11_countWoven_56 rfl rfl ?_
        refine run_iadd dX11_countWoven_57 ?_
        refine run_iast' (j := 4) is_266 ln_266 (by decide) rfl dX11_countWoven_58 ?_
        rw [Option.bind_some] at h
        refine run_mem (fun s7 es7 => ?_)
        rw [← es7] at h
        exact run_vret dX11_countWoven_59 ⟨rfl, Option.some.inj h⟩
    clear h9
    refine run_if_ne 38 dX11_countWoven_31 (by decide) (fun c2 => ?_) (fun c2 => ?_)
    · rw [if_neg c2] at h
      refine run_iconst (v := 3) dX11_countWoven_38 rfl ?_
      rw [← Option.some.inj h] at hj8
      refine run_forget [0, 2, 3] rfl ?_
      exact hj8
    · rw [if_pos c2] at h
      refine run_iconst (v := 2) dX11_countWoven_34 rfl ?_
      refine run_goto 39 dX11_countWoven_35 (by decide) ?_
      rw [← Option.some.inj h] at hj8
      refine run_forget [0, 2, 3] rfl ?_
      exact hj8
  · rw [if_pos c1] at h
    refine run_aload_n 0 dX11_countWoven_15 rfl rfl ?_
    refine run_getr fl_X11_68 is_0 (by decide) rfl ce_0_7 dX11_countWoven_16 ?_
    refine run_iconst (v := 1) dX11_countWoven_19 rfl ?_
    refine run_dup2 dX11_countWoven_20 rfl rfl ?_
    refine run_iald' (j := 1) is_266 ln_266 (by decide) rfl dX11_countWoven_21 ?_
    refine run_iload_n 3 dX11_countWoven_22 rfl rfl ?_
    refine run_iadd dX11_countWoven_23 ?_
    refine run_iast' (j := 1) is_266 ln_266 (by decide) rfl dX11_countWoven_24 ?_
    exact run_vret dX11_countWoven_25 ⟨rfl, Option.some.inj h⟩
def HX11_waysAhead : Nat := 1
theorem HX11_waysAhead_0 (d : Nat) : 0 < d + HX11_waysAhead := Nat.lt_of_lt_of_le (by decide) (Nat.le_add_left _ d)
def lX11_waysAhead_4 (x0 : Int32) (x1 : Int32) : Nat → Int32 → Int32 → Mem → Option (Int32 × Mem)
  | 0, _, _, _ => none
  | n + 1, x2, x3, σ => if x1 < x3 then (some (x2, σ)) else (if x0 ≤ 0 then (some (x2, σ)) else (gd (decide (¬ x3 = 0)) (lX11_waysAhead_4 x0 x1 n ((x2 * ((x0 - 1) + x3)) / x3) (x3 + 1) σ)))
set_option maxRecDepth 20000 in
theorem lpX11_waysAhead_4 (G : GT) (d : Nat) (x0 : Int32) (x1 : Int32)  {K : Option Value → Mem → Prop} : ∀ (n : Nat) (x2 : Int32) (x3 : Int32) (σ : Mem) (o : Int32 × Mem), lX11_waysAhead_4 x0 x1 n x2 x3 σ = some o → (Run G RX11 cX11_waysAhead 4 (some .int) (mF G (d + HX11_waysAhead) K) 29 [(2, .int (o.1))] [] (o.2)) → Run G RX11 cX11_waysAhead 4 (some .int) (mF G (d + HX11_waysAhead) K) 4 [(0, .int x0), (1, .int x1), (2, .int x2), (3, .int x3)] [] σ := by
  intro n
  induction n with
  | zero => intro x2 x3 σ o h; exact absurd h (by simp [lX11_waysAhead_4])
  | succ n ih =>
    intro x2 x3 σ o h kx
    rw [lX11_waysAhead_4] at h
    refine run_iload_n 3 dX11_waysAhead_4 rfl rfl ?_
    refine run_iload_n 1 dX11_waysAhead_5 rfl rfl ?_
    refine run_icmp_gt 29 dX11_waysAhead_6 (by decide) (fun c4 => ?_) (fun c4 => ?_)
    · rw [if_pos c4] at h
      rw [← Option.some.inj h] at kx
      refine run_forget [2] rfl ?_
      exact kx
    · rw [if_neg c4] at h
      refine run_iload_n 0 dX11_waysAhead_9 rfl rfl ?_
      refine run_if_le 29 dX11_waysAhead_10 (by decide) (fun c5 => ?_) (fun c5 => ?_)
      · rw [if_pos c5] at h
        rw [← Option.some.inj h] at kx
        refine run_forget [2] rfl ?_
        exact kx
      · rw [if_neg c5] at h
        refine run_iload_n 2 dX11_waysAhead_13 rfl rfl ?_
        refine run_iload_n 0 dX11_waysAhead_14 rfl rfl ?_
        refine run_iconst (v := 1) dX11_waysAhead_15 rfl ?_
        refine run_isub dX11_waysAhead_16 ?_
        refine run_iload_n 3 dX11_waysAhead_17 rfl rfl ?_
        refine run_iadd dX11_waysAhead_18 ?_
        refine run_imul dX11_waysAhead_19 ?_
        refine run_iload_n 3 dX11_waysAhead_20 rfl rfl ?_
        obtain ⟨g6, h⟩ := gd_s h
        refine run_idiv dX11_waysAhead_21 (of_decide_eq_true g6) ?_
        refine run_istore_n [(0, .int x0), (1, .int x1), (2, .int ((x2 * ((x0 - 1) + x3)) / x3)), (3, .int x3)] [1, 2, 0, 3] dX11_waysAhead_22 rfl (by decide) rfl ?_
        refine run_iinc 3 [(0, .int x0), (1, .int x1), (2, .int ((x2 * ((x0 - 1) + x3)) / x3)), (3, .int (x3 + 1))] [1, 2, 3, 0] dX11_waysAhead_23 rfl rfl (by decide) rfl ?_
        refine run_goto 4 dX11_waysAhead_26 (by decide) ?_
        exact ih _ _ _ _ h kx
def fX11_waysAhead (x0 : Int32) (x1 : Int32) (σ : Mem) : Option (Int32 × Mem) := (lX11_waysAhead_4 x0 x1 FU 1 1 σ).bind fun q7 => some ((q7.1), (q7.2))
set_option maxRecDepth 20000 in
theorem sX11_waysAhead (G : GT) (d : Nat) {x0 : Int32} {x1 : Int32}  {σ : Mem} {o : (Int32 × Mem)} (h : fX11_waysAhead x0 x1 σ = some o) : Spec G yX11_waysAhead cX11_waysAhead 4 (some .int) (d + HX11_waysAhead) [.int x0, .int x1] σ (kI fun x z => (x, z) = o) := by
  refine spec_run (by decide) (Nat.le_of_ble_eq_true rfl) ?_
  unfold fX11_waysAhead at h
  show Run G RX11 cX11_waysAhead 4 (some .int) _ 0 [(0, .int x0), (1, .int x1)] [] σ
  refine run_iconst (v := 1) dX11_waysAhead_0 rfl ?_
  refine run_istore_n [(0, .int x0), (1, .int x1), (2, .int 1)] [1, 2, 0] dX11_waysAhead_1 rfl (by decide) rfl ?_
  refine run_iconst (v := 1) dX11_waysAhead_2 rfl ?_
  refine run_istore_n [(0, .int x0), (1, .int x1), (2, .int 1), (3, .int 1)] [1, 2, 3, 0] dX11_waysAhead_3 rfl (by decide) rfl ?_
  obtain ⟨q7, h8, h⟩ := Option.bind_eq_some_iff.mp h
  refine lpX11_waysAhead_4 G d _ _ _ _ _ _ _ h8 ?_
  refine run_iload_n 0 dX11_waysAhead_29 rfl rfl ?_
  exact run_iret dX11_waysAhead_30 ⟨_, rfl, Option.some.inj h⟩
def HX11_inTen : Nat := 1
theorem HX11_inTen_0 (d : Nat) : 0 < d + HX11_inTen := Nat.lt_of_lt_of_le (by decide) (Nat.le_add_left _ d)
def fX11_inTen (x0 : Int32) (x1 : Int32) (σ : Mem) : Option (Bool × Mem) := if x0 < x1 then (some (false, σ)) else (if (x1 + 10) ≤ x0 then (some (false, σ)) else (some (true, σ)))
set_option maxRecDepth 20000 in
theorem sX11_inTen (G : GT) (d : Nat) {x0 : Int32} {x1 : Int32}  {σ : Mem} {o : (Bool × Mem)} (h : fX11_inTen x0 x1 σ = some o) : Spec G yX11_inTen cX11_inTen 2 (some .boolean) (d + HX11_inTen) [.int x0, .int x1] σ (kB fun x z => (x, z) = o) := by
  refine spec_run (by decide) (Nat.le_of_ble_eq_true rfl) ?_
  unfold fX11_inTen at h
  show Run G RX11 cX11_inTen 2 (some .boolean) _ 0 [(0, .int x0), (1, .int x1)] [] σ
  refine run_iload_n 0 dX11_inTen_0 rfl rfl ?_
  refine run_iload_n 1 dX11_inTen_1 rfl rfl ?_
  refine run_icmp_lt 17 dX11_inTen_2 (by decide) (fun c1 => ?_) (fun c1 => ?_)
  · rw [if_pos c1] at h
    refine run_iconst (v := 0) dX11_inTen_17 rfl ?_
    exact run_bret (b := false) dX11_inTen_18 ⟨_, rfl, Option.some.inj h⟩
  · rw [if_neg c1] at h
    refine run_iload_n 0 dX11_inTen_5 rfl rfl ?_
    refine run_iload_n 1 dX11_inTen_6 rfl rfl ?_
    refine run_bipush (v := 10) dX11_inTen_7 rfl ?_
    refine run_iadd dX11_inTen_9 ?_
    refine run_icmp_ge 17 dX11_inTen_10 (by decide) (fun c2 => ?_) (fun c2 => ?_)
    · rw [if_pos c2] at h
      refine run_iconst (v := 0) dX11_inTen_17 rfl ?_
      exact run_bret (b := false) dX11_inTen_18 ⟨_, rfl, Option.some.inj h⟩
    · rw [if_neg c2] at h
      refine run_iconst (v := 1) dX11_inTen_13 rfl ?_
      refine run_goto 18 dX11_inTen_14 (by decide) ?_
      exact run_bret (b := true) dX11_inTen_18 ⟨_, rfl, Option.some.inj h⟩
def HX11_keysThere : Nat := 1
theorem HX11_keysThere_0 (d : Nat) : 0 < d + HX11_keysThere := Nat.lt_of_lt_of_le (by decide) (Nat.le_add_left _ d)
def lX11_keysThere_4 (n0 : Nat) : Nat → Int32 → Int32 → Mem → Option (Int32 × Mem)
  | 0, _, _, _ => none
  | n + 1, x1, x2, σ => if 10 ≤ x2 then (some (x1, σ)) else (gd (inb x2 10) ((if (σ n0 (Int32.toNatClampNeg x2)) = (-1) then (some x1) else (some (x1 ||| ((1 : Int32) <<< (x2 &&& 31)))) : Option (Int32)).bind fun q8 => lX11_keysThere_4 n0 n q8 (x2 + 1) σ))
set_option maxRecDepth 20000 in
theorem lpX11_keysThere_4 (G : GT) (d : Nat) (n0 : Nat) (hn0 : Is n0 14) (hl0 : ln n0 = 10) {K : Option Value → Mem → Prop} : ∀ (n : Nat) (x1 : Int32) (x2 : Int32) (σ : Mem) (o : Int32 × Mem), lX11_keysThere_4 n0 n x1 x2 σ = some o → (Run G RX11 cX11_keysThere 3 (some .int) (mF G (d + HX11_keysThere) K) 29 [(1, .int (o.1))] [] (o.2)) → Run G RX11 cX11_keysThere 3 (some .int) (mF G (d + HX11_keysThere) K) 4 [(0, .ref (gA G n0)), (1, .int x1), (2, .int x2)] [] σ := by
  intro n
  induction n with
  | zero => intro x1 x2 σ o h; exact absurd h (by simp [lX11_keysThere_4])
  | succ n ih =>
    intro x1 x2 σ o h kx
    rw [lX11_keysThere_4] at h
    refine run_iload_n 2 dX11_keysThere_4 rfl rfl ?_
    refine run_bipush (v := 10) dX11_keysThere_5 rfl ?_
    refine run_icmp_ge 29 dX11_keysThere_7 (by decide) (fun c5 => ?_) (fun c5 => ?_)
    · rw [if_pos c5] at h
      rw [← Option.some.inj h] at kx
      refine run_forget [1] rfl ?_
      exact kx
    · rw [if_neg c5] at h
      refine run_aload_n 0 dX11_keysThere_10 rfl rfl ?_
      refine run_iload_n 2 dX11_keysThere_11 rfl rfl ?_
      obtain ⟨g6, h⟩ := gd_s h
      refine run_iald' hn0 hl0 g6 rfl dX11_keysThere_12 ?_
      refine run_iconst (v := -1) dX11_keysThere_13 rfl ?_
      obtain ⟨q8, h, h9⟩ := Option.bind_eq_some_iff.mp h
      have hj9 : Run G RX11 cX11_keysThere 3 (some .int) (mF G (d + HX11_keysThere) K) 23 [(0, .ref (gA G n0)), (1, .int q8), (2, .int x2)] [] σ := by
        clear h
        have h := h9
        clear h9
        refine run_iinc 2 [(0, .ref (gA G n0)), (1, .int q8), (2, .int (x2 + 1))] [1, 2, 0] dX11_keysThere_23 rfl rfl (by decide) rfl ?_
        refine run_goto 4 dX11_keysThere_26 (by decide) ?_
        exact ih _ _ _ _ h kx
      clear h9
      refine run_icmp_eq 23 dX11_keysThere_14 (by decide) (fun c7 => ?_) (fun c7 => ?_)
      · rw [if_pos c7] at h
        rw [← Option.some.inj h] at hj9
        exact hj9
      · rw [if_neg c7] at h
        refine run_iload_n 1 dX11_keysThere_17 rfl rfl ?_
        refine run_iconst (v := 1) dX11_keysThere_18 rfl ?_
        refine run_iload_n 2 dX11_keysThere_19 rfl rfl ?_
        refine run_ishl dX11_keysThere_20 ?_
        refine run_ior dX11_keysThere_21 ?_
        refine run_istore_n [(0, .ref (gA G n0)), (1, .int (x1 ||| ((1 : Int32) <<< (x2 &&& 31)))), (2, .int x2)] [1, 0, 2] dX11_keysThere_22 rfl (by decide) rfl ?_
        rw [← Option.some.inj h] at hj9
        exact hj9
def fX11_keysThere (n0 : Nat) (σ : Mem) : Option (Int32 × Mem) := (lX11_keysThere_4 n0 FU 0 0 σ).bind fun q10 => some ((q10.1), (q10.2))
set_option maxRecDepth 20000 in
theorem sX11_keysThere (G : GT) (d : Nat) {n0 : Nat} (hn0 : Is n0 14) (hl0 : ln n0 = 10) {σ : Mem} {o : (Int32 × Mem)} (h : fX11_keysThere n0 σ = some o) : Spec G yX11_keysThere cX11_keysThere 3 (some .int) (d + HX11_keysThere) [.ref (gA G n0)] σ (kI fun x z => (x, z) = o) := by
  refine spec_run (by decide) (Nat.le_of_ble_eq_true rfl) ?_
  unfold fX11_keysThere at h
  show Run G RX11 cX11_keysThere 3 (some .int) _ 0 [(0, .ref (gA G n0))] [] σ
  refine run_iconst (v := 0) dX11_keysThere_0 rfl ?_
  refine run_istore_n [(0, .ref (gA G n0)), (1, .int 0)] [1, 0] dX11_keysThere_1 rfl (by decide) rfl ?_
  refine run_iconst (v := 0) dX11_keysThere_2 rfl ?_
  refine run_istore_n [(0, .ref (gA G n0)), (1, .int 0), (2, .int 0)] [1, 2, 0] dX11_keysThere_3 rfl (by decide) rfl ?_
  obtain ⟨q10, h11, h⟩ := Option.bind_eq_some_iff.mp h
  refine lpX11_keysThere_4 G d _ hn0 hl0 _ _ _ _ _ h11 ?_
  refine run_iload_n 0 dX11_keysThere_29 rfl rfl ?_
  exact run_iret dX11_keysThere_30 ⟨_, rfl, Option.some.inj h⟩
def HX11_copyKeys : Nat := 1
theorem HX11_copyKeys_0 (d : Nat) : 0 < d + HX11_copyKeys := Nat.lt_of_lt_of_le (by decide) (Nat.le_add_left _ d)
def fX11_copyKeys (n0 : Nat) (n1 : Nat) (σ : Mem) : Option Mem := some (cp2 σ n0 n1 0 0 10)
set_option maxRecDepth 20000 in
theorem sX11_copyKeys (G : GT) (d : Nat) {n0 : Nat} {n1 : Nat} (hn0 : Is n0 14) (hl0 : ln n0 = 10) (hn1 : Is n1 14) (hl1 : ln n1 = 10) {σ : Mem} {o : Mem} (h : fX11_copyKeys n0 n1 σ = some o) : Spec G yX11_copyKeys cX11_copyKeys 2 none (d + HX11_copyKeys) [.ref (gA G n0), .ref (gA G n1)] σ (kV fun z => z = o) := by
  refine spec_run (by decide) (Nat.le_of_ble_eq_true rfl) ?_
  unfold fX11_copyKeys at h
  show Run G RX11 cX11_copyKeys 2 none _ 0 [(0, .ref (gA G n0)), (1, .ref (gA G n1))] [] σ
  refine run_aload_n 0 dX11_copyKeys_0 rfl rfl ?_
  refine run_iconst (v := 0) dX11_copyKeys_1 rfl ?_
  refine run_aload_n 1 dX11_copyKeys_2 rfl rfl ?_
  refine run_iconst (v := 0) dX11_copyKeys_3 rfl ?_
  refine run_bipush (v := 10) dX11_copyKeys_4 rfl ?_
  refine run_copyi' 0 0 10 rfl rfl rfl mc_X11_347 hn0 hn1 hl0 hl1 (by decide) (by decide) (by decide) (by decide) (by decide) (RF.lt (HX11_copyKeys_0 d)) (Nat.le_of_ble_eq_true rfl) dX11_copyKeys_6 ?_
  exact run_vret dX11_copyKeys_9 ⟨rfl, Option.some.inj h⟩
def HX11_sameKeys : Nat := 1
theorem HX11_sameKeys_0 (d : Nat) : 0 < d + HX11_sameKeys := Nat.lt_of_lt_of_le (by decide) (Nat.le_add_left _ d)
def lX11_sameKeys_2 (n0 : Nat) (n1 : Nat) : Nat → Int32 → Mem → Option ((Bool × Mem) ⊕ (Mem))
  | 0, _, _ => none
  | n + 1, x2, σ => if 10 ≤ x2 then (some (.inr σ)) else (gd (inb x2 10) (gd (inb x2 10) (if (σ n0 (Int32.toNatClampNeg x2)) = (σ n1 (Int32.toNatClampNeg x2)) then (lX11_sameKeys_2 n0 n1 n (x2 + 1) σ) else (some (.inl (false, σ))))))
set_option maxRecDepth 20000 in
theorem lpX11_sameKeys_2 (G : GT) (d : Nat) (n0 : Nat) (n1 : Nat) (hn0 : Is n0 14) (hl0 : ln n0 = 10) (hn1 : Is n1 14) (hl1 : ln n1 = 10) {K : Option Value → Mem → Prop} : ∀ (n : Nat) (x2 : Int32) (σ : Mem) (o : (Bool × Mem) ⊕ (Mem)), lX11_sameKeys_2 n0 n1 n x2 σ = some o → (∀ r, o = .inl r → K (some (.int (b2 r.1))) r.2) → (∀ t, o = .inr t → Run G RX11 cX11_sameKeys 3 (some .boolean) (mF G (d + HX11_sameKeys) K) 25 [] [] t) → Run G RX11 cX11_sameKeys 3 (some .boolean) (mF G (d + HX11_sameKeys) K) 2 [(0, .ref (gA G n0)), (1, .ref (gA G n1)), (2, .int x2)] [] σ := by
  intro n
  induction n with
  | zero => intro x2 σ o h; exact absurd h (by simp [lX11_sameKeys_2])
  | succ n ih =>
    intro x2 σ o h kr kx
    rw [lX11_sameKeys_2] at h
    refine run_iload_n 2 dX11_sameKeys_2 rfl rfl ?_
    refine run_bipush (v := 10) dX11_sameKeys_3 rfl ?_
    refine run_icmp_ge 25 dX11_sameKeys_5 (by decide) (fun c5 => ?_) (fun c5 => ?_)
    · rw [if_pos c5] at h
      refine run_forget [] rfl ?_
      exact kx _ (Option.some.inj h).symm
    · rw [if_neg c5] at h
      refine run_aload_n 0 dX11_sameKeys_8 rfl rfl ?_
      refine run_iload_n 2 dX11_sameKeys_9 rfl rfl ?_
      obtain ⟨g6, h⟩ := gd_s h
      refine run_iald' hn0 hl0 g6 rfl dX11_sameKeys_10 ?_
      refine run_aload_n 1 dX11_sameKeys_11 rfl rfl ?_
      refine run_iload_n 2 dX11_sameKeys_12 rfl rfl ?_
      obtain ⟨g7, h⟩ := gd_s h
      refine run_iald' hn1 hl1 g7 rfl dX11_sameKeys_13 ?_
      refine run_icmp_eq 19 dX11_sameKeys_14 (by decide) (fun c8 => ?_) (fun c8 => ?_)
      · rw [if_pos c8] at h
        refine run_iinc 2 [(0, .ref (gA G n0)), (1, .ref (gA G n1)), (2, .int (x2 + 1))] [1, 2, 0] dX11_sameKeys_19 rfl rfl (by decide) rfl ?_
        refine run_goto 2 dX11_sameKeys_22 (by decide) ?_
        exact ih _ _ _ h kr kx
      · rw [if_neg c8] at h
        refine run_iconst (v := 0) dX11_sameKeys_17 rfl ?_
        exact run_bret (b := false) dX11_sameKeys_18 (kr _ (Option.some.inj h).symm)
def fX11_sameKeys (n0 : Nat) (n1 : Nat) (σ : Mem) : Option (Bool × Mem) := (lX11_sameKeys_2 n0 n1 FU 0 σ).bind fun q9 => Sum.elim (fun q11 => some q11) (fun q9 => some (true, q9)) q9
set_option maxRecDepth 20000 in
theorem sX11_sameKeys (G : GT) (d : Nat) {n0 : Nat} {n1 : Nat} (hn0 : Is n0 14) (hl0 : ln n0 = 10) (hn1 : Is n1 14) (hl1 : ln n1 = 10) {σ : Mem} {o : (Bool × Mem)} (h : fX11_sameKeys n0 n1 σ = some o) : Spec G yX11_sameKeys cX11_sameKeys 3 (some .boolean) (d + HX11_sameKeys) [.ref (gA G n0), .ref (gA G n1)] σ (kB fun x z => (x, z) = o) := by
  refine spec_run (by decide) (Nat.le_of_ble_eq_true rfl) ?_
  unfold fX11_sameKeys at h
  show Run G RX11 cX11_sameKeys 3 (some .boolean) _ 0 [(0, .ref (gA G n0)), (1, .ref (gA G n1))] [] σ
  refine run_iconst (v := 0) dX11_sameKeys_0 rfl ?_
  refine run_istore_n [(0, .ref (gA G n0)), (1, .ref (gA G n1)), (2, .int 0)] [1, 2, 0] dX11_sameKeys_1 rfl (by decide) rfl ?_
  obtain ⟨q9a, h10, h⟩ := Option.bind_eq_some_iff.mp h
  refine lpX11_sameKeys_2 G d _ _ hn0 hl0 hn1 hl1 _ _ _ _ h10 (fun q11 e9 => ?_) (fun q9 e9 => ?_)
  · rw [e9, Sum.elim_inl] at h
    rw [← Option.some.inj h]
    exact ⟨_, rfl, rfl⟩
  · rw [e9, Sum.elim_inr] at h
    refine run_iconst (v := 1) dX11_sameKeys_25 rfl ?_
    exact run_bret (b := true) dX11_sameKeys_26 ⟨_, rfl, Option.some.inj h⟩
def HX11_hasBit : Nat := 1
theorem HX11_hasBit_0 (d : Nat) : 0 < d + HX11_hasBit := Nat.lt_of_lt_of_le (by decide) (Nat.le_add_left _ d)
def fX11_hasBit (x0 : Int32) (x1 : Int32) (σ : Mem) : Option (Bool × Mem) := if ((x0 >>> (x1 &&& 31)) &&& 1) = 0 then (some (false, σ)) else (some (true, σ))
set_option maxRecDepth 20000 in
theorem sX11_hasBit (G : GT) (d : Nat) {x0 : Int32} {x1 : Int32}  {σ : Mem} {o : (Bool × Mem)} (h : fX11_hasBit x0 x1 σ = some o) : Spec G yX11_hasBit cX11_hasBit 2 (some .boolean) (d + HX11_hasBit) [.int x0, .int x1] σ (kB fun x z => (x, z) = o) := by
  refine spec_run (by decide) (Nat.le_of_ble_eq_true rfl) ?_
  unfold fX11_hasBit at h
  show Run G RX11 cX11_hasBit 2 (some .boolean) _ 0 [(0, .int x0), (1, .int x1)] [] σ
  refine run_iload_n 0 dX11_hasBit_0 rfl rfl ?_
  refine run_iload_n 1 dX11_hasBit_1 rfl rfl ?_
  refine run_ishr dX11_hasBit_2 ?_
  refine run_iconst (v := 1) dX11_hasBit_3 rfl ?_
  refine run_iand dX11_hasBit_4 ?_
  refine run_if_eq 12 dX11_hasBit_5 (by decide) (fun c1 => ?_) (fun c1 => ?_)
  · rw [if_pos c1] at h
    refine run_iconst (v := 0) dX11_hasBit_12 rfl ?_
    exact run_bret (b := false) dX11_hasBit_13 ⟨_, rfl, Option.some.inj h⟩
  · rw [if_neg c1] at h
    refine run_iconst (v := 1) dX11_hasBit_8 rfl ?_
    refine run_goto 13 dX11_hasBit_9 (by decide) ?_
    exact run_bret (b := true) dX11_hasBit_13 ⟨_, rfl, Option.some.inj h⟩
def HX12_in : Nat := 1
theorem HX12_in_0 (d : Nat) : 0 < d + HX12_in := Nat.lt_of_lt_of_le (by decide) (Nat.le_add_left _ d)
def fX12_in (x0 : Int32) (x1 : Int32) (x2 : Int32) (σ : Mem) : Option (Bool × Mem) := if x0 < x1 then (some (false, σ)) else (if x2 < x0 then (some (false, σ)) else (some (true, σ)))
set_option maxRecDepth 20000 in
theorem sX12_in (G : GT) (d : Nat) {x0 : Int32} {x1 : Int32} {x2 : Int32}  {σ : Mem} {o : (Bool × Mem)} (h : fX12_in x0 x1 x2 σ = some o) : Spec G yX12_in cX12_in 3 (some .boolean) (d + HX12_in) [.int x0, .int x1, .int x2] σ (kB fun x z => (x, z) = o) := by
  refine spec_run (by decide) (Nat.le_of_ble_eq_true rfl) ?_
  unfold fX12_in at h
  show Run G RX12 cX12_in 3 (some .boolean) _ 0 [(0, .int x0), (1, .int x1), (2, .int x2)] [] σ
  refine run_iload_n 0 dX12_in_0 rfl rfl ?_
  refine run_iload_n 1 dX12_in_1 rfl rfl ?_
  refine run_icmp_lt 14 dX12_in_2 (by decide) (fun c1 => ?_) (fun c1 => ?_)
  · rw [if_pos c1] at h
    refine run_iconst (v := 0) dX12_in_14 rfl ?_
    exact run_bret (b := false) dX12_in_15 ⟨_, rfl, Option.some.inj h⟩
  · rw [if_neg c1] at h
    refine run_iload_n 0 dX12_in_5 rfl rfl ?_
    refine run_iload_n 2 dX12_in_6 rfl rfl ?_
    refine run_icmp_gt 14 dX12_in_7 (by decide) (fun c2 => ?_) (fun c2 => ?_)
    · rw [if_pos c2] at h
      refine run_iconst (v := 0) dX12_in_14 rfl ?_
      exact run_bret (b := false) dX12_in_15 ⟨_, rfl, Option.some.inj h⟩
    · rw [if_neg c2] at h
      refine run_iconst (v := 1) dX12_in_10 rfl ?_
      refine run_goto 15 dX12_in_11 (by decide) ?_
      exact run_bret (b := true) dX12_in_15 ⟨_, rfl, Option.some.inj h⟩
def HX12_has : Nat := 1
theorem HX12_has_0 (d : Nat) : 0 < d + HX12_has := Nat.lt_of_lt_of_le (by decide) (Nat.le_add_left _ d)
def fX12_has (x0 : Int32) (x1 : Int32) (σ : Mem) : Option (Bool × Mem) := if ((x0 >>> (x1 &&& 31)) &&& 1) = 1 then (some (true, σ)) else (some (false, σ))
set_option maxRecDepth 20000 in
theorem sX12_has (G : GT) (d : Nat) {x0 : Int32} {x1 : Int32}  {σ : Mem} {o : (Bool × Mem)} (h : fX12_has x0 x1 σ = some o) : Spec G yX12_has cX12_has 2 (some .boolean) (d + HX12_has) [.int x0, .int x1] σ (kB fun x z => (x, z) = o) := by
  refine spec_run (by decide) (Nat.le_of_ble_eq_true rfl) ?_
  unfold fX12_has at h
  show Run G RX12 cX12_has 2 (some .boolean) _ 0 [(0, .int x0), (1, .int x1)] [] σ
  refine run_iload_n 0 dX12_has_0 rfl rfl ?_
  refine run_iload_n 1 dX12_has_1 rfl rfl ?_
  refine run_ishr dX12_has_2 ?_
  refine run_iconst (v := 1) dX12_has_3 rfl ?_
  refine run_iand dX12_has_4 ?_
  refine run_iconst (v := 1) dX12_has_5 rfl ?_
  refine run_icmp_ne 13 dX12_has_6 (by decide) (fun c1 => ?_) (fun c1 => ?_)
  · rw [if_neg c1] at h
    refine run_iconst (v := 0) dX12_has_13 rfl ?_
    exact run_bret (b := false) dX12_has_14 ⟨_, rfl, Option.some.inj h⟩
  · rw [if_pos c1] at h
    refine run_iconst (v := 1) dX12_has_9 rfl ?_
    refine run_goto 14 dX12_has_10 (by decide) ?_
    exact run_bret (b := true) dX12_has_14 ⟨_, rfl, Option.some.inj h⟩
def HX12_greater : Nat := 1
theorem HX12_greater_0 (d : Nat) : 0 < d + HX12_greater := Nat.lt_of_lt_of_le (by decide) (Nat.le_add_left _ d)
def fX12_greater (x0 : Int32) (x1 : Int32) (σ : Mem) : Option (Int32 × Mem) := if x0 ≤ x1 then (some (x1, σ)) else (some (x0, σ))
set_option maxRecDepth 20000 in
theorem sX12_greater (G : GT) (d : Nat) {x0 : Int32} {x1 : Int32}  {σ : Mem} {o : (Int32 × Mem)} (h : fX12_greater x0 x1 σ = some o) : Spec G yX12_greater cX12_greater 2 (some .int) (d + HX12_greater) [.int x0, .int x1] σ (kI fun x z => (x, z) = o) := by
  refine spec_run (by decide) (Nat.le_of_ble_eq_true rfl) ?_
  unfold fX12_greater at h
  show Run G RX12 cX12_greater 2 (some .int) _ 0 [(0, .int x0), (1, .int x1)] [] σ
  refine run_iload_n 0 dX12_greater_0 rfl rfl ?_
  refine run_iload_n 1 dX12_greater_1 rfl rfl ?_
  refine run_icmp_le 9 dX12_greater_2 (by decide) (fun c1 => ?_) (fun c1 => ?_)
  · rw [if_pos c1] at h
    refine run_iload_n 1 dX12_greater_9 rfl rfl ?_
    exact run_iret dX12_greater_10 ⟨_, rfl, Option.some.inj h⟩
  · rw [if_neg c1] at h
    refine run_iload_n 0 dX12_greater_5 rfl rfl ?_
    refine run_goto 10 dX12_greater_6 (by decide) ?_
    exact run_iret dX12_greater_10 ⟨_, rfl, Option.some.inj h⟩
def HX12_lesser : Nat := 1
theorem HX12_lesser_0 (d : Nat) : 0 < d + HX12_lesser := Nat.lt_of_lt_of_le (by decide) (Nat.le_add_left _ d)
def fX12_lesser (x0 : Int32) (x1 : Int32) (σ : Mem) : Option (Int32 × Mem) := if x1 ≤ x0 then (some (x1, σ)) else (some (x0, σ))
set_option maxRecDepth 20000 in
theorem sX12_lesser (G : GT) (d : Nat) {x0 : Int32} {x1 : Int32}  {σ : Mem} {o : (Int32 × Mem)} (h : fX12_lesser x0 x1 σ = some o) : Spec G yX12_lesser cX12_lesser 2 (some .int) (d + HX12_lesser) [.int x0, .int x1] σ (kI fun x z => (x, z) = o) := by
  refine spec_run (by decide) (Nat.le_of_ble_eq_true rfl) ?_
  unfold fX12_lesser at h
  show Run G RX12 cX12_lesser 2 (some .int) _ 0 [(0, .int x0), (1, .int x1)] [] σ
  refine run_iload_n 0 dX12_lesser_0 rfl rfl ?_
  refine run_iload_n 1 dX12_lesser_1 rfl rfl ?_
  refine run_icmp_ge 9 dX12_lesser_2 (by decide) (fun c1 => ?_) (fun c1 => ?_)
  · rw [if_pos c1] at h
    refine run_iload_n 1 dX12_lesser_9 rfl rfl ?_
    exact run_iret dX12_lesser_10 ⟨_, rfl, Option.some.inj h⟩
  · rw [if_neg c1] at h
    refine run_iload_n 0 dX12_lesser_5 rfl rfl ?_
    refine run_goto 10 dX12_lesser_6 (by decide) ?_
    exact run_iret dX12_lesser_10 ⟨_, rfl, Option.some.inj h⟩
def HX12_ones : Nat := 2
theorem HX12_ones_X12_has_lt (d : Nat) : d + HX12_has < d + HX12_ones := Nat.add_lt_add_left (by decide) d
theorem HX12_ones_0 (d : Nat) : 0 < d + HX12_ones := Nat.lt_of_lt_of_le (by decide) (Nat.le_add_left _ d)
def lX12_ones_4 (x0 : Int32) : Nat → Int32 → Int32 → Mem → Option (Int32 × Mem)
  | 0, _, _, _ => none
  | n + 1, x1, x2, σ => if 10 ≤ x2 then (some (x1, σ)) else ((fX12_has x0 x2 σ).bind fun q6 => (if q6.1 = true then (some true) else (some false) : Option (Bool)).bind fun q8 => lX12_ones_4 x0 n (x1 + (b2 q8)) (x2 + 1) q6.2)
set_option maxRecDepth 20000 in
theorem lpX12_ones_4 (G : GT) (d : Nat) (x0 : Int32)  {K : Option Value → Mem → Prop} : ∀ (n : Nat) (x1 : Int32) (x2 : Int32) (σ : Mem) (o : Int32 × Mem), lX12_ones_4 x0 n x1 x2 σ = some o → (Run G RX12 cX12_ones 3 (some .int) (mF G (d + HX12_ones) K) 32 [(1, .int (o.1))] [] (o.2)) → Run G RX12 cX12_ones 3 (some .int) (mF G (d + HX12_ones) K) 4 [(0, .int x0), (1, .int x1), (2, .int x2)] [] σ := by
  intro n
  induction n with
  | zero => intro x1 x2 σ o h; exact absurd h (by simp [lX12_ones_4])
  | succ n ih =>
    intro x1 x2 σ o h kx
    rw [lX12_ones_4] at h
    refine run_iload_n 2 dX12_ones_4 rfl rfl ?_
    refine run_bipush (v := 10) dX12_ones_5 rfl ?_
    refine run_icmp_ge 32 dX12_ones_7 (by decide) (fun c5 => ?_) (fun c5 => ?_)
    · rw [if_pos c5] at h
      rw [← Option.some.inj h] at kx
      refine run_forget [1] rfl ?_
      exact kx
    · rw [if_neg c5] at h
      refine run_iload_n 1 dX12_ones_10 rfl rfl ?_
      refine run_iload_n 0 dX12_ones_11 rfl rfl ?_
      refine run_iload_n 2 dX12_ones_12 rfl rfl ?_
      obtain ⟨q6, h10, h⟩ := Option.bind_eq_some_iff.mp h
      refine run_callSb (As := [.int x0, .int x2]) (fun r z => (r, z) = q6) mw_X12_has ms_X12_has ml_X12_148 rfl (RF.lt (HX12_ones_X12_has_lt d)) (Nat.le_of_ble_eq_true rfl) dX12_ones_13 (sX12_has G d  h10) (fun r z h8 => ?_) rfl
      rw [show r = q6.1 from congrArg Prod.fst h8, show z = q6.2 from congrArg Prod.snd h8]
      clear h8
      obtain ⟨q8, h, h9⟩ := Option.bind_eq_some_iff.mp h
      have hj9 : Run G RX12 cX12_ones 3 (some .int) (mF G (d + HX12_ones) K) 24 [(0, .int x0), (2, .int x2)] [.int (b2 q8), .int x1] q6.2 := by
        clear h
        have h := h9
        clear h9
        refine run_iadd dX12_ones_24 ?_
        refine run_istore_n [(0, .int x0), (1, .int (x1 + (b2 q8))), (2, .int x2)] [1, 0, 2] dX12_ones_25 rfl (by decide) rfl ?_
        refine run_iinc 2 [(0, .int x0), (1, .int (x1 + (b2 q8))), (2, .int (x2 + 1))] [1, 2, 0] dX12_ones_26 rfl rfl (by decide) rfl ?_
        refine run_goto 4 dX12_ones_29 (by decide) ?_
        exact ih _ _ _ _ h kx
      clear h9
      refine run_ifb_eq 23 dX12_ones_16 (by decide) (fun c7 => ?_) (fun c7 => ?_)
      · rw [if_neg c7] at h
        refine run_iconst (v := 0) dX12_ones_23 rfl ?_
        rw [← Option.some.inj h] at hj9
        refine run_forget [0, 2] rfl ?_
        exact hj9
      · rw [if_pos c7] at h
        refine run_iconst (v := 1) dX12_ones_19 rfl ?_
        refine run_goto 24 dX12_ones_20 (by decide) ?_
        rw [← Option.some.inj h] at hj9
        refine run_forget [0, 2] rfl ?_
        exact hj9
def fX12_ones (x0 : Int32) (σ : Mem) : Option (Int32 × Mem) := (lX12_ones_4 x0 FU 0 0 σ).bind fun q11 => some ((q11.1), (q11.2))
set_option maxRecDepth 20000 in
theorem sX12_ones (G : GT) (d : Nat) {x0 : Int32}  {σ : Mem} {o : (Int32 × Mem)} (h : fX12_ones x0 σ = some o) : Spec G yX12_ones cX12_ones 3 (some .int) (d + HX12_ones) [.int x0] σ (kI fun x z => (x, z) = o) := by
  refine spec_run (by decide) (Nat.le_of_ble_eq_true rfl) ?_
  unfold fX12_ones at h
  show Run G RX12 cX12_ones 3 (some .int) _ 0 [(0, .int x0)] [] σ
  refine run_iconst (v := 0) dX12_ones_0 rfl ?_
  refine run_istore_n [(0, .int x0), (1, .int 0)] [1, 0] dX12_ones_1 rfl (by decide) rfl ?_
  refine run_iconst (v := 0) dX12_ones_2 rfl ?_
  refine run_istore_n [(0, .int x0), (1, .int 0), (2, .int 0)] [1, 2, 0] dX12_ones_3 rfl (by decide) rfl ?_
  obtain ⟨q11, h12, h⟩ := Option.bind_eq_some_iff.mp h
  refine lpX12_ones_4 G d _ _ _ _ _ _ h12 ?_
  refine run_iload_n 0 dX12_ones_32 rfl rfl ?_
  exact run_iret dX12_ones_33 ⟨_, rfl, Option.some.inj h⟩
def HX12_copyRow : Nat := 1
theorem HX12_copyRow_0 (d : Nat) : 0 < d + HX12_copyRow := Nat.lt_of_lt_of_le (by decide) (Nat.le_add_left _ d)
def lX12_copyRow_3 (n0 : Nat) (N0 : Nat) (x1 : Int32) (x2 : Int32) (x3 : Int32) : Nat → Int32 → Mem → Option (Mem)
  | 0, _, _ => none
  | n + 1, x4, σ => if x1 ≤ x4 then (some σ) else (gd (inb ((x1 * x2) + x4) N0) (gd (inb ((x1 * x3) + x4) N0) (lX12_copyRow_3 n0 N0 x1 x2 x3 n (x4 + 1) (st2 σ n0 (Int32.toNatClampNeg ((x1 * x3) + x4)) (σ n0 (Int32.toNatClampNeg ((x1 * x2) + x4)))))))
set_option maxRecDepth 20000 in
theorem lpX12_copyRow_3 (G : GT) (d : Nat) (n0 : Nat) (N0 : Nat) (x1 : Int32) (x2 : Int32) (x3 : Int32) (hn0 : Is n0 14) (hl0 : ln n0 = N0) (hb0 : N0 < 2 ^ 31) {K : Option Value → Mem → Prop} : ∀ (n : Nat) (x4 : Int32) (σ : Mem) (o : Mem), lX12_copyRow_3 n0 N0 x1 x2 x3 n x4 σ = some o → (Run G RX12 cX12_copyRow 5 none (mF G (d + HX12_copyRow) K) 31 [] [] o) → Run G RX12 cX12_copyRow 5 none (mF G (d + HX12_copyRow) K) 3 [(0, .ref (gA G n0)), (1, .int x1), (2, .int x2), (3, .int x3), (4, .int x4)] [] σ := by
  intro n
  induction n with
  | zero => intro x4 σ o h; exact absurd h (by simp [lX12_copyRow_3])
  | succ n ih =>
    intro x4 σ o h kx
    rw [lX12_copyRow_3] at h
    refine run_iload 4 dX12_copyRow_3 rfl ?_
    refine run_iload_n 1 dX12_copyRow_5 rfl rfl ?_
    refine run_icmp_ge 31 dX12_copyRow_6 (by decide) (fun c4 => ?_) (fun c4 => ?_)
    · rw [if_pos c4] at h
      rw [← Option.some.inj h] at kx
      refine run_forget [] rfl ?_
      exact kx
    · rw [if_neg c4] at h
      refine run_aload_n 0 dX12_copyRow_9 rfl rfl ?_
      refine run_iload_n 1 dX12_copyRow_10 rfl rfl ?_
      refine run_iload_n 3 dX12_copyRow_11 rfl rfl ?_
      refine run_imul dX12_copyRow_12 ?_
      refine run_iload 4 dX12_copyRow_13 rfl ?_
      refine run_iadd dX12_copyRow_15 ?_
      refine run_aload_n 0 dX12_copyRow_16 rfl rfl ?_
      refine run_iload_n 1 dX12_copyRow_17 rfl rfl ?_
      refine run_iload_n 2 dX12_copyRow_18 rfl rfl ?_
      refine run_imul dX12_copyRow_19 ?_
      refine run_iload 4 dX12_copyRow_20 rfl ?_
      refine run_iadd dX12_copyRow_22 ?_
      obtain ⟨g5, h⟩ := gd_s h
      refine run_iald' hn0 hl0 g5 rfl dX12_copyRow_23 ?_
      obtain ⟨g6, h⟩ := gd_s h
      refine run_iast' hn0 hl0 g6 rfl dX12_copyRow_24 ?_
      refine run_iinc 4 [(0, .ref (gA G n0)), (1, .int x1), (2, .int x2), (3, .int x3), (4, .int (x4 + 1))] [1, 2, 3, 4, 0] dX12_copyRow_25 rfl rfl (by decide) rfl ?_
      refine run_goto 3 dX12_copyRow_28 (by decide) ?_
      exact ih _ _ _ h kx
def fX12_copyRow (n0 : Nat) (N0 : Nat) (x1 : Int32) (x2 : Int32) (x3 : Int32) (σ : Mem) : Option Mem := (lX12_copyRow_3 n0 N0 x1 x2 x3 FU 0 σ).bind fun q7 => some q7
set_option maxRecDepth 20000 in
theorem sX12_copyRow (G : GT) (d : Nat) {n0 : Nat} {N0 : Nat} {x1 : Int32} {x2 : Int32} {x3 : Int32} (hn0 : Is n0 14) (hl0 : ln n0 = N0) (hb0 : N0 < 2 ^ 31) {σ : Mem} {o : Mem} (h : fX12_copyRow n0 N0 x1 x2 x3 σ = some o) : Spec G yX12_copyRow cX12_copyRow 5 none (d + HX12_copyRow) [.ref (gA G n0), .int x1, .int x2, .int x3] σ (kV fun z => z = o) := by
  refine spec_run (by decide) (Nat.le_of_ble_eq_true rfl) ?_
  unfold fX12_copyRow at h
  show Run G RX12 cX12_copyRow 5 none _ 0 [(0, .ref (gA G n0)), (1, .int x1), (2, .int x2), (3, .int x3)] [] σ
  refine run_iconst (v := 0) dX12_copyRow_0 rfl ?_
  refine run_istore [(0, .ref (gA G n0)), (1, .int x1), (2, .int x2), (3, .int x3), (4, .int 0)] [1, 2, 3, 4, 0] dX12_copyRow_1 (by decide) rfl ?_
  obtain ⟨q7, h8, h⟩ := Option.bind_eq_some_iff.mp h
  refine lpX12_copyRow_3 G d _ _ _ _ _ hn0 hl0 hb0 _ _ _ _ h8 ?_
  exact run_vret dX12_copyRow_31 ⟨rfl, Option.some.inj h⟩
