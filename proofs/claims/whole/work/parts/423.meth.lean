/-! methods, translated -/
def HX12_drawn : Nat := 10
theorem HX12_drawn_X12_drawDeed_lt (d : Nat) : d + HX12_drawDeed < d + HX12_drawn := Nat.add_lt_add_left (by decide) d
theorem HX12_drawn_X12_hand_lt (d : Nat) : d + HX12_hand < d + HX12_drawn := Nat.add_lt_add_left (by decide) d
theorem HX12_drawn_X12_in_lt (d : Nat) : d + HX12_in < d + HX12_drawn := Nat.add_lt_add_left (by decide) d
theorem HX12_drawn_X12_ofState_lt (d : Nat) : d + HX12_ofState < d + HX12_drawn := Nat.add_lt_add_left (by decide) d
theorem HX12_drawn_0 (d : Nat) : 0 < d + HX12_drawn := Nat.lt_of_lt_of_le (by decide) (Nat.le_add_left _ d)
def lX12_drawn_54 (x4 : Int32) (x5 : Int32) : Nat → Int32 → Mem → Option (Mem)
  | 0, _, _ => none
  | n + 1, x6, σ => if x4 ≤ x6 then (some σ) else ((fX12_drawDeed σ).bind fun q11 => lX12_drawn_54 x4 x5 n (x6 + 1) q11)
set_option maxRecDepth 20000 in
theorem lpX12_drawn_54 (G : GT) (d : Nat) (x4 : Int32) (x5 : Int32)  {K : Option Value → Mem → Prop} : ∀ (n : Nat) (x6 : Int32) (σ : Mem) (o : Mem), lX12_drawn_54 x4 x5 n x6 σ = some o → (Run G RX12 cX12_drawn 7 (some .int) (mF G (d + HX12_drawn) K) 71 [(0, .ref (gA G 269)), (5, .int x5)] [] o) → Run G RX12 cX12_drawn 7 (some .int) (mF G (d + HX12_drawn) K) 54 [(0, .ref (gA G 269)), (4, .int x4), (5, .int x5), (6, .int x6)] [] σ := by
  intro n
  induction n with
  | zero => intro x6 σ o h; exact absurd h (by simp [lX12_drawn_54])
  | succ n ih =>
    intro x6 σ o h kx
    rw [lX12_drawn_54] at h
    refine run_iload 3 dX12_drawn_54 rfl ?_
    refine run_iload 1 dX12_drawn_56 rfl ?_
    refine run_icmp_ge 71 dX12_drawn_58 (by decide) (fun c10 => ?_) (fun c10 => ?_)
    · rw [if_pos c10] at h
      rw [← Option.some.inj h] at kx
      refine run_forget [0, 2] rfl ?_
      exact kx
    · rw [if_neg c10] at h
      refine run_aload_n 0 dX12_drawn_61 rfl rfl ?_
      obtain ⟨q11, h12, h⟩ := Option.bind_eq_some_iff.mp h
      refine run_callVv (As := []) (fun z => z = q11) mw_X12_drawDeed mi_X12_drawDeed ml_X12_601 is_269 (by decide) rfl rfl rfl (RF.lt (HX12_drawn_X12_drawDeed_lt d)) (Nat.le_of_ble_eq_true rfl) dX12_drawn_62 (sX12_drawDeed G d  h12) (fun z h8 => ?_) rfl
      rw [h8]
      clear h8
      refine run_iinc 3 [(0, .ref (gA G 269)), (4, .int x4), (5, .int x5), (6, .int (x6 + 1))] [1, 2, 3, 0] dX12_drawn_65 rfl rfl (by decide) rfl ?_
      refine run_goto 54 dX12_drawn_68 (by decide) ?_
      exact ih _ _ _ h kx
def fX12_drawn (x1 : Int32) (x2 : Int32) (x3 : Int32) (x4 : Int32) (x5 : Int32) (σ : Mem) : Option (Int32 × Mem) := (fX12_in x4 0 60 (st2 σ 269 0 0)).bind fun q1 => if q1.1 = true then (if x5 = 5 then (some ((-2), q1.2)) else ((fX12_in x5 30 39 q1.2).bind fun q4 => if q4.1 = true then (some ((-2), q4.2)) else ((fX12_hand x1 x2 q4.2).bind fun q6 => if q6.1 = true then ((lX12_drawn_54 x4 x5 FU 0 (st2 q6.2 269 83 x3)).bind fun q13 => (fX12_ofState x5 q13).bind fun q14 => some (q14.1, q14.2)) else (some ((-2), q6.2))))) else (some ((-2), q1.2))
set_option maxRecDepth 20000 in
theorem sX12_drawn (G : GT) (d : Nat) {x1 : Int32} {x2 : Int32} {x3 : Int32} {x4 : Int32} {x5 : Int32}  {σ : Mem} {o : (Int32 × Mem)} (h : fX12_drawn x1 x2 x3 x4 x5 σ = some o) : Spec G yX12_drawn cX12_drawn 7 (some .int) (d + HX12_drawn) [.ref (gA G 269), .int x1, .int x2, .int x3, .int x4, .int x5] σ (kI fun x z => (x, z) = o) := by
  refine spec_run (by decide) (Nat.le_of_ble_eq_true rfl) ?_
  unfold fX12_drawn at h
  show Run G RX12 cX12_drawn 7 (some .int) _ 0 [(0, .ref (gA G 269)), (1, .int x1), (2, .int x2), (3, .int x3), (4, .int x4), (5, .int x5)] [] σ
  refine run_aload_n 0 dX12_drawn_0 rfl rfl ?_
  refine run_iconst (v := 0) dX12_drawn_1 rfl ?_
  refine run_puti fp_X12_144 is_269 (by decide) rfl dX12_drawn_2 ?_
  refine run_iload 4 dX12_drawn_5 rfl ?_
  refine run_iconst (v := 0) dX12_drawn_7 rfl ?_
  refine run_bipush (v := 60) dX12_drawn_8 rfl ?_
  obtain ⟨q1, h19, h⟩ := Option.bind_eq_some_iff.mp h
  refine run_callSb (As := [.int x4, .int 0, .int 60]) (fun r z => (r, z) = q1) mw_X12_in ms_X12_in ml_X12_156 rfl (RF.lt (HX12_drawn_X12_in_lt d)) (Nat.le_of_ble_eq_true rfl) dX12_drawn_10 (sX12_in G d  h19) (fun r z h8 => ?_) rfl
  rw [show r = q1.1 from congrArg Prod.fst h8, show z = q1.2 from congrArg Prod.snd h8]
  clear h8
  refine run_ifb_eq 43 dX12_drawn_13 (by decide) (fun c2 => ?_) (fun c2 => ?_)
  · rw [if_neg c2] at h
    refine run_bipush (v := -2) dX12_drawn_43 rfl ?_
    exact run_iret dX12_drawn_45 ⟨_, rfl, Option.some.inj h⟩
  · rw [if_pos c2] at h
    refine run_iload 5 dX12_drawn_16 rfl ?_
    refine run_iconst (v := 5) dX12_drawn_18 rfl ?_
    refine run_icmp_eq 43 dX12_drawn_19 (by decide) (fun c3 => ?_) (fun c3 => ?_)
    · rw [if_pos c3] at h
      refine run_bipush (v := -2) dX12_drawn_43 rfl ?_
      exact run_iret dX12_drawn_45 ⟨_, rfl, Option.some.inj h⟩
    · rw [if_neg c3] at h
      refine run_iload 5 dX12_drawn_22 rfl ?_
      refine run_bipush (v := 30) dX12_drawn_24 rfl ?_
      refine run_bipush (v := 39) dX12_drawn_26 rfl ?_
      obtain ⟨q4, h18, h⟩ := Option.bind_eq_some_iff.mp h
      refine run_callSb (As := [.int x5, .int 30, .int 39]) (fun r z => (r, z) = q4) mw_X12_in ms_X12_in ml_X12_156 rfl (RF.lt (HX12_drawn_X12_in_lt d)) (Nat.le_of_ble_eq_true rfl) dX12_drawn_28 (sX12_in G d  h18) (fun r z h8 => ?_) rfl
      rw [show r = q4.1 from congrArg Prod.fst h8, show z = q4.2 from congrArg Prod.snd h8]
      clear h8
      refine run_ifb_ne 43 dX12_drawn_31 (by decide) (fun c5 => ?_) (fun c5 => ?_)
      · rw [if_pos c5] at h
        refine run_bipush (v := -2) dX12_drawn_43 rfl ?_
        exact run_iret dX12_drawn_45 ⟨_, rfl, Option.some.inj h⟩
      · rw [if_neg c5] at h
        refine run_aload_n 0 dX12_drawn_34 rfl rfl ?_
        refine run_iload_n 1 dX12_drawn_35 rfl rfl ?_
        refine run_iload_n 2 dX12_drawn_36 rfl rfl ?_
        obtain ⟨q6, h17, h⟩ := Option.bind_eq_some_iff.mp h
        refine run_callVb (As := [.int x1, .int x2]) (fun r z => (r, z) = q6) mw_X12_hand mi_X12_hand ml_X12_487 is_269 (by decide) rfl rfl rfl (RF.lt (HX12_drawn_X12_hand_lt d)) (Nat.le_of_ble_eq_true rfl) dX12_drawn_37 (sX12_hand G d  h17) (fun r z h8 => ?_) rfl
        rw [show r = q6.1 from congrArg Prod.fst h8, show z = q6.2 from congrArg Prod.snd h8]
        clear h8
        refine run_ifb_ne 46 dX12_drawn_40 (by decide) (fun c7 => ?_) (fun c7 => ?_)
        · rw [if_pos c7] at h
          refine run_aload_n 0 dX12_drawn_46 rfl rfl ?_
          refine run_iload_n 3 dX12_drawn_47 rfl rfl ?_
          refine run_puti fp_X12_594 is_269 (by decide) rfl dX12_drawn_48 ?_
          refine run_iconst (v := 0) dX12_drawn_51 rfl ?_
          refine run_istore [(0, .ref (gA G 269)), (4, .int x4), (5, .int x5), (6, .int 0)] [1, 5, 6, 0] dX12_drawn_52 (by decide) rfl ?_
          obtain ⟨q13, h16, h⟩ := Option.bind_eq_some_iff.mp h
          refine lpX12_drawn_54 G d _ _ _ _ _ _ h16 ?_
          refine run_aload_n 0 dX12_drawn_71 rfl rfl ?_
          refine run_iload 1 dX12_drawn_72 rfl ?_
          obtain ⟨q14, h15, h⟩ := Option.bind_eq_some_iff.mp h
          refine run_callVi (As := [.int x5]) (fun r z => (r, z) = q14) mw_X12_ofState mi_X12_ofState ml_X12_506 is_269 (by decide) rfl rfl rfl (RF.lt (HX12_drawn_X12_ofState_lt d)) (Nat.le_of_ble_eq_true rfl) dX12_drawn_74 (sX12_ofState G d  h15) (fun r z h8 => ?_) rfl
          rw [show r = q14.1 from congrArg Prod.fst h8, show z = q14.2 from congrArg Prod.snd h8]
          clear h8
          exact run_iret dX12_drawn_77 ⟨_, rfl, Option.some.inj h⟩
        · rw [if_neg c7] at h
          refine run_bipush (v := -2) dX12_drawn_43 rfl ?_
          exact run_iret dX12_drawn_45 ⟨_, rfl, Option.some.inj h⟩
def HX12_after : Nat := 10
theorem HX12_after_X12_deeds_lt (d : Nat) : d + HX12_deeds < d + HX12_after := Nat.add_lt_add_left (by decide) d
theorem HX12_after_X12_hottest_lt (d : Nat) : d + HX12_hottest < d + HX12_after := Nat.add_lt_add_left (by decide) d
theorem HX12_after_X12_layAll_lt (d : Nat) : d + HX12_layAll < d + HX12_after := Nat.add_lt_add_left (by decide) d
theorem HX12_after_X12_oftenest_lt (d : Nat) : d + HX12_oftenest < d + HX12_after := Nat.add_lt_add_left (by decide) d
theorem HX12_after_X12_play_lt (d : Nat) : d + HX12_play < d + HX12_after := Nat.add_lt_add_left (by decide) d
theorem HX12_after_X12_topStamp_lt (d : Nat) : d + HX12_topStamp < d + HX12_after := Nat.add_lt_add_left (by decide) d
theorem HX12_after_0 (d : Nat) : 0 < d + HX12_after := Nat.lt_of_lt_of_le (by decide) (Nat.le_add_left _ d)
def fX12_after (x1 : Int32) (x2 : Int32) (x3 : Int32) (x4 : Int32) (σ : Mem) : Option (Int32 × Mem) := (fX12_layAll x1 x2 x3 (st2 σ 269 0 0)).bind fun q1 => if q1.1 = true then ((fX12_deeds q1.2).bind fun q3 => (fX12_play q3.1 q3.2).bind fun q4 => if x4 = 0 then ((fX12_oftenest q4.2).bind fun q6 => some (q6.1, q6.2)) else (if x4 = 1 then ((fX12_hottest q4.2).bind fun q9 => some (q9.1, q9.2)) else (if x4 = 2 then (some ((q4.2 269 57), q4.2)) else (if x4 = 3 then (some ((q4.2 269 58), q4.2)) else (if x4 = 4 then (some ((q4.2 269 59), q4.2)) else (if x4 = 5 then ((fX12_topStamp q4.2).bind fun q15 => some (q15.1, q15.2)) else (some ((-2), q4.2)))))))) else (some ((-2), q1.2))
set_option maxRecDepth 20000 in
theorem sX12_after (G : GT) (d : Nat) {x1 : Int32} {x2 : Int32} {x3 : Int32} {x4 : Int32}  {σ : Mem} {o : (Int32 × Mem)} (h : fX12_after x1 x2 x3 x4 σ = some o) : Spec G yX12_after cX12_after 5 (some .int) (d + HX12_after) [.ref (gA G 269), .int x1, .int x2, .int x3, .int x4] σ (kI fun x z => (x, z) = o) := by
  refine spec_run (by decide) (Nat.le_of_ble_eq_true rfl) ?_
  unfold fX12_after at h
  show Run G RX12 cX12_after 5 (some .int) _ 0 [(0, .ref (gA G 269)), (1, .int x1), (2, .int x2), (3, .int x3), (4, .int x4)] [] σ
  refine run_aload_n 0 dX12_after_0 rfl rfl ?_
  refine run_iconst (v := 0) dX12_after_1 rfl ?_
  refine run_puti fp_X12_144 is_269 (by decide) rfl dX12_after_2 ?_
  refine run_aload_n 0 dX12_after_5 rfl rfl ?_
  refine run_iload_n 1 dX12_after_6 rfl rfl ?_
  refine run_iload_n 2 dX12_after_7 rfl rfl ?_
  refine run_iload_n 3 dX12_after_8 rfl rfl ?_
  obtain ⟨q1, h19, h⟩ := Option.bind_eq_some_iff.mp h
  refine run_callVb (As := [.int x1, .int x2, .int x3]) (fun r z => (r, z) = q1) mw_X12_layAll mi_X12_layAll ml_X12_490 is_269 (by decide) rfl rfl rfl (RF.lt (HX12_after_X12_layAll_lt d)) (Nat.le_of_ble_eq_true rfl) dX12_after_9 (sX12_layAll G d  h19) (fun r z h8 => ?_) rfl
  rw [show r = q1.1 from congrArg Prod.fst h8, show z = q1.2 from congrArg Prod.snd h8]
  clear h8
  refine run_ifb_ne 18 dX12_after_12 (by decide) (fun c2 => ?_) (fun c2 => ?_)
  · rw [if_pos c2] at h
    refine run_aload_n 0 dX12_after_18 rfl rfl ?_
    refine run_aload_n 0 dX12_after_19 rfl rfl ?_
    obtain ⟨q3, h18, h⟩ := Option.bind_eq_some_iff.mp h
    refine run_callVi (As := []) (fun r z => (r, z) = q3) mw_X12_deeds mi_X12_deeds ml_X12_477 is_269 (by decide) rfl rfl rfl (RF.lt (HX12_after_X12_deeds_lt d)) (Nat.le_of_ble_eq_true rfl) dX12_after_20 (sX12_deeds G d  h18) (fun r z h8 => ?_) rfl
    rw [show r = q3.1 from congrArg Prod.fst h8, show z = q3.2 from congrArg Prod.snd h8]
    clear h8
    obtain ⟨q4, h17, h⟩ := Option.bind_eq_some_iff.mp h
    refine run_callVi (As := [.int q3.1]) (fun r z => (r, z) = q4) mw_X12_play mi_X12_play ml_X12_493 is_269 (by decide) rfl rfl rfl (RF.lt (HX12_after_X12_play_lt d)) (Nat.le_of_ble_eq_true rfl) dX12_after_23 (sX12_play G d  h17) (fun r z h8 => ?_) rfl
    rw [show r = q4.1 from congrArg Prod.fst h8, show z = q4.2 from congrArg Prod.snd h8]
    clear h8
    refine run_pop dX12_after_26 rfl ?_
    refine run_iload 4 dX12_after_27 rfl ?_
    by_cases c5 : x4 = 0
    · rw [if_pos c5] at h
      refine run_tblIn 68 dX12_after_29 (by rw [c5]; decide) (by rw [c5]; decide) (off := 39) (by rw [c5]; rfl) (by decide) ?_
      refine run_aload_n 0 dX12_after_68 rfl rfl ?_
      obtain ⟨q6, h7, h⟩ := Option.bind_eq_some_iff.mp h
      refine run_callVi (As := []) (fun r z => (r, z) = q6) mw_X12_oftenest mi_X12_oftenest ml_X12_646 is_269 (by decide) rfl rfl rfl (RF.lt (HX12_after_X12_oftenest_lt d)) (Nat.le_of_ble_eq_true rfl) dX12_after_69 (sX12_oftenest G d  h7) (fun r z h8 => ?_) rfl
      rw [show r = q6.1 from congrArg Prod.fst h8, show z = q6.2 from congrArg Prod.snd h8]
      clear h8
      exact run_iret dX12_after_72 ⟨_, rfl, Option.some.inj h⟩
    · rw [if_neg c5] at h
      by_cases c8 : x4 = 1
      · rw [if_pos c8] at h
        refine run_tblIn 73 dX12_after_29 (by rw [c8]; decide) (by rw [c8]; decide) (off := 44) (by rw [c8]; rfl) (by decide) ?_
        refine run_aload_n 0 dX12_after_73 rfl rfl ?_
        obtain ⟨q9, h10, h⟩ := Option.bind_eq_some_iff.mp h
        refine run_callVi (As := []) (fun r z => (r, z) = q9) mw_X12_hottest mi_X12_hottest ml_X12_649 is_269 (by decide) rfl rfl rfl (RF.lt (HX12_after_X12_hottest_lt d)) (Nat.le_of_ble_eq_true rfl) dX12_after_74 (sX12_hottest G d  h10) (fun r z h8 => ?_) rfl
        rw [show r = q9.1 from congrArg Prod.fst h8, show z = q9.2 from congrArg Prod.snd h8]
        clear h8
        exact run_iret dX12_after_77 ⟨_, rfl, Option.some.inj h⟩
      · rw [if_neg c8] at h
        by_cases c11 : x4 = 2
        · rw [if_pos c11] at h
          refine run_tblIn 78 dX12_after_29 (by rw [c11]; decide) (by rw [c11]; decide) (off := 49) (by rw [c11]; rfl) (by decide) ?_
          refine run_aload_n 0 dX12_after_78 rfl rfl ?_
          refine run_geti fl_X12_354 is_269 (by decide) rfl dX12_after_79 ?_
          exact run_iret dX12_after_82 ⟨_, rfl, Option.some.inj h⟩
        · rw [if_neg c11] at h
          by_cases c12 : x4 = 3
          · rw [if_pos c12] at h
            refine run_tblIn 83 dX12_after_29 (by rw [c12]; decide) (by rw [c12]; decide) (off := 54) (by rw [c12]; rfl) (by decide) ?_
            refine run_aload_n 0 dX12_after_83 rfl rfl ?_
            refine run_geti fl_X12_357 is_269 (by decide) rfl dX12_after_84 ?_
            exact run_iret dX12_after_87 ⟨_, rfl, Option.some.inj h⟩
          · rw [if_neg c12] at h
            by_cases c13 : x4 = 4
            · rw [if_pos c13] at h
              refine run_tblIn 88 dX12_after_29 (by rw [c13]; decide) (by rw [c13]; decide) (off := 59) (by rw [c13]; rfl) (by decide) ?_
              refine run_aload_n 0 dX12_after_88 rfl rfl ?_
              refine run_geti fl_X12_360 is_269 (by decide) rfl dX12_after_89 ?_
              exact run_iret dX12_after_92 ⟨_, rfl, Option.some.inj h⟩
            · rw [if_neg c13] at h
              by_cases c14 : x4 = 5
              · rw [if_pos c14] at h
                refine run_tblIn 93 dX12_after_29 (by rw [c14]; decide) (by rw [c14]; decide) (off := 64) (by rw [c14]; rfl) (by decide) ?_
                refine run_aload_n 0 dX12_after_93 rfl rfl ?_
                obtain ⟨q15, h16, h⟩ := Option.bind_eq_some_iff.mp h
                refine run_callVi (As := []) (fun r z => (r, z) = q15) mw_X12_topStamp mi_X12_topStamp ml_X12_652 is_269 (by decide) rfl rfl rfl (RF.lt (HX12_after_X12_topStamp_lt d)) (Nat.le_of_ble_eq_true rfl) dX12_after_94 (sX12_topStamp G d  h16) (fun r z h8 => ?_) rfl
                rw [show r = q15.1 from congrArg Prod.fst h8, show z = q15.2 from congrArg Prod.snd h8]
                clear h8
                exact run_iret dX12_after_97 ⟨_, rfl, Option.some.inj h⟩
              · rw [if_neg c14] at h
                refine run_tblOut 98 dX12_after_29 (by have tc5 := tbl_ne c5 (z := 0) rfl; have tc8 := tbl_ne c8 (z := 1) rfl; have tc11 := tbl_ne c11 (z := 2) rfl; have tc12 := tbl_ne c12 (z := 3) rfl; have tc13 := tbl_ne c13 (z := 4) rfl; have tc14 := tbl_ne c14 (z := 5) rfl; omega) (by decide) ?_
                refine run_bipush (v := -2) dX12_after_98 rfl ?_
                exact run_iret dX12_after_100 ⟨_, rfl, Option.some.inj h⟩
  · rw [if_neg c2] at h
    refine run_bipush (v := -2) dX12_after_15 rfl ?_
    exact run_iret dX12_after_17 ⟨_, rfl, Option.some.inj h⟩
def HX0_extend : Nat := 3
theorem HX0_extend_0 (d : Nat) : 0 < d + HX0_extend := Nat.lt_of_lt_of_le (by decide) (Nat.le_add_left _ d)
theorem HX0_extend_X0_noteRow_lt (d : Nat) : d + HX0_noteRow < d + HX0_extend := Nat.add_lt_add_left (by decide) d
theorem HX0_extend_X11_copyKeys_lt (d : Nat) : d + HX11_copyKeys < d + HX0_extend := Nat.add_lt_add_left (by decide) d
theorem HX0_extend_X11_hasBit_lt (d : Nat) : d + HX11_hasBit < d + HX0_extend := Nat.add_lt_add_left (by decide) d
theorem HX0_extend_X8_runAlone_lt (d : Nat) : d + HX8_runAlone < d + HX0_extend := Nat.add_lt_add_left (by decide) d
def lX0_extend_32 (rec : Int32 → Int32 → Mem → Option Mem) (x2 : Int32) (x3 : Int32) : Nat → Int32 → Mem → Option (Mem)
  | 0, _, _ => none
  | n + 1, x4, σ => if (σ 234 1) ≤ x4 then (some σ) else ((fX11_hasBit x3 x4 σ).bind fun q25 => (if q25.1 = true then (some q25.2) else (gd (inb x2 7) (gd (inb (x2 + 1) 7) ((fX11_copyKeys (237 + 1 * (Int32.toNatClampNeg x2)) (237 + 1 * (Int32.toNatClampNeg (x2 + 1))) q25.2).bind fun q29 => gd (isB (rfN (q29 146 1)) 8) (gd (inb x4 30) (gd (decide (¬ q29 235 (Int32.toNatClampNeg x4) < 0)) (gd (isB (rfN (q29 235 (Int32.toNatClampNeg x4))) 2) (gd (inb (x2 + 1) 7) ((fX8_runAlone (rfN (q29 146 1)) (q29 (rfN (q29 235 (Int32.toNatClampNeg x4))) 1) (237 + 1 * (Int32.toNatClampNeg (x2 + 1))) q29).bind fun q35 => gd (inb x2 6) ((rec (x2 + 1) (x3 ||| ((1 : Int32) <<< (x4 &&& 31))) (st2 q35.2 244 (Int32.toNatClampNeg x2) x4)).bind fun q37 => some q37))))))))) : Option (Mem)).bind fun q41 => lX0_extend_32 rec x2 x3 n (x4 + 1) q41)
set_option maxRecDepth 20000 in
theorem lpX0_extend_32 (G : GT) (d k : Nat) (rec : Int32 → Int32 → Mem → Option Mem) (x2 : Int32) (x3 : Int32)  (hrec : ∀ (x2 : Int32) (x3 : Int32) (σ : Mem) (o : Mem), rec x2 x3 σ = some o → Spec G yX0_extend cX0_extend 5 none (d + HX0_extend + k) [.ref (gA G 234), .ref (gA G 146), .int x2, .int x3] σ (kV fun z => z = o)) {K : Option Value → Mem → Prop} : ∀ (n : Nat) (x4 : Int32) (σ : Mem) (o : Mem), lX0_extend_32 rec x2 x3 n x4 σ = some o → (Run G RX0 cX0_extend 5 none (mF G (d + HX0_extend + (k + 1)) K) 121 [] [] o) → Run G RX0 cX0_extend 5 none (mF G (d + HX0_extend + (k + 1)) K) 32 [(0, .ref (gA G 234)), (1, .ref (gA G 146)), (2, .int x2), (3, .int x3), (4, .int x4)] [] σ := by
  intro n
  induction n with
  | zero => intro x4 σ o h; exact absurd h (by simp [lX0_extend_32])
  | succ n ih =>
    intro x4 σ o h kx
    rw [lX0_extend_32] at h
    refine run_iload 4 dX0_extend_32 rfl ?_
    refine run_aload_n 0 dX0_extend_34 rfl rfl ?_
    refine run_geti fl_X0_29 is_234 (by decide) rfl dX0_extend_35 ?_
    refine run_icmp_ge 121 dX0_extend_38 (by decide) (fun c24 => ?_) (fun c24 => ?_)
    · rw [if_pos c24] at h
      rw [← Option.some.inj h] at kx
      refine run_forget [] rfl ?_
      exact kx
    · rw [if_neg c24] at h
      refine run_iload_n 3 dX0_extend_41 rfl rfl ?_
      refine run_iload 4 dX0_extend_42 rfl ?_
      obtain ⟨q25, h43, h⟩ := Option.bind_eq_some_iff.mp h
      refine run_callNb (As := [.int x3, .int x4]) (fun r z => (r, z) = q25) mw_X11_hasBit ms_X11_hasBit mn_X0_81 rfl (RF.lt (by have := HX0_extend_X11_hasBit_lt d; omega)) (Nat.le_of_ble_eq_true rfl) dX0_extend_44 (sX11_hasBit G d  h43) (fun r z h8 => ?_) rfl
      rw [show r = q25.1 from congrArg Prod.fst h8, show z = q25.2 from congrArg Prod.snd h8]
      clear h8
      obtain ⟨q41, h, h9⟩ := Option.bind_eq_some_iff.mp h
      have hj42 : Run G RX0 cX0_extend 5 none (mF G (d + HX0_extend + (k + 1)) K) 115 [(0, .ref (gA G 234)), (1, .ref (gA G 146)), (2, .int x2), (3, .int x3), (4, .int x4)] [] q41 := by
        clear h
        have h := h9
        clear h9
        refine run_iinc 4 [(0, .ref (gA G 234)), (1, .ref (gA G 146)), (2, .int x2), (3, .int x3), (4, .int (x4 + 1))] [1, 2, 3, 4, 0] dX0_extend_115 rfl rfl (by decide) rfl ?_
        refine run_goto 32 dX0_extend_118 (by decide) ?_
        exact ih _ _ _ h kx
      clear h9
      refine run_ifb_ne 115 dX0_extend_47 (by decide) (fun c26 => ?_) (fun c26 => ?_)
      · rw [if_pos c26] at h
        rw [← Option.some.inj h] at hj42
        exact hj42
      · rw [if_neg c26] at h
        refine run_aload_n 0 dX0_extend_50 rfl rfl ?_
        refine run_getr fl_X0_19 is_234 (by decide) rfl ce_234_2 dX0_extend_51 ?_
        refine run_iload_n 2 dX0_extend_54 rfl rfl ?_
        obtain ⟨g27, h⟩ := gd_s h
        refine run_aaldI' (j := (Int32.toNatClampNeg x2)) is_236 ln_236 g27 rfl (es_236 _) dX0_extend_55 ?_
        refine run_aload_n 0 dX0_extend_56 rfl rfl ?_
        refine run_getr fl_X0_19 is_234 (by decide) rfl ce_234_2 dX0_extend_57 ?_
        refine run_iload_n 2 dX0_extend_60 rfl rfl ?_
        refine run_iconst (v := 1) dX0_extend_61 rfl ?_
        refine run_iadd dX0_extend_62 ?_
        obtain ⟨g28, h⟩ := gd_s h
        refine run_aaldI' (j := (Int32.toNatClampNeg (x2 + 1))) is_236 ln_236 g28 rfl (es_236 _) dX0_extend_63 ?_
        obtain ⟨q29, h40, h⟩ := Option.bind_eq_some_iff.mp h
        refine run_callNv (As := [.ref (gA G (237 + 1 * (Int32.toNatClampNeg x2))), .ref (gA G (237 + 1 * (Int32.toNatClampNeg (x2 + 1))))]) (fun z => z = q29) mw_X11_copyKeys ms_X11_copyKeys mn_X0_69 rfl (RF.lt (by have := HX0_extend_X11_copyKeys_lt d; omega)) (Nat.le_of_ble_eq_true rfl) dX0_extend_64 (sX11_copyKeys G d (el_236 (inb_lt g27)) (ell_236 (inb_lt g27)) (el_236 (inb_lt g28)) (ell_236 (inb_lt g28)) h40) (fun z h8 => ?_) rfl
        rw [h8]
        clear h8
        refine run_aload_n 1 dX0_extend_67 rfl rfl ?_
        obtain ⟨g30, h⟩ := gd_s h
        refine run_getd fl_X0_85 is_146 (by decide) rfl dX0_extend_68 ?_
        refine run_aload_n 0 dX0_extend_71 rfl rfl ?_
        refine run_getr fl_X0_11 is_234 (by decide) rfl ce_234_0 dX0_extend_72 ?_
        refine run_iload 4 dX0_extend_75 rfl ?_
        obtain ⟨g31, h⟩ := gd_s h
        obtain ⟨g32, h⟩ := gd_s h
        obtain ⟨g33, h⟩ := gd_s h
        refine run_kald' is_235 ln_235 g31 rfl (of_decide_eq_true g32) dX0_extend_77 ?_
        refine run_geti fl_X0_89 (isB_Is g33) (by decide) rfl dX0_extend_78 ?_
        refine run_aload_n 0 dX0_extend_81 rfl rfl ?_
        refine run_getr fl_X0_19 is_234 (by decide) rfl ce_234_2 dX0_extend_82 ?_
        refine run_iload_n 2 dX0_extend_85 rfl rfl ?_
        refine run_iconst (v := 1) dX0_extend_86 rfl ?_
        refine run_iadd dX0_extend_87 ?_
        obtain ⟨g34, h⟩ := gd_s h
        refine run_aaldI' (j := (Int32.toNatClampNeg (x2 + 1))) is_236 ln_236 g34 rfl (es_236 _) dX0_extend_88 ?_
        obtain ⟨q35, h39, h⟩ := Option.bind_eq_some_iff.mp h
        refine run_callVi (As := [.int (q29 (rfN (q29 235 (Int32.toNatClampNeg x4))) 1), .ref (gA G (237 + 1 * (Int32.toNatClampNeg (x2 + 1))))]) (fun r z => (r, z) = q35) mw_X8_runAlone mi_X8_runAlone ml_X0_92 (isB_Is g30) (by decide) rfl rfl rfl (RF.lt (by have := HX0_extend_X8_runAlone_lt d; omega)) (Nat.le_of_ble_eq_true rfl) dX0_extend_89 (sX8_runAlone G d (isB_Is g30) (el_236 (inb_lt g34)) (ell_236 (inb_lt g34)) h39) (fun r z h8 => ?_) rfl
        rw [show r = q35.1 from congrArg Prod.fst h8, show z = q35.2 from congrArg Prod.snd h8]
        clear h8
        refine run_pop dX0_extend_92 rfl ?_
        refine run_aload_n 0 dX0_extend_93 rfl rfl ?_
        refine run_getr fl_X0_22 is_234 (by decide) rfl ce_234_3 dX0_extend_94 ?_
        refine run_iload_n 2 dX0_extend_97 rfl rfl ?_
        refine run_iload 4 dX0_extend_98 rfl ?_
        obtain ⟨g36, h⟩ := gd_s h
        refine run_iast' is_244 ln_244 g36 rfl dX0_extend_100 ?_
        refine run_aload_n 0 dX0_extend_101 rfl rfl ?_
        refine run_aload_n 1 dX0_extend_102 rfl rfl ?_
        refine run_iload_n 2 dX0_extend_103 rfl rfl ?_
        refine run_iconst (v := 1) dX0_extend_104 rfl ?_
        refine run_iadd dX0_extend_105 ?_
        refine run_iload_n 3 dX0_extend_106 rfl rfl ?_
        refine run_iconst (v := 1) dX0_extend_107 rfl ?_
        refine run_iload 4 dX0_extend_108 rfl ?_
        refine run_ishl dX0_extend_110 ?_
        refine run_ior dX0_extend_111 ?_
        obtain ⟨q37, h38, h⟩ := Option.bind_eq_some_iff.mp h
        refine run_callVv (As := [.ref (gA G 146), .int (x2 + 1), .int (x3 ||| ((1 : Int32) <<< (x4 &&& 31)))]) (fun z => z = q37) mw_X0_extend mi_X0_extend ml_X0_73 is_234 (by decide) rfl rfl rfl (RF.lt (show d + HX0_extend + k < d + HX0_extend + (k + 1) by omega)) (Nat.le_of_ble_eq_true rfl) dX0_extend_112 (hrec _ _ _ _ h38) (fun z h8 => ?_) rfl
        rw [h8]
        clear h8
        rw [← Option.some.inj h] at hj42
        exact hj42
def fX0_extend : Nat → Int32 → Int32 → Mem → Option Mem
  | 0, _, _, _ => none
  | k + 1, x2, x3, σ => if (σ 234 1) ≤ x2 then (gd (inb x2 7) ((fX0_noteRow (237 + 1 * (Int32.toNatClampNeg x2)) 147 σ).bind fun q3 => some q3)) else (if x2 < 6 then ((lX0_extend_32 (fX0_extend k) x2 x3 FU 0 σ).bind fun q44 => some q44) else (gd (inb x2 7) ((fX0_noteRow (237 + 1 * (Int32.toNatClampNeg x2)) 147 σ).bind fun q47 => some q47)))
set_option maxRecDepth 20000 in
theorem sX0_extend (G : GT) (d : Nat) : ∀ (k : Nat) {x2 : Int32} {x3 : Int32} {σ : Mem} {o : Mem}, fX0_extend k x2 x3 σ = some o → Spec G yX0_extend cX0_extend 5 none (d + HX0_extend + k) [.ref (gA G 234), .ref (gA G 146), .int x2, .int x3] σ (kV fun z => z = o) := by
  intro k
  induction k with
  | zero => intro x2 x3 σ o h; exact absurd h (by simp [fX0_extend])
  | succ k ih =>
    intro x2 x3 σ o h
    have hrec := fun a0 a1 a2 a3 h => @ih a0 a1 a2 a3 h
    refine spec_run (by decide) (Nat.le_of_ble_eq_true rfl) ?_
    rw [fX0_extend] at h
    show Run G RX0 cX0_extend 5 none _ 0 [(0, .ref (gA G 234)), (1, .ref (gA G 146)), (2, .int x2), (3, .int x3)] [] σ
    refine run_iload_n 2 dX0_extend_0 rfl rfl ?_
    refine run_aload_n 0 dX0_extend_1 rfl rfl ?_
    refine run_geti fl_X0_29 is_234 (by decide) rfl dX0_extend_2 ?_
    refine run_icmp_ge 14 dX0_extend_5 (by decide) (fun c1 => ?_) (fun c1 => ?_)
    · rw [if_pos c1] at h
      refine run_aload_n 0 dX0_extend_14 rfl rfl ?_
      refine run_aload_n 0 dX0_extend_15 rfl rfl ?_
      refine run_getr fl_X0_19 is_234 (by decide) rfl ce_234_2 dX0_extend_16 ?_
      refine run_iload_n 2 dX0_extend_19 rfl rfl ?_
      obtain ⟨g2, h⟩ := gd_s h
      refine run_aaldI' (j := (Int32.toNatClampNeg x2)) is_236 ln_236 g2 rfl (es_236 _) dX0_extend_20 ?_
      refine run_aload_n 1 dX0_extend_21 rfl rfl ?_
      refine run_getr fl_X0_77 is_146 (by decide) rfl ce_146_4 dX0_extend_22 ?_
      obtain ⟨q3, h4, h⟩ := Option.bind_eq_some_iff.mp h
      refine run_callVv (As := [.ref (gA G (237 + 1 * (Int32.toNatClampNeg x2))), .ref (gA G 147)]) (fun z => z = q3) mw_X0_noteRow mi_X0_noteRow ml_X0_78 is_234 (by decide) rfl rfl rfl (RF.lt (by have := HX0_extend_X0_noteRow_lt d; omega)) (Nat.le_of_ble_eq_true rfl) dX0_extend_25 (sX0_noteRow G d (el_236 (inb_lt g2)) (ell_236 (inb_lt g2)) is_147 ln_147 h4) (fun z h8 => ?_) rfl
      rw [h8]
      clear h8
      exact run_vret dX0_extend_28 ⟨rfl, Option.some.inj h⟩
    · rw [if_neg c1] at h
      refine run_iload_n 2 dX0_extend_8 rfl rfl ?_
      refine run_bipush (v := 6) dX0_extend_9 rfl ?_
      refine run_icmp_lt 29 dX0_extend_11 (by decide) (fun c5 => ?_) (fun c5 => ?_)
      · rw [if_pos c5] at h
        refine run_iconst (v := 0) dX0_extend_29 rfl ?_
        refine run_istore [(0, .ref (gA G 234)), (1, .ref (gA G 146)), (2, .int x2), (3, .int x3), (4, .int 0)] [1, 2, 3, 4, 0] dX0_extend_30 (by decide) rfl ?_
        obtain ⟨q44, h45, h⟩ := Option.bind_eq_some_iff.mp h
        refine lpX0_extend_32 G d k _ _ _ hrec _ _ _ _ h45 ?_
        exact run_vret dX0_extend_121 ⟨rfl, Option.some.inj h⟩
      · rw [if_neg c5] at h
        refine run_aload_n 0 dX0_extend_14 rfl rfl ?_
        refine run_aload_n 0 dX0_extend_15 rfl rfl ?_
        refine run_getr fl_X0_19 is_234 (by decide) rfl ce_234_2 dX0_extend_16 ?_
        refine run_iload_n 2 dX0_extend_19 rfl rfl ?_
        obtain ⟨g46, h⟩ := gd_s h
        refine run_aaldI' (j := (Int32.toNatClampNeg x2)) is_236 ln_236 g46 rfl (es_236 _) dX0_extend_20 ?_
        refine run_aload_n 1 dX0_extend_21 rfl rfl ?_
        refine run_getr fl_X0_77 is_146 (by decide) rfl ce_146_4 dX0_extend_22 ?_
        obtain ⟨q47, h48, h⟩ := Option.bind_eq_some_iff.mp h
        refine run_callVv (As := [.ref (gA G (237 + 1 * (Int32.toNatClampNeg x2))), .ref (gA G 147)]) (fun z => z = q47) mw_X0_noteRow mi_X0_noteRow ml_X0_78 is_234 (by decide) rfl rfl rfl (RF.lt (by have := HX0_extend_X0_noteRow_lt d; omega)) (Nat.le_of_ble_eq_true rfl) dX0_extend_25 (sX0_noteRow G d (el_236 (inb_lt g46)) (ell_236 (inb_lt g46)) is_147 ln_147 h48) (fun z h8 => ?_) rfl
        rw [h8]
        clear h8
        exact run_vret dX0_extend_28 ⟨rfl, Option.some.inj h⟩
def HX3_recover : Nat := 3
theorem HX3_recover_J7_fill_53178_lt (d : Nat) : d + HJ7_fill_53178 < d + HX3_recover := Nat.add_lt_add_left (by decide) d
theorem HX3_recover_X11_copyKeys_lt (d : Nat) : d + HX11_copyKeys < d + HX3_recover := Nat.add_lt_add_left (by decide) d
theorem HX3_recover_X3_durableWith_lt (d : Nat) : d + HX3_durableWith < d + HX3_recover := Nat.add_lt_add_left (by decide) d
theorem HX3_recover_X3_redo_lt (d : Nat) : d + HX3_redo < d + HX3_recover := Nat.add_lt_add_left (by decide) d
theorem HX3_recover_X3_survives_lt (d : Nat) : d + HX3_survives < d + HX3_recover := Nat.add_lt_add_left (by decide) d
theorem HX3_recover_0 (d : Nat) : 0 < d + HX3_recover := Nat.lt_of_lt_of_le (by decide) (Nat.le_add_left _ d)
def lX3_recover_38 (x1 : Int32) (n2 : Nat) (n3 : Nat) (x4 : Int32) (x5 : Int32) : Nat → Int32 → Mem → Option (Mem)
  | 0, _, _ => none
  | n + 1, x6, σ => if (σ 146 11) ≤ x6 then (some σ) else (gd (inb x6 30) ((if (σ (174 + 2 * (Int32.toNatClampNeg x6)) 0) = x5 then (gd (inb x6 30) ((fX3_survives (174 + 2 * (Int32.toNatClampNeg x6)) x1 x4 σ).bind fun q46 => if q46.1 = true then (gd (inb x6 30) ((fX3_redo (174 + 2 * (Int32.toNatClampNeg x6)) n2 n3 q46.2).bind fun q49 => some q49)) else (some q46.2))) else (some σ) : Option (Mem)).bind fun q52 => lX3_recover_38 x1 n2 n3 x4 x5 n (x6 + 1) q52))
set_option maxRecDepth 20000 in
theorem lpX3_recover_38 (G : GT) (d : Nat) (x1 : Int32) (n2 : Nat) (n3 : Nat) (x4 : Int32) (x5 : Int32) (hn2 : Is n2 14) (hl2 : ln n2 = 10) (hn3 : Is n3 14) (hl3 : ln n3 = 10) {K : Option Value → Mem → Prop} : ∀ (n : Nat) (x6 : Int32) (σ : Mem) (o : Mem), lX3_recover_38 x1 n2 n3 x4 x5 n x6 σ = some o → (Run G RX3 cX3_recover 7 none (mF G (d + HX3_recover) K) 96 [(0, .ref (gA G 146)), (1, .int x1), (2, .ref (gA G n2)), (3, .ref (gA G n3)), (4, .int x4), (5, .int x5)] [] o) → Run G RX3 cX3_recover 7 none (mF G (d + HX3_recover) K) 38 [(0, .ref (gA G 146)), (1, .int x1), (2, .ref (gA G n2)), (3, .ref (gA G n3)), (4, .int x4), (5, .int x5), (6, .int x6)] [] σ := by
  intro n
  induction n with
  | zero => intro x6 σ o h; exact absurd h (by simp [lX3_recover_38])
  | succ n ih =>
    intro x6 σ o h kx
    rw [lX3_recover_38] at h
    refine run_iload 6 dX3_recover_38 rfl ?_
    refine run_aload_n 0 dX3_recover_40 rfl rfl ?_
    refine run_geti fl_X3_86 is_146 (by decide) rfl dX3_recover_41 ?_
    refine run_icmp_ge 96 dX3_recover_44 (by decide) (fun c42 => ?_) (fun c42 => ?_)
    · rw [if_pos c42] at h
      rw [← Option.some.inj h] at kx
      refine run_forget [0, 1, 2, 3, 4, 5] rfl ?_
      exact kx
    · rw [if_neg c42] at h
      refine run_aload_n 0 dX3_recover_47 rfl rfl ?_
      refine run_getr fl_X3_35 is_146 (by decide) rfl ce_146_10 dX3_recover_48 ?_
      refine run_iload 6 dX3_recover_51 rfl ?_
      obtain ⟨g43, h⟩ := gd_s h
      refine run_aald' (j := (Int32.toNatClampNeg x6)) is_153 (by decide) (by decide) (t0 := 4) rfl ln_153 g43 rfl (es_153 _) dX3_recover_53 ?_
      refine run_geti fl_X3_147 (el_153 (inb_lt g43)) (by decide) rfl dX3_recover_54 ?_
      refine run_iload 5 dX3_recover_57 rfl ?_
      obtain ⟨q52, h, h9⟩ := Option.bind_eq_some_iff.mp h
      have hj53 : Run G RX3 cX3_recover 7 none (mF G (d + HX3_recover) K) 90 [(0, .ref (gA G 146)), (1, .int x1), (2, .ref (gA G n2)), (3, .ref (gA G n3)), (4, .int x4), (5, .int x5), (6, .int x6)] [] q52 := by
        clear h
        have h := h9
        clear h9
        refine run_iinc 6 [(0, .ref (gA G 146)), (1, .int x1), (2, .ref (gA G n2)), (3, .ref (gA G n3)), (4, .int x4), (5, .int x5), (6, .int (x6 + 1))] [1, 2, 3, 4, 5, 6, 0] dX3_recover_90 rfl rfl (by decide) rfl ?_
        refine run_goto 38 dX3_recover_93 (by decide) ?_
        exact ih _ _ _ h kx
      clear h9
      refine run_icmp_ne 90 dX3_recover_59 (by decide) (fun c44 => ?_) (fun c44 => ?_)
      · rw [if_neg c44] at h
        rw [← Option.some.inj h] at hj53
        exact hj53
      · rw [if_pos c44] at h
        refine run_aload_n 0 dX3_recover_62 rfl rfl ?_
        refine run_getr fl_X3_35 is_146 (by decide) rfl ce_146_10 dX3_recover_63 ?_
        refine run_iload 6 dX3_recover_66 rfl ?_
        obtain ⟨g45, h⟩ := gd_s h
        refine run_aald' (j := (Int32.toNatClampNeg x6)) is_153 (by decide) (by decide) (t0 := 4) rfl ln_153 g45 rfl (es_153 _) dX3_recover_68 ?_
        refine run_iload_n 1 dX3_recover_69 rfl rfl ?_
        refine run_iload 4 dX3_recover_70 rfl ?_
        obtain ⟨q46, h51, h⟩ := Option.bind_eq_some_iff.mp h
        refine run_callSb (As := [.ref (gA G (174 + 2 * (Int32.toNatClampNeg x6))), .int x1, .int x4]) (fun r z => (r, z) = q46) mw_X3_survives ms_X3_survives ml_X3_165 rfl (RF.lt (HX3_recover_X3_survives_lt d)) (Nat.le_of_ble_eq_true rfl) dX3_recover_72 (sX3_survives G d (el_153 (inb_lt g45)) h51) (fun r z h8 => ?_) rfl
        rw [show r = q46.1 from congrArg Prod.fst h8, show z = q46.2 from congrArg Prod.snd h8]
        clear h8
        refine run_ifb_eq 90 dX3_recover_75 (by decide) (fun c47 => ?_) (fun c47 => ?_)
        · rw [if_neg c47] at h
          rw [← Option.some.inj h] at hj53
          exact hj53
        · rw [if_pos c47] at h
          refine run_aload_n 0 dX3_recover_78 rfl rfl ?_
          refine run_getr fl_X3_35 is_146 (by decide) rfl ce_146_10 dX3_recover_79 ?_
          refine run_iload 6 dX3_recover_82 rfl ?_
          obtain ⟨g48, h⟩ := gd_s h
          refine run_aald' (j := (Int32.toNatClampNeg x6)) is_153 (by decide) (by decide) (t0 := 4) rfl ln_153 g48 rfl (es_153 _) dX3_recover_84 ?_
          refine run_aload_n 2 dX3_recover_85 rfl rfl ?_
          refine run_aload_n 3 dX3_recover_86 rfl rfl ?_
          obtain ⟨q49, h50, h⟩ := Option.bind_eq_some_iff.mp h
          refine run_callSv (As := [.ref (gA G (174 + 2 * (Int32.toNatClampNeg x6))), .ref (gA G n2), .ref (gA G n3)]) (fun z => z = q49) mw_X3_redo ms_X3_redo ml_X3_187 rfl (RF.lt (HX3_recover_X3_redo_lt d)) (Nat.le_of_ble_eq_true rfl) dX3_recover_87 (sX3_redo G d (el_153 (inb_lt g48)) hn2 hl2 hn3 hl3 h50) (fun z h8 => ?_) rfl
          rw [h8]
          clear h8
          rw [← Option.some.inj h] at hj53
          exact hj53
def lX3_recover_26 (x1 : Int32) (n2 : Nat) (n3 : Nat) (x4 : Int32) : Nat → Int32 → Mem → Option (Mem)
  | 0, _, _ => none
  | n + 1, x5, σ => if (σ 146 2) ≤ x5 then (some σ) else ((lX3_recover_38 x1 n2 n3 x4 x5 FU 0 σ).bind fun q54 => lX3_recover_26 x1 n2 n3 x4 n (x5 + 1) q54)
set_option maxRecDepth 20000 in
theorem lpX3_recover_26 (G : GT) (d : Nat) (x1 : Int32) (n2 : Nat) (n3 : Nat) (x4 : Int32) (hn2 : Is n2 14) (hl2 : ln n2 = 10) (hn3 : Is n3 14) (hl3 : ln n3 = 10) {K : Option Value → Mem → Prop} : ∀ (n : Nat) (x5 : Int32) (σ : Mem) (o : Mem), lX3_recover_26 x1 n2 n3 x4 n x5 σ = some o → (Run G RX3 cX3_recover 7 none (mF G (d + HX3_recover) K) 102 [] [] o) → Run G RX3 cX3_recover 7 none (mF G (d + HX3_recover) K) 26 [(0, .ref (gA G 146)), (1, .int x1), (2, .ref (gA G n2)), (3, .ref (gA G n3)), (4, .int x4), (5, .int x5)] [] σ := by
  intro n
  induction n with
  | zero => intro x5 σ o h; exact absurd h (by simp [lX3_recover_26])
  | succ n ih =>
    intro x5 σ o h kx
    rw [lX3_recover_26] at h
    refine run_iload 5 dX3_recover_26 rfl ?_
    refine run_aload_n 0 dX3_recover_28 rfl rfl ?_
    refine run_geti fl_X3_67 is_146 (by decide) rfl dX3_recover_29 ?_
    refine run_icmp_ge 102 dX3_recover_32 (by decide) (fun c30 => ?_) (fun c30 => ?_)
    · rw [if_pos c30] at h
      rw [← Option.some.inj h] at kx
      refine run_forget [] rfl ?_
      exact kx
    · rw [if_neg c30] at h
      refine run_iconst (v := 0) dX3_recover_35 rfl ?_
      refine run_istore [(0, .ref (gA G 146)), (1, .int x1), (2, .ref (gA G n2)), (3, .ref (gA G n3)), (4, .int x4), (5, .int x5), (6, .int 0)] [1, 2, 3, 4, 5, 6, 0] dX3_recover_36 (by decide) rfl ?_
      obtain ⟨q54, h55, h⟩ := Option.bind_eq_some_iff.mp h
      refine lpX3_recover_38 G d _ _ _ _ _ hn2 hl2 hn3 hl3 _ _ _ _ h55 ?_
      refine run_iinc 5 [(0, .ref (gA G 146)), (1, .int x1), (2, .ref (gA G n2)), (3, .ref (gA G n3)), (4, .int x4), (5, .int (x5 + 1))] [1, 2, 3, 4, 5, 0] dX3_recover_96 rfl rfl (by decide) rfl ?_
      refine run_goto 26 dX3_recover_99 (by decide) ?_
      exact ih _ _ _ h kx
def fX3_recover (x1 : Int32) (n2 : Nat) (n3 : Nat) (σ : Mem) : Option Mem := (fX3_durableWith x1 σ).bind fun q1 => gd (isB (rfN (q1.2 146 0)) 7) ((fX11_copyKeys ((rfN (q1.2 146 0)) + 1) n2 q1.2).bind fun q3 => (fJ7_fill_53178 n3 10 0 q3).bind fun q4 => (lX3_recover_26 x1 n2 n3 q1.1 FU 0 q4).bind fun q56 => some q56)
set_option maxRecDepth 20000 in
theorem sX3_recover (G : GT) (d : Nat) {x1 : Int32} {n2 : Nat} {n3 : Nat} (hn2 : Is n2 14) (hl2 : ln n2 = 10) (hn3 : Is n3 14) (hl3 : ln n3 = 10) {σ : Mem} {o : Mem} (h : fX3_recover x1 n2 n3 σ = some o) : Spec G yX3_recover cX3_recover 7 none (d + HX3_recover) [.ref (gA G 146), .int x1, .ref (gA G n2), .ref (gA G n3)] σ (kV fun z => z = o) := by
  refine spec_run (by decide) (Nat.le_of_ble_eq_true rfl) ?_
  unfold fX3_recover at h
  show Run G RX3 cX3_recover 7 none _ 0 [(0, .ref (gA G 146)), (1, .int x1), (2, .ref (gA G n2)), (3, .ref (gA G n3))] [] σ
  refine run_aload_n 0 dX3_recover_0 rfl rfl ?_
  refine run_iload_n 1 dX3_recover_1 rfl rfl ?_
  obtain ⟨q1, h60, h⟩ := Option.bind_eq_some_iff.mp h
  refine run_callVi (As := [.int x1]) (fun r z => (r, z) = q1) mw_X3_durableWith mi_X3_durableWith ml_X3_157 is_146 (by decide) rfl rfl rfl (RF.lt (HX3_recover_X3_durableWith_lt d)) (Nat.le_of_ble_eq_true rfl) dX3_recover_2 (sX3_durableWith G d  h60) (fun r z h8 => ?_) rfl
  rw [show r = q1.1 from congrArg Prod.fst h8, show z = q1.2 from congrArg Prod.snd h8]
  clear h8
  refine run_istore [(0, .ref (gA G 146)), (1, .int x1), (2, .ref (gA G n2)), (3, .ref (gA G n3)), (4, .int q1.1)] [1, 2, 3, 4, 0] dX3_recover_5 (by decide) rfl ?_
  refine run_aload_n 0 dX3_recover_7 rfl rfl ?_
  obtain ⟨g2, h⟩ := gd_s h
  refine run_getd fl_X3_51 is_146 (by decide) rfl dX3_recover_8 ?_
  refine run_getr fl_X3_71 (isB_Is g2) (by decide) rfl (cs_7_2 (isB_Is g2)) dX3_recover_11 ?_
  refine run_aload_n 2 dX3_recover_14 rfl rfl ?_
  obtain ⟨q3, h59, h⟩ := Option.bind_eq_some_iff.mp h
  refine run_callNv (As := [.ref (gA G ((rfN (q1.2 146 0)) + 1)), .ref (gA G n2)]) (fun z => z = q3) mw_X11_copyKeys ms_X11_copyKeys mn_X3_72 rfl (RF.lt (HX3_recover_X11_copyKeys_lt d)) (Nat.le_of_ble_eq_true rfl) dX3_recover_15 (sX11_copyKeys G d (ch_7_2 (isB_Is g2)) (cl_7_2 (isB_Is g2)) hn2 hl2 h59) (fun z h8 => ?_) rfl
  rw [h8]
  clear h8
  refine run_aload_n 3 dX3_recover_18 rfl rfl ?_
  refine run_iconst (v := 0) dX3_recover_19 rfl ?_
  obtain ⟨q4, h58, h⟩ := Option.bind_eq_some_iff.mp h
  refine run_callSv (As := [.ref (gA G n3), .int 0]) (fun z => z = q4) mw_J7_fill_53178 ms_J7_fill_53178 ml_X3_76 rfl (RF.lt (HX3_recover_J7_fill_53178_lt d)) (Nat.le_of_ble_eq_true rfl) dX3_recover_20 (sJ7_fill_53178 G d hn3 hl3 (by decide) h58) (fun z h8 => ?_) rfl
  rw [h8]
  clear h8
  refine run_iconst (v := 0) dX3_recover_23 rfl ?_
  refine run_istore [(0, .ref (gA G 146)), (1, .int x1), (2, .ref (gA G n2)), (3, .ref (gA G n3)), (4, .int q1.1), (5, .int 0)] [1, 2, 3, 4, 5, 0] dX3_recover_24 (by decide) rfl ?_
  obtain ⟨q56, h57, h⟩ := Option.bind_eq_some_iff.mp h
  refine lpX3_recover_26 G d _ _ _ _ hn2 hl2 hn3 hl3 _ _ _ _ h57 ?_
  exact run_vret dX3_recover_102 ⟨rfl, Option.some.inj h⟩
def HX3_makeCommit : Nat := 3
theorem HX3_makeCommit_X11_copyKeys_lt (d : Nat) : d + HX11_copyKeys < d + HX3_makeCommit := Nat.add_lt_add_left (by decide) d
theorem HX3_makeCommit_X3_bringIn_lt (d : Nat) : d + HX3_bringIn < d + HX3_makeCommit := Nat.add_lt_add_left (by decide) d
theorem HX3_makeCommit_X3_nextStamp_lt (d : Nat) : d + HX3_nextStamp < d + HX3_makeCommit := Nat.add_lt_add_left (by decide) d
theorem HX3_makeCommit_0 (d : Nat) : 0 < d + HX3_makeCommit := Nat.lt_of_lt_of_le (by decide) (Nat.le_add_left _ d)
def fX3_makeCommit (x1 : Int32) (σ : Mem) : Option Mem := gd (inb x1 4) ((fX3_nextStamp (158 + 4 * (Int32.toNatClampNeg x1)) σ).bind fun q2 => gd (inb (q2.2 146 12) 60) (gd (inb ((st2 q2.2 154 (Int32.toNatClampNeg (q2.2 146 12)) 1) 146 12) 60) ((some (st2 (st2 q2.2 154 (Int32.toNatClampNeg (q2.2 146 12)) 1) 157 (Int32.toNatClampNeg ((st2 q2.2 154 (Int32.toNatClampNeg (q2.2 146 12)) 1) 146 12)) q2.1)).bind fun s5 => (fX3_bringIn (158 + 4 * (Int32.toNatClampNeg x1)) q2.1 (st2 s5 (158 + 4 * (Int32.toNatClampNeg x1)) 4 q2.1)).bind fun q6 => if (q6.2 146 11) < 30 then (gd (inb (q6.2 146 11) 30) ((some (st2 (st2 q6.2 (174 + 2 * (Int32.toNatClampNeg (q6.2 146 11))) 0 x1) (174 + 2 * (Int32.toNatClampNeg (q6.2 146 11))) 1 ((st2 q6.2 (174 + 2 * (Int32.toNatClampNeg (q6.2 146 11))) 0 x1) (158 + 4 * (Int32.toNatClampNeg x1)) 0))).bind fun s9 => (some (st2 (st2 (st2 s9 (174 + 2 * (Int32.toNatClampNeg (q6.2 146 11))) 2 (s9 146 3)) (174 + 2 * (Int32.toNatClampNeg (q6.2 146 11))) 3 q2.1) (174 + 2 * (Int32.toNatClampNeg (q6.2 146 11))) 4 ((st2 (st2 s9 (174 + 2 * (Int32.toNatClampNeg (q6.2 146 11))) 2 (s9 146 3)) (174 + 2 * (Int32.toNatClampNeg (q6.2 146 11))) 3 q2.1) (158 + 4 * (Int32.toNatClampNeg x1)) 6))).bind fun s10 => (some (st2 (st2 s10 (174 + 2 * (Int32.toNatClampNeg (q6.2 146 11))) 5 (s10 (158 + 4 * (Int32.toNatClampNeg x1)) 7)) (174 + 2 * (Int32.toNatClampNeg (q6.2 146 11))) 6 ((st2 s10 (174 + 2 * (Int32.toNatClampNeg (q6.2 146 11))) 5 (s10 (158 + 4 * (Int32.toNatClampNeg x1)) 7)) (158 + 4 * (Int32.toNatClampNeg x1)) 8))).bind fun s11 => (some (st2 (st2 (st2 s11 (174 + 2 * (Int32.toNatClampNeg (q6.2 146 11))) 7 q6.1) (174 + 2 * (Int32.toNatClampNeg (q6.2 146 11))) 8 0) (174 + 2 * (Int32.toNatClampNeg (q6.2 146 11))) 9 0)).bind fun s12 => (fX11_copyKeys ((158 + 4 * (Int32.toNatClampNeg x1)) + 3) ((174 + 2 * (Int32.toNatClampNeg (q6.2 146 11))) + 1) s12).bind fun q13 => some (st2 q13 146 11 ((q13 146 11) + 1)))) else (some q6.2))))
set_option maxRecDepth 20000 in
theorem sX3_makeCommit (G : GT) (d : Nat) {x1 : Int32}  {σ : Mem} {o : Mem} (h : fX3_makeCommit x1 σ = some o) : Spec G yX3_makeCommit cX3_makeCommit 6 none (d + HX3_makeCommit) [.ref (gA G 146), .int x1] σ (kV fun z => z = o) := by
  refine spec_run (by decide) (Nat.le_of_ble_eq_true rfl) ?_
  unfold fX3_makeCommit at h
  show Run G RX3 cX3_makeCommit 6 none _ 0 [(0, .ref (gA G 146)), (1, .int x1)] [] σ
  refine run_aload_n 0 dX3_makeCommit_0 rfl rfl ?_
  refine run_getr fl_X3_29 is_146 (by decide) rfl ce_146_9 dX3_makeCommit_1 ?_
  refine run_iload_n 1 dX3_makeCommit_4 rfl rfl ?_
  obtain ⟨g1, h⟩ := gd_s h
  refine run_aald' (j := (Int32.toNatClampNeg x1)) is_152 (by decide) (by decide) (t0 := 9) rfl ln_152 g1 rfl (es_152 _) dX3_makeCommit_5 ?_
  refine run_astore_n [(0, .ref (gA G 146)), (1, .int x1), (2, .ref (gA G (158 + 4 * (Int32.toNatClampNeg x1))))] [1, 2, 0] dX3_makeCommit_6 rfl (by decide) rfl ?_
  refine run_aload_n 0 dX3_makeCommit_7 rfl rfl ?_
  refine run_aload_n 2 dX3_makeCommit_8 rfl rfl ?_
  obtain ⟨q2, h16, h⟩ := Option.bind_eq_some_iff.mp h
  refine run_callVi (As := [.ref (gA G (158 + 4 * (Int32.toNatClampNeg x1)))]) (fun r z => (r, z) = q2) mw_X3_nextStamp mi_X3_nextStamp ml_X3_269 is_146 (by decide) rfl rfl rfl (RF.lt (HX3_makeCommit_X3_nextStamp_lt d)) (Nat.le_of_ble_eq_true rfl) dX3_makeCommit_9 (sX3_nextStamp G d (el_152 (inb_lt g1)) h16) (fun r z h8 => ?_) rfl
  rw [show r = q2.1 from congrArg Prod.fst h8, show z = q2.2 from congrArg Prod.snd h8]
  clear h8
  refine run_istore_n [(0, .ref (gA G 146)), (1, .int x1), (2, .ref (gA G (158 + 4 * (Int32.toNatClampNeg x1)))), (3, .int q2.1)] [1, 2, 3, 0] dX3_makeCommit_12 rfl (by decide) rfl ?_
  refine run_aload_n 0 dX3_makeCommit_13 rfl rfl ?_
  refine run_getr fl_X3_39 is_146 (by decide) rfl ce_146_13 dX3_makeCommit_14 ?_
  refine run_aload_n 0 dX3_makeCommit_17 rfl rfl ?_
  refine run_geti fl_X3_89 is_146 (by decide) rfl dX3_makeCommit_18 ?_
  refine run_iconst (v := 1) dX3_makeCommit_21 rfl ?_
  obtain ⟨g3, h⟩ := gd_s h
  refine run_iast' is_154 ln_154 g3 rfl dX3_makeCommit_22 ?_
  refine run_aload_n 0 dX3_makeCommit_23 rfl rfl ?_
  refine run_getr fl_X3_48 is_146 (by decide) rfl ce_146_16 dX3_makeCommit_24 ?_
  refine run_aload_n 0 dX3_makeCommit_27 rfl rfl ?_
  refine run_geti fl_X3_89 is_146 (by decide) rfl dX3_makeCommit_28 ?_
  refine run_iload_n 3 dX3_makeCommit_31 rfl rfl ?_
  obtain ⟨g4, h⟩ := gd_s h
  refine run_iast' is_157 ln_157 g4 rfl dX3_makeCommit_32 ?_
  rw [Option.bind_some] at h
  refine run_mem (fun s5 es5 => ?_)
  rw [← es5] at h
  refine run_aload_n 2 dX3_makeCommit_33 rfl rfl ?_
  refine run_iload_n 3 dX3_makeCommit_34 rfl rfl ?_
  refine run_puti fp_X3_272 (el_152 (inb_lt g1)) (by decide) rfl dX3_makeCommit_35 ?_
  refine run_aload_n 0 dX3_makeCommit_38 rfl rfl ?_
  refine run_aload_n 2 dX3_makeCommit_39 rfl rfl ?_
  refine run_iload_n 3 dX3_makeCommit_40 rfl rfl ?_
  obtain ⟨q6, h15, h⟩ := Option.bind_eq_some_iff.mp h
  refine run_callVi (As := [.ref (gA G (158 + 4 * (Int32.toNatClampNeg x1))), .int q2.1]) (fun r z => (r, z) = q6) mw_X3_bringIn mi_X3_bringIn ml_X3_275 is_146 (by decide) rfl rfl rfl (RF.lt (HX3_makeCommit_X3_bringIn_lt d)) (Nat.le_of_ble_eq_true rfl) dX3_makeCommit_41 (sX3_bringIn G d (el_152 (inb_lt g1)) h15) (fun r z h8 => ?_) rfl
  rw [show r = q6.1 from congrArg Prod.fst h8, show z = q6.2 from congrArg Prod.snd h8]
  clear h8
  refine run_istore [(0, .ref (gA G 146)), (1, .int x1), (2, .ref (gA G (158 + 4 * (Int32.toNatClampNeg x1)))), (3, .int q2.1), (4, .int q6.1)] [1, 2, 3, 4, 0] dX3_makeCommit_44 (by decide) rfl ?_
  refine run_aload_n 0 dX3_makeCommit_46 rfl rfl ?_
  refine run_geti fl_X3_86 is_146 (by decide) rfl dX3_makeCommit_47 ?_
  refine run_bipush (v := 30) dX3_makeCommit_50 rfl ?_
  refine run_icmp_lt 56 dX3_makeCommit_52 (by decide) (fun c7 => ?_) (fun c7 => ?_)
  · rw [if_pos c7] at h
    refine run_aload_n 0 dX3_makeCommit_56 rfl rfl ?_
    refine run_getr fl_X3_35 is_146 (by decide) rfl ce_146_10 dX3_makeCommit_57 ?_
    refine run_aload_n 0 dX3_makeCommit_60 rfl rfl ?_
    refine run_geti fl_X3_86 is_146 (by decide) rfl dX3_makeCommit_61 ?_
    obtain ⟨g8, h⟩ := gd_s h
    refine run_aald' (j := (Int32.toNatClampNeg (q6.2 146 11))) is_153 (by decide) (by decide) (t0 := 4) rfl ln_153 g8 rfl (es_153 _) dX3_makeCommit_64 ?_
    refine run_astore [(0, .ref (gA G 146)), (1, .int x1), (2, .ref (gA G (158 + 4 * (Int32.toNatClampNeg x1)))), (3, .int q2.1), (4, .int q6.1), (5, .ref (gA G (174 + 2 * (Int32.toNatClampNeg (q6.2 146 11)))))] [1, 2, 3, 4, 5, 0] dX3_makeCommit_65 (by decide) rfl ?_
    refine run_aload 5 dX3_makeCommit_67 rfl ?_
    refine run_iload_n 1 dX3_makeCommit_69 rfl rfl ?_
    refine run_puti fp_X3_147 (el_153 (inb_lt g8)) (by decide) rfl dX3_makeCommit_70 ?_
    refine run_aload 5 dX3_makeCommit_73 rfl ?_
    refine run_aload_n 2 dX3_makeCommit_75 rfl rfl ?_
    refine run_geti fl_X3_132 (el_152 (inb_lt g1)) (by decide) rfl dX3_makeCommit_76 ?_
    refine run_puti fp_X3_278 (el_153 (inb_lt g8)) (by decide) rfl dX3_makeCommit_79 ?_
    rw [Option.bind_some] at h
    refine run_mem (fun s9 es9 => ?_)
    rw [← es9] at h
    refine run_aload 5 dX3_makeCommit_82 rfl ?_
    refine run_aload_n 0 dX3_makeCommit_84 rfl rfl ?_
    refine run_geti fl_X3_68 is_146 (by decide) rfl dX3_makeCommit_85 ?_
    refine run_puti fp_X3_186 (el_153 (inb_lt g8)) (by decide) rfl dX3_makeCommit_88 ?_
    refine run_aload 5 dX3_makeCommit_91 rfl ?_
    refine run_iload_n 3 dX3_makeCommit_93 rfl rfl ?_
    refine run_puti fp_X3_194 (el_153 (inb_lt g8)) (by decide) rfl dX3_makeCommit_94 ?_
    refine run_aload 5 dX3_makeCommit_97 rfl ?_
    refine run_aload_n 2 dX3_makeCommit_99 rfl rfl ?_
    refine run_geti fl_X3_243 (el_152 (inb_lt g1)) (by decide) rfl dX3_makeCommit_100 ?_
    refine run_puti fp_X3_279 (el_153 (inb_lt g8)) (by decide) rfl dX3_makeCommit_103 ?_
    rw [Option.bind_some] at h
    refine run_mem (fun s10 es10 => ?_)
    rw [← es10] at h
    refine run_aload 5 dX3_makeCommit_106 rfl ?_
    refine run_aload_n 2 dX3_makeCommit_108 rfl rfl ?_
    refine run_geti fl_X3_249 (el_152 (inb_lt g1)) (by decide) rfl dX3_makeCommit_109 ?_
    refine run_puti fp_X3_280 (el_153 (inb_lt g8)) (by decide) rfl dX3_makeCommit_112 ?_
    refine run_aload 5 dX3_makeCommit_115 rfl ?_
    refine run_aload_n 2 dX3_makeCommit_117 rfl rfl ?_
    refine run_geti fl_X3_202 (el_152 (inb_lt g1)) (by decide) rfl dX3_makeCommit_118 ?_
    refine run_puti fp_X3_191 (el_153 (inb_lt g8)) (by decide) rfl dX3_makeCommit_121 ?_
    rw [Option.bind_some] at h
    refine run_mem (fun s11 es11 => ?_)
    rw [← es11] at h
    refine run_aload 5 dX3_makeCommit_124 rfl ?_
    refine run_iload 4 dX3_makeCommit_126 rfl ?_
    refine run_puti fp_X3_281 (el_153 (inb_lt g8)) (by decide) rfl dX3_makeCommit_128 ?_
    refine run_aload 5 dX3_makeCommit_131 rfl ?_
    refine run_iconst (v := 0) dX3_makeCommit_133 rfl ?_
    refine run_putz fp_X3_150 (el_153 (inb_lt g8)) (by decide) rfl (by decide) dX3_makeCommit_134 ?_
    refine run_aload 5 dX3_makeCommit_137 rfl ?_
    refine run_iconst (v := 0) dX3_makeCommit_139 rfl ?_
    refine run_putz fp_X3_169 (el_153 (inb_lt g8)) (by decide) rfl (by decide) dX3_makeCommit_140 ?_
    rw [Option.bind_some] at h
    refine run_mem (fun s12 es12 => ?_)
    rw [← es12] at h
    refine run_aload_n 2 dX3_makeCommit_143 rfl rfl ?_
    refine run_getr fl_X3_203 (el_152 (inb_lt g1)) (by decide) rfl (cs_10_11 (el_152 (inb_lt g1))) dX3_makeCommit_144 ?_
    refine run_aload 5 dX3_makeCommit_147 rfl ?_
    refine run_getr fl_X3_196 (el_153 (inb_lt g8)) (by decide) rfl (cs_2_10 (el_153 (inb_lt g8))) dX3_makeCommit_149 ?_
    obtain ⟨q13, h14, h⟩ := Option.bind_eq_some_iff.mp h
    refine run_callNv (As := [.ref (gA G ((158 + 4 * (Int32.toNatClampNeg x1)) + 3)), .ref (gA G ((174 + 2 * (Int32.toNatClampNeg (q6.2 146 11))) + 1))]) (fun z => z = q13) mw_X11_copyKeys ms_X11_copyKeys mn_X3_72 rfl (RF.lt (HX3_makeCommit_X11_copyKeys_lt d)) (Nat.le_of_ble_eq_true rfl) dX3_makeCommit_152 (sX11_copyKeys G d (ch_10_11 (el_152 (inb_lt g1))) (cl_10_11 (el_152 (inb_lt g1))) (ch_2_10 (el_153 (inb_lt g8))) (cl_2_10 (el_153 (inb_lt g8))) h14) (fun z h8 => ?_) rfl
    rw [h8]
    clear h8
    refine run_aload_n 0 dX3_makeCommit_155 rfl rfl ?_
    refine run_dup dX3_makeCommit_156 rfl ?_
    refine run_geti fl_X3_86 is_146 (by decide) rfl dX3_makeCommit_157 ?_
    refine run_iconst (v := 1) dX3_makeCommit_160 rfl ?_
    refine run_iadd dX3_makeCommit_161 ?_
    refine run_puti fp_X3_86 is_146 (by decide) rfl dX3_makeCommit_162 ?_
    exact run_vret dX3_makeCommit_165 ⟨rfl, Option.some.inj h⟩
  · rw [if_neg c7] at h
    exact run_vret dX3_makeCommit_55 ⟨rfl, Option.some.inj h⟩
def HX3_view : Nat := 4
theorem HX3_view_X3_nodeOf_lt (d : Nat) : d + HX3_nodeOf < d + HX3_view := Nat.add_lt_add_left (by decide) d
theorem HX3_view_X3_viewAll_lt (d : Nat) : d + HX3_viewAll < d + HX3_view := Nat.add_lt_add_left (by decide) d
theorem HX3_view_X3_viewWorker_lt (d : Nat) : d + HX3_viewWorker < d + HX3_view := Nat.add_lt_add_left (by decide) d
theorem HX3_view_0 (d : Nat) : 0 < d + HX3_view := Nat.lt_of_lt_of_le (by decide) (Nat.le_add_left _ d)
def fX3_view (x1 : Int32) (σ : Mem) : Option (Int32 × Mem) := if x1 < 0 then (some ((-2), σ)) else (if x1 < 110 then (if (x1 / 10) = 0 then ((fX3_viewAll (x1 % 10) σ).bind fun q4 => some (q4.1, q4.2)) else (if (x1 / 10) = 1 then (gd (inb (x1 % 10) 10) (some ((σ 147 (Int32.toNatClampNeg (x1 % 10))), σ))) else (if (x1 / 10) = 2 then (gd (inb (x1 % 10) 10) (some ((σ 148 (Int32.toNatClampNeg (x1 % 10))), σ))) else (if (x1 / 10) = 3 then (some ((-2), σ)) else (if (x1 / 10) = 4 then ((fX3_nodeOf 9 σ).bind fun q12 => if q12.1 < (x1 % 10) then (some ((-2), q12.2)) else (gd (inb (x1 % 10) 10) (some ((q12.2 149 (Int32.toNatClampNeg (x1 % 10))), q12.2)))) else (if (σ 146 2) ≤ (x1 % 10) then (some ((-2), σ)) else ((fX3_viewWorker (x1 % 10) (x1 / 10) σ).bind fun q17 => some (q17.1, q17.2)))))))) else (some ((-2), σ)))
set_option maxRecDepth 20000 in
theorem sX3_view (G : GT) (d : Nat) {x1 : Int32}  {σ : Mem} {o : (Int32 × Mem)} (h : fX3_view x1 σ = some o) : Spec G yX3_view cX3_view 3 (some .int) (d + HX3_view) [.ref (gA G 146), .int x1] σ (kI fun x z => (x, z) = o) := by
  refine spec_run (by decide) (Nat.le_of_ble_eq_true rfl) ?_
  unfold fX3_view at h
  show Run G RX3 cX3_view 3 (some .int) _ 0 [(0, .ref (gA G 146)), (1, .int x1)] [] σ
  refine run_iload_n 1 dX3_view_0 rfl rfl ?_
  refine run_if_lt 10 dX3_view_1 (by decide) (fun c1 => ?_) (fun c1 => ?_)
  · rw [if_pos c1] at h
    refine run_bipush (v := -2) dX3_view_10 rfl ?_
    exact run_iret dX3_view_12 ⟨_, rfl, Option.some.inj h⟩
  · rw [if_neg c1] at h
    refine run_iload_n 1 dX3_view_4 rfl rfl ?_
    refine run_bipush (v := 110) dX3_view_5 rfl ?_
    refine run_icmp_lt 13 dX3_view_7 (by decide) (fun c2 => ?_) (fun c2 => ?_)
    · rw [if_pos c2] at h
      refine run_iload_n 1 dX3_view_13 rfl rfl ?_
      refine run_bipush (v := 10) dX3_view_14 rfl ?_
      refine run_irem dX3_view_16 (by decide) ?_
      refine run_istore_n [(0, .ref (gA G 146)), (1, .int x1), (2, .int (x1 % 10))] [1, 2, 0] dX3_view_17 rfl (by decide) rfl ?_
      refine run_iload_n 1 dX3_view_18 rfl rfl ?_
      refine run_bipush (v := 10) dX3_view_19 rfl ?_
      refine run_idiv dX3_view_21 (by decide) ?_
      by_cases c3 : (x1 / 10) = 0
      · rw [if_pos c3] at h
        refine run_tblIn 56 dX3_view_22 (by rw [c3]; decide) (by rw [c3]; decide) (off := 34) (by rw [c3]; rfl) (by decide) ?_
        refine run_aload_n 0 dX3_view_56 rfl rfl ?_
        refine run_iload_n 2 dX3_view_57 rfl rfl ?_
        obtain ⟨q4, h5, h⟩ := Option.bind_eq_some_iff.mp h
        refine run_callVi (As := [.int (x1 % 10)]) (fun r z => (r, z) = q4) mw_X3_viewAll mi_X3_viewAll ml_X3_284 is_146 (by decide) rfl rfl rfl (RF.lt (HX3_view_X3_viewAll_lt d)) (Nat.le_of_ble_eq_true rfl) dX3_view_58 (sX3_viewAll G d  h5) (fun r z h8 => ?_) rfl
        rw [show r = q4.1 from congrArg Prod.fst h8, show z = q4.2 from congrArg Prod.snd h8]
        clear h8
        exact run_iret dX3_view_61 ⟨_, rfl, Option.some.inj h⟩
      · rw [if_neg c3] at h
        by_cases c6 : (x1 / 10) = 1
        · rw [if_pos c6] at h
          refine run_tblIn 62 dX3_view_22 (by rw [c6]; decide) (by rw [c6]; decide) (off := 40) (by rw [c6]; rfl) (by decide) ?_
          refine run_aload_n 0 dX3_view_62 rfl rfl ?_
          refine run_getr fl_X3_9 is_146 (by decide) rfl ce_146_4 dX3_view_63 ?_
          refine run_iload_n 2 dX3_view_66 rfl rfl ?_
          obtain ⟨g7, h⟩ := gd_s h
          refine run_iald' is_147 ln_147 g7 rfl dX3_view_67 ?_
          exact run_iret dX3_view_68 ⟨_, rfl, Option.some.inj h⟩
        · rw [if_neg c6] at h
          by_cases c8 : (x1 / 10) = 2
          · rw [if_pos c8] at h
            refine run_tblIn 69 dX3_view_22 (by rw [c8]; decide) (by rw [c8]; decide) (off := 47) (by rw [c8]; rfl) (by decide) ?_
            refine run_aload_n 0 dX3_view_69 rfl rfl ?_
            refine run_getr fl_X3_15 is_146 (by decide) rfl ce_146_5 dX3_view_70 ?_
            refine run_iload_n 2 dX3_view_73 rfl rfl ?_
            obtain ⟨g9, h⟩ := gd_s h
            refine run_iald' is_148 ln_148 g9 rfl dX3_view_74 ?_
            exact run_iret dX3_view_75 ⟨_, rfl, Option.some.inj h⟩
          · rw [if_neg c8] at h
            by_cases c10 : (x1 / 10) = 3
            · rw [if_pos c10] at h
              refine run_tblIn 76 dX3_view_22 (by rw [c10]; decide) (by rw [c10]; decide) (off := 54) (by rw [c10]; rfl) (by decide) ?_
              refine run_bipush (v := -2) dX3_view_76 rfl ?_
              exact run_iret dX3_view_78 ⟨_, rfl, Option.some.inj h⟩
            · rw [if_neg c10] at h
              by_cases c11 : (x1 / 10) = 4
              · rw [if_pos c11] at h
                refine run_tblIn 79 dX3_view_22 (by rw [c11]; decide) (by rw [c11]; decide) (off := 57) (by rw [c11]; rfl) (by decide) ?_
                refine run_iload_n 2 dX3_view_79 rfl rfl ?_
                refine run_aload_n 0 dX3_view_80 rfl rfl ?_
                refine run_bipush (v := 9) dX3_view_81 rfl ?_
                obtain ⟨q12, h15, h⟩ := Option.bind_eq_some_iff.mp h
                refine run_callVi (As := [.int 9]) (fun r z => (r, z) = q12) mw_X3_nodeOf mi_X3_nodeOf ml_X3_207 is_146 (by decide) rfl rfl rfl (RF.lt (HX3_view_X3_nodeOf_lt d)) (Nat.le_of_ble_eq_true rfl) dX3_view_83 (sX3_nodeOf G d  h15) (fun r z h8 => ?_) rfl
                rw [show r = q12.1 from congrArg Prod.fst h8, show z = q12.2 from congrArg Prod.snd h8]
                clear h8
                refine run_icmp_gt 98 dX3_view_86 (by decide) (fun c13 => ?_) (fun c13 => ?_)
                · rw [if_pos c13] at h
                  refine run_bipush (v := -2) dX3_view_98 rfl ?_
                  exact run_iret dX3_view_100 ⟨_, rfl, Option.some.inj h⟩
                · rw [if_neg c13] at h
                  refine run_aload_n 0 dX3_view_89 rfl rfl ?_
                  refine run_getr fl_X3_18 is_146 (by decide) rfl ce_146_6 dX3_view_90 ?_
                  refine run_iload_n 2 dX3_view_93 rfl rfl ?_
                  obtain ⟨g14, h⟩ := gd_s h
                  refine run_iald' is_149 ln_149 g14 rfl dX3_view_94 ?_
                  refine run_goto 100 dX3_view_95 (by decide) ?_
                  exact run_iret dX3_view_100 ⟨_, rfl, Option.some.inj h⟩
              · rw [if_neg c11] at h
                refine run_tblOut 101 dX3_view_22 (by have tc3 := tbl_ne c3 (z := 0) rfl; have tc6 := tbl_ne c6 (z := 1) rfl; have tc8 := tbl_ne c8 (z := 2) rfl; have tc10 := tbl_ne c10 (z := 3) rfl; have tc11 := tbl_ne c11 (z := 4) rfl; omega) (by decide) ?_
                refine run_iload_n 2 dX3_view_101 rfl rfl ?_
                refine run_aload_n 0 dX3_view_102 rfl rfl ?_
                refine run_geti fl_X3_67 is_146 (by decide) rfl dX3_view_103 ?_
                refine run_icmp_ge 121 dX3_view_106 (by decide) (fun c16 => ?_) (fun c16 => ?_)
                · rw [if_pos c16] at h
                  refine run_bipush (v := -2) dX3_view_121 rfl ?_
                  exact run_iret dX3_view_123 ⟨_, rfl, Option.some.inj h⟩
                · rw [if_neg c16] at h
                  refine run_aload_n 0 dX3_view_109 rfl rfl ?_
                  refine run_iload_n 2 dX3_view_110 rfl rfl ?_
                  refine run_iload_n 1 dX3_view_111 rfl rfl ?_
                  refine run_bipush (v := 10) dX3_view_112 rfl ?_
                  refine run_idiv dX3_view_114 (by decide) ?_
                  obtain ⟨q17, h18, h⟩ := Option.bind_eq_some_iff.mp h
                  refine run_callVi (As := [.int (x1 % 10), .int (x1 / 10)]) (fun r z => (r, z) = q17) mw_X3_viewWorker mi_X3_viewWorker ml_X3_287 is_146 (by decide) rfl rfl rfl (RF.lt (HX3_view_X3_viewWorker_lt d)) (Nat.le_of_ble_eq_true rfl) dX3_view_115 (sX3_viewWorker G d  h18) (fun r z h8 => ?_) rfl
                  rw [show r = q17.1 from congrArg Prod.fst h8, show z = q17.2 from congrArg Prod.snd h8]
                  clear h8
                  refine run_goto 123 dX3_view_118 (by decide) ?_
                  exact run_iret dX3_view_123 ⟨_, rfl, Option.some.inj h⟩
    · rw [if_neg c2] at h
      refine run_bipush (v := -2) dX3_view_10 rfl ?_
      exact run_iret dX3_view_12 ⟨_, rfl, Option.some.inj h⟩
