/-! methods, translated -/
def HX3_viewAll : Nat := 3
theorem HX3_viewAll_X11_keysThere_lt (d : Nat) : d + HX11_keysThere < d + HX3_viewAll := Nat.add_lt_add_left (by decide) d
theorem HX3_viewAll_X3_durableWith_lt (d : Nat) : d + HX3_durableWith < d + HX3_viewAll := Nat.add_lt_add_left (by decide) d
theorem HX3_viewAll_X3_refusals_lt (d : Nat) : d + HX3_refusals < d + HX3_viewAll := Nat.add_lt_add_left (by decide) d
theorem HX3_viewAll_0 (d : Nat) : 0 < d + HX3_viewAll := Nat.lt_of_lt_of_le (by decide) (Nat.le_add_left _ d)
def fX3_viewAll (x1 : Int32) (σ : Mem) : Option (Int32 × Mem) := if x1 = 0 then (some ((σ 146 3), σ)) else (if x1 = 1 then ((fX3_durableWith 0 σ).bind fun q3 => some (q3.1, q3.2)) else (if x1 = 2 then (some ((σ 146 11), σ)) else (if x1 = 3 then ((fX3_refusals σ).bind fun q7 => some (q7.1, q7.2)) else (if x1 = 4 then ((fX11_keysThere 147 σ).bind fun q10 => some (q10.1, q10.2)) else (some ((-2), σ))))))
set_option maxRecDepth 20000 in
theorem sX3_viewAll (G : GT) (d : Nat) {x1 : Int32}  {σ : Mem} {o : (Int32 × Mem)} (h : fX3_viewAll x1 σ = some o) : Spec G yX3_viewAll cX3_viewAll 2 (some .int) (d + HX3_viewAll) [.ref (gA G 146), .int x1] σ (kI fun x z => (x, z) = o) := by
  refine spec_run (by decide) (Nat.le_of_ble_eq_true rfl) ?_
  unfold fX3_viewAll at h
  show Run G RX3 cX3_viewAll 2 (some .int) _ 0 [(0, .ref (gA G 146)), (1, .int x1)] [] σ
  refine run_iload_n 1 dX3_viewAll_0 rfl rfl ?_
  by_cases c1 : x1 = 0
  · rw [if_pos c1] at h
    refine run_tblIn 36 dX3_viewAll_1 (by rw [c1]; decide) (by rw [c1]; decide) (off := 35) (by rw [c1]; rfl) (by decide) ?_
    refine run_aload_n 0 dX3_viewAll_36 rfl rfl ?_
    refine run_geti fl_X3_68 is_146 (by decide) rfl dX3_viewAll_37 ?_
    exact run_iret dX3_viewAll_40 ⟨_, rfl, Option.some.inj h⟩
  · rw [if_neg c1] at h
    by_cases c2 : x1 = 1
    · rw [if_pos c2] at h
      refine run_tblIn 41 dX3_viewAll_1 (by rw [c2]; decide) (by rw [c2]; decide) (off := 40) (by rw [c2]; rfl) (by decide) ?_
      refine run_aload_n 0 dX3_viewAll_41 rfl rfl ?_
      refine run_iconst (v := 0) dX3_viewAll_42 rfl ?_
      obtain ⟨q3, h4, h⟩ := Option.bind_eq_some_iff.mp h
      refine run_callVi (As := [.int 0]) (fun r z => (r, z) = q3) mw_X3_durableWith mi_X3_durableWith ml_X3_157 is_146 (by decide) rfl rfl rfl (RF.lt (HX3_viewAll_X3_durableWith_lt d)) (Nat.le_of_ble_eq_true rfl) dX3_viewAll_43 (sX3_durableWith G d  h4) (fun r z h8 => ?_) rfl
      rw [show r = q3.1 from congrArg Prod.fst h8, show z = q3.2 from congrArg Prod.snd h8]
      clear h8
      exact run_iret dX3_viewAll_46 ⟨_, rfl, Option.some.inj h⟩
    · rw [if_neg c2] at h
      by_cases c5 : x1 = 2
      · rw [if_pos c5] at h
        refine run_tblIn 47 dX3_viewAll_1 (by rw [c5]; decide) (by rw [c5]; decide) (off := 46) (by rw [c5]; rfl) (by decide) ?_
        refine run_aload_n 0 dX3_viewAll_47 rfl rfl ?_
        refine run_geti fl_X3_86 is_146 (by decide) rfl dX3_viewAll_48 ?_
        exact run_iret dX3_viewAll_51 ⟨_, rfl, Option.some.inj h⟩
      · rw [if_neg c5] at h
        by_cases c6 : x1 = 3
        · rw [if_pos c6] at h
          refine run_tblIn 52 dX3_viewAll_1 (by rw [c6]; decide) (by rw [c6]; decide) (off := 51) (by rw [c6]; rfl) (by decide) ?_
          refine run_aload_n 0 dX3_viewAll_52 rfl rfl ?_
          obtain ⟨q7, h8, h⟩ := Option.bind_eq_some_iff.mp h
          refine run_callVi (As := []) (fun r z => (r, z) = q7) mw_X3_refusals mi_X3_refusals ml_X3_290 is_146 (by decide) rfl rfl rfl (RF.lt (HX3_viewAll_X3_refusals_lt d)) (Nat.le_of_ble_eq_true rfl) dX3_viewAll_53 (sX3_refusals G d  h8) (fun r z h8 => ?_) rfl
          rw [show r = q7.1 from congrArg Prod.fst h8, show z = q7.2 from congrArg Prod.snd h8]
          clear h8
          exact run_iret dX3_viewAll_56 ⟨_, rfl, Option.some.inj h⟩
        · rw [if_neg c6] at h
          by_cases c9 : x1 = 4
          · rw [if_pos c9] at h
            refine run_tblIn 57 dX3_viewAll_1 (by rw [c9]; decide) (by rw [c9]; decide) (off := 56) (by rw [c9]; rfl) (by decide) ?_
            refine run_aload_n 0 dX3_viewAll_57 rfl rfl ?_
            refine run_getr fl_X3_9 is_146 (by decide) rfl ce_146_4 dX3_viewAll_58 ?_
            obtain ⟨q10, h11, h⟩ := Option.bind_eq_some_iff.mp h
            refine run_callNi (As := [.ref (gA G 147)]) (fun r z => (r, z) = q10) mw_X11_keysThere ms_X11_keysThere mn_X3_293 rfl (RF.lt (HX3_viewAll_X11_keysThere_lt d)) (Nat.le_of_ble_eq_true rfl) dX3_viewAll_61 (sX11_keysThere G d is_147 ln_147 h11) (fun r z h8 => ?_) rfl
            rw [show r = q10.1 from congrArg Prod.fst h8, show z = q10.2 from congrArg Prod.snd h8]
            clear h8
            exact run_iret dX3_viewAll_64 ⟨_, rfl, Option.some.inj h⟩
          · rw [if_neg c9] at h
            refine run_tblOut 65 dX3_viewAll_1 (by have tc1 := tbl_ne c1 (z := 0) rfl; have tc2 := tbl_ne c2 (z := 1) rfl; have tc5 := tbl_ne c5 (z := 2) rfl; have tc6 := tbl_ne c6 (z := 3) rfl; have tc9 := tbl_ne c9 (z := 4) rfl; omega) (by decide) ?_
            refine run_bipush (v := -2) dX3_viewAll_65 rfl ?_
            exact run_iret dX3_viewAll_67 ⟨_, rfl, Option.some.inj h⟩
def HX3_viewWorker : Nat := 2
theorem HX3_viewWorker_X3_linesOf_lt (d : Nat) : d + HX3_linesOf < d + HX3_viewWorker := Nat.add_lt_add_left (by decide) d
theorem HX3_viewWorker_0 (d : Nat) : 0 < d + HX3_viewWorker := Nat.lt_of_lt_of_le (by decide) (Nat.le_add_left _ d)
def fX3_viewWorker (x1 : Int32) (x2 : Int32) (σ : Mem) : Option (Int32 × Mem) := if x2 = 5 then (gd (inb x1 4) (some ((σ (158 + 4 * (Int32.toNatClampNeg x1)) 0), σ))) else (if x2 = 6 then (gd (inb x1 4) (some ((σ (158 + 4 * (Int32.toNatClampNeg x1)) 2), σ))) else (if x2 = 7 then (gd (inb x1 4) (some ((σ (158 + 4 * (Int32.toNatClampNeg x1)) 3), σ))) else (if x2 = 8 then (gd (inb x1 4) (some ((σ (158 + 4 * (Int32.toNatClampNeg x1)) 4), σ))) else (if x2 = 9 then ((fX3_linesOf x1 false σ).bind fun q10 => some (q10.1, q10.2)) else ((fX3_linesOf x1 true σ).bind fun q12 => some (q12.1, q12.2))))))
set_option maxRecDepth 20000 in
theorem sX3_viewWorker (G : GT) (d : Nat) {x1 : Int32} {x2 : Int32}  {σ : Mem} {o : (Int32 × Mem)} (h : fX3_viewWorker x1 x2 σ = some o) : Spec G yX3_viewWorker cX3_viewWorker 3 (some .int) (d + HX3_viewWorker) [.ref (gA G 146), .int x1, .int x2] σ (kI fun x z => (x, z) = o) := by
  refine spec_run (by decide) (Nat.le_of_ble_eq_true rfl) ?_
  unfold fX3_viewWorker at h
  show Run G RX3 cX3_viewWorker 3 (some .int) _ 0 [(0, .ref (gA G 146)), (1, .int x1), (2, .int x2)] [] σ
  refine run_iload_n 2 dX3_viewWorker_0 rfl rfl ?_
  by_cases c1 : x2 = 5
  · rw [if_pos c1] at h
    refine run_tblIn 36 dX3_viewWorker_1 (by rw [c1]; decide) (by rw [c1]; decide) (off := 35) (by rw [c1]; rfl) (by decide) ?_
    refine run_aload_n 0 dX3_viewWorker_36 rfl rfl ?_
    refine run_getr fl_X3_29 is_146 (by decide) rfl ce_146_9 dX3_viewWorker_37 ?_
    refine run_iload_n 1 dX3_viewWorker_40 rfl rfl ?_
    obtain ⟨g2, h⟩ := gd_s h
    refine run_aald' (j := (Int32.toNatClampNeg x1)) is_152 (by decide) (by decide) (t0 := 9) rfl ln_152 g2 rfl (es_152 _) dX3_viewWorker_41 ?_
    refine run_geti fl_X3_132 (el_152 (inb_lt g2)) (by decide) rfl dX3_viewWorker_42 ?_
    exact run_iret dX3_viewWorker_45 ⟨_, rfl, Option.some.inj h⟩
  · rw [if_neg c1] at h
    by_cases c3 : x2 = 6
    · rw [if_pos c3] at h
      refine run_tblIn 46 dX3_viewWorker_1 (by rw [c3]; decide) (by rw [c3]; decide) (off := 45) (by rw [c3]; rfl) (by decide) ?_
      refine run_aload_n 0 dX3_viewWorker_46 rfl rfl ?_
      refine run_getr fl_X3_29 is_146 (by decide) rfl ce_146_9 dX3_viewWorker_47 ?_
      refine run_iload_n 1 dX3_viewWorker_50 rfl rfl ?_
      obtain ⟨g4, h⟩ := gd_s h
      refine run_aald' (j := (Int32.toNatClampNeg x1)) is_152 (by decide) (by decide) (t0 := 9) rfl ln_152 g4 rfl (es_152 _) dX3_viewWorker_51 ?_
      refine run_geti fl_X3_115 (el_152 (inb_lt g4)) (by decide) rfl dX3_viewWorker_52 ?_
      exact run_iret dX3_viewWorker_55 ⟨_, rfl, Option.some.inj h⟩
    · rw [if_neg c3] at h
      by_cases c5 : x2 = 7
      · rw [if_pos c5] at h
        refine run_tblIn 56 dX3_viewWorker_1 (by rw [c5]; decide) (by rw [c5]; decide) (off := 55) (by rw [c5]; rfl) (by decide) ?_
        refine run_aload_n 0 dX3_viewWorker_56 rfl rfl ?_
        refine run_getr fl_X3_29 is_146 (by decide) rfl ce_146_9 dX3_viewWorker_57 ?_
        refine run_iload_n 1 dX3_viewWorker_60 rfl rfl ?_
        obtain ⟨g6, h⟩ := gd_s h
        refine run_aald' (j := (Int32.toNatClampNeg x1)) is_152 (by decide) (by decide) (t0 := 9) rfl ln_152 g6 rfl (es_152 _) dX3_viewWorker_61 ?_
        refine run_geti fl_X3_213 (el_152 (inb_lt g6)) (by decide) rfl dX3_viewWorker_62 ?_
        exact run_iret dX3_viewWorker_65 ⟨_, rfl, Option.some.inj h⟩
      · rw [if_neg c5] at h
        by_cases c7 : x2 = 8
        · rw [if_pos c7] at h
          refine run_tblIn 66 dX3_viewWorker_1 (by rw [c7]; decide) (by rw [c7]; decide) (off := 65) (by rw [c7]; rfl) (by decide) ?_
          refine run_aload_n 0 dX3_viewWorker_66 rfl rfl ?_
          refine run_getr fl_X3_29 is_146 (by decide) rfl ce_146_9 dX3_viewWorker_67 ?_
          refine run_iload_n 1 dX3_viewWorker_70 rfl rfl ?_
          obtain ⟨g8, h⟩ := gd_s h
          refine run_aald' (j := (Int32.toNatClampNeg x1)) is_152 (by decide) (by decide) (t0 := 9) rfl ln_152 g8 rfl (es_152 _) dX3_viewWorker_71 ?_
          refine run_geti fl_X3_272 (el_152 (inb_lt g8)) (by decide) rfl dX3_viewWorker_72 ?_
          exact run_iret dX3_viewWorker_75 ⟨_, rfl, Option.some.inj h⟩
        · rw [if_neg c7] at h
          by_cases c9 : x2 = 9
          · rw [if_pos c9] at h
            refine run_tblIn 76 dX3_viewWorker_1 (by rw [c9]; decide) (by rw [c9]; decide) (off := 75) (by rw [c9]; rfl) (by decide) ?_
            refine run_aload_n 0 dX3_viewWorker_76 rfl rfl ?_
            refine run_iload_n 1 dX3_viewWorker_77 rfl rfl ?_
            refine run_iconst (v := 0) dX3_viewWorker_78 rfl ?_
            obtain ⟨q10, h11, h⟩ := Option.bind_eq_some_iff.mp h
            refine run_callVi (As := [.int x1, .int 0]) (fun r z => (r, z) = q10) mw_X3_linesOf mi_X3_linesOf ml_X3_297 is_146 (by decide) rfl rfl rfl (RF.lt (HX3_viewWorker_X3_linesOf_lt d)) (Nat.le_of_ble_eq_true rfl) dX3_viewWorker_79 (sX3_linesOf G d  h11) (fun r z h8 => ?_) rfl
            rw [show r = q10.1 from congrArg Prod.fst h8, show z = q10.2 from congrArg Prod.snd h8]
            clear h8
            exact run_iret dX3_viewWorker_82 ⟨_, rfl, Option.some.inj h⟩
          · rw [if_neg c9] at h
            refine run_tblOut 83 dX3_viewWorker_1 (by have tc1 := tbl_ne c1 (z := 5) rfl; have tc3 := tbl_ne c3 (z := 6) rfl; have tc5 := tbl_ne c5 (z := 7) rfl; have tc7 := tbl_ne c7 (z := 8) rfl; have tc9 := tbl_ne c9 (z := 9) rfl; omega) (by decide) ?_
            refine run_aload_n 0 dX3_viewWorker_83 rfl rfl ?_
            refine run_iload_n 1 dX3_viewWorker_84 rfl rfl ?_
            refine run_iconst (v := 1) dX3_viewWorker_85 rfl ?_
            obtain ⟨q12, h13, h⟩ := Option.bind_eq_some_iff.mp h
            refine run_callVi (As := [.int x1, .int 1]) (fun r z => (r, z) = q12) mw_X3_linesOf mi_X3_linesOf ml_X3_297 is_146 (by decide) rfl rfl rfl (RF.lt (HX3_viewWorker_X3_linesOf_lt d)) (Nat.le_of_ble_eq_true rfl) dX3_viewWorker_86 (sX3_linesOf G d  h13) (fun r z h8 => ?_) rfl
            rw [show r = q12.1 from congrArg Prod.fst h8, show z = q12.2 from congrArg Prod.snd h8]
            clear h8
            exact run_iret dX3_viewWorker_89 ⟨_, rfl, Option.some.inj h⟩
def HX5_readWord : Nat := 2
theorem HX5_readWord_X5_isLetter_lt (d : Nat) : d + HX5_isLetter < d + HX5_readWord := Nat.add_lt_add_left (by decide) d
theorem HX5_readWord_0 (d : Nat) : 0 < d + HX5_readWord := Nat.lt_of_lt_of_le (by decide) (Nat.le_add_left _ d)
def lX5_readWord_5  : Nat → Mem → Option (Mem)
  | 0, _ => none
  | n + 1, σ => if (σ 143 1) ≤ (σ 143 2) then (some σ) else ((fX5_isLetter (σ 143 2) σ).bind fun q2 => if q2.1 = true then (lX5_readWord_5 n (st2 q2.2 143 2 ((q2.2 143 2) + 1))) else (some q2.2))
set_option maxRecDepth 20000 in
theorem lpX5_readWord_5 (G : GT) (d : Nat)   {K : Option Value → Mem → Prop} : ∀ (n : Nat) (σ : Mem) (o : Mem), lX5_readWord_5 n σ = some o → (Run G RX5 cX5_readWord 1 none (mF G (d + HX5_readWord) K) 40 [] [] o) → Run G RX5 cX5_readWord 1 none (mF G (d + HX5_readWord) K) 5 [(0, .ref (gA G 143))] [] σ := by
  intro n
  induction n with
  | zero => intro σ o h; exact absurd h (by simp [lX5_readWord_5])
  | succ n ih =>
    intro σ o h kx
    rw [lX5_readWord_5] at h
    refine run_aload_n 0 dX5_readWord_5 rfl rfl ?_
    refine run_geti fl_X5_78 is_143 (by decide) rfl dX5_readWord_6 ?_
    refine run_aload_n 0 dX5_readWord_9 rfl rfl ?_
    refine run_geti fl_X5_75 is_143 (by decide) rfl dX5_readWord_10 ?_
    refine run_icmp_ge 40 dX5_readWord_13 (by decide) (fun c1 => ?_) (fun c1 => ?_)
    · rw [if_pos c1] at h
      rw [← Option.some.inj h] at kx
      refine run_forget [] rfl ?_
      exact kx
    · rw [if_neg c1] at h
      refine run_aload_n 0 dX5_readWord_16 rfl rfl ?_
      refine run_aload_n 0 dX5_readWord_17 rfl rfl ?_
      refine run_geti fl_X5_78 is_143 (by decide) rfl dX5_readWord_18 ?_
      obtain ⟨q2, h4, h⟩ := Option.bind_eq_some_iff.mp h
      refine run_callVb (As := [.int (σ 143 2)]) (fun r z => (r, z) = q2) mw_X5_isLetter mi_X5_isLetter ml_X5_116 is_143 (by decide) rfl rfl rfl (RF.lt (HX5_readWord_X5_isLetter_lt d)) (Nat.le_of_ble_eq_true rfl) dX5_readWord_21 (sX5_isLetter G d  h4) (fun r z h8 => ?_) rfl
      rw [show r = q2.1 from congrArg Prod.fst h8, show z = q2.2 from congrArg Prod.snd h8]
      clear h8
      refine run_ifb_eq 40 dX5_readWord_24 (by decide) (fun c3 => ?_) (fun c3 => ?_)
      · rw [if_neg c3] at h
        rw [← Option.some.inj h] at kx
        refine run_forget [] rfl ?_
        exact kx
      · rw [if_pos c3] at h
        refine run_aload_n 0 dX5_readWord_27 rfl rfl ?_
        refine run_dup dX5_readWord_28 rfl ?_
        refine run_geti fl_X5_78 is_143 (by decide) rfl dX5_readWord_29 ?_
        refine run_iconst (v := 1) dX5_readWord_32 rfl ?_
        refine run_iadd dX5_readWord_33 ?_
        refine run_puti fp_X5_78 is_143 (by decide) rfl dX5_readWord_34 ?_
        refine run_goto 5 dX5_readWord_37 (by decide) ?_
        exact ih _ _ h kx
def fX5_readWord  (σ : Mem) : Option Mem := (lX5_readWord_5 FU (st2 σ 143 3 1)).bind fun q5 => some q5
set_option maxRecDepth 20000 in
theorem sX5_readWord (G : GT) (d : Nat)   {σ : Mem} {o : Mem} (h : fX5_readWord σ = some o) : Spec G yX5_readWord cX5_readWord 1 none (d + HX5_readWord) [.ref (gA G 143)] σ (kV fun z => z = o) := by
  refine spec_run (by decide) (Nat.le_of_ble_eq_true rfl) ?_
  unfold fX5_readWord at h
  show Run G RX5 cX5_readWord 1 none _ 0 [(0, .ref (gA G 143))] [] σ
  refine run_aload_n 0 dX5_readWord_0 rfl rfl ?_
  refine run_iconst (v := 1) dX5_readWord_1 rfl ?_
  refine run_puti fp_X5_106 is_143 (by decide) rfl dX5_readWord_2 ?_
  obtain ⟨q5, h6, h⟩ := Option.bind_eq_some_iff.mp h
  refine lpX5_readWord_5 G d _ _ _ h6 ?_
  exact run_vret dX5_readWord_40 ⟨rfl, Option.some.inj h⟩
def HX5_readNumber : Nat := 2
theorem HX5_readNumber_X5_isDigit_lt (d : Nat) : d + HX5_isDigit < d + HX5_readNumber := Nat.add_lt_add_left (by decide) d
theorem HX5_readNumber_0 (d : Nat) : 0 < d + HX5_readNumber := Nat.lt_of_lt_of_le (by decide) (Nat.le_add_left _ d)
def lX5_readNumber_5  : Nat → Mem → Option (Mem)
  | 0, _ => none
  | n + 1, σ => if (σ 143 1) ≤ (σ 143 2) then (some σ) else ((fX5_isDigit (σ 143 2) σ).bind fun q2 => if q2.1 = true then (gd (inb (q2.2 143 2) 600) ((some (st2 (st2 q2.2 143 5 ((((q2.2 143 5) * 10) + (q2.2 2 (Int32.toNatClampNeg (q2.2 143 2)))) - 48)) 143 2 (((st2 q2.2 143 5 ((((q2.2 143 5) * 10) + (q2.2 2 (Int32.toNatClampNeg (q2.2 143 2)))) - 48)) 143 2) + 1))).bind fun s5 => lX5_readNumber_5 n s5)) else (some q2.2))
set_option maxRecDepth 20000 in
theorem lpX5_readNumber_5 (G : GT) (d : Nat)   {K : Option Value → Mem → Prop} : ∀ (n : Nat) (σ : Mem) (o : Mem), lX5_readNumber_5 n σ = some o → (Run G RX5 cX5_readNumber 1 none (mF G (d + HX5_readNumber) K) 64 [(0, .ref (gA G 143))] [] o) → Run G RX5 cX5_readNumber 1 none (mF G (d + HX5_readNumber) K) 5 [(0, .ref (gA G 143))] [] σ := by
  intro n
  induction n with
  | zero => intro σ o h; exact absurd h (by simp [lX5_readNumber_5])
  | succ n ih =>
    intro σ o h kx
    rw [lX5_readNumber_5] at h
    refine run_aload_n 0 dX5_readNumber_5 rfl rfl ?_
    refine run_geti fl_X5_78 is_143 (by decide) rfl dX5_readNumber_6 ?_
    refine run_aload_n 0 dX5_readNumber_9 rfl rfl ?_
    refine run_geti fl_X5_75 is_143 (by decide) rfl dX5_readNumber_10 ?_
    refine run_icmp_ge 64 dX5_readNumber_13 (by decide) (fun c1 => ?_) (fun c1 => ?_)
    · rw [if_pos c1] at h
      rw [← Option.some.inj h] at kx
      exact kx
    · rw [if_neg c1] at h
      refine run_aload_n 0 dX5_readNumber_16 rfl rfl ?_
      refine run_aload_n 0 dX5_readNumber_17 rfl rfl ?_
      refine run_geti fl_X5_78 is_143 (by decide) rfl dX5_readNumber_18 ?_
      obtain ⟨q2, h6, h⟩ := Option.bind_eq_some_iff.mp h
      refine run_callVb (As := [.int (σ 143 2)]) (fun r z => (r, z) = q2) mw_X5_isDigit mi_X5_isDigit ml_X5_122 is_143 (by decide) rfl rfl rfl (RF.lt (HX5_readNumber_X5_isDigit_lt d)) (Nat.le_of_ble_eq_true rfl) dX5_readNumber_21 (sX5_isDigit G d  h6) (fun r z h8 => ?_) rfl
      rw [show r = q2.1 from congrArg Prod.fst h8, show z = q2.2 from congrArg Prod.snd h8]
      clear h8
      refine run_ifb_eq 64 dX5_readNumber_24 (by decide) (fun c3 => ?_) (fun c3 => ?_)
      · rw [if_neg c3] at h
        rw [← Option.some.inj h] at kx
        exact kx
      · rw [if_pos c3] at h
        refine run_aload_n 0 dX5_readNumber_27 rfl rfl ?_
        refine run_aload_n 0 dX5_readNumber_28 rfl rfl ?_
        refine run_geti fl_X5_113 is_143 (by decide) rfl dX5_readNumber_29 ?_
        refine run_bipush (v := 10) dX5_readNumber_32 rfl ?_
        refine run_imul dX5_readNumber_34 ?_
        refine run_aload_n 0 dX5_readNumber_35 rfl rfl ?_
        refine run_getr fl_X5_18 is_143 (by decide) rfl ce_143_0 dX5_readNumber_36 ?_
        refine run_aload_n 0 dX5_readNumber_39 rfl rfl ?_
        refine run_geti fl_X5_78 is_143 (by decide) rfl dX5_readNumber_40 ?_
        obtain ⟨g4, h⟩ := gd_s h
        refine run_bald' is_2 ln_2 g4 rfl dX5_readNumber_43 ?_
        refine run_iadd dX5_readNumber_44 ?_
        refine run_bipush (v := 48) dX5_readNumber_45 rfl ?_
        refine run_isub dX5_readNumber_47 ?_
        refine run_puti fp_X5_113 is_143 (by decide) rfl dX5_readNumber_48 ?_
        refine run_aload_n 0 dX5_readNumber_51 rfl rfl ?_
        refine run_dup dX5_readNumber_52 rfl ?_
        refine run_geti fl_X5_78 is_143 (by decide) rfl dX5_readNumber_53 ?_
        refine run_iconst (v := 1) dX5_readNumber_56 rfl ?_
        refine run_iadd dX5_readNumber_57 ?_
        refine run_puti fp_X5_78 is_143 (by decide) rfl dX5_readNumber_58 ?_
        rw [Option.bind_some] at h
        refine run_mem (fun s5 es5 => ?_)
        rw [← es5] at h
        refine run_goto 5 dX5_readNumber_61 (by decide) ?_
        exact ih _ _ h kx
def fX5_readNumber  (σ : Mem) : Option Mem := (lX5_readNumber_5 FU (st2 σ 143 5 0)).bind fun q7 => if 2 < ((q7 143 2) - (q7 143 4)) then (some (st2 q7 143 3 4)) else (some (st2 q7 143 3 2))
set_option maxRecDepth 20000 in
theorem sX5_readNumber (G : GT) (d : Nat)   {σ : Mem} {o : Mem} (h : fX5_readNumber σ = some o) : Spec G yX5_readNumber cX5_readNumber 1 none (d + HX5_readNumber) [.ref (gA G 143)] σ (kV fun z => z = o) := by
  refine spec_run (by decide) (Nat.le_of_ble_eq_true rfl) ?_
  unfold fX5_readNumber at h
  show Run G RX5 cX5_readNumber 1 none _ 0 [(0, .ref (gA G 143))] [] σ
  refine run_aload_n 0 dX5_readNumber_0 rfl rfl ?_
  refine run_iconst (v := 0) dX5_readNumber_1 rfl ?_
  refine run_puti fp_X5_113 is_143 (by decide) rfl dX5_readNumber_2 ?_
  obtain ⟨q7, h9, h⟩ := Option.bind_eq_some_iff.mp h
  refine lpX5_readNumber_5 G d _ _ _ h9 ?_
  refine run_aload_n 0 dX5_readNumber_64 rfl rfl ?_
  refine run_aload_n 0 dX5_readNumber_65 rfl rfl ?_
  refine run_geti fl_X5_78 is_143 (by decide) rfl dX5_readNumber_66 ?_
  refine run_aload_n 0 dX5_readNumber_69 rfl rfl ?_
  refine run_geti fl_X5_50 is_143 (by decide) rfl dX5_readNumber_70 ?_
  refine run_isub dX5_readNumber_73 ?_
  refine run_iconst (v := 2) dX5_readNumber_74 rfl ?_
  refine run_icmp_gt 82 dX5_readNumber_75 (by decide) (fun c8 => ?_) (fun c8 => ?_)
  · rw [if_pos c8] at h
    refine run_iconst (v := 4) dX5_readNumber_82 rfl ?_
    refine run_puti fp_X5_106 is_143 (by decide) rfl dX5_readNumber_83 ?_
    exact run_vret dX5_readNumber_86 ⟨rfl, Option.some.inj h⟩
  · rw [if_neg c8] at h
    refine run_iconst (v := 2) dX5_readNumber_78 rfl ?_
    refine run_goto 83 dX5_readNumber_79 (by decide) ?_
    refine run_puti fp_X5_106 is_143 (by decide) rfl dX5_readNumber_83 ?_
    exact run_vret dX5_readNumber_86 ⟨rfl, Option.some.inj h⟩
def HX6_bestQuestion : Nat := 2
theorem HX6_bestQuestion_X6_greatestShare_lt (d : Nat) : d + HX6_greatestShare < d + HX6_bestQuestion := Nat.add_lt_add_left (by decide) d
theorem HX6_bestQuestion_0 (d : Nat) : 0 < d + HX6_bestQuestion := Nat.lt_of_lt_of_le (by decide) (Nat.le_add_left _ d)
def lX6_bestQuestion_7  : Nat → Int32 → Int32 → Int32 → Mem → Option (Int32 × Mem)
  | 0, _, _, _, _ => none
  | n + 1, x1, x2, x3, σ => if 10 ≤ x3 then (some (x1, σ)) else (if (σ 246 3) ≤ 0 then (some (x1, σ)) else ((fX6_greatestShare x3 σ).bind fun q8 => (if x2 ≤ q8.1 then (some (x1, x2)) else (some (x3, q8.1)) : Option (Int32 × Int32)).bind fun q10 => lX6_bestQuestion_7 n (q10.1) (q10.2) (x3 + 1) q8.2))
set_option maxRecDepth 20000 in
theorem lpX6_bestQuestion_7 (G : GT) (d : Nat)   {K : Option Value → Mem → Prop} : ∀ (n : Nat) (x1 : Int32) (x2 : Int32) (x3 : Int32) (σ : Mem) (o : Int32 × Mem), lX6_bestQuestion_7 n x1 x2 x3 σ = some o → (Run G RX6 cX6_bestQuestion 5 (some .int) (mF G (d + HX6_bestQuestion) K) 44 [(1, .int (o.1))] [] (o.2)) → Run G RX6 cX6_bestQuestion 5 (some .int) (mF G (d + HX6_bestQuestion) K) 7 [(0, .ref (gA G 246)), (1, .int x1), (2, .int x2), (3, .int x3)] [] σ := by
  intro n
  induction n with
  | zero => intro x1 x2 x3 σ o h; exact absurd h (by simp [lX6_bestQuestion_7])
  | succ n ih =>
    intro x1 x2 x3 σ o h kx
    rw [lX6_bestQuestion_7] at h
    refine run_iload_n 3 dX6_bestQuestion_7 rfl rfl ?_
    refine run_bipush (v := 10) dX6_bestQuestion_8 rfl ?_
    refine run_icmp_ge 44 dX6_bestQuestion_10 (by decide) (fun c6 => ?_) (fun c6 => ?_)
    · rw [if_pos c6] at h
      rw [← Option.some.inj h] at kx
      refine run_forget [1] rfl ?_
      exact kx
    · rw [if_neg c6] at h
      refine run_aload_n 0 dX6_bestQuestion_13 rfl rfl ?_
      refine run_geti fl_X6_23 is_246 (by decide) rfl dX6_bestQuestion_14 ?_
      refine run_if_le 44 dX6_bestQuestion_17 (by decide) (fun c7 => ?_) (fun c7 => ?_)
      · rw [if_pos c7] at h
        rw [← Option.some.inj h] at kx
        refine run_forget [1] rfl ?_
        exact kx
      · rw [if_neg c7] at h
        refine run_aload_n 0 dX6_bestQuestion_20 rfl rfl ?_
        refine run_iload_n 3 dX6_bestQuestion_21 rfl rfl ?_
        obtain ⟨q8, h12, h⟩ := Option.bind_eq_some_iff.mp h
        refine run_callVi (As := [.int x3]) (fun r z => (r, z) = q8) mw_X6_greatestShare mi_X6_greatestShare ml_X6_42 is_246 (by decide) rfl rfl rfl (RF.lt (HX6_bestQuestion_X6_greatestShare_lt d)) (Nat.le_of_ble_eq_true rfl) dX6_bestQuestion_22 (sX6_greatestShare G d  h12) (fun r z h8 => ?_) rfl
        rw [show r = q8.1 from congrArg Prod.fst h8, show z = q8.2 from congrArg Prod.snd h8]
        clear h8
        refine run_istore [(0, .ref (gA G 246)), (1, .int x1), (2, .int x2), (3, .int x3), (4, .int q8.1)] [1, 2, 3, 4, 0] dX6_bestQuestion_25 (by decide) rfl ?_
        refine run_iload 4 dX6_bestQuestion_27 rfl ?_
        refine run_iload_n 2 dX6_bestQuestion_29 rfl rfl ?_
        obtain ⟨q10, h, h9⟩ := Option.bind_eq_some_iff.mp h
        have hj11 : Run G RX6 cX6_bestQuestion 5 (some .int) (mF G (d + HX6_bestQuestion) K) 38 [(0, .ref (gA G 246)), (1, .int (q10.1)), (2, .int (q10.2)), (3, .int x3)] [] q8.2 := by
          clear h
          have h := h9
          clear h9
          refine run_iinc 3 [(0, .ref (gA G 246)), (1, .int (q10.1)), (2, .int (q10.2)), (3, .int (x3 + 1))] [1, 2, 3, 0] dX6_bestQuestion_38 rfl rfl (by decide) rfl ?_
          refine run_goto 7 dX6_bestQuestion_41 (by decide) ?_
          exact ih _ _ _ _ _ h kx
        clear h9
        refine run_icmp_ge 38 dX6_bestQuestion_30 (by decide) (fun c9 => ?_) (fun c9 => ?_)
        · rw [if_pos c9] at h
          rw [← Option.some.inj h] at hj11
          refine run_forget [0, 1, 2, 3] rfl ?_
          exact hj11
        · rw [if_neg c9] at h
          refine run_iload 4 dX6_bestQuestion_33 rfl ?_
          refine run_istore_n [(0, .ref (gA G 246)), (2, .int q8.1), (3, .int x3)] [1, 0, 3] dX6_bestQuestion_35 rfl (by decide) rfl ?_
          refine run_iload_n 2 dX6_bestQuestion_36 rfl rfl ?_
          refine run_istore_n [(0, .ref (gA G 246)), (1, .int x3), (2, .int q8.1), (3, .int x3)] [1, 0, 2, 3] dX6_bestQuestion_37 rfl (by decide) rfl ?_
          rw [← Option.some.inj h] at hj11
          exact hj11
def fX6_bestQuestion  (σ : Mem) : Option (Int32 × Mem) := (lX6_bestQuestion_7 FU (-1) 17 0 σ).bind fun q13 => some ((q13.1), (q13.2))
set_option maxRecDepth 20000 in
theorem sX6_bestQuestion (G : GT) (d : Nat)   {σ : Mem} {o : (Int32 × Mem)} (h : fX6_bestQuestion σ = some o) : Spec G yX6_bestQuestion cX6_bestQuestion 5 (some .int) (d + HX6_bestQuestion) [.ref (gA G 246)] σ (kI fun x z => (x, z) = o) := by
  refine spec_run (by decide) (Nat.le_of_ble_eq_true rfl) ?_
  unfold fX6_bestQuestion at h
  show Run G RX6 cX6_bestQuestion 5 (some .int) _ 0 [(0, .ref (gA G 246))] [] σ
  refine run_iconst (v := -1) dX6_bestQuestion_0 rfl ?_
  refine run_istore_n [(0, .ref (gA G 246)), (1, .int (-1))] [1, 0] dX6_bestQuestion_1 rfl (by decide) rfl ?_
  refine run_bipush (v := 17) dX6_bestQuestion_2 rfl ?_
  refine run_istore_n [(0, .ref (gA G 246)), (1, .int (-1)), (2, .int 17)] [1, 2, 0] dX6_bestQuestion_4 rfl (by decide) rfl ?_
  refine run_iconst (v := 0) dX6_bestQuestion_5 rfl ?_
  refine run_istore_n [(0, .ref (gA G 246)), (1, .int (-1)), (2, .int 17), (3, .int 0)] [1, 2, 3, 0] dX6_bestQuestion_6 rfl (by decide) rfl ?_
  obtain ⟨q13, h14, h⟩ := Option.bind_eq_some_iff.mp h
  refine lpX6_bestQuestion_7 G d _ _ _ _ _ _ h14 ?_
  refine run_iload_n 0 dX6_bestQuestion_44 rfl rfl ?_
  exact run_iret dX6_bestQuestion_45 ⟨_, rfl, Option.some.inj h⟩
def HX6_fewest : Nat := 2
theorem HX6_fewest_J6_bitCount_0f7a4_lt (d : Nat) : d + HJ6_bitCount_0f7a4 < d + HX6_fewest := Nat.add_lt_add_left (by decide) d
theorem HX6_fewest_0 (d : Nat) : 0 < d + HX6_fewest := Nat.lt_of_lt_of_le (by decide) (Nat.le_add_left _ d)
def lX6_fewest_4  : Nat → Int32 → Int32 → Mem → Option (Int32 × Mem)
  | 0, _, _, _ => none
  | n + 1, x1, x2, σ => if (σ 246 3) ≤ x2 then (some (x1, σ)) else (gd (inb x2 16) ((fJ6_bitCount_0f7a4 (σ 247 (Int32.toNatClampNeg x2)) σ).bind fun q9 => (if x1 = (-1) then (some q9.1) else (if x1 ≤ q9.1 then (some x1) else (some q9.1)) : Option (Int32)).bind fun q12 => lX6_fewest_4 n q12 (x2 + 1) q9.2))
set_option maxRecDepth 20000 in
theorem lpX6_fewest_4 (G : GT) (d : Nat)   {K : Option Value → Mem → Prop} : ∀ (n : Nat) (x1 : Int32) (x2 : Int32) (σ : Mem) (o : Int32 × Mem), lX6_fewest_4 n x1 x2 σ = some o → (Run G RX6 cX6_fewest 4 (some .int) (mF G (d + HX6_fewest) K) 40 [(1, .int (o.1))] [] (o.2)) → Run G RX6 cX6_fewest 4 (some .int) (mF G (d + HX6_fewest) K) 4 [(0, .ref (gA G 246)), (1, .int x1), (2, .int x2)] [] σ := by
  intro n
  induction n with
  | zero => intro x1 x2 σ o h; exact absurd h (by simp [lX6_fewest_4])
  | succ n ih =>
    intro x1 x2 σ o h kx
    rw [lX6_fewest_4] at h
    refine run_iload_n 2 dX6_fewest_4 rfl rfl ?_
    refine run_aload_n 0 dX6_fewest_5 rfl rfl ?_
    refine run_geti fl_X6_23 is_246 (by decide) rfl dX6_fewest_6 ?_
    refine run_icmp_ge 40 dX6_fewest_9 (by decide) (fun c7 => ?_) (fun c7 => ?_)
    · rw [if_pos c7] at h
      rw [← Option.some.inj h] at kx
      refine run_forget [1] rfl ?_
      exact kx
    · rw [if_neg c7] at h
      refine run_aload_n 0 dX6_fewest_12 rfl rfl ?_
      refine run_getr fl_X6_9 is_246 (by decide) rfl ce_246_0 dX6_fewest_13 ?_
      refine run_iload_n 2 dX6_fewest_16 rfl rfl ?_
      obtain ⟨g8, h⟩ := gd_s h
      refine run_iald' is_247 ln_247 g8 rfl dX6_fewest_17 ?_
      obtain ⟨q9, h14, h⟩ := Option.bind_eq_some_iff.mp h
      refine run_callSi (As := [.int (σ 247 (Int32.toNatClampNeg x2))]) (fun r z => (r, z) = q9) mw_J6_bitCount_0f7a4 ms_J6_bitCount_0f7a4 ml_X6_52 rfl (RF.lt (HX6_fewest_J6_bitCount_0f7a4_lt d)) (Nat.le_of_ble_eq_true rfl) dX6_fewest_18 (sJ6_bitCount_0f7a4 G d  h14) (fun r z h8 => ?_) rfl
      rw [show r = q9.1 from congrArg Prod.fst h8, show z = q9.2 from congrArg Prod.snd h8]
      clear h8
      refine run_istore_n [(0, .ref (gA G 246)), (1, .int x1), (2, .int x2), (3, .int q9.1)] [1, 2, 3, 0] dX6_fewest_21 rfl (by decide) rfl ?_
      refine run_iload_n 1 dX6_fewest_22 rfl rfl ?_
      refine run_iconst (v := -1) dX6_fewest_23 rfl ?_
      obtain ⟨q12, h, h9⟩ := Option.bind_eq_some_iff.mp h
      have hj13 : Run G RX6 cX6_fewest 4 (some .int) (mF G (d + HX6_fewest) K) 34 [(0, .ref (gA G 246)), (1, .int q12), (2, .int x2)] [] q9.2 := by
        clear h
        have h := h9
        clear h9
        refine run_iinc 2 [(0, .ref (gA G 246)), (1, .int q12), (2, .int (x2 + 1))] [1, 2, 0] dX6_fewest_34 rfl rfl (by decide) rfl ?_
        refine run_goto 4 dX6_fewest_37 (by decide) ?_
        exact ih _ _ _ _ h kx
      clear h9
      refine run_icmp_eq 32 dX6_fewest_24 (by decide) (fun c10 => ?_) (fun c10 => ?_)
      · rw [if_pos c10] at h
        refine run_iload_n 3 dX6_fewest_32 rfl rfl ?_
        refine run_istore_n [(0, .ref (gA G 246)), (1, .int q9.1), (2, .int x2)] [1, 0, 2] dX6_fewest_33 rfl (by decide) rfl ?_
        rw [← Option.some.inj h] at hj13
        exact hj13
      · rw [if_neg c10] at h
        refine run_iload_n 3 dX6_fewest_27 rfl rfl ?_
        refine run_iload_n 1 dX6_fewest_28 rfl rfl ?_
        refine run_icmp_ge 34 dX6_fewest_29 (by decide) (fun c11 => ?_) (fun c11 => ?_)
        · rw [if_pos c11] at h
          rw [← Option.some.inj h] at hj13
          refine run_forget [0, 1, 2] rfl ?_
          exact hj13
        · rw [if_neg c11] at h
          refine run_iload_n 3 dX6_fewest_32 rfl rfl ?_
          refine run_istore_n [(0, .ref (gA G 246)), (1, .int q9.1), (2, .int x2)] [1, 0, 2] dX6_fewest_33 rfl (by decide) rfl ?_
          rw [← Option.some.inj h] at hj13
          exact hj13
def fX6_fewest  (σ : Mem) : Option (Int32 × Mem) := (lX6_fewest_4 FU (-1) 0 σ).bind fun q15 => some ((q15.1), (q15.2))
set_option maxRecDepth 20000 in
theorem sX6_fewest (G : GT) (d : Nat)   {σ : Mem} {o : (Int32 × Mem)} (h : fX6_fewest σ = some o) : Spec G yX6_fewest cX6_fewest 4 (some .int) (d + HX6_fewest) [.ref (gA G 246)] σ (kI fun x z => (x, z) = o) := by
  refine spec_run (by decide) (Nat.le_of_ble_eq_true rfl) ?_
  unfold fX6_fewest at h
  show Run G RX6 cX6_fewest 4 (some .int) _ 0 [(0, .ref (gA G 246))] [] σ
  refine run_iconst (v := -1) dX6_fewest_0 rfl ?_
  refine run_istore_n [(0, .ref (gA G 246)), (1, .int (-1))] [1, 0] dX6_fewest_1 rfl (by decide) rfl ?_
  refine run_iconst (v := 0) dX6_fewest_2 rfl ?_
  refine run_istore_n [(0, .ref (gA G 246)), (1, .int (-1)), (2, .int 0)] [1, 2, 0] dX6_fewest_3 rfl (by decide) rfl ?_
  obtain ⟨q15, h16, h⟩ := Option.bind_eq_some_iff.mp h
  refine lpX6_fewest_4 G d _ _ _ _ _ h16 ?_
  refine run_iload_n 0 dX6_fewest_40 rfl rfl ?_
  exact run_iret dX6_fewest_41 ⟨_, rfl, Option.some.inj h⟩
def HX6_sure : Nat := 2
theorem HX6_sure_X11_hasBit_lt (d : Nat) : d + HX11_hasBit < d + HX6_sure := Nat.add_lt_add_left (by decide) d
theorem HX6_sure_0 (d : Nat) : 0 < d + HX6_sure := Nat.lt_of_lt_of_le (by decide) (Nat.le_add_left _ d)
def lX6_sure_4 (x1 : Int32) : Nat → Int32 → Int32 → Mem → Option (Int32 × Mem)
  | 0, _, _, _ => none
  | n + 1, x2, x3, σ => if (σ 246 3) ≤ x3 then (some (x2, σ)) else (gd (inb x3 16) ((fX11_hasBit (σ 247 (Int32.toNatClampNeg x3)) x1 σ).bind fun q8 => (if q8.1 = true then (some (x2 + 1)) else (some x2) : Option (Int32)).bind fun q10 => lX6_sure_4 x1 n q10 (x3 + 1) q8.2))
set_option maxRecDepth 20000 in
theorem lpX6_sure_4 (G : GT) (d : Nat) (x1 : Int32)  {K : Option Value → Mem → Prop} : ∀ (n : Nat) (x2 : Int32) (x3 : Int32) (σ : Mem) (o : Int32 × Mem), lX6_sure_4 x1 n x2 x3 σ = some o → (Run G RX6 cX6_sure 4 (some .int) (mF G (d + HX6_sure) K) 34 [(0, .ref (gA G 246)), (2, .int (o.1))] [] (o.2)) → Run G RX6 cX6_sure 4 (some .int) (mF G (d + HX6_sure) K) 4 [(0, .ref (gA G 246)), (1, .int x1), (2, .int x2), (3, .int x3)] [] σ := by
  intro n
  induction n with
  | zero => intro x2 x3 σ o h; exact absurd h (by simp [lX6_sure_4])
  | succ n ih =>
    intro x2 x3 σ o h kx
    rw [lX6_sure_4] at h
    refine run_iload_n 3 dX6_sure_4 rfl rfl ?_
    refine run_aload_n 0 dX6_sure_5 rfl rfl ?_
    refine run_geti fl_X6_23 is_246 (by decide) rfl dX6_sure_6 ?_
    refine run_icmp_ge 34 dX6_sure_9 (by decide) (fun c6 => ?_) (fun c6 => ?_)
    · rw [if_pos c6] at h
      rw [← Option.some.inj h] at kx
      refine run_forget [0, 2] rfl ?_
      exact kx
    · rw [if_neg c6] at h
      refine run_aload_n 0 dX6_sure_12 rfl rfl ?_
      refine run_getr fl_X6_9 is_246 (by decide) rfl ce_246_0 dX6_sure_13 ?_
      refine run_iload_n 3 dX6_sure_16 rfl rfl ?_
      obtain ⟨g7, h⟩ := gd_s h
      refine run_iald' is_247 ln_247 g7 rfl dX6_sure_17 ?_
      refine run_iload_n 1 dX6_sure_18 rfl rfl ?_
      obtain ⟨q8, h12, h⟩ := Option.bind_eq_some_iff.mp h
      refine run_callNb (As := [.int (σ 247 (Int32.toNatClampNeg x3)), .int x1]) (fun r z => (r, z) = q8) mw_X11_hasBit ms_X11_hasBit mn_X6_57 rfl (RF.lt (HX6_sure_X11_hasBit_lt d)) (Nat.le_of_ble_eq_true rfl) dX6_sure_19 (sX11_hasBit G d  h12) (fun r z h8 => ?_) rfl
      rw [show r = q8.1 from congrArg Prod.fst h8, show z = q8.2 from congrArg Prod.snd h8]
      clear h8
      obtain ⟨q10, h, h9⟩ := Option.bind_eq_some_iff.mp h
      have hj11 : Run G RX6 cX6_sure 4 (some .int) (mF G (d + HX6_sure) K) 28 [(0, .ref (gA G 246)), (1, .int x1), (2, .int q10), (3, .int x3)] [] q8.2 := by
        clear h
        have h := h9
        clear h9
        refine run_iinc 3 [(0, .ref (gA G 246)), (1, .int x1), (2, .int q10), (3, .int (x3 + 1))] [1, 2, 3, 0] dX6_sure_28 rfl rfl (by decide) rfl ?_
        refine run_goto 4 dX6_sure_31 (by decide) ?_
        exact ih _ _ _ _ h kx
      clear h9
      refine run_ifb_eq 28 dX6_sure_22 (by decide) (fun c9 => ?_) (fun c9 => ?_)
      · rw [if_neg c9] at h
        rw [← Option.some.inj h] at hj11
        exact hj11
      · rw [if_pos c9] at h
        refine run_iinc 2 [(0, .ref (gA G 246)), (1, .int x1), (2, .int (x2 + 1)), (3, .int x3)] [1, 2, 0, 3] dX6_sure_25 rfl rfl (by decide) rfl ?_
        rw [← Option.some.inj h] at hj11
        exact hj11
def fX6_sure (x1 : Int32) (σ : Mem) : Option (Int32 × Mem) := (lX6_sure_4 x1 FU 0 0 σ).bind fun q13 => if ((q13.2) 246 3) = 0 then (some ((-1), (q13.2))) else (if (q13.1) ≤ 0 then (if (q13.1) ≤ 0 then (some (0, (q13.2))) else (some (1, (q13.2)))) else (if ((q13.2) 246 3) ≤ (q13.1) then (if (q13.1) ≤ 0 then (some (0, (q13.2))) else (some (1, (q13.2)))) else (some ((-1), (q13.2)))))
set_option maxRecDepth 20000 in
theorem sX6_sure (G : GT) (d : Nat) {x1 : Int32}  {σ : Mem} {o : (Int32 × Mem)} (h : fX6_sure x1 σ = some o) : Spec G yX6_sure cX6_sure 4 (some .int) (d + HX6_sure) [.ref (gA G 246), .int x1] σ (kI fun x z => (x, z) = o) := by
  refine spec_run (by decide) (Nat.le_of_ble_eq_true rfl) ?_
  unfold fX6_sure at h
  show Run G RX6 cX6_sure 4 (some .int) _ 0 [(0, .ref (gA G 246)), (1, .int x1)] [] σ
  refine run_iconst (v := 0) dX6_sure_0 rfl ?_
  refine run_istore_n [(0, .ref (gA G 246)), (1, .int x1), (2, .int 0)] [1, 2, 0] dX6_sure_1 rfl (by decide) rfl ?_
  refine run_iconst (v := 0) dX6_sure_2 rfl ?_
  refine run_istore_n [(0, .ref (gA G 246)), (1, .int x1), (2, .int 0), (3, .int 0)] [1, 2, 3, 0] dX6_sure_3 rfl (by decide) rfl ?_
  obtain ⟨q13, h19, h⟩ := Option.bind_eq_some_iff.mp h
  refine lpX6_sure_4 G d _ _ _ _ _ _ h19 ?_
  refine run_aload_n 0 dX6_sure_34 rfl rfl ?_
  refine run_geti fl_X6_23 is_246 (by decide) rfl dX6_sure_35 ?_
  refine run_if_eq 53 dX6_sure_38 (by decide) (fun c14 => ?_) (fun c14 => ?_)
  · rw [if_pos c14] at h
    refine run_iconst (v := -1) dX6_sure_53 rfl ?_
    exact run_iret dX6_sure_54 ⟨_, rfl, Option.some.inj h⟩
  · rw [if_neg c14] at h
    refine run_iload_n 1 dX6_sure_41 rfl rfl ?_
    refine run_if_le 55 dX6_sure_42 (by decide) (fun c15 => ?_) (fun c15 => ?_)
    · rw [if_pos c15] at h
      refine run_iload_n 1 dX6_sure_55 rfl rfl ?_
      refine run_if_le 63 dX6_sure_56 (by decide) (fun c16 => ?_) (fun c16 => ?_)
      · rw [if_pos c16] at h
        refine run_iconst (v := 0) dX6_sure_63 rfl ?_
        exact run_iret dX6_sure_64 ⟨_, rfl, Option.some.inj h⟩
      · rw [if_neg c16] at h
        refine run_iconst (v := 1) dX6_sure_59 rfl ?_
        refine run_goto 64 dX6_sure_60 (by decide) ?_
        exact run_iret dX6_sure_64 ⟨_, rfl, Option.some.inj h⟩
    · rw [if_neg c15] at h
      refine run_iload_n 1 dX6_sure_45 rfl rfl ?_
      refine run_aload_n 0 dX6_sure_46 rfl rfl ?_
      refine run_geti fl_X6_23 is_246 (by decide) rfl dX6_sure_47 ?_
      refine run_icmp_ge 55 dX6_sure_50 (by decide) (fun c17 => ?_) (fun c17 => ?_)
      · rw [if_pos c17] at h
        refine run_iload_n 1 dX6_sure_55 rfl rfl ?_
        refine run_if_le 63 dX6_sure_56 (by decide) (fun c18 => ?_) (fun c18 => ?_)
        · rw [if_pos c18] at h
          refine run_iconst (v := 0) dX6_sure_63 rfl ?_
          exact run_iret dX6_sure_64 ⟨_, rfl, Option.some.inj h⟩
        · rw [if_neg c18] at h
          refine run_iconst (v := 1) dX6_sure_59 rfl ?_
          refine run_goto 64 dX6_sure_60 (by decide) ?_
          exact run_iret dX6_sure_64 ⟨_, rfl, Option.some.inj h⟩
      · rw [if_neg c17] at h
        refine run_iconst (v := -1) dX6_sure_53 rfl ?_
        exact run_iret dX6_sure_54 ⟨_, rfl, Option.some.inj h⟩
def HX7_clear : Nat := 2
theorem HX7_clear_J7_fill_53178_lt (d : Nat) : d + HJ7_fill_53178 < d + HX7_clear := Nat.add_lt_add_left (by decide) d
theorem HX7_clear_0 (d : Nat) : 0 < d + HX7_clear := Nat.lt_of_lt_of_le (by decide) (Nat.le_add_left _ d)
def fX7_clear (n0 : Nat) (σ : Mem) : Option Mem := (fJ7_fill_53178 (n0 + 1) 10 (-1) (st2 (st2 σ n0 0 2) n0 1 2)).bind fun q1 => some q1
set_option maxRecDepth 20000 in
theorem sX7_clear (G : GT) (d : Nat) {n0 : Nat} (hn0 : Is n0 7) {σ : Mem} {o : Mem} (h : fX7_clear n0 σ = some o) : Spec G yX7_clear cX7_clear 1 none (d + HX7_clear) [.ref (gA G n0)] σ (kV fun z => z = o) := by
  refine spec_run (by decide) (Nat.le_of_ble_eq_true rfl) ?_
  unfold fX7_clear at h
  show Run G RX7 cX7_clear 1 none _ 0 [(0, .ref (gA G n0))] [] σ
  refine run_aload_n 0 dX7_clear_0 rfl rfl ?_
  refine run_iconst (v := 2) dX7_clear_1 rfl ?_
  refine run_puti fp_X7_18 hn0 (by decide) rfl dX7_clear_2 ?_
  refine run_aload_n 0 dX7_clear_5 rfl rfl ?_
  refine run_iconst (v := 2) dX7_clear_6 rfl ?_
  refine run_puti fp_X7_22 hn0 (by decide) rfl dX7_clear_7 ?_
  refine run_aload_n 0 dX7_clear_10 rfl rfl ?_
  refine run_getr fl_X7_9 hn0 (by decide) rfl (cs_7_2 hn0) dX7_clear_11 ?_
  refine run_iconst (v := -1) dX7_clear_14 rfl ?_
  obtain ⟨q1, h2, h⟩ := Option.bind_eq_some_iff.mp h
  refine run_callSv (As := [.ref (gA G (n0 + 1)), .int (-1)]) (fun z => z = q1) mw_J7_fill_53178 ms_J7_fill_53178 ml_X7_25 rfl (RF.lt (HX7_clear_J7_fill_53178_lt d)) (Nat.le_of_ble_eq_true rfl) dX7_clear_15 (sJ7_fill_53178 G d (ch_7_2 hn0) (cl_7_2 hn0) (by decide) h2) (fun z h8 => ?_) rfl
  rw [h8]
  clear h8
  exact run_vret dX7_clear_18 ⟨rfl, Option.some.inj h⟩
def HX7_copyFrom : Nat := 2
theorem HX7_copyFrom_X11_copyKeys_lt (d : Nat) : d + HX11_copyKeys < d + HX7_copyFrom := Nat.add_lt_add_left (by decide) d
theorem HX7_copyFrom_0 (d : Nat) : 0 < d + HX7_copyFrom := Nat.lt_of_lt_of_le (by decide) (Nat.le_add_left _ d)
def fX7_copyFrom (n0 : Nat) (n1 : Nat) (σ : Mem) : Option Mem := (fX11_copyKeys (n1 + 1) (n0 + 1) (st2 (st2 σ n0 0 (σ n1 0)) n0 1 ((st2 σ n0 0 (σ n1 0)) n1 1))).bind fun q1 => some q1
set_option maxRecDepth 20000 in
theorem sX7_copyFrom (G : GT) (d : Nat) {n0 : Nat} {n1 : Nat} (hn0 : Is n0 7) (hn1 : Is n1 7) {σ : Mem} {o : Mem} (h : fX7_copyFrom n0 n1 σ = some o) : Spec G yX7_copyFrom cX7_copyFrom 2 none (d + HX7_copyFrom) [.ref (gA G n0), .ref (gA G n1)] σ (kV fun z => z = o) := by
  refine spec_run (by decide) (Nat.le_of_ble_eq_true rfl) ?_
  unfold fX7_copyFrom at h
  show Run G RX7 cX7_copyFrom 2 none _ 0 [(0, .ref (gA G n0)), (1, .ref (gA G n1))] [] σ
  refine run_aload_n 0 dX7_copyFrom_0 rfl rfl ?_
  refine run_aload_n 1 dX7_copyFrom_1 rfl rfl ?_
  refine run_geti fl_X7_18 hn1 (by decide) rfl dX7_copyFrom_2 ?_
  refine run_puti fp_X7_18 hn0 (by decide) rfl dX7_copyFrom_5 ?_
  refine run_aload_n 0 dX7_copyFrom_8 rfl rfl ?_
  refine run_aload_n 1 dX7_copyFrom_9 rfl rfl ?_
  refine run_geti fl_X7_22 hn1 (by decide) rfl dX7_copyFrom_10 ?_
  refine run_puti fp_X7_22 hn0 (by decide) rfl dX7_copyFrom_13 ?_
  refine run_aload_n 1 dX7_copyFrom_16 rfl rfl ?_
  refine run_getr fl_X7_9 hn1 (by decide) rfl (cs_7_2 hn1) dX7_copyFrom_17 ?_
  refine run_aload_n 0 dX7_copyFrom_20 rfl rfl ?_
  refine run_getr fl_X7_9 hn0 (by decide) rfl (cs_7_2 hn0) dX7_copyFrom_21 ?_
  obtain ⟨q1, h2, h⟩ := Option.bind_eq_some_iff.mp h
  refine run_callNv (As := [.ref (gA G (n1 + 1)), .ref (gA G (n0 + 1))]) (fun z => z = q1) mw_X11_copyKeys ms_X11_copyKeys mn_X7_31 rfl (RF.lt (HX7_copyFrom_X11_copyKeys_lt d)) (Nat.le_of_ble_eq_true rfl) dX7_copyFrom_24 (sX11_copyKeys G d (ch_7_2 hn1) (cl_7_2 hn1) (ch_7_2 hn0) (cl_7_2 hn0) h2) (fun z h8 => ?_) rfl
  rw [h8]
  clear h8
  exact run_vret dX7_copyFrom_27 ⟨rfl, Option.some.inj h⟩
def HX8_runAlone : Nat := 2
theorem HX8_runAlone_X8_stepAlone_lt (d : Nat) : d + HX8_stepAlone < d + HX8_runAlone := Nat.add_lt_add_left (by decide) d
theorem HX8_runAlone_0 (d : Nat) : 0 < d + HX8_runAlone := Nat.lt_of_lt_of_le (by decide) (Nat.le_add_left _ d)
def lX8_runAlone_5 (n0 : Nat) (x1 : Int32) (n2 : Nat) : Nat → Int32 → Int32 → Mem → Option (Int32 × Mem)
  | 0, _, _, _ => none
  | n + 1, x3, x4, σ => gd (inb x1 7) (if (σ (n0 + 1) (Int32.toNatClampNeg x1)) ≤ x4 then (some (x3, σ)) else ((fX8_stepAlone n0 ((x1 * 6) + x4) n2 x3 σ).bind fun q6 => lX8_runAlone_5 n0 x1 n2 n q6.1 (x4 + 1) q6.2))
set_option maxRecDepth 20000 in
theorem lpX8_runAlone_5 (G : GT) (d : Nat) (n0 : Nat) (x1 : Int32) (n2 : Nat) (hn0 : Is n0 8) (hn2 : Is n2 14) (hl2 : ln n2 = 10) {K : Option Value → Mem → Prop} : ∀ (n : Nat) (x3 : Int32) (x4 : Int32) (σ : Mem) (o : Int32 × Mem), lX8_runAlone_5 n0 x1 n2 n x3 x4 σ = some o → (Run G RX8 cX8_runAlone 6 (some .int) (mF G (d + HX8_runAlone) K) 40 [(3, .int (o.1))] [] (o.2)) → Run G RX8 cX8_runAlone 6 (some .int) (mF G (d + HX8_runAlone) K) 5 [(0, .ref (gA G n0)), (1, .int x1), (2, .ref (gA G n2)), (3, .int x3), (4, .int x4)] [] σ := by
  intro n
  induction n with
  | zero => intro x3 x4 σ o h; exact absurd h (by simp [lX8_runAlone_5])
  | succ n ih =>
    intro x3 x4 σ o h kx
    rw [lX8_runAlone_5] at h
    refine run_iload 4 dX8_runAlone_5 rfl ?_
    refine run_aload_n 0 dX8_runAlone_7 rfl rfl ?_
    refine run_getr fl_X8_9 hn0 (by decide) rfl (cs_8_1 hn0) dX8_runAlone_8 ?_
    refine run_iload_n 1 dX8_runAlone_11 rfl rfl ?_
    obtain ⟨g4, h⟩ := gd_s h
    refine run_iald' (ch_8_1 hn0) (cl_8_1 hn0) g4 rfl dX8_runAlone_12 ?_
    refine run_icmp_ge 40 dX8_runAlone_13 (by decide) (fun c5 => ?_) (fun c5 => ?_)
    · rw [if_pos c5] at h
      rw [← Option.some.inj h] at kx
      refine run_forget [3] rfl ?_
      exact kx
    · rw [if_neg c5] at h
      refine run_iload_n 1 dX8_runAlone_16 rfl rfl ?_
      refine run_bipush (v := 6) dX8_runAlone_17 rfl ?_
      refine run_imul dX8_runAlone_19 ?_
      refine run_iload 4 dX8_runAlone_20 rfl ?_
      refine run_iadd dX8_runAlone_22 ?_
      refine run_istore [(0, .ref (gA G n0)), (1, .int x1), (2, .ref (gA G n2)), (3, .int x3), (4, .int x4), (5, .int ((x1 * 6) + x4))] [1, 2, 3, 4, 5, 0] dX8_runAlone_23 (by decide) rfl ?_
      refine run_aload_n 0 dX8_runAlone_25 rfl rfl ?_
      refine run_iload 5 dX8_runAlone_26 rfl ?_
      refine run_aload_n 2 dX8_runAlone_28 rfl rfl ?_
      refine run_iload_n 3 dX8_runAlone_29 rfl rfl ?_
      obtain ⟨q6, h7, h⟩ := Option.bind_eq_some_iff.mp h
      refine run_callVi (As := [.int ((x1 * 6) + x4), .ref (gA G n2), .int x3]) (fun r z => (r, z) = q6) mw_X8_stepAlone mi_X8_stepAlone ml_X8_41 hn0 (by decide) rfl rfl rfl (RF.lt (HX8_runAlone_X8_stepAlone_lt d)) (Nat.le_of_ble_eq_true rfl) dX8_runAlone_30 (sX8_stepAlone G d hn0 hn2 hl2 h7) (fun r z h8 => ?_) rfl
      rw [show r = q6.1 from congrArg Prod.fst h8, show z = q6.2 from congrArg Prod.snd h8]
      clear h8
      refine run_istore_n [(0, .ref (gA G n0)), (1, .int x1), (2, .ref (gA G n2)), (3, .int q6.1), (4, .int x4)] [1, 2, 3, 0, 4] dX8_runAlone_33 rfl (by decide) rfl ?_
      refine run_iinc 4 [(0, .ref (gA G n0)), (1, .int x1), (2, .ref (gA G n2)), (3, .int q6.1), (4, .int (x4 + 1))] [1, 2, 3, 4, 0] dX8_runAlone_34 rfl rfl (by decide) rfl ?_
      refine run_goto 5 dX8_runAlone_37 (by decide) ?_
      exact ih _ _ _ _ h kx
def fX8_runAlone (n0 : Nat) (x1 : Int32) (n2 : Nat) (σ : Mem) : Option (Int32 × Mem) := (lX8_runAlone_5 n0 x1 n2 FU 0 0 σ).bind fun q8 => some ((q8.1), (q8.2))
set_option maxRecDepth 20000 in
theorem sX8_runAlone (G : GT) (d : Nat) {n0 : Nat} {x1 : Int32} {n2 : Nat} (hn0 : Is n0 8) (hn2 : Is n2 14) (hl2 : ln n2 = 10) {σ : Mem} {o : (Int32 × Mem)} (h : fX8_runAlone n0 x1 n2 σ = some o) : Spec G yX8_runAlone cX8_runAlone 6 (some .int) (d + HX8_runAlone) [.ref (gA G n0), .int x1, .ref (gA G n2)] σ (kI fun x z => (x, z) = o) := by
  refine spec_run (by decide) (Nat.le_of_ble_eq_true rfl) ?_
  unfold fX8_runAlone at h
  show Run G RX8 cX8_runAlone 6 (some .int) _ 0 [(0, .ref (gA G n0)), (1, .int x1), (2, .ref (gA G n2))] [] σ
  refine run_iconst (v := 0) dX8_runAlone_0 rfl ?_
  refine run_istore_n [(0, .ref (gA G n0)), (1, .int x1), (2, .ref (gA G n2)), (3, .int 0)] [1, 2, 3, 0] dX8_runAlone_1 rfl (by decide) rfl ?_
  refine run_iconst (v := 0) dX8_runAlone_2 rfl ?_
  refine run_istore [(0, .ref (gA G n0)), (1, .int x1), (2, .ref (gA G n2)), (3, .int 0), (4, .int 0)] [1, 2, 3, 4, 0] dX8_runAlone_3 (by decide) rfl ?_
  obtain ⟨q8, h9, h⟩ := Option.bind_eq_some_iff.mp h
  refine lpX8_runAlone_5 G d _ _ _ hn0 hn2 hl2 _ _ _ _ _ h9 ?_
  refine run_iload_n 0 dX8_runAlone_40 rfl rfl ?_
  exact run_iret dX8_runAlone_41 ⟨_, rfl, Option.some.inj h⟩
def HX9_clearPlace : Nat := 3
theorem HX9_clearPlace_X7_clear_lt (d : Nat) : d + HX7_clear < d + HX9_clearPlace := Nat.add_lt_add_left (by decide) d
theorem HX9_clearPlace_0 (d : Nat) : 0 < d + HX9_clearPlace := Nat.lt_of_lt_of_le (by decide) (Nat.le_add_left _ d)
def fX9_clearPlace (n0 : Nat) (x1 : Int32) (x2 : Int32) (σ : Mem) : Option Mem := if x1 = 0 then (gd (inb x2 2) ((fX7_clear (n0 + 7 + 14 * (Int32.toNatClampNeg x2)) σ).bind fun q8 => some q8)) else (if x1 = 1 then (gd (inb x2 2) (some (st2 σ (n0 + 9 + 14 * (Int32.toNatClampNeg x2)) 0 0))) else (if x1 = 2 then (gd (inb x2 2) (some (st2 σ (n0 + 14 + 14 * (Int32.toNatClampNeg x2)) 0 0))) else (gd (inb x2 2) (some (st2 σ (n0 + 18 + 14 * (Int32.toNatClampNeg x2)) 0 0)))))
set_option maxRecDepth 20000 in
theorem sX9_clearPlace (G : GT) (d : Nat) {n0 : Nat} {x1 : Int32} {x2 : Int32} (hn0 : Is n0 9) {σ : Mem} {o : Mem} (h : fX9_clearPlace n0 x1 x2 σ = some o) : Spec G yX9_clearPlace cX9_clearPlace 3 none (d + HX9_clearPlace) [.ref (gA G n0), .int x1, .int x2] σ (kV fun z => z = o) := by
  refine spec_run (by decide) (Nat.le_of_ble_eq_true rfl) ?_
  unfold fX9_clearPlace at h
  show Run G RX9 cX9_clearPlace 3 none _ 0 [(0, .ref (gA G n0)), (1, .int x1), (2, .int x2)] [] σ
  refine run_iload_n 1 dX9_clearPlace_0 rfl rfl ?_
  refine run_if_ne 16 dX9_clearPlace_1 (by decide) (fun c1 => ?_) (fun c1 => ?_)
  · rw [if_neg c1] at h
    refine run_iload_n 1 dX9_clearPlace_16 rfl rfl ?_
    refine run_iconst (v := 1) dX9_clearPlace_17 rfl ?_
    refine run_icmp_ne 34 dX9_clearPlace_18 (by decide) (fun c2 => ?_) (fun c2 => ?_)
    · rw [if_neg c2] at h
      refine run_iload_n 1 dX9_clearPlace_34 rfl rfl ?_
      refine run_iconst (v := 2) dX9_clearPlace_35 rfl ?_
      refine run_icmp_ne 52 dX9_clearPlace_36 (by decide) (fun c3 => ?_) (fun c3 => ?_)
      · rw [if_neg c3] at h
        refine run_aload_n 0 dX9_clearPlace_52 rfl rfl ?_
        refine run_getr fl_X9_43 hn0 (by decide) rfl (cs_9_8 hn0) dX9_clearPlace_53 ?_
        refine run_iload_n 2 dX9_clearPlace_56 rfl rfl ?_
        obtain ⟨g4, h⟩ := gd_s h
        refine run_aald' (j := (Int32.toNatClampNeg x2)) (ch_9_8 hn0) (by decide) (by decide) (t0 := 3) rfl (cl_9_8 hn0) g4 rfl (es_9_8 hn0 _) dX9_clearPlace_57 ?_
        refine run_iconst (v := 0) dX9_clearPlace_58 rfl ?_
        refine run_puti fp_X9_65 (el_9_8 hn0 (inb_lt g4)) (by decide) rfl dX9_clearPlace_59 ?_
        exact run_vret dX9_clearPlace_62 ⟨rfl, Option.some.inj h⟩
      · rw [if_pos c3] at h
        refine run_aload_n 0 dX9_clearPlace_39 rfl rfl ?_
        refine run_getr fl_X9_37 hn0 (by decide) rfl (cs_9_7 hn0) dX9_clearPlace_40 ?_
        refine run_iload_n 2 dX9_clearPlace_43 rfl rfl ?_
        obtain ⟨g5, h⟩ := gd_s h
        refine run_aald' (j := (Int32.toNatClampNeg x2)) (ch_9_7 hn0) (by decide) (by decide) (t0 := 5) rfl (cl_9_7 hn0) g5 rfl (es_9_7 hn0 _) dX9_clearPlace_44 ?_
        refine run_iconst (v := 0) dX9_clearPlace_45 rfl ?_
        refine run_puti fp_X9_64 (el_9_7 hn0 (inb_lt g5)) (by decide) rfl dX9_clearPlace_46 ?_
        refine run_goto 62 dX9_clearPlace_49 (by decide) ?_
        exact run_vret dX9_clearPlace_62 ⟨rfl, Option.some.inj h⟩
    · rw [if_pos c2] at h
      refine run_aload_n 0 dX9_clearPlace_21 rfl rfl ?_
      refine run_getr fl_X9_31 hn0 (by decide) rfl (cs_9_6 hn0) dX9_clearPlace_22 ?_
      refine run_iload_n 2 dX9_clearPlace_25 rfl rfl ?_
      obtain ⟨g6, h⟩ := gd_s h
      refine run_aald' (j := (Int32.toNatClampNeg x2)) (ch_9_6 hn0) (by decide) (by decide) (t0 := 7) rfl (cl_9_6 hn0) g6 rfl (es_9_6 hn0 _) dX9_clearPlace_26 ?_
      refine run_iconst (v := 0) dX9_clearPlace_27 rfl ?_
      refine run_puti fp_X9_61 (el_9_6 hn0 (inb_lt g6)) (by decide) rfl dX9_clearPlace_28 ?_
      refine run_goto 62 dX9_clearPlace_31 (by decide) ?_
      exact run_vret dX9_clearPlace_62 ⟨rfl, Option.some.inj h⟩
  · rw [if_pos c1] at h
    refine run_aload_n 0 dX9_clearPlace_4 rfl rfl ?_
    refine run_getr fl_X9_25 hn0 (by decide) rfl (cs_9_5 hn0) dX9_clearPlace_5 ?_
    refine run_iload_n 2 dX9_clearPlace_8 rfl rfl ?_
    obtain ⟨g7, h⟩ := gd_s h
    refine run_aald' (j := (Int32.toNatClampNeg x2)) (ch_9_5 hn0) (by decide) (by decide) (t0 := 6) rfl (cl_9_5 hn0) g7 rfl (es_9_5 hn0 _) dX9_clearPlace_9 ?_
    obtain ⟨q8, h9, h⟩ := Option.bind_eq_some_iff.mp h
    refine run_callVv (As := []) (fun z => z = q8) mw_X7_clear mi_X7_clear ml_X9_58 (el_9_5 hn0 (inb_lt g7)) (by decide) rfl rfl rfl (RF.lt (HX9_clearPlace_X7_clear_lt d)) (Nat.le_of_ble_eq_true rfl) dX9_clearPlace_10 (sX7_clear G d (el_9_5 hn0 (inb_lt g7)) h9) (fun z h8 => ?_) rfl
    rw [h8]
    clear h8
    refine run_goto 62 dX9_clearPlace_13 (by decide) ?_
    exact run_vret dX9_clearPlace_62 ⟨rfl, Option.some.inj h⟩
