/-! methods, translated -/
def HX11_weaveAll : Nat := 7
theorem HX11_weaveAll_J7_fill_53178_lt (d : Nat) : d + HJ7_fill_53178 < d + HX11_weaveAll := Nat.add_lt_add_left (by decide) d
theorem HX11_weaveAll_X11_countWoven_lt (d : Nat) : d + HX11_countWoven < d + HX11_weaveAll := Nat.add_lt_add_left (by decide) d
theorem HX11_weaveAll_X11_waysAhead_lt (d : Nat) : d + HX11_waysAhead < d + HX11_weaveAll := Nat.add_lt_add_left (by decide) d
theorem HX11_weaveAll_X3_start_lt (d : Nat) : d + HX3_start < d + HX11_weaveAll := Nat.add_lt_add_left (by decide) d
theorem HX11_weaveAll_X3_weaveOnce_lt (d : Nat) : d + HX3_weaveOnce < d + HX11_weaveAll := Nat.add_lt_add_left (by decide) d
theorem HX11_weaveAll_0 (d : Nat) : 0 < d + HX11_weaveAll := Nat.lt_of_lt_of_le (by decide) (Nat.le_add_left _ d)
def lX11_weaveAll_50 (x3 : Int32) (x4 : Int32) (x5 : Int32) (x6 : Int32) (x7 : Int32) : Nat → Int32 → Mem → Option (Mem)
  | 0, _, _ => none
  | n + 1, x8, σ => if x7 ≤ x8 then (some σ) else ((fX3_weaveOnce x3 x4 0 x8 σ).bind fun q12 => (fX11_waysAhead x5 x8 q12.2).bind fun q13 => (fX11_countWoven 1 q12.1 q13.1 q13.2).bind fun q14 => lX11_weaveAll_50 x3 x4 x5 x6 x7 n (x8 + 1) q14)
set_option maxRecDepth 20000 in
theorem lpX11_weaveAll_50 (G : GT) (d : Nat) (x3 : Int32) (x4 : Int32) (x5 : Int32) (x6 : Int32) (x7 : Int32)  {K : Option Value → Mem → Prop} : ∀ (n : Nat) (x8 : Int32) (σ : Mem) (o : Mem), lX11_weaveAll_50 x3 x4 x5 x6 x7 n x8 σ = some o → (Run G RX11 cX11_weaveAll 10 none (mF G (d + HX11_weaveAll) K) 88 [(0, .ref (gA G 0)), (3, .int x3), (4, .int x4), (5, .int x5), (6, .int x6)] [] o) → Run G RX11 cX11_weaveAll 10 none (mF G (d + HX11_weaveAll) K) 50 [(0, .ref (gA G 0)), (3, .int x3), (4, .int x4), (5, .int x5), (6, .int x6), (7, .int x7), (8, .int x8)] [] σ := by
  intro n
  induction n with
  | zero => intro x8 σ o h; exact absurd h (by simp [lX11_weaveAll_50])
  | succ n ih =>
    intro x8 σ o h kx
    rw [lX11_weaveAll_50] at h
    refine run_iload 6 dX11_weaveAll_50 rfl ?_
    refine run_iload 5 dX11_weaveAll_52 rfl ?_
    refine run_icmp_ge 88 dX11_weaveAll_54 (by decide) (fun c11 => ?_) (fun c11 => ?_)
    · rw [if_pos c11] at h
      rw [← Option.some.inj h] at kx
      refine run_forget [0, 1, 2, 3, 4] rfl ?_
      exact kx
    · rw [if_neg c11] at h
      refine run_aload_n 0 dX11_weaveAll_57 rfl rfl ?_
      refine run_iconst (v := 1) dX11_weaveAll_58 rfl ?_
      refine run_aload_n 0 dX11_weaveAll_59 rfl rfl ?_
      refine run_getr fl_X11_50 is_0 (by decide) rfl ce_0_4 dX11_weaveAll_60 ?_
      refine run_iload_n 1 dX11_weaveAll_63 rfl rfl ?_
      refine run_iload 2 dX11_weaveAll_64 rfl ?_
      refine run_iconst (v := 0) dX11_weaveAll_66 rfl ?_
      refine run_iload 6 dX11_weaveAll_67 rfl ?_
      obtain ⟨q12, h17, h⟩ := Option.bind_eq_some_iff.mp h
      refine run_callVi (As := [.int x3, .int x4, .int 0, .int x8]) (fun r z => (r, z) = q12) mw_X3_weaveOnce mi_X3_weaveOnce ml_X11_331 is_146 (by decide) rfl rfl rfl (RF.lt (HX11_weaveAll_X3_weaveOnce_lt d)) (Nat.le_of_ble_eq_true rfl) dX11_weaveAll_69 (sX3_weaveOnce G d  h17) (fun r z h8 => ?_) rfl
      rw [show r = q12.1 from congrArg Prod.fst h8, show z = q12.2 from congrArg Prod.snd h8]
      clear h8
      refine run_iload 3 dX11_weaveAll_72 rfl ?_
      refine run_iload 6 dX11_weaveAll_74 rfl ?_
      obtain ⟨q13, h16, h⟩ := Option.bind_eq_some_iff.mp h
      refine run_callSi (As := [.int x5, .int x8]) (fun r z => (r, z) = q13) mw_X11_waysAhead ms_X11_waysAhead ml_X11_335 rfl (RF.lt (HX11_weaveAll_X11_waysAhead_lt d)) (Nat.le_of_ble_eq_true rfl) dX11_weaveAll_76 (sX11_waysAhead G d  h16) (fun r z h8 => ?_) rfl
      rw [show r = q13.1 from congrArg Prod.fst h8, show z = q13.2 from congrArg Prod.snd h8]
      clear h8
      obtain ⟨q14, h15, h⟩ := Option.bind_eq_some_iff.mp h
      refine run_callVv (As := [.int 1, .int q12.1, .int q13.1]) (fun z => z = q14) mw_X11_countWoven mi_X11_countWoven ml_X11_338 is_0 (by decide) rfl rfl rfl (RF.lt (HX11_weaveAll_X11_countWoven_lt d)) (Nat.le_of_ble_eq_true rfl) dX11_weaveAll_79 (sX11_countWoven G d  h15) (fun z h8 => ?_) rfl
      rw [h8]
      clear h8
      refine run_iinc 6 [(0, .ref (gA G 0)), (3, .int x3), (4, .int x4), (5, .int x5), (6, .int x6), (7, .int x7), (8, .int (x8 + 1))] [1, 2, 3, 4, 5, 6, 0] dX11_weaveAll_82 rfl rfl (by decide) rfl ?_
      refine run_goto 50 dX11_weaveAll_85 (by decide) ?_
      exact ih _ _ _ h kx
def lX11_weaveAll_109 (x3 : Int32) (x4 : Int32) (x6 : Int32) (x8 : Int32) : Nat → Int32 → Mem → Option (Mem)
  | 0, _, _ => none
  | n + 1, x9, σ => if x8 ≤ x9 then (some σ) else ((fX3_weaveOnce x3 x4 1 x9 σ).bind fun q26 => (fX11_waysAhead x6 x9 q26.2).bind fun q27 => (fX11_countWoven 0 q26.1 q27.1 q27.2).bind fun q28 => lX11_weaveAll_109 x3 x4 x6 x8 n (x9 + 1) q28)
set_option maxRecDepth 20000 in
theorem lpX11_weaveAll_109 (G : GT) (d : Nat) (x3 : Int32) (x4 : Int32) (x6 : Int32) (x8 : Int32)  {K : Option Value → Mem → Prop} : ∀ (n : Nat) (x9 : Int32) (σ : Mem) (o : Mem), lX11_weaveAll_109 x3 x4 x6 x8 n x9 σ = some o → (Run G RX11 cX11_weaveAll 10 none (mF G (d + HX11_weaveAll) K) 147 [] [] o) → Run G RX11 cX11_weaveAll 10 none (mF G (d + HX11_weaveAll) K) 109 [(0, .ref (gA G 0)), (3, .int x3), (4, .int x4), (6, .int x6), (8, .int x8), (9, .int x9)] [] σ := by
  intro n
  induction n with
  | zero => intro x9 σ o h; exact absurd h (by simp [lX11_weaveAll_109])
  | succ n ih =>
    intro x9 σ o h kx
    rw [lX11_weaveAll_109] at h
    refine run_iload 5 dX11_weaveAll_109 rfl ?_
    refine run_iload 4 dX11_weaveAll_111 rfl ?_
    refine run_icmp_ge 147 dX11_weaveAll_113 (by decide) (fun c25 => ?_) (fun c25 => ?_)
    · rw [if_pos c25] at h
      rw [← Option.some.inj h] at kx
      refine run_forget [] rfl ?_
      exact kx
    · rw [if_neg c25] at h
      refine run_aload_n 0 dX11_weaveAll_116 rfl rfl ?_
      refine run_iconst (v := 0) dX11_weaveAll_117 rfl ?_
      refine run_aload_n 0 dX11_weaveAll_118 rfl rfl ?_
      refine run_getr fl_X11_50 is_0 (by decide) rfl ce_0_4 dX11_weaveAll_119 ?_
      refine run_iload_n 1 dX11_weaveAll_122 rfl rfl ?_
      refine run_iload 2 dX11_weaveAll_123 rfl ?_
      refine run_iconst (v := 1) dX11_weaveAll_125 rfl ?_
      refine run_iload 5 dX11_weaveAll_126 rfl ?_
      obtain ⟨q26, h31, h⟩ := Option.bind_eq_some_iff.mp h
      refine run_callVi (As := [.int x3, .int x4, .int 1, .int x9]) (fun r z => (r, z) = q26) mw_X3_weaveOnce mi_X3_weaveOnce ml_X11_331 is_146 (by decide) rfl rfl rfl (RF.lt (HX11_weaveAll_X3_weaveOnce_lt d)) (Nat.le_of_ble_eq_true rfl) dX11_weaveAll_128 (sX3_weaveOnce G d  h31) (fun r z h8 => ?_) rfl
      rw [show r = q26.1 from congrArg Prod.fst h8, show z = q26.2 from congrArg Prod.snd h8]
      clear h8
      refine run_iload 3 dX11_weaveAll_131 rfl ?_
      refine run_iload 5 dX11_weaveAll_133 rfl ?_
      obtain ⟨q27, h30, h⟩ := Option.bind_eq_some_iff.mp h
      refine run_callSi (As := [.int x6, .int x9]) (fun r z => (r, z) = q27) mw_X11_waysAhead ms_X11_waysAhead ml_X11_335 rfl (RF.lt (HX11_weaveAll_X11_waysAhead_lt d)) (Nat.le_of_ble_eq_true rfl) dX11_weaveAll_135 (sX11_waysAhead G d  h30) (fun r z h8 => ?_) rfl
      rw [show r = q27.1 from congrArg Prod.fst h8, show z = q27.2 from congrArg Prod.snd h8]
      clear h8
      obtain ⟨q28, h29, h⟩ := Option.bind_eq_some_iff.mp h
      refine run_callVv (As := [.int 0, .int q26.1, .int q27.1]) (fun z => z = q28) mw_X11_countWoven mi_X11_countWoven ml_X11_338 is_0 (by decide) rfl rfl rfl (RF.lt (HX11_weaveAll_X11_countWoven_lt d)) (Nat.le_of_ble_eq_true rfl) dX11_weaveAll_138 (sX11_countWoven G d  h29) (fun z h8 => ?_) rfl
      rw [h8]
      clear h8
      refine run_iinc 5 [(0, .ref (gA G 0)), (3, .int x3), (4, .int x4), (6, .int x6), (8, .int x8), (9, .int (x9 + 1))] [1, 2, 3, 4, 5, 0] dX11_weaveAll_141 rfl rfl (by decide) rfl ?_
      refine run_goto 109 dX11_weaveAll_144 (by decide) ?_
      exact ih _ _ _ h kx
def fX11_weaveAll (n1 : Nat) (n2 : Nat) (x3 : Int32) (x4 : Int32) (σ : Mem) : Option Mem := (fJ7_fill_53178 266 5 0 σ).bind fun q1 => (fX3_start n1 n2 q1).bind fun q2 => gd (inb x3 7) (gd (inb x4 7) ((if (q2 (n2 + 1) (Int32.toNatClampNeg x3)) = 0 then (some 1) else (some (q2 (n2 + 1) (Int32.toNatClampNeg x4))) : Option (Int32)).bind fun q6 => (lX11_weaveAll_50 x3 x4 (q2 (n2 + 1) (Int32.toNatClampNeg x3)) (q2 (n2 + 1) (Int32.toNatClampNeg x4)) q6 FU 0 q2).bind fun q18 => (if (q2 (n2 + 1) (Int32.toNatClampNeg x4)) = 0 then (some (mn 1 (q2 (n2 + 1) (Int32.toNatClampNeg x3)))) else (some (q2 (n2 + 1) (Int32.toNatClampNeg x3))) : Option (Int32)).bind fun q20 => (lX11_weaveAll_109 x3 x4 (q2 (n2 + 1) (Int32.toNatClampNeg x4)) q20 FU 0 q18).bind fun q32 => some q32))
set_option maxRecDepth 20000 in
theorem sX11_weaveAll (G : GT) (d : Nat) {n1 : Nat} {n2 : Nat} {x3 : Int32} {x4 : Int32} (hn1 : Is n1 7) (hn2 : Is n2 8) {σ : Mem} {o : Mem} (h : fX11_weaveAll n1 n2 x3 x4 σ = some o) : Spec G yX11_weaveAll cX11_weaveAll 10 none (d + HX11_weaveAll) [.ref (gA G 0), .ref (gA G n1), .ref (gA G n2), .int x3, .int x4] σ (kV fun z => z = o) := by
  refine spec_run (by decide) (Nat.le_of_ble_eq_true rfl) ?_
  unfold fX11_weaveAll at h
  show Run G RX11 cX11_weaveAll 10 none _ 0 [(0, .ref (gA G 0)), (1, .ref (gA G n1)), (2, .ref (gA G n2)), (3, .int x3), (4, .int x4)] [] σ
  refine run_aload_n 0 dX11_weaveAll_0 rfl rfl ?_
  refine run_getr fl_X11_68 is_0 (by decide) rfl ce_0_7 dX11_weaveAll_1 ?_
  refine run_iconst (v := 0) dX11_weaveAll_4 rfl ?_
  obtain ⟨q1, h38, h⟩ := Option.bind_eq_some_iff.mp h
  refine run_callSv (As := [.ref (gA G 266), .int 0]) (fun z => z = q1) mw_J7_fill_53178 ms_J7_fill_53178 ml_X11_325 rfl (RF.lt (HX11_weaveAll_J7_fill_53178_lt d)) (Nat.le_of_ble_eq_true rfl) dX11_weaveAll_5 (sJ7_fill_53178 G d is_266 ln_266 (by decide) h38) (fun z h8 => ?_) rfl
  rw [h8]
  clear h8
  refine run_aload_n 0 dX11_weaveAll_8 rfl rfl ?_
  refine run_getr fl_X11_50 is_0 (by decide) rfl ce_0_4 dX11_weaveAll_9 ?_
  refine run_aload_n 1 dX11_weaveAll_12 rfl rfl ?_
  refine run_aload_n 2 dX11_weaveAll_13 rfl rfl ?_
  obtain ⟨q2, h37, h⟩ := Option.bind_eq_some_iff.mp h
  refine run_callVv (As := [.ref (gA G n1), .ref (gA G n2)]) (fun z => z = q2) mw_X3_start mi_X3_start ml_X11_245 is_146 (by decide) rfl rfl rfl (RF.lt (HX11_weaveAll_X3_start_lt d)) (Nat.le_of_ble_eq_true rfl) dX11_weaveAll_14 (sX3_start G d hn1 hn2 h37) (fun z h8 => ?_) rfl
  rw [h8]
  clear h8
  refine run_aload_n 2 dX11_weaveAll_17 rfl rfl ?_
  refine run_getr fl_X11_140 hn2 (by decide) rfl (cs_8_1 hn2) dX11_weaveAll_18 ?_
  refine run_iload_n 3 dX11_weaveAll_21 rfl rfl ?_
  obtain ⟨g3, h⟩ := gd_s h
  refine run_iald' (ch_8_1 hn2) (cl_8_1 hn2) g3 rfl dX11_weaveAll_22 ?_
  refine run_istore [(0, .ref (gA G 0)), (2, .ref (gA G n2)), (3, .int x3), (4, .int x4), (5, .int (q2 (n2 + 1) (Int32.toNatClampNeg x3)))] [1, 3, 4, 5, 0] dX11_weaveAll_23 (by decide) rfl ?_
  refine run_aload_n 1 dX11_weaveAll_25 rfl rfl ?_
  refine run_getr fl_X11_140 hn2 (by decide) rfl (cs_8_1 hn2) dX11_weaveAll_26 ?_
  refine run_iload 3 dX11_weaveAll_29 rfl ?_
  obtain ⟨g4, h⟩ := gd_s h
  refine run_iald' (ch_8_1 hn2) (cl_8_1 hn2) g4 rfl dX11_weaveAll_31 ?_
  refine run_istore [(0, .ref (gA G 0)), (3, .int x3), (4, .int x4), (5, .int (q2 (n2 + 1) (Int32.toNatClampNeg x3))), (6, .int (q2 (n2 + 1) (Int32.toNatClampNeg x4)))] [1, 3, 4, 5, 0] dX11_weaveAll_32 (by decide) rfl ?_
  refine run_iload 3 dX11_weaveAll_34 rfl ?_
  obtain ⟨q6, h, h9⟩ := Option.bind_eq_some_iff.mp h
  have hj36 : Run G RX11 cX11_weaveAll 10 none (mF G (d + HX11_weaveAll) (kV fun z => z = o)) 45 [(0, .ref (gA G 0)), (3, .int x3), (4, .int x4), (5, .int (q2 (n2 + 1) (Int32.toNatClampNeg x3))), (6, .int (q2 (n2 + 1) (Int32.toNatClampNeg x4)))] [.int q6] q2 := by
    clear h
    have h := h9
    clear h9
    refine run_istore [(0, .ref (gA G 0)), (3, .int x3), (4, .int x4), (5, .int (q2 (n2 + 1) (Int32.toNatClampNeg x3))), (6, .int (q2 (n2 + 1) (Int32.toNatClampNeg x4))), (7, .int q6)] [1, 2, 3, 4, 5, 0] dX11_weaveAll_45 (by decide) rfl ?_
    refine run_iconst (v := 0) dX11_weaveAll_47 rfl ?_
    refine run_istore [(0, .ref (gA G 0)), (3, .int x3), (4, .int x4), (5, .int (q2 (n2 + 1) (Int32.toNatClampNeg x3))), (6, .int (q2 (n2 + 1) (Int32.toNatClampNeg x4))), (7, .int q6), (8, .int 0)] [1, 2, 3, 4, 5, 6, 0] dX11_weaveAll_48 (by decide) rfl ?_
    obtain ⟨q18, h35, h⟩ := Option.bind_eq_some_iff.mp h
    refine lpX11_weaveAll_50 G d _ _ _ _ _ _ _ _ _ h35 ?_
    refine run_iload 4 dX11_weaveAll_88 rfl ?_
    obtain ⟨q20, h, h9⟩ := Option.bind_eq_some_iff.mp h
    have hj34 : Run G RX11 cX11_weaveAll 10 none (mF G (d + HX11_weaveAll) (kV fun z => z = o)) 104 [(0, .ref (gA G 0)), (3, .int x3), (4, .int x4), (6, .int (q2 (n2 + 1) (Int32.toNatClampNeg x4)))] [.int q20] q18 := by
      clear h
      have h := h9
      clear h9
      refine run_istore [(0, .ref (gA G 0)), (3, .int x3), (4, .int x4), (6, .int (q2 (n2 + 1) (Int32.toNatClampNeg x4))), (8, .int q20)] [1, 2, 3, 4, 0] dX11_weaveAll_104 (by decide) rfl ?_
      refine run_iconst (v := 0) dX11_weaveAll_106 rfl ?_
      refine run_istore [(0, .ref (gA G 0)), (3, .int x3), (4, .int x4), (6, .int (q2 (n2 + 1) (Int32.toNatClampNeg x4))), (8, .int q20), (9, .int 0)] [1, 2, 3, 4, 5, 0] dX11_weaveAll_107 (by decide) rfl ?_
      obtain ⟨q32, h33, h⟩ := Option.bind_eq_some_iff.mp h
      refine lpX11_weaveAll_109 G d _ _ _ _ _ _ _ _ h33 ?_
      exact run_vret dX11_weaveAll_147 ⟨rfl, Option.some.inj h⟩
    clear h9
    refine run_if_ne 102 dX11_weaveAll_90 (by decide) (fun c19 => ?_) (fun c19 => ?_)
    · rw [if_neg c19] at h
      refine run_iload 3 dX11_weaveAll_102 rfl ?_
      rw [← Option.some.inj h] at hj34
      refine run_forget [0, 1, 2, 4] rfl ?_
      exact hj34
    · rw [if_pos c19] at h
      refine run_iconst (v := 1) dX11_weaveAll_93 rfl ?_
      refine run_iload 3 dX11_weaveAll_94 rfl ?_
      refine run_min mm_X11_342 (RF.lt (HX11_weaveAll_0 d)) (Nat.le_of_ble_eq_true rfl) dX11_weaveAll_96 ?_
      refine run_goto 104 dX11_weaveAll_99 (by decide) ?_
      rw [← Option.some.inj h] at hj34
      refine run_forget [0, 1, 2, 4] rfl ?_
      exact hj34
  clear h9
  refine run_if_ne 43 dX11_weaveAll_36 (by decide) (fun c5 => ?_) (fun c5 => ?_)
  · rw [if_neg c5] at h
    refine run_iload 4 dX11_weaveAll_43 rfl ?_
    rw [← Option.some.inj h] at hj36
    exact hj36
  · rw [if_pos c5] at h
    refine run_iconst (v := 1) dX11_weaveAll_39 rfl ?_
    refine run_goto 45 dX11_weaveAll_40 (by decide) ?_
    rw [← Option.some.inj h] at hj36
    exact hj36
def HX11_stop : Nat := 7
theorem HX11_stop_X11_play_lt (d : Nat) : d + HX11_play < d + HX11_stop := Nat.add_lt_add_left (by decide) d
theorem HX11_stop_0 (d : Nat) : 0 < d + HX11_stop := Nat.lt_of_lt_of_le (by decide) (Nat.le_add_left _ d)
def fX11_stop (x1 : Int32) (x2 : Int32) (x3 : Int32) (σ : Mem) : Option (Int32 × Mem) := (fX11_play x1 x2 x3 40 σ).bind fun q1 => if q1.1 = true then (some ((q1.2 146 12), q1.2)) else (some ((-1), q1.2))
set_option maxRecDepth 20000 in
theorem sX11_stop (G : GT) (d : Nat) {x1 : Int32} {x2 : Int32} {x3 : Int32}  {σ : Mem} {o : (Int32 × Mem)} (h : fX11_stop x1 x2 x3 σ = some o) : Spec G yX11_stop cX11_stop 4 (some .int) (d + HX11_stop) [.ref (gA G 0), .int x1, .int x2, .int x3] σ (kI fun x z => (x, z) = o) := by
  refine spec_run (by decide) (Nat.le_of_ble_eq_true rfl) ?_
  unfold fX11_stop at h
  show Run G RX11 cX11_stop 4 (some .int) _ 0 [(0, .ref (gA G 0)), (1, .int x1), (2, .int x2), (3, .int x3)] [] σ
  refine run_aload_n 0 dX11_stop_0 rfl rfl ?_
  refine run_iload_n 1 dX11_stop_1 rfl rfl ?_
  refine run_iload_n 2 dX11_stop_2 rfl rfl ?_
  refine run_iload_n 3 dX11_stop_3 rfl rfl ?_
  refine run_bipush (v := 40) dX11_stop_4 rfl ?_
  obtain ⟨q1, h3, h⟩ := Option.bind_eq_some_iff.mp h
  refine run_callVb (As := [.int x1, .int x2, .int x3, .int 40]) (fun r z => (r, z) = q1) mw_X11_play mi_X11_play ml_X11_166 is_0 (by decide) rfl rfl rfl (RF.lt (HX11_stop_X11_play_lt d)) (Nat.le_of_ble_eq_true rfl) dX11_stop_6 (sX11_play G d  h3) (fun r z h8 => ?_) rfl
  rw [show r = q1.1 from congrArg Prod.fst h8, show z = q1.2 from congrArg Prod.snd h8]
  clear h8
  refine run_ifb_eq 22 dX11_stop_9 (by decide) (fun c2 => ?_) (fun c2 => ?_)
  · rw [if_neg c2] at h
    refine run_iconst (v := -1) dX11_stop_22 rfl ?_
    exact run_iret dX11_stop_23 ⟨_, rfl, Option.some.inj h⟩
  · rw [if_pos c2] at h
    refine run_aload_n 0 dX11_stop_12 rfl rfl ?_
    refine run_getr fl_X11_50 is_0 (by decide) rfl ce_0_4 dX11_stop_13 ?_
    refine run_geti fl_X11_170 is_146 (by decide) rfl dX11_stop_16 ?_
    refine run_goto 23 dX11_stop_19 (by decide) ?_
    exact run_iret dX11_stop_23 ⟨_, rfl, Option.some.inj h⟩
def HX11_state : Nat := 7
theorem HX11_state_X11_inTen_lt (d : Nat) : d + HX11_inTen < d + HX11_state := Nat.add_lt_add_left (by decide) d
theorem HX11_state_X11_play_lt (d : Nat) : d + HX11_play < d + HX11_state := Nat.add_lt_add_left (by decide) d
theorem HX11_state_X3_linesLost_lt (d : Nat) : d + HX3_linesLost < d + HX11_state := Nat.add_lt_add_left (by decide) d
theorem HX11_state_X3_recover_lt (d : Nat) : d + HX3_recover < d + HX11_state := Nat.add_lt_add_left (by decide) d
theorem HX11_state_X3_view_lt (d : Nat) : d + HX3_view < d + HX11_state := Nat.add_lt_add_left (by decide) d
theorem HX11_state_0 (d : Nat) : 0 < d + HX11_state := Nat.lt_of_lt_of_le (by decide) (Nat.le_add_left _ d)
def fX11_state (x1 : Int32) (x2 : Int32) (x3 : Int32) (x4 : Int32) (x5 : Int32) (σ : Mem) : Option (Int32 × Mem) := if x4 < 0 then (some ((-2), σ)) else ((fX11_play x1 x2 x3 x4 σ).bind fun q2 => if q2.1 = true then (if x4 ≤ (q2.2 146 12) then (if x5 = 5 then ((fX3_linesLost q2.2).bind fun q14 => some (q14.1, q14.2)) else ((fX11_inTen x5 30 q2.2).bind fun q6 => if q6.1 = true then ((fX3_recover 0 267 268 q6.2).bind fun q10 => gd (inb (x5 - 30) 10) (some ((q10 267 (Int32.toNatClampNeg (x5 - 30))), q10))) else ((fX3_view x5 q6.2).bind fun q8 => some (q8.1, q8.2)))) else (some ((-2), q2.2))) else (some ((-2), q2.2)))
set_option maxRecDepth 20000 in
theorem sX11_state (G : GT) (d : Nat) {x1 : Int32} {x2 : Int32} {x3 : Int32} {x4 : Int32} {x5 : Int32}  {σ : Mem} {o : (Int32 × Mem)} (h : fX11_state x1 x2 x3 x4 x5 σ = some o) : Spec G yX11_state cX11_state 6 (some .int) (d + HX11_state) [.ref (gA G 0), .int x1, .int x2, .int x3, .int x4, .int x5] σ (kI fun x z => (x, z) = o) := by
  refine spec_run (by decide) (Nat.le_of_ble_eq_true rfl) ?_
  unfold fX11_state at h
  show Run G RX11 cX11_state 6 (some .int) _ 0 [(0, .ref (gA G 0)), (1, .int x1), (2, .int x2), (3, .int x3), (4, .int x4), (5, .int x5)] [] σ
  refine run_iload 4 dX11_state_0 rfl ?_
  refine run_if_lt 29 dX11_state_2 (by decide) (fun c1 => ?_) (fun c1 => ?_)
  · rw [if_pos c1] at h
    refine run_bipush (v := -2) dX11_state_29 rfl ?_
    exact run_iret dX11_state_31 ⟨_, rfl, Option.some.inj h⟩
  · rw [if_neg c1] at h
    refine run_aload_n 0 dX11_state_5 rfl rfl ?_
    refine run_iload_n 1 dX11_state_6 rfl rfl ?_
    refine run_iload_n 2 dX11_state_7 rfl rfl ?_
    refine run_iload_n 3 dX11_state_8 rfl rfl ?_
    refine run_iload 4 dX11_state_9 rfl ?_
    obtain ⟨q2, h16, h⟩ := Option.bind_eq_some_iff.mp h
    refine run_callVb (As := [.int x1, .int x2, .int x3, .int x4]) (fun r z => (r, z) = q2) mw_X11_play mi_X11_play ml_X11_166 is_0 (by decide) rfl rfl rfl (RF.lt (HX11_state_X11_play_lt d)) (Nat.le_of_ble_eq_true rfl) dX11_state_11 (sX11_play G d  h16) (fun r z h8 => ?_) rfl
    rw [show r = q2.1 from congrArg Prod.fst h8, show z = q2.2 from congrArg Prod.snd h8]
    clear h8
    refine run_ifb_eq 29 dX11_state_14 (by decide) (fun c3 => ?_) (fun c3 => ?_)
    · rw [if_neg c3] at h
      refine run_bipush (v := -2) dX11_state_29 rfl ?_
      exact run_iret dX11_state_31 ⟨_, rfl, Option.some.inj h⟩
    · rw [if_pos c3] at h
      refine run_aload_n 0 dX11_state_17 rfl rfl ?_
      refine run_getr fl_X11_50 is_0 (by decide) rfl ce_0_4 dX11_state_18 ?_
      refine run_geti fl_X11_170 is_146 (by decide) rfl dX11_state_21 ?_
      refine run_iload 4 dX11_state_24 rfl ?_
      refine run_icmp_ge 32 dX11_state_26 (by decide) (fun c4 => ?_) (fun c4 => ?_)
      · rw [if_pos c4] at h
        refine run_iload 5 dX11_state_32 rfl ?_
        refine run_iconst (v := 5) dX11_state_34 rfl ?_
        refine run_icmp_ne 46 dX11_state_35 (by decide) (fun c5 => ?_) (fun c5 => ?_)
        · rw [if_neg c5] at h
          refine run_iload 5 dX11_state_46 rfl ?_
          refine run_bipush (v := 30) dX11_state_48 rfl ?_
          obtain ⟨q6, h13, h⟩ := Option.bind_eq_some_iff.mp h
          refine run_callSb (As := [.int x5, .int 30]) (fun r z => (r, z) = q6) mw_X11_inTen ms_X11_inTen ml_X11_128 rfl (RF.lt (HX11_state_X11_inTen_lt d)) (Nat.le_of_ble_eq_true rfl) dX11_state_50 (sX11_inTen G d  h13) (fun r z h8 => ?_) rfl
          rw [show r = q6.1 from congrArg Prod.fst h8, show z = q6.2 from congrArg Prod.snd h8]
          clear h8
          refine run_ifb_eq 83 dX11_state_53 (by decide) (fun c7 => ?_) (fun c7 => ?_)
          · rw [if_neg c7] at h
            refine run_aload_n 0 dX11_state_83 rfl rfl ?_
            refine run_getr fl_X11_50 is_0 (by decide) rfl ce_0_4 dX11_state_84 ?_
            refine run_iload 5 dX11_state_87 rfl ?_
            obtain ⟨q8, h9, h⟩ := Option.bind_eq_some_iff.mp h
            refine run_callVi (As := [.int x5]) (fun r z => (r, z) = q8) mw_X3_view mi_X3_view ml_X11_181 is_146 (by decide) rfl rfl rfl (RF.lt (HX11_state_X3_view_lt d)) (Nat.le_of_ble_eq_true rfl) dX11_state_89 (sX3_view G d  h9) (fun r z h8 => ?_) rfl
            rw [show r = q8.1 from congrArg Prod.fst h8, show z = q8.2 from congrArg Prod.snd h8]
            clear h8
            exact run_iret dX11_state_92 ⟨_, rfl, Option.some.inj h⟩
          · rw [if_pos c7] at h
            refine run_aload_n 0 dX11_state_56 rfl rfl ?_
            refine run_getr fl_X11_50 is_0 (by decide) rfl ce_0_4 dX11_state_57 ?_
            refine run_iconst (v := 0) dX11_state_60 rfl ?_
            refine run_aload_n 0 dX11_state_61 rfl rfl ?_
            refine run_getr fl_X11_72 is_0 (by decide) rfl ce_0_8 dX11_state_62 ?_
            refine run_aload_n 0 dX11_state_65 rfl rfl ?_
            refine run_getr fl_X11_75 is_0 (by decide) rfl ce_0_9 dX11_state_66 ?_
            obtain ⟨q10, h12, h⟩ := Option.bind_eq_some_iff.mp h
            refine run_callVv (As := [.int 0, .ref (gA G 267), .ref (gA G 268)]) (fun z => z = q10) mw_X3_recover mi_X3_recover ml_X11_177 is_146 (by decide) rfl rfl rfl (RF.lt (HX11_state_X3_recover_lt d)) (Nat.le_of_ble_eq_true rfl) dX11_state_69 (sX3_recover G d is_267 ln_267 is_268 ln_268 h12) (fun z h8 => ?_) rfl
            rw [h8]
            clear h8
            refine run_aload_n 0 dX11_state_72 rfl rfl ?_
            refine run_getr fl_X11_72 is_0 (by decide) rfl ce_0_8 dX11_state_73 ?_
            refine run_iload 5 dX11_state_76 rfl ?_
            refine run_bipush (v := 30) dX11_state_78 rfl ?_
            refine run_isub dX11_state_80 ?_
            obtain ⟨g11, h⟩ := gd_s h
            refine run_iald' is_267 ln_267 g11 rfl dX11_state_81 ?_
            exact run_iret dX11_state_82 ⟨_, rfl, Option.some.inj h⟩
        · rw [if_pos c5] at h
          refine run_aload_n 0 dX11_state_38 rfl rfl ?_
          refine run_getr fl_X11_50 is_0 (by decide) rfl ce_0_4 dX11_state_39 ?_
          obtain ⟨q14, h15, h⟩ := Option.bind_eq_some_iff.mp h
          refine run_callVi (As := []) (fun r z => (r, z) = q14) mw_X3_linesLost mi_X3_linesLost ml_X11_173 is_146 (by decide) rfl rfl rfl (RF.lt (HX11_state_X3_linesLost_lt d)) (Nat.le_of_ble_eq_true rfl) dX11_state_42 (sX3_linesLost G d  h15) (fun r z h8 => ?_) rfl
          rw [show r = q14.1 from congrArg Prod.fst h8, show z = q14.2 from congrArg Prod.snd h8]
          clear h8
          exact run_iret dX11_state_45 ⟨_, rfl, Option.some.inj h⟩
      · rw [if_neg c4] at h
        refine run_bipush (v := -2) dX11_state_29 rfl ?_
        exact run_iret dX11_state_31 ⟨_, rfl, Option.some.inj h⟩
def HX11_why : Nat := 7
theorem HX11_why_X11_play_lt (d : Nat) : d + HX11_play < d + HX11_why := Nat.add_lt_add_left (by decide) d
theorem HX11_why_0 (d : Nat) : 0 < d + HX11_why := Nat.lt_of_lt_of_le (by decide) (Nat.le_add_left _ d)
def fX11_why (x1 : Int32) (x2 : Int32) (x3 : Int32) (x4 : Int32) (x5 : Int32) (σ : Mem) : Option (Int32 × Mem) := (fX11_play x1 x2 x3 40 σ).bind fun q1 => if q1.1 = true then (if x4 < 0 then (some ((-2), q1.2)) else (if x4 < (q1.2 146 12) then (if x5 = 0 then (gd (inb x4 60) (some ((q1.2 154 (Int32.toNatClampNeg x4)), q1.2))) else (if x5 = 1 then (gd (inb x4 60) (some ((q1.2 155 (Int32.toNatClampNeg x4)), q1.2))) else (if x5 = 2 then (gd (inb x4 60) (some ((q1.2 156 (Int32.toNatClampNeg x4)), q1.2))) else (if x5 = 3 then (gd (inb x4 60) (some ((q1.2 157 (Int32.toNatClampNeg x4)), q1.2))) else (some ((-2), q1.2)))))) else (some ((-2), q1.2)))) else (some ((-2), q1.2))
set_option maxRecDepth 20000 in
theorem sX11_why (G : GT) (d : Nat) {x1 : Int32} {x2 : Int32} {x3 : Int32} {x4 : Int32} {x5 : Int32}  {σ : Mem} {o : (Int32 × Mem)} (h : fX11_why x1 x2 x3 x4 x5 σ = some o) : Spec G yX11_why cX11_why 6 (some .int) (d + HX11_why) [.ref (gA G 0), .int x1, .int x2, .int x3, .int x4, .int x5] σ (kI fun x z => (x, z) = o) := by
  refine spec_run (by decide) (Nat.le_of_ble_eq_true rfl) ?_
  unfold fX11_why at h
  show Run G RX11 cX11_why 6 (some .int) _ 0 [(0, .ref (gA G 0)), (1, .int x1), (2, .int x2), (3, .int x3), (4, .int x4), (5, .int x5)] [] σ
  refine run_aload_n 0 dX11_why_0 rfl rfl ?_
  refine run_iload_n 1 dX11_why_1 rfl rfl ?_
  refine run_iload_n 2 dX11_why_2 rfl rfl ?_
  refine run_iload_n 3 dX11_why_3 rfl rfl ?_
  refine run_bipush (v := 40) dX11_why_4 rfl ?_
  obtain ⟨q1, h13, h⟩ := Option.bind_eq_some_iff.mp h
  refine run_callVb (As := [.int x1, .int x2, .int x3, .int 40]) (fun r z => (r, z) = q1) mw_X11_play mi_X11_play ml_X11_166 is_0 (by decide) rfl rfl rfl (RF.lt (HX11_why_X11_play_lt d)) (Nat.le_of_ble_eq_true rfl) dX11_why_6 (sX11_play G d  h13) (fun r z h8 => ?_) rfl
  rw [show r = q1.1 from congrArg Prod.fst h8, show z = q1.2 from congrArg Prod.snd h8]
  clear h8
  refine run_ifb_eq 29 dX11_why_9 (by decide) (fun c2 => ?_) (fun c2 => ?_)
  · rw [if_neg c2] at h
    refine run_bipush (v := -2) dX11_why_29 rfl ?_
    exact run_iret dX11_why_31 ⟨_, rfl, Option.some.inj h⟩
  · rw [if_pos c2] at h
    refine run_iload 4 dX11_why_12 rfl ?_
    refine run_if_lt 29 dX11_why_14 (by decide) (fun c3 => ?_) (fun c3 => ?_)
    · rw [if_pos c3] at h
      refine run_bipush (v := -2) dX11_why_29 rfl ?_
      exact run_iret dX11_why_31 ⟨_, rfl, Option.some.inj h⟩
    · rw [if_neg c3] at h
      refine run_iload 4 dX11_why_17 rfl ?_
      refine run_aload_n 0 dX11_why_19 rfl rfl ?_
      refine run_getr fl_X11_50 is_0 (by decide) rfl ce_0_4 dX11_why_20 ?_
      refine run_geti fl_X11_170 is_146 (by decide) rfl dX11_why_23 ?_
      refine run_icmp_lt 32 dX11_why_26 (by decide) (fun c4 => ?_) (fun c4 => ?_)
      · rw [if_pos c4] at h
        refine run_iload 5 dX11_why_32 rfl ?_
        refine run_if_ne 48 dX11_why_34 (by decide) (fun c5 => ?_) (fun c5 => ?_)
        · rw [if_neg c5] at h
          refine run_iload 5 dX11_why_48 rfl ?_
          refine run_iconst (v := 1) dX11_why_50 rfl ?_
          refine run_icmp_ne 65 dX11_why_51 (by decide) (fun c6 => ?_) (fun c6 => ?_)
          · rw [if_neg c6] at h
            refine run_iload 5 dX11_why_65 rfl ?_
            refine run_iconst (v := 2) dX11_why_67 rfl ?_
            refine run_icmp_ne 82 dX11_why_68 (by decide) (fun c7 => ?_) (fun c7 => ?_)
            · rw [if_neg c7] at h
              refine run_iload 5 dX11_why_82 rfl ?_
              refine run_iconst (v := 3) dX11_why_84 rfl ?_
              refine run_icmp_ne 101 dX11_why_85 (by decide) (fun c8 => ?_) (fun c8 => ?_)
              · rw [if_neg c8] at h
                refine run_bipush (v := -2) dX11_why_101 rfl ?_
                exact run_iret dX11_why_103 ⟨_, rfl, Option.some.inj h⟩
              · rw [if_pos c8] at h
                refine run_aload_n 0 dX11_why_88 rfl rfl ?_
                refine run_getr fl_X11_50 is_0 (by decide) rfl ce_0_4 dX11_why_89 ?_
                refine run_getr fl_X11_194 is_146 (by decide) rfl ce_146_16 dX11_why_92 ?_
                refine run_iload 4 dX11_why_95 rfl ?_
                obtain ⟨g9, h⟩ := gd_s h
                refine run_iald' is_157 ln_157 g9 rfl dX11_why_97 ?_
                refine run_goto 103 dX11_why_98 (by decide) ?_
                exact run_iret dX11_why_103 ⟨_, rfl, Option.some.inj h⟩
            · rw [if_pos c7] at h
              refine run_aload_n 0 dX11_why_71 rfl rfl ?_
              refine run_getr fl_X11_50 is_0 (by decide) rfl ce_0_4 dX11_why_72 ?_
              refine run_getr fl_X11_191 is_146 (by decide) rfl ce_146_15 dX11_why_75 ?_
              refine run_iload 4 dX11_why_78 rfl ?_
              obtain ⟨g10, h⟩ := gd_s h
              refine run_iald' is_156 ln_156 g10 rfl dX11_why_80 ?_
              exact run_iret dX11_why_81 ⟨_, rfl, Option.some.inj h⟩
          · rw [if_pos c6] at h
            refine run_aload_n 0 dX11_why_54 rfl rfl ?_
            refine run_getr fl_X11_50 is_0 (by decide) rfl ce_0_4 dX11_why_55 ?_
            refine run_getr fl_X11_188 is_146 (by decide) rfl ce_146_14 dX11_why_58 ?_
            refine run_iload 4 dX11_why_61 rfl ?_
            obtain ⟨g11, h⟩ := gd_s h
            refine run_iald' is_155 ln_155 g11 rfl dX11_why_63 ?_
            exact run_iret dX11_why_64 ⟨_, rfl, Option.some.inj h⟩
        · rw [if_pos c5] at h
          refine run_aload_n 0 dX11_why_37 rfl rfl ?_
          refine run_getr fl_X11_50 is_0 (by decide) rfl ce_0_4 dX11_why_38 ?_
          refine run_getr fl_X11_185 is_146 (by decide) rfl ce_146_13 dX11_why_41 ?_
          refine run_iload 4 dX11_why_44 rfl ?_
          obtain ⟨g12, h⟩ := gd_s h
          refine run_iald' is_154 ln_154 g12 rfl dX11_why_46 ?_
          exact run_iret dX11_why_47 ⟨_, rfl, Option.some.inj h⟩
      · rw [if_neg c4] at h
        refine run_bipush (v := -2) dX11_why_29 rfl ?_
        exact run_iret dX11_why_31 ⟨_, rfl, Option.some.inj h⟩
def HX11_serial : Nat := 14
theorem HX11_serial_X0_gather_lt (d : Nat) : d + HX0_gather < d + HX11_serial := Nat.add_lt_add_left (by decide) d
theorem HX11_serial_X0_hangs_lt (d : Nat) : d + HX0_hangs < d + HX11_serial := Nat.add_lt_add_left (by decide) d
theorem HX11_serial_X11_inTen_lt (d : Nat) : d + HX11_inTen < d + HX11_serial := Nat.add_lt_add_left (by decide) d
theorem HX11_serial_X11_ofOrders_lt (d : Nat) : d + HX11_ofOrders < d + HX11_serial := Nat.add_lt_add_left (by decide) d
theorem HX11_serial_X11_play_lt (d : Nat) : d + HX11_play < d + HX11_serial := Nat.add_lt_add_left (by decide) d
theorem HX11_serial_0 (d : Nat) : 0 < d + HX11_serial := Nat.lt_of_lt_of_le (by decide) (Nat.le_add_left _ d)
def fX11_serial (x1 : Int32) (x2 : Int32) (x3 : Int32) (x4 : Int32) (σ : Mem) : Option (Int32 × Mem) := (fX11_play x1 x2 x3 40 σ).bind fun q1 => if q1.1 = true then ((fX0_gather q1.2).bind fun q3 => if x4 = 0 then (some ((q3 234 1), q3)) else (if x4 = 1 then ((fX11_ofOrders x4 q3).bind fun q6 => some (q6.1, q6.2)) else ((fX11_inTen x4 50 q3).bind fun q8 => if q8.1 = true then ((fX11_ofOrders x4 q8.2).bind fun q23 => some (q23.1, q23.2)) else (if x4 < 10 then (some ((-1), q8.2)) else (if 40 ≤ x4 then (some ((-1), q8.2)) else (if (x4 % 10) < (q8.2 234 1) then (if 20 ≤ x4 then (if 30 ≤ x4 then ((fX0_hangs (x4 % 10) q8.2).bind fun q15 => some (q15.1, q15.2)) else (gd (inb (x4 % 10) 30) (gd (decide (¬ q8.2 235 (Int32.toNatClampNeg (x4 % 10)) < 0)) (gd (isB (rfN (q8.2 235 (Int32.toNatClampNeg (x4 % 10)))) 2) (some ((q8.2 (rfN (q8.2 235 (Int32.toNatClampNeg (x4 % 10)))) 3), q8.2)))))) else (gd (inb (x4 % 10) 30) (gd (decide (¬ q8.2 235 (Int32.toNatClampNeg (x4 % 10)) < 0)) (gd (isB (rfN (q8.2 235 (Int32.toNatClampNeg (x4 % 10)))) 2) (some ((q8.2 (rfN (q8.2 235 (Int32.toNatClampNeg (x4 % 10)))) 1), q8.2)))))) else (some ((-1), q8.2)))))))) else (some ((-1), q1.2))
set_option maxRecDepth 20000 in
theorem sX11_serial (G : GT) (d : Nat) {x1 : Int32} {x2 : Int32} {x3 : Int32} {x4 : Int32}  {σ : Mem} {o : (Int32 × Mem)} (h : fX11_serial x1 x2 x3 x4 σ = some o) : Spec G yX11_serial cX11_serial 6 (some .int) (d + HX11_serial) [.ref (gA G 0), .int x1, .int x2, .int x3, .int x4] σ (kI fun x z => (x, z) = o) := by
  refine spec_run (by decide) (Nat.le_of_ble_eq_true rfl) ?_
  unfold fX11_serial at h
  show Run G RX11 cX11_serial 6 (some .int) _ 0 [(0, .ref (gA G 0)), (1, .int x1), (2, .int x2), (3, .int x3), (4, .int x4)] [] σ
  refine run_aload_n 0 dX11_serial_0 rfl rfl ?_
  refine run_iload_n 1 dX11_serial_1 rfl rfl ?_
  refine run_iload_n 2 dX11_serial_2 rfl rfl ?_
  refine run_iload_n 3 dX11_serial_3 rfl rfl ?_
  refine run_bipush (v := 40) dX11_serial_4 rfl ?_
  obtain ⟨q1, h27, h⟩ := Option.bind_eq_some_iff.mp h
  refine run_callVb (As := [.int x1, .int x2, .int x3, .int 40]) (fun r z => (r, z) = q1) mw_X11_play mi_X11_play ml_X11_166 is_0 (by decide) rfl rfl rfl (RF.lt (HX11_serial_X11_play_lt d)) (Nat.le_of_ble_eq_true rfl) dX11_serial_6 (sX11_play G d  h27) (fun r z h8 => ?_) rfl
  rw [show r = q1.1 from congrArg Prod.fst h8, show z = q1.2 from congrArg Prod.snd h8]
  clear h8
  refine run_ifb_ne 14 dX11_serial_9 (by decide) (fun c2 => ?_) (fun c2 => ?_)
  · rw [if_pos c2] at h
    refine run_aload_n 0 dX11_serial_14 rfl rfl ?_
    refine run_getr fl_X11_57 is_0 (by decide) rfl ce_0_5 dX11_serial_15 ?_
    refine run_aload_n 0 dX11_serial_18 rfl rfl ?_
    refine run_getr fl_X11_50 is_0 (by decide) rfl ce_0_4 dX11_serial_19 ?_
    obtain ⟨q3, h26, h⟩ := Option.bind_eq_some_iff.mp h
    refine run_callVv (As := [.ref (gA G 146)]) (fun z => z = q3) mw_X0_gather mi_X0_gather ml_X11_197 is_234 (by decide) rfl rfl rfl (RF.lt (HX11_serial_X0_gather_lt d)) (Nat.le_of_ble_eq_true rfl) dX11_serial_22 (sX0_gather G d  h26) (fun z h8 => ?_) rfl
    rw [h8]
    clear h8
    refine run_iload 4 dX11_serial_25 rfl ?_
    refine run_if_ne 38 dX11_serial_27 (by decide) (fun c4 => ?_) (fun c4 => ?_)
    · rw [if_neg c4] at h
      refine run_iload 4 dX11_serial_38 rfl ?_
      refine run_iconst (v := 1) dX11_serial_40 rfl ?_
      refine run_icmp_eq 54 dX11_serial_41 (by decide) (fun c5 => ?_) (fun c5 => ?_)
      · rw [if_pos c5] at h
        refine run_aload_n 0 dX11_serial_54 rfl rfl ?_
        refine run_iload 4 dX11_serial_55 rfl ?_
        obtain ⟨q6, h7, h⟩ := Option.bind_eq_some_iff.mp h
        refine run_callVi (As := [.int x4]) (fun r z => (r, z) = q6) mw_X11_ofOrders mi_X11_ofOrders ml_X11_202 is_0 (by decide) rfl rfl rfl (RF.lt (HX11_serial_X11_ofOrders_lt d)) (Nat.le_of_ble_eq_true rfl) dX11_serial_57 (sX11_ofOrders G d  h7) (fun r z h8 => ?_) rfl
        rw [show r = q6.1 from congrArg Prod.fst h8, show z = q6.2 from congrArg Prod.snd h8]
        clear h8
        exact run_iret dX11_serial_60 ⟨_, rfl, Option.some.inj h⟩
      · rw [if_neg c5] at h
        refine run_iload 4 dX11_serial_44 rfl ?_
        refine run_bipush (v := 50) dX11_serial_46 rfl ?_
        obtain ⟨q8, h25, h⟩ := Option.bind_eq_some_iff.mp h
        refine run_callSb (As := [.int x4, .int 50]) (fun r z => (r, z) = q8) mw_X11_inTen ms_X11_inTen ml_X11_128 rfl (RF.lt (HX11_serial_X11_inTen_lt d)) (Nat.le_of_ble_eq_true rfl) dX11_serial_48 (sX11_inTen G d  h25) (fun r z h8 => ?_) rfl
        rw [show r = q8.1 from congrArg Prod.fst h8, show z = q8.2 from congrArg Prod.snd h8]
        clear h8
        refine run_ifb_eq 61 dX11_serial_51 (by decide) (fun c9 => ?_) (fun c9 => ?_)
        · rw [if_neg c9] at h
          refine run_iload 4 dX11_serial_61 rfl ?_
          refine run_bipush (v := 10) dX11_serial_63 rfl ?_
          refine run_icmp_lt 90 dX11_serial_65 (by decide) (fun c10 => ?_) (fun c10 => ?_)
          · rw [if_pos c10] at h
            refine run_iconst (v := -1) dX11_serial_90 rfl ?_
            exact run_iret dX11_serial_91 ⟨_, rfl, Option.some.inj h⟩
          · rw [if_neg c10] at h
            refine run_iload 4 dX11_serial_68 rfl ?_
            refine run_bipush (v := 40) dX11_serial_70 rfl ?_
            refine run_icmp_ge 90 dX11_serial_72 (by decide) (fun c11 => ?_) (fun c11 => ?_)
            · rw [if_pos c11] at h
              refine run_iconst (v := -1) dX11_serial_90 rfl ?_
              exact run_iret dX11_serial_91 ⟨_, rfl, Option.some.inj h⟩
            · rw [if_neg c11] at h
              refine run_iload 4 dX11_serial_75 rfl ?_
              refine run_bipush (v := 10) dX11_serial_77 rfl ?_
              refine run_irem dX11_serial_79 (by decide) ?_
              refine run_aload_n 0 dX11_serial_80 rfl rfl ?_
              refine run_getr fl_X11_57 is_0 (by decide) rfl ce_0_5 dX11_serial_81 ?_
              refine run_geti fl_X11_201 is_234 (by decide) rfl dX11_serial_84 ?_
              refine run_icmp_lt 92 dX11_serial_87 (by decide) (fun c12 => ?_) (fun c12 => ?_)
              · rw [if_pos c12] at h
                refine run_iload 4 dX11_serial_92 rfl ?_
                refine run_bipush (v := 10) dX11_serial_94 rfl ?_
                refine run_irem dX11_serial_96 (by decide) ?_
                refine run_istore [(0, .ref (gA G 0)), (4, .int x4), (5, .int (x4 % 10))] [1, 5, 0] dX11_serial_97 (by decide) rfl ?_
                refine run_iload 1 dX11_serial_99 rfl ?_
                refine run_bipush (v := 20) dX11_serial_101 rfl ?_
                refine run_icmp_ge 120 dX11_serial_103 (by decide) (fun c13 => ?_) (fun c13 => ?_)
                · rw [if_pos c13] at h
                  refine run_iload 1 dX11_serial_120 rfl ?_
                  refine run_bipush (v := 30) dX11_serial_122 rfl ?_
                  refine run_icmp_ge 143 dX11_serial_124 (by decide) (fun c14 => ?_) (fun c14 => ?_)
                  · rw [if_pos c14] at h
                    refine run_aload_n 0 dX11_serial_143 rfl rfl ?_
                    refine run_getr fl_X11_57 is_0 (by decide) rfl ce_0_5 dX11_serial_144 ?_
                    refine run_iload 2 dX11_serial_147 rfl ?_
                    obtain ⟨q15, h16, h⟩ := Option.bind_eq_some_iff.mp h
                    refine run_callVi (As := [.int (x4 % 10)]) (fun r z => (r, z) = q15) mw_X0_hangs mi_X0_hangs ml_X11_216 is_234 (by decide) rfl rfl rfl (RF.lt (HX11_serial_X0_hangs_lt d)) (Nat.le_of_ble_eq_true rfl) dX11_serial_149 (sX0_hangs G d  h16) (fun r z h8 => ?_) rfl
                    rw [show r = q15.1 from congrArg Prod.fst h8, show z = q15.2 from congrArg Prod.snd h8]
                    clear h8
                    exact run_iret dX11_serial_152 ⟨_, rfl, Option.some.inj h⟩
                  · rw [if_neg c14] at h
                    refine run_aload_n 0 dX11_serial_127 rfl rfl ?_
                    refine run_getr fl_X11_57 is_0 (by decide) rfl ce_0_5 dX11_serial_128 ?_
                    refine run_getr fl_X11_205 is_234 (by decide) rfl ce_234_0 dX11_serial_131 ?_
                    refine run_iload 2 dX11_serial_134 rfl ?_
                    obtain ⟨g17, h⟩ := gd_s h
                    obtain ⟨g18, h⟩ := gd_s h
                    obtain ⟨g19, h⟩ := gd_s h
                    refine run_kald' is_235 ln_235 g17 rfl (of_decide_eq_true g18) dX11_serial_136 ?_
                    refine run_geti fl_X11_213 (isB_Is g19) (by decide) rfl dX11_serial_137 ?_
                    refine run_goto 152 dX11_serial_140 (by decide) ?_
                    exact run_iret dX11_serial_152 ⟨_, rfl, Option.some.inj h⟩
                · rw [if_neg c13] at h
                  refine run_aload_n 0 dX11_serial_106 rfl rfl ?_
                  refine run_getr fl_X11_57 is_0 (by decide) rfl ce_0_5 dX11_serial_107 ?_
                  refine run_getr fl_X11_205 is_234 (by decide) rfl ce_234_0 dX11_serial_110 ?_
                  refine run_iload 2 dX11_serial_113 rfl ?_
                  obtain ⟨g20, h⟩ := gd_s h
                  obtain ⟨g21, h⟩ := gd_s h
                  obtain ⟨g22, h⟩ := gd_s h
                  refine run_kald' is_235 ln_235 g20 rfl (of_decide_eq_true g21) dX11_serial_115 ?_
                  refine run_geti fl_X11_209 (isB_Is g22) (by decide) rfl dX11_serial_116 ?_
                  exact run_iret dX11_serial_119 ⟨_, rfl, Option.some.inj h⟩
              · rw [if_neg c12] at h
                refine run_iconst (v := -1) dX11_serial_90 rfl ?_
                exact run_iret dX11_serial_91 ⟨_, rfl, Option.some.inj h⟩
        · rw [if_pos c9] at h
          refine run_aload_n 0 dX11_serial_54 rfl rfl ?_
          refine run_iload 4 dX11_serial_55 rfl ?_
          obtain ⟨q23, h24, h⟩ := Option.bind_eq_some_iff.mp h
          refine run_callVi (As := [.int x4]) (fun r z => (r, z) = q23) mw_X11_ofOrders mi_X11_ofOrders ml_X11_202 is_0 (by decide) rfl rfl rfl (RF.lt (HX11_serial_X11_ofOrders_lt d)) (Nat.le_of_ble_eq_true rfl) dX11_serial_57 (sX11_ofOrders G d  h24) (fun r z h8 => ?_) rfl
          rw [show r = q23.1 from congrArg Prod.fst h8, show z = q23.2 from congrArg Prod.snd h8]
          clear h8
          exact run_iret dX11_serial_60 ⟨_, rfl, Option.some.inj h⟩
    · rw [if_pos c4] at h
      refine run_aload_n 0 dX11_serial_30 rfl rfl ?_
      refine run_getr fl_X11_57 is_0 (by decide) rfl ce_0_5 dX11_serial_31 ?_
      refine run_geti fl_X11_201 is_234 (by decide) rfl dX11_serial_34 ?_
      exact run_iret dX11_serial_37 ⟨_, rfl, Option.some.inj h⟩
  · rw [if_neg c2] at h
    refine run_iconst (v := -1) dX11_serial_12 rfl ?_
    exact run_iret dX11_serial_13 ⟨_, rfl, Option.some.inj h⟩
def HX11_fits : Nat := 7
theorem HX11_fits_X11_play_lt (d : Nat) : d + HX11_play < d + HX11_fits := Nat.add_lt_add_left (by decide) d
theorem HX11_fits_X6_bestQuestion_lt (d : Nat) : d + HX6_bestQuestion < d + HX11_fits := Nat.add_lt_add_left (by decide) d
theorem HX11_fits_X6_fewest_lt (d : Nat) : d + HX6_fewest < d + HX11_fits := Nat.add_lt_add_left (by decide) d
theorem HX11_fits_X6_gather_lt (d : Nat) : d + HX6_gather < d + HX11_fits := Nat.add_lt_add_left (by decide) d
theorem HX11_fits_X6_sure_lt (d : Nat) : d + HX6_sure < d + HX11_fits := Nat.add_lt_add_left (by decide) d
theorem HX11_fits_X9_has_lt (d : Nat) : d + HX9_has < d + HX11_fits := Nat.add_lt_add_left (by decide) d
theorem HX11_fits_0 (d : Nat) : 0 < d + HX11_fits := Nat.lt_of_lt_of_le (by decide) (Nat.le_add_left _ d)
def jX11_fits_133 (x5 : Int32) (σ : Mem) : Option (Int32 × Mem) := if x5 < 10 then (some ((-2), σ)) else (if (σ 246 3) ≤ (x5 - 10) then (some ((-2), σ)) else (gd (inb (x5 - 10) 16) (some ((σ 247 (Int32.toNatClampNeg (x5 - 10))), σ))))
set_option maxRecDepth 20000 in
theorem jnX11_fits_133 (G : GT) (d : Nat) (x5 : Int32)  (σ : Mem) (o : (Int32 × Mem)) (h : jX11_fits_133 x5 σ = some o) : Run G RX11 cX11_fits 6 (some .int) (mF G (d + HX11_fits) (kI fun x z => (x, z) = o)) 133 [(0, .ref (gA G 0)), (5, .int x5)] [] σ := by
  unfold jX11_fits_133 at h
  refine run_iload 1 dX11_fits_133 rfl ?_
  refine run_bipush (v := 10) dX11_fits_135 rfl ?_
  refine run_icmp_lt 171 dX11_fits_137 (by decide) (fun c11 => ?_) (fun c11 => ?_)
  · rw [if_pos c11] at h
    refine run_bipush (v := -2) dX11_fits_171 rfl ?_
    exact run_iret dX11_fits_173 ⟨_, rfl, Option.some.inj h⟩
  · rw [if_neg c11] at h
    refine run_iload 1 dX11_fits_140 rfl ?_
    refine run_bipush (v := 10) dX11_fits_142 rfl ?_
    refine run_isub dX11_fits_144 ?_
    refine run_aload_n 0 dX11_fits_145 rfl rfl ?_
    refine run_getr fl_X11_64 is_0 (by decide) rfl ce_0_6 dX11_fits_146 ?_
    refine run_geti fl_X11_231 is_246 (by decide) rfl dX11_fits_149 ?_
    refine run_icmp_ge 171 dX11_fits_152 (by decide) (fun c12 => ?_) (fun c12 => ?_)
    · rw [if_pos c12] at h
      refine run_bipush (v := -2) dX11_fits_171 rfl ?_
      exact run_iret dX11_fits_173 ⟨_, rfl, Option.some.inj h⟩
    · rw [if_neg c12] at h
      refine run_aload_n 0 dX11_fits_155 rfl rfl ?_
      refine run_getr fl_X11_64 is_0 (by decide) rfl ce_0_6 dX11_fits_156 ?_
      refine run_getr fl_X11_242 is_246 (by decide) rfl ce_246_0 dX11_fits_159 ?_
      refine run_iload 1 dX11_fits_162 rfl ?_
      refine run_bipush (v := 10) dX11_fits_164 rfl ?_
      refine run_isub dX11_fits_166 ?_
      obtain ⟨g13, h⟩ := gd_s h
      refine run_iald' is_247 ln_247 g13 rfl dX11_fits_167 ?_
      refine run_goto 173 dX11_fits_168 (by decide) ?_
      exact run_iret dX11_fits_173 ⟨_, rfl, Option.some.inj h⟩
def fX11_fits (x1 : Int32) (x2 : Int32) (x3 : Int32) (x4 : Int32) (x5 : Int32) (σ : Mem) : Option (Int32 × Mem) := (fX9_has 1 3 x4 σ).bind fun q1 => if q1.1 = true then ((fX11_play x1 x2 x3 40 q1.2).bind fun q3 => if q3.1 = true then (gd (inb x4 2) ((fX6_gather (19 + 14 * (Int32.toNatClampNeg x4)) q3.2).bind fun q6 => if x5 = 0 then (some ((q6 246 3), q6)) else (if x5 = 1 then ((fX6_bestQuestion q6).bind fun q20 => some (q20.1, q20.2)) else (if x5 = 2 then ((fX6_fewest q6).bind fun q18 => some (q18.1, q18.2)) else (if x5 < 3 then (jX11_fits_133 x5 q6) else (if 7 ≤ x5 then (jX11_fits_133 x5 q6) else (if (q6 146 2) ≤ (x5 - 3) then (some ((-1), q6)) else ((fX6_sure (x5 - 3) q6).bind fun q16 => some (q16.1, q16.2))))))))) else (some ((-2), q3.2))) else (some ((-2), q1.2))
set_option maxRecDepth 20000 in
theorem sX11_fits (G : GT) (d : Nat) {x1 : Int32} {x2 : Int32} {x3 : Int32} {x4 : Int32} {x5 : Int32}  {σ : Mem} {o : (Int32 × Mem)} (h : fX11_fits x1 x2 x3 x4 x5 σ = some o) : Spec G yX11_fits cX11_fits 6 (some .int) (d + HX11_fits) [.ref (gA G 0), .int x1, .int x2, .int x3, .int x4, .int x5] σ (kI fun x z => (x, z) = o) := by
  refine spec_run (by decide) (Nat.le_of_ble_eq_true rfl) ?_
  unfold fX11_fits at h
  show Run G RX11 cX11_fits 6 (some .int) _ 0 [(0, .ref (gA G 0)), (1, .int x1), (2, .int x2), (3, .int x3), (4, .int x4), (5, .int x5)] [] σ
  refine run_aload_n 0 dX11_fits_0 rfl rfl ?_
  refine run_getr fl_X11_10 is_0 (by decide) rfl ce_0_0 dX11_fits_1 ?_
  refine run_iconst (v := 3) dX11_fits_4 rfl ?_
  refine run_iload 4 dX11_fits_5 rfl ?_
  obtain ⟨q1, h24, h⟩ := Option.bind_eq_some_iff.mp h
  refine run_callVb (As := [.int 3, .int x4]) (fun r z => (r, z) = q1) mw_X9_has mi_X9_has ml_X11_109 is_1 (by decide) rfl rfl rfl (RF.lt (HX11_fits_X9_has_lt d)) (Nat.le_of_ble_eq_true rfl) dX11_fits_7 (sX9_has G d is_1 h24) (fun r z h8 => ?_) rfl
  rw [show r = q1.1 from congrArg Prod.fst h8, show z = q1.2 from congrArg Prod.snd h8]
  clear h8
  refine run_ifb_eq 25 dX11_fits_10 (by decide) (fun c2 => ?_) (fun c2 => ?_)
  · rw [if_neg c2] at h
    refine run_bipush (v := -2) dX11_fits_25 rfl ?_
    exact run_iret dX11_fits_27 ⟨_, rfl, Option.some.inj h⟩
  · rw [if_pos c2] at h
    refine run_aload_n 0 dX11_fits_13 rfl rfl ?_
    refine run_iload_n 1 dX11_fits_14 rfl rfl ?_
    refine run_iload_n 2 dX11_fits_15 rfl rfl ?_
    refine run_iload_n 3 dX11_fits_16 rfl rfl ?_
    refine run_bipush (v := 40) dX11_fits_17 rfl ?_
    obtain ⟨q3, h23, h⟩ := Option.bind_eq_some_iff.mp h
    refine run_callVb (As := [.int x1, .int x2, .int x3, .int 40]) (fun r z => (r, z) = q3) mw_X11_play mi_X11_play ml_X11_166 is_0 (by decide) rfl rfl rfl (RF.lt (HX11_fits_X11_play_lt d)) (Nat.le_of_ble_eq_true rfl) dX11_fits_19 (sX11_play G d  h23) (fun r z h8 => ?_) rfl
    rw [show r = q3.1 from congrArg Prod.fst h8, show z = q3.2 from congrArg Prod.snd h8]
    clear h8
    refine run_ifb_ne 28 dX11_fits_22 (by decide) (fun c4 => ?_) (fun c4 => ?_)
    · rw [if_pos c4] at h
      refine run_aload_n 0 dX11_fits_28 rfl rfl ?_
      refine run_getr fl_X11_64 is_0 (by decide) rfl ce_0_6 dX11_fits_29 ?_
      refine run_aload_n 0 dX11_fits_32 rfl rfl ?_
      refine run_getr fl_X11_50 is_0 (by decide) rfl ce_0_4 dX11_fits_33 ?_
      refine run_aload_n 0 dX11_fits_36 rfl rfl ?_
      refine run_getr fl_X11_10 is_0 (by decide) rfl ce_0_0 dX11_fits_37 ?_
      refine run_getr fl_X11_219 is_1 (by decide) rfl ce_1_8 dX11_fits_40 ?_
      refine run_iload 4 dX11_fits_43 rfl ?_
      obtain ⟨g5, h⟩ := gd_s h
      refine run_aald' (j := (Int32.toNatClampNeg x4)) is_7 (by decide) (by decide) (t0 := 3) rfl ln_7 g5 rfl (es_7 _) dX11_fits_45 ?_
      obtain ⟨q6, h22, h⟩ := Option.bind_eq_some_iff.mp h
      refine run_callVv (As := [.ref (gA G 146), .ref (gA G (19 + 14 * (Int32.toNatClampNeg x4)))]) (fun z => z = q6) mw_X6_gather mi_X6_gather ml_X11_228 is_246 (by decide) rfl rfl rfl (RF.lt (HX11_fits_X6_gather_lt d)) (Nat.le_of_ble_eq_true rfl) dX11_fits_46 (sX6_gather G d (el_7 (inb_lt g5)) h22) (fun z h8 => ?_) rfl
      rw [h8]
      clear h8
      refine run_iload 5 dX11_fits_49 rfl ?_
      refine run_if_ne 62 dX11_fits_51 (by decide) (fun c7 => ?_) (fun c7 => ?_)
      · rw [if_neg c7] at h
        refine run_iload 5 dX11_fits_62 rfl ?_
        refine run_iconst (v := 1) dX11_fits_64 rfl ?_
        refine run_icmp_ne 76 dX11_fits_65 (by decide) (fun c8 => ?_) (fun c8 => ?_)
        · rw [if_neg c8] at h
          refine run_iload 5 dX11_fits_76 rfl ?_
          refine run_iconst (v := 2) dX11_fits_78 rfl ?_
          refine run_icmp_ne 90 dX11_fits_79 (by decide) (fun c9 => ?_) (fun c9 => ?_)
          · rw [if_neg c9] at h
            refine run_iload 5 dX11_fits_90 rfl ?_
            refine run_iconst (v := 3) dX11_fits_92 rfl ?_
            refine run_icmp_lt 133 dX11_fits_93 (by decide) (fun c10 => ?_) (fun c10 => ?_)
            · rw [if_pos c10] at h
              refine run_forget [0, 5] rfl ?_
              exact jnX11_fits_133 G d _ _ _ h
            · rw [if_neg c10] at h
              refine run_iload 5 dX11_fits_96 rfl ?_
              refine run_bipush (v := 7) dX11_fits_98 rfl ?_
              refine run_icmp_ge 133 dX11_fits_100 (by decide) (fun c14 => ?_) (fun c14 => ?_)
              · rw [if_pos c14] at h
                refine run_forget [0, 5] rfl ?_
                exact jnX11_fits_133 G d _ _ _ h
              · rw [if_neg c14] at h
                refine run_iload 5 dX11_fits_103 rfl ?_
                refine run_iconst (v := 3) dX11_fits_105 rfl ?_
                refine run_isub dX11_fits_106 ?_
                refine run_aload_n 0 dX11_fits_107 rfl rfl ?_
                refine run_getr fl_X11_50 is_0 (by decide) rfl ce_0_4 dX11_fits_108 ?_
                refine run_geti fl_X11_238 is_146 (by decide) rfl dX11_fits_111 ?_
                refine run_icmp_ge 131 dX11_fits_114 (by decide) (fun c15 => ?_) (fun c15 => ?_)
                · rw [if_pos c15] at h
                  refine run_iconst (v := -1) dX11_fits_131 rfl ?_
                  exact run_iret dX11_fits_132 ⟨_, rfl, Option.some.inj h⟩
                · rw [if_neg c15] at h
                  refine run_aload_n 0 dX11_fits_117 rfl rfl ?_
                  refine run_getr fl_X11_64 is_0 (by decide) rfl ce_0_6 dX11_fits_118 ?_
                  refine run_iload 5 dX11_fits_121 rfl ?_
                  refine run_iconst (v := 3) dX11_fits_123 rfl ?_
                  refine run_isub dX11_fits_124 ?_
                  obtain ⟨q16, h17, h⟩ := Option.bind_eq_some_iff.mp h
                  refine run_callVi (As := [.int (x5 - 3)]) (fun r z => (r, z) = q16) mw_X6_sure mi_X6_sure ml_X11_239 is_246 (by decide) rfl rfl rfl (RF.lt (HX11_fits_X6_sure_lt d)) (Nat.le_of_ble_eq_true rfl) dX11_fits_125 (sX6_sure G d  h17) (fun r z h8 => ?_) rfl
                  rw [show r = q16.1 from congrArg Prod.fst h8, show z = q16.2 from congrArg Prod.snd h8]
                  clear h8
                  refine run_goto 132 dX11_fits_128 (by decide) ?_
                  exact run_iret dX11_fits_132 ⟨_, rfl, Option.some.inj h⟩
          · rw [if_pos c9] at h
            refine run_aload_n 0 dX11_fits_82 rfl rfl ?_
            refine run_getr fl_X11_64 is_0 (by decide) rfl ce_0_6 dX11_fits_83 ?_
            obtain ⟨q18, h19, h⟩ := Option.bind_eq_some_iff.mp h
            refine run_callVi (As := []) (fun r z => (r, z) = q18) mw_X6_fewest mi_X6_fewest ml_X11_235 is_246 (by decide) rfl rfl rfl (RF.lt (HX11_fits_X6_fewest_lt d)) (Nat.le_of_ble_eq_true rfl) dX11_fits_86 (sX6_fewest G d  h19) (fun r z h8 => ?_) rfl
            rw [show r = q18.1 from congrArg Prod.fst h8, show z = q18.2 from congrArg Prod.snd h8]
            clear h8
            exact run_iret dX11_fits_89 ⟨_, rfl, Option.some.inj h⟩
        · rw [if_pos c8] at h
          refine run_aload_n 0 dX11_fits_68 rfl rfl ?_
          refine run_getr fl_X11_64 is_0 (by decide) rfl ce_0_6 dX11_fits_69 ?_
          obtain ⟨q20, h21, h⟩ := Option.bind_eq_some_iff.mp h
          refine run_callVi (As := []) (fun r z => (r, z) = q20) mw_X6_bestQuestion mi_X6_bestQuestion ml_X11_232 is_246 (by decide) rfl rfl rfl (RF.lt (HX11_fits_X6_bestQuestion_lt d)) (Nat.le_of_ble_eq_true rfl) dX11_fits_72 (sX6_bestQuestion G d  h21) (fun r z h8 => ?_) rfl
          rw [show r = q20.1 from congrArg Prod.fst h8, show z = q20.2 from congrArg Prod.snd h8]
          clear h8
          exact run_iret dX11_fits_75 ⟨_, rfl, Option.some.inj h⟩
      · rw [if_pos c7] at h
        refine run_aload_n 0 dX11_fits_54 rfl rfl ?_
        refine run_getr fl_X11_64 is_0 (by decide) rfl ce_0_6 dX11_fits_55 ?_
        refine run_geti fl_X11_231 is_246 (by decide) rfl dX11_fits_58 ?_
        exact run_iret dX11_fits_61 ⟨_, rfl, Option.some.inj h⟩
    · rw [if_neg c4] at h
      refine run_bipush (v := -2) dX11_fits_25 rfl ?_
      exact run_iret dX11_fits_27 ⟨_, rfl, Option.some.inj h⟩
def HX11_drawn : Nat := 7
theorem HX11_drawn_X11_performDrawn_lt (d : Nat) : d + HX11_performDrawn < d + HX11_drawn := Nat.add_lt_add_left (by decide) d
theorem HX11_drawn_X3_start_lt (d : Nat) : d + HX3_start < d + HX11_drawn := Nat.add_lt_add_left (by decide) d
theorem HX11_drawn_X3_view_lt (d : Nat) : d + HX3_view < d + HX11_drawn := Nat.add_lt_add_left (by decide) d
theorem HX11_drawn_X9_has_lt (d : Nat) : d + HX9_has < d + HX11_drawn := Nat.add_lt_add_left (by decide) d
theorem HX11_drawn_0 (d : Nat) : 0 < d + HX11_drawn := Nat.lt_of_lt_of_le (by decide) (Nat.le_add_left _ d)
def lX11_drawn_72 (x2 : Int32) (x4 : Int32) (x5 : Int32) : Nat → Int32 → Mem → Option (Mem)
  | 0, _, _ => none
  | n + 1, x6, σ => if x4 ≤ x6 then (some σ) else (gd (inb x2 2) ((fX11_performDrawn (σ (10 + 14 * (Int32.toNatClampNeg x2)) 0) σ).bind fun q15 => lX11_drawn_72 x2 x4 x5 n (x6 + 1) q15))
set_option maxRecDepth 20000 in
theorem lpX11_drawn_72 (G : GT) (d : Nat) (x2 : Int32) (x4 : Int32) (x5 : Int32)  {K : Option Value → Mem → Prop} : ∀ (n : Nat) (x6 : Int32) (σ : Mem) (o : Mem), lX11_drawn_72 x2 x4 x5 n x6 σ = some o → (Run G RX11 cX11_drawn 7 (some .int) (mF G (d + HX11_drawn) K) 101 [(0, .ref (gA G 0)), (5, .int x5)] [] o) → Run G RX11 cX11_drawn 7 (some .int) (mF G (d + HX11_drawn) K) 72 [(0, .ref (gA G 0)), (2, .int x2), (4, .int x4), (5, .int x5), (6, .int x6)] [] σ := by
  intro n
  induction n with
  | zero => intro x6 σ o h; exact absurd h (by simp [lX11_drawn_72])
  | succ n ih =>
    intro x6 σ o h kx
    rw [lX11_drawn_72] at h
    refine run_iload 4 dX11_drawn_72 rfl ?_
    refine run_iload 2 dX11_drawn_74 rfl ?_
    refine run_icmp_ge 101 dX11_drawn_76 (by decide) (fun c13 => ?_) (fun c13 => ?_)
    · rw [if_pos c13] at h
      rw [← Option.some.inj h] at kx
      refine run_forget [0, 3] rfl ?_
      exact kx
    · rw [if_neg c13] at h
      refine run_aload_n 0 dX11_drawn_79 rfl rfl ?_
      refine run_aload_n 0 dX11_drawn_80 rfl rfl ?_
      refine run_getr fl_X11_10 is_0 (by decide) rfl ce_0_0 dX11_drawn_81 ?_
      refine run_getr fl_X11_43 is_1 (by decide) rfl ce_1_6 dX11_drawn_84 ?_
      refine run_iload_n 1 dX11_drawn_87 rfl rfl ?_
      obtain ⟨g14, h⟩ := gd_s h
      refine run_aald' (j := (Int32.toNatClampNeg x2)) is_5 (by decide) (by decide) (t0 := 7) rfl ln_5 g14 rfl (es_5 _) dX11_drawn_88 ?_
      refine run_geti fl_X11_131 (el_5 (inb_lt g14)) (by decide) rfl dX11_drawn_89 ?_
      obtain ⟨q15, h16, h⟩ := Option.bind_eq_some_iff.mp h
      refine run_callVv (As := [.int (σ (10 + 14 * (Int32.toNatClampNeg x2)) 0)]) (fun z => z = q15) mw_X11_performDrawn mi_X11_performDrawn ml_X11_251 is_0 (by decide) rfl rfl rfl (RF.lt (HX11_drawn_X11_performDrawn_lt d)) (Nat.le_of_ble_eq_true rfl) dX11_drawn_92 (sX11_performDrawn G d  h16) (fun z h8 => ?_) rfl
      rw [h8]
      clear h8
      refine run_iinc 4 [(0, .ref (gA G 0)), (2, .int x2), (4, .int x4), (5, .int x5), (6, .int (x6 + 1))] [1, 2, 3, 4, 0] dX11_drawn_95 rfl rfl (by decide) rfl ?_
      refine run_goto 72 dX11_drawn_98 (by decide) ?_
      exact ih _ _ _ h kx
def fX11_drawn (x1 : Int32) (x2 : Int32) (x3 : Int32) (x4 : Int32) (x5 : Int32) (σ : Mem) : Option (Int32 × Mem) := (fX9_has 1 0 x1 σ).bind fun q1 => if q1.1 = true then ((fX9_has 1 1 x2 q1.2).bind fun q3 => if q3.1 = true then (if x4 < 0 then (some ((-2), q3.2)) else (if x4 ≤ 60 then (gd (inb x1 2) (gd (inb x2 2) ((fX3_start (8 + 14 * (Int32.toNatClampNeg x1)) (10 + 14 * (Int32.toNatClampNeg x2)) q3.2).bind fun q9 => (lX11_drawn_72 x2 x4 x5 FU 0 (st2 q9 0 10 x3)).bind fun q17 => (fX3_view x5 q17).bind fun q18 => some (q18.1, q18.2)))) else (some ((-2), q3.2)))) else (some ((-2), q3.2))) else (some ((-2), q1.2))
set_option maxRecDepth 20000 in
theorem sX11_drawn (G : GT) (d : Nat) {x1 : Int32} {x2 : Int32} {x3 : Int32} {x4 : Int32} {x5 : Int32}  {σ : Mem} {o : (Int32 × Mem)} (h : fX11_drawn x1 x2 x3 x4 x5 σ = some o) : Spec G yX11_drawn cX11_drawn 7 (some .int) (d + HX11_drawn) [.ref (gA G 0), .int x1, .int x2, .int x3, .int x4, .int x5] σ (kI fun x z => (x, z) = o) := by
  refine spec_run (by decide) (Nat.le_of_ble_eq_true rfl) ?_
  unfold fX11_drawn at h
  show Run G RX11 cX11_drawn 7 (some .int) _ 0 [(0, .ref (gA G 0)), (1, .int x1), (2, .int x2), (3, .int x3), (4, .int x4), (5, .int x5)] [] σ
  refine run_aload_n 0 dX11_drawn_0 rfl rfl ?_
  refine run_getr fl_X11_10 is_0 (by decide) rfl ce_0_0 dX11_drawn_1 ?_
  refine run_iconst (v := 0) dX11_drawn_4 rfl ?_
  refine run_iload_n 1 dX11_drawn_5 rfl rfl ?_
  obtain ⟨q1, h23, h⟩ := Option.bind_eq_some_iff.mp h
  refine run_callVb (As := [.int 0, .int x1]) (fun r z => (r, z) = q1) mw_X9_has mi_X9_has ml_X11_109 is_1 (by decide) rfl rfl rfl (RF.lt (HX11_drawn_X9_has_lt d)) (Nat.le_of_ble_eq_true rfl) dX11_drawn_6 (sX9_has G d is_1 h23) (fun r z h8 => ?_) rfl
  rw [show r = q1.1 from congrArg Prod.fst h8, show z = q1.2 from congrArg Prod.snd h8]
  clear h8
  refine run_ifb_eq 36 dX11_drawn_9 (by decide) (fun c2 => ?_) (fun c2 => ?_)
  · rw [if_neg c2] at h
    refine run_bipush (v := -2) dX11_drawn_36 rfl ?_
    exact run_iret dX11_drawn_38 ⟨_, rfl, Option.some.inj h⟩
  · rw [if_pos c2] at h
    refine run_aload_n 0 dX11_drawn_12 rfl rfl ?_
    refine run_getr fl_X11_10 is_0 (by decide) rfl ce_0_0 dX11_drawn_13 ?_
    refine run_iconst (v := 1) dX11_drawn_16 rfl ?_
    refine run_iload_n 2 dX11_drawn_17 rfl rfl ?_
    obtain ⟨q3, h22, h⟩ := Option.bind_eq_some_iff.mp h
    refine run_callVb (As := [.int 1, .int x2]) (fun r z => (r, z) = q3) mw_X9_has mi_X9_has ml_X11_109 is_1 (by decide) rfl rfl rfl (RF.lt (HX11_drawn_X9_has_lt d)) (Nat.le_of_ble_eq_true rfl) dX11_drawn_18 (sX9_has G d is_1 h22) (fun r z h8 => ?_) rfl
    rw [show r = q3.1 from congrArg Prod.fst h8, show z = q3.2 from congrArg Prod.snd h8]
    clear h8
    refine run_ifb_eq 36 dX11_drawn_21 (by decide) (fun c4 => ?_) (fun c4 => ?_)
    · rw [if_neg c4] at h
      refine run_bipush (v := -2) dX11_drawn_36 rfl ?_
      exact run_iret dX11_drawn_38 ⟨_, rfl, Option.some.inj h⟩
    · rw [if_pos c4] at h
      refine run_iload 4 dX11_drawn_24 rfl ?_
      refine run_if_lt 36 dX11_drawn_26 (by decide) (fun c5 => ?_) (fun c5 => ?_)
      · rw [if_pos c5] at h
        refine run_bipush (v := -2) dX11_drawn_36 rfl ?_
        exact run_iret dX11_drawn_38 ⟨_, rfl, Option.some.inj h⟩
      · rw [if_neg c5] at h
        refine run_iload 4 dX11_drawn_29 rfl ?_
        refine run_bipush (v := 60) dX11_drawn_31 rfl ?_
        refine run_icmp_le 39 dX11_drawn_33 (by decide) (fun c6 => ?_) (fun c6 => ?_)
        · rw [if_pos c6] at h
          refine run_aload_n 0 dX11_drawn_39 rfl rfl ?_
          refine run_getr fl_X11_50 is_0 (by decide) rfl ce_0_4 dX11_drawn_40 ?_
          refine run_aload_n 0 dX11_drawn_43 rfl rfl ?_
          refine run_getr fl_X11_10 is_0 (by decide) rfl ce_0_0 dX11_drawn_44 ?_
          refine run_getr fl_X11_39 is_1 (by decide) rfl ce_1_5 dX11_drawn_47 ?_
          refine run_iload_n 1 dX11_drawn_50 rfl rfl ?_
          obtain ⟨g7, h⟩ := gd_s h
          refine run_aald' (j := (Int32.toNatClampNeg x1)) is_4 (by decide) (by decide) (t0 := 6) rfl ln_4 g7 rfl (es_4 _) dX11_drawn_51 ?_
          refine run_aload_n 0 dX11_drawn_52 rfl rfl ?_
          refine run_getr fl_X11_10 is_0 (by decide) rfl ce_0_0 dX11_drawn_53 ?_
          refine run_getr fl_X11_43 is_1 (by decide) rfl ce_1_6 dX11_drawn_56 ?_
          refine run_iload_n 2 dX11_drawn_59 rfl rfl ?_
          obtain ⟨g8, h⟩ := gd_s h
          refine run_aald' (j := (Int32.toNatClampNeg x2)) is_5 (by decide) (by decide) (t0 := 7) rfl ln_5 g8 rfl (es_5 _) dX11_drawn_60 ?_
          obtain ⟨q9, h21, h⟩ := Option.bind_eq_some_iff.mp h
          refine run_callVv (As := [.ref (gA G (8 + 14 * (Int32.toNatClampNeg x1))), .ref (gA G (10 + 14 * (Int32.toNatClampNeg x2)))]) (fun z => z = q9) mw_X3_start mi_X3_start ml_X11_245 is_146 (by decide) rfl rfl rfl (RF.lt (HX11_drawn_X3_start_lt d)) (Nat.le_of_ble_eq_true rfl) dX11_drawn_61 (sX3_start G d (el_4 (inb_lt g7)) (el_5 (inb_lt g8)) h21) (fun z h8 => ?_) rfl
          rw [h8]
          clear h8
          refine run_aload_n 0 dX11_drawn_64 rfl rfl ?_
          refine run_iload_n 3 dX11_drawn_65 rfl rfl ?_
          refine run_puti fp_X11_248 is_0 (by decide) rfl dX11_drawn_66 ?_
          refine run_iconst (v := 0) dX11_drawn_69 rfl ?_
          refine run_istore [(0, .ref (gA G 0)), (2, .int x2), (4, .int x4), (5, .int x5), (6, .int 0)] [1, 3, 5, 6, 0] dX11_drawn_70 (by decide) rfl ?_
          obtain ⟨q17, h20, h⟩ := Option.bind_eq_some_iff.mp h
          refine lpX11_drawn_72 G d _ _ _ _ _ _ _ h20 ?_
          refine run_aload_n 0 dX11_drawn_101 rfl rfl ?_
          refine run_getr fl_X11_50 is_0 (by decide) rfl ce_0_4 dX11_drawn_102 ?_
          refine run_iload 1 dX11_drawn_105 rfl ?_
          obtain ⟨q18, h19, h⟩ := Option.bind_eq_some_iff.mp h
          refine run_callVi (As := [.int x5]) (fun r z => (r, z) = q18) mw_X3_view mi_X3_view ml_X11_181 is_146 (by decide) rfl rfl rfl (RF.lt (HX11_drawn_X3_view_lt d)) (Nat.le_of_ble_eq_true rfl) dX11_drawn_107 (sX3_view G d  h19) (fun r z h8 => ?_) rfl
          rw [show r = q18.1 from congrArg Prod.fst h8, show z = q18.2 from congrArg Prod.snd h8]
          clear h8
          exact run_iret dX11_drawn_110 ⟨_, rfl, Option.some.inj h⟩
        · rw [if_neg c6] at h
          refine run_bipush (v := -2) dX11_drawn_36 rfl ?_
          exact run_iret dX11_drawn_38 ⟨_, rfl, Option.some.inj h⟩
