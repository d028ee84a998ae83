/-! methods, translated -/
def HX3_scanKeys : Nat := 3
theorem HX3_scanKeys_X10_noteGuard_lt (d : Nat) : d + HX10_noteGuard < d + HX3_scanKeys := Nat.add_lt_add_left (by decide) d
theorem HX3_scanKeys_X3_lookAt_lt (d : Nat) : d + HX3_lookAt < d + HX3_scanKeys := Nat.add_lt_add_left (by decide) d
theorem HX3_scanKeys_X3_nodeOf_lt (d : Nat) : d + HX3_nodeOf < d + HX3_scanKeys := Nat.add_lt_add_left (by decide) d
theorem HX3_scanKeys_X3_viewOf_lt (d : Nat) : d + HX3_viewOf < d + HX3_scanKeys := Nat.add_lt_add_left (by decide) d
theorem HX3_scanKeys_0 (d : Nat) : 0 < d + HX3_scanKeys := Nat.lt_of_lt_of_le (by decide) (Nat.le_add_left _ d)
def lX3_scanKeys_7 (n1 : Nat) (x2 : Int32) (x3 : Int32) : Nat → Int32 → Mem → Option (Mem)
  | 0, _, _ => none
  | n + 1, x4, σ => (fX3_nodeOf x3 σ).bind fun q2 => if q2.1 < x4 then (some q2.2) else (if 10 ≤ x4 then (some q2.2) else (gd (inb x4 10) ((fX10_noteGuard n1 x4 (q2.2 149 (Int32.toNatClampNeg x4)) q2.2).bind fun q6 => lX3_scanKeys_7 n1 x2 x3 n (x4 + 1) q6)))
set_option maxRecDepth 20000 in
theorem lpX3_scanKeys_7 (G : GT) (d : Nat) (n1 : Nat) (x2 : Int32) (x3 : Int32) (hn1 : Is n1 10) {K : Option Value → Mem → Prop} : ∀ (n : Nat) (x4 : Int32) (σ : Mem) (o : Mem), lX3_scanKeys_7 n1 x2 x3 n x4 σ = some o → (Run G RX3 cX3_scanKeys 5 none (mF G (d + HX3_scanKeys) K) 43 [(0, .ref (gA G 146)), (1, .ref (gA G n1)), (2, .int x2), (3, .int x3)] [] o) → Run G RX3 cX3_scanKeys 5 none (mF G (d + HX3_scanKeys) K) 7 [(0, .ref (gA G 146)), (1, .ref (gA G n1)), (2, .int x2), (3, .int x3), (4, .int x4)] [] σ := by
  intro n
  induction n with
  | zero => intro x4 σ o h; exact absurd h (by simp [lX3_scanKeys_7])
  | succ n ih =>
    intro x4 σ o h kx
    rw [lX3_scanKeys_7] at h
    refine run_iload 4 dX3_scanKeys_7 rfl ?_
    refine run_aload_n 0 dX3_scanKeys_9 rfl rfl ?_
    refine run_iload_n 3 dX3_scanKeys_10 rfl rfl ?_
    obtain ⟨q2, h8, h⟩ := Option.bind_eq_some_iff.mp h
    refine run_callVi (As := [.int x3]) (fun r z => (r, z) = q2) mw_X3_nodeOf mi_X3_nodeOf ml_X3_207 is_146 (by decide) rfl rfl rfl (RF.lt (HX3_scanKeys_X3_nodeOf_lt d)) (Nat.le_of_ble_eq_true rfl) dX3_scanKeys_11 (sX3_nodeOf G d  h8) (fun r z h8 => ?_) rfl
    rw [show r = q2.1 from congrArg Prod.fst h8, show z = q2.2 from congrArg Prod.snd h8]
    clear h8
    refine run_icmp_gt 43 dX3_scanKeys_14 (by decide) (fun c3 => ?_) (fun c3 => ?_)
    · rw [if_pos c3] at h
      rw [← Option.some.inj h] at kx
      refine run_forget [0, 1, 2, 3] rfl ?_
      exact kx
    · rw [if_neg c3] at h
      refine run_iload 4 dX3_scanKeys_17 rfl ?_
      refine run_bipush (v := 10) dX3_scanKeys_19 rfl ?_
      refine run_icmp_ge 43 dX3_scanKeys_21 (by decide) (fun c4 => ?_) (fun c4 => ?_)
      · rw [if_pos c4] at h
        rw [← Option.some.inj h] at kx
        refine run_forget [0, 1, 2, 3] rfl ?_
        exact kx
      · rw [if_neg c4] at h
        refine run_aload_n 1 dX3_scanKeys_24 rfl rfl ?_
        refine run_iload 4 dX3_scanKeys_25 rfl ?_
        refine run_aload_n 0 dX3_scanKeys_27 rfl rfl ?_
        refine run_getr fl_X3_18 is_146 (by decide) rfl ce_146_6 dX3_scanKeys_28 ?_
        refine run_iload 4 dX3_scanKeys_31 rfl ?_
        obtain ⟨g5, h⟩ := gd_s h
        refine run_iald' is_149 ln_149 g5 rfl dX3_scanKeys_33 ?_
        obtain ⟨q6, h7, h⟩ := Option.bind_eq_some_iff.mp h
        refine run_callVv (As := [.int x4, .int (q2.2 149 (Int32.toNatClampNeg x4))]) (fun z => z = q6) mw_X10_noteGuard mi_X10_noteGuard ml_X3_210 hn1 (by decide) rfl rfl rfl (RF.lt (HX3_scanKeys_X10_noteGuard_lt d)) (Nat.le_of_ble_eq_true rfl) dX3_scanKeys_34 (sX10_noteGuard G d hn1 h7) (fun z h8 => ?_) rfl
        rw [h8]
        clear h8
        refine run_iinc 4 [(0, .ref (gA G 146)), (1, .ref (gA G n1)), (2, .int x2), (3, .int x3), (4, .int (x4 + 1))] [1, 2, 3, 4, 0] dX3_scanKeys_37 rfl rfl (by decide) rfl ?_
        refine run_goto 7 dX3_scanKeys_40 (by decide) ?_
        exact ih _ _ _ h kx
def lX3_scanKeys_46 (n1 : Nat) (x3 : Int32) : Nat → Int32 → Mem → Option (Mem)
  | 0, _, _ => none
  | n + 1, x4, σ => if x3 < x4 then (some σ) else (if 10 ≤ x4 then (some σ) else ((fX3_viewOf n1 x4 σ).bind fun q12 => (if q12.1 = (-1) then (some q12.2) else ((fX3_lookAt n1 x4 q12.2).bind fun q14 => some q14) : Option (Mem)).bind fun q16 => lX3_scanKeys_46 n1 x3 n (x4 + 1) q16))
set_option maxRecDepth 20000 in
theorem lpX3_scanKeys_46 (G : GT) (d : Nat) (n1 : Nat) (x3 : Int32) (hn1 : Is n1 10) {K : Option Value → Mem → Prop} : ∀ (n : Nat) (x4 : Int32) (σ : Mem) (o : Mem), lX3_scanKeys_46 n1 x3 n x4 σ = some o → (Run G RX3 cX3_scanKeys 5 none (mF G (d + HX3_scanKeys) K) 83 [] [] o) → Run G RX3 cX3_scanKeys 5 none (mF G (d + HX3_scanKeys) K) 46 [(0, .ref (gA G 146)), (1, .ref (gA G n1)), (3, .int x3), (4, .int x4)] [] σ := by
  intro n
  induction n with
  | zero => intro x4 σ o h; exact absurd h (by simp [lX3_scanKeys_46])
  | succ n ih =>
    intro x4 σ o h kx
    rw [lX3_scanKeys_46] at h
    refine run_iload 3 dX3_scanKeys_46 rfl ?_
    refine run_iload_n 2 dX3_scanKeys_48 rfl rfl ?_
    refine run_icmp_gt 83 dX3_scanKeys_49 (by decide) (fun c10 => ?_) (fun c10 => ?_)
    · rw [if_pos c10] at h
      rw [← Option.some.inj h] at kx
      refine run_forget [] rfl ?_
      exact kx
    · rw [if_neg c10] at h
      refine run_iload 3 dX3_scanKeys_52 rfl ?_
      refine run_bipush (v := 10) dX3_scanKeys_54 rfl ?_
      refine run_icmp_ge 83 dX3_scanKeys_56 (by decide) (fun c11 => ?_) (fun c11 => ?_)
      · rw [if_pos c11] at h
        rw [← Option.some.inj h] at kx
        refine run_forget [] rfl ?_
        exact kx
      · rw [if_neg c11] at h
        refine run_aload_n 0 dX3_scanKeys_59 rfl rfl ?_
        refine run_aload_n 1 dX3_scanKeys_60 rfl rfl ?_
        refine run_iload 3 dX3_scanKeys_61 rfl ?_
        obtain ⟨q12, h18, h⟩ := Option.bind_eq_some_iff.mp h
        refine run_callVi (As := [.ref (gA G n1), .int x4]) (fun r z => (r, z) = q12) mw_X3_viewOf mi_X3_viewOf ml_X3_216 is_146 (by decide) rfl rfl rfl (RF.lt (HX3_scanKeys_X3_viewOf_lt d)) (Nat.le_of_ble_eq_true rfl) dX3_scanKeys_63 (sX3_viewOf G d hn1 h18) (fun r z h8 => ?_) rfl
        rw [show r = q12.1 from congrArg Prod.fst h8, show z = q12.2 from congrArg Prod.snd h8]
        clear h8
        refine run_iconst (v := -1) dX3_scanKeys_66 rfl ?_
        obtain ⟨q16, h, h9⟩ := Option.bind_eq_some_iff.mp h
        have hj17 : Run G RX3 cX3_scanKeys 5 none (mF G (d + HX3_scanKeys) K) 77 [(0, .ref (gA G 146)), (1, .ref (gA G n1)), (3, .int x3), (4, .int x4)] [] q16 := by
          clear h
          have h := h9
          clear h9
          refine run_iinc 3 [(0, .ref (gA G 146)), (1, .ref (gA G n1)), (3, .int x3), (4, .int (x4 + 1))] [1, 2, 3, 0] dX3_scanKeys_77 rfl rfl (by decide) rfl ?_
          refine run_goto 46 dX3_scanKeys_80 (by decide) ?_
          exact ih _ _ _ h kx
        clear h9
        refine run_icmp_eq 77 dX3_scanKeys_67 (by decide) (fun c13 => ?_) (fun c13 => ?_)
        · rw [if_pos c13] at h
          rw [← Option.some.inj h] at hj17
          exact hj17
        · rw [if_neg c13] at h
          refine run_aload_n 0 dX3_scanKeys_70 rfl rfl ?_
          refine run_aload_n 1 dX3_scanKeys_71 rfl rfl ?_
          refine run_iload 3 dX3_scanKeys_72 rfl ?_
          obtain ⟨q14, h15, h⟩ := Option.bind_eq_some_iff.mp h
          refine run_callVv (As := [.ref (gA G n1), .int x4]) (fun z => z = q14) mw_X3_lookAt mi_X3_lookAt ml_X3_223 is_146 (by decide) rfl rfl rfl (RF.lt (HX3_scanKeys_X3_lookAt_lt d)) (Nat.le_of_ble_eq_true rfl) dX3_scanKeys_74 (sX3_lookAt G d hn1 h15) (fun z h8 => ?_) rfl
          rw [h8]
          clear h8
          rw [← Option.some.inj h] at hj17
          exact hj17
def jX3_scanKeys_43 (n1 : Nat) (x2 : Int32) (x3 : Int32) (σ : Mem) : Option Mem := (lX3_scanKeys_46 n1 x3 FU x2 σ).bind fun q19 => some q19
set_option maxRecDepth 20000 in
theorem jnX3_scanKeys_43 (G : GT) (d : Nat) (n1 : Nat) (x2 : Int32) (x3 : Int32) (hn1 : Is n1 10) (σ : Mem) (o : Mem) (h : jX3_scanKeys_43 n1 x2 x3 σ = some o) : Run G RX3 cX3_scanKeys 5 none (mF G (d + HX3_scanKeys) (kV fun z => z = o)) 43 [(0, .ref (gA G 146)), (1, .ref (gA G n1)), (2, .int x2), (3, .int x3)] [] σ := by
  unfold jX3_scanKeys_43 at h
  refine run_iload_n 2 dX3_scanKeys_43 rfl rfl ?_
  refine run_istore [(0, .ref (gA G 146)), (1, .ref (gA G n1)), (3, .int x3), (4, .int x2)] [1, 2, 4, 0] dX3_scanKeys_44 (by decide) rfl ?_
  obtain ⟨q19, h20, h⟩ := Option.bind_eq_some_iff.mp h
  refine lpX3_scanKeys_46 G d _ _ hn1 _ _ _ _ h20 ?_
  exact run_vret dX3_scanKeys_83 ⟨rfl, Option.some.inj h⟩
def fX3_scanKeys (n1 : Nat) (x2 : Int32) (x3 : Int32) (σ : Mem) : Option Mem := (fX3_nodeOf x2 σ).bind fun q1 => (lX3_scanKeys_7 n1 x2 x3 FU q1.1 q1.2).bind fun q9 => jX3_scanKeys_43 n1 x2 x3 q9
set_option maxRecDepth 20000 in
theorem sX3_scanKeys (G : GT) (d : Nat) {n1 : Nat} {x2 : Int32} {x3 : Int32} (hn1 : Is n1 10) {σ : Mem} {o : Mem} (h : fX3_scanKeys n1 x2 x3 σ = some o) : Spec G yX3_scanKeys cX3_scanKeys 5 none (d + HX3_scanKeys) [.ref (gA G 146), .ref (gA G n1), .int x2, .int x3] σ (kV fun z => z = o) := by
  refine spec_run (by decide) (Nat.le_of_ble_eq_true rfl) ?_
  unfold fX3_scanKeys at h
  show Run G RX3 cX3_scanKeys 5 none _ 0 [(0, .ref (gA G 146)), (1, .ref (gA G n1)), (2, .int x2), (3, .int x3)] [] σ
  refine run_aload_n 0 dX3_scanKeys_0 rfl rfl ?_
  refine run_iload_n 2 dX3_scanKeys_1 rfl rfl ?_
  obtain ⟨q1, h22, h⟩ := Option.bind_eq_some_iff.mp h
  refine run_callVi (As := [.int x2]) (fun r z => (r, z) = q1) mw_X3_nodeOf mi_X3_nodeOf ml_X3_207 is_146 (by decide) rfl rfl rfl (RF.lt (HX3_scanKeys_X3_nodeOf_lt d)) (Nat.le_of_ble_eq_true rfl) dX3_scanKeys_2 (sX3_nodeOf G d  h22) (fun r z h8 => ?_) rfl
  rw [show r = q1.1 from congrArg Prod.fst h8, show z = q1.2 from congrArg Prod.snd h8]
  clear h8
  refine run_istore [(0, .ref (gA G 146)), (1, .ref (gA G n1)), (2, .int x2), (3, .int x3), (4, .int q1.1)] [1, 2, 3, 4, 0] dX3_scanKeys_5 (by decide) rfl ?_
  obtain ⟨q9, h21, h⟩ := Option.bind_eq_some_iff.mp h
  refine lpX3_scanKeys_7 G d _ _ _ hn1 _ _ _ _ h21 ?_
  exact jnX3_scanKeys_43 G d _ _ _ hn1 _ _ h
def HX3_doStep : Nat := 4
theorem HX3_doStep_X10_write_lt (d : Nat) : d + HX10_write < d + HX3_doStep := Nat.add_lt_add_left (by decide) d
theorem HX3_doStep_X3_lookAt_lt (d : Nat) : d + HX3_lookAt < d + HX3_doStep := Nat.add_lt_add_left (by decide) d
theorem HX3_doStep_X3_scanKeys_lt (d : Nat) : d + HX3_scanKeys < d + HX3_doStep := Nat.add_lt_add_left (by decide) d
theorem HX3_doStep_X3_viewOf_lt (d : Nat) : d + HX3_viewOf < d + HX3_doStep := Nat.add_lt_add_left (by decide) d
theorem HX3_doStep_0 (d : Nat) : 0 < d + HX3_doStep := Nat.lt_of_lt_of_le (by decide) (Nat.le_add_left _ d)
def fX3_doStep (n1 : Nat) (σ : Mem) : Option Mem := gd (isB (rfN (σ 146 1)) 8) (gd (inb (((σ n1 0) * 6) + (σ n1 2)) 42) ((some ((σ ((rfN (σ 146 1)) + 3) (Int32.toNatClampNeg (((σ n1 0) * 6) + (σ n1 2)))))).bind fun y3 => gd (isB (rfN (σ 146 1)) 8) (gd (inb (((σ n1 0) * 6) + (σ n1 2)) 42) ((some ((σ ((rfN (σ 146 1)) + 4) (Int32.toNatClampNeg (((σ n1 0) * 6) + (σ n1 2)))))).bind fun y6 => gd (isB (rfN (σ 146 1)) 8) (gd (inb (((σ n1 0) * 6) + (σ n1 2)) 42) ((if (σ ((rfN (σ 146 1)) + 2) (Int32.toNatClampNeg (((σ n1 0) * 6) + (σ n1 2)))) = 0 then ((fX3_lookAt n1 y3 σ).bind fun q10 => some q10) else (if (σ ((rfN (σ 146 1)) + 2) (Int32.toNatClampNeg (((σ n1 0) * 6) + (σ n1 2)))) = 1 then ((fX10_write n1 y3 (-1) σ).bind fun q13 => some q13) else (if (σ ((rfN (σ 146 1)) + 2) (Int32.toNatClampNeg (((σ n1 0) * 6) + (σ n1 2)))) = 2 then ((fX10_write n1 y3 (σ n1 3) σ).bind fun q16 => some q16) else (if (σ ((rfN (σ 146 1)) + 2) (Int32.toNatClampNeg (((σ n1 0) * 6) + (σ n1 2)))) = 3 then ((fX10_write n1 y3 y6 σ).bind fun q19 => some q19) else (if (σ ((rfN (σ 146 1)) + 2) (Int32.toNatClampNeg (((σ n1 0) * 6) + (σ n1 2)))) = 4 then ((fX3_lookAt n1 y3 σ).bind fun q22 => (fX3_viewOf n1 y3 q22).bind fun q23 => (fX10_write n1 y3 (((mx q23.1 0) + y6) % 100) q23.2).bind fun q24 => some q24) else ((fX3_scanKeys n1 y3 y6 σ).bind fun q28 => some q28))))) : Option (Mem)).bind fun q30 => some (st2 q30 n1 2 ((q30 n1 2) + 1))))))))
set_option maxRecDepth 20000 in
theorem sX3_doStep (G : GT) (d : Nat) {n1 : Nat} (hn1 : Is n1 10) {σ : Mem} {o : Mem} (h : fX3_doStep n1 σ = some o) : Spec G yX3_doStep cX3_doStep 5 none (d + HX3_doStep) [.ref (gA G 146), .ref (gA G n1)] σ (kV fun z => z = o) := by
  refine spec_run (by decide) (Nat.le_of_ble_eq_true rfl) ?_
  unfold fX3_doStep at h
  show Run G RX3 cX3_doStep 5 none _ 0 [(0, .ref (gA G 146)), (1, .ref (gA G n1))] [] σ
  refine run_aload_n 1 dX3_doStep_0 rfl rfl ?_
  refine run_geti fl_X3_132 hn1 (by decide) rfl dX3_doStep_1 ?_
  refine run_bipush (v := 6) dX3_doStep_4 rfl ?_
  refine run_imul dX3_doStep_6 ?_
  refine run_aload_n 1 dX3_doStep_7 rfl rfl ?_
  refine run_geti fl_X3_115 hn1 (by decide) rfl dX3_doStep_8 ?_
  refine run_iadd dX3_doStep_11 ?_
  refine run_istore_n [(0, .ref (gA G 146)), (1, .ref (gA G n1)), (2, .int (((σ n1 0) * 6) + (σ n1 2)))] [1, 2, 0] dX3_doStep_12 rfl (by decide) rfl ?_
  refine run_aload_n 0 dX3_doStep_13 rfl rfl ?_
  obtain ⟨g1, h⟩ := gd_s h
  refine run_getd fl_X3_55 is_146 (by decide) rfl dX3_doStep_14 ?_
  refine run_getr fl_X3_227 (isB_Is g1) (by decide) rfl (cs_8_3 (isB_Is g1)) dX3_doStep_17 ?_
  refine run_iload_n 2 dX3_doStep_20 rfl rfl ?_
  obtain ⟨g2, h⟩ := gd_s h
  refine run_iald' (ch_8_3 (isB_Is g1)) (cl_8_3 (isB_Is g1)) g2 rfl dX3_doStep_21 ?_
  rw [Option.bind_some] at h
  refine run_topi (fun y3 ey3 => ?_)
  rw [← ey3] at h
  refine run_istore_n [(0, .ref (gA G 146)), (1, .ref (gA G n1)), (2, .int (((σ n1 0) * 6) + (σ n1 2))), (3, .int y3)] [1, 2, 3, 0] dX3_doStep_22 rfl (by decide) rfl ?_
  refine run_aload_n 0 dX3_doStep_23 rfl rfl ?_
  obtain ⟨g4, h⟩ := gd_s h
  refine run_getd fl_X3_55 is_146 (by decide) rfl dX3_doStep_24 ?_
  refine run_getr fl_X3_230 (isB_Is g4) (by decide) rfl (cs_8_4 (isB_Is g4)) dX3_doStep_27 ?_
  refine run_iload_n 2 dX3_doStep_30 rfl rfl ?_
  obtain ⟨g5, h⟩ := gd_s h
  refine run_iald' (ch_8_4 (isB_Is g4)) (cl_8_4 (isB_Is g4)) g5 rfl dX3_doStep_31 ?_
  rw [Option.bind_some] at h
  refine run_topi (fun y6 ey6 => ?_)
  rw [← ey6] at h
  refine run_istore [(0, .ref (gA G 146)), (1, .ref (gA G n1)), (2, .int (((σ n1 0) * 6) + (σ n1 2))), (3, .int y3), (4, .int y6)] [1, 2, 3, 4, 0] dX3_doStep_32 (by decide) rfl ?_
  refine run_aload_n 0 dX3_doStep_34 rfl rfl ?_
  obtain ⟨g7, h⟩ := gd_s h
  refine run_getd fl_X3_55 is_146 (by decide) rfl dX3_doStep_35 ?_
  refine run_getr fl_X3_233 (isB_Is g7) (by decide) rfl (cs_8_2 (isB_Is g7)) dX3_doStep_38 ?_
  refine run_iload_n 2 dX3_doStep_41 rfl rfl ?_
  obtain ⟨g8, h⟩ := gd_s h
  refine run_iald' (ch_8_2 (isB_Is g7)) (cl_8_2 (isB_Is g7)) g8 rfl dX3_doStep_42 ?_
  obtain ⟨q30, h, h9⟩ := Option.bind_eq_some_iff.mp h
  have hj31 : Run G RX3 cX3_doStep 5 none (mF G (d + HX3_doStep) (kV fun z => z = o)) 154 [(1, .ref (gA G n1))] [] q30 := by
    clear h
    have h := h9
    clear h9
    refine run_aload_n 0 dX3_doStep_154 rfl rfl ?_
    refine run_dup dX3_doStep_155 rfl ?_
    refine run_geti fl_X3_115 hn1 (by decide) rfl dX3_doStep_156 ?_
    refine run_iconst (v := 1) dX3_doStep_159 rfl ?_
    refine run_iadd dX3_doStep_160 ?_
    refine run_puti fp_X3_115 hn1 (by decide) rfl dX3_doStep_161 ?_
    exact run_vret dX3_doStep_164 ⟨rfl, Option.some.inj h⟩
  clear h9
  by_cases c9 : (σ ((rfN (σ 146 1)) + 2) (Int32.toNatClampNeg (((σ n1 0) * 6) + (σ n1 2)))) = 0
  · rw [if_pos c9] at h
    refine run_tblIn 76 dX3_doStep_43 (by rw [c9]; decide) (by rw [c9]; decide) (off := 33) (by rw [c9]; rfl) (by decide) ?_
    refine run_aload_n 0 dX3_doStep_76 rfl rfl ?_
    refine run_aload_n 1 dX3_doStep_77 rfl rfl ?_
    refine run_iload_n 3 dX3_doStep_78 rfl rfl ?_
    obtain ⟨q10, h11, h⟩ := Option.bind_eq_some_iff.mp h
    refine run_callVv (As := [.ref (gA G n1), .int y3]) (fun z => z = q10) mw_X3_lookAt mi_X3_lookAt ml_X3_223 is_146 (by decide) rfl rfl rfl (RF.lt (HX3_doStep_X3_lookAt_lt d)) (Nat.le_of_ble_eq_true rfl) dX3_doStep_79 (sX3_lookAt G d hn1 h11) (fun z h8 => ?_) rfl
    rw [h8]
    clear h8
    refine run_goto 154 dX3_doStep_82 (by decide) ?_
    rw [← Option.some.inj h] at hj31
    refine run_forget [1] rfl ?_
    exact hj31
  · rw [if_neg c9] at h
    by_cases c12 : (σ ((rfN (σ 146 1)) + 2) (Int32.toNatClampNeg (((σ n1 0) * 6) + (σ n1 2)))) = 1
    · rw [if_pos c12] at h
      refine run_tblIn 85 dX3_doStep_43 (by rw [c12]; decide) (by rw [c12]; decide) (off := 42) (by rw [c12]; rfl) (by decide) ?_
      refine run_aload_n 1 dX3_doStep_85 rfl rfl ?_
      refine run_iload_n 3 dX3_doStep_86 rfl rfl ?_
      refine run_iconst (v := -1) dX3_doStep_87 rfl ?_
      obtain ⟨q13, h14, h⟩ := Option.bind_eq_some_iff.mp h
      refine run_callVv (As := [.int y3, .int (-1)]) (fun z => z = q13) mw_X10_write mi_X10_write ml_X3_236 hn1 (by decide) rfl rfl rfl (RF.lt (HX3_doStep_X10_write_lt d)) (Nat.le_of_ble_eq_true rfl) dX3_doStep_88 (sX10_write G d hn1 h14) (fun z h8 => ?_) rfl
      rw [h8]
      clear h8
      refine run_goto 154 dX3_doStep_91 (by decide) ?_
      rw [← Option.some.inj h] at hj31
      refine run_forget [1] rfl ?_
      exact hj31
    · rw [if_neg c12] at h
      by_cases c15 : (σ ((rfN (σ 146 1)) + 2) (Int32.toNatClampNeg (((σ n1 0) * 6) + (σ n1 2)))) = 2
      · rw [if_pos c15] at h
        refine run_tblIn 94 dX3_doStep_43 (by rw [c15]; decide) (by rw [c15]; decide) (off := 51) (by rw [c15]; rfl) (by decide) ?_
        refine run_aload_n 1 dX3_doStep_94 rfl rfl ?_
        refine run_iload_n 3 dX3_doStep_95 rfl rfl ?_
        refine run_aload_n 1 dX3_doStep_96 rfl rfl ?_
        refine run_geti fl_X3_213 hn1 (by decide) rfl dX3_doStep_97 ?_
        obtain ⟨q16, h17, h⟩ := Option.bind_eq_some_iff.mp h
        refine run_callVv (As := [.int y3, .int (σ n1 3)]) (fun z => z = q16) mw_X10_write mi_X10_write ml_X3_236 hn1 (by decide) rfl rfl rfl (RF.lt (HX3_doStep_X10_write_lt d)) (Nat.le_of_ble_eq_true rfl) dX3_doStep_100 (sX10_write G d hn1 h17) (fun z h8 => ?_) rfl
        rw [h8]
        clear h8
        refine run_goto 154 dX3_doStep_103 (by decide) ?_
        rw [← Option.some.inj h] at hj31
        refine run_forget [1] rfl ?_
        exact hj31
      · rw [if_neg c15] at h
        by_cases c18 : (σ ((rfN (σ 146 1)) + 2) (Int32.toNatClampNeg (((σ n1 0) * 6) + (σ n1 2)))) = 3
        · rw [if_pos c18] at h
          refine run_tblIn 106 dX3_doStep_43 (by rw [c18]; decide) (by rw [c18]; decide) (off := 63) (by rw [c18]; rfl) (by decide) ?_
          refine run_aload_n 1 dX3_doStep_106 rfl rfl ?_
          refine run_iload_n 3 dX3_doStep_107 rfl rfl ?_
          refine run_iload 4 dX3_doStep_108 rfl ?_
          obtain ⟨q19, h20, h⟩ := Option.bind_eq_some_iff.mp h
          refine run_callVv (As := [.int y3, .int y6]) (fun z => z = q19) mw_X10_write mi_X10_write ml_X3_236 hn1 (by decide) rfl rfl rfl (RF.lt (HX3_doStep_X10_write_lt d)) (Nat.le_of_ble_eq_true rfl) dX3_doStep_110 (sX10_write G d hn1 h20) (fun z h8 => ?_) rfl
          rw [h8]
          clear h8
          refine run_goto 154 dX3_doStep_113 (by decide) ?_
          rw [← Option.some.inj h] at hj31
          refine run_forget [1] rfl ?_
          exact hj31
        · rw [if_neg c18] at h
          by_cases c21 : (σ ((rfN (σ 146 1)) + 2) (Int32.toNatClampNeg (((σ n1 0) * 6) + (σ n1 2)))) = 4
          · rw [if_pos c21] at h
            refine run_tblIn 116 dX3_doStep_43 (by rw [c21]; decide) (by rw [c21]; decide) (off := 73) (by rw [c21]; rfl) (by decide) ?_
            refine run_aload_n 0 dX3_doStep_116 rfl rfl ?_
            refine run_aload_n 1 dX3_doStep_117 rfl rfl ?_
            refine run_iload_n 3 dX3_doStep_118 rfl rfl ?_
            obtain ⟨q22, h27, h⟩ := Option.bind_eq_some_iff.mp h
            refine run_callVv (As := [.ref (gA G n1), .int y3]) (fun z => z = q22) mw_X3_lookAt mi_X3_lookAt ml_X3_223 is_146 (by decide) rfl rfl rfl (RF.lt (HX3_doStep_X3_lookAt_lt d)) (Nat.le_of_ble_eq_true rfl) dX3_doStep_119 (sX3_lookAt G d hn1 h27) (fun z h8 => ?_) rfl
            rw [h8]
            clear h8
            refine run_aload_n 1 dX3_doStep_122 rfl rfl ?_
            refine run_iload_n 3 dX3_doStep_123 rfl rfl ?_
            refine run_aload_n 0 dX3_doStep_124 rfl rfl ?_
            refine run_aload_n 1 dX3_doStep_125 rfl rfl ?_
            refine run_iload_n 3 dX3_doStep_126 rfl rfl ?_
            obtain ⟨q23, h26, h⟩ := Option.bind_eq_some_iff.mp h
            refine run_callVi (As := [.ref (gA G n1), .int y3]) (fun r z => (r, z) = q23) mw_X3_viewOf mi_X3_viewOf ml_X3_216 is_146 (by decide) rfl rfl rfl (RF.lt (HX3_doStep_X3_viewOf_lt d)) (Nat.le_of_ble_eq_true rfl) dX3_doStep_127 (sX3_viewOf G d hn1 h26) (fun r z h8 => ?_) rfl
            rw [show r = q23.1 from congrArg Prod.fst h8, show z = q23.2 from congrArg Prod.snd h8]
            clear h8
            refine run_iconst (v := 0) dX3_doStep_130 rfl ?_
            refine run_max mm_X3_220 (RF.lt (HX3_doStep_0 d)) (Nat.le_of_ble_eq_true rfl) dX3_doStep_131 ?_
            refine run_iload 4 dX3_doStep_134 rfl ?_
            refine run_iadd dX3_doStep_136 ?_
            refine run_bipush (v := 100) dX3_doStep_137 rfl ?_
            refine run_irem dX3_doStep_139 (by decide) ?_
            obtain ⟨q24, h25, h⟩ := Option.bind_eq_some_iff.mp h
            refine run_callVv (As := [.int y3, .int (((mx q23.1 0) + y6) % 100)]) (fun z => z = q24) mw_X10_write mi_X10_write ml_X3_236 hn1 (by decide) rfl rfl rfl (RF.lt (HX3_doStep_X10_write_lt d)) (Nat.le_of_ble_eq_true rfl) dX3_doStep_140 (sX10_write G d hn1 h25) (fun z h8 => ?_) rfl
            rw [h8]
            clear h8
            refine run_goto 154 dX3_doStep_143 (by decide) ?_
            rw [← Option.some.inj h] at hj31
            refine run_forget [1] rfl ?_
            exact hj31
          · rw [if_neg c21] at h
            refine run_tblOut 146 dX3_doStep_43 (by have tc9 := tbl_ne c9 (z := 0) rfl; have tc12 := tbl_ne c12 (z := 1) rfl; have tc15 := tbl_ne c15 (z := 2) rfl; have tc18 := tbl_ne c18 (z := 3) rfl; have tc21 := tbl_ne c21 (z := 4) rfl; omega) (by decide) ?_
            refine run_aload_n 0 dX3_doStep_146 rfl rfl ?_
            refine run_aload_n 1 dX3_doStep_147 rfl rfl ?_
            refine run_iload_n 3 dX3_doStep_148 rfl rfl ?_
            refine run_iload 4 dX3_doStep_149 rfl ?_
            obtain ⟨q28, h29, h⟩ := Option.bind_eq_some_iff.mp h
            refine run_callVv (As := [.ref (gA G n1), .int y3, .int y6]) (fun z => z = q28) mw_X3_scanKeys mi_X3_scanKeys ml_X3_239 is_146 (by decide) rfl rfl rfl (RF.lt (HX3_doStep_X3_scanKeys_lt d)) (Nat.le_of_ble_eq_true rfl) dX3_doStep_151 (sX3_scanKeys G d hn1 h29) (fun z h8 => ?_) rfl
            rw [h8]
            clear h8
            rw [← Option.some.inj h] at hj31
            refine run_forget [1] rfl ?_
            exact hj31
def HX3_staleKey : Nat := 2
theorem HX3_staleKey_X11_hasBit_lt (d : Nat) : d + HX11_hasBit < d + HX3_staleKey := Nat.add_lt_add_left (by decide) d
theorem HX3_staleKey_0 (d : Nat) : 0 < d + HX3_staleKey := Nat.lt_of_lt_of_le (by decide) (Nat.le_add_left _ d)
def lX3_staleKey_2 (n1 : Nat) : Nat → Int32 → Mem → Option ((Int32 × Mem) ⊕ (Mem))
  | 0, _, _ => none
  | n + 1, x2, σ => if 10 ≤ x2 then (some (.inr σ)) else ((fX11_hasBit (σ n1 6) x2 σ).bind fun q5 => if q5.1 = true then (gd (inb x2 10) (if (q5.2 147 (Int32.toNatClampNeg x2)) = (-1) then (some (.inl (x2, q5.2))) else (gd (inb x2 10) (gd (inb x2 10) (if (q5.2 148 (Int32.toNatClampNeg x2)) = (q5.2 (n1 + 1) (Int32.toNatClampNeg x2)) then (lX3_staleKey_2 n1 n (x2 + 1) q5.2) else (some (.inl (x2, q5.2)))))))) else (lX3_staleKey_2 n1 n (x2 + 1) q5.2))
set_option maxRecDepth 20000 in
theorem lpX3_staleKey_2 (G : GT) (d : Nat) (n1 : Nat) (hn1 : Is n1 10) {K : Option Value → Mem → Prop} : ∀ (n : Nat) (x2 : Int32) (σ : Mem) (o : (Int32 × Mem) ⊕ (Mem)), lX3_staleKey_2 n1 n x2 σ = some o → (∀ r, o = .inl r → K (some (.int r.1)) r.2) → (∀ t, o = .inr t → Run G RX3 cX3_staleKey 3 (some .int) (mF G (d + HX3_staleKey) K) 52 [] [] t) → Run G RX3 cX3_staleKey 3 (some .int) (mF G (d + HX3_staleKey) K) 2 [(0, .ref (gA G 146)), (1, .ref (gA G n1)), (2, .int x2)] [] σ := by
  intro n
  induction n with
  | zero => intro x2 σ o h; exact absurd h (by simp [lX3_staleKey_2])
  | succ n ih =>
    intro x2 σ o h kr kx
    rw [lX3_staleKey_2] at h
    refine run_iload_n 2 dX3_staleKey_2 rfl rfl ?_
    refine run_bipush (v := 10) dX3_staleKey_3 rfl ?_
    refine run_icmp_ge 52 dX3_staleKey_5 (by decide) (fun c4 => ?_) (fun c4 => ?_)
    · rw [if_pos c4] at h
      refine run_forget [] rfl ?_
      exact kx _ (Option.some.inj h).symm
    · rw [if_neg c4] at h
      refine run_aload_n 1 dX3_staleKey_8 rfl rfl ?_
      refine run_geti fl_X3_243 hn1 (by decide) rfl dX3_staleKey_9 ?_
      refine run_iload_n 2 dX3_staleKey_12 rfl rfl ?_
      obtain ⟨q5, h12, h⟩ := Option.bind_eq_some_iff.mp h
      refine run_callNb (As := [.int (σ n1 6), .int x2]) (fun r z => (r, z) = q5) mw_X11_hasBit ms_X11_hasBit mn_X3_176 rfl (RF.lt (HX3_staleKey_X11_hasBit_lt d)) (Nat.le_of_ble_eq_true rfl) dX3_staleKey_13 (sX11_hasBit G d  h12) (fun r z h8 => ?_) rfl
      rw [show r = q5.1 from congrArg Prod.fst h8, show z = q5.2 from congrArg Prod.snd h8]
      clear h8
      refine run_ifb_eq 46 dX3_staleKey_16 (by decide) (fun c6 => ?_) (fun c6 => ?_)
      · rw [if_neg c6] at h
        refine run_iinc 2 [(0, .ref (gA G 146)), (1, .ref (gA G n1)), (2, .int (x2 + 1))] [1, 2, 0] dX3_staleKey_46 rfl rfl (by decide) rfl ?_
        refine run_goto 2 dX3_staleKey_49 (by decide) ?_
        exact ih _ _ _ h kr kx
      · rw [if_pos c6] at h
        refine run_aload_n 0 dX3_staleKey_19 rfl rfl ?_
        refine run_getr fl_X3_9 is_146 (by decide) rfl ce_146_4 dX3_staleKey_20 ?_
        refine run_iload_n 2 dX3_staleKey_23 rfl rfl ?_
        obtain ⟨g7, h⟩ := gd_s h
        refine run_iald' is_147 ln_147 g7 rfl dX3_staleKey_24 ?_
        refine run_iconst (v := -1) dX3_staleKey_25 rfl ?_
        refine run_icmp_eq 44 dX3_staleKey_26 (by decide) (fun c8 => ?_) (fun c8 => ?_)
        · rw [if_pos c8] at h
          refine run_iload_n 2 dX3_staleKey_44 rfl rfl ?_
          exact run_iret dX3_staleKey_45 (kr _ (Option.some.inj h).symm)
        · rw [if_neg c8] at h
          refine run_aload_n 0 dX3_staleKey_29 rfl rfl ?_
          refine run_getr fl_X3_15 is_146 (by decide) rfl ce_146_5 dX3_staleKey_30 ?_
          refine run_iload_n 2 dX3_staleKey_33 rfl rfl ?_
          obtain ⟨g9, h⟩ := gd_s h
          refine run_iald' is_148 ln_148 g9 rfl dX3_staleKey_34 ?_
          refine run_aload_n 1 dX3_staleKey_35 rfl rfl ?_
          refine run_getr fl_X3_246 hn1 (by decide) rfl (cs_10_9 hn1) dX3_staleKey_36 ?_
          refine run_iload_n 2 dX3_staleKey_39 rfl rfl ?_
          obtain ⟨g10, h⟩ := gd_s h
          refine run_iald' (ch_10_9 hn1) (cl_10_9 hn1) g10 rfl dX3_staleKey_40 ?_
          refine run_icmp_eq 46 dX3_staleKey_41 (by decide) (fun c11 => ?_) (fun c11 => ?_)
          · rw [if_pos c11] at h
            refine run_iinc 2 [(0, .ref (gA G 146)), (1, .ref (gA G n1)), (2, .int (x2 + 1))] [1, 2, 0] dX3_staleKey_46 rfl rfl (by decide) rfl ?_
            refine run_goto 2 dX3_staleKey_49 (by decide) ?_
            exact ih _ _ _ h kr kx
          · rw [if_neg c11] at h
            refine run_iload_n 2 dX3_staleKey_44 rfl rfl ?_
            exact run_iret dX3_staleKey_45 (kr _ (Option.some.inj h).symm)
def fX3_staleKey (n1 : Nat) (σ : Mem) : Option (Int32 × Mem) := (lX3_staleKey_2 n1 FU 0 σ).bind fun q13 => Sum.elim (fun q15 => some q15) (fun q13 => some ((-1), q13)) q13
set_option maxRecDepth 20000 in
theorem sX3_staleKey (G : GT) (d : Nat) {n1 : Nat} (hn1 : Is n1 10) {σ : Mem} {o : (Int32 × Mem)} (h : fX3_staleKey n1 σ = some o) : Spec G yX3_staleKey cX3_staleKey 3 (some .int) (d + HX3_staleKey) [.ref (gA G 146), .ref (gA G n1)] σ (kI fun x z => (x, z) = o) := by
  refine spec_run (by decide) (Nat.le_of_ble_eq_true rfl) ?_
  unfold fX3_staleKey at h
  show Run G RX3 cX3_staleKey 3 (some .int) _ 0 [(0, .ref (gA G 146)), (1, .ref (gA G n1))] [] σ
  refine run_iconst (v := 0) dX3_staleKey_0 rfl ?_
  refine run_istore_n [(0, .ref (gA G 146)), (1, .ref (gA G n1)), (2, .int 0)] [1, 2, 0] dX3_staleKey_1 rfl (by decide) rfl ?_
  obtain ⟨q13a, h14, h⟩ := Option.bind_eq_some_iff.mp h
  refine lpX3_staleKey_2 G d _ hn1 _ _ _ _ h14 (fun q15 e9 => ?_) (fun q13 e9 => ?_)
  · rw [e9, Sum.elim_inl] at h
    rw [← Option.some.inj h]
    exact ⟨_, rfl, rfl⟩
  · rw [e9, Sum.elim_inr] at h
    refine run_iconst (v := -1) dX3_staleKey_52 rfl ?_
    exact run_iret dX3_staleKey_53 ⟨_, rfl, Option.some.inj h⟩
def HX3_phantomNode : Nat := 2
theorem HX3_phantomNode_X11_hasBit_lt (d : Nat) : d + HX11_hasBit < d + HX3_phantomNode := Nat.add_lt_add_left (by decide) d
theorem HX3_phantomNode_0 (d : Nat) : 0 < d + HX3_phantomNode := Nat.lt_of_lt_of_le (by decide) (Nat.le_add_left _ d)
def lX3_phantomNode_2 (n1 : Nat) : Nat → Int32 → Mem → Option ((Int32 × Mem) ⊕ (Mem))
  | 0, _, _ => none
  | n + 1, x2, σ => if 10 ≤ x2 then (some (.inr σ)) else ((fX11_hasBit (σ n1 7) x2 σ).bind fun q5 => if q5.1 = true then (gd (inb x2 10) (gd (inb x2 10) (if (q5.2 149 (Int32.toNatClampNeg x2)) = (q5.2 (n1 + 2) (Int32.toNatClampNeg x2)) then (lX3_phantomNode_2 n1 n (x2 + 1) q5.2) else (some (.inl (x2, q5.2)))))) else (lX3_phantomNode_2 n1 n (x2 + 1) q5.2))
set_option maxRecDepth 20000 in
theorem lpX3_phantomNode_2 (G : GT) (d : Nat) (n1 : Nat) (hn1 : Is n1 10) {K : Option Value → Mem → Prop} : ∀ (n : Nat) (x2 : Int32) (σ : Mem) (o : (Int32 × Mem) ⊕ (Mem)), lX3_phantomNode_2 n1 n x2 σ = some o → (∀ r, o = .inl r → K (some (.int r.1)) r.2) → (∀ t, o = .inr t → Run G RX3 cX3_phantomNode 3 (some .int) (mF G (d + HX3_phantomNode) K) 42 [] [] t) → Run G RX3 cX3_phantomNode 3 (some .int) (mF G (d + HX3_phantomNode) K) 2 [(0, .ref (gA G 146)), (1, .ref (gA G n1)), (2, .int x2)] [] σ := by
  intro n
  induction n with
  | zero => intro x2 σ o h; exact absurd h (by simp [lX3_phantomNode_2])
  | succ n ih =>
    intro x2 σ o h kr kx
    rw [lX3_phantomNode_2] at h
    refine run_iload_n 2 dX3_phantomNode_2 rfl rfl ?_
    refine run_bipush (v := 10) dX3_phantomNode_3 rfl ?_
    refine run_icmp_ge 42 dX3_phantomNode_5 (by decide) (fun c4 => ?_) (fun c4 => ?_)
    · rw [if_pos c4] at h
      refine run_forget [] rfl ?_
      exact kx _ (Option.some.inj h).symm
    · rw [if_neg c4] at h
      refine run_aload_n 1 dX3_phantomNode_8 rfl rfl ?_
      refine run_geti fl_X3_249 hn1 (by decide) rfl dX3_phantomNode_9 ?_
      refine run_iload_n 2 dX3_phantomNode_12 rfl rfl ?_
      obtain ⟨q5, h10, h⟩ := Option.bind_eq_some_iff.mp h
      refine run_callNb (As := [.int (σ n1 7), .int x2]) (fun r z => (r, z) = q5) mw_X11_hasBit ms_X11_hasBit mn_X3_176 rfl (RF.lt (HX3_phantomNode_X11_hasBit_lt d)) (Nat.le_of_ble_eq_true rfl) dX3_phantomNode_13 (sX11_hasBit G d  h10) (fun r z h8 => ?_) rfl
      rw [show r = q5.1 from congrArg Prod.fst h8, show z = q5.2 from congrArg Prod.snd h8]
      clear h8
      refine run_ifb_eq 36 dX3_phantomNode_16 (by decide) (fun c6 => ?_) (fun c6 => ?_)
      · rw [if_neg c6] at h
        refine run_iinc 2 [(0, .ref (gA G 146)), (1, .ref (gA G n1)), (2, .int (x2 + 1))] [1, 2, 0] dX3_phantomNode_36 rfl rfl (by decide) rfl ?_
        refine run_goto 2 dX3_phantomNode_39 (by decide) ?_
        exact ih _ _ _ h kr kx
      · rw [if_pos c6] at h
        refine run_aload_n 0 dX3_phantomNode_19 rfl rfl ?_
        refine run_getr fl_X3_18 is_146 (by decide) rfl ce_146_6 dX3_phantomNode_20 ?_
        refine run_iload_n 2 dX3_phantomNode_23 rfl rfl ?_
        obtain ⟨g7, h⟩ := gd_s h
        refine run_iald' is_149 ln_149 g7 rfl dX3_phantomNode_24 ?_
        refine run_aload_n 1 dX3_phantomNode_25 rfl rfl ?_
        refine run_getr fl_X3_252 hn1 (by decide) rfl (cs_10_10 hn1) dX3_phantomNode_26 ?_
        refine run_iload_n 2 dX3_phantomNode_29 rfl rfl ?_
        obtain ⟨g8, h⟩ := gd_s h
        refine run_iald' (ch_10_10 hn1) (cl_10_10 hn1) g8 rfl dX3_phantomNode_30 ?_
        refine run_icmp_eq 36 dX3_phantomNode_31 (by decide) (fun c9 => ?_) (fun c9 => ?_)
        · rw [if_pos c9] at h
          refine run_iinc 2 [(0, .ref (gA G 146)), (1, .ref (gA G n1)), (2, .int (x2 + 1))] [1, 2, 0] dX3_phantomNode_36 rfl rfl (by decide) rfl ?_
          refine run_goto 2 dX3_phantomNode_39 (by decide) ?_
          exact ih _ _ _ h kr kx
        · rw [if_neg c9] at h
          refine run_iload_n 2 dX3_phantomNode_34 rfl rfl ?_
          exact run_iret dX3_phantomNode_35 (kr _ (Option.some.inj h).symm)
def fX3_phantomNode (n1 : Nat) (σ : Mem) : Option (Int32 × Mem) := (lX3_phantomNode_2 n1 FU 0 σ).bind fun q11 => Sum.elim (fun q13 => some q13) (fun q11 => some ((-1), q11)) q11
set_option maxRecDepth 20000 in
theorem sX3_phantomNode (G : GT) (d : Nat) {n1 : Nat} (hn1 : Is n1 10) {σ : Mem} {o : (Int32 × Mem)} (h : fX3_phantomNode n1 σ = some o) : Spec G yX3_phantomNode cX3_phantomNode 3 (some .int) (d + HX3_phantomNode) [.ref (gA G 146), .ref (gA G n1)] σ (kI fun x z => (x, z) = o) := by
  refine spec_run (by decide) (Nat.le_of_ble_eq_true rfl) ?_
  unfold fX3_phantomNode at h
  show Run G RX3 cX3_phantomNode 3 (some .int) _ 0 [(0, .ref (gA G 146)), (1, .ref (gA G n1))] [] σ
  refine run_iconst (v := 0) dX3_phantomNode_0 rfl ?_
  refine run_istore_n [(0, .ref (gA G 146)), (1, .ref (gA G n1)), (2, .int 0)] [1, 2, 0] dX3_phantomNode_1 rfl (by decide) rfl ?_
  obtain ⟨q11a, h12, h⟩ := Option.bind_eq_some_iff.mp h
  refine lpX3_phantomNode_2 G d _ hn1 _ _ _ _ h12 (fun q13 e9 => ?_) (fun q11 e9 => ?_)
  · rw [e9, Sum.elim_inl] at h
    rw [← Option.some.inj h]
    exact ⟨_, rfl, rfl⟩
  · rw [e9, Sum.elim_inr] at h
    refine run_iconst (v := -1) dX3_phantomNode_42 rfl ?_
    exact run_iret dX3_phantomNode_43 ⟨_, rfl, Option.some.inj h⟩
def HX3_nextStamp : Nat := 2
theorem HX3_nextStamp_X11_hasBit_lt (d : Nat) : d + HX11_hasBit < d + HX3_nextStamp := Nat.add_lt_add_left (by decide) d
theorem HX3_nextStamp_0 (d : Nat) : 0 < d + HX3_nextStamp := Nat.lt_of_lt_of_le (by decide) (Nat.le_add_left _ d)
def lX3_nextStamp_17 (n1 : Nat) : Nat → Int32 → Int32 → Mem → Option (Int32 × Mem)
  | 0, _, _, _ => none
  | n + 1, x2, x3, σ => if 10 ≤ x3 then (some (x2, σ)) else ((fX11_hasBit ((σ n1 6) ||| (σ n1 8)) x3 σ).bind fun q7 => (if q7.1 = true then (gd (inb x3 10) (some (mx x2 (q7.2 148 (Int32.toNatClampNeg x3))))) else (some x2) : Option (Int32)).bind fun q10 => lX3_nextStamp_17 n1 n q10 (x3 + 1) q7.2)
set_option maxRecDepth 20000 in
theorem lpX3_nextStamp_17 (G : GT) (d : Nat) (n1 : Nat) (hn1 : Is n1 10) {K : Option Value → Mem → Prop} : ∀ (n : Nat) (x2 : Int32) (x3 : Int32) (σ : Mem) (o : Int32 × Mem), lX3_nextStamp_17 n1 n x2 x3 σ = some o → (Run G RX3 cX3_nextStamp 4 (some .int) (mF G (d + HX3_nextStamp) K) 56 [(2, .int (o.1))] [] (o.2)) → Run G RX3 cX3_nextStamp 4 (some .int) (mF G (d + HX3_nextStamp) K) 17 [(0, .ref (gA G 146)), (1, .ref (gA G n1)), (2, .int x2), (3, .int x3)] [] σ := by
  intro n
  induction n with
  | zero => intro x2 x3 σ o h; exact absurd h (by simp [lX3_nextStamp_17])
  | succ n ih =>
    intro x2 x3 σ o h kx
    rw [lX3_nextStamp_17] at h
    refine run_iload_n 3 dX3_nextStamp_17 rfl rfl ?_
    refine run_bipush (v := 10) dX3_nextStamp_18 rfl ?_
    refine run_icmp_ge 56 dX3_nextStamp_20 (by decide) (fun c6 => ?_) (fun c6 => ?_)
    · rw [if_pos c6] at h
      rw [← Option.some.inj h] at kx
      refine run_forget [2] rfl ?_
      exact kx
    · rw [if_neg c6] at h
      refine run_aload_n 1 dX3_nextStamp_23 rfl rfl ?_
      refine run_geti fl_X3_243 hn1 (by decide) rfl dX3_nextStamp_24 ?_
      refine run_aload_n 1 dX3_nextStamp_27 rfl rfl ?_
      refine run_geti fl_X3_202 hn1 (by decide) rfl dX3_nextStamp_28 ?_
      refine run_ior dX3_nextStamp_31 ?_
      refine run_iload_n 3 dX3_nextStamp_32 rfl rfl ?_
      obtain ⟨q7, h12, h⟩ := Option.bind_eq_some_iff.mp h
      refine run_callNb (As := [.int ((σ n1 6) ||| (σ n1 8)), .int x3]) (fun r z => (r, z) = q7) mw_X11_hasBit ms_X11_hasBit mn_X3_176 rfl (RF.lt (HX3_nextStamp_X11_hasBit_lt d)) (Nat.le_of_ble_eq_true rfl) dX3_nextStamp_33 (sX11_hasBit G d  h12) (fun r z h8 => ?_) rfl
      rw [show r = q7.1 from congrArg Prod.fst h8, show z = q7.2 from congrArg Prod.snd h8]
      clear h8
      obtain ⟨q10, h, h9⟩ := Option.bind_eq_some_iff.mp h
      have hj11 : Run G RX3 cX3_nextStamp 4 (some .int) (mF G (d + HX3_nextStamp) K) 50 [(0, .ref (gA G 146)), (1, .ref (gA G n1)), (2, .int q10), (3, .int x3)] [] q7.2 := by
        clear h
        have h := h9
        clear h9
        refine run_iinc 3 [(0, .ref (gA G 146)), (1, .ref (gA G n1)), (2, .int q10), (3, .int (x3 + 1))] [1, 2, 3, 0] dX3_nextStamp_50 rfl rfl (by decide) rfl ?_
        refine run_goto 17 dX3_nextStamp_53 (by decide) ?_
        exact ih _ _ _ _ h kx
      clear h9
      refine run_ifb_eq 50 dX3_nextStamp_36 (by decide) (fun c8 => ?_) (fun c8 => ?_)
      · rw [if_neg c8] at h
        rw [← Option.some.inj h] at hj11
        exact hj11
      · rw [if_pos c8] at h
        refine run_iload_n 2 dX3_nextStamp_39 rfl rfl ?_
        refine run_aload_n 0 dX3_nextStamp_40 rfl rfl ?_
        refine run_getr fl_X3_15 is_146 (by decide) rfl ce_146_5 dX3_nextStamp_41 ?_
        refine run_iload_n 3 dX3_nextStamp_44 rfl rfl ?_
        obtain ⟨g9, h⟩ := gd_s h
        refine run_iald' is_148 ln_148 g9 rfl dX3_nextStamp_45 ?_
        refine run_max mm_X3_220 (RF.lt (HX3_nextStamp_0 d)) (Nat.le_of_ble_eq_true rfl) dX3_nextStamp_46 ?_
        refine run_istore_n [(0, .ref (gA G 146)), (1, .ref (gA G n1)), (2, .int (mx x2 (q7.2 148 (Int32.toNatClampNeg x3)))), (3, .int x3)] [1, 2, 0, 3] dX3_nextStamp_49 rfl (by decide) rfl ?_
        rw [← Option.some.inj h] at hj11
        exact hj11
def fX3_nextStamp (n1 : Nat) (σ : Mem) : Option (Int32 × Mem) := (lX3_nextStamp_17 n1 FU (mx (σ n1 4) ((100 : Int32) * (σ 146 3))) 0 σ).bind fun q13 => some (((q13.1) + 1), (q13.2))
set_option maxRecDepth 20000 in
theorem sX3_nextStamp (G : GT) (d : Nat) {n1 : Nat} (hn1 : Is n1 10) {σ : Mem} {o : (Int32 × Mem)} (h : fX3_nextStamp n1 σ = some o) : Spec G yX3_nextStamp cX3_nextStamp 4 (some .int) (d + HX3_nextStamp) [.ref (gA G 146), .ref (gA G n1)] σ (kI fun x z => (x, z) = o) := by
  refine spec_run (by decide) (Nat.le_of_ble_eq_true rfl) ?_
  unfold fX3_nextStamp at h
  show Run G RX3 cX3_nextStamp 4 (some .int) _ 0 [(0, .ref (gA G 146)), (1, .ref (gA G n1))] [] σ
  refine run_aload_n 1 dX3_nextStamp_0 rfl rfl ?_
  refine run_geti fl_X3_272 hn1 (by decide) rfl dX3_nextStamp_1 ?_
  refine run_bipush (v := 100) dX3_nextStamp_4 rfl ?_
  refine run_aload_n 0 dX3_nextStamp_6 rfl rfl ?_
  refine run_geti fl_X3_68 is_146 (by decide) rfl dX3_nextStamp_7 ?_
  refine run_imul dX3_nextStamp_10 ?_
  refine run_max mm_X3_220 (RF.lt (HX3_nextStamp_0 d)) (Nat.le_of_ble_eq_true rfl) dX3_nextStamp_11 ?_
  refine run_istore_n [(0, .ref (gA G 146)), (1, .ref (gA G n1)), (2, .int (mx (σ n1 4) ((100 : Int32) * (σ 146 3))))] [1, 2, 0] dX3_nextStamp_14 rfl (by decide) rfl ?_
  refine run_iconst (v := 0) dX3_nextStamp_15 rfl ?_
  refine run_istore_n [(0, .ref (gA G 146)), (1, .ref (gA G n1)), (2, .int (mx (σ n1 4) ((100 : Int32) * (σ 146 3)))), (3, .int 0)] [1, 2, 3, 0] dX3_nextStamp_16 rfl (by decide) rfl ?_
  obtain ⟨q13, h14, h⟩ := Option.bind_eq_some_iff.mp h
  refine lpX3_nextStamp_17 G d _ hn1 _ _ _ _ _ h14 ?_
  refine run_iload_n 0 dX3_nextStamp_56 rfl rfl ?_
  refine run_iconst (v := 1) dX3_nextStamp_57 rfl ?_
  refine run_iadd dX3_nextStamp_58 ?_
  exact run_iret dX3_nextStamp_59 ⟨_, rfl, Option.some.inj h⟩
def HX3_bringIn : Nat := 2
theorem HX3_bringIn_X11_hasBit_lt (d : Nat) : d + HX11_hasBit < d + HX3_bringIn := Nat.add_lt_add_left (by decide) d
theorem HX3_bringIn_X3_nodeOf_lt (d : Nat) : d + HX3_nodeOf < d + HX3_bringIn := Nat.add_lt_add_left (by decide) d
theorem HX3_bringIn_0 (d : Nat) : 0 < d + HX3_bringIn := Nat.lt_of_lt_of_le (by decide) (Nat.le_add_left _ d)
def lX3_bringIn_5 (n1 : Nat) (x2 : Int32) : Nat → Int32 → Int32 → Mem → Option (Int32 × Mem)
  | 0, _, _, _ => none
  | n + 1, x3, x4, σ => if 10 ≤ x4 then (some (x3, σ)) else ((fX11_hasBit (σ n1 8) x4 σ).bind fun q31 => (if q31.1 = true then (gd (inb x4 10) ((if (q31.2 147 (Int32.toNatClampNeg x4)) = (-1) then (some true) else (some false) : Option (Bool)).bind fun q35 => gd (inb x4 10) ((if (q31.2 (n1 + 3) (Int32.toNatClampNeg x4)) = (-1) then (some true) else (some false) : Option (Bool)).bind fun q38 => (if (b2 q35) = (b2 q38) then (some (x3, q31.2)) else ((fX3_nodeOf x4 q31.2).bind fun q40 => (fX3_nodeOf x4 q40.2).bind fun q41 => gd (inb q41.1 10) (gd (inb q41.1 10) ((fX3_nodeOf x4 (st2 q41.2 149 (Int32.toNatClampNeg q41.1) ((q41.2 149 (Int32.toNatClampNeg q41.1)) + 1))).bind fun q44 => gd (inb q44.1 10) (some ((x3 ||| ((1 : Int32) <<< (q40.1 &&& 31))), (st2 q44.2 151 (Int32.toNatClampNeg q44.1) (q44.2 146 12))))))) : Option (Int32 × Mem)).bind fun q49 => gd (inb x4 10) (gd (inb x4 10) (gd (inb x4 10) (gd (inb x4 10) ((some (st2 (st2 (st2 (q49.2) 147 (Int32.toNatClampNeg x4) ((q49.2) (n1 + 3) (Int32.toNatClampNeg x4))) 148 (Int32.toNatClampNeg x4) x2) 150 (Int32.toNatClampNeg x4) ((st2 (st2 (q49.2) 147 (Int32.toNatClampNeg x4) ((q49.2) (n1 + 3) (Int32.toNatClampNeg x4))) 148 (Int32.toNatClampNeg x4) x2) 146 12))).bind fun s54 => some ((q49.1), s54)))))))) else (some (x3, q31.2)) : Option (Int32 × Mem)).bind fun q58 => lX3_bringIn_5 n1 x2 n (q58.1) (x4 + 1) (q58.2))
set_option maxRecDepth 20000 in
theorem lpX3_bringIn_5 (G : GT) (d : Nat) (n1 : Nat) (x2 : Int32) (hn1 : Is n1 10) {K : Option Value → Mem → Prop} : ∀ (n : Nat) (x3 : Int32) (x4 : Int32) (σ : Mem) (o : Int32 × Mem), lX3_bringIn_5 n1 x2 n x3 x4 σ = some o → (Run G RX3 cX3_bringIn 5 (some .int) (mF G (d + HX3_bringIn) K) 139 [(3, .int (o.1))] [] (o.2)) → Run G RX3 cX3_bringIn 5 (some .int) (mF G (d + HX3_bringIn) K) 5 [(0, .ref (gA G 146)), (1, .ref (gA G n1)), (2, .int x2), (3, .int x3), (4, .int x4)] [] σ := by
  intro n
  induction n with
  | zero => intro x3 x4 σ o h; exact absurd h (by simp [lX3_bringIn_5])
  | succ n ih =>
    intro x3 x4 σ o h kx
    rw [lX3_bringIn_5] at h
    refine run_iload 4 dX3_bringIn_5 rfl ?_
    refine run_bipush (v := 10) dX3_bringIn_7 rfl ?_
    refine run_icmp_ge 139 dX3_bringIn_9 (by decide) (fun c30 => ?_) (fun c30 => ?_)
    · rw [if_pos c30] at h
      rw [← Option.some.inj h] at kx
      refine run_forget [3] rfl ?_
      exact kx
    · rw [if_neg c30] at h
      refine run_aload_n 1 dX3_bringIn_12 rfl rfl ?_
      refine run_geti fl_X3_202 hn1 (by decide) rfl dX3_bringIn_13 ?_
      refine run_iload 4 dX3_bringIn_16 rfl ?_
      obtain ⟨q31, h60, h⟩ := Option.bind_eq_some_iff.mp h
      refine run_callNb (As := [.int (σ n1 8), .int x4]) (fun r z => (r, z) = q31) mw_X11_hasBit ms_X11_hasBit mn_X3_176 rfl (RF.lt (HX3_bringIn_X11_hasBit_lt d)) (Nat.le_of_ble_eq_true rfl) dX3_bringIn_18 (sX11_hasBit G d  h60) (fun r z h8 => ?_) rfl
      rw [show r = q31.1 from congrArg Prod.fst h8, show z = q31.2 from congrArg Prod.snd h8]
      clear h8
      obtain ⟨q58, h, h9⟩ := Option.bind_eq_some_iff.mp h
      have hj59 : Run G RX3 cX3_bringIn 5 (some .int) (mF G (d + HX3_bringIn) K) 133 [(0, .ref (gA G 146)), (1, .ref (gA G n1)), (2, .int x2), (3, .int (q58.1)), (4, .int x4)] [] (q58.2) := by
        clear h
        have h := h9
        clear h9
        refine run_iinc 4 [(0, .ref (gA G 146)), (1, .ref (gA G n1)), (2, .int x2), (3, .int (q58.1)), (4, .int (x4 + 1))] [1, 2, 3, 4, 0] dX3_bringIn_133 rfl rfl (by decide) rfl ?_
        refine run_goto 5 dX3_bringIn_136 (by decide) ?_
        exact ih _ _ _ _ h kx
      clear h9
      refine run_ifb_eq 133 dX3_bringIn_21 (by decide) (fun c32 => ?_) (fun c32 => ?_)
      · rw [if_neg c32] at h
        rw [← Option.some.inj h] at hj59
        exact hj59
      · rw [if_pos c32] at h
        refine run_aload_n 0 dX3_bringIn_24 rfl rfl ?_
        refine run_getr fl_X3_9 is_146 (by decide) rfl ce_146_4 dX3_bringIn_25 ?_
        refine run_iload 4 dX3_bringIn_28 rfl ?_
        obtain ⟨g33, h⟩ := gd_s h
        refine run_iald' is_147 ln_147 g33 rfl dX3_bringIn_30 ?_
        refine run_iconst (v := -1) dX3_bringIn_31 rfl ?_
        obtain ⟨q35, h, h9⟩ := Option.bind_eq_some_iff.mp h
        have hj57 : Run G RX3 cX3_bringIn 5 (some .int) (mF G (d + HX3_bringIn) K) 40 [(0, .ref (gA G 146)), (1, .ref (gA G n1)), (2, .int x2), (3, .int x3), (4, .int x4)] [.int (b2 q35)] q31.2 := by
          clear h
          have h := h9
          clear h9
          refine run_aload_n 1 dX3_bringIn_40 rfl rfl ?_
          refine run_getr fl_X3_203 hn1 (by decide) rfl (cs_10_11 hn1) dX3_bringIn_41 ?_
          refine run_iload 4 dX3_bringIn_44 rfl ?_
          obtain ⟨g36, h⟩ := gd_s h
          refine run_iald' (ch_10_11 hn1) (cl_10_11 hn1) g36 rfl dX3_bringIn_46 ?_
          refine run_iconst (v := -1) dX3_bringIn_47 rfl ?_
          obtain ⟨q38, h, h9⟩ := Option.bind_eq_some_iff.mp h
          have hj56 : Run G RX3 cX3_bringIn 5 (some .int) (mF G (d + HX3_bringIn) K) 56 [(0, .ref (gA G 146)), (1, .ref (gA G n1)), (2, .int x2), (3, .int x3), (4, .int x4)] [.int (b2 q38), .int (b2 q35)] q31.2 := by
            clear h
            have h := h9
            clear h9
            obtain ⟨q49, h, h9⟩ := Option.bind_eq_some_iff.mp h
            have hj55 : Run G RX3 cX3_bringIn 5 (some .int) (mF G (d + HX3_bringIn) K) 100 [(0, .ref (gA G 146)), (1, .ref (gA G n1)), (2, .int x2), (3, .int (q49.1)), (4, .int x4)] [] (q49.2) := by
              clear h
              have h := h9
              clear h9
              refine run_aload_n 0 dX3_bringIn_100 rfl rfl ?_
              refine run_getr fl_X3_9 is_146 (by decide) rfl ce_146_4 dX3_bringIn_101 ?_
              refine run_iload 4 dX3_bringIn_104 rfl ?_
              refine run_aload_n 1 dX3_bringIn_106 rfl rfl ?_
              refine run_getr fl_X3_203 hn1 (by decide) rfl (cs_10_11 hn1) dX3_bringIn_107 ?_
              refine run_iload 4 dX3_bringIn_110 rfl ?_
              obtain ⟨g50, h⟩ := gd_s h
              refine run_iald' (ch_10_11 hn1) (cl_10_11 hn1) g50 rfl dX3_bringIn_112 ?_
              obtain ⟨g51, h⟩ := gd_s h
              refine run_iast' is_147 ln_147 g51 rfl dX3_bringIn_113 ?_
              refine run_aload_n 0 dX3_bringIn_114 rfl rfl ?_
              refine run_getr fl_X3_15 is_146 (by decide) rfl ce_146_5 dX3_bringIn_115 ?_
              refine run_iload 4 dX3_bringIn_118 rfl ?_
              refine run_iload_n 2 dX3_bringIn_120 rfl rfl ?_
              obtain ⟨g52, h⟩ := gd_s h
              refine run_iast' is_148 ln_148 g52 rfl dX3_bringIn_121 ?_
              refine run_aload_n 0 dX3_bringIn_122 rfl rfl ?_
              refine run_getr fl_X3_21 is_146 (by decide) rfl ce_146_7 dX3_bringIn_123 ?_
              refine run_iload 4 dX3_bringIn_126 rfl ?_
              refine run_aload_n 0 dX3_bringIn_128 rfl rfl ?_
              refine run_geti fl_X3_89 is_146 (by decide) rfl dX3_bringIn_129 ?_
              obtain ⟨g53, h⟩ := gd_s h
              refine run_iast' is_150 ln_150 g53 rfl dX3_bringIn_132 ?_
              rw [Option.bind_some] at h
              refine run_mem (fun s54 es54 => ?_)
              rw [← es54] at h
              rw [← Option.some.inj h] at hj59
              exact hj59
            clear h9
            refine run_icmp_eq 100 dX3_bringIn_56 (by decide) (fun c39 => ?_) (fun c39 => ?_)
            · rw [if_pos c39] at h
              rw [← Option.some.inj h] at hj55
              exact hj55
            · rw [if_neg c39] at h
              refine run_iload_n 3 dX3_bringIn_59 rfl rfl ?_
              refine run_iconst (v := 1) dX3_bringIn_60 rfl ?_
              refine run_aload_n 0 dX3_bringIn_61 rfl rfl ?_
              refine run_iload 4 dX3_bringIn_62 rfl ?_
              obtain ⟨q40, h48, h⟩ := Option.bind_eq_some_iff.mp h
              refine run_callVi (As := [.int x4]) (fun r z => (r, z) = q40) mw_X3_nodeOf mi_X3_nodeOf ml_X3_207 is_146 (by decide) rfl rfl rfl (RF.lt (HX3_bringIn_X3_nodeOf_lt d)) (Nat.le_of_ble_eq_true rfl) dX3_bringIn_64 (sX3_nodeOf G d  h48) (fun r z h8 => ?_) rfl
              rw [show r = q40.1 from congrArg Prod.fst h8, show z = q40.2 from congrArg Prod.snd h8]
              clear h8
              refine run_ishl dX3_bringIn_67 ?_
              refine run_ior dX3_bringIn_68 ?_
              refine run_istore_n [(0, .ref (gA G 146)), (1, .ref (gA G n1)), (2, .int x2), (3, .int (x3 ||| ((1 : Int32) <<< (q40.1 &&& 31)))), (4, .int x4)] [1, 2, 3, 0, 4] dX3_bringIn_69 rfl (by decide) rfl ?_
              refine run_aload_n 0 dX3_bringIn_70 rfl rfl ?_
              refine run_getr fl_X3_18 is_146 (by decide) rfl ce_146_6 dX3_bringIn_71 ?_
              refine run_aload_n 0 dX3_bringIn_74 rfl rfl ?_
              refine run_iload 4 dX3_bringIn_75 rfl ?_
              obtain ⟨q41, h47, h⟩ := Option.bind_eq_some_iff.mp h
              refine run_callVi (As := [.int x4]) (fun r z => (r, z) = q41) mw_X3_nodeOf mi_X3_nodeOf ml_X3_207 is_146 (by decide) rfl rfl rfl (RF.lt (HX3_bringIn_X3_nodeOf_lt d)) (Nat.le_of_ble_eq_true rfl) dX3_bringIn_77 (sX3_nodeOf G d  h47) (fun r z h8 => ?_) rfl
              rw [show r = q41.1 from congrArg Prod.fst h8, show z = q41.2 from congrArg Prod.snd h8]
              clear h8
              refine run_dup2 dX3_bringIn_80 rfl rfl ?_
              obtain ⟨g42, h⟩ := gd_s h
              refine run_iald' is_149 ln_149 g42 rfl dX3_bringIn_81 ?_
              refine run_iconst (v := 1) dX3_bringIn_82 rfl ?_
              refine run_iadd dX3_bringIn_83 ?_
              obtain ⟨g43, h⟩ := gd_s h
              refine run_iast' is_149 ln_149 g43 rfl dX3_bringIn_84 ?_
              refine run_aload_n 0 dX3_bringIn_85 rfl rfl ?_
              refine run_getr fl_X3_24 is_146 (by decide) rfl ce_146_8 dX3_bringIn_86 ?_
              refine run_aload_n 0 dX3_bringIn_89 rfl rfl ?_
              refine run_iload 4 dX3_bringIn_90 rfl ?_
              obtain ⟨q44, h46, h⟩ := Option.bind_eq_some_iff.mp h
              refine run_callVi (As := [.int x4]) (fun r z => (r, z) = q44) mw_X3_nodeOf mi_X3_nodeOf ml_X3_207 is_146 (by decide) rfl rfl rfl (RF.lt (HX3_bringIn_X3_nodeOf_lt d)) (Nat.le_of_ble_eq_true rfl) dX3_bringIn_92 (sX3_nodeOf G d  h46) (fun r z h8 => ?_) rfl
              rw [show r = q44.1 from congrArg Prod.fst h8, show z = q44.2 from congrArg Prod.snd h8]
              clear h8
              refine run_aload_n 0 dX3_bringIn_95 rfl rfl ?_
              refine run_geti fl_X3_89 is_146 (by decide) rfl dX3_bringIn_96 ?_
              obtain ⟨g45, h⟩ := gd_s h
              refine run_iast' is_151 ln_151 g45 rfl dX3_bringIn_99 ?_
              rw [← Option.some.inj h] at hj55
              exact hj55
          clear h9
          refine run_icmp_ne 55 dX3_bringIn_48 (by decide) (fun c37 => ?_) (fun c37 => ?_)
          · rw [if_neg c37] at h
            refine run_iconst (v := 0) dX3_bringIn_55 rfl ?_
            rw [← Option.some.inj h] at hj56
            exact hj56
          · rw [if_pos c37] at h
            refine run_iconst (v := 1) dX3_bringIn_51 rfl ?_
            refine run_goto 56 dX3_bringIn_52 (by decide) ?_
            rw [← Option.some.inj h] at hj56
            exact hj56
        clear h9
        refine run_icmp_ne 39 dX3_bringIn_32 (by decide) (fun c34 => ?_) (fun c34 => ?_)
        · rw [if_neg c34] at h
          refine run_iconst (v := 0) dX3_bringIn_39 rfl ?_
          rw [← Option.some.inj h] at hj57
          exact hj57
        · rw [if_pos c34] at h
          refine run_iconst (v := 1) dX3_bringIn_35 rfl ?_
          refine run_goto 40 dX3_bringIn_36 (by decide) ?_
          rw [← Option.some.inj h] at hj57
          exact hj57
def fX3_bringIn (n1 : Nat) (x2 : Int32) (σ : Mem) : Option (Int32 × Mem) := (lX3_bringIn_5 n1 x2 FU 0 0 σ).bind fun q61 => some ((q61.1), (q61.2))
set_option maxRecDepth 20000 in
theorem sX3_bringIn (G : GT) (d : Nat) {n1 : Nat} {x2 : Int32} (hn1 : Is n1 10) {σ : Mem} {o : (Int32 × Mem)} (h : fX3_bringIn n1 x2 σ = some o) : Spec G yX3_bringIn cX3_bringIn 5 (some .int) (d + HX3_bringIn) [.ref (gA G 146), .ref (gA G n1), .int x2] σ (kI fun x z => (x, z) = o) := by
  refine spec_run (by decide) (Nat.le_of_ble_eq_true rfl) ?_
  unfold fX3_bringIn at h
  show Run G RX3 cX3_bringIn 5 (some .int) _ 0 [(0, .ref (gA G 146)), (1, .ref (gA G n1)), (2, .int x2)] [] σ
  refine run_iconst (v := 0) dX3_bringIn_0 rfl ?_
  refine run_istore_n [(0, .ref (gA G 146)), (1, .ref (gA G n1)), (2, .int x2), (3, .int 0)] [1, 2, 3, 0] dX3_bringIn_1 rfl (by decide) rfl ?_
  refine run_iconst (v := 0) dX3_bringIn_2 rfl ?_
  refine run_istore [(0, .ref (gA G 146)), (1, .ref (gA G n1)), (2, .int x2), (3, .int 0), (4, .int 0)] [1, 2, 3, 4, 0] dX3_bringIn_3 (by decide) rfl ?_
  obtain ⟨q61, h62, h⟩ := Option.bind_eq_some_iff.mp h
  refine lpX3_bringIn_5 G d _ _ hn1 _ _ _ _ _ h62 ?_
  refine run_iload_n 0 dX3_bringIn_139 rfl rfl ?_
  exact run_iret dX3_bringIn_140 ⟨_, rfl, Option.some.inj h⟩
