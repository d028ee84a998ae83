/-! methods, translated -/
def HX0_gather : Nat := 1
theorem HX0_gather_0 (d : Nat) : 0 < d + HX0_gather := Nat.lt_of_lt_of_le (by decide) (Nat.le_add_left _ d)
def lX0_gather_7  : Nat → Int32 → Mem → Option (Mem)
  | 0, _, _ => none
  | n + 1, x2, σ => if (σ 146 11) ≤ x2 then (some σ) else (gd (inb x2 30) ((if (σ (174 + 2 * (Int32.toNatClampNeg x2)) 9) = 0 then (gd (inb x2 30) (gd (inb (σ 234 1) 30) ((some (st2 (st2 σ 235 (Int32.toNatClampNeg (σ 234 1)) (nI (174 + 2 * (Int32.toNatClampNeg x2)))) 234 1 (((st2 σ 235 (Int32.toNatClampNeg (σ 234 1)) (nI (174 + 2 * (Int32.toNatClampNeg x2)))) 234 1) + 1))).bind fun s13 => some s13))) else (some σ) : Option (Mem)).bind fun q14 => lX0_gather_7 n (x2 + 1) q14))
set_option maxRecDepth 20000 in
theorem lpX0_gather_7 (G : GT) (d : Nat)   {K : Option Value → Mem → Prop} : ∀ (n : Nat) (x2 : Int32) (σ : Mem) (o : Mem), lX0_gather_7 n x2 σ = some o → (Run G RX0 cX0_gather 3 none (mF G (d + HX0_gather) K) 58 [] [] o) → Run G RX0 cX0_gather 3 none (mF G (d + HX0_gather) K) 7 [(0, .ref (gA G 234)), (1, .ref (gA G 146)), (2, .int x2)] [] σ := by
  intro n
  induction n with
  | zero => intro x2 σ o h; exact absurd h (by simp [lX0_gather_7])
  | succ n ih =>
    intro x2 σ o h kx
    rw [lX0_gather_7] at h
    refine run_iload_n 2 dX0_gather_7 rfl rfl ?_
    refine run_aload_n 1 dX0_gather_8 rfl rfl ?_
    refine run_geti fl_X0_33 is_146 (by decide) rfl dX0_gather_9 ?_
    refine run_icmp_ge 58 dX0_gather_12 (by decide) (fun c8 => ?_) (fun c8 => ?_)
    · rw [if_pos c8] at h
      rw [← Option.some.inj h] at kx
      refine run_forget [] rfl ?_
      exact kx
    · rw [if_neg c8] at h
      refine run_aload_n 1 dX0_gather_15 rfl rfl ?_
      refine run_getr fl_X0_38 is_146 (by decide) rfl ce_146_10 dX0_gather_16 ?_
      refine run_iload_n 2 dX0_gather_19 rfl rfl ?_
      obtain ⟨g9, h⟩ := gd_s h
      refine run_aald' (j := (Int32.toNatClampNeg x2)) is_153 (by decide) (by decide) (t0 := 4) rfl ln_153 g9 rfl (es_153 _) dX0_gather_20 ?_
      refine run_geti fl_X0_41 (el_153 (inb_lt g9)) (by decide) rfl dX0_gather_21 ?_
      obtain ⟨q14, h, h9⟩ := Option.bind_eq_some_iff.mp h
      have hj15 : Run G RX0 cX0_gather 3 none (mF G (d + HX0_gather) K) 52 [(0, .ref (gA G 234)), (1, .ref (gA G 146)), (2, .int x2)] [] q14 := by
        clear h
        have h := h9
        clear h9
        refine run_iinc 2 [(0, .ref (gA G 234)), (1, .ref (gA G 146)), (2, .int (x2 + 1))] [1, 2, 0] dX0_gather_52 rfl rfl (by decide) rfl ?_
        refine run_goto 7 dX0_gather_55 (by decide) ?_
        exact ih _ _ _ h kx
      clear h9
      refine run_if_ne 52 dX0_gather_24 (by decide) (fun c10 => ?_) (fun c10 => ?_)
      · rw [if_neg c10] at h
        rw [← Option.some.inj h] at hj15
        exact hj15
      · rw [if_pos c10] at h
        refine run_aload_n 0 dX0_gather_27 rfl rfl ?_
        refine run_getr fl_X0_11 is_234 (by decide) rfl ce_234_0 dX0_gather_28 ?_
        refine run_aload_n 0 dX0_gather_31 rfl rfl ?_
        refine run_geti fl_X0_29 is_234 (by decide) rfl dX0_gather_32 ?_
        refine run_aload_n 1 dX0_gather_35 rfl rfl ?_
        refine run_getr fl_X0_38 is_146 (by decide) rfl ce_146_10 dX0_gather_36 ?_
        refine run_iload_n 2 dX0_gather_39 rfl rfl ?_
        obtain ⟨g11, h⟩ := gd_s h
        refine run_aald' (j := (Int32.toNatClampNeg x2)) is_153 (by decide) (by decide) (t0 := 4) rfl ln_153 g11 rfl (es_153 _) dX0_gather_40 ?_
        obtain ⟨g12, h⟩ := gd_s h
        refine run_kast' is_235 (el_153 (inb_lt g11)) ln_235 g12 rfl dX0_gather_41 ?_
        refine run_aload_n 0 dX0_gather_42 rfl rfl ?_
        refine run_dup dX0_gather_43 rfl ?_
        refine run_geti fl_X0_29 is_234 (by decide) rfl dX0_gather_44 ?_
        refine run_iconst (v := 1) dX0_gather_47 rfl ?_
        refine run_iadd dX0_gather_48 ?_
        refine run_puti fp_X0_29 is_234 (by decide) rfl dX0_gather_49 ?_
        rw [Option.bind_some] at h
        refine run_mem (fun s13 es13 => ?_)
        rw [← es13] at h
        rw [← Option.some.inj h] at hj15
        exact hj15
def fX0_gather  (σ : Mem) : Option Mem := (lX0_gather_7 FU 0 (st2 σ 234 1 0)).bind fun q16 => some q16
set_option maxRecDepth 20000 in
theorem sX0_gather (G : GT) (d : Nat)   {σ : Mem} {o : Mem} (h : fX0_gather σ = some o) : Spec G yX0_gather cX0_gather 3 none (d + HX0_gather) [.ref (gA G 234), .ref (gA G 146)] σ (kV fun z => z = o) := by
  refine spec_run (by decide) (Nat.le_of_ble_eq_true rfl) ?_
  unfold fX0_gather at h
  show Run G RX0 cX0_gather 3 none _ 0 [(0, .ref (gA G 234)), (1, .ref (gA G 146))] [] σ
  refine run_aload_n 0 dX0_gather_0 rfl rfl ?_
  refine run_iconst (v := 0) dX0_gather_1 rfl ?_
  refine run_puti fp_X0_29 is_234 (by decide) rfl dX0_gather_2 ?_
  refine run_iconst (v := 0) dX0_gather_5 rfl ?_
  refine run_istore_n [(0, .ref (gA G 234)), (1, .ref (gA G 146)), (2, .int 0)] [1, 2, 0] dX0_gather_6 rfl (by decide) rfl ?_
  obtain ⟨q16, h17, h⟩ := Option.bind_eq_some_iff.mp h
  refine lpX0_gather_7 G d _ _ _ _ h17 ?_
  exact run_vret dX0_gather_58 ⟨rfl, Option.some.inj h⟩
def HX0_hangs : Nat := 1
theorem HX0_hangs_0 (d : Nat) : 0 < d + HX0_hangs := Nat.lt_of_lt_of_le (by decide) (Nat.le_add_left _ d)
def lX0_hangs_12 (x1 : Int32) (n2 : Nat) : Nat → Int32 → Int32 → Mem → Option (Int32 × Mem)
  | 0, _, _, _ => none
  | n + 1, x3, x4, σ => if x1 ≤ x4 then (some (x3, σ)) else (gd (inb x4 30) (gd (decide (¬ σ 235 (Int32.toNatClampNeg x4) < 0)) (gd (isB (rfN (σ 235 (Int32.toNatClampNeg x4))) 2) ((if ((σ (rfN (σ 235 (Int32.toNatClampNeg x4))) 6) &&& ((σ n2 4) ||| (σ n2 6))) = 0 then (some false) else (some true) : Option (Bool)).bind fun q21 => (if q21 = true then (some (x3 ||| ((1 : Int32) <<< (x4 &&& 31)))) else (gd (inb x4 30) (gd (decide (¬ σ 235 (Int32.toNatClampNeg x4) < 0)) (gd (isB (rfN (σ 235 (Int32.toNatClampNeg x4))) 2) (if ((σ (rfN (σ 235 (Int32.toNatClampNeg x4))) 7) &&& (σ n2 5)) = 0 then (some x3) else (some (x3 ||| ((1 : Int32) <<< (x4 &&& 31)))))))) : Option (Int32)).bind fun q27 => lX0_hangs_12 x1 n2 n q27 (x4 + 1) σ))))
set_option maxRecDepth 20000 in
theorem lpX0_hangs_12 (G : GT) (d : Nat) (x1 : Int32) (n2 : Nat) (hn2 : Is n2 2) {K : Option Value → Mem → Prop} : ∀ (n : Nat) (x3 : Int32) (x4 : Int32) (σ : Mem) (o : Int32 × Mem), lX0_hangs_12 x1 n2 n x3 x4 σ = some o → (Run G RX0 cX0_hangs 6 (some .int) (mF G (d + HX0_hangs) K) 84 [(3, .int (o.1))] [] (o.2)) → Run G RX0 cX0_hangs 6 (some .int) (mF G (d + HX0_hangs) K) 12 [(0, .ref (gA G 234)), (1, .int x1), (2, .ref (gA G n2)), (3, .int x3), (4, .int x4)] [] σ := by
  intro n
  induction n with
  | zero => intro x3 x4 σ o h; exact absurd h (by simp [lX0_hangs_12])
  | succ n ih =>
    intro x3 x4 σ o h kx
    rw [lX0_hangs_12] at h
    refine run_iload 4 dX0_hangs_12 rfl ?_
    refine run_iload_n 1 dX0_hangs_14 rfl rfl ?_
    refine run_icmp_ge 84 dX0_hangs_15 (by decide) (fun c16 => ?_) (fun c16 => ?_)
    · rw [if_pos c16] at h
      rw [← Option.some.inj h] at kx
      refine run_forget [3] rfl ?_
      exact kx
    · rw [if_neg c16] at h
      refine run_aload_n 0 dX0_hangs_18 rfl rfl ?_
      refine run_getr fl_X0_11 is_234 (by decide) rfl ce_234_0 dX0_hangs_19 ?_
      refine run_iload 4 dX0_hangs_22 rfl ?_
      obtain ⟨g17, h⟩ := gd_s h
      obtain ⟨g18, h⟩ := gd_s h
      obtain ⟨g19, h⟩ := gd_s h
      refine run_kald' is_235 ln_235 g17 rfl (of_decide_eq_true g18) dX0_hangs_24 ?_
      refine run_geti fl_X0_45 (isB_Is g19) (by decide) rfl dX0_hangs_25 ?_
      refine run_aload_n 2 dX0_hangs_28 rfl rfl ?_
      refine run_geti fl_X0_48 hn2 (by decide) rfl dX0_hangs_29 ?_
      refine run_aload_n 2 dX0_hangs_32 rfl rfl ?_
      refine run_geti fl_X0_45 hn2 (by decide) rfl dX0_hangs_33 ?_
      refine run_ior dX0_hangs_36 ?_
      refine run_iand dX0_hangs_37 ?_
      obtain ⟨q21, h, h9⟩ := Option.bind_eq_some_iff.mp h
      have hj29 : Run G RX0 cX0_hangs 6 (some .int) (mF G (d + HX0_hangs) K) 46 [(0, .ref (gA G 234)), (1, .int x1), (2, .ref (gA G n2)), (3, .int x3), (4, .int x4)] [.int (b2 q21)] σ := by
        clear h
        have h := h9
        clear h9
        refine run_istore [(0, .ref (gA G 234)), (1, .int x1), (2, .ref (gA G n2)), (3, .int x3), (4, .int x4), (5, .int (b2 q21))] [1, 2, 3, 4, 5, 0] dX0_hangs_46 (by decide) rfl ?_
        refine run_iload 5 dX0_hangs_48 rfl ?_
        obtain ⟨q27, h, h9⟩ := Option.bind_eq_some_iff.mp h
        have hj28 : Run G RX0 cX0_hangs 6 (some .int) (mF G (d + HX0_hangs) K) 78 [(0, .ref (gA G 234)), (1, .int x1), (2, .ref (gA G n2)), (3, .int q27), (4, .int x4)] [] σ := by
          clear h
          have h := h9
          clear h9
          refine run_iinc 4 [(0, .ref (gA G 234)), (1, .int x1), (2, .ref (gA G n2)), (3, .int q27), (4, .int (x4 + 1))] [1, 2, 3, 4, 0] dX0_hangs_78 rfl rfl (by decide) rfl ?_
          refine run_goto 12 dX0_hangs_81 (by decide) ?_
          exact ih _ _ _ _ h kx
        clear h9
        refine run_ifb_ne 71 dX0_hangs_50 (by decide) (fun c22 => ?_) (fun c22 => ?_)
        · rw [if_pos c22] at h
          refine run_iload_n 3 dX0_hangs_71 rfl rfl ?_
          refine run_iconst (v := 1) dX0_hangs_72 rfl ?_
          refine run_iload 4 dX0_hangs_73 rfl ?_
          refine run_ishl dX0_hangs_75 ?_
          refine run_ior dX0_hangs_76 ?_
          refine run_istore_n [(0, .ref (gA G 234)), (1, .int x1), (2, .ref (gA G n2)), (3, .int (x3 ||| ((1 : Int32) <<< (x4 &&& 31)))), (4, .int x4)] [1, 2, 3, 0, 4] dX0_hangs_77 rfl (by decide) rfl ?_
          rw [← Option.some.inj h] at hj28
          exact hj28
        · rw [if_neg c22] at h
          refine run_aload_n 0 dX0_hangs_53 rfl rfl ?_
          refine run_getr fl_X0_11 is_234 (by decide) rfl ce_234_0 dX0_hangs_54 ?_
          refine run_iload 4 dX0_hangs_57 rfl ?_
          obtain ⟨g23, h⟩ := gd_s h
          obtain ⟨g24, h⟩ := gd_s h
          obtain ⟨g25, h⟩ := gd_s h
          refine run_kald' is_235 ln_235 g23 rfl (of_decide_eq_true g24) dX0_hangs_59 ?_
          refine run_geti fl_X0_51 (isB_Is g25) (by decide) rfl dX0_hangs_60 ?_
          refine run_aload_n 2 dX0_hangs_63 rfl rfl ?_
          refine run_geti fl_X0_54 hn2 (by decide) rfl dX0_hangs_64 ?_
          refine run_iand dX0_hangs_67 ?_
          refine run_if_eq 78 dX0_hangs_68 (by decide) (fun c26 => ?_) (fun c26 => ?_)
          · rw [if_pos c26] at h
            rw [← Option.some.inj h] at hj28
            refine run_forget [0, 1, 2, 3, 4] rfl ?_
            exact hj28
          · rw [if_neg c26] at h
            refine run_iload_n 3 dX0_hangs_71 rfl rfl ?_
            refine run_iconst (v := 1) dX0_hangs_72 rfl ?_
            refine run_iload 4 dX0_hangs_73 rfl ?_
            refine run_ishl dX0_hangs_75 ?_
            refine run_ior dX0_hangs_76 ?_
            refine run_istore_n [(0, .ref (gA G 234)), (1, .int x1), (2, .ref (gA G n2)), (3, .int (x3 ||| ((1 : Int32) <<< (x4 &&& 31)))), (4, .int x4)] [1, 2, 3, 0, 4] dX0_hangs_77 rfl (by decide) rfl ?_
            rw [← Option.some.inj h] at hj28
            exact hj28
      clear h9
      refine run_if_eq 45 dX0_hangs_38 (by decide) (fun c20 => ?_) (fun c20 => ?_)
      · rw [if_pos c20] at h
        refine run_iconst (v := 0) dX0_hangs_45 rfl ?_
        rw [← Option.some.inj h] at hj29
        exact hj29
      · rw [if_neg c20] at h
        refine run_iconst (v := 1) dX0_hangs_41 rfl ?_
        refine run_goto 46 dX0_hangs_42 (by decide) ?_
        rw [← Option.some.inj h] at hj29
        exact hj29
def fX0_hangs (x1 : Int32) (σ : Mem) : Option (Int32 × Mem) := gd (inb x1 30) (gd (decide (¬ σ 235 (Int32.toNatClampNeg x1) < 0)) (gd (isB (rfN (σ 235 (Int32.toNatClampNeg x1))) 2) ((lX0_hangs_12 x1 (rfN (σ 235 (Int32.toNatClampNeg x1))) FU 0 0 σ).bind fun q30 => some ((q30.1), (q30.2)))))
set_option maxRecDepth 20000 in
theorem sX0_hangs (G : GT) (d : Nat) {x1 : Int32}  {σ : Mem} {o : (Int32 × Mem)} (h : fX0_hangs x1 σ = some o) : Spec G yX0_hangs cX0_hangs 6 (some .int) (d + HX0_hangs) [.ref (gA G 234), .int x1] σ (kI fun x z => (x, z) = o) := by
  refine spec_run (by decide) (Nat.le_of_ble_eq_true rfl) ?_
  unfold fX0_hangs at h
  show Run G RX0 cX0_hangs 6 (some .int) _ 0 [(0, .ref (gA G 234)), (1, .int x1)] [] σ
  refine run_aload_n 0 dX0_hangs_0 rfl rfl ?_
  refine run_getr fl_X0_11 is_234 (by decide) rfl ce_234_0 dX0_hangs_1 ?_
  refine run_iload_n 1 dX0_hangs_4 rfl rfl ?_
  obtain ⟨g1, h⟩ := gd_s h
  obtain ⟨g2, h⟩ := gd_s h
  obtain ⟨g3, h⟩ := gd_s h
  refine run_kald' is_235 ln_235 g1 rfl (of_decide_eq_true g2) dX0_hangs_5 ?_
  refine run_astore_n [(0, .ref (gA G 234)), (1, .int x1), (2, .ref (gA G (rfN (σ 235 (Int32.toNatClampNeg x1)))))] [1, 2, 0] dX0_hangs_6 rfl (by decide) rfl ?_
  refine run_iconst (v := 0) dX0_hangs_7 rfl ?_
  refine run_istore_n [(0, .ref (gA G 234)), (1, .int x1), (2, .ref (gA G (rfN (σ 235 (Int32.toNatClampNeg x1))))), (3, .int 0)] [1, 2, 3, 0] dX0_hangs_8 rfl (by decide) rfl ?_
  refine run_iconst (v := 0) dX0_hangs_9 rfl ?_
  refine run_istore [(0, .ref (gA G 234)), (1, .int x1), (2, .ref (gA G (rfN (σ 235 (Int32.toNatClampNeg x1))))), (3, .int 0), (4, .int 0)] [1, 2, 3, 4, 0] dX0_hangs_10 (by decide) rfl ?_
  obtain ⟨q30, h31, h⟩ := Option.bind_eq_some_iff.mp h
  refine lpX0_hangs_12 G d _ _ (isB_Is g3) _ _ _ _ _ h31 ?_
  refine run_iload_n 0 dX0_hangs_84 rfl rfl ?_
  exact run_iret dX0_hangs_85 ⟨_, rfl, Option.some.inj h⟩
def HX1_take : Nat := 1
theorem HX1_take_0 (d : Nat) : 0 < d + HX1_take := Nat.lt_of_lt_of_le (by decide) (Nat.le_add_left _ d)
def fX1_take (n0 : Nat) (x1 : Int32) (x2 : Int32) (σ : Mem) : Option Mem := if 8 ≤ (σ n0 0) then (some σ) else (gd (inb (σ n0 0) 8) (gd (inb ((st2 σ (n0 + 1) (Int32.toNatClampNeg (σ n0 0)) x1) n0 0) 8) ((some (st2 (st2 (st2 σ (n0 + 1) (Int32.toNatClampNeg (σ n0 0)) x1) (n0 + 2) (Int32.toNatClampNeg ((st2 σ (n0 + 1) (Int32.toNatClampNeg (σ n0 0)) x1) n0 0)) x2) n0 0 (((st2 (st2 σ (n0 + 1) (Int32.toNatClampNeg (σ n0 0)) x1) (n0 + 2) (Int32.toNatClampNeg ((st2 σ (n0 + 1) (Int32.toNatClampNeg (σ n0 0)) x1) n0 0)) x2) n0 0) + 1))).bind fun s4 => some s4)))
set_option maxRecDepth 20000 in
theorem sX1_take (G : GT) (d : Nat) {n0 : Nat} {x1 : Int32} {x2 : Int32} (hn0 : Is n0 1) {σ : Mem} {o : Mem} (h : fX1_take n0 x1 x2 σ = some o) : Spec G yX1_take cX1_take 3 none (d + HX1_take) [.ref (gA G n0), .int x1, .int x2] σ (kV fun z => z = o) := by
  refine spec_run (by decide) (Nat.le_of_ble_eq_true rfl) ?_
  unfold fX1_take at h
  show Run G RX1 cX1_take 3 none _ 0 [(0, .ref (gA G n0)), (1, .int x1), (2, .int x2)] [] σ
  refine run_aload_n 0 dX1_take_0 rfl rfl ?_
  refine run_geti fl_X1_18 hn0 (by decide) rfl dX1_take_1 ?_
  refine run_bipush (v := 8) dX1_take_4 rfl ?_
  refine run_icmp_ge 39 dX1_take_6 (by decide) (fun c1 => ?_) (fun c1 => ?_)
  · rw [if_pos c1] at h
    exact run_vret dX1_take_39 ⟨rfl, Option.some.inj h⟩
  · rw [if_neg c1] at h
    refine run_aload_n 0 dX1_take_9 rfl rfl ?_
    refine run_getr fl_X1_9 hn0 (by decide) rfl (cs_1_1 hn0) dX1_take_10 ?_
    refine run_aload_n 0 dX1_take_13 rfl rfl ?_
    refine run_geti fl_X1_18 hn0 (by decide) rfl dX1_take_14 ?_
    refine run_iload_n 1 dX1_take_17 rfl rfl ?_
    obtain ⟨g2, h⟩ := gd_s h
    refine run_iast' (ch_1_1 hn0) (cl_1_1 hn0) g2 rfl dX1_take_18 ?_
    refine run_aload_n 0 dX1_take_19 rfl rfl ?_
    refine run_getr fl_X1_15 hn0 (by decide) rfl (cs_1_2 hn0) dX1_take_20 ?_
    refine run_aload_n 0 dX1_take_23 rfl rfl ?_
    refine run_geti fl_X1_18 hn0 (by decide) rfl dX1_take_24 ?_
    refine run_iload_n 2 dX1_take_27 rfl rfl ?_
    obtain ⟨g3, h⟩ := gd_s h
    refine run_iast' (ch_1_2 hn0) (cl_1_2 hn0) g3 rfl dX1_take_28 ?_
    refine run_aload_n 0 dX1_take_29 rfl rfl ?_
    refine run_dup dX1_take_30 rfl ?_
    refine run_geti fl_X1_18 hn0 (by decide) rfl dX1_take_31 ?_
    refine run_iconst (v := 1) dX1_take_34 rfl ?_
    refine run_iadd dX1_take_35 ?_
    refine run_puti fp_X1_18 hn0 (by decide) rfl dX1_take_36 ?_
    rw [Option.bind_some] at h
    refine run_mem (fun s4 es4 => ?_)
    rw [← es4] at h
    exact run_vret dX1_take_39 ⟨rfl, Option.some.inj h⟩
def HX1_agrees : Nat := 1
theorem HX1_agrees_0 (d : Nat) : 0 < d + HX1_agrees := Nat.lt_of_lt_of_le (by decide) (Nat.le_add_left _ d)
def lX1_agrees_2 (n0 : Nat) (n1 : Nat) : Nat → Int32 → Mem → Option ((Bool × Mem) ⊕ (Mem))
  | 0, _, _ => none
  | n + 1, x2, σ => if (σ n0 0) ≤ x2 then (some (.inr σ)) else (gd (inb x2 8) (gd (inb (σ (n0 + 1) (Int32.toNatClampNeg x2)) 10) (gd (inb x2 8) (if (σ n1 (Int32.toNatClampNeg (σ (n0 + 1) (Int32.toNatClampNeg x2)))) = (σ (n0 + 2) (Int32.toNatClampNeg x2)) then (lX1_agrees_2 n0 n1 n (x2 + 1) σ) else (some (.inl (false, σ)))))))
set_option maxRecDepth 20000 in
theorem lpX1_agrees_2 (G : GT) (d : Nat) (n0 : Nat) (n1 : Nat) (hn0 : Is n0 1) (hn1 : Is n1 14) (hl1 : ln n1 = 10) {K : Option Value → Mem → Prop} : ∀ (n : Nat) (x2 : Int32) (σ : Mem) (o : (Bool × Mem) ⊕ (Mem)), lX1_agrees_2 n0 n1 n x2 σ = some o → (∀ r, o = .inl r → K (some (.int (b2 r.1))) r.2) → (∀ t, o = .inr t → Run G RX1 cX1_agrees 3 (some .boolean) (mF G (d + HX1_agrees) K) 35 [] [] t) → Run G RX1 cX1_agrees 3 (some .boolean) (mF G (d + HX1_agrees) K) 2 [(0, .ref (gA G n0)), (1, .ref (gA G n1)), (2, .int x2)] [] σ := by
  intro n
  induction n with
  | zero => intro x2 σ o h; exact absurd h (by simp [lX1_agrees_2])
  | succ n ih =>
    intro x2 σ o h kr kx
    rw [lX1_agrees_2] at h
    refine run_iload_n 2 dX1_agrees_2 rfl rfl ?_
    refine run_aload_n 0 dX1_agrees_3 rfl rfl ?_
    refine run_geti fl_X1_18 hn0 (by decide) rfl dX1_agrees_4 ?_
    refine run_icmp_ge 35 dX1_agrees_7 (by decide) (fun c6 => ?_) (fun c6 => ?_)
    · rw [if_pos c6] at h
      refine run_forget [] rfl ?_
      exact kx _ (Option.some.inj h).symm
    · rw [if_neg c6] at h
      refine run_aload_n 1 dX1_agrees_10 rfl rfl ?_
      refine run_aload_n 0 dX1_agrees_11 rfl rfl ?_
      refine run_getr fl_X1_9 hn0 (by decide) rfl (cs_1_1 hn0) dX1_agrees_12 ?_
      refine run_iload_n 2 dX1_agrees_15 rfl rfl ?_
      obtain ⟨g7, h⟩ := gd_s h
      refine run_iald' (ch_1_1 hn0) (cl_1_1 hn0) g7 rfl dX1_agrees_16 ?_
      obtain ⟨g8, h⟩ := gd_s h
      refine run_iald' hn1 hl1 g8 rfl dX1_agrees_17 ?_
      refine run_aload_n 0 dX1_agrees_18 rfl rfl ?_
      refine run_getr fl_X1_15 hn0 (by decide) rfl (cs_1_2 hn0) dX1_agrees_19 ?_
      refine run_iload_n 2 dX1_agrees_22 rfl rfl ?_
      obtain ⟨g9, h⟩ := gd_s h
      refine run_iald' (ch_1_2 hn0) (cl_1_2 hn0) g9 rfl dX1_agrees_23 ?_
      refine run_icmp_eq 29 dX1_agrees_24 (by decide) (fun c10 => ?_) (fun c10 => ?_)
      · rw [if_pos c10] at h
        refine run_iinc 2 [(0, .ref (gA G n0)), (1, .ref (gA G n1)), (2, .int (x2 + 1))] [1, 2, 0] dX1_agrees_29 rfl rfl (by decide) rfl ?_
        refine run_goto 2 dX1_agrees_32 (by decide) ?_
        exact ih _ _ _ h kr kx
      · rw [if_neg c10] at h
        refine run_iconst (v := 0) dX1_agrees_27 rfl ?_
        exact run_bret (b := false) dX1_agrees_28 (kr _ (Option.some.inj h).symm)
def fX1_agrees (n0 : Nat) (n1 : Nat) (σ : Mem) : Option (Bool × Mem) := (lX1_agrees_2 n0 n1 FU 0 σ).bind fun q11 => Sum.elim (fun q13 => some q13) (fun q11 => some (true, q11)) q11
set_option maxRecDepth 20000 in
theorem sX1_agrees (G : GT) (d : Nat) {n0 : Nat} {n1 : Nat} (hn0 : Is n0 1) (hn1 : Is n1 14) (hl1 : ln n1 = 10) {σ : Mem} {o : (Bool × Mem)} (h : fX1_agrees n0 n1 σ = some o) : Spec G yX1_agrees cX1_agrees 3 (some .boolean) (d + HX1_agrees) [.ref (gA G n0), .ref (gA G n1)] σ (kB fun x z => (x, z) = o) := by
  refine spec_run (by decide) (Nat.le_of_ble_eq_true rfl) ?_
  unfold fX1_agrees at h
  show Run G RX1 cX1_agrees 3 (some .boolean) _ 0 [(0, .ref (gA G n0)), (1, .ref (gA G n1))] [] σ
  refine run_iconst (v := 0) dX1_agrees_0 rfl ?_
  refine run_istore_n [(0, .ref (gA G n0)), (1, .ref (gA G n1)), (2, .int 0)] [1, 2, 0] dX1_agrees_1 rfl (by decide) rfl ?_
  obtain ⟨q11a, h12, h⟩ := Option.bind_eq_some_iff.mp h
  refine lpX1_agrees_2 G d _ _ hn0 hn1 hl1 _ _ _ _ h12 (fun q13 e9 => ?_) (fun q11 e9 => ?_)
  · rw [e9, Sum.elim_inl] at h
    rw [← Option.some.inj h]
    exact ⟨_, rfl, rfl⟩
  · rw [e9, Sum.elim_inr] at h
    refine run_iconst (v := 1) dX1_agrees_35 rfl ?_
    exact run_bret (b := true) dX1_agrees_36 ⟨_, rfl, Option.some.inj h⟩
def HX1_copyFrom : Nat := 1
theorem HX1_copyFrom_0 (d : Nat) : 0 < d + HX1_copyFrom := Nat.lt_of_lt_of_le (by decide) (Nat.le_add_left _ d)
def fX1_copyFrom (n0 : Nat) (n1 : Nat) (σ : Mem) : Option Mem := some (cp2 (cp2 (st2 σ n0 0 (σ n1 0)) (n1 + 1) (n0 + 1) 0 0 8) (n1 + 2) (n0 + 2) 0 0 8)
set_option maxRecDepth 20000 in
theorem sX1_copyFrom (G : GT) (d : Nat) {n0 : Nat} {n1 : Nat} (hn0 : Is n0 1) (hn1 : Is n1 1) {σ : Mem} {o : Mem} (h : fX1_copyFrom n0 n1 σ = some o) : Spec G yX1_copyFrom cX1_copyFrom 2 none (d + HX1_copyFrom) [.ref (gA G n0), .ref (gA G n1)] σ (kV fun z => z = o) := by
  refine spec_run (by decide) (Nat.le_of_ble_eq_true rfl) ?_
  unfold fX1_copyFrom at h
  show Run G RX1 cX1_copyFrom 2 none _ 0 [(0, .ref (gA G n0)), (1, .ref (gA G n1))] [] σ
  refine run_aload_n 0 dX1_copyFrom_0 rfl rfl ?_
  refine run_aload_n 1 dX1_copyFrom_1 rfl rfl ?_
  refine run_geti fl_X1_18 hn1 (by decide) rfl dX1_copyFrom_2 ?_
  refine run_puti fp_X1_18 hn0 (by decide) rfl dX1_copyFrom_5 ?_
  refine run_aload_n 1 dX1_copyFrom_8 rfl rfl ?_
  refine run_getr fl_X1_9 hn1 (by decide) rfl (cs_1_1 hn1) dX1_copyFrom_9 ?_
  refine run_iconst (v := 0) dX1_copyFrom_12 rfl ?_
  refine run_aload_n 0 dX1_copyFrom_13 rfl rfl ?_
  refine run_getr fl_X1_9 hn0 (by decide) rfl (cs_1_1 hn0) dX1_copyFrom_14 ?_
  refine run_iconst (v := 0) dX1_copyFrom_17 rfl ?_
  refine run_bipush (v := 8) dX1_copyFrom_18 rfl ?_
  refine run_copyi' 0 0 8 rfl rfl rfl mc_X1_22 (ch_1_1 hn1) (ch_1_1 hn0) (cl_1_1 hn1) (cl_1_1 hn0) (by decide) (by decide) (by decide) (by decide) (by decide) (RF.lt (HX1_copyFrom_0 d)) (Nat.le_of_ble_eq_true rfl) dX1_copyFrom_20 ?_
  refine run_aload_n 1 dX1_copyFrom_23 rfl rfl ?_
  refine run_getr fl_X1_15 hn1 (by decide) rfl (cs_1_2 hn1) dX1_copyFrom_24 ?_
  refine run_iconst (v := 0) dX1_copyFrom_27 rfl ?_
  refine run_aload_n 0 dX1_copyFrom_28 rfl rfl ?_
  refine run_getr fl_X1_15 hn0 (by decide) rfl (cs_1_2 hn0) dX1_copyFrom_29 ?_
  refine run_iconst (v := 0) dX1_copyFrom_32 rfl ?_
  refine run_bipush (v := 8) dX1_copyFrom_33 rfl ?_
  refine run_copyi' 0 0 8 rfl rfl rfl mc_X1_22 (ch_1_2 hn1) (ch_1_2 hn0) (cl_1_2 hn1) (cl_1_2 hn0) (by decide) (by decide) (by decide) (by decide) (by decide) (RF.lt (HX1_copyFrom_0 d)) (Nat.le_of_ble_eq_true rfl) dX1_copyFrom_35 ?_
  exact run_vret dX1_copyFrom_38 ⟨rfl, Option.some.inj h⟩
def HX3_canTurnEpoch : Nat := 1
theorem HX3_canTurnEpoch_0 (d : Nat) : 0 < d + HX3_canTurnEpoch := Nat.lt_of_lt_of_le (by decide) (Nat.le_add_left _ d)
def lX3_canTurnEpoch_13  : Nat → Int32 → Mem → Option ((Bool × Mem) ⊕ (Mem))
  | 0, _, _ => none
  | n + 1, x1, σ => if (σ 146 2) ≤ x1 then (some (.inr σ)) else (gd (inb x1 4) (if (σ (158 + 4 * (Int32.toNatClampNeg x1)) 0) = (-1) then (lX3_canTurnEpoch_13 n (x1 + 1) σ) else (gd (inb x1 4) (if (σ 146 3) ≤ (σ (158 + 4 * (Int32.toNatClampNeg x1)) 1) then (lX3_canTurnEpoch_13 n (x1 + 1) σ) else (some (.inl (false, σ)))))))
set_option maxRecDepth 20000 in
theorem lpX3_canTurnEpoch_13 (G : GT) (d : Nat)   {K : Option Value → Mem → Prop} : ∀ (n : Nat) (x1 : Int32) (σ : Mem) (o : (Bool × Mem) ⊕ (Mem)), lX3_canTurnEpoch_13 n x1 σ = some o → (∀ r, o = .inl r → K (some (.int (b2 r.1))) r.2) → (∀ t, o = .inr t → Run G RX3 cX3_canTurnEpoch 2 (some .boolean) (mF G (d + HX3_canTurnEpoch) K) 58 [] [] t) → Run G RX3 cX3_canTurnEpoch 2 (some .boolean) (mF G (d + HX3_canTurnEpoch) K) 13 [(0, .ref (gA G 146)), (1, .int x1)] [] σ := by
  intro n
  induction n with
  | zero => intro x1 σ o h; exact absurd h (by simp [lX3_canTurnEpoch_13])
  | succ n ih =>
    intro x1 σ o h kr kx
    rw [lX3_canTurnEpoch_13] at h
    refine run_iload_n 1 dX3_canTurnEpoch_13 rfl rfl ?_
    refine run_aload_n 0 dX3_canTurnEpoch_14 rfl rfl ?_
    refine run_geti fl_X3_67 is_146 (by decide) rfl dX3_canTurnEpoch_15 ?_
    refine run_icmp_ge 58 dX3_canTurnEpoch_18 (by decide) (fun c5 => ?_) (fun c5 => ?_)
    · rw [if_pos c5] at h
      refine run_forget [] rfl ?_
      exact kx _ (Option.some.inj h).symm
    · rw [if_neg c5] at h
      refine run_aload_n 0 dX3_canTurnEpoch_21 rfl rfl ?_
      refine run_getr fl_X3_29 is_146 (by decide) rfl ce_146_9 dX3_canTurnEpoch_22 ?_
      refine run_iload_n 1 dX3_canTurnEpoch_25 rfl rfl ?_
      obtain ⟨g6, h⟩ := gd_s h
      refine run_aald' (j := (Int32.toNatClampNeg x1)) is_152 (by decide) (by decide) (t0 := 9) rfl ln_152 g6 rfl (es_152 _) dX3_canTurnEpoch_26 ?_
      refine run_geti fl_X3_132 (el_152 (inb_lt g6)) (by decide) rfl dX3_canTurnEpoch_27 ?_
      refine run_iconst (v := -1) dX3_canTurnEpoch_30 rfl ?_
      refine run_icmp_eq 52 dX3_canTurnEpoch_31 (by decide) (fun c7 => ?_) (fun c7 => ?_)
      · rw [if_pos c7] at h
        refine run_iinc 1 [(0, .ref (gA G 146)), (1, .int (x1 + 1))] [1, 0] dX3_canTurnEpoch_52 rfl rfl (by decide) rfl ?_
        refine run_goto 13 dX3_canTurnEpoch_55 (by decide) ?_
        exact ih _ _ _ h kr kx
      · rw [if_neg c7] at h
        refine run_aload_n 0 dX3_canTurnEpoch_34 rfl rfl ?_
        refine run_getr fl_X3_29 is_146 (by decide) rfl ce_146_9 dX3_canTurnEpoch_35 ?_
        refine run_iload_n 1 dX3_canTurnEpoch_38 rfl rfl ?_
        obtain ⟨g8, h⟩ := gd_s h
        refine run_aald' (j := (Int32.toNatClampNeg x1)) is_152 (by decide) (by decide) (t0 := 9) rfl ln_152 g8 rfl (es_152 _) dX3_canTurnEpoch_39 ?_
        refine run_geti fl_X3_144 (el_152 (inb_lt g8)) (by decide) rfl dX3_canTurnEpoch_40 ?_
        refine run_aload_n 0 dX3_canTurnEpoch_43 rfl rfl ?_
        refine run_geti fl_X3_68 is_146 (by decide) rfl dX3_canTurnEpoch_44 ?_
        refine run_icmp_ge 52 dX3_canTurnEpoch_47 (by decide) (fun c9 => ?_) (fun c9 => ?_)
        · rw [if_pos c9] at h
          refine run_iinc 1 [(0, .ref (gA G 146)), (1, .int (x1 + 1))] [1, 0] dX3_canTurnEpoch_52 rfl rfl (by decide) rfl ?_
          refine run_goto 13 dX3_canTurnEpoch_55 (by decide) ?_
          exact ih _ _ _ h kr kx
        · rw [if_neg c9] at h
          refine run_iconst (v := 0) dX3_canTurnEpoch_50 rfl ?_
          exact run_bret (b := false) dX3_canTurnEpoch_51 (kr _ (Option.some.inj h).symm)
def fX3_canTurnEpoch  (σ : Mem) : Option (Bool × Mem) := if (σ 146 3) < 50 then ((lX3_canTurnEpoch_13 FU 0 σ).bind fun q10 => Sum.elim (fun q12 => some q12) (fun q10 => some (true, q10)) q10) else (some (false, σ))
set_option maxRecDepth 20000 in
theorem sX3_canTurnEpoch (G : GT) (d : Nat)   {σ : Mem} {o : (Bool × Mem)} (h : fX3_canTurnEpoch σ = some o) : Spec G yX3_canTurnEpoch cX3_canTurnEpoch 2 (some .boolean) (d + HX3_canTurnEpoch) [.ref (gA G 146)] σ (kB fun x z => (x, z) = o) := by
  refine spec_run (by decide) (Nat.le_of_ble_eq_true rfl) ?_
  unfold fX3_canTurnEpoch at h
  show Run G RX3 cX3_canTurnEpoch 2 (some .boolean) _ 0 [(0, .ref (gA G 146))] [] σ
  refine run_aload_n 0 dX3_canTurnEpoch_0 rfl rfl ?_
  refine run_geti fl_X3_68 is_146 (by decide) rfl dX3_canTurnEpoch_1 ?_
  refine run_bipush (v := 50) dX3_canTurnEpoch_4 rfl ?_
  refine run_icmp_lt 11 dX3_canTurnEpoch_6 (by decide) (fun c1 => ?_) (fun c1 => ?_)
  · rw [if_pos c1] at h
    refine run_iconst (v := 0) dX3_canTurnEpoch_11 rfl ?_
    refine run_istore_n [(0, .ref (gA G 146)), (1, .int 0)] [1, 0] dX3_canTurnEpoch_12 rfl (by decide) rfl ?_
    obtain ⟨q10a, h11, h⟩ := Option.bind_eq_some_iff.mp h
    refine lpX3_canTurnEpoch_13 G d _ _ _ _ h11 (fun q12 e9 => ?_) (fun q10 e9 => ?_)
    · rw [e9, Sum.elim_inl] at h
      rw [← Option.some.inj h]
      exact ⟨_, rfl, rfl⟩
    · rw [e9, Sum.elim_inr] at h
      refine run_iconst (v := 1) dX3_canTurnEpoch_58 rfl ?_
      exact run_bret (b := true) dX3_canTurnEpoch_59 ⟨_, rfl, Option.some.inj h⟩
  · rw [if_neg c1] at h
    refine run_iconst (v := 0) dX3_canTurnEpoch_9 rfl ?_
    exact run_bret (b := false) dX3_canTurnEpoch_10 ⟨_, rfl, Option.some.inj h⟩
def HX3_writeToDisk : Nat := 1
theorem HX3_writeToDisk_0 (d : Nat) : 0 < d + HX3_writeToDisk := Nat.lt_of_lt_of_le (by decide) (Nat.le_add_left _ d)
def lX3_writeToDisk_2 (x1 : Int32) : Nat → Int32 → Mem → Option (Mem)
  | 0, _, _ => none
  | n + 1, x2, σ => if (σ 146 11) ≤ x2 then (some σ) else (gd (inb x2 30) ((if (σ (174 + 2 * (Int32.toNatClampNeg x2)) 0) = x1 then (gd (inb x2 30) (some (st2 σ (174 + 2 * (Int32.toNatClampNeg x2)) 8 1))) else (some σ) : Option (Mem)).bind fun q10 => lX3_writeToDisk_2 x1 n (x2 + 1) q10))
set_option maxRecDepth 20000 in
theorem lpX3_writeToDisk_2 (G : GT) (d : Nat) (x1 : Int32)  {K : Option Value → Mem → Prop} : ∀ (n : Nat) (x2 : Int32) (σ : Mem) (o : Mem), lX3_writeToDisk_2 x1 n x2 σ = some o → (Run G RX3 cX3_writeToDisk 3 none (mF G (d + HX3_writeToDisk) K) 39 [(0, .ref (gA G 146)), (1, .int x1)] [] o) → Run G RX3 cX3_writeToDisk 3 none (mF G (d + HX3_writeToDisk) K) 2 [(0, .ref (gA G 146)), (1, .int x1), (2, .int x2)] [] σ := by
  intro n
  induction n with
  | zero => intro x2 σ o h; exact absurd h (by simp [lX3_writeToDisk_2])
  | succ n ih =>
    intro x2 σ o h kx
    rw [lX3_writeToDisk_2] at h
    refine run_iload_n 2 dX3_writeToDisk_2 rfl rfl ?_
    refine run_aload_n 0 dX3_writeToDisk_3 rfl rfl ?_
    refine run_geti fl_X3_86 is_146 (by decide) rfl dX3_writeToDisk_4 ?_
    refine run_icmp_ge 39 dX3_writeToDisk_7 (by decide) (fun c6 => ?_) (fun c6 => ?_)
    · rw [if_pos c6] at h
      rw [← Option.some.inj h] at kx
      refine run_forget [0, 1] rfl ?_
      exact kx
    · rw [if_neg c6] at h
      refine run_aload_n 0 dX3_writeToDisk_10 rfl rfl ?_
      refine run_getr fl_X3_35 is_146 (by decide) rfl ce_146_10 dX3_writeToDisk_11 ?_
      refine run_iload_n 2 dX3_writeToDisk_14 rfl rfl ?_
      obtain ⟨g7, h⟩ := gd_s h
      refine run_aald' (j := (Int32.toNatClampNeg x2)) is_153 (by decide) (by decide) (t0 := 4) rfl ln_153 g7 rfl (es_153 _) dX3_writeToDisk_15 ?_
      refine run_geti fl_X3_147 (el_153 (inb_lt g7)) (by decide) rfl dX3_writeToDisk_16 ?_
      refine run_iload_n 1 dX3_writeToDisk_19 rfl rfl ?_
      obtain ⟨q10, h, h9⟩ := Option.bind_eq_some_iff.mp h
      have hj11 : Run G RX3 cX3_writeToDisk 3 none (mF G (d + HX3_writeToDisk) K) 33 [(0, .ref (gA G 146)), (1, .int x1), (2, .int x2)] [] q10 := by
        clear h
        have h := h9
        clear h9
        refine run_iinc 2 [(0, .ref (gA G 146)), (1, .int x1), (2, .int (x2 + 1))] [1, 2, 0] dX3_writeToDisk_33 rfl rfl (by decide) rfl ?_
        refine run_goto 2 dX3_writeToDisk_36 (by decide) ?_
        exact ih _ _ _ h kx
      clear h9
      refine run_icmp_ne 33 dX3_writeToDisk_20 (by decide) (fun c8 => ?_) (fun c8 => ?_)
      · rw [if_neg c8] at h
        rw [← Option.some.inj h] at hj11
        exact hj11
      · rw [if_pos c8] at h
        refine run_aload_n 0 dX3_writeToDisk_23 rfl rfl ?_
        refine run_getr fl_X3_35 is_146 (by decide) rfl ce_146_10 dX3_writeToDisk_24 ?_
        refine run_iload_n 2 dX3_writeToDisk_27 rfl rfl ?_
        obtain ⟨g9, h⟩ := gd_s h
        refine run_aald' (j := (Int32.toNatClampNeg x2)) is_153 (by decide) (by decide) (t0 := 4) rfl ln_153 g9 rfl (es_153 _) dX3_writeToDisk_28 ?_
        refine run_iconst (v := 1) dX3_writeToDisk_29 rfl ?_
        refine run_putz fp_X3_150 (el_153 (inb_lt g9)) (by decide) rfl (by decide) dX3_writeToDisk_30 ?_
        rw [← Option.some.inj h] at hj11
        exact hj11
def fX3_writeToDisk (x1 : Int32) (σ : Mem) : Option Mem := (lX3_writeToDisk_2 x1 FU 0 σ).bind fun q12 => gd (inb x1 4) (some (st2 q12 (158 + 4 * (Int32.toNatClampNeg x1)) 5 ((q12 146 3) - 1)))
set_option maxRecDepth 20000 in
theorem sX3_writeToDisk (G : GT) (d : Nat) {x1 : Int32}  {σ : Mem} {o : Mem} (h : fX3_writeToDisk x1 σ = some o) : Spec G yX3_writeToDisk cX3_writeToDisk 3 none (d + HX3_writeToDisk) [.ref (gA G 146), .int x1] σ (kV fun z => z = o) := by
  refine spec_run (by decide) (Nat.le_of_ble_eq_true rfl) ?_
  unfold fX3_writeToDisk at h
  show Run G RX3 cX3_writeToDisk 3 none _ 0 [(0, .ref (gA G 146)), (1, .int x1)] [] σ
  refine run_iconst (v := 0) dX3_writeToDisk_0 rfl ?_
  refine run_istore_n [(0, .ref (gA G 146)), (1, .int x1), (2, .int 0)] [1, 2, 0] dX3_writeToDisk_1 rfl (by decide) rfl ?_
  obtain ⟨q12, h14, h⟩ := Option.bind_eq_some_iff.mp h
  refine lpX3_writeToDisk_2 G d _ _ _ _ _ h14 ?_
  refine run_aload_n 0 dX3_writeToDisk_39 rfl rfl ?_
  refine run_getr fl_X3_29 is_146 (by decide) rfl ce_146_9 dX3_writeToDisk_40 ?_
  refine run_iload_n 1 dX3_writeToDisk_43 rfl rfl ?_
  obtain ⟨g13, h⟩ := gd_s h
  refine run_aald' (j := (Int32.toNatClampNeg x1)) is_152 (by decide) (by decide) (t0 := 9) rfl ln_152 g13 rfl (es_152 _) dX3_writeToDisk_44 ?_
  refine run_aload_n 0 dX3_writeToDisk_45 rfl rfl ?_
  refine run_geti fl_X3_68 is_146 (by decide) rfl dX3_writeToDisk_46 ?_
  refine run_iconst (v := 1) dX3_writeToDisk_49 rfl ?_
  refine run_isub dX3_writeToDisk_50 ?_
  refine run_puti fp_X3_154 (el_152 (inb_lt g13)) (by decide) rfl dX3_writeToDisk_51 ?_
  exact run_vret dX3_writeToDisk_54 ⟨rfl, Option.some.inj h⟩
def HX3_nodeOf : Nat := 1
theorem HX3_nodeOf_0 (d : Nat) : 0 < d + HX3_nodeOf := Nat.lt_of_lt_of_le (by decide) (Nat.le_add_left _ d)
def fX3_nodeOf (x1 : Int32) (σ : Mem) : Option (Int32 × Mem) := gd (isB (rfN (σ 146 0)) 7) (if (σ (rfN (σ 146 0)) 0) ≤ 0 then (some (x1, σ)) else (gd (isB (rfN (σ 146 0)) 7) (gd (decide (¬ (σ (rfN (σ 146 0)) 0) = 0)) (some ((x1 / (σ (rfN (σ 146 0)) 0)), σ)))))
set_option maxRecDepth 20000 in
theorem sX3_nodeOf (G : GT) (d : Nat) {x1 : Int32}  {σ : Mem} {o : (Int32 × Mem)} (h : fX3_nodeOf x1 σ = some o) : Spec G yX3_nodeOf cX3_nodeOf 2 (some .int) (d + HX3_nodeOf) [.ref (gA G 146), .int x1] σ (kI fun x z => (x, z) = o) := by
  refine spec_run (by decide) (Nat.le_of_ble_eq_true rfl) ?_
  unfold fX3_nodeOf at h
  show Run G RX3 cX3_nodeOf 2 (some .int) _ 0 [(0, .ref (gA G 146)), (1, .int x1)] [] σ
  refine run_aload_n 0 dX3_nodeOf_0 rfl rfl ?_
  obtain ⟨g1, h⟩ := gd_s h
  refine run_getd fl_X3_51 is_146 (by decide) rfl dX3_nodeOf_1 ?_
  refine run_geti fl_X3_199 (isB_Is g1) (by decide) rfl dX3_nodeOf_4 ?_
  refine run_if_le 22 dX3_nodeOf_7 (by decide) (fun c2 => ?_) (fun c2 => ?_)
  · rw [if_pos c2] at h
    refine run_iload_n 1 dX3_nodeOf_22 rfl rfl ?_
    exact run_iret dX3_nodeOf_23 ⟨_, rfl, Option.some.inj h⟩
  · rw [if_neg c2] at h
    refine run_iload_n 1 dX3_nodeOf_10 rfl rfl ?_
    refine run_aload_n 0 dX3_nodeOf_11 rfl rfl ?_
    obtain ⟨g3, h⟩ := gd_s h
    refine run_getd fl_X3_51 is_146 (by decide) rfl dX3_nodeOf_12 ?_
    refine run_geti fl_X3_199 (isB_Is g3) (by decide) rfl dX3_nodeOf_15 ?_
    obtain ⟨g4, h⟩ := gd_s h
    refine run_idiv dX3_nodeOf_18 (of_decide_eq_true g4) ?_
    refine run_goto 23 dX3_nodeOf_19 (by decide) ?_
    exact run_iret dX3_nodeOf_23 ⟨_, rfl, Option.some.inj h⟩
def HX3_viewOf : Nat := 1
theorem HX3_viewOf_0 (d : Nat) : 0 < d + HX3_viewOf := Nat.lt_of_lt_of_le (by decide) (Nat.le_add_left _ d)
def fX3_viewOf (n1 : Nat) (x2 : Int32) (σ : Mem) : Option (Int32 × Mem) := if (((σ n1 8) >>> (x2 &&& 31)) &&& 1) = 0 then (gd (inb x2 10) (some ((σ 147 (Int32.toNatClampNeg x2)), σ))) else (gd (inb x2 10) (some ((σ (n1 + 3) (Int32.toNatClampNeg x2)), σ)))
set_option maxRecDepth 20000 in
theorem sX3_viewOf (G : GT) (d : Nat) {n1 : Nat} {x2 : Int32} (hn1 : Is n1 10) {σ : Mem} {o : (Int32 × Mem)} (h : fX3_viewOf n1 x2 σ = some o) : Spec G yX3_viewOf cX3_viewOf 3 (some .int) (d + HX3_viewOf) [.ref (gA G 146), .ref (gA G n1), .int x2] σ (kI fun x z => (x, z) = o) := by
  refine spec_run (by decide) (Nat.le_of_ble_eq_true rfl) ?_
  unfold fX3_viewOf at h
  show Run G RX3 cX3_viewOf 3 (some .int) _ 0 [(0, .ref (gA G 146)), (1, .ref (gA G n1)), (2, .int x2)] [] σ
  refine run_aload_n 1 dX3_viewOf_0 rfl rfl ?_
  refine run_geti fl_X3_202 hn1 (by decide) rfl dX3_viewOf_1 ?_
  refine run_iload_n 2 dX3_viewOf_4 rfl rfl ?_
  refine run_ishr dX3_viewOf_5 ?_
  refine run_iconst (v := 1) dX3_viewOf_6 rfl ?_
  refine run_iand dX3_viewOf_7 ?_
  refine run_if_eq 20 dX3_viewOf_8 (by decide) (fun c1 => ?_) (fun c1 => ?_)
  · rw [if_pos c1] at h
    refine run_aload_n 0 dX3_viewOf_20 rfl rfl ?_
    refine run_getr fl_X3_9 is_146 (by decide) rfl ce_146_4 dX3_viewOf_21 ?_
    refine run_iload_n 2 dX3_viewOf_24 rfl rfl ?_
    obtain ⟨g2, h⟩ := gd_s h
    refine run_iald' is_147 ln_147 g2 rfl dX3_viewOf_25 ?_
    exact run_iret dX3_viewOf_26 ⟨_, rfl, Option.some.inj h⟩
  · rw [if_neg c1] at h
    refine run_aload_n 1 dX3_viewOf_11 rfl rfl ?_
    refine run_getr fl_X3_203 hn1 (by decide) rfl (cs_10_11 hn1) dX3_viewOf_12 ?_
    refine run_iload_n 2 dX3_viewOf_15 rfl rfl ?_
    obtain ⟨g3, h⟩ := gd_s h
    refine run_iald' (ch_10_11 hn1) (cl_10_11 hn1) g3 rfl dX3_viewOf_16 ?_
    refine run_goto 26 dX3_viewOf_17 (by decide) ?_
    exact run_iret dX3_viewOf_26 ⟨_, rfl, Option.some.inj h⟩
def HX3_noteRefusal : Nat := 1
theorem HX3_noteRefusal_0 (d : Nat) : 0 < d + HX3_noteRefusal := Nat.lt_of_lt_of_le (by decide) (Nat.le_add_left _ d)
def fX3_noteRefusal (n1 : Nat) (x2 : Int32) (x3 : Int32) (x4 : Int32) (σ : Mem) : Option Mem := gd (inb (σ 146 12) 60) (gd (inb ((st2 σ 154 (Int32.toNatClampNeg (σ 146 12)) x2) 146 12) 60) (gd (inb ((st2 (st2 σ 154 (Int32.toNatClampNeg (σ 146 12)) x2) 155 (Int32.toNatClampNeg ((st2 σ 154 (Int32.toNatClampNeg (σ 146 12)) x2) 146 12)) x3) 146 12) 60) ((some (st2 (st2 (st2 σ 154 (Int32.toNatClampNeg (σ 146 12)) x2) 155 (Int32.toNatClampNeg ((st2 σ 154 (Int32.toNatClampNeg (σ 146 12)) x2) 146 12)) x3) 156 (Int32.toNatClampNeg ((st2 (st2 σ 154 (Int32.toNatClampNeg (σ 146 12)) x2) 155 (Int32.toNatClampNeg ((st2 σ 154 (Int32.toNatClampNeg (σ 146 12)) x2) 146 12)) x3) 146 12)) x4)).bind fun s4 => some (st2 s4 146 17 ((s4 146 17) + (s4 n1 2))))))
set_option maxRecDepth 20000 in
theorem sX3_noteRefusal (G : GT) (d : Nat) {n1 : Nat} {x2 : Int32} {x3 : Int32} {x4 : Int32} (hn1 : Is n1 10) {σ : Mem} {o : Mem} (h : fX3_noteRefusal n1 x2 x3 x4 σ = some o) : Spec G yX3_noteRefusal cX3_noteRefusal 5 none (d + HX3_noteRefusal) [.ref (gA G 146), .ref (gA G n1), .int x2, .int x3, .int x4] σ (kV fun z => z = o) := by
  refine spec_run (by decide) (Nat.le_of_ble_eq_true rfl) ?_
  unfold fX3_noteRefusal at h
  show Run G RX3 cX3_noteRefusal 5 none _ 0 [(0, .ref (gA G 146)), (1, .ref (gA G n1)), (2, .int x2), (3, .int x3), (4, .int x4)] [] σ
  refine run_aload_n 0 dX3_noteRefusal_0 rfl rfl ?_
  refine run_getr fl_X3_39 is_146 (by decide) rfl ce_146_13 dX3_noteRefusal_1 ?_
  refine run_aload_n 0 dX3_noteRefusal_4 rfl rfl ?_
  refine run_geti fl_X3_89 is_146 (by decide) rfl dX3_noteRefusal_5 ?_
  refine run_iload_n 2 dX3_noteRefusal_8 rfl rfl ?_
  obtain ⟨g1, h⟩ := gd_s h
  refine run_iast' is_154 ln_154 g1 rfl dX3_noteRefusal_9 ?_
  refine run_aload_n 0 dX3_noteRefusal_10 rfl rfl ?_
  refine run_getr fl_X3_42 is_146 (by decide) rfl ce_146_14 dX3_noteRefusal_11 ?_
  refine run_aload_n 0 dX3_noteRefusal_14 rfl rfl ?_
  refine run_geti fl_X3_89 is_146 (by decide) rfl dX3_noteRefusal_15 ?_
  refine run_iload_n 3 dX3_noteRefusal_18 rfl rfl ?_
  obtain ⟨g2, h⟩ := gd_s h
  refine run_iast' is_155 ln_155 g2 rfl dX3_noteRefusal_19 ?_
  refine run_aload_n 0 dX3_noteRefusal_20 rfl rfl ?_
  refine run_getr fl_X3_45 is_146 (by decide) rfl ce_146_15 dX3_noteRefusal_21 ?_
  refine run_aload_n 0 dX3_noteRefusal_24 rfl rfl ?_
  refine run_geti fl_X3_89 is_146 (by decide) rfl dX3_noteRefusal_25 ?_
  refine run_iload 4 dX3_noteRefusal_28 rfl ?_
  obtain ⟨g3, h⟩ := gd_s h
  refine run_iast' is_156 ln_156 g3 rfl dX3_noteRefusal_30 ?_
  rw [Option.bind_some] at h
  refine run_mem (fun s4 es4 => ?_)
  rw [← es4] at h
  refine run_aload_n 0 dX3_noteRefusal_31 rfl rfl ?_
  refine run_dup dX3_noteRefusal_32 rfl ?_
  refine run_geti fl_X3_92 is_146 (by decide) rfl dX3_noteRefusal_33 ?_
  refine run_aload_n 1 dX3_noteRefusal_36 rfl rfl ?_
  refine run_geti fl_X3_115 hn1 (by decide) rfl dX3_noteRefusal_37 ?_
  refine run_iadd dX3_noteRefusal_40 ?_
  refine run_puti fp_X3_92 is_146 (by decide) rfl dX3_noteRefusal_41 ?_
  exact run_vret dX3_noteRefusal_44 ⟨rfl, Option.some.inj h⟩
def HX3_linesOf : Nat := 1
theorem HX3_linesOf_0 (d : Nat) : 0 < d + HX3_linesOf := Nat.lt_of_lt_of_le (by decide) (Nat.le_add_left _ d)
def lX3_linesOf_5 (x1 : Int32) (x2 : Bool) : Nat → Int32 → Int32 → Mem → Option (Int32 × Mem)
  | 0, _, _, _ => none
  | n + 1, x3, x4, σ => if (σ 146 11) ≤ x4 then (some (x3, σ)) else (gd (inb x4 30) ((if (σ (174 + 2 * (Int32.toNatClampNeg x4)) 0) = x1 then (gd (inb x4 30) (if (σ (174 + 2 * (Int32.toNatClampNeg x4)) 9) = 0 then (gd (inb x4 30) (if (σ (174 + 2 * (Int32.toNatClampNeg x4)) 8) = 0 then (if x2 = true then (some x3) else (some (x3 + 1))) else (some (x3 + 1)))) else (some x3))) else (some x3) : Option (Int32)).bind fun q18 => lX3_linesOf_5 x1 x2 n q18 (x4 + 1) σ))
set_option maxRecDepth 20000 in
theorem lpX3_linesOf_5 (G : GT) (d : Nat) (x1 : Int32) (x2 : Bool)  {K : Option Value → Mem → Prop} : ∀ (n : Nat) (x3 : Int32) (x4 : Int32) (σ : Mem) (o : Int32 × Mem), lX3_linesOf_5 x1 x2 n x3 x4 σ = some o → (Run G RX3 cX3_linesOf 5 (some .int) (mF G (d + HX3_linesOf) K) 67 [(3, .int (o.1))] [] (o.2)) → Run G RX3 cX3_linesOf 5 (some .int) (mF G (d + HX3_linesOf) K) 5 [(0, .ref (gA G 146)), (1, .int x1), (2, .int (b2 x2)), (3, .int x3), (4, .int x4)] [] σ := by
  intro n
  induction n with
  | zero => intro x3 x4 σ o h; exact absurd h (by simp [lX3_linesOf_5])
  | succ n ih =>
    intro x3 x4 σ o h kx
    rw [lX3_linesOf_5] at h
    refine run_iload 4 dX3_linesOf_5 rfl ?_
    refine run_aload_n 0 dX3_linesOf_7 rfl rfl ?_
    refine run_geti fl_X3_86 is_146 (by decide) rfl dX3_linesOf_8 ?_
    refine run_icmp_ge 67 dX3_linesOf_11 (by decide) (fun c10 => ?_) (fun c10 => ?_)
    · rw [if_pos c10] at h
      rw [← Option.some.inj h] at kx
      refine run_forget [3] rfl ?_
      exact kx
    · rw [if_neg c10] at h
      refine run_aload_n 0 dX3_linesOf_14 rfl rfl ?_
      refine run_getr fl_X3_35 is_146 (by decide) rfl ce_146_10 dX3_linesOf_15 ?_
      refine run_iload 4 dX3_linesOf_18 rfl ?_
      obtain ⟨g11, h⟩ := gd_s h
      refine run_aald' (j := (Int32.toNatClampNeg x4)) is_153 (by decide) (by decide) (t0 := 4) rfl ln_153 g11 rfl (es_153 _) dX3_linesOf_20 ?_
      refine run_geti fl_X3_147 (el_153 (inb_lt g11)) (by decide) rfl dX3_linesOf_21 ?_
      refine run_iload_n 1 dX3_linesOf_24 rfl rfl ?_
      obtain ⟨q18, h, h9⟩ := Option.bind_eq_some_iff.mp h
      have hj19 : Run G RX3 cX3_linesOf 5 (some .int) (mF G (d + HX3_linesOf) K) 61 [(0, .ref (gA G 146)), (1, .int x1), (2, .int (b2 x2)), (3, .int q18), (4, .int x4)] [] σ := by
        clear h
        have h := h9
        clear h9
        refine run_iinc 4 [(0, .ref (gA G 146)), (1, .int x1), (2, .int (b2 x2)), (3, .int q18), (4, .int (x4 + 1))] [1, 2, 3, 4, 0] dX3_linesOf_61 rfl rfl (by decide) rfl ?_
        refine run_goto 5 dX3_linesOf_64 (by decide) ?_
        exact ih _ _ _ _ h kx
      clear h9
      refine run_icmp_ne 61 dX3_linesOf_25 (by decide) (fun c12 => ?_) (fun c12 => ?_)
      · rw [if_neg c12] at h
        rw [← Option.some.inj h] at hj19
        exact hj19
      · rw [if_pos c12] at h
        refine run_aload_n 0 dX3_linesOf_28 rfl rfl ?_
        refine run_getr fl_X3_35 is_146 (by decide) rfl ce_146_10 dX3_linesOf_29 ?_
        refine run_iload 4 dX3_linesOf_32 rfl ?_
        obtain ⟨g13, h⟩ := gd_s h
        refine run_aald' (j := (Int32.toNatClampNeg x4)) is_153 (by decide) (by decide) (t0 := 4) rfl ln_153 g13 rfl (es_153 _) dX3_linesOf_34 ?_
        refine run_geti fl_X3_169 (el_153 (inb_lt g13)) (by decide) rfl dX3_linesOf_35 ?_
        refine run_if_ne 61 dX3_linesOf_38 (by decide) (fun c14 => ?_) (fun c14 => ?_)
        · rw [if_neg c14] at h
          rw [← Option.some.inj h] at hj19
          exact hj19
        · rw [if_pos c14] at h
          refine run_aload_n 0 dX3_linesOf_41 rfl rfl ?_
          refine run_getr fl_X3_35 is_146 (by decide) rfl ce_146_10 dX3_linesOf_42 ?_
          refine run_iload 4 dX3_linesOf_45 rfl ?_
          obtain ⟨g15, h⟩ := gd_s h
          refine run_aald' (j := (Int32.toNatClampNeg x4)) is_153 (by decide) (by decide) (t0 := 4) rfl ln_153 g15 rfl (es_153 _) dX3_linesOf_47 ?_
          refine run_geti fl_X3_150 (el_153 (inb_lt g15)) (by decide) rfl dX3_linesOf_48 ?_
          refine run_if_ne 58 dX3_linesOf_51 (by decide) (fun c16 => ?_) (fun c16 => ?_)
          · rw [if_neg c16] at h
            refine run_iinc 3 [(0, .ref (gA G 146)), (1, .int x1), (2, .int (b2 x2)), (3, .int (x3 + 1)), (4, .int x4)] [1, 2, 3, 0, 4] dX3_linesOf_58 rfl rfl (by decide) rfl ?_
            rw [← Option.some.inj h] at hj19
            exact hj19
          · rw [if_pos c16] at h
            refine run_iload_n 2 dX3_linesOf_54 rfl rfl ?_
            refine run_ifb_ne 61 dX3_linesOf_55 (by decide) (fun c17 => ?_) (fun c17 => ?_)
            · rw [if_pos c17] at h
              rw [← Option.some.inj h] at hj19
              exact hj19
            · rw [if_neg c17] at h
              refine run_iinc 3 [(0, .ref (gA G 146)), (1, .int x1), (2, .int (b2 x2)), (3, .int (x3 + 1)), (4, .int x4)] [1, 2, 3, 0, 4] dX3_linesOf_58 rfl rfl (by decide) rfl ?_
              rw [← Option.some.inj h] at hj19
              exact hj19
def fX3_linesOf (x1 : Int32) (x2 : Bool) (σ : Mem) : Option (Int32 × Mem) := (lX3_linesOf_5 x1 x2 FU 0 0 σ).bind fun q20 => some ((q20.1), (q20.2))
set_option maxRecDepth 20000 in
theorem sX3_linesOf (G : GT) (d : Nat) {x1 : Int32} {x2 : Bool}  {σ : Mem} {o : (Int32 × Mem)} (h : fX3_linesOf x1 x2 σ = some o) : Spec G yX3_linesOf cX3_linesOf 5 (some .int) (d + HX3_linesOf) [.ref (gA G 146), .int x1, .int (b2 x2)] σ (kI fun x z => (x, z) = o) := by
  refine spec_run (by decide) (Nat.le_of_ble_eq_true rfl) ?_
  unfold fX3_linesOf at h
  show Run G RX3 cX3_linesOf 5 (some .int) _ 0 [(0, .ref (gA G 146)), (1, .int x1), (2, .int (b2 x2))] [] σ
  refine run_iconst (v := 0) dX3_linesOf_0 rfl ?_
  refine run_istore_n [(0, .ref (gA G 146)), (1, .int x1), (2, .int (b2 x2)), (3, .int 0)] [1, 2, 3, 0] dX3_linesOf_1 rfl (by decide) rfl ?_
  refine run_iconst (v := 0) dX3_linesOf_2 rfl ?_
  refine run_istore [(0, .ref (gA G 146)), (1, .int x1), (2, .int (b2 x2)), (3, .int 0), (4, .int 0)] [1, 2, 3, 4, 0] dX3_linesOf_3 (by decide) rfl ?_
  obtain ⟨q20, h21, h⟩ := Option.bind_eq_some_iff.mp h
  refine lpX3_linesOf_5 G d _ _ _ _ _ _ _ h21 ?_
  refine run_iload_n 0 dX3_linesOf_67 rfl rfl ?_
  exact run_iret dX3_linesOf_68 ⟨_, rfl, Option.some.inj h⟩
def HX3_refusals : Nat := 1
theorem HX3_refusals_0 (d : Nat) : 0 < d + HX3_refusals := Nat.lt_of_lt_of_le (by decide) (Nat.le_add_left _ d)
def lX3_refusals_4  : Nat → Int32 → Int32 → Mem → Option (Int32 × Mem)
  | 0, _, _, _ => none
  | n + 1, x1, x2, σ => if (σ 146 12) ≤ x2 then (some (x1, σ)) else (gd (inb x2 60) ((if (σ 154 (Int32.toNatClampNeg x2)) = 2 then (some (x1 + 1)) else (gd (inb x2 60) (if (σ 154 (Int32.toNatClampNeg x2)) = 3 then (some (x1 + 1)) else (some x1))) : Option (Int32)).bind fun q12 => lX3_refusals_4 n q12 (x2 + 1) σ))
set_option maxRecDepth 20000 in
theorem lpX3_refusals_4 (G : GT) (d : Nat)   {K : Option Value → Mem → Prop} : ∀ (n : Nat) (x1 : Int32) (x2 : Int32) (σ : Mem) (o : Int32 × Mem), lX3_refusals_4 n x1 x2 σ = some o → (Run G RX3 cX3_refusals 3 (some .int) (mF G (d + HX3_refusals) K) 41 [(1, .int (o.1))] [] (o.2)) → Run G RX3 cX3_refusals 3 (some .int) (mF G (d + HX3_refusals) K) 4 [(0, .ref (gA G 146)), (1, .int x1), (2, .int x2)] [] σ := by
  intro n
  induction n with
  | zero => intro x1 x2 σ o h; exact absurd h (by simp [lX3_refusals_4])
  | succ n ih =>
    intro x1 x2 σ o h kx
    rw [lX3_refusals_4] at h
    refine run_iload_n 2 dX3_refusals_4 rfl rfl ?_
    refine run_aload_n 0 dX3_refusals_5 rfl rfl ?_
    refine run_geti fl_X3_89 is_146 (by decide) rfl dX3_refusals_6 ?_
    refine run_icmp_ge 41 dX3_refusals_9 (by decide) (fun c7 => ?_) (fun c7 => ?_)
    · rw [if_pos c7] at h
      rw [← Option.some.inj h] at kx
      refine run_forget [1] rfl ?_
      exact kx
    · rw [if_neg c7] at h
      refine run_aload_n 0 dX3_refusals_12 rfl rfl ?_
      refine run_getr fl_X3_39 is_146 (by decide) rfl ce_146_13 dX3_refusals_13 ?_
      refine run_iload_n 2 dX3_refusals_16 rfl rfl ?_
      obtain ⟨g8, h⟩ := gd_s h
      refine run_iald' is_154 ln_154 g8 rfl dX3_refusals_17 ?_
      refine run_iconst (v := 2) dX3_refusals_18 rfl ?_
      obtain ⟨q12, h, h9⟩ := Option.bind_eq_some_iff.mp h
      have hj13 : Run G RX3 cX3_refusals 3 (some .int) (mF G (d + HX3_refusals) K) 35 [(0, .ref (gA G 146)), (1, .int q12), (2, .int x2)] [] σ := by
        clear h
        have h := h9
        clear h9
        refine run_iinc 2 [(0, .ref (gA G 146)), (1, .int q12), (2, .int (x2 + 1))] [1, 2, 0] dX3_refusals_35 rfl rfl (by decide) rfl ?_
        refine run_goto 4 dX3_refusals_38 (by decide) ?_
        exact ih _ _ _ _ h kx
      clear h9
      refine run_icmp_eq 32 dX3_refusals_19 (by decide) (fun c9 => ?_) (fun c9 => ?_)
      · rw [if_pos c9] at h
        refine run_iinc 1 [(0, .ref (gA G 146)), (1, .int (x1 + 1)), (2, .int x2)] [1, 0, 2] dX3_refusals_32 rfl rfl (by decide) rfl ?_
        rw [← Option.some.inj h] at hj13
        exact hj13
      · rw [if_neg c9] at h
        refine run_aload_n 0 dX3_refusals_22 rfl rfl ?_
        refine run_getr fl_X3_39 is_146 (by decide) rfl ce_146_13 dX3_refusals_23 ?_
        refine run_iload_n 2 dX3_refusals_26 rfl rfl ?_
        obtain ⟨g10, h⟩ := gd_s h
        refine run_iald' is_154 ln_154 g10 rfl dX3_refusals_27 ?_
        refine run_iconst (v := 3) dX3_refusals_28 rfl ?_
        refine run_icmp_ne 35 dX3_refusals_29 (by decide) (fun c11 => ?_) (fun c11 => ?_)
        · rw [if_neg c11] at h
          rw [← Option.some.inj h] at hj13
          exact hj13
        · rw [if_pos c11] at h
          refine run_iinc 1 [(0, .ref (gA G 146)), (1, .int (x1 + 1)), (2, .int x2)] [1, 0, 2] dX3_refusals_32 rfl rfl (by decide) rfl ?_
          rw [← Option.some.inj h] at hj13
          exact hj13
def fX3_refusals  (σ : Mem) : Option (Int32 × Mem) := (lX3_refusals_4 FU 0 0 σ).bind fun q14 => some ((q14.1), (q14.2))
set_option maxRecDepth 20000 in
theorem sX3_refusals (G : GT) (d : Nat)   {σ : Mem} {o : (Int32 × Mem)} (h : fX3_refusals σ = some o) : Spec G yX3_refusals cX3_refusals 3 (some .int) (d + HX3_refusals) [.ref (gA G 146)] σ (kI fun x z => (x, z) = o) := by
  refine spec_run (by decide) (Nat.le_of_ble_eq_true rfl) ?_
  unfold fX3_refusals at h
  show Run G RX3 cX3_refusals 3 (some .int) _ 0 [(0, .ref (gA G 146))] [] σ
  refine run_iconst (v := 0) dX3_refusals_0 rfl ?_
  refine run_istore_n [(0, .ref (gA G 146)), (1, .int 0)] [1, 0] dX3_refusals_1 rfl (by decide) rfl ?_
  refine run_iconst (v := 0) dX3_refusals_2 rfl ?_
  refine run_istore_n [(0, .ref (gA G 146)), (1, .int 0), (2, .int 0)] [1, 2, 0] dX3_refusals_3 rfl (by decide) rfl ?_
  obtain ⟨q14, h15, h⟩ := Option.bind_eq_some_iff.mp h
  refine lpX3_refusals_4 G d _ _ _ _ _ h15 ?_
  refine run_iload_n 0 dX3_refusals_41 rfl rfl ?_
  exact run_iret dX3_refusals_42 ⟨_, rfl, Option.some.inj h⟩
