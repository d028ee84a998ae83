/-! methods, translated -/
def HX3_often : Nat := 1
theorem HX3_often_0 (d : Nat) : 0 < d + HX3_often := Nat.lt_of_lt_of_le (by decide) (Nat.le_add_left _ d)
def lX3_often_23 (x1 : Int32) (x2 : Int32) (x3 : Int32) : Nat → Int32 → Int32 → Mem → Option (Int32 × Mem)
  | 0, _, _, _ => none
  | n + 1, x4, x5, σ => if (σ 146 11) ≤ x5 then (some (x4, σ)) else (gd (inb x5 30) ((if (σ (174 + 2 * (Int32.toNatClampNeg x5)) 1) = x3 then (some (x4 + 1)) else (some x4) : Option (Int32)).bind fun q24 => lX3_often_23 x1 x2 x3 n q24 (x5 + 1) σ))
set_option maxRecDepth 20000 in
theorem lpX3_often_23 (G : GT) (d : Nat) (x1 : Int32) (x2 : Int32) (x3 : Int32)  {K : Option Value → Mem → Prop} : ∀ (n : Nat) (x4 : Int32) (x5 : Int32) (σ : Mem) (o : Int32 × Mem), lX3_often_23 x1 x2 x3 n x4 x5 σ = some o → (Run G RX3 cX3_often 6 (some .int) (mF G (d + HX3_often) K) 55 [(0, .ref (gA G 146)), (1, .int x1), (2, .int x2), (3, .int x3), (4, .int (o.1))] [] (o.2)) → Run G RX3 cX3_often 6 (some .int) (mF G (d + HX3_often) K) 23 [(0, .ref (gA G 146)), (1, .int x1), (2, .int x2), (3, .int x3), (4, .int x4), (5, .int x5)] [] σ := by
  intro n
  induction n with
  | zero => intro x4 x5 σ o h; exact absurd h (by simp [lX3_often_23])
  | succ n ih =>
    intro x4 x5 σ o h kx
    rw [lX3_often_23] at h
    refine run_iload 5 dX3_often_23 rfl ?_
    refine run_aload_n 0 dX3_often_25 rfl rfl ?_
    refine run_geti fl_X3_86 is_146 (by decide) rfl dX3_often_26 ?_
    refine run_icmp_ge 55 dX3_often_29 (by decide) (fun c21 => ?_) (fun c21 => ?_)
    · rw [if_pos c21] at h
      rw [← Option.some.inj h] at kx
      refine run_forget [0, 1, 2, 3, 4] rfl ?_
      exact kx
    · rw [if_neg c21] at h
      refine run_aload_n 0 dX3_often_32 rfl rfl ?_
      refine run_getr fl_X3_35 is_146 (by decide) rfl ce_146_10 dX3_often_33 ?_
      refine run_iload 5 dX3_often_36 rfl ?_
      obtain ⟨g22, h⟩ := gd_s h
      refine run_aald' (j := (Int32.toNatClampNeg x5)) is_153 (by decide) (by decide) (t0 := 4) rfl ln_153 g22 rfl (es_153 _) dX3_often_38 ?_
      refine run_geti fl_X3_278 (el_153 (inb_lt g22)) (by decide) rfl dX3_often_39 ?_
      refine run_iload_n 3 dX3_often_42 rfl rfl ?_
      obtain ⟨q24, h, h9⟩ := Option.bind_eq_some_iff.mp h
      have hj25 : Run G RX3 cX3_often 6 (some .int) (mF G (d + HX3_often) K) 49 [(0, .ref (gA G 146)), (1, .int x1), (2, .int x2), (3, .int x3), (4, .int q24), (5, .int x5)] [] σ := by
        clear h
        have h := h9
        clear h9
        refine run_iinc 5 [(0, .ref (gA G 146)), (1, .int x1), (2, .int x2), (3, .int x3), (4, .int q24), (5, .int (x5 + 1))] [1, 2, 3, 4, 5, 0] dX3_often_49 rfl rfl (by decide) rfl ?_
        refine run_goto 23 dX3_often_52 (by decide) ?_
        exact ih _ _ _ _ h kx
      clear h9
      refine run_icmp_ne 49 dX3_often_43 (by decide) (fun c23 => ?_) (fun c23 => ?_)
      · rw [if_neg c23] at h
        rw [← Option.some.inj h] at hj25
        exact hj25
      · rw [if_pos c23] at h
        refine run_iinc 4 [(0, .ref (gA G 146)), (1, .int x1), (2, .int x2), (3, .int x3), (4, .int (x4 + 1)), (5, .int x5)] [1, 2, 3, 4, 0, 5] dX3_often_46 rfl rfl (by decide) rfl ?_
        rw [← Option.some.inj h] at hj25
        exact hj25
def lX3_often_6  : Nat → Int32 → Int32 → Int32 → Mem → Option (Int32 × Mem)
  | 0, _, _, _, _ => none
  | n + 1, x1, x2, x3, σ => gd (isB (rfN (σ 146 1)) 8) (if (σ (rfN (σ 146 1)) 0) ≤ x3 then (some (x1, σ)) else ((lX3_often_23 x1 x2 x3 FU 0 0 σ).bind fun q26 => (if (q26.1) ≤ x2 then (some (x1, x2)) else (some (x3, (q26.1))) : Option (Int32 × Int32)).bind fun q28 => lX3_often_6 n (q28.1) (q28.2) (x3 + 1) (q26.2)))
set_option maxRecDepth 20000 in
theorem lpX3_often_6 (G : GT) (d : Nat)   {K : Option Value → Mem → Prop} : ∀ (n : Nat) (x1 : Int32) (x2 : Int32) (x3 : Int32) (σ : Mem) (o : Int32 × Mem), lX3_often_6 n x1 x2 x3 σ = some o → (Run G RX3 cX3_often 6 (some .int) (mF G (d + HX3_often) K) 72 [(1, .int (o.1))] [] (o.2)) → Run G RX3 cX3_often 6 (some .int) (mF G (d + HX3_often) K) 6 [(0, .ref (gA G 146)), (1, .int x1), (2, .int x2), (3, .int x3)] [] σ := by
  intro n
  induction n with
  | zero => intro x1 x2 x3 σ o h; exact absurd h (by simp [lX3_often_6])
  | succ n ih =>
    intro x1 x2 x3 σ o h kx
    rw [lX3_often_6] at h
    refine run_iload_n 3 dX3_often_6 rfl rfl ?_
    refine run_aload_n 0 dX3_often_7 rfl rfl ?_
    obtain ⟨g15, h⟩ := gd_s h
    refine run_getd fl_X3_55 is_146 (by decide) rfl dX3_often_8 ?_
    refine run_geti fl_X3_301 (isB_Is g15) (by decide) rfl dX3_often_11 ?_
    refine run_icmp_ge 72 dX3_often_14 (by decide) (fun c16 => ?_) (fun c16 => ?_)
    · rw [if_pos c16] at h
      rw [← Option.some.inj h] at kx
      refine run_forget [1] rfl ?_
      exact kx
    · rw [if_neg c16] at h
      refine run_iconst (v := 0) dX3_often_17 rfl ?_
      refine run_istore [(0, .ref (gA G 146)), (1, .int x1), (2, .int x2), (3, .int x3), (4, .int 0)] [1, 2, 3, 4, 0] dX3_often_18 (by decide) rfl ?_
      refine run_iconst (v := 0) dX3_often_20 rfl ?_
      refine run_istore [(0, .ref (gA G 146)), (1, .int x1), (2, .int x2), (3, .int x3), (4, .int 0), (5, .int 0)] [1, 2, 3, 4, 5, 0] dX3_often_21 (by decide) rfl ?_
      obtain ⟨q26, h30, h⟩ := Option.bind_eq_some_iff.mp h
      refine lpX3_often_23 G d _ _ _ _ _ _ _ _ h30 ?_
      refine run_iload 4 dX3_often_55 rfl ?_
      refine run_iload_n 2 dX3_often_57 rfl rfl ?_
      obtain ⟨q28, h, h9⟩ := Option.bind_eq_some_iff.mp h
      have hj29 : Run G RX3 cX3_often 6 (some .int) (mF G (d + HX3_often) K) 66 [(0, .ref (gA G 146)), (1, .int (q28.1)), (2, .int (q28.2)), (3, .int x3)] [] (q26.2) := by
        clear h
        have h := h9
        clear h9
        refine run_iinc 3 [(0, .ref (gA G 146)), (1, .int (q28.1)), (2, .int (q28.2)), (3, .int (x3 + 1))] [1, 2, 3, 0] dX3_often_66 rfl rfl (by decide) rfl ?_
        refine run_goto 6 dX3_often_69 (by decide) ?_
        exact ih _ _ _ _ _ h kx
      clear h9
      refine run_icmp_le 66 dX3_often_58 (by decide) (fun c27 => ?_) (fun c27 => ?_)
      · rw [if_pos c27] at h
        rw [← Option.some.inj h] at hj29
        refine run_forget [0, 1, 2, 3] rfl ?_
        exact hj29
      · rw [if_neg c27] at h
        refine run_iload 4 dX3_often_61 rfl ?_
        refine run_istore_n [(0, .ref (gA G 146)), (2, .int (q26.1)), (3, .int x3)] [1, 0, 3] dX3_often_63 rfl (by decide) rfl ?_
        refine run_iload_n 2 dX3_often_64 rfl rfl ?_
        refine run_istore_n [(0, .ref (gA G 146)), (1, .int x3), (2, .int (q26.1)), (3, .int x3)] [1, 0, 2, 3] dX3_often_65 rfl (by decide) rfl ?_
        rw [← Option.some.inj h] at hj29
        exact hj29
def fX3_often  (σ : Mem) : Option (Int32 × Mem) := (lX3_often_6 FU (-1) 0 0 σ).bind fun q31 => some ((q31.1), (q31.2))
set_option maxRecDepth 20000 in
theorem sX3_often (G : GT) (d : Nat)   {σ : Mem} {o : (Int32 × Mem)} (h : fX3_often σ = some o) : Spec G yX3_often cX3_often 6 (some .int) (d + HX3_often) [.ref (gA G 146)] σ (kI fun x z => (x, z) = o) := by
  refine spec_run (by decide) (Nat.le_of_ble_eq_true rfl) ?_
  unfold fX3_often at h
  show Run G RX3 cX3_often 6 (some .int) _ 0 [(0, .ref (gA G 146))] [] σ
  refine run_iconst (v := -1) dX3_often_0 rfl ?_
  refine run_istore_n [(0, .ref (gA G 146)), (1, .int (-1))] [1, 0] dX3_often_1 rfl (by decide) rfl ?_
  refine run_iconst (v := 0) dX3_often_2 rfl ?_
  refine run_istore_n [(0, .ref (gA G 146)), (1, .int (-1)), (2, .int 0)] [1, 2, 0] dX3_often_3 rfl (by decide) rfl ?_
  refine run_iconst (v := 0) dX3_often_4 rfl ?_
  refine run_istore_n [(0, .ref (gA G 146)), (1, .int (-1)), (2, .int 0), (3, .int 0)] [1, 2, 3, 0] dX3_often_5 rfl (by decide) rfl ?_
  obtain ⟨q31, h32, h⟩ := Option.bind_eq_some_iff.mp h
  refine lpX3_often_6 G d _ _ _ _ _ _ h32 ?_
  refine run_iload_n 0 dX3_often_72 rfl rfl ?_
  exact run_iret dX3_often_73 ⟨_, rfl, Option.some.inj h⟩
def HX3_hot : Nat := 1
theorem HX3_hot_0 (d : Nat) : 0 < d + HX3_hot := Nat.lt_of_lt_of_le (by decide) (Nat.le_add_left _ d)
def lX3_hot_18 (x1 : Int32) (x2 : Int32) (x3 : Int32) : Nat → Int32 → Int32 → Mem → Option (Int32 × Mem)
  | 0, _, _, _ => none
  | n + 1, x4, x5, σ => if (σ 146 12) ≤ x5 then (some (x4, σ)) else (gd (inb x5 60) ((if (σ 154 (Int32.toNatClampNeg x5)) = 2 then (gd (inb x5 60) (if (σ 155 (Int32.toNatClampNeg x5)) = x3 then (some (x4 + 1)) else (some x4))) else (some x4) : Option (Int32)).bind fun q30 => lX3_hot_18 x1 x2 x3 n q30 (x5 + 1) σ))
set_option maxRecDepth 20000 in
theorem lpX3_hot_18 (G : GT) (d : Nat) (x1 : Int32) (x2 : Int32) (x3 : Int32)  {K : Option Value → Mem → Prop} : ∀ (n : Nat) (x4 : Int32) (x5 : Int32) (σ : Mem) (o : Int32 × Mem), lX3_hot_18 x1 x2 x3 n x4 x5 σ = some o → (Run G RX3 cX3_hot 6 (some .int) (mF G (d + HX3_hot) K) 58 [(0, .ref (gA G 146)), (1, .int x1), (2, .int x2), (3, .int x3), (4, .int (o.1))] [] (o.2)) → Run G RX3 cX3_hot 6 (some .int) (mF G (d + HX3_hot) K) 18 [(0, .ref (gA G 146)), (1, .int x1), (2, .int x2), (3, .int x3), (4, .int x4), (5, .int x5)] [] σ := by
  intro n
  induction n with
  | zero => intro x4 x5 σ o h; exact absurd h (by simp [lX3_hot_18])
  | succ n ih =>
    intro x4 x5 σ o h kx
    rw [lX3_hot_18] at h
    refine run_iload 5 dX3_hot_18 rfl ?_
    refine run_aload_n 0 dX3_hot_20 rfl rfl ?_
    refine run_geti fl_X3_89 is_146 (by decide) rfl dX3_hot_21 ?_
    refine run_icmp_ge 58 dX3_hot_24 (by decide) (fun c25 => ?_) (fun c25 => ?_)
    · rw [if_pos c25] at h
      rw [← Option.some.inj h] at kx
      refine run_forget [0, 1, 2, 3, 4] rfl ?_
      exact kx
    · rw [if_neg c25] at h
      refine run_aload_n 0 dX3_hot_27 rfl rfl ?_
      refine run_getr fl_X3_39 is_146 (by decide) rfl ce_146_13 dX3_hot_28 ?_
      refine run_iload 5 dX3_hot_31 rfl ?_
      obtain ⟨g26, h⟩ := gd_s h
      refine run_iald' is_154 ln_154 g26 rfl dX3_hot_33 ?_
      refine run_iconst (v := 2) dX3_hot_34 rfl ?_
      obtain ⟨q30, h, h9⟩ := Option.bind_eq_some_iff.mp h
      have hj31 : Run G RX3 cX3_hot 6 (some .int) (mF G (d + HX3_hot) K) 52 [(0, .ref (gA G 146)), (1, .int x1), (2, .int x2), (3, .int x3), (4, .int q30), (5, .int x5)] [] σ := by
        clear h
        have h := h9
        clear h9
        refine run_iinc 5 [(0, .ref (gA G 146)), (1, .int x1), (2, .int x2), (3, .int x3), (4, .int q30), (5, .int (x5 + 1))] [1, 2, 3, 4, 5, 0] dX3_hot_52 rfl rfl (by decide) rfl ?_
        refine run_goto 18 dX3_hot_55 (by decide) ?_
        exact ih _ _ _ _ h kx
      clear h9
      refine run_icmp_ne 52 dX3_hot_35 (by decide) (fun c27 => ?_) (fun c27 => ?_)
      · rw [if_neg c27] at h
        rw [← Option.some.inj h] at hj31
        exact hj31
      · rw [if_pos c27] at h
        refine run_aload_n 0 dX3_hot_38 rfl rfl ?_
        refine run_getr fl_X3_42 is_146 (by decide) rfl ce_146_14 dX3_hot_39 ?_
        refine run_iload 5 dX3_hot_42 rfl ?_
        obtain ⟨g28, h⟩ := gd_s h
        refine run_iald' is_155 ln_155 g28 rfl dX3_hot_44 ?_
        refine run_iload_n 3 dX3_hot_45 rfl rfl ?_
        refine run_icmp_ne 52 dX3_hot_46 (by decide) (fun c29 => ?_) (fun c29 => ?_)
        · rw [if_neg c29] at h
          rw [← Option.some.inj h] at hj31
          exact hj31
        · rw [if_pos c29] at h
          refine run_iinc 4 [(0, .ref (gA G 146)), (1, .int x1), (2, .int x2), (3, .int x3), (4, .int (x4 + 1)), (5, .int x5)] [1, 2, 3, 4, 0, 5] dX3_hot_49 rfl rfl (by decide) rfl ?_
          rw [← Option.some.inj h] at hj31
          exact hj31
def lX3_hot_6  : Nat → Int32 → Int32 → Int32 → Mem → Option (Int32 × Mem)
  | 0, _, _, _, _ => none
  | n + 1, x1, x2, x3, σ => if 10 ≤ x3 then (some (x1, σ)) else ((lX3_hot_18 x1 x2 x3 FU 0 0 σ).bind fun q32 => (if (q32.1) ≤ x2 then (some (x1, x2)) else (some (x3, (q32.1))) : Option (Int32 × Int32)).bind fun q34 => lX3_hot_6 n (q34.1) (q34.2) (x3 + 1) (q32.2))
set_option maxRecDepth 20000 in
theorem lpX3_hot_6 (G : GT) (d : Nat)   {K : Option Value → Mem → Prop} : ∀ (n : Nat) (x1 : Int32) (x2 : Int32) (x3 : Int32) (σ : Mem) (o : Int32 × Mem), lX3_hot_6 n x1 x2 x3 σ = some o → (Run G RX3 cX3_hot 6 (some .int) (mF G (d + HX3_hot) K) 75 [(1, .int (o.1))] [] (o.2)) → Run G RX3 cX3_hot 6 (some .int) (mF G (d + HX3_hot) K) 6 [(0, .ref (gA G 146)), (1, .int x1), (2, .int x2), (3, .int x3)] [] σ := by
  intro n
  induction n with
  | zero => intro x1 x2 x3 σ o h; exact absurd h (by simp [lX3_hot_6])
  | succ n ih =>
    intro x1 x2 x3 σ o h kx
    rw [lX3_hot_6] at h
    refine run_iload_n 3 dX3_hot_6 rfl rfl ?_
    refine run_bipush (v := 10) dX3_hot_7 rfl ?_
    refine run_icmp_ge 75 dX3_hot_9 (by decide) (fun c18 => ?_) (fun c18 => ?_)
    · rw [if_pos c18] at h
      rw [← Option.some.inj h] at kx
      refine run_forget [1] rfl ?_
      exact kx
    · rw [if_neg c18] at h
      refine run_iconst (v := 0) dX3_hot_12 rfl ?_
      refine run_istore [(0, .ref (gA G 146)), (1, .int x1), (2, .int x2), (3, .int x3), (4, .int 0)] [1, 2, 3, 4, 0] dX3_hot_13 (by decide) rfl ?_
      refine run_iconst (v := 0) dX3_hot_15 rfl ?_
      refine run_istore [(0, .ref (gA G 146)), (1, .int x1), (2, .int x2), (3, .int x3), (4, .int 0), (5, .int 0)] [1, 2, 3, 4, 5, 0] dX3_hot_16 (by decide) rfl ?_
      obtain ⟨q32, h36, h⟩ := Option.bind_eq_some_iff.mp h
      refine lpX3_hot_18 G d _ _ _ _ _ _ _ _ h36 ?_
      refine run_iload 4 dX3_hot_58 rfl ?_
      refine run_iload_n 2 dX3_hot_60 rfl rfl ?_
      obtain ⟨q34, h, h9⟩ := Option.bind_eq_some_iff.mp h
      have hj35 : Run G RX3 cX3_hot 6 (some .int) (mF G (d + HX3_hot) K) 69 [(0, .ref (gA G 146)), (1, .int (q34.1)), (2, .int (q34.2)), (3, .int x3)] [] (q32.2) := by
        clear h
        have h := h9
        clear h9
        refine run_iinc 3 [(0, .ref (gA G 146)), (1, .int (q34.1)), (2, .int (q34.2)), (3, .int (x3 + 1))] [1, 2, 3, 0] dX3_hot_69 rfl rfl (by decide) rfl ?_
        refine run_goto 6 dX3_hot_72 (by decide) ?_
        exact ih _ _ _ _ _ h kx
      clear h9
      refine run_icmp_le 69 dX3_hot_61 (by decide) (fun c33 => ?_) (fun c33 => ?_)
      · rw [if_pos c33] at h
        rw [← Option.some.inj h] at hj35
        refine run_forget [0, 1, 2, 3] rfl ?_
        exact hj35
      · rw [if_neg c33] at h
        refine run_iload 4 dX3_hot_64 rfl ?_
        refine run_istore_n [(0, .ref (gA G 146)), (2, .int (q32.1)), (3, .int x3)] [1, 0, 3] dX3_hot_66 rfl (by decide) rfl ?_
        refine run_iload_n 2 dX3_hot_67 rfl rfl ?_
        refine run_istore_n [(0, .ref (gA G 146)), (1, .int x3), (2, .int (q32.1)), (3, .int x3)] [1, 0, 2, 3] dX3_hot_68 rfl (by decide) rfl ?_
        rw [← Option.some.inj h] at hj35
        exact hj35
def fX3_hot  (σ : Mem) : Option (Int32 × Mem) := (lX3_hot_6 FU (-1) 0 0 σ).bind fun q37 => some ((q37.1), (q37.2))
set_option maxRecDepth 20000 in
theorem sX3_hot (G : GT) (d : Nat)   {σ : Mem} {o : (Int32 × Mem)} (h : fX3_hot σ = some o) : Spec G yX3_hot cX3_hot 6 (some .int) (d + HX3_hot) [.ref (gA G 146)] σ (kI fun x z => (x, z) = o) := by
  refine spec_run (by decide) (Nat.le_of_ble_eq_true rfl) ?_
  unfold fX3_hot at h
  show Run G RX3 cX3_hot 6 (some .int) _ 0 [(0, .ref (gA G 146))] [] σ
  refine run_iconst (v := -1) dX3_hot_0 rfl ?_
  refine run_istore_n [(0, .ref (gA G 146)), (1, .int (-1))] [1, 0] dX3_hot_1 rfl (by decide) rfl ?_
  refine run_iconst (v := 0) dX3_hot_2 rfl ?_
  refine run_istore_n [(0, .ref (gA G 146)), (1, .int (-1)), (2, .int 0)] [1, 2, 0] dX3_hot_3 rfl (by decide) rfl ?_
  refine run_iconst (v := 0) dX3_hot_4 rfl ?_
  refine run_istore_n [(0, .ref (gA G 146)), (1, .int (-1)), (2, .int 0), (3, .int 0)] [1, 2, 3, 0] dX3_hot_5 rfl (by decide) rfl ?_
  obtain ⟨q37, h38, h⟩ := Option.bind_eq_some_iff.mp h
  refine lpX3_hot_6 G d _ _ _ _ _ _ h38 ?_
  refine run_iload_n 0 dX3_hot_75 rfl rfl ?_
  exact run_iret dX3_hot_76 ⟨_, rfl, Option.some.inj h⟩
def HX3_topStamp : Nat := 1
theorem HX3_topStamp_0 (d : Nat) : 0 < d + HX3_topStamp := Nat.lt_of_lt_of_le (by decide) (Nat.le_add_left _ d)
def lX3_topStamp_4  : Nat → Int32 → Int32 → Mem → Option (Int32 × Mem)
  | 0, _, _, _ => none
  | n + 1, x1, x2, σ => if 10 ≤ x2 then (some (x1, σ)) else (gd (inb x2 10) (lX3_topStamp_4 n (mx x1 (σ 148 (Int32.toNatClampNeg x2))) (x2 + 1) σ))
set_option maxRecDepth 20000 in
theorem lpX3_topStamp_4 (G : GT) (d : Nat)   {K : Option Value → Mem → Prop} : ∀ (n : Nat) (x1 : Int32) (x2 : Int32) (σ : Mem) (o : Int32 × Mem), lX3_topStamp_4 n x1 x2 σ = some o → (Run G RX3 cX3_topStamp 3 (some .int) (mF G (d + HX3_topStamp) K) 27 [(1, .int (o.1))] [] (o.2)) → Run G RX3 cX3_topStamp 3 (some .int) (mF G (d + HX3_topStamp) K) 4 [(0, .ref (gA G 146)), (1, .int x1), (2, .int x2)] [] σ := by
  intro n
  induction n with
  | zero => intro x1 x2 σ o h; exact absurd h (by simp [lX3_topStamp_4])
  | succ n ih =>
    intro x1 x2 σ o h kx
    rw [lX3_topStamp_4] at h
    refine run_iload_n 2 dX3_topStamp_4 rfl rfl ?_
    refine run_bipush (v := 10) dX3_topStamp_5 rfl ?_
    refine run_icmp_ge 27 dX3_topStamp_7 (by decide) (fun c3 => ?_) (fun c3 => ?_)
    · rw [if_pos c3] at h
      rw [← Option.some.inj h] at kx
      refine run_forget [1] rfl ?_
      exact kx
    · rw [if_neg c3] at h
      refine run_iload_n 1 dX3_topStamp_10 rfl rfl ?_
      refine run_aload_n 0 dX3_topStamp_11 rfl rfl ?_
      refine run_getr fl_X3_15 is_146 (by decide) rfl ce_146_5 dX3_topStamp_12 ?_
      refine run_iload_n 2 dX3_topStamp_15 rfl rfl ?_
      obtain ⟨g4, h⟩ := gd_s h
      refine run_iald' is_148 ln_148 g4 rfl dX3_topStamp_16 ?_
      refine run_max mm_X3_220 (RF.lt (HX3_topStamp_0 d)) (Nat.le_of_ble_eq_true rfl) dX3_topStamp_17 ?_
      refine run_istore_n [(0, .ref (gA G 146)), (1, .int (mx x1 (σ 148 (Int32.toNatClampNeg x2)))), (2, .int x2)] [1, 0, 2] dX3_topStamp_20 rfl (by decide) rfl ?_
      refine run_iinc 2 [(0, .ref (gA G 146)), (1, .int (mx x1 (σ 148 (Int32.toNatClampNeg x2)))), (2, .int (x2 + 1))] [1, 2, 0] dX3_topStamp_21 rfl rfl (by decide) rfl ?_
      refine run_goto 4 dX3_topStamp_24 (by decide) ?_
      exact ih _ _ _ _ h kx
def fX3_topStamp  (σ : Mem) : Option (Int32 × Mem) := (lX3_topStamp_4 FU 0 0 σ).bind fun q5 => some ((q5.1), (q5.2))
set_option maxRecDepth 20000 in
theorem sX3_topStamp (G : GT) (d : Nat)   {σ : Mem} {o : (Int32 × Mem)} (h : fX3_topStamp σ = some o) : Spec G yX3_topStamp cX3_topStamp 3 (some .int) (d + HX3_topStamp) [.ref (gA G 146)] σ (kI fun x z => (x, z) = o) := by
  refine spec_run (by decide) (Nat.le_of_ble_eq_true rfl) ?_
  unfold fX3_topStamp at h
  show Run G RX3 cX3_topStamp 3 (some .int) _ 0 [(0, .ref (gA G 146))] [] σ
  refine run_iconst (v := 0) dX3_topStamp_0 rfl ?_
  refine run_istore_n [(0, .ref (gA G 146)), (1, .int 0)] [1, 0] dX3_topStamp_1 rfl (by decide) rfl ?_
  refine run_iconst (v := 0) dX3_topStamp_2 rfl ?_
  refine run_istore_n [(0, .ref (gA G 146)), (1, .int 0), (2, .int 0)] [1, 2, 0] dX3_topStamp_3 rfl (by decide) rfl ?_
  obtain ⟨q5, h6, h⟩ := Option.bind_eq_some_iff.mp h
  refine lpX3_topStamp_4 G d _ _ _ _ _ h6 ?_
  refine run_iload_n 0 dX3_topStamp_27 rfl rfl ?_
  exact run_iret dX3_topStamp_28 ⟨_, rfl, Option.some.inj h⟩
def HX4_take : Nat := 1
theorem HX4_take_0 (d : Nat) : 0 < d + HX4_take := Nat.lt_of_lt_of_le (by decide) (Nat.le_add_left _ d)
def fX4_take (n0 : Nat) (x1 : Int32) (x2 : Int32) (x3 : Int32) (σ : Mem) : Option Mem := if 40 ≤ (σ n0 0) then (some σ) else (gd (inb (σ n0 0) 40) (gd (inb ((st2 σ (n0 + 1) (Int32.toNatClampNeg (σ n0 0)) (x1 - 10)) n0 0) 40) ((some (st2 (st2 σ (n0 + 1) (Int32.toNatClampNeg (σ n0 0)) (x1 - 10)) (n0 + 2) (Int32.toNatClampNeg ((st2 σ (n0 + 1) (Int32.toNatClampNeg (σ n0 0)) (x1 - 10)) n0 0)) x2)).bind fun s4 => gd (inb (s4 n0 0) 40) (some (st2 (st2 s4 (n0 + 3) (Int32.toNatClampNeg (s4 n0 0)) x3) n0 0 (((st2 s4 (n0 + 3) (Int32.toNatClampNeg (s4 n0 0)) x3) n0 0) + 1))))))
set_option maxRecDepth 20000 in
theorem sX4_take (G : GT) (d : Nat) {n0 : Nat} {x1 : Int32} {x2 : Int32} {x3 : Int32} (hn0 : Is n0 4) {σ : Mem} {o : Mem} (h : fX4_take n0 x1 x2 x3 σ = some o) : Spec G yX4_take cX4_take 4 none (d + HX4_take) [.ref (gA G n0), .int x1, .int x2, .int x3] σ (kV fun z => z = o) := by
  refine spec_run (by decide) (Nat.le_of_ble_eq_true rfl) ?_
  unfold fX4_take at h
  show Run G RX4 cX4_take 4 none _ 0 [(0, .ref (gA G n0)), (1, .int x1), (2, .int x2), (3, .int x3)] [] σ
  refine run_aload_n 0 dX4_take_0 rfl rfl ?_
  refine run_geti fl_X4_21 hn0 (by decide) rfl dX4_take_1 ?_
  refine run_bipush (v := 40) dX4_take_4 rfl ?_
  refine run_icmp_ge 52 dX4_take_6 (by decide) (fun c1 => ?_) (fun c1 => ?_)
  · rw [if_pos c1] at h
    exact run_vret dX4_take_52 ⟨rfl, Option.some.inj h⟩
  · rw [if_neg c1] at h
    refine run_aload_n 0 dX4_take_9 rfl rfl ?_
    refine run_getr fl_X4_9 hn0 (by decide) rfl (cs_4_1 hn0) dX4_take_10 ?_
    refine run_aload_n 0 dX4_take_13 rfl rfl ?_
    refine run_geti fl_X4_21 hn0 (by decide) rfl dX4_take_14 ?_
    refine run_iload_n 1 dX4_take_17 rfl rfl ?_
    refine run_bipush (v := 10) dX4_take_18 rfl ?_
    refine run_isub dX4_take_20 ?_
    obtain ⟨g2, h⟩ := gd_s h
    refine run_iast' (ch_4_1 hn0) (cl_4_1 hn0) g2 rfl dX4_take_21 ?_
    refine run_aload_n 0 dX4_take_22 rfl rfl ?_
    refine run_getr fl_X4_15 hn0 (by decide) rfl (cs_4_2 hn0) dX4_take_23 ?_
    refine run_aload_n 0 dX4_take_26 rfl rfl ?_
    refine run_geti fl_X4_21 hn0 (by decide) rfl dX4_take_27 ?_
    refine run_iload_n 2 dX4_take_30 rfl rfl ?_
    obtain ⟨g3, h⟩ := gd_s h
    refine run_iast' (ch_4_2 hn0) (cl_4_2 hn0) g3 rfl dX4_take_31 ?_
    rw [Option.bind_some] at h
    refine run_mem (fun s4 es4 => ?_)
    rw [← es4] at h
    refine run_aload_n 0 dX4_take_32 rfl rfl ?_
    refine run_getr fl_X4_18 hn0 (by decide) rfl (cs_4_3 hn0) dX4_take_33 ?_
    refine run_aload_n 0 dX4_take_36 rfl rfl ?_
    refine run_geti fl_X4_21 hn0 (by decide) rfl dX4_take_37 ?_
    refine run_iload_n 3 dX4_take_40 rfl rfl ?_
    obtain ⟨g5, h⟩ := gd_s h
    refine run_iast' (ch_4_3 hn0) (cl_4_3 hn0) g5 rfl dX4_take_41 ?_
    refine run_aload_n 0 dX4_take_42 rfl rfl ?_
    refine run_dup dX4_take_43 rfl ?_
    refine run_geti fl_X4_21 hn0 (by decide) rfl dX4_take_44 ?_
    refine run_iconst (v := 1) dX4_take_47 rfl ?_
    refine run_iadd dX4_take_48 ?_
    refine run_puti fp_X4_21 hn0 (by decide) rfl dX4_take_49 ?_
    exact run_vret dX4_take_52 ⟨rfl, Option.some.inj h⟩
def HX4_copyFrom : Nat := 1
theorem HX4_copyFrom_0 (d : Nat) : 0 < d + HX4_copyFrom := Nat.lt_of_lt_of_le (by decide) (Nat.le_add_left _ d)
def fX4_copyFrom (n0 : Nat) (n1 : Nat) (σ : Mem) : Option Mem := some (cp2 (cp2 (cp2 (st2 σ n0 0 (σ n1 0)) (n1 + 1) (n0 + 1) 0 0 40) (n1 + 2) (n0 + 2) 0 0 40) (n1 + 3) (n0 + 3) 0 0 40)
set_option maxRecDepth 20000 in
theorem sX4_copyFrom (G : GT) (d : Nat) {n0 : Nat} {n1 : Nat} (hn0 : Is n0 4) (hn1 : Is n1 4) {σ : Mem} {o : Mem} (h : fX4_copyFrom n0 n1 σ = some o) : Spec G yX4_copyFrom cX4_copyFrom 2 none (d + HX4_copyFrom) [.ref (gA G n0), .ref (gA G n1)] σ (kV fun z => z = o) := by
  refine spec_run (by decide) (Nat.le_of_ble_eq_true rfl) ?_
  unfold fX4_copyFrom at h
  show Run G RX4 cX4_copyFrom 2 none _ 0 [(0, .ref (gA G n0)), (1, .ref (gA G n1))] [] σ
  refine run_aload_n 0 dX4_copyFrom_0 rfl rfl ?_
  refine run_aload_n 1 dX4_copyFrom_1 rfl rfl ?_
  refine run_geti fl_X4_21 hn1 (by decide) rfl dX4_copyFrom_2 ?_
  refine run_puti fp_X4_21 hn0 (by decide) rfl dX4_copyFrom_5 ?_
  refine run_aload_n 1 dX4_copyFrom_8 rfl rfl ?_
  refine run_getr fl_X4_9 hn1 (by decide) rfl (cs_4_1 hn1) dX4_copyFrom_9 ?_
  refine run_iconst (v := 0) dX4_copyFrom_12 rfl ?_
  refine run_aload_n 0 dX4_copyFrom_13 rfl rfl ?_
  refine run_getr fl_X4_9 hn0 (by decide) rfl (cs_4_1 hn0) dX4_copyFrom_14 ?_
  refine run_iconst (v := 0) dX4_copyFrom_17 rfl ?_
  refine run_bipush (v := 40) dX4_copyFrom_18 rfl ?_
  refine run_copyi' 0 0 40 rfl rfl rfl mc_X4_25 (ch_4_1 hn1) (ch_4_1 hn0) (cl_4_1 hn1) (cl_4_1 hn0) (by decide) (by decide) (by decide) (by decide) (by decide) (RF.lt (HX4_copyFrom_0 d)) (Nat.le_of_ble_eq_true rfl) dX4_copyFrom_20 ?_
  refine run_aload_n 1 dX4_copyFrom_23 rfl rfl ?_
  refine run_getr fl_X4_15 hn1 (by decide) rfl (cs_4_2 hn1) dX4_copyFrom_24 ?_
  refine run_iconst (v := 0) dX4_copyFrom_27 rfl ?_
  refine run_aload_n 0 dX4_copyFrom_28 rfl rfl ?_
  refine run_getr fl_X4_15 hn0 (by decide) rfl (cs_4_2 hn0) dX4_copyFrom_29 ?_
  refine run_iconst (v := 0) dX4_copyFrom_32 rfl ?_
  refine run_bipush (v := 40) dX4_copyFrom_33 rfl ?_
  refine run_copyi' 0 0 40 rfl rfl rfl mc_X4_25 (ch_4_2 hn1) (ch_4_2 hn0) (cl_4_2 hn1) (cl_4_2 hn0) (by decide) (by decide) (by decide) (by decide) (by decide) (RF.lt (HX4_copyFrom_0 d)) (Nat.le_of_ble_eq_true rfl) dX4_copyFrom_35 ?_
  refine run_aload_n 1 dX4_copyFrom_38 rfl rfl ?_
  refine run_getr fl_X4_18 hn1 (by decide) rfl (cs_4_3 hn1) dX4_copyFrom_39 ?_
  refine run_iconst (v := 0) dX4_copyFrom_42 rfl ?_
  refine run_aload_n 0 dX4_copyFrom_43 rfl rfl ?_
  refine run_getr fl_X4_18 hn0 (by decide) rfl (cs_4_3 hn0) dX4_copyFrom_44 ?_
  refine run_iconst (v := 0) dX4_copyFrom_47 rfl ?_
  refine run_bipush (v := 40) dX4_copyFrom_48 rfl ?_
  refine run_copyi' 0 0 40 rfl rfl rfl mc_X4_25 (ch_4_3 hn1) (ch_4_3 hn0) (cl_4_3 hn1) (cl_4_3 hn0) (by decide) (by decide) (by decide) (by decide) (by decide) (RF.lt (HX4_copyFrom_0 d)) (Nat.le_of_ble_eq_true rfl) dX4_copyFrom_50 ?_
  exact run_vret dX4_copyFrom_53 ⟨rfl, Option.some.inj h⟩
def HX5_rewind : Nat := 1
theorem HX5_rewind_0 (d : Nat) : 0 < d + HX5_rewind := Nat.lt_of_lt_of_le (by decide) (Nat.le_add_left _ d)
def fX5_rewind (x1 : Int32) (σ : Mem) : Option Mem := some (st2 (st2 (st2 σ 143 1 (mn x1 600)) 143 2 0) 143 6 0)
set_option maxRecDepth 20000 in
theorem sX5_rewind (G : GT) (d : Nat) {x1 : Int32}  {σ : Mem} {o : Mem} (h : fX5_rewind x1 σ = some o) : Spec G yX5_rewind cX5_rewind 2 none (d + HX5_rewind) [.ref (gA G 143), .int x1] σ (kV fun z => z = o) := by
  refine spec_run (by decide) (Nat.le_of_ble_eq_true rfl) ?_
  unfold fX5_rewind at h
  show Run G RX5 cX5_rewind 2 none _ 0 [(0, .ref (gA G 143)), (1, .int x1)] [] σ
  refine run_aload_n 0 dX5_rewind_0 rfl rfl ?_
  refine run_iload_n 1 dX5_rewind_1 rfl rfl ?_
  refine run_sipush (v := 600) dX5_rewind_2 rfl ?_
  refine run_min mm_X5_69 (RF.lt (HX5_rewind_0 d)) (Nat.le_of_ble_eq_true rfl) dX5_rewind_5 ?_
  refine run_puti fp_X5_75 is_143 (by decide) rfl dX5_rewind_8 ?_
  refine run_aload_n 0 dX5_rewind_11 rfl rfl ?_
  refine run_iconst (v := 0) dX5_rewind_12 rfl ?_
  refine run_puti fp_X5_78 is_143 (by decide) rfl dX5_rewind_13 ?_
  refine run_aload_n 0 dX5_rewind_16 rfl rfl ?_
  refine run_iconst (v := 0) dX5_rewind_17 rfl ?_
  refine run_putz fp_X5_46 is_143 (by decide) rfl (by decide) dX5_rewind_18 ?_
  exact run_vret dX5_rewind_21 ⟨rfl, Option.some.inj h⟩
def HX5_blame : Nat := 1
theorem HX5_blame_0 (d : Nat) : 0 < d + HX5_blame := Nat.lt_of_lt_of_le (by decide) (Nat.le_add_left _ d)
def fX5_blame (x1 : Int32) (x2 : Int32) (σ : Mem) : Option Mem := some (st2 (st2 σ 143 13 x1) 143 14 x2)
set_option maxRecDepth 20000 in
theorem sX5_blame (G : GT) (d : Nat) {x1 : Int32} {x2 : Int32}  {σ : Mem} {o : Mem} (h : fX5_blame x1 x2 σ = some o) : Spec G yX5_blame cX5_blame 3 none (d + HX5_blame) [.ref (gA G 143), .int x1, .int x2] σ (kV fun z => z = o) := by
  refine spec_run (by decide) (Nat.le_of_ble_eq_true rfl) ?_
  unfold fX5_blame at h
  show Run G RX5 cX5_blame 3 none _ 0 [(0, .ref (gA G 143)), (1, .int x1), (2, .int x2)] [] σ
  refine run_aload_n 0 dX5_blame_0 rfl rfl ?_
  refine run_iload_n 1 dX5_blame_1 rfl rfl ?_
  refine run_puti fp_X5_26 is_143 (by decide) rfl dX5_blame_2 ?_
  refine run_aload_n 0 dX5_blame_5 rfl rfl ?_
  refine run_iload_n 2 dX5_blame_6 rfl rfl ?_
  refine run_puti fp_X5_30 is_143 (by decide) rfl dX5_blame_7 ?_
  exact run_vret dX5_blame_10 ⟨rfl, Option.some.inj h⟩
def HX5_isScanBackwards : Nat := 1
theorem HX5_isScanBackwards_0 (d : Nat) : 0 < d + HX5_isScanBackwards := Nat.lt_of_lt_of_le (by decide) (Nat.le_add_left _ d)
def fX5_isScanBackwards  (σ : Mem) : Option (Bool × Mem) := if (σ 143 7) = 8 then (if (σ 144 0) ≤ (σ 144 1) then (some (false, σ)) else (some (true, σ))) else (some (false, σ))
set_option maxRecDepth 20000 in
theorem sX5_isScanBackwards (G : GT) (d : Nat)   {σ : Mem} {o : (Bool × Mem)} (h : fX5_isScanBackwards σ = some o) : Spec G yX5_isScanBackwards cX5_isScanBackwards 1 (some .boolean) (d + HX5_isScanBackwards) [.ref (gA G 143)] σ (kB fun x z => (x, z) = o) := by
  refine spec_run (by decide) (Nat.le_of_ble_eq_true rfl) ?_
  unfold fX5_isScanBackwards at h
  show Run G RX5 cX5_isScanBackwards 1 (some .boolean) _ 0 [(0, .ref (gA G 143))] [] σ
  refine run_aload_n 0 dX5_isScanBackwards_0 rfl rfl ?_
  refine run_geti fl_X5_62 is_143 (by decide) rfl dX5_isScanBackwards_1 ?_
  refine run_bipush (v := 8) dX5_isScanBackwards_4 rfl ?_
  refine run_icmp_ne 28 dX5_isScanBackwards_6 (by decide) (fun c1 => ?_) (fun c1 => ?_)
  · rw [if_neg c1] at h
    refine run_iconst (v := 0) dX5_isScanBackwards_28 rfl ?_
    exact run_bret (b := false) dX5_isScanBackwards_29 ⟨_, rfl, Option.some.inj h⟩
  · rw [if_pos c1] at h
    refine run_aload_n 0 dX5_isScanBackwards_9 rfl rfl ?_
    refine run_getr fl_X5_9 is_143 (by decide) rfl ce_143_9 dX5_isScanBackwards_10 ?_
    refine run_iconst (v := 1) dX5_isScanBackwards_13 rfl ?_
    refine run_iald' (j := 1) is_144 ln_144 (by decide) rfl dX5_isScanBackwards_14 ?_
    refine run_aload_n 0 dX5_isScanBackwards_15 rfl rfl ?_
    refine run_getr fl_X5_9 is_143 (by decide) rfl ce_143_9 dX5_isScanBackwards_16 ?_
    refine run_iconst (v := 0) dX5_isScanBackwards_19 rfl ?_
    refine run_iald' (j := 0) is_144 ln_144 (by decide) rfl dX5_isScanBackwards_20 ?_
    refine run_icmp_ge 28 dX5_isScanBackwards_21 (by decide) (fun c2 => ?_) (fun c2 => ?_)
    · rw [if_pos c2] at h
      refine run_iconst (v := 0) dX5_isScanBackwards_28 rfl ?_
      exact run_bret (b := false) dX5_isScanBackwards_29 ⟨_, rfl, Option.some.inj h⟩
    · rw [if_neg c2] at h
      refine run_iconst (v := 1) dX5_isScanBackwards_24 rfl ?_
      refine run_goto 29 dX5_isScanBackwards_25 (by decide) ?_
      exact run_bret (b := true) dX5_isScanBackwards_29 ⟨_, rfl, Option.some.inj h⟩
def HX5_isTooMuch : Nat := 1
theorem HX5_isTooMuch_0 (d : Nat) : 0 < d + HX5_isTooMuch := Nat.lt_of_lt_of_le (by decide) (Nat.le_add_left _ d)
def jX5_isTooMuch_44 (x1 : Int32) (σ : Mem) : Option (Bool × Mem) := if x1 = 1 then (if ((st2 σ 143 12 ((σ 143 12) + 1)) 143 11) = 0 then (some (true, (st2 σ 143 12 ((σ 143 12) + 1)))) else (if ((st2 σ 143 12 ((σ 143 12) + 1)) 143 12) ≤ 6 then (some (false, (st2 σ 143 12 ((σ 143 12) + 1)))) else (some (true, (st2 σ 143 12 ((σ 143 12) + 1)))))) else (if x1 = 2 then (if ((st2 σ 143 12 ((σ 143 12) + 1)) 143 12) ≤ 40 then (some (false, (st2 σ 143 12 ((σ 143 12) + 1)))) else (some (true, (st2 σ 143 12 ((σ 143 12) + 1))))) else (if x1 = 3 then (if ((st2 σ 143 12 ((σ 143 12) + 1)) 143 12) ≤ 8 then (some (false, (st2 σ 143 12 ((σ 143 12) + 1)))) else (some (true, (st2 σ 143 12 ((σ 143 12) + 1))))) else (some (false, (st2 σ 143 12 ((σ 143 12) + 1))))))
set_option maxRecDepth 20000 in
theorem jnX5_isTooMuch_44 (G : GT) (d : Nat) (x1 : Int32)  (σ : Mem) (o : (Bool × Mem)) (h : jX5_isTooMuch_44 x1 σ = some o) : Run G RX5 cX5_isTooMuch 2 (some .boolean) (mF G (d + HX5_isTooMuch) (kB fun x z => (x, z) = o)) 44 [(0, .ref (gA G 143)), (1, .int x1)] [] σ := by
  unfold jX5_isTooMuch_44 at h
  refine run_aload_n 0 dX5_isTooMuch_44 rfl rfl ?_
  refine run_dup dX5_isTooMuch_45 rfl ?_
  refine run_geti fl_X5_36 is_143 (by decide) rfl dX5_isTooMuch_46 ?_
  refine run_iconst (v := 1) dX5_isTooMuch_49 rfl ?_
  refine run_iadd dX5_isTooMuch_50 ?_
  refine run_puti fp_X5_36 is_143 (by decide) rfl dX5_isTooMuch_51 ?_
  refine run_iload_n 1 dX5_isTooMuch_54 rfl rfl ?_
  refine run_iconst (v := 1) dX5_isTooMuch_55 rfl ?_
  refine run_icmp_ne 81 dX5_isTooMuch_56 (by decide) (fun c2 => ?_) (fun c2 => ?_)
  · rw [if_neg c2] at h
    refine run_iload_n 1 dX5_isTooMuch_81 rfl rfl ?_
    refine run_iconst (v := 2) dX5_isTooMuch_82 rfl ?_
    refine run_icmp_ne 101 dX5_isTooMuch_83 (by decide) (fun c3 => ?_) (fun c3 => ?_)
    · rw [if_neg c3] at h
      refine run_iload_n 1 dX5_isTooMuch_101 rfl rfl ?_
      refine run_iconst (v := 3) dX5_isTooMuch_102 rfl ?_
      refine run_icmp_ne 119 dX5_isTooMuch_103 (by decide) (fun c4 => ?_) (fun c4 => ?_)
      · rw [if_neg c4] at h
        refine run_iconst (v := 0) dX5_isTooMuch_119 rfl ?_
        exact run_bret (b := false) dX5_isTooMuch_120 ⟨_, rfl, Option.some.inj h⟩
      · rw [if_pos c4] at h
        refine run_aload_n 0 dX5_isTooMuch_106 rfl rfl ?_
        refine run_geti fl_X5_36 is_143 (by decide) rfl dX5_isTooMuch_107 ?_
        refine run_bipush (v := 8) dX5_isTooMuch_110 rfl ?_
        refine run_icmp_le 119 dX5_isTooMuch_112 (by decide) (fun c5 => ?_) (fun c5 => ?_)
        · rw [if_pos c5] at h
          refine run_iconst (v := 0) dX5_isTooMuch_119 rfl ?_
          exact run_bret (b := false) dX5_isTooMuch_120 ⟨_, rfl, Option.some.inj h⟩
        · rw [if_neg c5] at h
          refine run_iconst (v := 1) dX5_isTooMuch_115 rfl ?_
          refine run_goto 120 dX5_isTooMuch_116 (by decide) ?_
          exact run_bret (b := true) dX5_isTooMuch_120 ⟨_, rfl, Option.some.inj h⟩
    · rw [if_pos c3] at h
      refine run_aload_n 0 dX5_isTooMuch_86 rfl rfl ?_
      refine run_geti fl_X5_36 is_143 (by decide) rfl dX5_isTooMuch_87 ?_
      refine run_bipush (v := 40) dX5_isTooMuch_90 rfl ?_
      refine run_icmp_le 99 dX5_isTooMuch_92 (by decide) (fun c6 => ?_) (fun c6 => ?_)
      · rw [if_pos c6] at h
        refine run_iconst (v := 0) dX5_isTooMuch_99 rfl ?_
        exact run_bret (b := false) dX5_isTooMuch_100 ⟨_, rfl, Option.some.inj h⟩
      · rw [if_neg c6] at h
        refine run_iconst (v := 1) dX5_isTooMuch_95 rfl ?_
        refine run_goto 100 dX5_isTooMuch_96 (by decide) ?_
        exact run_bret (b := true) dX5_isTooMuch_100 ⟨_, rfl, Option.some.inj h⟩
  · rw [if_pos c2] at h
    refine run_aload_n 0 dX5_isTooMuch_59 rfl rfl ?_
    refine run_geti fl_X5_33 is_143 (by decide) rfl dX5_isTooMuch_60 ?_
    refine run_if_eq 75 dX5_isTooMuch_63 (by decide) (fun c7 => ?_) (fun c7 => ?_)
    · rw [if_pos c7] at h
      refine run_iconst (v := 1) dX5_isTooMuch_75 rfl ?_
      refine run_goto 80 dX5_isTooMuch_76 (by decide) ?_
      exact run_bret (b := true) dX5_isTooMuch_80 ⟨_, rfl, Option.some.inj h⟩
    · rw [if_neg c7] at h
      refine run_aload_n 0 dX5_isTooMuch_66 rfl rfl ?_
      refine run_geti fl_X5_36 is_143 (by decide) rfl dX5_isTooMuch_67 ?_
      refine run_bipush (v := 6) dX5_isTooMuch_70 rfl ?_
      refine run_icmp_le 79 dX5_isTooMuch_72 (by decide) (fun c8 => ?_) (fun c8 => ?_)
      · rw [if_pos c8] at h
        refine run_iconst (v := 0) dX5_isTooMuch_79 rfl ?_
        exact run_bret (b := false) dX5_isTooMuch_80 ⟨_, rfl, Option.some.inj h⟩
      · rw [if_neg c8] at h
        refine run_iconst (v := 1) dX5_isTooMuch_75 rfl ?_
        refine run_goto 80 dX5_isTooMuch_76 (by decide) ?_
        exact run_bret (b := true) dX5_isTooMuch_80 ⟨_, rfl, Option.some.inj h⟩
def fX5_isTooMuch (x1 : Int32) (σ : Mem) : Option (Bool × Mem) := if x1 = 1 then (if (σ 143 7) = 9 then (if ((st2 (st2 σ 143 11 ((σ 143 11) + 1)) 143 12 0) 143 11) ≤ 7 then (some (false, (st2 (st2 σ 143 11 ((σ 143 11) + 1)) 143 12 0))) else (some (true, (st2 (st2 σ 143 11 ((σ 143 11) + 1)) 143 12 0)))) else (jX5_isTooMuch_44 x1 σ)) else (jX5_isTooMuch_44 x1 σ)
set_option maxRecDepth 20000 in
theorem sX5_isTooMuch (G : GT) (d : Nat) {x1 : Int32}  {σ : Mem} {o : (Bool × Mem)} (h : fX5_isTooMuch x1 σ = some o) : Spec G yX5_isTooMuch cX5_isTooMuch 2 (some .boolean) (d + HX5_isTooMuch) [.ref (gA G 143), .int x1] σ (kB fun x z => (x, z) = o) := by
  refine spec_run (by decide) (Nat.le_of_ble_eq_true rfl) ?_
  unfold fX5_isTooMuch at h
  show Run G RX5 cX5_isTooMuch 2 (some .boolean) _ 0 [(0, .ref (gA G 143)), (1, .int x1)] [] σ
  refine run_iload_n 1 dX5_isTooMuch_0 rfl rfl ?_
  refine run_iconst (v := 1) dX5_isTooMuch_1 rfl ?_
  refine run_icmp_ne 44 dX5_isTooMuch_2 (by decide) (fun c1 => ?_) (fun c1 => ?_)
  · rw [if_neg c1] at h
    exact jnX5_isTooMuch_44 G d _ _ _ h
  · rw [if_pos c1] at h
    refine run_aload_n 0 dX5_isTooMuch_5 rfl rfl ?_
    refine run_geti fl_X5_62 is_143 (by decide) rfl dX5_isTooMuch_6 ?_
    refine run_bipush (v := 9) dX5_isTooMuch_9 rfl ?_
    refine run_icmp_ne 44 dX5_isTooMuch_11 (by decide) (fun c9 => ?_) (fun c9 => ?_)
    · rw [if_neg c9] at h
      exact jnX5_isTooMuch_44 G d _ _ _ h
    · rw [if_pos c9] at h
      refine run_aload_n 0 dX5_isTooMuch_14 rfl rfl ?_
      refine run_dup dX5_isTooMuch_15 rfl ?_
      refine run_geti fl_X5_33 is_143 (by decide) rfl dX5_isTooMuch_16 ?_
      refine run_iconst (v := 1) dX5_isTooMuch_19 rfl ?_
      refine run_iadd dX5_isTooMuch_20 ?_
      refine run_puti fp_X5_33 is_143 (by decide) rfl dX5_isTooMuch_21 ?_
      refine run_aload_n 0 dX5_isTooMuch_24 rfl rfl ?_
      refine run_iconst (v := 0) dX5_isTooMuch_25 rfl ?_
      refine run_puti fp_X5_36 is_143 (by decide) rfl dX5_isTooMuch_26 ?_
      refine run_aload_n 0 dX5_isTooMuch_29 rfl rfl ?_
      refine run_geti fl_X5_33 is_143 (by decide) rfl dX5_isTooMuch_30 ?_
      refine run_bipush (v := 7) dX5_isTooMuch_33 rfl ?_
      refine run_icmp_le 42 dX5_isTooMuch_35 (by decide) (fun c10 => ?_) (fun c10 => ?_)
      · rw [if_pos c10] at h
        refine run_iconst (v := 0) dX5_isTooMuch_42 rfl ?_
        exact run_bret (b := false) dX5_isTooMuch_43 ⟨_, rfl, Option.some.inj h⟩
      · rw [if_neg c10] at h
        refine run_iconst (v := 1) dX5_isTooMuch_38 rfl ?_
        refine run_goto 43 dX5_isTooMuch_39 (by decide) ?_
        exact run_bret (b := true) dX5_isTooMuch_43 ⟨_, rfl, Option.some.inj h⟩
def HX5_isLetter : Nat := 1
theorem HX5_isLetter_0 (d : Nat) : 0 < d + HX5_isLetter := Nat.lt_of_lt_of_le (by decide) (Nat.le_add_left _ d)
def fX5_isLetter (x1 : Int32) (σ : Mem) : Option (Bool × Mem) := gd (inb x1 600) (if (σ 2 (Int32.toNatClampNeg x1)) < 97 then (some (false, σ)) else (gd (inb x1 600) (if 122 < (σ 2 (Int32.toNatClampNeg x1)) then (some (false, σ)) else (some (true, σ)))))
set_option maxRecDepth 20000 in
theorem sX5_isLetter (G : GT) (d : Nat) {x1 : Int32}  {σ : Mem} {o : (Bool × Mem)} (h : fX5_isLetter x1 σ = some o) : Spec G yX5_isLetter cX5_isLetter 2 (some .boolean) (d + HX5_isLetter) [.ref (gA G 143), .int x1] σ (kB fun x z => (x, z) = o) := by
  refine spec_run (by decide) (Nat.le_of_ble_eq_true rfl) ?_
  unfold fX5_isLetter at h
  show Run G RX5 cX5_isLetter 2 (some .boolean) _ 0 [(0, .ref (gA G 143)), (1, .int x1)] [] σ
  refine run_aload_n 0 dX5_isLetter_0 rfl rfl ?_
  refine run_getr fl_X5_18 is_143 (by decide) rfl ce_143_0 dX5_isLetter_1 ?_
  refine run_iload_n 1 dX5_isLetter_4 rfl rfl ?_
  obtain ⟨g1, h⟩ := gd_s h
  refine run_bald' is_2 ln_2 g1 rfl dX5_isLetter_5 ?_
  refine run_bipush (v := 97) dX5_isLetter_6 rfl ?_
  refine run_icmp_lt 26 dX5_isLetter_8 (by decide) (fun c2 => ?_) (fun c2 => ?_)
  · rw [if_pos c2] at h
    refine run_iconst (v := 0) dX5_isLetter_26 rfl ?_
    exact run_bret (b := false) dX5_isLetter_27 ⟨_, rfl, Option.some.inj h⟩
  · rw [if_neg c2] at h
    refine run_aload_n 0 dX5_isLetter_11 rfl rfl ?_
    refine run_getr fl_X5_18 is_143 (by decide) rfl ce_143_0 dX5_isLetter_12 ?_
    refine run_iload_n 1 dX5_isLetter_15 rfl rfl ?_
    obtain ⟨g3, h⟩ := gd_s h
    refine run_bald' is_2 ln_2 g3 rfl dX5_isLetter_16 ?_
    refine run_bipush (v := 122) dX5_isLetter_17 rfl ?_
    refine run_icmp_gt 26 dX5_isLetter_19 (by decide) (fun c4 => ?_) (fun c4 => ?_)
    · rw [if_pos c4] at h
      refine run_iconst (v := 0) dX5_isLetter_26 rfl ?_
      exact run_bret (b := false) dX5_isLetter_27 ⟨_, rfl, Option.some.inj h⟩
    · rw [if_neg c4] at h
      refine run_iconst (v := 1) dX5_isLetter_22 rfl ?_
      refine run_goto 27 dX5_isLetter_23 (by decide) ?_
      exact run_bret (b := true) dX5_isLetter_27 ⟨_, rfl, Option.some.inj h⟩
def HX5_isDigit : Nat := 1
theorem HX5_isDigit_0 (d : Nat) : 0 < d + HX5_isDigit := Nat.lt_of_lt_of_le (by decide) (Nat.le_add_left _ d)
def fX5_isDigit (x1 : Int32) (σ : Mem) : Option (Bool × Mem) := gd (inb x1 600) (if (σ 2 (Int32.toNatClampNeg x1)) < 48 then (some (false, σ)) else (gd (inb x1 600) (if 57 < (σ 2 (Int32.toNatClampNeg x1)) then (some (false, σ)) else (some (true, σ)))))
set_option maxRecDepth 20000 in
theorem sX5_isDigit (G : GT) (d : Nat) {x1 : Int32}  {σ : Mem} {o : (Bool × Mem)} (h : fX5_isDigit x1 σ = some o) : Spec G yX5_isDigit cX5_isDigit 2 (some .boolean) (d + HX5_isDigit) [.ref (gA G 143), .int x1] σ (kB fun x z => (x, z) = o) := by
  refine spec_run (by decide) (Nat.le_of_ble_eq_true rfl) ?_
  unfold fX5_isDigit at h
  show Run G RX5 cX5_isDigit 2 (some .boolean) _ 0 [(0, .ref (gA G 143)), (1, .int x1)] [] σ
  refine run_aload_n 0 dX5_isDigit_0 rfl rfl ?_
  refine run_getr fl_X5_18 is_143 (by decide) rfl ce_143_0 dX5_isDigit_1 ?_
  refine run_iload_n 1 dX5_isDigit_4 rfl rfl ?_
  obtain ⟨g1, h⟩ := gd_s h
  refine run_bald' is_2 ln_2 g1 rfl dX5_isDigit_5 ?_
  refine run_bipush (v := 48) dX5_isDigit_6 rfl ?_
  refine run_icmp_lt 26 dX5_isDigit_8 (by decide) (fun c2 => ?_) (fun c2 => ?_)
  · rw [if_pos c2] at h
    refine run_iconst (v := 0) dX5_isDigit_26 rfl ?_
    exact run_bret (b := false) dX5_isDigit_27 ⟨_, rfl, Option.some.inj h⟩
  · rw [if_neg c2] at h
    refine run_aload_n 0 dX5_isDigit_11 rfl rfl ?_
    refine run_getr fl_X5_18 is_143 (by decide) rfl ce_143_0 dX5_isDigit_12 ?_
    refine run_iload_n 1 dX5_isDigit_15 rfl rfl ?_
    obtain ⟨g3, h⟩ := gd_s h
    refine run_bald' is_2 ln_2 g3 rfl dX5_isDigit_16 ?_
    refine run_bipush (v := 57) dX5_isDigit_17 rfl ?_
    refine run_icmp_gt 26 dX5_isDigit_19 (by decide) (fun c4 => ?_) (fun c4 => ?_)
    · rw [if_pos c4] at h
      refine run_iconst (v := 0) dX5_isDigit_26 rfl ?_
      exact run_bret (b := false) dX5_isDigit_27 ⟨_, rfl, Option.some.inj h⟩
    · rw [if_neg c4] at h
      refine run_iconst (v := 1) dX5_isDigit_22 rfl ?_
      refine run_goto 27 dX5_isDigit_23 (by decide) ?_
      exact run_bret (b := true) dX5_isDigit_27 ⟨_, rfl, Option.some.inj h⟩
def HX6_greatestShare : Nat := 1
theorem HX6_greatestShare_0 (d : Nat) : 0 < d + HX6_greatestShare := Nat.lt_of_lt_of_le (by decide) (Nat.le_add_left _ d)
def lX6_greatestShare_18 (x1 : Int32) (x2 : Int32) (x3 : Int32) : Nat → Int32 → Int32 → Mem → Option (Int32 × Mem)
  | 0, _, _, _ => none
  | n + 1, x4, x5, σ => if (σ 246 3) ≤ x5 then (some (x4, σ)) else (gd (inb x3 16) (gd (inb x1 10) (gd (inb x5 16) (gd (inb x1 10) ((if (σ (249 + 1 * (Int32.toNatClampNeg x3)) (Int32.toNatClampNeg x1)) = (σ (249 + 1 * (Int32.toNatClampNeg x5)) (Int32.toNatClampNeg x1)) then (some (x4 + 1)) else (some x4) : Option (Int32)).bind fun q32 => lX6_greatestShare_18 x1 x2 x3 n q32 (x5 + 1) σ)))))
set_option maxRecDepth 20000 in
theorem lpX6_greatestShare_18 (G : GT) (d : Nat) (x1 : Int32) (x2 : Int32) (x3 : Int32)  {K : Option Value → Mem → Prop} : ∀ (n : Nat) (x4 : Int32) (x5 : Int32) (σ : Mem) (o : Int32 × Mem), lX6_greatestShare_18 x1 x2 x3 n x4 x5 σ = some o → (Run G RX6 cX6_greatestShare 6 (some .int) (mF G (d + HX6_greatestShare) K) 56 [(0, .ref (gA G 246)), (1, .int x1), (2, .int x2), (3, .int x3), (4, .int (o.1))] [] (o.2)) → Run G RX6 cX6_greatestShare 6 (some .int) (mF G (d + HX6_greatestShare) K) 18 [(0, .ref (gA G 246)), (1, .int x1), (2, .int x2), (3, .int x3), (4, .int x4), (5, .int x5)] [] σ := by
  intro n
  induction n with
  | zero => intro x4 x5 σ o h; exact absurd h (by simp [lX6_greatestShare_18])
  | succ n ih =>
    intro x4 x5 σ o h kx
    rw [lX6_greatestShare_18] at h
    refine run_iload 5 dX6_greatestShare_18 rfl ?_
    refine run_aload_n 0 dX6_greatestShare_20 rfl rfl ?_
    refine run_geti fl_X6_23 is_246 (by decide) rfl dX6_greatestShare_21 ?_
    refine run_icmp_ge 56 dX6_greatestShare_24 (by decide) (fun c26 => ?_) (fun c26 => ?_)
    · rw [if_pos c26] at h
      rw [← Option.some.inj h] at kx
      refine run_forget [0, 1, 2, 3, 4] rfl ?_
      exact kx
    · rw [if_neg c26] at h
      refine run_aload_n 0 dX6_greatestShare_27 rfl rfl ?_
      refine run_getr fl_X6_17 is_246 (by decide) rfl ce_246_1 dX6_greatestShare_28 ?_
      refine run_iload_n 3 dX6_greatestShare_31 rfl rfl ?_
      obtain ⟨g27, h⟩ := gd_s h
      refine run_aaldI' (j := (Int32.toNatClampNeg x3)) is_248 ln_248 g27 rfl (es_248 _) dX6_greatestShare_32 ?_
      refine run_iload_n 1 dX6_greatestShare_33 rfl rfl ?_
      obtain ⟨g28, h⟩ := gd_s h
      refine run_iald' (el_248 (inb_lt g27)) (ell_248 (inb_lt g27)) g28 rfl dX6_greatestShare_34 ?_
      refine run_aload_n 0 dX6_greatestShare_35 rfl rfl ?_
      refine run_getr fl_X6_17 is_246 (by decide) rfl ce_246_1 dX6_greatestShare_36 ?_
      refine run_iload 5 dX6_greatestShare_39 rfl ?_
      obtain ⟨g29, h⟩ := gd_s h
      refine run_aaldI' (j := (Int32.toNatClampNeg x5)) is_248 ln_248 g29 rfl (es_248 _) dX6_greatestShare_41 ?_
      refine run_iload_n 1 dX6_greatestShare_42 rfl rfl ?_
      obtain ⟨g30, h⟩ := gd_s h
      refine run_iald' (el_248 (inb_lt g29)) (ell_248 (inb_lt g29)) g30 rfl dX6_greatestShare_43 ?_
      obtain ⟨q32, h, h9⟩ := Option.bind_eq_some_iff.mp h
      have hj33 : Run G RX6 cX6_greatestShare 6 (some .int) (mF G (d + HX6_greatestShare) K) 50 [(0, .ref (gA G 246)), (1, .int x1), (2, .int x2), (3, .int x3), (4, .int q32), (5, .int x5)] [] σ := by
        clear h
        have h := h9
        clear h9
        refine run_iinc 5 [(0, .ref (gA G 246)), (1, .int x1), (2, .int x2), (3, .int x3), (4, .int q32), (5, .int (x5 + 1))] [1, 2, 3, 4, 5, 0] dX6_greatestShare_50 rfl rfl (by decide) rfl ?_
        refine run_goto 18 dX6_greatestShare_53 (by decide) ?_
        exact ih _ _ _ _ h kx
      clear h9
      refine run_icmp_ne 50 dX6_greatestShare_44 (by decide) (fun c31 => ?_) (fun c31 => ?_)
      · rw [if_neg c31] at h
        rw [← Option.some.inj h] at hj33
        exact hj33
      · rw [if_pos c31] at h
        refine run_iinc 4 [(0, .ref (gA G 246)), (1, .int x1), (2, .int x2), (3, .int x3), (4, .int (x4 + 1)), (5, .int x5)] [1, 2, 3, 4, 0, 5] dX6_greatestShare_47 rfl rfl (by decide) rfl ?_
        rw [← Option.some.inj h] at hj33
        exact hj33
def lX6_greatestShare_4 (x1 : Int32) : Nat → Int32 → Int32 → Mem → Option (Int32 × Mem)
  | 0, _, _, _ => none
  | n + 1, x2, x3, σ => if (σ 246 3) ≤ x3 then (some (x2, σ)) else ((lX6_greatestShare_18 x1 x2 x3 FU 0 0 σ).bind fun q34 => lX6_greatestShare_4 x1 n (mx x2 (q34.1)) (x3 + 1) (q34.2))
set_option maxRecDepth 20000 in
theorem lpX6_greatestShare_4 (G : GT) (d : Nat) (x1 : Int32)  {K : Option Value → Mem → Prop} : ∀ (n : Nat) (x2 : Int32) (x3 : Int32) (σ : Mem) (o : Int32 × Mem), lX6_greatestShare_4 x1 n x2 x3 σ = some o → (Run G RX6 cX6_greatestShare 6 (some .int) (mF G (d + HX6_greatestShare) K) 69 [(2, .int (o.1))] [] (o.2)) → Run G RX6 cX6_greatestShare 6 (some .int) (mF G (d + HX6_greatestShare) K) 4 [(0, .ref (gA G 246)), (1, .int x1), (2, .int x2), (3, .int x3)] [] σ := by
  intro n
  induction n with
  | zero => intro x2 x3 σ o h; exact absurd h (by simp [lX6_greatestShare_4])
  | succ n ih =>
    intro x2 x3 σ o h kx
    rw [lX6_greatestShare_4] at h
    refine run_iload_n 3 dX6_greatestShare_4 rfl rfl ?_
    refine run_aload_n 0 dX6_greatestShare_5 rfl rfl ?_
    refine run_geti fl_X6_23 is_246 (by decide) rfl dX6_greatestShare_6 ?_
    refine run_icmp_ge 69 dX6_greatestShare_9 (by decide) (fun c18 => ?_) (fun c18 => ?_)
    · rw [if_pos c18] at h
      rw [← Option.some.inj h] at kx
      refine run_forget [2] rfl ?_
      exact kx
    · rw [if_neg c18] at h
      refine run_iconst (v := 0) dX6_greatestShare_12 rfl ?_
      refine run_istore [(0, .ref (gA G 246)), (1, .int x1), (2, .int x2), (3, .int x3), (4, .int 0)] [1, 2, 3, 4, 0] dX6_greatestShare_13 (by decide) rfl ?_
      refine run_iconst (v := 0) dX6_greatestShare_15 rfl ?_
      refine run_istore [(0, .ref (gA G 246)), (1, .int x1), (2, .int x2), (3, .int x3), (4, .int 0), (5, .int 0)] [1, 2, 3, 4, 5, 0] dX6_greatestShare_16 (by decide) rfl ?_
      obtain ⟨q34, h35, h⟩ := Option.bind_eq_some_iff.mp h
      refine lpX6_greatestShare_18 G d _ _ _ _ _ _ _ _ h35 ?_
      refine run_iload_n 2 dX6_greatestShare_56 rfl rfl ?_
      refine run_iload 4 dX6_greatestShare_57 rfl ?_
      refine run_max mm_X6_46 (RF.lt (HX6_greatestShare_0 d)) (Nat.le_of_ble_eq_true rfl) dX6_greatestShare_59 ?_
      refine run_istore_n [(0, .ref (gA G 246)), (1, .int x1), (2, .int (mx x2 (q34.1))), (3, .int x3)] [1, 2, 0, 3] dX6_greatestShare_62 rfl (by decide) rfl ?_
      refine run_iinc 3 [(0, .ref (gA G 246)), (1, .int x1), (2, .int (mx x2 (q34.1))), (3, .int (x3 + 1))] [1, 2, 3, 0] dX6_greatestShare_63 rfl rfl (by decide) rfl ?_
      refine run_goto 4 dX6_greatestShare_66 (by decide) ?_
      exact ih _ _ _ _ h kx
def fX6_greatestShare (x1 : Int32) (σ : Mem) : Option (Int32 × Mem) := (lX6_greatestShare_4 x1 FU 0 0 σ).bind fun q36 => some ((q36.1), (q36.2))
set_option maxRecDepth 20000 in
theorem sX6_greatestShare (G : GT) (d : Nat) {x1 : Int32}  {σ : Mem} {o : (Int32 × Mem)} (h : fX6_greatestShare x1 σ = some o) : Spec G yX6_greatestShare cX6_greatestShare 6 (some .int) (d + HX6_greatestShare) [.ref (gA G 246), .int x1] σ (kI fun x z => (x, z) = o) := by
  refine spec_run (by decide) (Nat.le_of_ble_eq_true rfl) ?_
  unfold fX6_greatestShare at h
  show Run G RX6 cX6_greatestShare 6 (some .int) _ 0 [(0, .ref (gA G 246)), (1, .int x1)] [] σ
  refine run_iconst (v := 0) dX6_greatestShare_0 rfl ?_
  refine run_istore_n [(0, .ref (gA G 246)), (1, .int x1), (2, .int 0)] [1, 2, 0] dX6_greatestShare_1 rfl (by decide) rfl ?_
  refine run_iconst (v := 0) dX6_greatestShare_2 rfl ?_
  refine run_istore_n [(0, .ref (gA G 246)), (1, .int x1), (2, .int 0), (3, .int 0)] [1, 2, 3, 0] dX6_greatestShare_3 rfl (by decide) rfl ?_
  obtain ⟨q36, h37, h⟩ := Option.bind_eq_some_iff.mp h
  refine lpX6_greatestShare_4 G d _ _ _ _ _ _ h37 ?_
  refine run_iload_n 0 dX6_greatestShare_69 rfl rfl ?_
  exact run_iret dX6_greatestShare_70 ⟨_, rfl, Option.some.inj h⟩
