/-! methods, translated -/
def HX12_bitsIn : Nat := 2
theorem HX12_bitsIn_X12_has_lt (d : Nat) : d + HX12_has < d + HX12_bitsIn := Nat.add_lt_add_left (by decide) d
theorem HX12_bitsIn_0 (d : Nat) : 0 < d + HX12_bitsIn := Nat.lt_of_lt_of_le (by decide) (Nat.le_add_left _ d)
def lX12_bitsIn_4 (x0 : Int32) (x1 : Int32) : Nat → Int32 → Int32 → Mem → Option (Int32 × Mem)
  | 0, _, _, _ => none
  | n + 1, x2, x3, σ => if x1 ≤ x3 then (some (x2, σ)) else ((fX12_has x0 x3 σ).bind fun q6 => (if q6.1 = true then (some true) else (some false) : Option (Bool)).bind fun q8 => lX12_bitsIn_4 x0 x1 n (x2 + (b2 q8)) (x3 + 1) q6.2)
set_option maxRecDepth 20000 in
theorem lpX12_bitsIn_4 (G : GT) (d : Nat) (x0 : Int32) (x1 : Int32)  {K : Option Value → Mem → Prop} : ∀ (n : Nat) (x2 : Int32) (x3 : Int32) (σ : Mem) (o : Int32 × Mem), lX12_bitsIn_4 x0 x1 n x2 x3 σ = some o → (Run G RX12 cX12_bitsIn 4 (some .int) (mF G (d + HX12_bitsIn) K) 31 [(2, .int (o.1))] [] (o.2)) → Run G RX12 cX12_bitsIn 4 (some .int) (mF G (d + HX12_bitsIn) K) 4 [(0, .int x0), (1, .int x1), (2, .int x2), (3, .int x3)] [] σ := by
  intro n
  induction n with
  | zero => intro x2 x3 σ o h; exact absurd h (by simp [lX12_bitsIn_4])
  | succ n ih =>
    intro x2 x3 σ o h kx
    rw [lX12_bitsIn_4] at h
    refine run_iload_n 3 dX12_bitsIn_4 rfl rfl ?_
    refine run_iload_n 1 dX12_bitsIn_5 rfl rfl ?_
    refine run_icmp_ge 31 dX12_bitsIn_6 (by decide) (fun c5 => ?_) (fun c5 => ?_)
    · rw [if_pos c5] at h
      rw [← Option.some.inj h] at kx
      refine run_forget [2] rfl ?_
      exact kx
    · rw [if_neg c5] at h
      refine run_iload_n 2 dX12_bitsIn_9 rfl rfl ?_
      refine run_iload_n 0 dX12_bitsIn_10 rfl rfl ?_
      refine run_iload_n 3 dX12_bitsIn_11 rfl rfl ?_
      obtain ⟨q6, h10, h⟩ := Option.bind_eq_some_iff.mp h
      refine run_callSb (As := [.int x0, .int x3]) (fun r z => (r, z) = q6) mw_X12_has ms_X12_has ml_X12_148 rfl (RF.lt (HX12_bitsIn_X12_has_lt d)) (Nat.le_of_ble_eq_true rfl) dX12_bitsIn_12 (sX12_has G d  h10) (fun r z h8 => ?_) rfl
      rw [show r = q6.1 from congrArg Prod.fst h8, show z = q6.2 from congrArg Prod.snd h8]
      clear h8
      obtain ⟨q8, h, h9⟩ := Option.bind_eq_some_iff.mp h
      have hj9 : Run G RX12 cX12_bitsIn 4 (some .int) (mF G (d + HX12_bitsIn) K) 23 [(0, .int x0), (1, .int x1), (3, .int x3)] [.int (b2 q8), .int x2] q6.2 := by
        clear h
        have h := h9
        clear h9
        refine run_iadd dX12_bitsIn_23 ?_
        refine run_istore_n [(0, .int x0), (1, .int x1), (2, .int (x2 + (b2 q8))), (3, .int x3)] [1, 2, 0, 3] dX12_bitsIn_24 rfl (by decide) rfl ?_
        refine run_iinc 3 [(0, .int x0), (1, .int x1), (2, .int (x2 + (b2 q8))), (3, .int (x3 + 1))] [1, 2, 3, 0] dX12_bitsIn_25 rfl rfl (by decide) rfl ?_
        refine run_goto 4 dX12_bitsIn_28 (by decide) ?_
        exact ih _ _ _ _ h kx
      clear h9
      refine run_ifb_eq 22 dX12_bitsIn_15 (by decide) (fun c7 => ?_) (fun c7 => ?_)
      · rw [if_neg c7] at h
        refine run_iconst (v := 0) dX12_bitsIn_22 rfl ?_
        rw [← Option.some.inj h] at hj9
        refine run_forget [0, 1, 3] rfl ?_
        exact hj9
      · rw [if_pos c7] at h
        refine run_iconst (v := 1) dX12_bitsIn_18 rfl ?_
        refine run_goto 23 dX12_bitsIn_19 (by decide) ?_
        rw [← Option.some.inj h] at hj9
        refine run_forget [0, 1, 3] rfl ?_
        exact hj9
def fX12_bitsIn (x0 : Int32) (x1 : Int32) (σ : Mem) : Option (Int32 × Mem) := (lX12_bitsIn_4 x0 x1 FU 0 0 σ).bind fun q11 => some ((q11.1), (q11.2))
set_option maxRecDepth 20000 in
theorem sX12_bitsIn (G : GT) (d : Nat) {x0 : Int32} {x1 : Int32}  {σ : Mem} {o : (Int32 × Mem)} (h : fX12_bitsIn x0 x1 σ = some o) : Spec G yX12_bitsIn cX12_bitsIn 4 (some .int) (d + HX12_bitsIn) [.int x0, .int x1] σ (kI fun x z => (x, z) = o) := by
  refine spec_run (by decide) (Nat.le_of_ble_eq_true rfl) ?_
  unfold fX12_bitsIn at h
  show Run G RX12 cX12_bitsIn 4 (some .int) _ 0 [(0, .int x0), (1, .int x1)] [] σ
  refine run_iconst (v := 0) dX12_bitsIn_0 rfl ?_
  refine run_istore_n [(0, .int x0), (1, .int x1), (2, .int 0)] [1, 2, 0] dX12_bitsIn_1 rfl (by decide) rfl ?_
  refine run_iconst (v := 0) dX12_bitsIn_2 rfl ?_
  refine run_istore_n [(0, .int x0), (1, .int x1), (2, .int 0), (3, .int 0)] [1, 2, 3, 0] dX12_bitsIn_3 rfl (by decide) rfl ?_
  obtain ⟨q11, h12, h⟩ := Option.bind_eq_some_iff.mp h
  refine lpX12_bitsIn_4 G d _ _ _ _ _ _ _ h12 ?_
  refine run_iload_n 0 dX12_bitsIn_31 rfl rfl ?_
  exact run_iret dX12_bitsIn_32 ⟨_, rfl, Option.some.inj h⟩
def HX12_weaveAll : Nat := 9
theorem HX12_weaveAll_X12_bitsIn_lt (d : Nat) : d + HX12_bitsIn < d + HX12_weaveAll := Nat.add_lt_add_left (by decide) d
theorem HX12_weaveAll_X12_stepsOf_lt (d : Nat) : d + HX12_stepsOf < d + HX12_weaveAll := Nat.add_lt_add_left (by decide) d
theorem HX12_weaveAll_X12_weaves_lt (d : Nat) : d + HX12_weaves < d + HX12_weaveAll := Nat.add_lt_add_left (by decide) d
theorem HX12_weaveAll_0 (d : Nat) : 0 < d + HX12_weaveAll := Nat.lt_of_lt_of_le (by decide) (Nat.le_add_left _ d)
def lX12_weaveAll_40 (x1 : Int32) (x2 : Int32) (x3 : Int32) : Nat → Int32 → Mem → Option (Mem)
  | 0, _, _ => none
  | n + 1, x4, σ => if ((1 : Int32) <<< (x3 &&& 31)) ≤ x4 then (some σ) else ((fX12_bitsIn x4 x3 σ).bind fun q11 => (fX12_stepsOf x1 q11.2).bind fun q12 => (if q11.1 = q12.1 then ((fX12_weaves x1 x2 x4 x3 q12.2).bind fun q14 => some q14) else (some q12.2) : Option (Mem)).bind fun q16 => lX12_weaveAll_40 x1 x2 x3 n (x4 + 1) q16)
set_option maxRecDepth 20000 in
theorem lpX12_weaveAll_40 (G : GT) (d : Nat) (x1 : Int32) (x2 : Int32) (x3 : Int32)  {K : Option Value → Mem → Prop} : ∀ (n : Nat) (x4 : Int32) (σ : Mem) (o : Mem), lX12_weaveAll_40 x1 x2 x3 n x4 σ = some o → (Run G RX12 cX12_weaveAll 5 none (mF G (d + HX12_weaveAll) K) 77 [] [] o) → Run G RX12 cX12_weaveAll 5 none (mF G (d + HX12_weaveAll) K) 40 [(0, .ref (gA G 269)), (1, .int x1), (2, .int x2), (3, .int x3), (4, .int x4)] [] σ := by
  intro n
  induction n with
  | zero => intro x4 σ o h; exact absurd h (by simp [lX12_weaveAll_40])
  | succ n ih =>
    intro x4 σ o h kx
    rw [lX12_weaveAll_40] at h
    refine run_iload 4 dX12_weaveAll_40 rfl ?_
    refine run_iconst (v := 1) dX12_weaveAll_42 rfl ?_
    refine run_iload_n 3 dX12_weaveAll_43 rfl rfl ?_
    refine run_ishl dX12_weaveAll_44 ?_
    refine run_icmp_ge 77 dX12_weaveAll_45 (by decide) (fun c10 => ?_) (fun c10 => ?_)
    · rw [if_pos c10] at h
      rw [← Option.some.inj h] at kx
      refine run_forget [] rfl ?_
      exact kx
    · rw [if_neg c10] at h
      refine run_iload 4 dX12_weaveAll_48 rfl ?_
      refine run_iload_n 3 dX12_weaveAll_50 rfl rfl ?_
      obtain ⟨q11, h19, h⟩ := Option.bind_eq_some_iff.mp h
      refine run_callSi (As := [.int x4, .int x3]) (fun r z => (r, z) = q11) mw_X12_bitsIn ms_X12_bitsIn ml_X12_637 rfl (RF.lt (HX12_weaveAll_X12_bitsIn_lt d)) (Nat.le_of_ble_eq_true rfl) dX12_weaveAll_51 (sX12_bitsIn G d  h19) (fun r z h8 => ?_) rfl
      rw [show r = q11.1 from congrArg Prod.fst h8, show z = q11.2 from congrArg Prod.snd h8]
      clear h8
      refine run_aload_n 0 dX12_weaveAll_54 rfl rfl ?_
      refine run_iload_n 1 dX12_weaveAll_55 rfl rfl ?_
      obtain ⟨q12, h18, h⟩ := Option.bind_eq_some_iff.mp h
      refine run_callVi (As := [.int x1]) (fun r z => (r, z) = q12) mw_X12_stepsOf mi_X12_stepsOf ml_X12_381 is_269 (by decide) rfl rfl rfl (RF.lt (HX12_weaveAll_X12_stepsOf_lt d)) (Nat.le_of_ble_eq_true rfl) dX12_weaveAll_56 (sX12_stepsOf G d  h18) (fun r z h8 => ?_) rfl
      rw [show r = q12.1 from congrArg Prod.fst h8, show z = q12.2 from congrArg Prod.snd h8]
      clear h8
      obtain ⟨q16, h, h9⟩ := Option.bind_eq_some_iff.mp h
      have hj17 : Run G RX12 cX12_weaveAll 5 none (mF G (d + HX12_weaveAll) K) 71 [(0, .ref (gA G 269)), (1, .int x1), (2, .int x2), (3, .int x3), (4, .int x4)] [] q16 := by
        clear h
        have h := h9
        clear h9
        refine run_iinc 4 [(0, .ref (gA G 269)), (1, .int x1), (2, .int x2), (3, .int x3), (4, .int (x4 + 1))] [1, 2, 3, 4, 0] dX12_weaveAll_71 rfl rfl (by decide) rfl ?_
        refine run_goto 40 dX12_weaveAll_74 (by decide) ?_
        exact ih _ _ _ h kx
      clear h9
      refine run_icmp_ne 71 dX12_weaveAll_59 (by decide) (fun c13 => ?_) (fun c13 => ?_)
      · rw [if_neg c13] at h
        rw [← Option.some.inj h] at hj17
        exact hj17
      · rw [if_pos c13] at h
        refine run_aload_n 0 dX12_weaveAll_62 rfl rfl ?_
        refine run_iload_n 1 dX12_weaveAll_63 rfl rfl ?_
        refine run_iload_n 2 dX12_weaveAll_64 rfl rfl ?_
        refine run_iload 4 dX12_weaveAll_65 rfl ?_
        refine run_iload_n 3 dX12_weaveAll_67 rfl rfl ?_
        obtain ⟨q14, h15, h⟩ := Option.bind_eq_some_iff.mp h
        refine run_callVv (As := [.int x1, .int x2, .int x4, .int x3]) (fun z => z = q14) mw_X12_weaves mi_X12_weaves ml_X12_640 is_269 (by decide) rfl rfl rfl (RF.lt (HX12_weaveAll_X12_weaves_lt d)) (Nat.le_of_ble_eq_true rfl) dX12_weaveAll_68 (sX12_weaves G d  h15) (fun z h8 => ?_) rfl
        rw [h8]
        clear h8
        rw [← Option.some.inj h] at hj17
        exact hj17
def fX12_weaveAll (x1 : Int32) (x2 : Int32) (σ : Mem) : Option Mem := (fX12_stepsOf x1 (st2 (st2 (st2 (st2 (st2 σ 269 84 0) 269 85 0) 269 86 0) 269 87 0) 269 88 0)).bind fun q1 => (fX12_stepsOf x2 q1.2).bind fun q2 => (lX12_weaveAll_40 x1 x2 (q1.1 + q2.1) FU 0 q2.2).bind fun q20 => some q20
set_option maxRecDepth 20000 in
theorem sX12_weaveAll (G : GT) (d : Nat) {x1 : Int32} {x2 : Int32}  {σ : Mem} {o : Mem} (h : fX12_weaveAll x1 x2 σ = some o) : Spec G yX12_weaveAll cX12_weaveAll 5 none (d + HX12_weaveAll) [.ref (gA G 269), .int x1, .int x2] σ (kV fun z => z = o) := by
  refine spec_run (by decide) (Nat.le_of_ble_eq_true rfl) ?_
  unfold fX12_weaveAll at h
  show Run G RX12 cX12_weaveAll 5 none _ 0 [(0, .ref (gA G 269)), (1, .int x1), (2, .int x2)] [] σ
  refine run_aload_n 0 dX12_weaveAll_0 rfl rfl ?_
  refine run_iconst (v := 0) dX12_weaveAll_1 rfl ?_
  refine run_puti fp_X12_622 is_269 (by decide) rfl dX12_weaveAll_2 ?_
  refine run_aload_n 0 dX12_weaveAll_5 rfl rfl ?_
  refine run_iconst (v := 0) dX12_weaveAll_6 rfl ?_
  refine run_puti fp_X12_625 is_269 (by decide) rfl dX12_weaveAll_7 ?_
  refine run_aload_n 0 dX12_weaveAll_10 rfl rfl ?_
  refine run_iconst (v := 0) dX12_weaveAll_11 rfl ?_
  refine run_puti fp_X12_628 is_269 (by decide) rfl dX12_weaveAll_12 ?_
  refine run_aload_n 0 dX12_weaveAll_15 rfl rfl ?_
  refine run_iconst (v := 0) dX12_weaveAll_16 rfl ?_
  refine run_puti fp_X12_631 is_269 (by decide) rfl dX12_weaveAll_17 ?_
  refine run_aload_n 0 dX12_weaveAll_20 rfl rfl ?_
  refine run_iconst (v := 0) dX12_weaveAll_21 rfl ?_
  refine run_puti fp_X12_634 is_269 (by decide) rfl dX12_weaveAll_22 ?_
  refine run_aload_n 0 dX12_weaveAll_25 rfl rfl ?_
  refine run_iload_n 1 dX12_weaveAll_26 rfl rfl ?_
  obtain ⟨q1, h23, h⟩ := Option.bind_eq_some_iff.mp h
  refine run_callVi (As := [.int x1]) (fun r z => (r, z) = q1) mw_X12_stepsOf mi_X12_stepsOf ml_X12_381 is_269 (by decide) rfl rfl rfl (RF.lt (HX12_weaveAll_X12_stepsOf_lt d)) (Nat.le_of_ble_eq_true rfl) dX12_weaveAll_27 (sX12_stepsOf G d  h23) (fun r z h8 => ?_) rfl
  rw [show r = q1.1 from congrArg Prod.fst h8, show z = q1.2 from congrArg Prod.snd h8]
  clear h8
  refine run_aload_n 0 dX12_weaveAll_30 rfl rfl ?_
  refine run_iload_n 2 dX12_weaveAll_31 rfl rfl ?_
  obtain ⟨q2, h22, h⟩ := Option.bind_eq_some_iff.mp h
  refine run_callVi (As := [.int x2]) (fun r z => (r, z) = q2) mw_X12_stepsOf mi_X12_stepsOf ml_X12_381 is_269 (by decide) rfl rfl rfl (RF.lt (HX12_weaveAll_X12_stepsOf_lt d)) (Nat.le_of_ble_eq_true rfl) dX12_weaveAll_32 (sX12_stepsOf G d  h22) (fun r z h8 => ?_) rfl
  rw [show r = q2.1 from congrArg Prod.fst h8, show z = q2.2 from congrArg Prod.snd h8]
  clear h8
  refine run_iadd dX12_weaveAll_35 ?_
  refine run_istore_n [(0, .ref (gA G 269)), (1, .int x1), (2, .int x2), (3, .int (q1.1 + q2.1))] [1, 2, 3, 0] dX12_weaveAll_36 rfl (by decide) rfl ?_
  refine run_iconst (v := 0) dX12_weaveAll_37 rfl ?_
  refine run_istore [(0, .ref (gA G 269)), (1, .int x1), (2, .int x2), (3, .int (q1.1 + q2.1)), (4, .int 0)] [1, 2, 3, 4, 0] dX12_weaveAll_38 (by decide) rfl ?_
  obtain ⟨q20, h21, h⟩ := Option.bind_eq_some_iff.mp h
  refine lpX12_weaveAll_40 G d _ _ _ _ _ _ _ h21 ?_
  exact run_vret dX12_weaveAll_77 ⟨rfl, Option.some.inj h⟩
def HX12_weave : Nat := 10
theorem HX12_weave_X12_hand_lt (d : Nat) : d + HX12_hand < d + HX12_weave := Nat.add_lt_add_left (by decide) d
theorem HX12_weave_X12_in_lt (d : Nat) : d + HX12_in < d + HX12_weave := Nat.add_lt_add_left (by decide) d
theorem HX12_weave_X12_isTask_lt (d : Nat) : d + HX12_isTask < d + HX12_weave := Nat.add_lt_add_left (by decide) d
theorem HX12_weave_X12_weaveAll_lt (d : Nat) : d + HX12_weaveAll < d + HX12_weave := Nat.add_lt_add_left (by decide) d
theorem HX12_weave_0 (d : Nat) : 0 < d + HX12_weave := Nat.lt_of_lt_of_le (by decide) (Nat.le_add_left _ d)
def fX12_weave (x1 : Int32) (x2 : Int32) (x3 : Int32) (x4 : Int32) (x5 : Int32) (σ : Mem) : Option (Int32 × Mem) := (fX12_in x5 0 4 (st2 σ 269 0 0)).bind fun q1 => if q1.1 = true then ((fX12_hand x1 x2 q1.2).bind fun q3 => if q3.1 = true then ((fX12_isTask x3 q3.2).bind fun q5 => if q5.1 = true then ((fX12_isTask x4 q5.2).bind fun q7 => if q7.1 = true then ((fX12_weaveAll x3 x4 q7.2).bind fun q9 => if x5 = 0 then (some ((q9 269 84), q9)) else (if x5 = 1 then (some ((q9 269 85), q9)) else (if x5 = 2 then (some ((q9 269 86), q9)) else (if x5 = 3 then (some ((q9 269 87), q9)) else (some ((q9 269 88), q9)))))) else (some ((-1), q7.2))) else (some ((-1), q5.2))) else (some ((-1), q3.2))) else (some ((-1), q1.2))
set_option maxRecDepth 20000 in
theorem sX12_weave (G : GT) (d : Nat) {x1 : Int32} {x2 : Int32} {x3 : Int32} {x4 : Int32} {x5 : Int32}  {σ : Mem} {o : (Int32 × Mem)} (h : fX12_weave x1 x2 x3 x4 x5 σ = some o) : Spec G yX12_weave cX12_weave 6 (some .int) (d + HX12_weave) [.ref (gA G 269), .int x1, .int x2, .int x3, .int x4, .int x5] σ (kI fun x z => (x, z) = o) := by
  refine spec_run (by decide) (Nat.le_of_ble_eq_true rfl) ?_
  unfold fX12_weave at h
  show Run G RX12 cX12_weave 6 (some .int) _ 0 [(0, .ref (gA G 269)), (1, .int x1), (2, .int x2), (3, .int x3), (4, .int x4), (5, .int x5)] [] σ
  refine run_aload_n 0 dX12_weave_0 rfl rfl ?_
  refine run_iconst (v := 0) dX12_weave_1 rfl ?_
  refine run_puti fp_X12_144 is_269 (by decide) rfl dX12_weave_2 ?_
  refine run_iload 5 dX12_weave_5 rfl ?_
  refine run_iconst (v := 0) dX12_weave_7 rfl ?_
  refine run_iconst (v := 4) dX12_weave_8 rfl ?_
  obtain ⟨q1, h18, h⟩ := Option.bind_eq_some_iff.mp h
  refine run_callSb (As := [.int x5, .int 0, .int 4]) (fun r z => (r, z) = q1) mw_X12_in ms_X12_in ml_X12_156 rfl (RF.lt (HX12_weave_X12_in_lt d)) (Nat.le_of_ble_eq_true rfl) dX12_weave_9 (sX12_in G d  h18) (fun r z h8 => ?_) rfl
  rw [show r = q1.1 from congrArg Prod.fst h8, show z = q1.2 from congrArg Prod.snd h8]
  clear h8
  refine run_ifb_eq 41 dX12_weave_12 (by decide) (fun c2 => ?_) (fun c2 => ?_)
  · rw [if_neg c2] at h
    refine run_iconst (v := -1) dX12_weave_41 rfl ?_
    exact run_iret dX12_weave_42 ⟨_, rfl, Option.some.inj h⟩
  · rw [if_pos c2] at h
    refine run_aload_n 0 dX12_weave_15 rfl rfl ?_
    refine run_iload_n 1 dX12_weave_16 rfl rfl ?_
    refine run_iload_n 2 dX12_weave_17 rfl rfl ?_
    obtain ⟨q3, h17, h⟩ := Option.bind_eq_some_iff.mp h
    refine run_callVb (As := [.int x1, .int x2]) (fun r z => (r, z) = q3) mw_X12_hand mi_X12_hand ml_X12_487 is_269 (by decide) rfl rfl rfl (RF.lt (HX12_weave_X12_hand_lt d)) (Nat.le_of_ble_eq_true rfl) dX12_weave_18 (sX12_hand G d  h17) (fun r z h8 => ?_) rfl
    rw [show r = q3.1 from congrArg Prod.fst h8, show z = q3.2 from congrArg Prod.snd h8]
    clear h8
    refine run_ifb_eq 41 dX12_weave_21 (by decide) (fun c4 => ?_) (fun c4 => ?_)
    · rw [if_neg c4] at h
      refine run_iconst (v := -1) dX12_weave_41 rfl ?_
      exact run_iret dX12_weave_42 ⟨_, rfl, Option.some.inj h⟩
    · rw [if_pos c4] at h
      refine run_aload_n 0 dX12_weave_24 rfl rfl ?_
      refine run_iload_n 3 dX12_weave_25 rfl rfl ?_
      obtain ⟨q5, h16, h⟩ := Option.bind_eq_some_iff.mp h
      refine run_callVb (As := [.int x3]) (fun r z => (r, z) = q5) mw_X12_isTask mi_X12_isTask ml_X12_378 is_269 (by decide) rfl rfl rfl (RF.lt (HX12_weave_X12_isTask_lt d)) (Nat.le_of_ble_eq_true rfl) dX12_weave_26 (sX12_isTask G d  h16) (fun r z h8 => ?_) rfl
      rw [show r = q5.1 from congrArg Prod.fst h8, show z = q5.2 from congrArg Prod.snd h8]
      clear h8
      refine run_ifb_eq 41 dX12_weave_29 (by decide) (fun c6 => ?_) (fun c6 => ?_)
      · rw [if_neg c6] at h
        refine run_iconst (v := -1) dX12_weave_41 rfl ?_
        exact run_iret dX12_weave_42 ⟨_, rfl, Option.some.inj h⟩
      · rw [if_pos c6] at h
        refine run_aload_n 0 dX12_weave_32 rfl rfl ?_
        refine run_iload 4 dX12_weave_33 rfl ?_
        obtain ⟨q7, h15, h⟩ := Option.bind_eq_some_iff.mp h
        refine run_callVb (As := [.int x4]) (fun r z => (r, z) = q7) mw_X12_isTask mi_X12_isTask ml_X12_378 is_269 (by decide) rfl rfl rfl (RF.lt (HX12_weave_X12_isTask_lt d)) (Nat.le_of_ble_eq_true rfl) dX12_weave_35 (sX12_isTask G d  h15) (fun r z h8 => ?_) rfl
        rw [show r = q7.1 from congrArg Prod.fst h8, show z = q7.2 from congrArg Prod.snd h8]
        clear h8
        refine run_ifb_ne 43 dX12_weave_38 (by decide) (fun c8 => ?_) (fun c8 => ?_)
        · rw [if_pos c8] at h
          refine run_aload_n 0 dX12_weave_43 rfl rfl ?_
          refine run_iload_n 3 dX12_weave_44 rfl rfl ?_
          refine run_iload 4 dX12_weave_45 rfl ?_
          obtain ⟨q9, h14, h⟩ := Option.bind_eq_some_iff.mp h
          refine run_callVv (As := [.int x3, .int x4]) (fun z => z = q9) mw_X12_weaveAll mi_X12_weaveAll ml_X12_643 is_269 (by decide) rfl rfl rfl (RF.lt (HX12_weave_X12_weaveAll_lt d)) (Nat.le_of_ble_eq_true rfl) dX12_weave_47 (sX12_weaveAll G d  h14) (fun z h8 => ?_) rfl
          rw [h8]
          clear h8
          refine run_iload 5 dX12_weave_50 rfl ?_
          by_cases c10 : x5 = 0
          · rw [if_pos c10] at h
            refine run_tblIn 84 dX12_weave_52 (by rw [c10]; decide) (by rw [c10]; decide) (off := 32) (by rw [c10]; rfl) (by decide) ?_
            refine run_aload_n 0 dX12_weave_84 rfl rfl ?_
            refine run_geti fl_X12_622 is_269 (by decide) rfl dX12_weave_85 ?_
            exact run_iret dX12_weave_88 ⟨_, rfl, Option.some.inj h⟩
          · rw [if_neg c10] at h
            by_cases c11 : x5 = 1
            · rw [if_pos c11] at h
              refine run_tblIn 89 dX12_weave_52 (by rw [c11]; decide) (by rw [c11]; decide) (off := 37) (by rw [c11]; rfl) (by decide) ?_
              refine run_aload_n 0 dX12_weave_89 rfl rfl ?_
              refine run_geti fl_X12_625 is_269 (by decide) rfl dX12_weave_90 ?_
              exact run_iret dX12_weave_93 ⟨_, rfl, Option.some.inj h⟩
            · rw [if_neg c11] at h
              by_cases c12 : x5 = 2
              · rw [if_pos c12] at h
                refine run_tblIn 94 dX12_weave_52 (by rw [c12]; decide) (by rw [c12]; decide) (off := 42) (by rw [c12]; rfl) (by decide) ?_
                refine run_aload_n 0 dX12_weave_94 rfl rfl ?_
                refine run_geti fl_X12_628 is_269 (by decide) rfl dX12_weave_95 ?_
                exact run_iret dX12_weave_98 ⟨_, rfl, Option.some.inj h⟩
              · rw [if_neg c12] at h
                by_cases c13 : x5 = 3
                · rw [if_pos c13] at h
                  refine run_tblIn 99 dX12_weave_52 (by rw [c13]; decide) (by rw [c13]; decide) (off := 47) (by rw [c13]; rfl) (by decide) ?_
                  refine run_aload_n 0 dX12_weave_99 rfl rfl ?_
                  refine run_geti fl_X12_631 is_269 (by decide) rfl dX12_weave_100 ?_
                  exact run_iret dX12_weave_103 ⟨_, rfl, Option.some.inj h⟩
                · rw [if_neg c13] at h
                  refine run_tblOut 104 dX12_weave_52 (by have tc10 := tbl_ne c10 (z := 0) rfl; have tc11 := tbl_ne c11 (z := 1) rfl; have tc12 := tbl_ne c12 (z := 2) rfl; have tc13 := tbl_ne c13 (z := 3) rfl; omega) (by decide) ?_
                  refine run_aload_n 0 dX12_weave_104 rfl rfl ?_
                  refine run_geti fl_X12_634 is_269 (by decide) rfl dX12_weave_105 ?_
                  exact run_iret dX12_weave_108 ⟨_, rfl, Option.some.inj h⟩
        · rw [if_neg c8] at h
          refine run_iconst (v := -1) dX12_weave_41 rfl ?_
          exact run_iret dX12_weave_42 ⟨_, rfl, Option.some.inj h⟩
def HX12_risk : Nat := 10
theorem HX12_risk_X12_hand_lt (d : Nat) : d + HX12_hand < d + HX12_risk := Nat.add_lt_add_left (by decide) d
theorem HX12_risk_X12_isTask_lt (d : Nat) : d + HX12_isTask < d + HX12_risk := Nat.add_lt_add_left (by decide) d
theorem HX12_risk_X12_weaveAll_lt (d : Nat) : d + HX12_weaveAll < d + HX12_risk := Nat.add_lt_add_left (by decide) d
theorem HX12_risk_0 (d : Nat) : 0 < d + HX12_risk := Nat.lt_of_lt_of_le (by decide) (Nat.le_add_left _ d)
def lX12_risk_30 (x3 : Int32) : Nat → Int32 → Int32 → Mem → Option (Int32 × Mem)
  | 0, _, _, _ => none
  | n + 1, x4, x5, σ => if (σ 269 27) ≤ x5 then (some (x4, σ)) else ((fX12_weaveAll x3 x5 σ).bind fun q10 => (if (q10 269 86) ≤ 0 then (some 0) else (some ((1 : Int32) <<< (x5 &&& 31))) : Option (Int32)).bind fun q12 => lX12_risk_30 x3 n (x4 ||| q12) (x5 + 1) q10)
set_option maxRecDepth 20000 in
theorem lpX12_risk_30 (G : GT) (d : Nat) (x3 : Int32)  {K : Option Value → Mem → Prop} : ∀ (n : Nat) (x4 : Int32) (x5 : Int32) (σ : Mem) (o : Int32 × Mem), lX12_risk_30 x3 n x4 x5 σ = some o → (Run G RX12 cX12_risk 6 (some .int) (mF G (d + HX12_risk) K) 72 [(4, .int (o.1))] [] (o.2)) → Run G RX12 cX12_risk 6 (some .int) (mF G (d + HX12_risk) K) 30 [(0, .ref (gA G 269)), (3, .int x3), (4, .int x4), (5, .int x5)] [] σ := by
  intro n
  induction n with
  | zero => intro x4 x5 σ o h; exact absurd h (by simp [lX12_risk_30])
  | succ n ih =>
    intro x4 x5 σ o h kx
    rw [lX12_risk_30] at h
    refine run_iload 3 dX12_risk_30 rfl ?_
    refine run_aload_n 0 dX12_risk_32 rfl rfl ?_
    refine run_geti fl_X12_323 is_269 (by decide) rfl dX12_risk_33 ?_
    refine run_icmp_ge 72 dX12_risk_36 (by decide) (fun c9 => ?_) (fun c9 => ?_)
    · rw [if_pos c9] at h
      rw [← Option.some.inj h] at kx
      refine run_forget [2] rfl ?_
      exact kx
    · rw [if_neg c9] at h
      refine run_aload_n 0 dX12_risk_39 rfl rfl ?_
      refine run_iload_n 1 dX12_risk_40 rfl rfl ?_
      refine run_iload 3 dX12_risk_41 rfl ?_
      obtain ⟨q10, h14, h⟩ := Option.bind_eq_some_iff.mp h
      refine run_callVv (As := [.int x3, .int x5]) (fun z => z = q10) mw_X12_weaveAll mi_X12_weaveAll ml_X12_643 is_269 (by decide) rfl rfl rfl (RF.lt (HX12_risk_X12_weaveAll_lt d)) (Nat.le_of_ble_eq_true rfl) dX12_risk_43 (sX12_weaveAll G d  h14) (fun z h8 => ?_) rfl
      rw [h8]
      clear h8
      refine run_iload 2 dX12_risk_46 rfl ?_
      refine run_aload_n 0 dX12_risk_48 rfl rfl ?_
      refine run_geti fl_X12_628 is_269 (by decide) rfl dX12_risk_49 ?_
      obtain ⟨q12, h, h9⟩ := Option.bind_eq_some_iff.mp h
      have hj13 : Run G RX12 cX12_risk 6 (some .int) (mF G (d + HX12_risk) K) 63 [(0, .ref (gA G 269)), (3, .int x3), (5, .int x5)] [.int q12, .int x4] q10 := by
        clear h
        have h := h9
        clear h9
        refine run_ior dX12_risk_63 ?_
        refine run_istore [(0, .ref (gA G 269)), (3, .int x3), (4, .int (x4 ||| q12)), (5, .int x5)] [1, 2, 0, 3] dX12_risk_64 (by decide) rfl ?_
        refine run_iinc 3 [(0, .ref (gA G 269)), (3, .int x3), (4, .int (x4 ||| q12)), (5, .int (x5 + 1))] [1, 2, 3, 0] dX12_risk_66 rfl rfl (by decide) rfl ?_
        refine run_goto 30 dX12_risk_69 (by decide) ?_
        exact ih _ _ _ _ h kx
      clear h9
      refine run_if_le 62 dX12_risk_52 (by decide) (fun c11 => ?_) (fun c11 => ?_)
      · rw [if_pos c11] at h
        refine run_iconst (v := 0) dX12_risk_62 rfl ?_
        rw [← Option.some.inj h] at hj13
        refine run_forget [0, 1, 3] rfl ?_
        exact hj13
      · rw [if_neg c11] at h
        refine run_iconst (v := 1) dX12_risk_55 rfl ?_
        refine run_iload 3 dX12_risk_56 rfl ?_
        refine run_ishl dX12_risk_58 ?_
        refine run_goto 63 dX12_risk_59 (by decide) ?_
        rw [← Option.some.inj h] at hj13
        refine run_forget [0, 1, 3] rfl ?_
        exact hj13
def fX12_risk (x1 : Int32) (x2 : Int32) (x3 : Int32) (σ : Mem) : Option (Int32 × Mem) := (fX12_hand x1 x2 (st2 σ 269 0 0)).bind fun q1 => if q1.1 = true then ((fX12_isTask x3 q1.2).bind fun q3 => if q3.1 = true then ((lX12_risk_30 x3 FU 0 0 q3.2).bind fun q15 => some ((q15.1), (q15.2))) else (some ((-1), q3.2))) else (some ((-1), q1.2))
set_option maxRecDepth 20000 in
theorem sX12_risk (G : GT) (d : Nat) {x1 : Int32} {x2 : Int32} {x3 : Int32}  {σ : Mem} {o : (Int32 × Mem)} (h : fX12_risk x1 x2 x3 σ = some o) : Spec G yX12_risk cX12_risk 6 (some .int) (d + HX12_risk) [.ref (gA G 269), .int x1, .int x2, .int x3] σ (kI fun x z => (x, z) = o) := by
  refine spec_run (by decide) (Nat.le_of_ble_eq_true rfl) ?_
  unfold fX12_risk at h
  show Run G RX12 cX12_risk 6 (some .int) _ 0 [(0, .ref (gA G 269)), (1, .int x1), (2, .int x2), (3, .int x3)] [] σ
  refine run_aload_n 0 dX12_risk_0 rfl rfl ?_
  refine run_iconst (v := 0) dX12_risk_1 rfl ?_
  refine run_puti fp_X12_144 is_269 (by decide) rfl dX12_risk_2 ?_
  refine run_aload_n 0 dX12_risk_5 rfl rfl ?_
  refine run_iload_n 1 dX12_risk_6 rfl rfl ?_
  refine run_iload_n 2 dX12_risk_7 rfl rfl ?_
  obtain ⟨q1, h18, h⟩ := Option.bind_eq_some_iff.mp h
  refine run_callVb (As := [.int x1, .int x2]) (fun r z => (r, z) = q1) mw_X12_hand mi_X12_hand ml_X12_487 is_269 (by decide) rfl rfl rfl (RF.lt (HX12_risk_X12_hand_lt d)) (Nat.le_of_ble_eq_true rfl) dX12_risk_8 (sX12_hand G d  h18) (fun r z h8 => ?_) rfl
  rw [show r = q1.1 from congrArg Prod.fst h8, show z = q1.2 from congrArg Prod.snd h8]
  clear h8
  refine run_ifb_eq 22 dX12_risk_11 (by decide) (fun c2 => ?_) (fun c2 => ?_)
  · rw [if_neg c2] at h
    refine run_iconst (v := -1) dX12_risk_22 rfl ?_
    exact run_iret dX12_risk_23 ⟨_, rfl, Option.some.inj h⟩
  · rw [if_pos c2] at h
    refine run_aload_n 0 dX12_risk_14 rfl rfl ?_
    refine run_iload_n 3 dX12_risk_15 rfl rfl ?_
    obtain ⟨q3, h17, h⟩ := Option.bind_eq_some_iff.mp h
    refine run_callVb (As := [.int x3]) (fun r z => (r, z) = q3) mw_X12_isTask mi_X12_isTask ml_X12_378 is_269 (by decide) rfl rfl rfl (RF.lt (HX12_risk_X12_isTask_lt d)) (Nat.le_of_ble_eq_true rfl) dX12_risk_16 (sX12_isTask G d  h17) (fun r z h8 => ?_) rfl
    rw [show r = q3.1 from congrArg Prod.fst h8, show z = q3.2 from congrArg Prod.snd h8]
    clear h8
    refine run_ifb_ne 24 dX12_risk_19 (by decide) (fun c4 => ?_) (fun c4 => ?_)
    · rw [if_pos c4] at h
      refine run_iconst (v := 0) dX12_risk_24 rfl ?_
      refine run_istore [(0, .ref (gA G 269)), (3, .int x3), (4, .int 0)] [1, 4, 0] dX12_risk_25 (by decide) rfl ?_
      refine run_iconst (v := 0) dX12_risk_27 rfl ?_
      refine run_istore [(0, .ref (gA G 269)), (3, .int x3), (4, .int 0), (5, .int 0)] [1, 2, 3, 0] dX12_risk_28 (by decide) rfl ?_
      obtain ⟨q15, h16, h⟩ := Option.bind_eq_some_iff.mp h
      refine lpX12_risk_30 G d _ _ _ _ _ _ h16 ?_
      refine run_iload 0 dX12_risk_72 rfl ?_
      exact run_iret dX12_risk_74 ⟨_, rfl, Option.some.inj h⟩
    · rw [if_neg c4] at h
      refine run_iconst (v := -1) dX12_risk_22 rfl ?_
      exact run_iret dX12_risk_23 ⟨_, rfl, Option.some.inj h⟩
def HX12_oftenest : Nat := 1
theorem HX12_oftenest_0 (d : Nat) : 0 < d + HX12_oftenest := Nat.lt_of_lt_of_le (by decide) (Nat.le_add_left _ d)
def lX12_oftenest_4  : Nat → Int32 → Int32 → Mem → Option (Int32 × Mem)
  | 0, _, _, _ => none
  | n + 1, x1, x2, σ => if (σ 269 27) ≤ x2 then (some (x1, σ)) else (gd (inb x2 7) ((if x1 = (-1) then (some 0) else (gd (inb x1 7) (some (σ 304 (Int32.toNatClampNeg x1)))) : Option (Int32)).bind fun q12 => (if (σ 304 (Int32.toNatClampNeg x2)) ≤ q12 then (some x1) else (some x2) : Option (Int32)).bind fun q14 => lX12_oftenest_4 n q14 (x2 + 1) σ))
set_option maxRecDepth 20000 in
theorem lpX12_oftenest_4 (G : GT) (d : Nat)   {K : Option Value → Mem → Prop} : ∀ (n : Nat) (x1 : Int32) (x2 : Int32) (σ : Mem) (o : Int32 × Mem), lX12_oftenest_4 n x1 x2 σ = some o → (Run G RX12 cX12_oftenest 3 (some .int) (mF G (d + HX12_oftenest) K) 48 [(1, .int (o.1))] [] (o.2)) → Run G RX12 cX12_oftenest 3 (some .int) (mF G (d + HX12_oftenest) K) 4 [(0, .ref (gA G 269)), (1, .int x1), (2, .int x2)] [] σ := by
  intro n
  induction n with
  | zero => intro x1 x2 σ o h; exact absurd h (by simp [lX12_oftenest_4])
  | succ n ih =>
    intro x1 x2 σ o h kx
    rw [lX12_oftenest_4] at h
    refine run_iload_n 2 dX12_oftenest_4 rfl rfl ?_
    refine run_aload_n 0 dX12_oftenest_5 rfl rfl ?_
    refine run_geti fl_X12_323 is_269 (by decide) rfl dX12_oftenest_6 ?_
    refine run_icmp_ge 48 dX12_oftenest_9 (by decide) (fun c8 => ?_) (fun c8 => ?_)
    · rw [if_pos c8] at h
      rw [← Option.some.inj h] at kx
      refine run_forget [1] rfl ?_
      exact kx
    · rw [if_neg c8] at h
      refine run_aload_n 0 dX12_oftenest_12 rfl rfl ?_
      refine run_getr fl_X12_113 is_269 (by decide) rfl ce_269_60 dX12_oftenest_13 ?_
      refine run_iload_n 2 dX12_oftenest_16 rfl rfl ?_
      obtain ⟨g9, h⟩ := gd_s h
      refine run_iald' is_304 ln_304 g9 rfl dX12_oftenest_17 ?_
      refine run_iload_n 1 dX12_oftenest_18 rfl rfl ?_
      refine run_iconst (v := -1) dX12_oftenest_19 rfl ?_
      obtain ⟨q12, h, h9⟩ := Option.bind_eq_some_iff.mp h
      have hj16 : Run G RX12 cX12_oftenest 3 (some .int) (mF G (d + HX12_oftenest) K) 33 [(0, .ref (gA G 269)), (1, .int x1), (2, .int x2)] [.int q12, .int (σ 304 (Int32.toNatClampNeg x2))] σ := by
        clear h
        have h := h9
        clear h9
        obtain ⟨q14, h, h9⟩ := Option.bind_eq_some_iff.mp h
        have hj15 : Run G RX12 cX12_oftenest 3 (some .int) (mF G (d + HX12_oftenest) K) 41 [(0, .ref (gA G 269)), (2, .int x2)] [.int q14] σ := by
          clear h
          have h := h9
          clear h9
          refine run_istore_n [(0, .ref (gA G 269)), (1, .int q14), (2, .int x2)] [1, 0, 2] dX12_oftenest_41 rfl (by decide) rfl ?_
          refine run_iinc 2 [(0, .ref (gA G 269)), (1, .int q14), (2, .int (x2 + 1))] [1, 2, 0] dX12_oftenest_42 rfl rfl (by decide) rfl ?_
          refine run_goto 4 dX12_oftenest_45 (by decide) ?_
          exact ih _ _ _ _ h kx
        clear h9
        refine run_icmp_le 40 dX12_oftenest_33 (by decide) (fun c13 => ?_) (fun c13 => ?_)
        · rw [if_pos c13] at h
          refine run_iload_n 1 dX12_oftenest_40 rfl rfl ?_
          rw [← Option.some.inj h] at hj15
          refine run_forget [0, 2] rfl ?_
          exact hj15
        · rw [if_neg c13] at h
          refine run_iload_n 2 dX12_oftenest_36 rfl rfl ?_
          refine run_goto 41 dX12_oftenest_37 (by decide) ?_
          rw [← Option.some.inj h] at hj15
          refine run_forget [0, 2] rfl ?_
          exact hj15
      clear h9
      refine run_icmp_ne 27 dX12_oftenest_20 (by decide) (fun c10 => ?_) (fun c10 => ?_)
      · rw [if_neg c10] at h
        refine run_aload_n 0 dX12_oftenest_27 rfl rfl ?_
        refine run_getr fl_X12_113 is_269 (by decide) rfl ce_269_60 dX12_oftenest_28 ?_
        refine run_iload_n 1 dX12_oftenest_31 rfl rfl ?_
        obtain ⟨g11, h⟩ := gd_s h
        refine run_iald' is_304 ln_304 g11 rfl dX12_oftenest_32 ?_
        rw [← Option.some.inj h] at hj16
        exact hj16
      · rw [if_pos c10] at h
        refine run_iconst (v := 0) dX12_oftenest_23 rfl ?_
        refine run_goto 33 dX12_oftenest_24 (by decide) ?_
        rw [← Option.some.inj h] at hj16
        exact hj16
def fX12_oftenest  (σ : Mem) : Option (Int32 × Mem) := (lX12_oftenest_4 FU (-1) 0 σ).bind fun q17 => some ((q17.1), (q17.2))
set_option maxRecDepth 20000 in
theorem sX12_oftenest (G : GT) (d : Nat)   {σ : Mem} {o : (Int32 × Mem)} (h : fX12_oftenest σ = some o) : Spec G yX12_oftenest cX12_oftenest 3 (some .int) (d + HX12_oftenest) [.ref (gA G 269)] σ (kI fun x z => (x, z) = o) := by
  refine spec_run (by decide) (Nat.le_of_ble_eq_true rfl) ?_
  unfold fX12_oftenest at h
  show Run G RX12 cX12_oftenest 3 (some .int) _ 0 [(0, .ref (gA G 269))] [] σ
  refine run_iconst (v := -1) dX12_oftenest_0 rfl ?_
  refine run_istore_n [(0, .ref (gA G 269)), (1, .int (-1))] [1, 0] dX12_oftenest_1 rfl (by decide) rfl ?_
  refine run_iconst (v := 0) dX12_oftenest_2 rfl ?_
  refine run_istore_n [(0, .ref (gA G 269)), (1, .int (-1)), (2, .int 0)] [1, 2, 0] dX12_oftenest_3 rfl (by decide) rfl ?_
  obtain ⟨q17, h18, h⟩ := Option.bind_eq_some_iff.mp h
  refine lpX12_oftenest_4 G d _ _ _ _ _ h18 ?_
  refine run_iload_n 0 dX12_oftenest_48 rfl rfl ?_
  exact run_iret dX12_oftenest_49 ⟨_, rfl, Option.some.inj h⟩
def HX12_hottest : Nat := 1
theorem HX12_hottest_0 (d : Nat) : 0 < d + HX12_hottest := Nat.lt_of_lt_of_le (by decide) (Nat.le_add_left _ d)
def lX12_hottest_4  : Nat → Int32 → Int32 → Mem → Option (Int32 × Mem)
  | 0, _, _, _ => none
  | n + 1, x1, x2, σ => if 10 ≤ x2 then (some (x1, σ)) else (gd (inb x2 10) ((if x1 = (-1) then (some 0) else (gd (inb x1 10) (some (σ 305 (Int32.toNatClampNeg x1)))) : Option (Int32)).bind fun q12 => (if (σ 305 (Int32.toNatClampNeg x2)) ≤ q12 then (some x1) else (some x2) : Option (Int32)).bind fun q14 => lX12_hottest_4 n q14 (x2 + 1) σ))
set_option maxRecDepth 20000 in
theorem lpX12_hottest_4 (G : GT) (d : Nat)   {K : Option Value → Mem → Prop} : ∀ (n : Nat) (x1 : Int32) (x2 : Int32) (σ : Mem) (o : Int32 × Mem), lX12_hottest_4 n x1 x2 σ = some o → (Run G RX12 cX12_hottest 3 (some .int) (mF G (d + HX12_hottest) K) 46 [(1, .int (o.1))] [] (o.2)) → Run G RX12 cX12_hottest 3 (some .int) (mF G (d + HX12_hottest) K) 4 [(0, .ref (gA G 269)), (1, .int x1), (2, .int x2)] [] σ := by
  intro n
  induction n with
  | zero => intro x1 x2 σ o h; exact absurd h (by simp [lX12_hottest_4])
  | succ n ih =>
    intro x1 x2 σ o h kx
    rw [lX12_hottest_4] at h
    refine run_iload_n 2 dX12_hottest_4 rfl rfl ?_
    refine run_bipush (v := 10) dX12_hottest_5 rfl ?_
    refine run_icmp_ge 46 dX12_hottest_7 (by decide) (fun c8 => ?_) (fun c8 => ?_)
    · rw [if_pos c8] at h
      rw [← Option.some.inj h] at kx
      refine run_forget [1] rfl ?_
      exact kx
    · rw [if_neg c8] at h
      refine run_aload_n 0 dX12_hottest_10 rfl rfl ?_
      refine run_getr fl_X12_116 is_269 (by decide) rfl ce_269_61 dX12_hottest_11 ?_
      refine run_iload_n 2 dX12_hottest_14 rfl rfl ?_
      obtain ⟨g9, h⟩ := gd_s h
      refine run_iald' is_305 ln_305 g9 rfl dX12_hottest_15 ?_
      refine run_iload_n 1 dX12_hottest_16 rfl rfl ?_
      refine run_iconst (v := -1) dX12_hottest_17 rfl ?_
      obtain ⟨q12, h, h9⟩ := Option.bind_eq_some_iff.mp h
      have hj16 : Run G RX12 cX12_hottest 3 (some .int) (mF G (d + HX12_hottest) K) 31 [(0, .ref (gA G 269)), (1, .int x1), (2, .int x2)] [.int q12, .int (σ 305 (Int32.toNatClampNeg x2))] σ := by
        clear h
        have h := h9
        clear h9
        obtain ⟨q14, h, h9⟩ := Option.bind_eq_some_iff.mp h
        have hj15 : Run G RX12 cX12_hottest 3 (some .int) (mF G (d + HX12_hottest) K) 39 [(0, .ref (gA G 269)), (2, .int x2)] [.int q14] σ := by
          clear h
          have h := h9
          clear h9
          refine run_istore_n [(0, .ref (gA G 269)), (1, .int q14), (2, .int x2)] [1, 0, 2] dX12_hottest_39 rfl (by decide) rfl ?_
          refine run_iinc 2 [(0, .ref (gA G 269)), (1, .int q14), (2, .int (x2 + 1))] [1, 2, 0] dX12_hottest_40 rfl rfl (by decide) rfl ?_
          refine run_goto 4 dX12_hottest_43 (by decide) ?_
          exact ih _ _ _ _ h kx
        clear h9
        refine run_icmp_le 38 dX12_hottest_31 (by decide) (fun c13 => ?_) (fun c13 => ?_)
        · rw [if_pos c13] at h
          refine run_iload_n 1 dX12_hottest_38 rfl rfl ?_
          rw [← Option.some.inj h] at hj15
          refine run_forget [0, 2] rfl ?_
          exact hj15
        · rw [if_neg c13] at h
          refine run_iload_n 2 dX12_hottest_34 rfl rfl ?_
          refine run_goto 39 dX12_hottest_35 (by decide) ?_
          rw [← Option.some.inj h] at hj15
          refine run_forget [0, 2] rfl ?_
          exact hj15
      clear h9
      refine run_icmp_ne 25 dX12_hottest_18 (by decide) (fun c10 => ?_) (fun c10 => ?_)
      · rw [if_neg c10] at h
        refine run_aload_n 0 dX12_hottest_25 rfl rfl ?_
        refine run_getr fl_X12_116 is_269 (by decide) rfl ce_269_61 dX12_hottest_26 ?_
        refine run_iload_n 1 dX12_hottest_29 rfl rfl ?_
        obtain ⟨g11, h⟩ := gd_s h
        refine run_iald' is_305 ln_305 g11 rfl dX12_hottest_30 ?_
        rw [← Option.some.inj h] at hj16
        exact hj16
      · rw [if_pos c10] at h
        refine run_iconst (v := 0) dX12_hottest_21 rfl ?_
        refine run_goto 31 dX12_hottest_22 (by decide) ?_
        rw [← Option.some.inj h] at hj16
        exact hj16
def fX12_hottest  (σ : Mem) : Option (Int32 × Mem) := (lX12_hottest_4 FU (-1) 0 σ).bind fun q17 => some ((q17.1), (q17.2))
set_option maxRecDepth 20000 in
theorem sX12_hottest (G : GT) (d : Nat)   {σ : Mem} {o : (Int32 × Mem)} (h : fX12_hottest σ = some o) : Spec G yX12_hottest cX12_hottest 3 (some .int) (d + HX12_hottest) [.ref (gA G 269)] σ (kI fun x z => (x, z) = o) := by
  refine spec_run (by decide) (Nat.le_of_ble_eq_true rfl) ?_
  unfold fX12_hottest at h
  show Run G RX12 cX12_hottest 3 (some .int) _ 0 [(0, .ref (gA G 269))] [] σ
  refine run_iconst (v := -1) dX12_hottest_0 rfl ?_
  refine run_istore_n [(0, .ref (gA G 269)), (1, .int (-1))] [1, 0] dX12_hottest_1 rfl (by decide) rfl ?_
  refine run_iconst (v := 0) dX12_hottest_2 rfl ?_
  refine run_istore_n [(0, .ref (gA G 269)), (1, .int (-1)), (2, .int 0)] [1, 2, 0] dX12_hottest_3 rfl (by decide) rfl ?_
  obtain ⟨q17, h18, h⟩ := Option.bind_eq_some_iff.mp h
  refine lpX12_hottest_4 G d _ _ _ _ _ h18 ?_
  refine run_iload_n 0 dX12_hottest_46 rfl rfl ?_
  exact run_iret dX12_hottest_47 ⟨_, rfl, Option.some.inj h⟩
def HX12_topStamp : Nat := 2
theorem HX12_topStamp_X12_greater_lt (d : Nat) : d + HX12_greater < d + HX12_topStamp := Nat.add_lt_add_left (by decide) d
theorem HX12_topStamp_0 (d : Nat) : 0 < d + HX12_topStamp := Nat.lt_of_lt_of_le (by decide) (Nat.le_add_left _ d)
def lX12_topStamp_4  : Nat → Int32 → Int32 → Mem → Option (Int32 × Mem)
  | 0, _, _, _ => none
  | n + 1, x1, x2, σ => if 10 ≤ x2 then (some (x1, σ)) else (gd (inb x2 10) ((fX12_greater x1 (σ 282 (Int32.toNatClampNeg x2)) σ).bind fun q6 => lX12_topStamp_4 n q6.1 (x2 + 1) q6.2))
set_option maxRecDepth 20000 in
theorem lpX12_topStamp_4 (G : GT) (d : Nat)   {K : Option Value → Mem → Prop} : ∀ (n : Nat) (x1 : Int32) (x2 : Int32) (σ : Mem) (o : Int32 × Mem), lX12_topStamp_4 n x1 x2 σ = some o → (Run G RX12 cX12_topStamp 3 (some .int) (mF G (d + HX12_topStamp) K) 27 [(1, .int (o.1))] [] (o.2)) → Run G RX12 cX12_topStamp 3 (some .int) (mF G (d + HX12_topStamp) K) 4 [(0, .ref (gA G 269)), (1, .int x1), (2, .int x2)] [] σ := by
  intro n
  induction n with
  | zero => intro x1 x2 σ o h; exact absurd h (by simp [lX12_topStamp_4])
  | succ n ih =>
    intro x1 x2 σ o h kx
    rw [lX12_topStamp_4] at h
    refine run_iload_n 2 dX12_topStamp_4 rfl rfl ?_
    refine run_bipush (v := 10) dX12_topStamp_5 rfl ?_
    refine run_icmp_ge 27 dX12_topStamp_7 (by decide) (fun c4 => ?_) (fun c4 => ?_)
    · rw [if_pos c4] at h
      rw [← Option.some.inj h] at kx
      refine run_forget [1] rfl ?_
      exact kx
    · rw [if_neg c4] at h
      refine run_iload_n 1 dX12_topStamp_10 rfl rfl ?_
      refine run_aload_n 0 dX12_topStamp_11 rfl rfl ?_
      refine run_getr fl_X12_47 is_269 (by decide) rfl ce_269_32 dX12_topStamp_12 ?_
      refine run_iload_n 2 dX12_topStamp_15 rfl rfl ?_
      obtain ⟨g5, h⟩ := gd_s h
      refine run_iald' is_282 ln_282 g5 rfl dX12_topStamp_16 ?_
      obtain ⟨q6, h7, h⟩ := Option.bind_eq_some_iff.mp h
      refine run_callSi (As := [.int x1, .int (σ 282 (Int32.toNatClampNeg x2))]) (fun r z => (r, z) = q6) mw_X12_greater ms_X12_greater ml_X12_415 rfl (RF.lt (HX12_topStamp_X12_greater_lt d)) (Nat.le_of_ble_eq_true rfl) dX12_topStamp_17 (sX12_greater G d  h7) (fun r z h8 => ?_) rfl
      rw [show r = q6.1 from congrArg Prod.fst h8, show z = q6.2 from congrArg Prod.snd h8]
      clear h8
      refine run_istore_n [(0, .ref (gA G 269)), (1, .int q6.1), (2, .int x2)] [1, 0, 2] dX12_topStamp_20 rfl (by decide) rfl ?_
      refine run_iinc 2 [(0, .ref (gA G 269)), (1, .int q6.1), (2, .int (x2 + 1))] [1, 2, 0] dX12_topStamp_21 rfl rfl (by decide) rfl ?_
      refine run_goto 4 dX12_topStamp_24 (by decide) ?_
      exact ih _ _ _ _ h kx
def fX12_topStamp  (σ : Mem) : Option (Int32 × Mem) := (lX12_topStamp_4 FU 0 0 σ).bind fun q8 => some ((q8.1), (q8.2))
set_option maxRecDepth 20000 in
theorem sX12_topStamp (G : GT) (d : Nat)   {σ : Mem} {o : (Int32 × Mem)} (h : fX12_topStamp σ = some o) : Spec G yX12_topStamp cX12_topStamp 3 (some .int) (d + HX12_topStamp) [.ref (gA G 269)] σ (kI fun x z => (x, z) = o) := by
  refine spec_run (by decide) (Nat.le_of_ble_eq_true rfl) ?_
  unfold fX12_topStamp at h
  show Run G RX12 cX12_topStamp 3 (some .int) _ 0 [(0, .ref (gA G 269))] [] σ
  refine run_iconst (v := 0) dX12_topStamp_0 rfl ?_
  refine run_istore_n [(0, .ref (gA G 269)), (1, .int 0)] [1, 0] dX12_topStamp_1 rfl (by decide) rfl ?_
  refine run_iconst (v := 0) dX12_topStamp_2 rfl ?_
  refine run_istore_n [(0, .ref (gA G 269)), (1, .int 0), (2, .int 0)] [1, 2, 0] dX12_topStamp_3 rfl (by decide) rfl ?_
  obtain ⟨q8, h9, h⟩ := Option.bind_eq_some_iff.mp h
  refine lpX12_topStamp_4 G d _ _ _ _ _ h9 ?_
  refine run_iload_n 0 dX12_topStamp_27 rfl rfl ?_
  exact run_iret dX12_topStamp_28 ⟨_, rfl, Option.some.inj h⟩
def HX12_count : Nat := 2
theorem HX12_count_X12_in_lt (d : Nat) : d + HX12_in < d + HX12_count := Nat.add_lt_add_left (by decide) d
theorem HX12_count_0 (d : Nat) : 0 < d + HX12_count := Nat.lt_of_lt_of_le (by decide) (Nat.le_add_left _ d)
def fX12_count (x1 : Int32) (σ : Mem) : Option (Int32 × Mem) := (fX12_in x1 0 3 (st2 σ 269 0 0)).bind fun q1 => if q1.1 = true then (gd (inb x1 16) (some ((q1.2 274 (Int32.toNatClampNeg x1)), q1.2))) else (some ((-2), q1.2))
set_option maxRecDepth 20000 in
theorem sX12_count (G : GT) (d : Nat) {x1 : Int32}  {σ : Mem} {o : (Int32 × Mem)} (h : fX12_count x1 σ = some o) : Spec G yX12_count cX12_count 2 (some .int) (d + HX12_count) [.ref (gA G 269), .int x1] σ (kI fun x z => (x, z) = o) := by
  refine spec_run (by decide) (Nat.le_of_ble_eq_true rfl) ?_
  unfold fX12_count at h
  show Run G RX12 cX12_count 2 (some .int) _ 0 [(0, .ref (gA G 269)), (1, .int x1)] [] σ
  refine run_aload_n 0 dX12_count_0 rfl rfl ?_
  refine run_iconst (v := 0) dX12_count_1 rfl ?_
  refine run_puti fp_X12_144 is_269 (by decide) rfl dX12_count_2 ?_
  refine run_iload_n 1 dX12_count_5 rfl rfl ?_
  refine run_iconst (v := 0) dX12_count_6 rfl ?_
  refine run_iconst (v := 3) dX12_count_7 rfl ?_
  obtain ⟨q1, h4, h⟩ := Option.bind_eq_some_iff.mp h
  refine run_callSb (As := [.int x1, .int 0, .int 3]) (fun r z => (r, z) = q1) mw_X12_in ms_X12_in ml_X12_156 rfl (RF.lt (HX12_count_X12_in_lt d)) (Nat.le_of_ble_eq_true rfl) dX12_count_8 (sX12_in G d  h4) (fun r z h8 => ?_) rfl
  rw [show r = q1.1 from congrArg Prod.fst h8, show z = q1.2 from congrArg Prod.snd h8]
  clear h8
  refine run_ifb_eq 23 dX12_count_11 (by decide) (fun c2 => ?_) (fun c2 => ?_)
  · rw [if_neg c2] at h
    refine run_bipush (v := -2) dX12_count_23 rfl ?_
    exact run_iret dX12_count_25 ⟨_, rfl, Option.some.inj h⟩
  · rw [if_pos c2] at h
    refine run_aload_n 0 dX12_count_14 rfl rfl ?_
    refine run_getr fl_X12_23 is_269 (by decide) rfl ce_269_5 dX12_count_15 ?_
    refine run_iload_n 1 dX12_count_18 rfl rfl ?_
    obtain ⟨g3, h⟩ := gd_s h
    refine run_iald' is_274 ln_274 g3 rfl dX12_count_19 ?_
    refine run_goto 25 dX12_count_20 (by decide) ?_
    exact run_iret dX12_count_25 ⟨_, rfl, Option.some.inj h⟩
def HX12_image : Nat := 3
theorem HX12_image_X12_copyAll_lt (d : Nat) : d + HX12_copyAll < d + HX12_image := Nat.add_lt_add_left (by decide) d
theorem HX12_image_X12_in_lt (d : Nat) : d + HX12_in < d + HX12_image := Nat.add_lt_add_left (by decide) d
theorem HX12_image_0 (d : Nat) : 0 < d + HX12_image := Nat.lt_of_lt_of_le (by decide) (Nat.le_add_left _ d)
def fX12_image (x1 : Int32) (σ : Mem) : Option (Bool × Mem) := (fX12_in x1 0 2 (st2 σ 269 0 0)).bind fun q1 => if q1.1 = true then ((fX12_copyAll 0 (x1 + 1) q1.2).bind fun q3 => gd (inb x1 3) (some (true, (st2 q3 313 (Int32.toNatClampNeg x1) 1)))) else (some (false, q1.2))
set_option maxRecDepth 20000 in
theorem sX12_image (G : GT) (d : Nat) {x1 : Int32}  {σ : Mem} {o : (Bool × Mem)} (h : fX12_image x1 σ = some o) : Spec G yX12_image cX12_image 2 (some .boolean) (d + HX12_image) [.ref (gA G 269), .int x1] σ (kB fun x z => (x, z) = o) := by
  refine spec_run (by decide) (Nat.le_of_ble_eq_true rfl) ?_
  unfold fX12_image at h
  show Run G RX12 cX12_image 2 (some .boolean) _ 0 [(0, .ref (gA G 269)), (1, .int x1)] [] σ
  refine run_aload_n 0 dX12_image_0 rfl rfl ?_
  refine run_iconst (v := 0) dX12_image_1 rfl ?_
  refine run_puti fp_X12_144 is_269 (by decide) rfl dX12_image_2 ?_
  refine run_iload_n 1 dX12_image_5 rfl rfl ?_
  refine run_iconst (v := 0) dX12_image_6 rfl ?_
  refine run_iconst (v := 2) dX12_image_7 rfl ?_
  obtain ⟨q1, h6, h⟩ := Option.bind_eq_some_iff.mp h
  refine run_callSb (As := [.int x1, .int 0, .int 2]) (fun r z => (r, z) = q1) mw_X12_in ms_X12_in ml_X12_156 rfl (RF.lt (HX12_image_X12_in_lt d)) (Nat.le_of_ble_eq_true rfl) dX12_image_8 (sX12_in G d  h6) (fun r z h8 => ?_) rfl
  rw [show r = q1.1 from congrArg Prod.fst h8, show z = q1.2 from congrArg Prod.snd h8]
  clear h8
  refine run_ifb_ne 16 dX12_image_11 (by decide) (fun c2 => ?_) (fun c2 => ?_)
  · rw [if_pos c2] at h
    refine run_aload_n 0 dX12_image_16 rfl rfl ?_
    refine run_iconst (v := 0) dX12_image_17 rfl ?_
    refine run_iload_n 1 dX12_image_18 rfl rfl ?_
    refine run_iconst (v := 1) dX12_image_19 rfl ?_
    refine run_iadd dX12_image_20 ?_
    obtain ⟨q3, h5, h⟩ := Option.bind_eq_some_iff.mp h
    refine run_callVv (As := [.int 0, .int (x1 + 1)]) (fun z => z = q3) mw_X12_copyAll mi_X12_copyAll ml_X12_655 is_269 (by decide) rfl rfl rfl (RF.lt (HX12_image_X12_copyAll_lt d)) (Nat.le_of_ble_eq_true rfl) dX12_image_21 (sX12_copyAll G d  h5) (fun z h8 => ?_) rfl
    rw [h8]
    clear h8
    refine run_aload_n 0 dX12_image_24 rfl rfl ?_
    refine run_getr fl_X12_140 is_269 (by decide) rfl ce_269_91 dX12_image_25 ?_
    refine run_iload_n 1 dX12_image_28 rfl rfl ?_
    refine run_iconst (v := 1) dX12_image_29 rfl ?_
    obtain ⟨g4, h⟩ := gd_s h
    refine run_zast' is_313 ln_313 g4 rfl (by decide) dX12_image_30 ?_
    refine run_iconst (v := 1) dX12_image_31 rfl ?_
    exact run_bret (b := true) dX12_image_32 ⟨_, rfl, Option.some.inj h⟩
  · rw [if_neg c2] at h
    refine run_iconst (v := 0) dX12_image_14 rfl ?_
    exact run_bret (b := false) dX12_image_15 ⟨_, rfl, Option.some.inj h⟩
def HX12_again : Nat := 3
theorem HX12_again_X12_copyAll_lt (d : Nat) : d + HX12_copyAll < d + HX12_again := Nat.add_lt_add_left (by decide) d
theorem HX12_again_X12_in_lt (d : Nat) : d + HX12_in < d + HX12_again := Nat.add_lt_add_left (by decide) d
theorem HX12_again_0 (d : Nat) : 0 < d + HX12_again := Nat.lt_of_lt_of_le (by decide) (Nat.le_add_left _ d)
def fX12_again (x1 : Int32) (σ : Mem) : Option (Bool × Mem) := (fX12_in x1 0 2 (st2 σ 269 0 0)).bind fun q1 => if q1.1 = true then (gd (inb x1 3) (if (q1.2 313 (Int32.toNatClampNeg x1)) = 0 then (some (false, q1.2)) else ((fX12_copyAll (x1 + 1) 0 q1.2).bind fun q5 => some (true, q5)))) else (some (false, q1.2))
set_option maxRecDepth 20000 in
theorem sX12_again (G : GT) (d : Nat) {x1 : Int32}  {σ : Mem} {o : (Bool × Mem)} (h : fX12_again x1 σ = some o) : Spec G yX12_again cX12_again 2 (some .boolean) (d + HX12_again) [.ref (gA G 269), .int x1] σ (kB fun x z => (x, z) = o) := by
  refine spec_run (by decide) (Nat.le_of_ble_eq_true rfl) ?_
  unfold fX12_again at h
  show Run G RX12 cX12_again 2 (some .boolean) _ 0 [(0, .ref (gA G 269)), (1, .int x1)] [] σ
  refine run_aload_n 0 dX12_again_0 rfl rfl ?_
  refine run_iconst (v := 0) dX12_again_1 rfl ?_
  refine run_puti fp_X12_144 is_269 (by decide) rfl dX12_again_2 ?_
  refine run_iload_n 1 dX12_again_5 rfl rfl ?_
  refine run_iconst (v := 0) dX12_again_6 rfl ?_
  refine run_iconst (v := 2) dX12_again_7 rfl ?_
  obtain ⟨q1, h7, h⟩ := Option.bind_eq_some_iff.mp h
  refine run_callSb (As := [.int x1, .int 0, .int 2]) (fun r z => (r, z) = q1) mw_X12_in ms_X12_in ml_X12_156 rfl (RF.lt (HX12_again_X12_in_lt d)) (Nat.le_of_ble_eq_true rfl) dX12_again_8 (sX12_in G d  h7) (fun r z h8 => ?_) rfl
  rw [show r = q1.1 from congrArg Prod.fst h8, show z = q1.2 from congrArg Prod.snd h8]
  clear h8
  refine run_ifb_eq 23 dX12_again_11 (by decide) (fun c2 => ?_) (fun c2 => ?_)
  · rw [if_neg c2] at h
    refine run_iconst (v := 0) dX12_again_23 rfl ?_
    exact run_bret (b := false) dX12_again_24 ⟨_, rfl, Option.some.inj h⟩
  · rw [if_pos c2] at h
    refine run_aload_n 0 dX12_again_14 rfl rfl ?_
    refine run_getr fl_X12_140 is_269 (by decide) rfl ce_269_91 dX12_again_15 ?_
    refine run_iload_n 1 dX12_again_18 rfl rfl ?_
    obtain ⟨g3, h⟩ := gd_s h
    refine run_zald' is_313 ln_313 g3 rfl dX12_again_19 ?_
    refine run_if_ne 25 dX12_again_20 (by decide) (fun c4 => ?_) (fun c4 => ?_)
    · rw [if_neg c4] at h
      refine run_aload_n 0 dX12_again_25 rfl rfl ?_
      refine run_iload_n 1 dX12_again_26 rfl rfl ?_
      refine run_iconst (v := 1) dX12_again_27 rfl ?_
      refine run_iadd dX12_again_28 ?_
      refine run_iconst (v := 0) dX12_again_29 rfl ?_
      obtain ⟨q5, h6, h⟩ := Option.bind_eq_some_iff.mp h
      refine run_callVv (As := [.int (x1 + 1), .int 0]) (fun z => z = q5) mw_X12_copyAll mi_X12_copyAll ml_X12_655 is_269 (by decide) rfl rfl rfl (RF.lt (HX12_again_X12_copyAll_lt d)) (Nat.le_of_ble_eq_true rfl) dX12_again_30 (sX12_copyAll G d  h6) (fun z h8 => ?_) rfl
      rw [h8]
      clear h8
      refine run_iconst (v := 1) dX12_again_33 rfl ?_
      exact run_bret (b := true) dX12_again_34 ⟨_, rfl, Option.some.inj h⟩
    · rw [if_pos c4] at h
      refine run_iconst (v := 0) dX12_again_23 rfl ?_
      exact run_bret (b := false) dX12_again_24 ⟨_, rfl, Option.some.inj h⟩
