/-! methods, translated -/
def HX12_keys : Nat := 4
theorem HX12_keys_X12_hasBook_lt (d : Nat) : d + HX12_hasBook < d + HX12_keys := Nat.add_lt_add_left (by decide) d
theorem HX12_keys_X12_in_lt (d : Nat) : d + HX12_in < d + HX12_keys := Nat.add_lt_add_left (by decide) d
theorem HX12_keys_X12_isTask_lt (d : Nat) : d + HX12_isTask < d + HX12_keys := Nat.add_lt_add_left (by decide) d
theorem HX12_keys_X12_keysOf_lt (d : Nat) : d + HX12_keysOf < d + HX12_keys := Nat.add_lt_add_left (by decide) d
theorem HX12_keys_0 (d : Nat) : 0 < d + HX12_keys := Nat.lt_of_lt_of_le (by decide) (Nat.le_add_left _ d)
def fX12_keys (x1 : Int32) (x2 : Int32) (x3 : Int32) (σ : Mem) : Option (Int32 × Mem) := (fX12_hasBook x1 (st2 σ 269 0 0)).bind fun q1 => if q1.1 = true then ((fX12_isTask x2 q1.2).bind fun q3 => if q3.1 = true then ((fX12_in x3 0 1 q3.2).bind fun q5 => if q5.1 = true then (if x3 = 1 then ((fX12_keysOf x2 true q5.2).bind fun q10 => some (q10.1, q10.2)) else ((fX12_keysOf x2 false q5.2).bind fun q8 => some (q8.1, q8.2))) else (some ((-1), q5.2))) else (some ((-1), q3.2))) else (some ((-1), q1.2))
set_option maxRecDepth 20000 in
theorem sX12_keys (G : GT) (d : Nat) {x1 : Int32} {x2 : Int32} {x3 : Int32}  {σ : Mem} {o : (Int32 × Mem)} (h : fX12_keys x1 x2 x3 σ = some o) : Spec G yX12_keys cX12_keys 4 (some .int) (d + HX12_keys) [.ref (gA G 269), .int x1, .int x2, .int x3] σ (kI fun x z => (x, z) = o) := by
  refine spec_run (by decide) (Nat.le_of_ble_eq_true rfl) ?_
  unfold fX12_keys at h
  show Run G RX12 cX12_keys 4 (some .int) _ 0 [(0, .ref (gA G 269)), (1, .int x1), (2, .int x2), (3, .int x3)] [] σ
  refine run_aload_n 0 dX12_keys_0 rfl rfl ?_
  refine run_iconst (v := 0) dX12_keys_1 rfl ?_
  refine run_puti fp_X12_144 is_269 (by decide) rfl dX12_keys_2 ?_
  refine run_aload_n 0 dX12_keys_5 rfl rfl ?_
  refine run_iload_n 1 dX12_keys_6 rfl rfl ?_
  obtain ⟨q1, h14, h⟩ := Option.bind_eq_some_iff.mp h
  refine run_callVb (As := [.int x1]) (fun r z => (r, z) = q1) mw_X12_hasBook mi_X12_hasBook ml_X12_366 is_269 (by decide) rfl rfl rfl (RF.lt (HX12_keys_X12_hasBook_lt d)) (Nat.le_of_ble_eq_true rfl) dX12_keys_7 (sX12_hasBook G d  h14) (fun r z h8 => ?_) rfl
  rw [show r = q1.1 from congrArg Prod.fst h8, show z = q1.2 from congrArg Prod.snd h8]
  clear h8
  refine run_ifb_eq 48 dX12_keys_10 (by decide) (fun c2 => ?_) (fun c2 => ?_)
  · rw [if_neg c2] at h
    refine run_iconst (v := -1) dX12_keys_48 rfl ?_
    exact run_iret dX12_keys_49 ⟨_, rfl, Option.some.inj h⟩
  · rw [if_pos c2] at h
    refine run_aload_n 0 dX12_keys_13 rfl rfl ?_
    refine run_iload_n 2 dX12_keys_14 rfl rfl ?_
    obtain ⟨q3, h13, h⟩ := Option.bind_eq_some_iff.mp h
    refine run_callVb (As := [.int x2]) (fun r z => (r, z) = q3) mw_X12_isTask mi_X12_isTask ml_X12_378 is_269 (by decide) rfl rfl rfl (RF.lt (HX12_keys_X12_isTask_lt d)) (Nat.le_of_ble_eq_true rfl) dX12_keys_15 (sX12_isTask G d  h13) (fun r z h8 => ?_) rfl
    rw [show r = q3.1 from congrArg Prod.fst h8, show z = q3.2 from congrArg Prod.snd h8]
    clear h8
    refine run_ifb_eq 48 dX12_keys_18 (by decide) (fun c4 => ?_) (fun c4 => ?_)
    · rw [if_neg c4] at h
      refine run_iconst (v := -1) dX12_keys_48 rfl ?_
      exact run_iret dX12_keys_49 ⟨_, rfl, Option.some.inj h⟩
    · rw [if_pos c4] at h
      refine run_iload_n 3 dX12_keys_21 rfl rfl ?_
      refine run_iconst (v := 0) dX12_keys_22 rfl ?_
      refine run_iconst (v := 1) dX12_keys_23 rfl ?_
      obtain ⟨q5, h12, h⟩ := Option.bind_eq_some_iff.mp h
      refine run_callSb (As := [.int x3, .int 0, .int 1]) (fun r z => (r, z) = q5) mw_X12_in ms_X12_in ml_X12_156 rfl (RF.lt (HX12_keys_X12_in_lt d)) (Nat.le_of_ble_eq_true rfl) dX12_keys_24 (sX12_in G d  h12) (fun r z h8 => ?_) rfl
      rw [show r = q5.1 from congrArg Prod.fst h8, show z = q5.2 from congrArg Prod.snd h8]
      clear h8
      refine run_ifb_eq 48 dX12_keys_27 (by decide) (fun c6 => ?_) (fun c6 => ?_)
      · rw [if_neg c6] at h
        refine run_iconst (v := -1) dX12_keys_48 rfl ?_
        exact run_iret dX12_keys_49 ⟨_, rfl, Option.some.inj h⟩
      · rw [if_pos c6] at h
        refine run_aload_n 0 dX12_keys_30 rfl rfl ?_
        refine run_iload_n 2 dX12_keys_31 rfl rfl ?_
        refine run_iload_n 3 dX12_keys_32 rfl rfl ?_
        refine run_iconst (v := 1) dX12_keys_33 rfl ?_
        refine run_icmp_ne 41 dX12_keys_34 (by decide) (fun c7 => ?_) (fun c7 => ?_)
        · rw [if_neg c7] at h
          refine run_iconst (v := 0) dX12_keys_41 rfl ?_
          obtain ⟨q8, h9, h⟩ := Option.bind_eq_some_iff.mp h
          refine run_callVi (As := [.int x2, .int 0]) (fun r z => (r, z) = q8) mw_X12_keysOf mi_X12_keysOf ml_X12_604 is_269 (by decide) rfl rfl rfl (RF.lt (HX12_keys_X12_keysOf_lt d)) (Nat.le_of_ble_eq_true rfl) dX12_keys_42 (sX12_keysOf G d  h9) (fun r z h8 => ?_) rfl
          rw [show r = q8.1 from congrArg Prod.fst h8, show z = q8.2 from congrArg Prod.snd h8]
          clear h8
          refine run_goto 49 dX12_keys_45 (by decide) ?_
          exact run_iret dX12_keys_49 ⟨_, rfl, Option.some.inj h⟩
        · rw [if_pos c7] at h
          refine run_iconst (v := 1) dX12_keys_37 rfl ?_
          refine run_goto 42 dX12_keys_38 (by decide) ?_
          obtain ⟨q10, h11, h⟩ := Option.bind_eq_some_iff.mp h
          refine run_callVi (As := [.int x2, .int 1]) (fun r z => (r, z) = q10) mw_X12_keysOf mi_X12_keysOf ml_X12_604 is_269 (by decide) rfl rfl rfl (RF.lt (HX12_keys_X12_keysOf_lt d)) (Nat.le_of_ble_eq_true rfl) dX12_keys_42 (sX12_keysOf G d  h11) (fun r z h8 => ?_) rfl
          rw [show r = q10.1 from congrArg Prod.fst h8, show z = q10.2 from congrArg Prod.snd h8]
          clear h8
          refine run_goto 49 dX12_keys_45 (by decide) ?_
          exact run_iret dX12_keys_49 ⟨_, rfl, Option.some.inj h⟩
def HX12_freeCouples : Nat := 4
theorem HX12_freeCouples_X12_keysOf_lt (d : Nat) : d + HX12_keysOf < d + HX12_freeCouples := Nat.add_lt_add_left (by decide) d
theorem HX12_freeCouples_0 (d : Nat) : 0 < d + HX12_freeCouples := Nat.lt_of_lt_of_le (by decide) (Nat.le_add_left _ d)
def lX12_freeCouples_14 (x2 : Int32) : Nat → Int32 → Int32 → Mem → Option (Int32 × Mem)
  | 0, _, _, _ => none
  | n + 1, x1, x3, σ => if x2 ≤ x3 then (some (x1, σ)) else ((fX12_keysOf x2 true σ).bind fun q35 => (fX12_keysOf x3 true q35.2).bind fun q36 => (fX12_keysOf x3 false q36.2).bind fun q37 => (fX12_keysOf x3 true q37.2).bind fun q38 => (fX12_keysOf x2 false q38.2).bind fun q39 => (if ((q35.1 &&& (q36.1 ||| q37.1)) ||| (q38.1 &&& q39.1)) = 0 then (some true) else (some false) : Option (Bool)).bind fun q41 => lX12_freeCouples_14 x2 n (x1 + (b2 q41)) (x3 + 1) q39.2)
set_option maxRecDepth 20000 in
theorem lpX12_freeCouples_14 (G : GT) (d : Nat) (x2 : Int32)  {K : Option Value → Mem → Prop} : ∀ (n : Nat) (x1 : Int32) (x3 : Int32) (σ : Mem) (o : Int32 × Mem), lX12_freeCouples_14 x2 n x1 x3 σ = some o → (Run G RX12 cX12_freeCouples 6 (some .int) (mF G (d + HX12_freeCouples) K) 78 [(0, .ref (gA G 269)), (1, .int (o.1)), (2, .int x2)] [] (o.2)) → Run G RX12 cX12_freeCouples 6 (some .int) (mF G (d + HX12_freeCouples) K) 14 [(0, .ref (gA G 269)), (1, .int x1), (2, .int x2), (3, .int x3)] [] σ := by
  intro n
  induction n with
  | zero => intro x1 x3 σ o h; exact absurd h (by simp [lX12_freeCouples_14])
  | succ n ih =>
    intro x1 x3 σ o h kx
    rw [lX12_freeCouples_14] at h
    refine run_iload_n 3 dX12_freeCouples_14 rfl rfl ?_
    refine run_iload_n 2 dX12_freeCouples_15 rfl rfl ?_
    refine run_icmp_ge 78 dX12_freeCouples_16 (by decide) (fun c34 => ?_) (fun c34 => ?_)
    · rw [if_pos c34] at h
      rw [← Option.some.inj h] at kx
      refine run_forget [0, 1, 2] rfl ?_
      exact kx
    · rw [if_neg c34] at h
      refine run_aload_n 0 dX12_freeCouples_19 rfl rfl ?_
      refine run_iload_n 2 dX12_freeCouples_20 rfl rfl ?_
      refine run_iconst (v := 1) dX12_freeCouples_21 rfl ?_
      obtain ⟨q35, h47, h⟩ := Option.bind_eq_some_iff.mp h
      refine run_callVi (As := [.int x2, .int 1]) (fun r z => (r, z) = q35) mw_X12_keysOf mi_X12_keysOf ml_X12_604 is_269 (by decide) rfl rfl rfl (RF.lt (HX12_freeCouples_X12_keysOf_lt d)) (Nat.le_of_ble_eq_true rfl) dX12_freeCouples_22 (sX12_keysOf G d  h47) (fun r z h8 => ?_) rfl
      rw [show r = q35.1 from congrArg Prod.fst h8, show z = q35.2 from congrArg Prod.snd h8]
      clear h8
      refine run_aload_n 0 dX12_freeCouples_25 rfl rfl ?_
      refine run_iload_n 3 dX12_freeCouples_26 rfl rfl ?_
      refine run_iconst (v := 1) dX12_freeCouples_27 rfl ?_
      obtain ⟨q36, h46, h⟩ := Option.bind_eq_some_iff.mp h
      refine run_callVi (As := [.int x3, .int 1]) (fun r z => (r, z) = q36) mw_X12_keysOf mi_X12_keysOf ml_X12_604 is_269 (by decide) rfl rfl rfl (RF.lt (HX12_freeCouples_X12_keysOf_lt d)) (Nat.le_of_ble_eq_true rfl) dX12_freeCouples_28 (sX12_keysOf G d  h46) (fun r z h8 => ?_) rfl
      rw [show r = q36.1 from congrArg Prod.fst h8, show z = q36.2 from congrArg Prod.snd h8]
      clear h8
      refine run_aload_n 0 dX12_freeCouples_31 rfl rfl ?_
      refine run_iload_n 3 dX12_freeCouples_32 rfl rfl ?_
      refine run_iconst (v := 0) dX12_freeCouples_33 rfl ?_
      obtain ⟨q37, h45, h⟩ := Option.bind_eq_some_iff.mp h
      refine run_callVi (As := [.int x3, .int 0]) (fun r z => (r, z) = q37) mw_X12_keysOf mi_X12_keysOf ml_X12_604 is_269 (by decide) rfl rfl rfl (RF.lt (HX12_freeCouples_X12_keysOf_lt d)) (Nat.le_of_ble_eq_true rfl) dX12_freeCouples_34 (sX12_keysOf G d  h45) (fun r z h8 => ?_) rfl
      rw [show r = q37.1 from congrArg Prod.fst h8, show z = q37.2 from congrArg Prod.snd h8]
      clear h8
      refine run_ior dX12_freeCouples_37 ?_
      refine run_iand dX12_freeCouples_38 ?_
      refine run_istore [(0, .ref (gA G 269)), (1, .int x1), (2, .int x2), (3, .int x3), (4, .int (q35.1 &&& (q36.1 ||| q37.1)))] [1, 2, 3, 4, 0] dX12_freeCouples_39 (by decide) rfl ?_
      refine run_aload_n 0 dX12_freeCouples_41 rfl rfl ?_
      refine run_iload_n 3 dX12_freeCouples_42 rfl rfl ?_
      refine run_iconst (v := 1) dX12_freeCouples_43 rfl ?_
      obtain ⟨q38, h44, h⟩ := Option.bind_eq_some_iff.mp h
      refine run_callVi (As := [.int x3, .int 1]) (fun r z => (r, z) = q38) mw_X12_keysOf mi_X12_keysOf ml_X12_604 is_269 (by decide) rfl rfl rfl (RF.lt (HX12_freeCouples_X12_keysOf_lt d)) (Nat.le_of_ble_eq_true rfl) dX12_freeCouples_44 (sX12_keysOf G d  h44) (fun r z h8 => ?_) rfl
      rw [show r = q38.1 from congrArg Prod.fst h8, show z = q38.2 from congrArg Prod.snd h8]
      clear h8
      refine run_aload_n 0 dX12_freeCouples_47 rfl rfl ?_
      refine run_iload_n 2 dX12_freeCouples_48 rfl rfl ?_
      refine run_iconst (v := 0) dX12_freeCouples_49 rfl ?_
      obtain ⟨q39, h43, h⟩ := Option.bind_eq_some_iff.mp h
      refine run_callVi (As := [.int x2, .int 0]) (fun r z => (r, z) = q39) mw_X12_keysOf mi_X12_keysOf ml_X12_604 is_269 (by decide) rfl rfl rfl (RF.lt (HX12_freeCouples_X12_keysOf_lt d)) (Nat.le_of_ble_eq_true rfl) dX12_freeCouples_50 (sX12_keysOf G d  h43) (fun r z h8 => ?_) rfl
      rw [show r = q39.1 from congrArg Prod.fst h8, show z = q39.2 from congrArg Prod.snd h8]
      clear h8
      refine run_iand dX12_freeCouples_53 ?_
      refine run_istore [(0, .ref (gA G 269)), (1, .int x1), (2, .int x2), (3, .int x3), (4, .int (q35.1 &&& (q36.1 ||| q37.1))), (5, .int (q38.1 &&& q39.1))] [1, 2, 3, 4, 5, 0] dX12_freeCouples_54 (by decide) rfl ?_
      refine run_iload_n 1 dX12_freeCouples_56 rfl rfl ?_
      refine run_iload 4 dX12_freeCouples_57 rfl ?_
      refine run_iload 5 dX12_freeCouples_59 rfl ?_
      refine run_ior dX12_freeCouples_61 ?_
      obtain ⟨q41, h, h9⟩ := Option.bind_eq_some_iff.mp h
      have hj42 : Run G RX12 cX12_freeCouples 6 (some .int) (mF G (d + HX12_freeCouples) K) 70 [(0, .ref (gA G 269)), (2, .int x2), (3, .int x3)] [.int (b2 q41), .int x1] q39.2 := by
        clear h
        have h := h9
        clear h9
        refine run_iadd dX12_freeCouples_70 ?_
        refine run_istore_n [(0, .ref (gA G 269)), (1, .int (x1 + (b2 q41))), (2, .int x2), (3, .int x3)] [1, 0, 2, 3] dX12_freeCouples_71 rfl (by decide) rfl ?_
        refine run_iinc 3 [(0, .ref (gA G 269)), (1, .int (x1 + (b2 q41))), (2, .int x2), (3, .int (x3 + 1))] [1, 2, 3, 0] dX12_freeCouples_72 rfl rfl (by decide) rfl ?_
        refine run_goto 14 dX12_freeCouples_75 (by decide) ?_
        exact ih _ _ _ _ h kx
      clear h9
      refine run_if_ne 69 dX12_freeCouples_62 (by decide) (fun c40 => ?_) (fun c40 => ?_)
      · rw [if_neg c40] at h
        refine run_iconst (v := 0) dX12_freeCouples_69 rfl ?_
        rw [← Option.some.inj h] at hj42
        refine run_forget [0, 2, 3] rfl ?_
        exact hj42
      · rw [if_pos c40] at h
        refine run_iconst (v := 1) dX12_freeCouples_65 rfl ?_
        refine run_goto 70 dX12_freeCouples_66 (by decide) ?_
        rw [← Option.some.inj h] at hj42
        refine run_forget [0, 2, 3] rfl ?_
        exact hj42
def lX12_freeCouples_4  : Nat → Int32 → Int32 → Mem → Option (Int32 × Mem)
  | 0, _, _, _ => none
  | n + 1, x1, x2, σ => if (σ 269 27) ≤ x2 then (some (x1, σ)) else ((lX12_freeCouples_14 x2 FU x1 0 σ).bind fun q48 => lX12_freeCouples_4 n (q48.1) (x2 + 1) (q48.2))
set_option maxRecDepth 20000 in
theorem lpX12_freeCouples_4 (G : GT) (d : Nat)   {K : Option Value → Mem → Prop} : ∀ (n : Nat) (x1 : Int32) (x2 : Int32) (σ : Mem) (o : Int32 × Mem), lX12_freeCouples_4 n x1 x2 σ = some o → (Run G RX12 cX12_freeCouples 6 (some .int) (mF G (d + HX12_freeCouples) K) 84 [(1, .int (o.1))] [] (o.2)) → Run G RX12 cX12_freeCouples 6 (some .int) (mF G (d + HX12_freeCouples) K) 4 [(0, .ref (gA G 269)), (1, .int x1), (2, .int x2)] [] σ := by
  intro n
  induction n with
  | zero => intro x1 x2 σ o h; exact absurd h (by simp [lX12_freeCouples_4])
  | succ n ih =>
    intro x1 x2 σ o h kx
    rw [lX12_freeCouples_4] at h
    refine run_iload_n 2 dX12_freeCouples_4 rfl rfl ?_
    refine run_aload_n 0 dX12_freeCouples_5 rfl rfl ?_
    refine run_geti fl_X12_323 is_269 (by decide) rfl dX12_freeCouples_6 ?_
    refine run_icmp_ge 84 dX12_freeCouples_9 (by decide) (fun c25 => ?_) (fun c25 => ?_)
    · rw [if_pos c25] at h
      rw [← Option.some.inj h] at kx
      refine run_forget [1] rfl ?_
      exact kx
    · rw [if_neg c25] at h
      refine run_iconst (v := 0) dX12_freeCouples_12 rfl ?_
      refine run_istore_n [(0, .ref (gA G 269)), (1, .int x1), (2, .int x2), (3, .int 0)] [1, 2, 3, 0] dX12_freeCouples_13 rfl (by decide) rfl ?_
      obtain ⟨q48, h49, h⟩ := Option.bind_eq_some_iff.mp h
      refine lpX12_freeCouples_14 G d _ _ _ _ _ _ h49 ?_
      refine run_iinc 2 [(0, .ref (gA G 269)), (1, .int (q48.1)), (2, .int (x2 + 1))] [1, 2, 0] dX12_freeCouples_78 rfl rfl (by decide) rfl ?_
      refine run_goto 4 dX12_freeCouples_81 (by decide) ?_
      exact ih _ _ _ _ h kx
def fX12_freeCouples  (σ : Mem) : Option (Int32 × Mem) := (lX12_freeCouples_4 FU 0 0 σ).bind fun q50 => some ((q50.1), (q50.2))
set_option maxRecDepth 20000 in
theorem sX12_freeCouples (G : GT) (d : Nat)   {σ : Mem} {o : (Int32 × Mem)} (h : fX12_freeCouples σ = some o) : Spec G yX12_freeCouples cX12_freeCouples 6 (some .int) (d + HX12_freeCouples) [.ref (gA G 269)] σ (kI fun x z => (x, z) = o) := by
  refine spec_run (by decide) (Nat.le_of_ble_eq_true rfl) ?_
  unfold fX12_freeCouples at h
  show Run G RX12 cX12_freeCouples 6 (some .int) _ 0 [(0, .ref (gA G 269))] [] σ
  refine run_iconst (v := 0) dX12_freeCouples_0 rfl ?_
  refine run_istore_n [(0, .ref (gA G 269)), (1, .int 0)] [1, 0] dX12_freeCouples_1 rfl (by decide) rfl ?_
  refine run_iconst (v := 0) dX12_freeCouples_2 rfl ?_
  refine run_istore_n [(0, .ref (gA G 269)), (1, .int 0), (2, .int 0)] [1, 2, 0] dX12_freeCouples_3 rfl (by decide) rfl ?_
  obtain ⟨q50, h51, h⟩ := Option.bind_eq_some_iff.mp h
  refine lpX12_freeCouples_4 G d _ _ _ _ _ h51 ?_
  refine run_iload_n 0 dX12_freeCouples_84 rfl rfl ?_
  exact run_iret dX12_freeCouples_85 ⟨_, rfl, Option.some.inj h⟩
def HX12_free : Nat := 5
theorem HX12_free_X12_freeCouples_lt (d : Nat) : d + HX12_freeCouples < d + HX12_free := Nat.add_lt_add_left (by decide) d
theorem HX12_free_X12_hasBook_lt (d : Nat) : d + HX12_hasBook < d + HX12_free := Nat.add_lt_add_left (by decide) d
theorem HX12_free_X12_in_lt (d : Nat) : d + HX12_in < d + HX12_free := Nat.add_lt_add_left (by decide) d
theorem HX12_free_X12_keysOf_lt (d : Nat) : d + HX12_keysOf < d + HX12_free := Nat.add_lt_add_left (by decide) d
theorem HX12_free_0 (d : Nat) : 0 < d + HX12_free := Nat.lt_of_lt_of_le (by decide) (Nat.le_add_left _ d)
def lX12_free_38  : Nat → Int32 → Int32 → Mem → Option (Int32 × Mem)
  | 0, _, _, _ => none
  | n + 1, x3, x4, σ => if (σ 269 27) ≤ x4 then (some (x3, σ)) else ((fX12_keysOf x4 true σ).bind fun q14 => (if q14.1 = 0 then (some (0, q14.2)) else ((fX12_keysOf x4 false q14.2).bind fun q16 => if q16.1 = 0 then (some (((1 : Int32) <<< (x4 &&& 31)), q16.2)) else (some (0, q16.2))) : Option (Int32 × Mem)).bind fun q19 => lX12_free_38 n (x3 ||| (q19.1)) (x4 + 1) (q19.2))
set_option maxRecDepth 20000 in
theorem lpX12_free_38 (G : GT) (d : Nat)   {K : Option Value → Mem → Prop} : ∀ (n : Nat) (x3 : Int32) (x4 : Int32) (σ : Mem) (o : Int32 × Mem), lX12_free_38 n x3 x4 σ = some o → (Run G RX12 cX12_free 5 (some .int) (mF G (d + HX12_free) K) 84 [(3, .int (o.1))] [] (o.2)) → Run G RX12 cX12_free 5 (some .int) (mF G (d + HX12_free) K) 38 [(0, .ref (gA G 269)), (3, .int x3), (4, .int x4)] [] σ := by
  intro n
  induction n with
  | zero => intro x3 x4 σ o h; exact absurd h (by simp [lX12_free_38])
  | succ n ih =>
    intro x3 x4 σ o h kx
    rw [lX12_free_38] at h
    refine run_iload 2 dX12_free_38 rfl ?_
    refine run_aload_n 0 dX12_free_40 rfl rfl ?_
    refine run_geti fl_X12_323 is_269 (by decide) rfl dX12_free_41 ?_
    refine run_icmp_ge 84 dX12_free_44 (by decide) (fun c13 => ?_) (fun c13 => ?_)
    · rw [if_pos c13] at h
      rw [← Option.some.inj h] at kx
      refine run_forget [1] rfl ?_
      exact kx
    · rw [if_neg c13] at h
      refine run_iload_n 1 dX12_free_47 rfl rfl ?_
      refine run_aload_n 0 dX12_free_48 rfl rfl ?_
      refine run_iload 2 dX12_free_49 rfl ?_
      refine run_iconst (v := 1) dX12_free_51 rfl ?_
      obtain ⟨q14, h21, h⟩ := Option.bind_eq_some_iff.mp h
      refine run_callVi (As := [.int x4, .int 1]) (fun r z => (r, z) = q14) mw_X12_keysOf mi_X12_keysOf ml_X12_604 is_269 (by decide) rfl rfl rfl (RF.lt (HX12_free_X12_keysOf_lt d)) (Nat.le_of_ble_eq_true rfl) dX12_free_52 (sX12_keysOf G d  h21) (fun r z h8 => ?_) rfl
      rw [show r = q14.1 from congrArg Prod.fst h8, show z = q14.2 from congrArg Prod.snd h8]
      clear h8
      obtain ⟨q19, h, h9⟩ := Option.bind_eq_some_iff.mp h
      have hj20 : Run G RX12 cX12_free 5 (some .int) (mF G (d + HX12_free) K) 76 [(0, .ref (gA G 269)), (4, .int x4)] [.int (q19.1), .int x3] (q19.2) := by
        clear h
        have h := h9
        clear h9
        refine run_ior dX12_free_76 ?_
        refine run_istore_n [(0, .ref (gA G 269)), (3, .int (x3 ||| (q19.1))), (4, .int x4)] [1, 0, 2] dX12_free_77 rfl (by decide) rfl ?_
        refine run_iinc 2 [(0, .ref (gA G 269)), (3, .int (x3 ||| (q19.1))), (4, .int (x4 + 1))] [1, 2, 0] dX12_free_78 rfl rfl (by decide) rfl ?_
        refine run_goto 38 dX12_free_81 (by decide) ?_
        exact ih _ _ _ _ h kx
      clear h9
      refine run_if_eq 75 dX12_free_55 (by decide) (fun c15 => ?_) (fun c15 => ?_)
      · rw [if_pos c15] at h
        refine run_iconst (v := 0) dX12_free_75 rfl ?_
        rw [← Option.some.inj h] at hj20
        refine run_forget [0, 2] rfl ?_
        exact hj20
      · rw [if_neg c15] at h
        refine run_aload_n 0 dX12_free_58 rfl rfl ?_
        refine run_iload 2 dX12_free_59 rfl ?_
        refine run_iconst (v := 0) dX12_free_61 rfl ?_
        obtain ⟨q16, h18, h⟩ := Option.bind_eq_some_iff.mp h
        refine run_callVi (As := [.int x4, .int 0]) (fun r z => (r, z) = q16) mw_X12_keysOf mi_X12_keysOf ml_X12_604 is_269 (by decide) rfl rfl rfl (RF.lt (HX12_free_X12_keysOf_lt d)) (Nat.le_of_ble_eq_true rfl) dX12_free_62 (sX12_keysOf G d  h18) (fun r z h8 => ?_) rfl
        rw [show r = q16.1 from congrArg Prod.fst h8, show z = q16.2 from congrArg Prod.snd h8]
        clear h8
        refine run_if_ne 75 dX12_free_65 (by decide) (fun c17 => ?_) (fun c17 => ?_)
        · rw [if_neg c17] at h
          refine run_iconst (v := 0) dX12_free_75 rfl ?_
          rw [← Option.some.inj h] at hj20
          refine run_forget [0, 2] rfl ?_
          exact hj20
        · rw [if_pos c17] at h
          refine run_iconst (v := 1) dX12_free_68 rfl ?_
          refine run_iload 2 dX12_free_69 rfl ?_
          refine run_ishl dX12_free_71 ?_
          refine run_goto 76 dX12_free_72 (by decide) ?_
          rw [← Option.some.inj h] at hj20
          refine run_forget [0, 2] rfl ?_
          exact hj20
def fX12_free (x1 : Int32) (x2 : Int32) (σ : Mem) : Option (Int32 × Mem) := (fX12_hasBook x1 (st2 σ 269 0 0)).bind fun q1 => if q1.1 = true then ((fX12_in x2 0 1 q1.2).bind fun q3 => if q3.1 = true then (if x2 = 0 then ((fX12_freeCouples q3.2).bind fun q24 => some (q24.1, q24.2)) else ((lX12_free_38 FU 0 0 q3.2).bind fun q22 => some ((q22.1), (q22.2)))) else (some ((-1), q3.2))) else (some ((-1), q1.2))
set_option maxRecDepth 20000 in
theorem sX12_free (G : GT) (d : Nat) {x1 : Int32} {x2 : Int32}  {σ : Mem} {o : (Int32 × Mem)} (h : fX12_free x1 x2 σ = some o) : Spec G yX12_free cX12_free 5 (some .int) (d + HX12_free) [.ref (gA G 269), .int x1, .int x2] σ (kI fun x z => (x, z) = o) := by
  refine spec_run (by decide) (Nat.le_of_ble_eq_true rfl) ?_
  unfold fX12_free at h
  show Run G RX12 cX12_free 5 (some .int) _ 0 [(0, .ref (gA G 269)), (1, .int x1), (2, .int x2)] [] σ
  refine run_aload_n 0 dX12_free_0 rfl rfl ?_
  refine run_iconst (v := 0) dX12_free_1 rfl ?_
  refine run_puti fp_X12_144 is_269 (by decide) rfl dX12_free_2 ?_
  refine run_aload_n 0 dX12_free_5 rfl rfl ?_
  refine run_iload_n 1 dX12_free_6 rfl rfl ?_
  obtain ⟨q1, h27, h⟩ := Option.bind_eq_some_iff.mp h
  refine run_callVb (As := [.int x1]) (fun r z => (r, z) = q1) mw_X12_hasBook mi_X12_hasBook ml_X12_366 is_269 (by decide) rfl rfl rfl (RF.lt (HX12_free_X12_hasBook_lt d)) (Nat.le_of_ble_eq_true rfl) dX12_free_7 (sX12_hasBook G d  h27) (fun r z h8 => ?_) rfl
  rw [show r = q1.1 from congrArg Prod.fst h8, show z = q1.2 from congrArg Prod.snd h8]
  clear h8
  refine run_ifb_eq 22 dX12_free_10 (by decide) (fun c2 => ?_) (fun c2 => ?_)
  · rw [if_neg c2] at h
    refine run_iconst (v := -1) dX12_free_22 rfl ?_
    exact run_iret dX12_free_23 ⟨_, rfl, Option.some.inj h⟩
  · rw [if_pos c2] at h
    refine run_iload_n 2 dX12_free_13 rfl rfl ?_
    refine run_iconst (v := 0) dX12_free_14 rfl ?_
    refine run_iconst (v := 1) dX12_free_15 rfl ?_
    obtain ⟨q3, h26, h⟩ := Option.bind_eq_some_iff.mp h
    refine run_callSb (As := [.int x2, .int 0, .int 1]) (fun r z => (r, z) = q3) mw_X12_in ms_X12_in ml_X12_156 rfl (RF.lt (HX12_free_X12_in_lt d)) (Nat.le_of_ble_eq_true rfl) dX12_free_16 (sX12_in G d  h26) (fun r z h8 => ?_) rfl
    rw [show r = q3.1 from congrArg Prod.fst h8, show z = q3.2 from congrArg Prod.snd h8]
    clear h8
    refine run_ifb_ne 24 dX12_free_19 (by decide) (fun c4 => ?_) (fun c4 => ?_)
    · rw [if_pos c4] at h
      refine run_iload_n 2 dX12_free_24 rfl rfl ?_
      refine run_if_ne 33 dX12_free_25 (by decide) (fun c5 => ?_) (fun c5 => ?_)
      · rw [if_neg c5] at h
        refine run_iconst (v := 0) dX12_free_33 rfl ?_
        refine run_istore_n [(0, .ref (gA G 269)), (3, .int 0)] [1, 0] dX12_free_34 rfl (by decide) rfl ?_
        refine run_iconst (v := 0) dX12_free_35 rfl ?_
        refine run_istore [(0, .ref (gA G 269)), (3, .int 0), (4, .int 0)] [1, 2, 0] dX12_free_36 (by decide) rfl ?_
        obtain ⟨q22, h23, h⟩ := Option.bind_eq_some_iff.mp h
        refine lpX12_free_38 G d _ _ _ _ _ h23 ?_
        refine run_iload_n 0 dX12_free_84 rfl rfl ?_
        exact run_iret dX12_free_85 ⟨_, rfl, Option.some.inj h⟩
      · rw [if_pos c5] at h
        refine run_aload_n 0 dX12_free_28 rfl rfl ?_
        obtain ⟨q24, h25, h⟩ := Option.bind_eq_some_iff.mp h
        refine run_callVi (As := []) (fun r z => (r, z) = q24) mw_X12_freeCouples mi_X12_freeCouples ml_X12_607 is_269 (by decide) rfl rfl rfl (RF.lt (HX12_free_X12_freeCouples_lt d)) (Nat.le_of_ble_eq_true rfl) dX12_free_29 (sX12_freeCouples G d  h25) (fun r z h8 => ?_) rfl
        rw [show r = q24.1 from congrArg Prod.fst h8, show z = q24.2 from congrArg Prod.snd h8]
        clear h8
        exact run_iret dX12_free_32 ⟨_, rfl, Option.some.inj h⟩
    · rw [if_neg c4] at h
      refine run_iconst (v := -1) dX12_free_22 rfl ?_
      exact run_iret dX12_free_23 ⟨_, rfl, Option.some.inj h⟩
def HX12_alone : Nat := 9
theorem HX12_alone_X12_hand_lt (d : Nat) : d + HX12_hand < d + HX12_alone := Nat.add_lt_add_left (by decide) d
theorem HX12_alone_X12_in_lt (d : Nat) : d + HX12_in < d + HX12_alone := Nat.add_lt_add_left (by decide) d
theorem HX12_alone_X12_isTask_lt (d : Nat) : d + HX12_isTask < d + HX12_alone := Nat.add_lt_add_left (by decide) d
theorem HX12_alone_X12_runAlone_lt (d : Nat) : d + HX12_runAlone < d + HX12_alone := Nat.add_lt_add_left (by decide) d
theorem HX12_alone_X12_valueNow_lt (d : Nat) : d + HX12_valueNow < d + HX12_alone := Nat.add_lt_add_left (by decide) d
theorem HX12_alone_0 (d : Nat) : 0 < d + HX12_alone := Nat.lt_of_lt_of_le (by decide) (Nat.le_add_left _ d)
def fX12_alone (x1 : Int32) (x2 : Int32) (x3 : Int32) (x4 : Int32) (σ : Mem) : Option (Int32 × Mem) := (fX12_hand x1 x2 (st2 σ 269 0 0)).bind fun q1 => if q1.1 = true then ((fX12_isTask x3 q1.2).bind fun q3 => if q3.1 = true then ((fX12_runAlone x3 q3.2).bind fun q5 => if x4 = 0 then (some ((q5 288 0), q5)) else ((fX12_in x4 10 19 q5).bind fun q7 => if q7.1 = true then ((fX12_valueNow (x4 - 10) q7.2).bind fun q9 => some (q9.1, q9.2)) else (some ((-2), q7.2)))) else (some ((-2), q3.2))) else (some ((-2), q1.2))
set_option maxRecDepth 20000 in
theorem sX12_alone (G : GT) (d : Nat) {x1 : Int32} {x2 : Int32} {x3 : Int32} {x4 : Int32}  {σ : Mem} {o : (Int32 × Mem)} (h : fX12_alone x1 x2 x3 x4 σ = some o) : Spec G yX12_alone cX12_alone 5 (some .int) (d + HX12_alone) [.ref (gA G 269), .int x1, .int x2, .int x3, .int x4] σ (kI fun x z => (x, z) = o) := by
  refine spec_run (by decide) (Nat.le_of_ble_eq_true rfl) ?_
  unfold fX12_alone at h
  show Run G RX12 cX12_alone 5 (some .int) _ 0 [(0, .ref (gA G 269)), (1, .int x1), (2, .int x2), (3, .int x3), (4, .int x4)] [] σ
  refine run_aload_n 0 dX12_alone_0 rfl rfl ?_
  refine run_iconst (v := 0) dX12_alone_1 rfl ?_
  refine run_puti fp_X12_144 is_269 (by decide) rfl dX12_alone_2 ?_
  refine run_aload_n 0 dX12_alone_5 rfl rfl ?_
  refine run_iload_n 1 dX12_alone_6 rfl rfl ?_
  refine run_iload_n 2 dX12_alone_7 rfl rfl ?_
  obtain ⟨q1, h14, h⟩ := Option.bind_eq_some_iff.mp h
  refine run_callVb (As := [.int x1, .int x2]) (fun r z => (r, z) = q1) mw_X12_hand mi_X12_hand ml_X12_487 is_269 (by decide) rfl rfl rfl (RF.lt (HX12_alone_X12_hand_lt d)) (Nat.le_of_ble_eq_true rfl) dX12_alone_8 (sX12_hand G d  h14) (fun r z h8 => ?_) rfl
  rw [show r = q1.1 from congrArg Prod.fst h8, show z = q1.2 from congrArg Prod.snd h8]
  clear h8
  refine run_ifb_eq 22 dX12_alone_11 (by decide) (fun c2 => ?_) (fun c2 => ?_)
  · rw [if_neg c2] at h
    refine run_bipush (v := -2) dX12_alone_22 rfl ?_
    exact run_iret dX12_alone_24 ⟨_, rfl, Option.some.inj h⟩
  · rw [if_pos c2] at h
    refine run_aload_n 0 dX12_alone_14 rfl rfl ?_
    refine run_iload_n 3 dX12_alone_15 rfl rfl ?_
    obtain ⟨q3, h13, h⟩ := Option.bind_eq_some_iff.mp h
    refine run_callVb (As := [.int x3]) (fun r z => (r, z) = q3) mw_X12_isTask mi_X12_isTask ml_X12_378 is_269 (by decide) rfl rfl rfl (RF.lt (HX12_alone_X12_isTask_lt d)) (Nat.le_of_ble_eq_true rfl) dX12_alone_16 (sX12_isTask G d  h13) (fun r z h8 => ?_) rfl
    rw [show r = q3.1 from congrArg Prod.fst h8, show z = q3.2 from congrArg Prod.snd h8]
    clear h8
    refine run_ifb_ne 25 dX12_alone_19 (by decide) (fun c4 => ?_) (fun c4 => ?_)
    · rw [if_pos c4] at h
      refine run_aload_n 0 dX12_alone_25 rfl rfl ?_
      refine run_iload_n 3 dX12_alone_26 rfl rfl ?_
      obtain ⟨q5, h12, h⟩ := Option.bind_eq_some_iff.mp h
      refine run_callVv (As := [.int x3]) (fun z => z = q5) mw_X12_runAlone mi_X12_runAlone ml_X12_524 is_269 (by decide) rfl rfl rfl (RF.lt (HX12_alone_X12_runAlone_lt d)) (Nat.le_of_ble_eq_true rfl) dX12_alone_27 (sX12_runAlone G d  h12) (fun z h8 => ?_) rfl
      rw [h8]
      clear h8
      refine run_iload 4 dX12_alone_30 rfl ?_
      refine run_if_ne 44 dX12_alone_32 (by decide) (fun c6 => ?_) (fun c6 => ?_)
      · rw [if_neg c6] at h
        refine run_iload 4 dX12_alone_44 rfl ?_
        refine run_bipush (v := 10) dX12_alone_46 rfl ?_
        refine run_bipush (v := 19) dX12_alone_48 rfl ?_
        obtain ⟨q7, h11, h⟩ := Option.bind_eq_some_iff.mp h
        refine run_callSb (As := [.int x4, .int 10, .int 19]) (fun r z => (r, z) = q7) mw_X12_in ms_X12_in ml_X12_156 rfl (RF.lt (HX12_alone_X12_in_lt d)) (Nat.le_of_ble_eq_true rfl) dX12_alone_50 (sX12_in G d  h11) (fun r z h8 => ?_) rfl
        rw [show r = q7.1 from congrArg Prod.fst h8, show z = q7.2 from congrArg Prod.snd h8]
        clear h8
        refine run_ifb_eq 68 dX12_alone_53 (by decide) (fun c8 => ?_) (fun c8 => ?_)
        · rw [if_neg c8] at h
          refine run_bipush (v := -2) dX12_alone_68 rfl ?_
          exact run_iret dX12_alone_70 ⟨_, rfl, Option.some.inj h⟩
        · rw [if_pos c8] at h
          refine run_aload_n 0 dX12_alone_56 rfl rfl ?_
          refine run_iload 4 dX12_alone_57 rfl ?_
          refine run_bipush (v := 10) dX12_alone_59 rfl ?_
          refine run_isub dX12_alone_61 ?_
          obtain ⟨q9, h10, h⟩ := Option.bind_eq_some_iff.mp h
          refine run_callVi (As := [.int (x4 - 10)]) (fun r z => (r, z) = q9) mw_X12_valueNow mi_X12_valueNow ml_X12_554 is_269 (by decide) rfl rfl rfl (RF.lt (HX12_alone_X12_valueNow_lt d)) (Nat.le_of_ble_eq_true rfl) dX12_alone_62 (sX12_valueNow G d  h10) (fun r z h8 => ?_) rfl
          rw [show r = q9.1 from congrArg Prod.fst h8, show z = q9.2 from congrArg Prod.snd h8]
          clear h8
          refine run_goto 70 dX12_alone_65 (by decide) ?_
          exact run_iret dX12_alone_70 ⟨_, rfl, Option.some.inj h⟩
      · rw [if_pos c6] at h
        refine run_aload_n 0 dX12_alone_35 rfl rfl ?_
        refine run_getr fl_X12_65 is_269 (by decide) rfl ce_269_38 dX12_alone_36 ?_
        refine run_iconst (v := 0) dX12_alone_39 rfl ?_
        refine run_iald' (j := 0) is_288 ln_288 (by decide) rfl dX12_alone_40 ?_
        refine run_goto 70 dX12_alone_41 (by decide) ?_
        exact run_iret dX12_alone_70 ⟨_, rfl, Option.some.inj h⟩
    · rw [if_neg c4] at h
      refine run_bipush (v := -2) dX12_alone_22 rfl ?_
      exact run_iret dX12_alone_24 ⟨_, rfl, Option.some.inj h⟩
def HX12_isSwap : Nat := 9
theorem HX12_isSwap_X12_isEnd_lt (d : Nat) : d + HX12_isEnd < d + HX12_isSwap := Nat.add_lt_add_left (by decide) d
theorem HX12_isSwap_X12_keepEnd_lt (d : Nat) : d + HX12_keepEnd < d + HX12_isSwap := Nat.add_lt_add_left (by decide) d
theorem HX12_isSwap_X12_keysAsTold_lt (d : Nat) : d + HX12_keysAsTold < d + HX12_isSwap := Nat.add_lt_add_left (by decide) d
theorem HX12_isSwap_X12_runAlone_lt (d : Nat) : d + HX12_runAlone < d + HX12_isSwap := Nat.add_lt_add_left (by decide) d
theorem HX12_isSwap_0 (d : Nat) : 0 < d + HX12_isSwap := Nat.lt_of_lt_of_le (by decide) (Nat.le_add_left _ d)
def fX12_isSwap (x1 : Int32) (x2 : Int32) (σ : Mem) : Option (Bool × Mem) := (fX12_keysAsTold σ).bind fun q1 => (fX12_runAlone x1 q1).bind fun q2 => (fX12_runAlone x2 q2).bind fun q3 => (fX12_keepEnd q3).bind fun q4 => (fX12_keysAsTold q4).bind fun q5 => (fX12_runAlone x2 q5).bind fun q6 => (fX12_runAlone x1 q6).bind fun q7 => (fX12_isEnd q7).bind fun q8 => some (q8.1, q8.2)
set_option maxRecDepth 20000 in
theorem sX12_isSwap (G : GT) (d : Nat) {x1 : Int32} {x2 : Int32}  {σ : Mem} {o : (Bool × Mem)} (h : fX12_isSwap x1 x2 σ = some o) : Spec G yX12_isSwap cX12_isSwap 3 (some .boolean) (d + HX12_isSwap) [.ref (gA G 269), .int x1, .int x2] σ (kB fun x z => (x, z) = o) := by
  refine spec_run (by decide) (Nat.le_of_ble_eq_true rfl) ?_
  unfold fX12_isSwap at h
  show Run G RX12 cX12_isSwap 3 (some .boolean) _ 0 [(0, .ref (gA G 269)), (1, .int x1), (2, .int x2)] [] σ
  refine run_aload_n 0 dX12_isSwap_0 rfl rfl ?_
  obtain ⟨q1, h16, h⟩ := Option.bind_eq_some_iff.mp h
  refine run_callVv (As := []) (fun z => z = q1) mw_X12_keysAsTold mi_X12_keysAsTold ml_X12_339 is_269 (by decide) rfl rfl rfl (RF.lt (HX12_isSwap_X12_keysAsTold_lt d)) (Nat.le_of_ble_eq_true rfl) dX12_isSwap_1 (sX12_keysAsTold G d  h16) (fun z h8 => ?_) rfl
  rw [h8]
  clear h8
  refine run_aload_n 0 dX12_isSwap_4 rfl rfl ?_
  refine run_iload_n 1 dX12_isSwap_5 rfl rfl ?_
  obtain ⟨q2, h15, h⟩ := Option.bind_eq_some_iff.mp h
  refine run_callVv (As := [.int x1]) (fun z => z = q2) mw_X12_runAlone mi_X12_runAlone ml_X12_524 is_269 (by decide) rfl rfl rfl (RF.lt (HX12_isSwap_X12_runAlone_lt d)) (Nat.le_of_ble_eq_true rfl) dX12_isSwap_6 (sX12_runAlone G d  h15) (fun z h8 => ?_) rfl
  rw [h8]
  clear h8
  refine run_aload_n 0 dX12_isSwap_9 rfl rfl ?_
  refine run_iload_n 2 dX12_isSwap_10 rfl rfl ?_
  obtain ⟨q3, h14, h⟩ := Option.bind_eq_some_iff.mp h
  refine run_callVv (As := [.int x2]) (fun z => z = q3) mw_X12_runAlone mi_X12_runAlone ml_X12_524 is_269 (by decide) rfl rfl rfl (RF.lt (HX12_isSwap_X12_runAlone_lt d)) (Nat.le_of_ble_eq_true rfl) dX12_isSwap_11 (sX12_runAlone G d  h14) (fun z h8 => ?_) rfl
  rw [h8]
  clear h8
  refine run_aload_n 0 dX12_isSwap_14 rfl rfl ?_
  obtain ⟨q4, h13, h⟩ := Option.bind_eq_some_iff.mp h
  refine run_callVv (As := []) (fun z => z = q4) mw_X12_keepEnd mi_X12_keepEnd ml_X12_521 is_269 (by decide) rfl rfl rfl (RF.lt (HX12_isSwap_X12_keepEnd_lt d)) (Nat.le_of_ble_eq_true rfl) dX12_isSwap_15 (sX12_keepEnd G d  h13) (fun z h8 => ?_) rfl
  rw [h8]
  clear h8
  refine run_aload_n 0 dX12_isSwap_18 rfl rfl ?_
  obtain ⟨q5, h12, h⟩ := Option.bind_eq_some_iff.mp h
  refine run_callVv (As := []) (fun z => z = q5) mw_X12_keysAsTold mi_X12_keysAsTold ml_X12_339 is_269 (by decide) rfl rfl rfl (RF.lt (HX12_isSwap_X12_keysAsTold_lt d)) (Nat.le_of_ble_eq_true rfl) dX12_isSwap_19 (sX12_keysAsTold G d  h12) (fun z h8 => ?_) rfl
  rw [h8]
  clear h8
  refine run_aload_n 0 dX12_isSwap_22 rfl rfl ?_
  refine run_iload_n 2 dX12_isSwap_23 rfl rfl ?_
  obtain ⟨q6, h11, h⟩ := Option.bind_eq_some_iff.mp h
  refine run_callVv (As := [.int x2]) (fun z => z = q6) mw_X12_runAlone mi_X12_runAlone ml_X12_524 is_269 (by decide) rfl rfl rfl (RF.lt (HX12_isSwap_X12_runAlone_lt d)) (Nat.le_of_ble_eq_true rfl) dX12_isSwap_24 (sX12_runAlone G d  h11) (fun z h8 => ?_) rfl
  rw [h8]
  clear h8
  refine run_aload_n 0 dX12_isSwap_27 rfl rfl ?_
  refine run_iload_n 1 dX12_isSwap_28 rfl rfl ?_
  obtain ⟨q7, h10, h⟩ := Option.bind_eq_some_iff.mp h
  refine run_callVv (As := [.int x1]) (fun z => z = q7) mw_X12_runAlone mi_X12_runAlone ml_X12_524 is_269 (by decide) rfl rfl rfl (RF.lt (HX12_isSwap_X12_runAlone_lt d)) (Nat.le_of_ble_eq_true rfl) dX12_isSwap_29 (sX12_runAlone G d  h10) (fun z h8 => ?_) rfl
  rw [h8]
  clear h8
  refine run_aload_n 0 dX12_isSwap_32 rfl rfl ?_
  obtain ⟨q8, h9, h⟩ := Option.bind_eq_some_iff.mp h
  refine run_callVb (As := []) (fun r z => (r, z) = q8) mw_X12_isEnd mi_X12_isEnd ml_X12_527 is_269 (by decide) rfl rfl rfl (RF.lt (HX12_isSwap_X12_isEnd_lt d)) (Nat.le_of_ble_eq_true rfl) dX12_isSwap_33 (sX12_isEnd G d  h9) (fun r z h8 => ?_) rfl
  rw [show r = q8.1 from congrArg Prod.fst h8, show z = q8.2 from congrArg Prod.snd h8]
  clear h8
  exact run_bret (b := q8.1) dX12_isSwap_36 ⟨_, rfl, Option.some.inj h⟩
def HX12_swaps : Nat := 10
theorem HX12_swaps_X12_hand_lt (d : Nat) : d + HX12_hand < d + HX12_swaps := Nat.add_lt_add_left (by decide) d
theorem HX12_swaps_X12_isSwap_lt (d : Nat) : d + HX12_isSwap < d + HX12_swaps := Nat.add_lt_add_left (by decide) d
theorem HX12_swaps_0 (d : Nat) : 0 < d + HX12_swaps := Nat.lt_of_lt_of_le (by decide) (Nat.le_add_left _ d)
def lX12_swaps_33 (x4 : Int32) : Nat → Int32 → Int32 → Mem → Option (Int32 × Mem)
  | 0, _, _, _ => none
  | n + 1, x3, x5, σ => if x4 ≤ x5 then (some (x3, σ)) else ((fX12_isSwap x4 x5 σ).bind fun q21 => (if q21.1 = true then (some true) else (some false) : Option (Bool)).bind fun q23 => lX12_swaps_33 x4 n (x3 + (b2 q23)) (x5 + 1) q21.2)
set_option maxRecDepth 20000 in
theorem lpX12_swaps_33 (G : GT) (d : Nat) (x4 : Int32)  {K : Option Value → Mem → Prop} : ∀ (n : Nat) (x3 : Int32) (x5 : Int32) (σ : Mem) (o : Int32 × Mem), lX12_swaps_33 x4 n x3 x5 σ = some o → (Run G RX12 cX12_swaps 6 (some .int) (mF G (d + HX12_swaps) K) 65 [(0, .ref (gA G 269)), (3, .int (o.1)), (4, .int x4)] [] (o.2)) → Run G RX12 cX12_swaps 6 (some .int) (mF G (d + HX12_swaps) K) 33 [(0, .ref (gA G 269)), (3, .int x3), (4, .int x4), (5, .int x5)] [] σ := by
  intro n
  induction n with
  | zero => intro x3 x5 σ o h; exact absurd h (by simp [lX12_swaps_33])
  | succ n ih =>
    intro x3 x5 σ o h kx
    rw [lX12_swaps_33] at h
    refine run_iload 3 dX12_swaps_33 rfl ?_
    refine run_iload 2 dX12_swaps_35 rfl ?_
    refine run_icmp_ge 65 dX12_swaps_37 (by decide) (fun c20 => ?_) (fun c20 => ?_)
    · rw [if_pos c20] at h
      rw [← Option.some.inj h] at kx
      refine run_forget [0, 1, 2] rfl ?_
      exact kx
    · rw [if_neg c20] at h
      refine run_iload_n 1 dX12_swaps_40 rfl rfl ?_
      refine run_aload_n 0 dX12_swaps_41 rfl rfl ?_
      refine run_iload 2 dX12_swaps_42 rfl ?_
      refine run_iload 3 dX12_swaps_44 rfl ?_
      obtain ⟨q21, h25, h⟩ := Option.bind_eq_some_iff.mp h
      refine run_callVb (As := [.int x4, .int x5]) (fun r z => (r, z) = q21) mw_X12_isSwap mi_X12_isSwap ml_X12_610 is_269 (by decide) rfl rfl rfl (RF.lt (HX12_swaps_X12_isSwap_lt d)) (Nat.le_of_ble_eq_true rfl) dX12_swaps_46 (sX12_isSwap G d  h25) (fun r z h8 => ?_) rfl
      rw [show r = q21.1 from congrArg Prod.fst h8, show z = q21.2 from congrArg Prod.snd h8]
      clear h8
      obtain ⟨q23, h, h9⟩ := Option.bind_eq_some_iff.mp h
      have hj24 : Run G RX12 cX12_swaps 6 (some .int) (mF G (d + HX12_swaps) K) 57 [(0, .ref (gA G 269)), (4, .int x4), (5, .int x5)] [.int (b2 q23), .int x3] q21.2 := by
        clear h
        have h := h9
        clear h9
        refine run_iadd dX12_swaps_57 ?_
        refine run_istore_n [(0, .ref (gA G 269)), (3, .int (x3 + (b2 q23))), (4, .int x4), (5, .int x5)] [1, 0, 2, 3] dX12_swaps_58 rfl (by decide) rfl ?_
        refine run_iinc 3 [(0, .ref (gA G 269)), (3, .int (x3 + (b2 q23))), (4, .int x4), (5, .int (x5 + 1))] [1, 2, 3, 0] dX12_swaps_59 rfl rfl (by decide) rfl ?_
        refine run_goto 33 dX12_swaps_62 (by decide) ?_
        exact ih _ _ _ _ h kx
      clear h9
      refine run_ifb_eq 56 dX12_swaps_49 (by decide) (fun c22 => ?_) (fun c22 => ?_)
      · rw [if_neg c22] at h
        refine run_iconst (v := 0) dX12_swaps_56 rfl ?_
        rw [← Option.some.inj h] at hj24
        refine run_forget [0, 2, 3] rfl ?_
        exact hj24
      · rw [if_pos c22] at h
        refine run_iconst (v := 1) dX12_swaps_52 rfl ?_
        refine run_goto 57 dX12_swaps_53 (by decide) ?_
        rw [← Option.some.inj h] at hj24
        refine run_forget [0, 2, 3] rfl ?_
        exact hj24
def lX12_swaps_21  : Nat → Int32 → Int32 → Mem → Option (Int32 × Mem)
  | 0, _, _, _ => none
  | n + 1, x3, x4, σ => if (σ 269 27) ≤ x4 then (some (x3, σ)) else ((lX12_swaps_33 x4 FU x3 0 σ).bind fun q26 => lX12_swaps_21 n (q26.1) (x4 + 1) (q26.2))
set_option maxRecDepth 20000 in
theorem lpX12_swaps_21 (G : GT) (d : Nat)   {K : Option Value → Mem → Prop} : ∀ (n : Nat) (x3 : Int32) (x4 : Int32) (σ : Mem) (o : Int32 × Mem), lX12_swaps_21 n x3 x4 σ = some o → (Run G RX12 cX12_swaps 6 (some .int) (mF G (d + HX12_swaps) K) 71 [(3, .int (o.1))] [] (o.2)) → Run G RX12 cX12_swaps 6 (some .int) (mF G (d + HX12_swaps) K) 21 [(0, .ref (gA G 269)), (3, .int x3), (4, .int x4)] [] σ := by
  intro n
  induction n with
  | zero => intro x3 x4 σ o h; exact absurd h (by simp [lX12_swaps_21])
  | succ n ih =>
    intro x3 x4 σ o h kx
    rw [lX12_swaps_21] at h
    refine run_iload 2 dX12_swaps_21 rfl ?_
    refine run_aload_n 0 dX12_swaps_23 rfl rfl ?_
    refine run_geti fl_X12_323 is_269 (by decide) rfl dX12_swaps_24 ?_
    refine run_icmp_ge 71 dX12_swaps_27 (by decide) (fun c15 => ?_) (fun c15 => ?_)
    · rw [if_pos c15] at h
      rw [← Option.some.inj h] at kx
      refine run_forget [1] rfl ?_
      exact kx
    · rw [if_neg c15] at h
      refine run_iconst (v := 0) dX12_swaps_30 rfl ?_
      refine run_istore [(0, .ref (gA G 269)), (3, .int x3), (4, .int x4), (5, .int 0)] [1, 2, 3, 0] dX12_swaps_31 (by decide) rfl ?_
      obtain ⟨q26, h27, h⟩ := Option.bind_eq_some_iff.mp h
      refine lpX12_swaps_33 G d _ _ _ _ _ _ h27 ?_
      refine run_iinc 2 [(0, .ref (gA G 269)), (3, .int (q26.1)), (4, .int (x4 + 1))] [1, 2, 0] dX12_swaps_65 rfl rfl (by decide) rfl ?_
      refine run_goto 21 dX12_swaps_68 (by decide) ?_
      exact ih _ _ _ _ h kx
def fX12_swaps (x1 : Int32) (x2 : Int32) (σ : Mem) : Option (Int32 × Mem) := (fX12_hand x1 x2 (st2 σ 269 0 0)).bind fun q1 => if q1.1 = true then ((lX12_swaps_21 FU 0 0 q1.2).bind fun q28 => some ((q28.1), (q28.2))) else (some ((-1), q1.2))
set_option maxRecDepth 20000 in
theorem sX12_swaps (G : GT) (d : Nat) {x1 : Int32} {x2 : Int32}  {σ : Mem} {o : (Int32 × Mem)} (h : fX12_swaps x1 x2 σ = some o) : Spec G yX12_swaps cX12_swaps 6 (some .int) (d + HX12_swaps) [.ref (gA G 269), .int x1, .int x2] σ (kI fun x z => (x, z) = o) := by
  refine spec_run (by decide) (Nat.le_of_ble_eq_true rfl) ?_
  unfold fX12_swaps at h
  show Run G RX12 cX12_swaps 6 (some .int) _ 0 [(0, .ref (gA G 269)), (1, .int x1), (2, .int x2)] [] σ
  refine run_aload_n 0 dX12_swaps_0 rfl rfl ?_
  refine run_iconst (v := 0) dX12_swaps_1 rfl ?_
  refine run_puti fp_X12_144 is_269 (by decide) rfl dX12_swaps_2 ?_
  refine run_aload_n 0 dX12_swaps_5 rfl rfl ?_
  refine run_iload_n 1 dX12_swaps_6 rfl rfl ?_
  refine run_iload_n 2 dX12_swaps_7 rfl rfl ?_
  obtain ⟨q1, h30, h⟩ := Option.bind_eq_some_iff.mp h
  refine run_callVb (As := [.int x1, .int x2]) (fun r z => (r, z) = q1) mw_X12_hand mi_X12_hand ml_X12_487 is_269 (by decide) rfl rfl rfl (RF.lt (HX12_swaps_X12_hand_lt d)) (Nat.le_of_ble_eq_true rfl) dX12_swaps_8 (sX12_hand G d  h30) (fun r z h8 => ?_) rfl
  rw [show r = q1.1 from congrArg Prod.fst h8, show z = q1.2 from congrArg Prod.snd h8]
  clear h8
  refine run_ifb_ne 16 dX12_swaps_11 (by decide) (fun c2 => ?_) (fun c2 => ?_)
  · rw [if_pos c2] at h
    refine run_iconst (v := 0) dX12_swaps_16 rfl ?_
    refine run_istore_n [(0, .ref (gA G 269)), (3, .int 0)] [1, 0] dX12_swaps_17 rfl (by decide) rfl ?_
    refine run_iconst (v := 0) dX12_swaps_18 rfl ?_
    refine run_istore [(0, .ref (gA G 269)), (3, .int 0), (4, .int 0)] [1, 2, 0] dX12_swaps_19 (by decide) rfl ?_
    obtain ⟨q28, h29, h⟩ := Option.bind_eq_some_iff.mp h
    refine lpX12_swaps_21 G d _ _ _ _ _ h29 ?_
    refine run_iload_n 0 dX12_swaps_71 rfl rfl ?_
    exact run_iret dX12_swaps_72 ⟨_, rfl, Option.some.inj h⟩
  · rw [if_neg c2] at h
    refine run_iconst (v := -1) dX12_swaps_14 rfl ?_
    exact run_iret dX12_swaps_15 ⟨_, rfl, Option.some.inj h⟩
def HX12_endsOf : Nat := 5
theorem HX12_endsOf_X12_stepsOf_lt (d : Nat) : d + HX12_stepsOf < d + HX12_endsOf := Nat.add_lt_add_left (by decide) d
theorem HX12_endsOf_X12_tries_lt (d : Nat) : d + HX12_tries < d + HX12_endsOf := Nat.add_lt_add_left (by decide) d
theorem HX12_endsOf_0 (d : Nat) : 0 < d + HX12_endsOf := Nat.lt_of_lt_of_le (by decide) (Nat.le_add_left _ d)
def fX12_endsOf (x1 : Int32) (σ : Mem) : Option Mem := gd (inb x1 4) (gd (inb x1 4) ((fX12_stepsOf (σ 286 (Int32.toNatClampNeg x1)) σ).bind fun q3 => if (σ 287 (Int32.toNatClampNeg x1)) = q3.1 then ((fX12_tries x1 (-1) q3.2).bind fun q5 => (if x1 = 0 then (some (q5.2 269 62)) else (some (q5.2 269 89)) : Option (Int32)).bind fun q7 => if x1 = 1 then (some (st2 (st2 q5.2 269 89 q7) 269 90 ((st2 q5.2 269 89 q7) 269 62))) else (some (st2 (st2 q5.2 269 89 q7) 269 90 ((st2 q5.2 269 89 q7) 269 90)))) else (some q3.2)))
set_option maxRecDepth 20000 in
theorem sX12_endsOf (G : GT) (d : Nat) {x1 : Int32}  {σ : Mem} {o : Mem} (h : fX12_endsOf x1 σ = some o) : Spec G yX12_endsOf cX12_endsOf 2 none (d + HX12_endsOf) [.ref (gA G 269), .int x1] σ (kV fun z => z = o) := by
  refine spec_run (by decide) (Nat.le_of_ble_eq_true rfl) ?_
  unfold fX12_endsOf at h
  show Run G RX12 cX12_endsOf 2 none _ 0 [(0, .ref (gA G 269)), (1, .int x1)] [] σ
  refine run_aload_n 0 dX12_endsOf_0 rfl rfl ?_
  refine run_getr fl_X12_62 is_269 (by decide) rfl ce_269_37 dX12_endsOf_1 ?_
  refine run_iload_n 1 dX12_endsOf_4 rfl rfl ?_
  obtain ⟨g1, h⟩ := gd_s h
  refine run_iald' is_287 ln_287 g1 rfl dX12_endsOf_5 ?_
  refine run_aload_n 0 dX12_endsOf_6 rfl rfl ?_
  refine run_aload_n 0 dX12_endsOf_7 rfl rfl ?_
  refine run_getr fl_X12_59 is_269 (by decide) rfl ce_269_36 dX12_endsOf_8 ?_
  refine run_iload_n 1 dX12_endsOf_11 rfl rfl ?_
  obtain ⟨g2, h⟩ := gd_s h
  refine run_iald' is_286 ln_286 g2 rfl dX12_endsOf_12 ?_
  obtain ⟨q3, h11, h⟩ := Option.bind_eq_some_iff.mp h
  refine run_callVi (As := [.int (σ 286 (Int32.toNatClampNeg x1))]) (fun r z => (r, z) = q3) mw_X12_stepsOf mi_X12_stepsOf ml_X12_381 is_269 (by decide) rfl rfl rfl (RF.lt (HX12_endsOf_X12_stepsOf_lt d)) (Nat.le_of_ble_eq_true rfl) dX12_endsOf_13 (sX12_stepsOf G d  h11) (fun r z h8 => ?_) rfl
  rw [show r = q3.1 from congrArg Prod.fst h8, show z = q3.2 from congrArg Prod.snd h8]
  clear h8
  refine run_icmp_ne 65 dX12_endsOf_16 (by decide) (fun c4 => ?_) (fun c4 => ?_)
  · rw [if_neg c4] at h
    exact run_vret dX12_endsOf_65 ⟨rfl, Option.some.inj h⟩
  · rw [if_pos c4] at h
    refine run_aload_n 0 dX12_endsOf_19 rfl rfl ?_
    refine run_iload_n 1 dX12_endsOf_20 rfl rfl ?_
    refine run_iconst (v := -1) dX12_endsOf_21 rfl ?_
    obtain ⟨q5, h10, h⟩ := Option.bind_eq_some_iff.mp h
    refine run_callVb (As := [.int x1, .int (-1)]) (fun r z => (r, z) = q5) mw_X12_tries mi_X12_tries ml_X12_463 is_269 (by decide) rfl rfl rfl (RF.lt (HX12_endsOf_X12_tries_lt d)) (Nat.le_of_ble_eq_true rfl) dX12_endsOf_22 (sX12_tries G d  h10) (fun r z h8 => ?_) rfl
    rw [show r = q5.1 from congrArg Prod.fst h8, show z = q5.2 from congrArg Prod.snd h8]
    clear h8
    refine run_pop dX12_endsOf_25 rfl ?_
    refine run_aload_n 0 dX12_endsOf_26 rfl rfl ?_
    refine run_iload_n 1 dX12_endsOf_27 rfl rfl ?_
    obtain ⟨q7, h, h9⟩ := Option.bind_eq_some_iff.mp h
    have hj9 : Run G RX12 cX12_endsOf 2 none (mF G (d + HX12_endsOf) (kV fun z => z = o)) 42 [(0, .ref (gA G 269)), (1, .int x1)] [.int q7, .ref (gA G 269)] q5.2 := by
      clear h
      have h := h9
      clear h9
      refine run_puti fp_X12_613 is_269 (by decide) rfl dX12_endsOf_42 ?_
      refine run_aload_n 0 dX12_endsOf_45 rfl rfl ?_
      refine run_iload_n 1 dX12_endsOf_46 rfl rfl ?_
      refine run_iconst (v := 1) dX12_endsOf_47 rfl ?_
      refine run_icmp_ne 58 dX12_endsOf_48 (by decide) (fun c8 => ?_) (fun c8 => ?_)
      · rw [if_neg c8] at h
        refine run_aload_n 0 dX12_endsOf_58 rfl rfl ?_
        refine run_geti fl_X12_616 is_269 (by decide) rfl dX12_endsOf_59 ?_
        refine run_puti fp_X12_616 is_269 (by decide) rfl dX12_endsOf_62 ?_
        exact run_vret dX12_endsOf_65 ⟨rfl, Option.some.inj h⟩
      · rw [if_pos c8] at h
        refine run_aload_n 0 dX12_endsOf_51 rfl rfl ?_
        refine run_geti fl_X12_403 is_269 (by decide) rfl dX12_endsOf_52 ?_
        refine run_goto 62 dX12_endsOf_55 (by decide) ?_
        refine run_puti fp_X12_616 is_269 (by decide) rfl dX12_endsOf_62 ?_
        exact run_vret dX12_endsOf_65 ⟨rfl, Option.some.inj h⟩
    clear h9
    refine run_if_ne 38 dX12_endsOf_28 (by decide) (fun c6 => ?_) (fun c6 => ?_)
    · rw [if_neg c6] at h
      refine run_aload_n 0 dX12_endsOf_38 rfl rfl ?_
      refine run_geti fl_X12_613 is_269 (by decide) rfl dX12_endsOf_39 ?_
      rw [← Option.some.inj h] at hj9
      exact hj9
    · rw [if_pos c6] at h
      refine run_aload_n 0 dX12_endsOf_31 rfl rfl ?_
      refine run_geti fl_X12_403 is_269 (by decide) rfl dX12_endsOf_32 ?_
      refine run_goto 42 dX12_endsOf_35 (by decide) ?_
      rw [← Option.some.inj h] at hj9
      exact hj9
def HX12_weaves : Nat := 8
theorem HX12_weaves_X12_beginPlan_lt (d : Nat) : d + HX12_beginPlan < d + HX12_weaves := Nat.add_lt_add_left (by decide) d
theorem HX12_weaves_X12_begins_lt (d : Nat) : d + HX12_begins < d + HX12_weaves := Nat.add_lt_add_left (by decide) d
theorem HX12_weaves_X12_endsOf_lt (d : Nat) : d + HX12_endsOf < d + HX12_weaves := Nat.add_lt_add_left (by decide) d
theorem HX12_weaves_X12_has_lt (d : Nat) : d + HX12_has < d + HX12_weaves := Nat.add_lt_add_left (by decide) d
theorem HX12_weaves_X12_steps_lt (d : Nat) : d + HX12_steps < d + HX12_weaves := Nat.add_lt_add_left (by decide) d
theorem HX12_weaves_X12_stepsOf_lt (d : Nat) : d + HX12_stepsOf < d + HX12_weaves := Nat.add_lt_add_left (by decide) d
theorem HX12_weaves_0 (d : Nat) : 0 < d + HX12_weaves := Nat.lt_of_lt_of_le (by decide) (Nat.le_add_left _ d)
def lX12_weaves_45 (x3 : Int32) (x4 : Int32) : Nat → Int32 → Mem → Option (Mem)
  | 0, _, _ => none
  | n + 1, x5, σ => if x4 ≤ x5 then (some σ) else ((fX12_has x3 x5 σ).bind fun q21 => (if q21.1 = true then (some false) else (some true) : Option (Bool)).bind fun q23 => (fX12_steps (b2 q23) q21.2).bind fun q24 => (fX12_endsOf (b2 q23) q24.2).bind fun q25 => lX12_weaves_45 x3 x4 n (x5 + 1) q25)
set_option maxRecDepth 20000 in
theorem lpX12_weaves_45 (G : GT) (d : Nat) (x3 : Int32) (x4 : Int32)  {K : Option Value → Mem → Prop} : ∀ (n : Nat) (x5 : Int32) (σ : Mem) (o : Mem), lX12_weaves_45 x3 x4 n x5 σ = some o → (Run G RX12 cX12_weaves 7 none (mF G (d + HX12_weaves) K) 87 [(0, .ref (gA G 269))] [] o) → Run G RX12 cX12_weaves 7 none (mF G (d + HX12_weaves) K) 45 [(0, .ref (gA G 269)), (3, .int x3), (4, .int x4), (5, .int x5)] [] σ := by
  intro n
  induction n with
  | zero => intro x5 σ o h; exact absurd h (by simp [lX12_weaves_45])
  | succ n ih =>
    intro x5 σ o h kx
    rw [lX12_weaves_45] at h
    refine run_iload 3 dX12_weaves_45 rfl ?_
    refine run_iload 2 dX12_weaves_47 rfl ?_
    refine run_icmp_ge 87 dX12_weaves_49 (by decide) (fun c20 => ?_) (fun c20 => ?_)
    · rw [if_pos c20] at h
      rw [← Option.some.inj h] at kx
      refine run_forget [0] rfl ?_
      exact kx
    · rw [if_neg c20] at h
      refine run_iload_n 1 dX12_weaves_52 rfl rfl ?_
      refine run_iload 3 dX12_weaves_53 rfl ?_
      obtain ⟨q21, h29, h⟩ := Option.bind_eq_some_iff.mp h
      refine run_callSb (As := [.int x3, .int x5]) (fun r z => (r, z) = q21) mw_X12_has ms_X12_has ml_X12_148 rfl (RF.lt (HX12_weaves_X12_has_lt d)) (Nat.le_of_ble_eq_true rfl) dX12_weaves_55 (sX12_has G d  h29) (fun r z h8 => ?_) rfl
      rw [show r = q21.1 from congrArg Prod.fst h8, show z = q21.2 from congrArg Prod.snd h8]
      clear h8
      obtain ⟨q23, h, h9⟩ := Option.bind_eq_some_iff.mp h
      have hj28 : Run G RX12 cX12_weaves 7 none (mF G (d + HX12_weaves) K) 66 [(0, .ref (gA G 269)), (3, .int x3), (4, .int x4), (5, .int x5)] [.int (b2 q23)] q21.2 := by
        clear h
        have h := h9
        clear h9
        refine run_istore [(0, .ref (gA G 269)), (3, .int x3), (4, .int x4), (5, .int x5), (6, .int (b2 q23))] [1, 2, 3, 4, 0] dX12_weaves_66 (by decide) rfl ?_
        refine run_aload_n 0 dX12_weaves_68 rfl rfl ?_
        refine run_iload 4 dX12_weaves_69 rfl ?_
        obtain ⟨q24, h27, h⟩ := Option.bind_eq_some_iff.mp h
        refine run_callVb (As := [.int (b2 q23)]) (fun r z => (r, z) = q24) mw_X12_steps mi_X12_steps ml_X12_460 is_269 (by decide) rfl rfl rfl (RF.lt (HX12_weaves_X12_steps_lt d)) (Nat.le_of_ble_eq_true rfl) dX12_weaves_71 (sX12_steps G d  h27) (fun r z h8 => ?_) rfl
        rw [show r = q24.1 from congrArg Prod.fst h8, show z = q24.2 from congrArg Prod.snd h8]
        clear h8
        refine run_pop dX12_weaves_74 rfl ?_
        refine run_aload_n 0 dX12_weaves_75 rfl rfl ?_
        refine run_iload 4 dX12_weaves_76 rfl ?_
        obtain ⟨q25, h26, h⟩ := Option.bind_eq_some_iff.mp h
        refine run_callVv (As := [.int (b2 q23)]) (fun z => z = q25) mw_X12_endsOf mi_X12_endsOf ml_X12_619 is_269 (by decide) rfl rfl rfl (RF.lt (HX12_weaves_X12_endsOf_lt d)) (Nat.le_of_ble_eq_true rfl) dX12_weaves_78 (sX12_endsOf G d  h26) (fun z h8 => ?_) rfl
        rw [h8]
        clear h8
        refine run_iinc 3 [(0, .ref (gA G 269)), (3, .int x3), (4, .int x4), (5, .int (x5 + 1))] [1, 2, 3, 0] dX12_weaves_81 rfl rfl (by decide) rfl ?_
        refine run_goto 45 dX12_weaves_84 (by decide) ?_
        exact ih _ _ _ h kx
      clear h9
      refine run_ifb_eq 65 dX12_weaves_58 (by decide) (fun c22 => ?_) (fun c22 => ?_)
      · rw [if_neg c22] at h
        refine run_iconst (v := 1) dX12_weaves_65 rfl ?_
        rw [← Option.some.inj h] at hj28
        exact hj28
      · rw [if_pos c22] at h
        refine run_iconst (v := 0) dX12_weaves_61 rfl ?_
        refine run_goto 66 dX12_weaves_62 (by decide) ?_
        rw [← Option.some.inj h] at hj28
        exact hj28
def jX12_weaves_42 (x3 : Int32) (x4 : Int32) (σ : Mem) : Option Mem := (lX12_weaves_45 x3 x4 FU 0 σ).bind fun q30 => (if ((st2 q30 269 84 ((q30 269 84) + 1)) 269 89) = 1 then (if ((st2 q30 269 84 ((q30 269 84) + 1)) 269 90) = 1 then (some true) else (some false)) else (some false) : Option (Bool)).bind fun q33 => (if ((st2 (st2 q30 269 84 ((q30 269 84) + 1)) 269 85 (((st2 q30 269 84 ((q30 269 84) + 1)) 269 85) + (b2 q33))) 269 89) ≤ 1 then (some false) else (some true) : Option (Bool)).bind fun q35 => (some (st2 (st2 (st2 q30 269 84 ((q30 269 84) + 1)) 269 85 (((st2 q30 269 84 ((q30 269 84) + 1)) 269 85) + (b2 q33))) 269 86 (((st2 (st2 q30 269 84 ((q30 269 84) + 1)) 269 85 (((st2 q30 269 84 ((q30 269 84) + 1)) 269 85) + (b2 q33))) 269 86) + (b2 q35)))).bind fun s36 => (if (s36 269 90) ≤ 1 then (some false) else (some true) : Option (Bool)).bind fun q38 => if ((st2 s36 269 87 ((s36 269 87) + (b2 q38))) 269 89) = 3 then (some (st2 (st2 s36 269 87 ((s36 269 87) + (b2 q38))) 269 88 (((st2 s36 269 87 ((s36 269 87) + (b2 q38))) 269 88) + 1))) else (if ((st2 s36 269 87 ((s36 269 87) + (b2 q38))) 269 90) = 3 then (some (st2 (st2 s36 269 87 ((s36 269 87) + (b2 q38))) 269 88 (((st2 s36 269 87 ((s36 269 87) + (b2 q38))) 269 88) + 1))) else (some (st2 (st2 s36 269 87 ((s36 269 87) + (b2 q38))) 269 88 (((st2 s36 269 87 ((s36 269 87) + (b2 q38))) 269 88) + 0))))
set_option maxRecDepth 20000 in
theorem jnX12_weaves_42 (G : GT) (d : Nat) (x3 : Int32) (x4 : Int32)  (σ : Mem) (o : Mem) (h : jX12_weaves_42 x3 x4 σ = some o) : Run G RX12 cX12_weaves 7 none (mF G (d + HX12_weaves) (kV fun z => z = o)) 42 [(0, .ref (gA G 269)), (3, .int x3), (4, .int x4)] [] σ := by
  unfold jX12_weaves_42 at h
  refine run_iconst (v := 0) dX12_weaves_42 rfl ?_
  refine run_istore [(0, .ref (gA G 269)), (3, .int x3), (4, .int x4), (5, .int 0)] [1, 2, 3, 0] dX12_weaves_43 (by decide) rfl ?_
  obtain ⟨q30, h44, h⟩ := Option.bind_eq_some_iff.mp h
  refine lpX12_weaves_45 G d _ _ _ _ _ _ h44 ?_
  refine run_aload_n 0 dX12_weaves_87 rfl rfl ?_
  refine run_dup dX12_weaves_88 rfl ?_
  refine run_geti fl_X12_622 is_269 (by decide) rfl dX12_weaves_89 ?_
  refine run_iconst (v := 1) dX12_weaves_92 rfl ?_
  refine run_iadd dX12_weaves_93 ?_
  refine run_puti fp_X12_622 is_269 (by decide) rfl dX12_weaves_94 ?_
  refine run_aload_n 0 dX12_weaves_97 rfl rfl ?_
  refine run_dup dX12_weaves_98 rfl ?_
  refine run_geti fl_X12_625 is_269 (by decide) rfl dX12_weaves_99 ?_
  refine run_aload_n 0 dX12_weaves_102 rfl rfl ?_
  refine run_geti fl_X12_613 is_269 (by decide) rfl dX12_weaves_103 ?_
  refine run_iconst (v := 1) dX12_weaves_106 rfl ?_
  obtain ⟨q33, h, h9⟩ := Option.bind_eq_some_iff.mp h
  have hj43 : Run G RX12 cX12_weaves 7 none (mF G (d + HX12_weaves) (kV fun z => z = o)) 123 [(0, .ref (gA G 269))] [.int (b2 q33), .int ((st2 q30 269 84 ((q30 269 84) + 1)) 269 85), .ref (gA G 269)] (st2 q30 269 84 ((q30 269 84) + 1)) := by
    clear h
    have h := h9
    clear h9
    refine run_iadd dX12_weaves_123 ?_
    refine run_puti fp_X12_625 is_269 (by decide) rfl dX12_weaves_124 ?_
    refine run_aload_n 0 dX12_weaves_127 rfl rfl ?_
    refine run_dup dX12_weaves_128 rfl ?_
    refine run_geti fl_X12_628 is_269 (by decide) rfl dX12_weaves_129 ?_
    refine run_aload_n 0 dX12_weaves_132 rfl rfl ?_
    refine run_geti fl_X12_613 is_269 (by decide) rfl dX12_weaves_133 ?_
    refine run_iconst (v := 1) dX12_weaves_136 rfl ?_
    obtain ⟨q35, h, h9⟩ := Option.bind_eq_some_iff.mp h
    have hj42 : Run G RX12 cX12_weaves 7 none (mF G (d + HX12_weaves) (kV fun z => z = o)) 145 [(0, .ref (gA G 269))] [.int (b2 q35), .int ((st2 (st2 q30 269 84 ((q30 269 84) + 1)) 269 85 (((st2 q30 269 84 ((q30 269 84) + 1)) 269 85) + (b2 q33))) 269 86), .ref (gA G 269)] (st2 (st2 q30 269 84 ((q30 269 84) + 1)) 269 85 (((st2 q30 269 84 ((q30 269 84) + 1)) 269 85) + (b2 q33))) := by
      clear h
      have h := h9
      clear h9
      refine run_iadd dX12_weaves_145 ?_
      refine run_puti fp_X12_628 is_269 (by decide) rfl dX12_weaves_146 ?_
      rw [Option.bind_some] at h
      refine run_mem (fun s36 es36 => ?_)
      rw [← es36] at h
      refine run_aload_n 0 dX12_weaves_149 rfl rfl ?_
      refine run_dup dX12_weaves_150 rfl ?_
      refine run_geti fl_X12_631 is_269 (by decide) rfl dX12_weaves_151 ?_
      refine run_aload_n 0 dX12_weaves_154 rfl rfl ?_
      refine run_geti fl_X12_616 is_269 (by decide) rfl dX12_weaves_155 ?_
      refine run_iconst (v := 1) dX12_weaves_158 rfl ?_
      obtain ⟨q38, h, h9⟩ := Option.bind_eq_some_iff.mp h
      have hj41 : Run G RX12 cX12_weaves 7 none (mF G (d + HX12_weaves) (kV fun z => z = o)) 167 [(0, .ref (gA G 269))] [.int (b2 q38), .int (s36 269 87), .ref (gA G 269)] s36 := by
        clear h
        have h := h9
        clear h9
        refine run_iadd dX12_weaves_167 ?_
        refine run_puti fp_X12_631 is_269 (by decide) rfl dX12_weaves_168 ?_
        refine run_aload_n 0 dX12_weaves_171 rfl rfl ?_
        refine run_dup dX12_weaves_172 rfl ?_
        refine run_geti fl_X12_634 is_269 (by decide) rfl dX12_weaves_173 ?_
        refine run_aload_n 0 dX12_weaves_176 rfl rfl ?_
        refine run_geti fl_X12_613 is_269 (by decide) rfl dX12_weaves_177 ?_
        refine run_iconst (v := 3) dX12_weaves_180 rfl ?_
        refine run_icmp_eq 192 dX12_weaves_181 (by decide) (fun c39 => ?_) (fun c39 => ?_)
        · rw [if_pos c39] at h
          refine run_iconst (v := 1) dX12_weaves_192 rfl ?_
          refine run_goto 197 dX12_weaves_193 (by decide) ?_
          refine run_iadd dX12_weaves_197 ?_
          refine run_puti fp_X12_634 is_269 (by decide) rfl dX12_weaves_198 ?_
          exact run_vret dX12_weaves_201 ⟨rfl, Option.some.inj h⟩
        · rw [if_neg c39] at h
          refine run_aload_n 0 dX12_weaves_184 rfl rfl ?_
          refine run_geti fl_X12_616 is_269 (by decide) rfl dX12_weaves_185 ?_
          refine run_iconst (v := 3) dX12_weaves_188 rfl ?_
          refine run_icmp_ne 196 dX12_weaves_189 (by decide) (fun c40 => ?_) (fun c40 => ?_)
          · rw [if_neg c40] at h
            refine run_iconst (v := 0) dX12_weaves_196 rfl ?_
            refine run_iadd dX12_weaves_197 ?_
            refine run_puti fp_X12_634 is_269 (by decide) rfl dX12_weaves_198 ?_
            exact run_vret dX12_weaves_201 ⟨rfl, Option.some.inj h⟩
          · rw [if_pos c40] at h
            refine run_iconst (v := 1) dX12_weaves_192 rfl ?_
            refine run_goto 197 dX12_weaves_193 (by decide) ?_
            refine run_iadd dX12_weaves_197 ?_
            refine run_puti fp_X12_634 is_269 (by decide) rfl dX12_weaves_198 ?_
            exact run_vret dX12_weaves_201 ⟨rfl, Option.some.inj h⟩
      clear h9
      refine run_icmp_le 166 dX12_weaves_159 (by decide) (fun c37 => ?_) (fun c37 => ?_)
      · rw [if_pos c37] at h
        refine run_iconst (v := 0) dX12_weaves_166 rfl ?_
        rw [← Option.some.inj h] at hj41
        exact hj41
      · rw [if_neg c37] at h
        refine run_iconst (v := 1) dX12_weaves_162 rfl ?_
        refine run_goto 167 dX12_weaves_163 (by decide) ?_
        rw [← Option.some.inj h] at hj41
        exact hj41
    clear h9
    refine run_icmp_le 144 dX12_weaves_137 (by decide) (fun c34 => ?_) (fun c34 => ?_)
    · rw [if_pos c34] at h
      refine run_iconst (v := 0) dX12_weaves_144 rfl ?_
      rw [← Option.some.inj h] at hj42
      exact hj42
    · rw [if_neg c34] at h
      refine run_iconst (v := 1) dX12_weaves_140 rfl ?_
      refine run_goto 145 dX12_weaves_141 (by decide) ?_
      rw [← Option.some.inj h] at hj42
      exact hj42
  clear h9
  refine run_icmp_ne 122 dX12_weaves_107 (by decide) (fun c31 => ?_) (fun c31 => ?_)
  · rw [if_neg c31] at h
    refine run_iconst (v := 0) dX12_weaves_122 rfl ?_
    rw [← Option.some.inj h] at hj43
    exact hj43
  · rw [if_pos c31] at h
    refine run_aload_n 0 dX12_weaves_110 rfl rfl ?_
    refine run_geti fl_X12_616 is_269 (by decide) rfl dX12_weaves_111 ?_
    refine run_iconst (v := 1) dX12_weaves_114 rfl ?_
    refine run_icmp_ne 122 dX12_weaves_115 (by decide) (fun c32 => ?_) (fun c32 => ?_)
    · rw [if_neg c32] at h
      refine run_iconst (v := 0) dX12_weaves_122 rfl ?_
      rw [← Option.some.inj h] at hj43
      exact hj43
    · rw [if_pos c32] at h
      refine run_iconst (v := 1) dX12_weaves_118 rfl ?_
      refine run_goto 123 dX12_weaves_119 (by decide) ?_
      rw [← Option.some.inj h] at hj43
      exact hj43
def jX12_weaves_29 (x2 : Int32) (x3 : Int32) (x4 : Int32) (σ : Mem) : Option Mem := (fX12_stepsOf x2 σ).bind fun q9 => (if q9.1 = 0 then ((fX12_endsOf 1 q9.2).bind fun q11 => some q11) else (some q9.2) : Option (Mem)).bind fun q13 => jX12_weaves_42 x3 x4 q13
set_option maxRecDepth 20000 in
theorem jnX12_weaves_29 (G : GT) (d : Nat) (x2 : Int32) (x3 : Int32) (x4 : Int32)  (σ : Mem) (o : Mem) (h : jX12_weaves_29 x2 x3 x4 σ = some o) : Run G RX12 cX12_weaves 7 none (mF G (d + HX12_weaves) (kV fun z => z = o)) 29 [(0, .ref (gA G 269)), (2, .int x2), (3, .int x3), (4, .int x4)] [] σ := by
  unfold jX12_weaves_29 at h
  refine run_aload_n 0 dX12_weaves_29 rfl rfl ?_
  refine run_iload_n 1 dX12_weaves_30 rfl rfl ?_
  obtain ⟨q9, h46, h⟩ := Option.bind_eq_some_iff.mp h
  refine run_callVi (As := [.int x2]) (fun r z => (r, z) = q9) mw_X12_stepsOf mi_X12_stepsOf ml_X12_381 is_269 (by decide) rfl rfl rfl (RF.lt (HX12_weaves_X12_stepsOf_lt d)) (Nat.le_of_ble_eq_true rfl) dX12_weaves_31 (sX12_stepsOf G d  h46) (fun r z h8 => ?_) rfl
  rw [show r = q9.1 from congrArg Prod.fst h8, show z = q9.2 from congrArg Prod.snd h8]
  clear h8
  obtain ⟨q13, h, h9⟩ := Option.bind_eq_some_iff.mp h
  have hj45 : Run G RX12 cX12_weaves 7 none (mF G (d + HX12_weaves) (kV fun z => z = o)) 42 [(0, .ref (gA G 269)), (3, .int x3), (4, .int x4)] [] q13 := by
    clear h
    have h := h9
    clear h9
    exact jnX12_weaves_42 G d _ _ _ _ h
  clear h9
  refine run_if_ne 42 dX12_weaves_34 (by decide) (fun c10 => ?_) (fun c10 => ?_)
  · rw [if_neg c10] at h
    rw [← Option.some.inj h] at hj45
    refine run_forget [0, 2, 3] rfl ?_
    exact hj45
  · rw [if_pos c10] at h
    refine run_aload_n 0 dX12_weaves_37 rfl rfl ?_
    refine run_iconst (v := 1) dX12_weaves_38 rfl ?_
    obtain ⟨q11, h12, h⟩ := Option.bind_eq_some_iff.mp h
    refine run_callVv (As := [.int 1]) (fun z => z = q11) mw_X12_endsOf mi_X12_endsOf ml_X12_619 is_269 (by decide) rfl rfl rfl (RF.lt (HX12_weaves_X12_endsOf_lt d)) (Nat.le_of_ble_eq_true rfl) dX12_weaves_39 (sX12_endsOf G d  h12) (fun z h8 => ?_) rfl
    rw [h8]
    clear h8
    rw [← Option.some.inj h] at hj45
    refine run_forget [0, 2, 3] rfl ?_
    exact hj45
def fX12_weaves (x1 : Int32) (x2 : Int32) (x3 : Int32) (x4 : Int32) (σ : Mem) : Option Mem := (fX12_beginPlan σ).bind fun q1 => (fX12_begins 0 x1 q1).bind fun q2 => (fX12_begins 1 x2 q2).bind fun q3 => (fX12_stepsOf x1 q3).bind fun q4 => (if q4.1 = 0 then ((fX12_endsOf 0 q4.2).bind fun q6 => some q6) else (some q4.2) : Option (Mem)).bind fun q8 => jX12_weaves_29 x2 x3 x4 q8
set_option maxRecDepth 20000 in
theorem sX12_weaves (G : GT) (d : Nat) {x1 : Int32} {x2 : Int32} {x3 : Int32} {x4 : Int32}  {σ : Mem} {o : Mem} (h : fX12_weaves x1 x2 x3 x4 σ = some o) : Spec G yX12_weaves cX12_weaves 7 none (d + HX12_weaves) [.ref (gA G 269), .int x1, .int x2, .int x3, .int x4] σ (kV fun z => z = o) := by
  refine spec_run (by decide) (Nat.le_of_ble_eq_true rfl) ?_
  unfold fX12_weaves at h
  show Run G RX12 cX12_weaves 7 none _ 0 [(0, .ref (gA G 269)), (1, .int x1), (2, .int x2), (3, .int x3), (4, .int x4)] [] σ
  refine run_aload_n 0 dX12_weaves_0 rfl rfl ?_
  obtain ⟨q1, h51, h⟩ := Option.bind_eq_some_iff.mp h
  refine run_callVv (As := []) (fun z => z = q1) mw_X12_beginPlan mi_X12_beginPlan ml_X12_375 is_269 (by decide) rfl rfl rfl (RF.lt (HX12_weaves_X12_beginPlan_lt d)) (Nat.le_of_ble_eq_true rfl) dX12_weaves_1 (sX12_beginPlan G d  h51) (fun z h8 => ?_) rfl
  rw [h8]
  clear h8
  refine run_aload_n 0 dX12_weaves_4 rfl rfl ?_
  refine run_iconst (v := 0) dX12_weaves_5 rfl ?_
  refine run_iload_n 1 dX12_weaves_6 rfl rfl ?_
  obtain ⟨q2, h50, h⟩ := Option.bind_eq_some_iff.mp h
  refine run_callVv (As := [.int 0, .int x1]) (fun z => z = q2) mw_X12_begins mi_X12_begins ml_X12_469 is_269 (by decide) rfl rfl rfl (RF.lt (HX12_weaves_X12_begins_lt d)) (Nat.le_of_ble_eq_true rfl) dX12_weaves_7 (sX12_begins G d  h50) (fun z h8 => ?_) rfl
  rw [h8]
  clear h8
  refine run_aload_n 0 dX12_weaves_10 rfl rfl ?_
  refine run_iconst (v := 1) dX12_weaves_11 rfl ?_
  refine run_iload_n 2 dX12_weaves_12 rfl rfl ?_
  obtain ⟨q3, h49, h⟩ := Option.bind_eq_some_iff.mp h
  refine run_callVv (As := [.int 1, .int x2]) (fun z => z = q3) mw_X12_begins mi_X12_begins ml_X12_469 is_269 (by decide) rfl rfl rfl (RF.lt (HX12_weaves_X12_begins_lt d)) (Nat.le_of_ble_eq_true rfl) dX12_weaves_13 (sX12_begins G d  h49) (fun z h8 => ?_) rfl
  rw [h8]
  clear h8
  refine run_aload_n 0 dX12_weaves_16 rfl rfl ?_
  refine run_iload_n 1 dX12_weaves_17 rfl rfl ?_
  obtain ⟨q4, h48, h⟩ := Option.bind_eq_some_iff.mp h
  refine run_callVi (As := [.int x1]) (fun r z => (r, z) = q4) mw_X12_stepsOf mi_X12_stepsOf ml_X12_381 is_269 (by decide) rfl rfl rfl (RF.lt (HX12_weaves_X12_stepsOf_lt d)) (Nat.le_of_ble_eq_true rfl) dX12_weaves_18 (sX12_stepsOf G d  h48) (fun r z h8 => ?_) rfl
  rw [show r = q4.1 from congrArg Prod.fst h8, show z = q4.2 from congrArg Prod.snd h8]
  clear h8
  obtain ⟨q8, h, h9⟩ := Option.bind_eq_some_iff.mp h
  have hj47 : Run G RX12 cX12_weaves 7 none (mF G (d + HX12_weaves) (kV fun z => z = o)) 29 [(0, .ref (gA G 269)), (2, .int x2), (3, .int x3), (4, .int x4)] [] q8 := by
    clear h
    have h := h9
    clear h9
    exact jnX12_weaves_29 G d _ _ _ _ _ h
  clear h9
  refine run_if_ne 29 dX12_weaves_21 (by decide) (fun c5 => ?_) (fun c5 => ?_)
  · rw [if_neg c5] at h
    rw [← Option.some.inj h] at hj47
    refine run_forget [0, 2, 3, 4] rfl ?_
    exact hj47
  · rw [if_pos c5] at h
    refine run_aload_n 0 dX12_weaves_24 rfl rfl ?_
    refine run_iconst (v := 0) dX12_weaves_25 rfl ?_
    obtain ⟨q6, h7, h⟩ := Option.bind_eq_some_iff.mp h
    refine run_callVv (As := [.int 0]) (fun z => z = q6) mw_X12_endsOf mi_X12_endsOf ml_X12_619 is_269 (by decide) rfl rfl rfl (RF.lt (HX12_weaves_X12_endsOf_lt d)) (Nat.le_of_ble_eq_true rfl) dX12_weaves_26 (sX12_endsOf G d  h7) (fun z h8 => ?_) rfl
    rw [h8]
    clear h8
    rw [← Option.some.inj h] at hj47
    refine run_forget [0, 2, 3, 4] rfl ?_
    exact hj47
