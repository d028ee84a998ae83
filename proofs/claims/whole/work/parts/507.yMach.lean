/-! ===== a constructor ===== -/
set_option maxRecDepth 20000 in
set_option maxHeartbeats 40000000 in
theorem kX3_init (G : GT) (d : Nat) {cs : Nat → va_E} (hc0 : cs 146 = .inr (3, [.null, .null, .int 0, .int 0, .null, .null, .null, .null, .null, .null, .null, .int 0, .int 0, .null, .null, .null, .null, .int 0, .int 0, .int 0])) : SpecY G yX3_init cX3_init 4 (d + 2) 87 1122 [.ref (gA G 146), .ref (gA G 8), .ref (gA G 10)] 147 cs (Kc G 146 88 cs) := by
  refine ry_spec (by decide) (Nat.le_of_ble_eq_true rfl) ?_
  have hlo : ∀ n, n < 146 → cs n = cs n := fun _ _ => rfl
  show RunY G RX3 "<init>" cX3_init 4 none _ 0 0 0 [(0, .ref (gA G 146)), (1, .ref (gA G 8)), (2, .ref (gA G 10))] [] 147 cs
  refine ry_aload_n 0 dX3_init_0 rfl rfl ?_
  refine ry_objInit wm_X3_3 w_oi w_oc (show 1 ≤ d + 2 by omega) (show 30 ≤ 30 * (d + 2) by omega) rfl dX3_init_1 ?_
  refine ry_aload_n 0 dX3_init_4 rfl rfl ?_
  refine ry_bipush (v := 10) dX3_init_5 rfl ?_
  refine ry_newa (κ := 14) (n := 10) (atype := .int) (ty := .int) (t0 := 1) rfl wa_int rfl (fun _ _ => Iff.rfl) rfl (by decide) rfl (by decide) (Nat.le_of_ble_eq_true rfl) (Nat.le_of_ble_eq_true rfl) dX3_init_7 ?_
  refine ry_cs (fun cs1 e1 => ?_)
  replace hc0 : cs1 146 = .inr (3, [.null, .null, .int 0, .int 0, .null, .null, .null, .null, .null, .null, .null, .int 0, .int 0, .null, .null, .null, .null, .int 0, .int 0, .int 0]) := by rw [e1, va_up_ne _ _ (by omega)]; exact hc0
  have hc1 : cs1 147 = .inl (gY G 14, 10, .inl (fun _ => 0)) := by rw [e1]; exact va_up_self _ _ _
  replace hlo : ∀ n, n < 146 → cs1 n = cs n := fun n a => by rw [e1, va_up_ne _ _ (by omega)] <;> exact hlo n a
  clear e1
  refine ry_putF ff_X3_9 rfl (by omega) hc0 rfl rfl (nlt rfl) dX3_init_9 ?_
  refine ry_cs (fun cs2 e2 => ?_)
  replace hc1 : cs2 147 = .inl (gY G 14, 10, .inl (fun _ => 0)) := by rw [e2, va_up_ne _ _ (by omega)]; exact hc1
  replace hc0 : cs2 146 = .inr (3, [.null, .null, .int 0, .int 0, .ref (gA G 147), .null, .null, .null, .null, .null, .null, .int 0, .int 0, .null, .null, .null, .null, .int 0, .int 0, .int 0]) := by rw [e2]; exact va_up_self _ _ _
  replace hlo : ∀ n, n < 146 → cs2 n = cs n := fun n a => by rw [e2, va_up_ne _ _ (by omega)] <;> exact hlo n a
  clear e2
  refine ry_aload_n 0 dX3_init_12 rfl rfl ?_
  refine ry_bipush (v := 10) dX3_init_13 rfl ?_
  refine ry_newa (κ := 14) (n := 10) (atype := .int) (ty := .int) (t0 := 1) rfl wa_int rfl (fun _ _ => Iff.rfl) rfl (by decide) rfl (by decide) (Nat.le_of_ble_eq_true rfl) (Nat.le_of_ble_eq_true rfl) dX3_init_15 ?_
  refine ry_cs (fun cs3 e3 => ?_)
  replace hc0 : cs3 146 = .inr (3, [.null, .null, .int 0, .int 0, .ref (gA G 147), .null, .null, .null, .null, .null, .null, .int 0, .int 0, .null, .null, .null, .null, .int 0, .int 0, .int 0]) := by rw [e3, va_up_ne _ _ (by omega)]; exact hc0
  replace hc1 : cs3 147 = .inl (gY G 14, 10, .inl (fun _ => 0)) := by rw [e3, va_up_ne _ _ (by omega)]; exact hc1
  have hc2 : cs3 148 = .inl (gY G 14, 10, .inl (fun _ => 0)) := by rw [e3]; exact va_up_self _ _ _
  replace hlo : ∀ n, n < 146 → cs3 n = cs n := fun n a => by rw [e3, va_up_ne _ _ (by omega)] <;> exact hlo n a
  clear e3
  refine ry_putF ff_X3_15 rfl (by omega) hc0 rfl rfl (nlt rfl) dX3_init_17 ?_
  refine ry_cs (fun cs4 e4 => ?_)
  replace hc1 : cs4 147 = .inl (gY G 14, 10, .inl (fun _ => 0)) := by rw [e4, va_up_ne _ _ (by omega)]; exact hc1
  replace hc2 : cs4 148 = .inl (gY G 14, 10, .inl (fun _ => 0)) := by rw [e4, va_up_ne _ _ (by omega)]; exact hc2
  replace hc0 : cs4 146 = .inr (3, [.null, .null, .int 0, .int 0, .ref (gA G 147), .ref (gA G 148), .null, .null, .null, .null, .null, .int 0, .int 0, .null, .null, .null, .null, .int 0, .int 0, .int 0]) := by rw [e4]; exact va_up_self _ _ _
  replace hlo : ∀ n, n < 146 → cs4 n = cs n := fun n a => by rw [e4, va_up_ne _ _ (by omega)] <;> exact hlo n a
  clear e4
  refine ry_aload_n 0 dX3_init_20 rfl rfl ?_
  refine ry_bipush (v := 10) dX3_init_21 rfl ?_
  refine ry_newa (κ := 14) (n := 10) (atype := .int) (ty := .int) (t0 := 1) rfl wa_int rfl (fun _ _ => Iff.rfl) rfl (by decide) rfl (by decide) (Nat.le_of_ble_eq_true rfl) (Nat.le_of_ble_eq_true rfl) dX3_init_23 ?_
  refine ry_cs (fun cs5 e5 => ?_)
  replace hc0 : cs5 146 = .inr (3, [.null, .null, .int 0, .int 0, .ref (gA G 147), .ref (gA G 148), .null, .null, .null, .null, .null, .int 0, .int 0, .null, .null, .null, .null, .int 0, .int 0, .int 0]) := by rw [e5, va_up_ne _ _ (by omega)]; exact hc0
  replace hc1 : cs5 147 = .inl (gY G 14, 10, .inl (fun _ => 0)) := by rw [e5, va_up_ne _ _ (by omega)]; exact hc1
  replace hc2 : cs5 148 = .inl (gY G 14, 10, .inl (fun _ => 0)) := by rw [e5, va_up_ne _ _ (by omega)]; exact hc2
  have hc3 : cs5 149 = .inl (gY G 14, 10, .inl (fun _ => 0)) := by rw [e5]; exact va_up_self _ _ _
  replace hlo : ∀ n, n < 146 → cs5 n = cs n := fun n a => by rw [e5, va_up_ne _ _ (by omega)] <;> exact hlo n a
  clear e5
  refine ry_putF ff_X3_18 rfl (by omega) hc0 rfl rfl (nlt rfl) dX3_init_25 ?_
  refine ry_cs (fun cs6 e6 => ?_)
  replace hc1 : cs6 147 = .inl (gY G 14, 10, .inl (fun _ => 0)) := by rw [e6, va_up_ne _ _ (by omega)]; exact hc1
  replace hc2 : cs6 148 = .inl (gY G 14, 10, .inl (fun _ => 0)) := by rw [e6, va_up_ne _ _ (by omega)]; exact hc2
  replace hc3 : cs6 149 = .inl (gY G 14, 10, .inl (fun _ => 0)) := by rw [e6, va_up_ne _ _ (by omega)]; exact hc3
  replace hc0 : cs6 146 = .inr (3, [.null, .null, .int 0, .int 0, .ref (gA G 147), .ref (gA G 148), .ref (gA G 149), .null, .null, .null, .null, .int 0, .int 0, .null, .null, .null, .null, .int 0, .int 0, .int 0]) := by rw [e6]; exact va_up_self _ _ _
  replace hlo : ∀ n, n < 146 → cs6 n = cs n := fun n a => by rw [e6, va_up_ne _ _ (by omega)] <;> exact hlo n a
  clear e6
  refine ry_aload_n 0 dX3_init_28 rfl rfl ?_
  refine ry_bipush (v := 10) dX3_init_29 rfl ?_
  refine ry_newa (κ := 14) (n := 10) (atype := .int) (ty := .int) (t0 := 1) rfl wa_int rfl (fun _ _ => Iff.rfl) rfl (by decide) rfl (by decide) (Nat.le_of_ble_eq_true rfl) (Nat.le_of_ble_eq_true rfl) dX3_init_31 ?_
  refine ry_cs (fun cs7 e7 => ?_)
  replace hc0 : cs7 146 = .inr (3, [.null, .null, .int 0, .int 0, .ref (gA G 147), .ref (gA G 148), .ref (gA G 149), .null, .null, .null, .null, .int 0, .int 0, .null, .null, .null, .null, .int 0, .int 0, .int 0]) := by rw [e7, va_up_ne _ _ (by omega)]; exact hc0
  replace hc1 : cs7 147 = .inl (gY G 14, 10, .inl (fun _ => 0)) := by rw [e7, va_up_ne _ _ (by omega)]; exact hc1
  replace hc2 : cs7 148 = .inl (gY G 14, 10, .inl (fun _ => 0)) := by rw [e7, va_up_ne _ _ (by omega)]; exact hc2
  replace hc3 : cs7 149 = .inl (gY G 14, 10, .inl (fun _ => 0)) := by rw [e7, va_up_ne _ _ (by omega)]; exact hc3
  have hc4 : cs7 150 = .inl (gY G 14, 10, .inl (fun _ => 0)) := by rw [e7]; exact va_up_self _ _ _
  replace hlo : ∀ n, n < 146 → cs7 n = cs n := fun n a => by rw [e7, va_up_ne _ _ (by omega)] <;> exact hlo n a
  clear e7
  refine ry_putF ff_X3_21 rfl (by omega) hc0 rfl rfl (nlt rfl) dX3_init_33 ?_
  refine ry_cs (fun cs8 e8 => ?_)
  replace hc1 : cs8 147 = .inl (gY G 14, 10, .inl (fun _ => 0)) := by rw [e8, va_up_ne _ _ (by omega)]; exact hc1
  replace hc2 : cs8 148 = .inl (gY G 14, 10, .inl (fun _ => 0)) := by rw [e8, va_up_ne _ _ (by omega)]; exact hc2
  replace hc3 : cs8 149 = .inl (gY G 14, 10, .inl (fun _ => 0)) := by rw [e8, va_up_ne _ _ (by omega)]; exact hc3
  replace hc4 : cs8 150 = .inl (gY G 14, 10, .inl (fun _ => 0)) := by rw [e8, va_up_ne _ _ (by omega)]; exact hc4
  replace hc0 : cs8 146 = .inr (3, [.null, .null, .int 0, .int 0, .ref (gA G 147), .ref (gA G 148), .ref (gA G 149), .ref (gA G 150), .null, .null, .null, .int 0, .int 0, .null, .null, .null, .null, .int 0, .int 0, .int 0]) := by rw [e8]; exact va_up_self _ _ _
  replace hlo : ∀ n, n < 146 → cs8 n = cs n := fun n a => by rw [e8, va_up_ne _ _ (by omega)] <;> exact hlo n a
  clear e8
  refine ry_aload_n 0 dX3_init_36 rfl rfl ?_
  refine ry_bipush (v := 10) dX3_init_37 rfl ?_
  refine ry_newa (κ := 14) (n := 10) (atype := .int) (ty := .int) (t0 := 1) rfl wa_int rfl (fun _ _ => Iff.rfl) rfl (by decide) rfl (by decide) (Nat.le_of_ble_eq_true rfl) (Nat.le_of_ble_eq_true rfl) dX3_init_39 ?_
  refine ry_cs (fun cs9 e9 => ?_)
  replace hc0 : cs9 146 = .inr (3, [.null, .null, .int 0, .int 0, .ref (gA G 147), .ref (gA G 148), .ref (gA G 149), .ref (gA G 150), .null, .null, .null, .int 0, .int 0, .null, .null, .null, .null, .int 0, .int 0, .int 0]) := by rw [e9, va_up_ne _ _ (by omega)]; exact hc0
  replace hc1 : cs9 147 = .inl (gY G 14, 10, .inl (fun _ => 0)) := by rw [e9, va_up_ne _ _ (by omega)]; exact hc1
  replace hc2 : cs9 148 = .inl (gY G 14, 10, .inl (fun _ => 0)) := by rw [e9, va_up_ne _ _ (by omega)]; exact hc2
  replace hc3 : cs9 149 = .inl (gY G 14, 10, .inl (fun _ => 0)) := by rw [e9, va_up_ne _ _ (by omega)]; exact hc3
  replace hc4 : cs9 150 = .inl (gY G 14, 10, .inl (fun _ => 0)) := by rw [e9, va_up_ne _ _ (by omega)]; exact hc4
  have hc5 : cs9 151 = .inl (gY G 14, 10, .inl (fun _ => 0)) := by rw [e9]; exact va_up_self _ _ _
  replace hlo : ∀ n, n < 146 → cs9 n = cs n := fun n a => by rw [e9, va_up_ne _ _ (by omega)] <;> exact hlo n a
  clear e9
  refine ry_putF ff_X3_24 rfl (by omega) hc0 rfl rfl (nlt rfl) dX3_init_41 ?_
  refine ry_cs (fun cs10 e10 => ?_)
  replace hc1 : cs10 147 = .inl (gY G 14, 10, .inl (fun _ => 0)) := by rw [e10, va_up_ne _ _ (by omega)]; exact hc1
  replace hc2 : cs10 148 = .inl (gY G 14, 10, .inl (fun _ => 0)) := by rw [e10, va_up_ne _ _ (by omega)]; exact hc2
  replace hc3 : cs10 149 = .inl (gY G 14, 10, .inl (fun _ => 0)) := by rw [e10, va_up_ne _ _ (by omega)]; exact hc3
  replace hc4 : cs10 150 = .inl (gY G 14, 10, .inl (fun _ => 0)) := by rw [e10, va_up_ne _ _ (by omega)]; exact hc4
  replace hc5 : cs10 151 = .inl (gY G 14, 10, .inl (fun _ => 0)) := by rw [e10, va_up_ne _ _ (by omega)]; exact hc5
  replace hc0 : cs10 146 = .inr (3, [.null, .null, .int 0, .int 0, .ref (gA G 147), .ref (gA G 148), .ref (gA G 149), .ref (gA G 150), .ref (gA G 151), .null, .null, .int 0, .int 0, .null, .null, .null, .null, .int 0, .int 0, .int 0]) := by rw [e10]; exact va_up_self _ _ _
  replace hlo : ∀ n, n < 146 → cs10 n = cs n := fun n a => by rw [e10, va_up_ne _ _ (by omega)] <;> exact hlo n a
  clear e10
  refine ry_aload_n 0 dX3_init_44 rfl rfl ?_
  refine ry_iconst (v := 4) dX3_init_45 rfl ?_
  refine ry_newq (κ := 22) (n := 4) (t0 := 9) wc_X3_27 wo_10 rfl (by decide) rfl (ln_at_3_6) (by decide) (Nat.le_of_ble_eq_true rfl) (Nat.le_of_ble_eq_true rfl) dX3_init_46 ?_
  refine ry_cs (fun cs11 e11 => ?_)
  replace hc0 : cs11 146 = .inr (3, [.null, .null, .int 0, .int 0, .ref (gA G 147), .ref (gA G 148), .ref (gA G 149), .ref (gA G 150), .ref (gA G 151), .null, .null, .int 0, .int 0, .null, .null, .null, .null, .int 0, .int 0, .int 0]) := by rw [e11, va_up_ne _ _ (by omega)]; exact hc0
  replace hc1 : cs11 147 = .inl (gY G 14, 10, .inl (fun _ => 0)) := by rw [e11, va_up_ne _ _ (by omega)]; exact hc1
  replace hc2 : cs11 148 = .inl (gY G 14, 10, .inl (fun _ => 0)) := by rw [e11, va_up_ne _ _ (by omega)]; exact hc2
  replace hc3 : cs11 149 = .inl (gY G 14, 10, .inl (fun _ => 0)) := by rw [e11, va_up_ne _ _ (by omega)]; exact hc3
  replace hc4 : cs11 150 = .inl (gY G 14, 10, .inl (fun _ => 0)) := by rw [e11, va_up_ne _ _ (by omega)]; exact hc4
  replace hc5 : cs11 151 = .inl (gY G 14, 10, .inl (fun _ => 0)) := by rw [e11, va_up_ne _ _ (by omega)]; exact hc5
  have hc6 : cs11 152 = refI G 22 152 0 := by rw [e11]; exact va_up_self _ _ _
  replace hlo : ∀ n, n < 146 → cs11 n = cs n := fun n a => by rw [e11, va_up_ne _ _ (by omega)] <;> exact hlo n a
  clear e11
  refine ry_putF ff_X3_29 rfl (by omega) hc0 rfl rfl (nlt rfl) dX3_init_49 ?_
  refine ry_cs (fun cs12 e12 => ?_)
  replace hc1 : cs12 147 = .inl (gY G 14, 10, .inl (fun _ => 0)) := by rw [e12, va_up_ne _ _ (by omega)]; exact hc1
  replace hc2 : cs12 148 = .inl (gY G 14, 10, .inl (fun _ => 0)) := by rw [e12, va_up_ne _ _ (by omega)]; exact hc2
  replace hc3 : cs12 149 = .inl (gY G 14, 10, .inl (fun _ => 0)) := by rw [e12, va_up_ne _ _ (by omega)]; exact hc3
  replace hc4 : cs12 150 = .inl (gY G 14, 10, .inl (fun _ => 0)) := by rw [e12, va_up_ne _ _ (by omega)]; exact hc4
  replace hc5 : cs12 151 = .inl (gY G 14, 10, .inl (fun _ => 0)) := by rw [e12, va_up_ne _ _ (by omega)]; exact hc5
  replace hc6 : cs12 152 = refI G 22 152 0 := by rw [e12, va_up_ne _ _ (by omega)]; exact hc6
  replace hc0 : cs12 146 = .inr (3, [.null, .null, .int 0, .int 0, .ref (gA G 147), .ref (gA G 148), .ref (gA G 149), .ref (gA G 150), .ref (gA G 151), .ref (gA G 152), .null, .int 0, .int 0, .null, .null, .null, .null, .int 0, .int 0, .int 0]) := by rw [e12]; exact va_up_self _ _ _
  replace hlo : ∀ n, n < 146 → cs12 n = cs n := fun n a => by rw [e12, va_up_ne _ _ (by omega)] <;> exact hlo n a
  clear e12
  refine ry_aload_n 0 dX3_init_52 rfl rfl ?_
  refine ry_bipush (v := 30) dX3_init_53 rfl ?_
  refine ry_newq (κ := 17) (n := 30) (t0 := 4) wc_X3_33 wo_2 rfl (by decide) rfl (ln_at_3_7) (by decide) (Nat.le_of_ble_eq_true rfl) (Nat.le_of_ble_eq_true rfl) dX3_init_55 ?_
  refine ry_cs (fun cs13 e13 => ?_)
  replace hc0 : cs13 146 = .inr (3, [.null, .null, .int 0, .int 0, .ref (gA G 147), .ref (gA G 148), .ref (gA G 149), .ref (gA G 150), .ref (gA G 151), .ref (gA G 152), .null, .int 0, .int 0, .null, .null, .null, .null, .int 0, .int 0, .int 0]) := by rw [e13, va_up_ne _ _ (by omega)]; exact hc0
  replace hc1 : cs13 147 = .inl (gY G 14, 10, .inl (fun _ => 0)) := by rw [e13, va_up_ne _ _ (by omega)]; exact hc1
  replace hc2 : cs13 148 = .inl (gY G 14, 10, .inl (fun _ => 0)) := by rw [e13, va_up_ne _ _ (by omega)]; exact hc2
  replace hc3 : cs13 149 = .inl (gY G 14, 10, .inl (fun _ => 0)) := by rw [e13, va_up_ne _ _ (by omega)]; exact hc3
  replace hc4 : cs13 150 = .inl (gY G 14, 10, .inl (fun _ => 0)) := by rw [e13, va_up_ne _ _ (by omega)]; exact hc4
  replace hc5 : cs13 151 = .inl (gY G 14, 10, .inl (fun _ => 0)) := by rw [e13, va_up_ne _ _ (by omega)]; exact hc5
  replace hc6 : cs13 152 = refI G 22 152 0 := by rw [e13, va_up_ne _ _ (by omega)]; exact hc6
  have hc7 : cs13 153 = refI G 17 153 0 := by rw [e13]; exact va_up_self _ _ _
  replace hlo : ∀ n, n < 146 → cs13 n = cs n := fun n a => by rw [e13, va_up_ne _ _ (by omega)] <;> exact hlo n a
  clear e13
  refine ry_putF ff_X3_35 rfl (by omega) hc0 rfl rfl (nlt rfl) dX3_init_58 ?_
  refine ry_cs (fun cs14 e14 => ?_)
  replace hc1 : cs14 147 = .inl (gY G 14, 10, .inl (fun _ => 0)) := by rw [e14, va_up_ne _ _ (by omega)]; exact hc1
  replace hc2 : cs14 148 = .inl (gY G 14, 10, .inl (fun _ => 0)) := by rw [e14, va_up_ne _ _ (by omega)]; exact hc2
  replace hc3 : cs14 149 = .inl (gY G 14, 10, .inl (fun _ => 0)) := by rw [e14, va_up_ne _ _ (by omega)]; exact hc3
  replace hc4 : cs14 150 = .inl (gY G 14, 10, .inl (fun _ => 0)) := by rw [e14, va_up_ne _ _ (by omega)]; exact hc4
  replace hc5 : cs14 151 = .inl (gY G 14, 10, .inl (fun _ => 0)) := by rw [e14, va_up_ne _ _ (by omega)]; exact hc5
  replace hc6 : cs14 152 = refI G 22 152 0 := by rw [e14, va_up_ne _ _ (by omega)]; exact hc6
  replace hc7 : cs14 153 = refI G 17 153 0 := by rw [e14, va_up_ne _ _ (by omega)]; exact hc7
  replace hc0 : cs14 146 = .inr (3, [.null, .null, .int 0, .int 0, .ref (gA G 147), .ref (gA G 148), .ref (gA G 149), .ref (gA G 150), .ref (gA G 151), .ref (gA G 152), .ref (gA G 153), .int 0, .int 0, .null, .null, .null, .null, .int 0, .int 0, .int 0]) := by rw [e14]; exact va_up_self _ _ _
  replace hlo : ∀ n, n < 146 → cs14 n = cs n := fun n a => by rw [e14, va_up_ne _ _ (by omega)] <;> exact hlo n a
  clear e14
  refine ry_aload_n 0 dX3_init_61 rfl rfl ?_
  refine ry_bipush (v := 60) dX3_init_62 rfl ?_
  refine ry_newa (κ := 14) (n := 60) (atype := .int) (ty := .int) (t0 := 1) rfl wa_int rfl (fun _ _ => Iff.rfl) rfl (by decide) rfl (by decide) (Nat.le_of_ble_eq_true rfl) (Nat.le_of_ble_eq_true rfl) dX3_init_64 ?_
  refine ry_cs (fun cs15 e15 => ?_)
  replace hc0 : cs15 146 = .inr (3, [.null, .null, .int 0, .int 0, .ref (gA G 147), .ref (gA G 148), .ref (gA G 149), .ref (gA G 150), .ref (gA G 151), .ref (gA G 152), .ref (gA G 153), .int 0, .int 0, .null, .null, .null, .null, .int 0, .int 0, .int 0]) := by rw [e15, va_up_ne _ _ (by omega)]; exact hc0
  replace hc1 : cs15 147 = .inl (gY G 14, 10, .inl (fun _ => 0)) := by rw [e15, va_up_ne _ _ (by omega)]; exact hc1
  replace hc2 : cs15 148 = .inl (gY G 14, 10, .inl (fun _ => 0)) := by rw [e15, va_up_ne _ _ (by omega)]; exact hc2
  replace hc3 : cs15 149 = .inl (gY G 14, 10, .inl (fun _ => 0)) := by rw [e15, va_up_ne _ _ (by omega)]; exact hc3
  replace hc4 : cs15 150 = .inl (gY G 14, 10, .inl (fun _ => 0)) := by rw [e15, va_up_ne _ _ (by omega)]; exact hc4
  replace hc5 : cs15 151 = .inl (gY G 14, 10, .inl (fun _ => 0)) := by rw [e15, va_up_ne _ _ (by omega)]; exact hc5
  replace hc6 : cs15 152 = refI G 22 152 0 := by rw [e15, va_up_ne _ _ (by omega)]; exact hc6
  replace hc7 : cs15 153 = refI G 17 153 0 := by rw [e15, va_up_ne _ _ (by omega)]; exact hc7
  have hc8 : cs15 154 = .inl (gY G 14, 60, .inl (fun _ => 0)) := by rw [e15]; exact va_up_self _ _ _
  replace hlo : ∀ n, n < 146 → cs15 n = cs n := fun n a => by rw [e15, va_up_ne _ _ (by omega)] <;> exact hlo n a
  clear e15
  refine ry_putF ff_X3_39 rfl (by omega) hc0 rfl rfl (nlt rfl) dX3_init_66 ?_
  refine ry_cs (fun cs16 e16 => ?_)
  replace hc1 : cs16 147 = .inl (gY G 14, 10, .inl (fun _ => 0)) := by rw [e16, va_up_ne _ _ (by omega)]; exact hc1
  replace hc2 : cs16 148 = .inl (gY G 14, 10, .inl (fun _ => 0)) := by rw [e16, va_up_ne _ _ (by omega)]; exact hc2
  replace hc3 : cs16 149 = .inl (gY G 14, 10, .inl (fun _ => 0)) := by rw [e16, va_up_ne _ _ (by omega)]; exact hc3
  replace hc4 : cs16 150 = .inl (gY G 14, 10, .inl (fun _ => 0)) := by rw [e16, va_up_ne _ _ (by omega)]; exact hc4
  replace hc5 : cs16 151 = .inl (gY G 14, 10, .inl (fun _ => 0)) := by rw [e16, va_up_ne _ _ (by omega)]; exact hc5
  replace hc6 : cs16 152 = refI G 22 152 0 := by rw [e16, va_up_ne _ _ (by omega)]; exact hc6
  replace hc7 : cs16 153 = refI G 17 153 0 := by rw [e16, va_up_ne _ _ (by omega)]; exact hc7
  replace hc8 : cs16 154 = .inl (gY G 14, 60, .inl (fun _ => 0)) := by rw [e16, va_up_ne _ _ (by omega)]; exact hc8
  replace hc0 : cs16 146 = .inr (3, [.null, .null, .int 0, .int 0, .ref (gA G 147), .ref (gA G 148), .ref (gA G 149), .ref (gA G 150), .ref (gA G 151), .ref (gA G 152), .ref (gA G 153), .int 0, .int 0, .ref (gA G 154), .null, .null, .null, .int 0, .int 0, .int 0]) := by rw [e16]; exact va_up_self _ _ _
  replace hlo : ∀ n, n < 146 → cs16 n = cs n := fun n a => by rw [e16, va_up_ne _ _ (by omega)] <;> exact hlo n a
  clear e16
  refine ry_aload_n 0 dX3_init_69 rfl rfl ?_
  refine ry_bipush (v := 60) dX3_init_70 rfl ?_
  refine ry_newa (κ := 14) (n := 60) (atype := .int) (ty := .int) (t0 := 1) rfl wa_int rfl (fun _ _ => Iff.rfl) rfl (by decide) rfl (by decide) (Nat.le_of_ble_eq_true rfl) (Nat.le_of_ble_eq_true rfl) dX3_init_72 ?_
  refine ry_cs (fun cs17 e17 => ?_)
  replace hc0 : cs17 146 = .inr (3, [.null, .null, .int 0, .int 0, .ref (gA G 147), .ref (gA G 148), .ref (gA G 149), .ref (gA G 150), .ref (gA G 151), .ref (gA G 152), .ref (gA G 153), .int 0, .int 0, .ref (gA G 154), .null, .null, .null, .int 0, .int 0, .int 0]) := by rw [e17, va_up_ne _ _ (by omega)]; exact hc0
  replace hc1 : cs17 147 = .inl (gY G 14, 10, .inl (fun _ => 0)) := by rw [e17, va_up_ne _ _ (by omega)]; exact hc1
  replace hc2 : cs17 148 = .inl (gY G 14, 10, .inl (fun _ => 0)) := by rw [e17, va_up_ne _ _ (by omega)]; exact hc2
  replace hc3 : cs17 149 = .inl (gY G 14, 10, .inl (fun _ => 0)) := by rw [e17, va_up_ne _ _ (by omega)]; exact hc3
  replace hc4 : cs17 150 = .inl (gY G 14, 10, .inl (fun _ => 0)) := by rw [e17, va_up_ne _ _ (by omega)]; exact hc4
  replace hc5 : cs17 151 = .inl (gY G 14, 10, .inl (fun _ => 0)) := by rw [e17, va_up_ne _ _ (by omega)]; exact hc5
  replace hc6 : cs17 152 = refI G 22 152 0 := by rw [e17, va_up_ne _ _ (by omega)]; exact hc6
  replace hc7 : cs17 153 = refI G 17 153 0 := by rw [e17, va_up_ne _ _ (by omega)]; exact hc7
  replace hc8 : cs17 154 = .inl (gY G 14, 60, .inl (fun _ => 0)) := by rw [e17, va_up_ne _ _ (by omega)]; exact hc8
  have hc9 : cs17 155 = .inl (gY G 14, 60, .inl (fun _ => 0)) := by rw [e17]; exact va_up_self _ _ _
  replace hlo : ∀ n, n < 146 → cs17 n = cs n := fun n a => by rw [e17, va_up_ne _ _ (by omega)] <;> exact hlo n a
  clear e17
  refine ry_putF ff_X3_42 rfl (by omega) hc0 rfl rfl (nlt rfl) dX3_init_74 ?_
  refine ry_cs (fun cs18 e18 => ?_)
  replace hc1 : cs18 147 = .inl (gY G 14, 10, .inl (fun _ => 0)) := by rw [e18, va_up_ne _ _ (by omega)]; exact hc1
  replace hc2 : cs18 148 = .inl (gY G 14, 10, .inl (fun _ => 0)) := by rw [e18, va_up_ne _ _ (by omega)]; exact hc2
  replace hc3 : cs18 149 = .inl (gY G 14, 10, .inl (fun _ => 0)) := by rw [e18, va_up_ne _ _ (by omega)]; exact hc3
  replace hc4 : cs18 150 = .inl (gY G 14, 10, .inl (fun _ => 0)) := by rw [e18, va_up_ne _ _ (by omega)]; exact hc4
  replace hc5 : cs18 151 = .inl (gY G 14, 10, .inl (fun _ => 0)) := by rw [e18, va_up_ne _ _ (by omega)]; exact hc5
  replace hc6 : cs18 152 = refI G 22 152 0 := by rw [e18, va_up_ne _ _ (by omega)]; exact hc6
  replace hc7 : cs18 153 = refI G 17 153 0 := by rw [e18, va_up_ne _ _ (by omega)]; exact hc7
  replace hc8 : cs18 154 = .inl (gY G 14, 60, .inl (fun _ => 0)) := by rw [e18, va_up_ne _ _ (by omega)]; exact hc8
  replace hc9 : cs18 155 = .inl (gY G 14, 60, .inl (fun _ => 0)) := by rw [e18, va_up_ne _ _ (by omega)]; exact hc9
  replace hc0 : cs18 146 = .inr (3, [.null, .null, .int 0, .int 0, .ref (gA G 147), .ref (gA G 148), .ref (gA G 149), .ref (gA G 150), .ref (gA G 151), .ref (gA G 152), .ref (gA G 153), .int 0, .int 0, .ref (gA G 154), .ref (gA G 155), .null, .null, .int 0, .int 0, .int 0]) := by rw [e18]; exact va_up_self _ _ _
  replace hlo : ∀ n, n < 146 → cs18 n = cs n := fun n a => by rw [e18, va_up_ne _ _ (by omega)] <;> exact hlo n a
  clear e18
  refine ry_aload_n 0 dX3_init_77 rfl rfl ?_
  refine ry_bipush (v := 60) dX3_init_78 rfl ?_
  refine ry_newa (κ := 14) (n := 60) (atype := .int) (ty := .int) (t0 := 1) rfl wa_int rfl (fun _ _ => Iff.rfl) rfl (by decide) rfl (by decide) (Nat.le_of_ble_eq_true rfl) (Nat.le_of_ble_eq_true rfl) dX3_init_80 ?_
  refine ry_cs (fun cs19 e19 => ?_)
  replace hc0 : cs19 146 = .inr (3, [.null, .null, .int 0, .int 0, .ref (gA G 147), .ref (gA G 148), .ref (gA G 149), .ref (gA G 150), .ref (gA G 151), .ref (gA G 152), .ref (gA G 153), .int 0, .int 0, .ref (gA G 154), .ref (gA G 155), .null, .null, .int 0, .int 0, .int 0]) := by rw [e19, va_up_ne _ _ (by omega)]; exact hc0
  replace hc1 : cs19 147 = .inl (gY G 14, 10, .inl (fun _ => 0)) := by rw [e19, va_up_ne _ _ (by omega)]; exact hc1
  replace hc2 : cs19 148 = .inl (gY G 14, 10, .inl (fun _ => 0)) := by rw [e19, va_up_ne _ _ (by omega)]; exact hc2
  replace hc3 : cs19 149 = .inl (gY G 14, 10, .inl (fun _ => 0)) := by rw [e19, va_up_ne _ _ (by omega)]; exact hc3
  replace hc4 : cs19 150 = .inl (gY G 14, 10, .inl (fun _ => 0)) := by rw [e19, va_up_ne _ _ (by omega)]; exact hc4
  replace hc5 : cs19 151 = .inl (gY G 14, 10, .inl (fun _ => 0)) := by rw [e19, va_up_ne _ _ (by omega)]; exact hc5
  replace hc6 : cs19 152 = refI G 22 152 0 := by rw [e19, va_up_ne _ _ (by omega)]; exact hc6
  replace hc7 : cs19 153 = refI G 17 153 0 := by rw [e19, va_up_ne _ _ (by omega)]; exact hc7
  replace hc8 : cs19 154 = .inl (gY G 14, 60, .inl (fun _ => 0)) := by rw [e19, va_up_ne _ _ (by omega)]; exact hc8
  replace hc9 : cs19 155 = .inl (gY G 14, 60, .inl (fun _ => 0)) := by rw [e19, va_up_ne _ _ (by omega)]; exact hc9
  have hc10 : cs19 156 = .inl (gY G 14, 60, .inl (fun _ => 0)) := by rw [e19]; exact va_up_self _ _ _
  replace hlo : ∀ n, n < 146 → cs19 n = cs n := fun n a => by rw [e19, va_up_ne _ _ (by omega)] <;> exact hlo n a
  clear e19
  refine ry_putF ff_X3_45 rfl (by omega) hc0 rfl rfl (nlt rfl) dX3_init_82 ?_
  refine ry_cs (fun cs20 e20 => ?_)
  replace hc1 : cs20 147 = .inl (gY G 14, 10, .inl (fun _ => 0)) := by rw [e20, va_up_ne _ _ (by omega)]; exact hc1
  replace hc2 : cs20 148 = .inl (gY G 14, 10, .inl (fun _ => 0)) := by rw [e20, va_up_ne _ _ (by omega)]; exact hc2
  replace hc3 : cs20 149 = .inl (gY G 14, 10, .inl (fun _ => 0)) := by rw [e20, va_up_ne _ _ (by omega)]; exact hc3
  replace hc4 : cs20 150 = .inl (gY G 14, 10, .inl (fun _ => 0)) := by rw [e20, va_up_ne _ _ (by omega)]; exact hc4
  replace hc5 : cs20 151 = .inl (gY G 14, 10, .inl (fun _ => 0)) := by rw [e20, va_up_ne _ _ (by omega)]; exact hc5
  replace hc6 : cs20 152 = refI G 22 152 0 := by rw [e20, va_up_ne _ _ (by omega)]; exact hc6
  replace hc7 : cs20 153 = refI G 17 153 0 := by rw [e20, va_up_ne _ _ (by omega)]; exact hc7
  replace hc8 : cs20 154 = .inl (gY G 14, 60, .inl (fun _ => 0)) := by rw [e20, va_up_ne _ _ (by omega)]; exact hc8
  replace hc9 : cs20 155 = .inl (gY G 14, 60, .inl (fun _ => 0)) := by rw [e20, va_up_ne _ _ (by omega)]; exact hc9
  replace hc10 : cs20 156 = .inl (gY G 14, 60, .inl (fun _ => 0)) := by rw [e20, va_up_ne _ _ (by omega)]; exact hc10
  replace hc0 : cs20 146 = .inr (3, [.null, .null, .int 0, .int 0, .ref (gA G 147), .ref (gA G 148), .ref (gA G 149), .ref (gA G 150), .ref (gA G 151), .ref (gA G 152), .ref (gA G 153), .int 0, .int 0, .ref (gA G 154), .ref (gA G 155), .ref (gA G 156), .null, .int 0, .int 0, .int 0]) := by rw [e20]; exact va_up_self _ _ _
  replace hlo : ∀ n, n < 146 → cs20 n = cs n := fun n a => by rw [e20, va_up_ne _ _ (by omega)] <;> exact hlo n a
  clear e20
  refine ry_aload_n 0 dX3_init_85 rfl rfl ?_
  refine ry_bipush (v := 60) dX3_init_86 rfl ?_
  refine ry_newa (κ := 14) (n := 60) (atype := .int) (ty := .int) (t0 := 1) rfl wa_int rfl (fun _ _ => Iff.rfl) rfl (by decide) rfl (by decide) (Nat.le_of_ble_eq_true rfl) (Nat.le_of_ble_eq_true rfl) dX3_init_88 ?_
  refine ry_cs (fun cs21 e21 => ?_)
  replace hc0 : cs21 146 = .inr (3, [.null, .null, .int 0, .int 0, .ref (gA G 147), .ref (gA G 148), .ref (gA G 149), .ref (gA G 150), .ref (gA G 151), .ref (gA G 152), .ref (gA G 153), .int 0, .int 0, .ref (gA G 154), .ref (gA G 155), .ref (gA G 156), .null, .int 0, .int 0, .int 0]) := by rw [e21, va_up_ne _ _ (by omega)]; exact hc0
  replace hc1 : cs21 147 = .inl (gY G 14, 10, .inl (fun _ => 0)) := by rw [e21, va_up_ne _ _ (by omega)]; exact hc1
  replace hc2 : cs21 148 = .inl (gY G 14, 10, .inl (fun _ => 0)) := by rw [e21, va_up_ne _ _ (by omega)]; exact hc2
  replace hc3 : cs21 149 = .inl (gY G 14, 10, .inl (fun _ => 0)) := by rw [e21, va_up_ne _ _ (by omega)]; exact hc3
  replace hc4 : cs21 150 = .inl (gY G 14, 10, .inl (fun _ => 0)) := by rw [e21, va_up_ne _ _ (by omega)]; exact hc4
  replace hc5 : cs21 151 = .inl (gY G 14, 10, .inl (fun _ => 0)) := by rw [e21, va_up_ne _ _ (by omega)]; exact hc5
  replace hc6 : cs21 152 = refI G 22 152 0 := by rw [e21, va_up_ne _ _ (by omega)]; exact hc6
  replace hc7 : cs21 153 = refI G 17 153 0 := by rw [e21, va_up_ne _ _ (by omega)]; exact hc7
  replace hc8 : cs21 154 = .inl (gY G 14, 60, .inl (fun _ => 0)) := by rw [e21, va_up_ne _ _ (by omega)]; exact hc8
  replace hc9 : cs21 155 = .inl (gY G 14, 60, .inl (fun _ => 0)) := by rw [e21, va_up_ne _ _ (by omega)]; exact hc9
  replace hc10 : cs21 156 = .inl (gY G 14, 60, .inl (fun _ => 0)) := by rw [e21, va_up_ne _ _ (by omega)]; exact hc10
  have hc11 : cs21 157 = .inl (gY G 14, 60, .inl (fun _ => 0)) := by rw [e21]; exact va_up_self _ _ _
  replace hlo : ∀ n, n < 146 → cs21 n = cs n := fun n a => by rw [e21, va_up_ne _ _ (by omega)] <;> exact hlo n a
  clear e21
  refine ry_putF ff_X3_48 rfl (by omega) hc0 rfl rfl (nlt rfl) dX3_init_90 ?_
  refine ry_cs (fun cs22 e22 => ?_)
  replace hc1 : cs22 147 = .inl (gY G 14, 10, .inl (fun _ => 0)) := by rw [e22, va_up_ne _ _ (by omega)]; exact hc1
  replace hc2 : cs22 148 = .inl (gY G 14, 10, .inl (fun _ => 0)) := by rw [e22, va_up_ne _ _ (by omega)]; exact hc2
  replace hc3 : cs22 149 = .inl (gY G 14, 10, .inl (fun _ => 0)) := by rw [e22, va_up_ne _ _ (by omega)]; exact hc3
  replace hc4 : cs22 150 = .inl (gY G 14, 10, .inl (fun _ => 0)) := by rw [e22, va_up_ne _ _ (by omega)]; exact hc4
  replace hc5 : cs22 151 = .inl (gY G 14, 10, .inl (fun _ => 0)) := by rw [e22, va_up_ne _ _ (by omega)]; exact hc5
  replace hc6 : cs22 152 = refI G 22 152 0 := by rw [e22, va_up_ne _ _ (by omega)]; exact hc6
  replace hc7 : cs22 153 = refI G 17 153 0 := by rw [e22, va_up_ne _ _ (by omega)]; exact hc7
  replace hc8 : cs22 154 = .inl (gY G 14, 60, .inl (fun _ => 0)) := by rw [e22, va_up_ne _ _ (by omega)]; exact hc8
  replace hc9 : cs22 155 = .inl (gY G 14, 60, .inl (fun _ => 0)) := by rw [e22, va_up_ne _ _ (by omega)]; exact hc9
  replace hc10 : cs22 156 = .inl (gY G 14, 60, .inl (fun _ => 0)) := by rw [e22, va_up_ne _ _ (by omega)]; exact hc10
  replace hc11 : cs22 157 = .inl (gY G 14, 60, .inl (fun _ => 0)) := by rw [e22, va_up_ne _ _ (by omega)]; exact hc11
  replace hc0 : cs22 146 = .inr (3, [.null, .null, .int 0, .int 0, .ref (gA G 147), .ref (gA G 148), .ref (gA G 149), .ref (gA G 150), .ref (gA G 151), .ref (gA G 152), .ref (gA G 153), .int 0, .int 0, .ref (gA G 154), .ref (gA G 155), .ref (gA G 156), .ref (gA G 157), .int 0, .int 0, .int 0]) := by rw [e22]; exact va_up_self _ _ _
  replace hlo : ∀ n, n < 146 → cs22 n = cs n := fun n a => by rw [e22, va_up_ne _ _ (by omega)] <;> exact hlo n a
  clear e22
  refine ry_aload_n 0 dX3_init_93 rfl rfl ?_
  refine ry_aload_n 1 dX3_init_94 rfl rfl ?_
  refine ry_put fp_X3_51 (by omega) hc0 rfl rfl (nlt rfl) dX3_init_95 ?_
  refine ry_cs (fun cs23 e23 => ?_)
  replace hc1 : cs23 147 = .inl (gY G 14, 10, .inl (fun _ => 0)) := by rw [e23, va_up_ne _ _ (by omega)]; exact hc1
  replace hc2 : cs23 148 = .inl (gY G 14, 10, .inl (fun _ => 0)) := by rw [e23, va_up_ne _ _ (by omega)]; exact hc2
  replace hc3 : cs23 149 = .inl (gY G 14, 10, .inl (fun _ => 0)) := by rw [e23, va_up_ne _ _ (by omega)]; exact hc3
  replace hc4 : cs23 150 = .inl (gY G 14, 10, .inl (fun _ => 0)) := by rw [e23, va_up_ne _ _ (by omega)]; exact hc4
  replace hc5 : cs23 151 = .inl (gY G 14, 10, .inl (fun _ => 0)) := by rw [e23, va_up_ne _ _ (by omega)]; exact hc5
  replace hc6 : cs23 152 = refI G 22 152 0 := by rw [e23, va_up_ne _ _ (by omega)]; exact hc6
  replace hc7 : cs23 153 = refI G 17 153 0 := by rw [e23, va_up_ne _ _ (by omega)]; exact hc7
  replace hc8 : cs23 154 = .inl (gY G 14, 60, .inl (fun _ => 0)) := by rw [e23, va_up_ne _ _ (by omega)]; exact hc8
  replace hc9 : cs23 155 = .inl (gY G 14, 60, .inl (fun _ => 0)) := by rw [e23, va_up_ne _ _ (by omega)]; exact hc9
  replace hc10 : cs23 156 = .inl (gY G 14, 60, .inl (fun _ => 0)) := by rw [e23, va_up_ne _ _ (by omega)]; exact hc10
  replace hc11 : cs23 157 = .inl (gY G 14, 60, .inl (fun _ => 0)) := by rw [e23, va_up_ne _ _ (by omega)]; exact hc11
  replace hc0 : cs23 146 = .inr (3, [.ref (gA G 8), .null, .int 0, .int 0, .ref (gA G 147), .ref (gA G 148), .ref (gA G 149), .ref (gA G 150), .ref (gA G 151), .ref (gA G 152), .ref (gA G 153), .int 0, .int 0, .ref (gA G 154), .ref (gA G 155), .ref (gA G 156), .ref (gA G 157), .int 0, .int 0, .int 0]) := by rw [e23]; exact va_up_self _ _ _
  replace hlo : ∀ n, n < 146 → cs23 n = cs n := fun n a => by rw [e23, va_up_ne _ _ (by omega)] <;> exact hlo n a
  clear e23
  refine ry_aload_n 0 dX3_init_98 rfl rfl ?_
  refine ry_aload_n 2 dX3_init_99 rfl rfl ?_
  refine ry_put fp_X3_55 (by omega) hc0 rfl rfl (nlt rfl) dX3_init_100 ?_
  refine ry_cs (fun cs24 e24 => ?_)
  replace hc1 : cs24 147 = .inl (gY G 14, 10, .inl (fun _ => 0)) := by rw [e24, va_up_ne _ _ (by omega)]; exact hc1
  replace hc2 : cs24 148 = .inl (gY G 14, 10, .inl (fun _ => 0)) := by rw [e24, va_up_ne _ _ (by omega)]; exact hc2
  replace hc3 : cs24 149 = .inl (gY G 14, 10, .inl (fun _ => 0)) := by rw [e24, va_up_ne _ _ (by omega)]; exact hc3
  replace hc4 : cs24 150 = .inl (gY G 14, 10, .inl (fun _ => 0)) := by rw [e24, va_up_ne _ _ (by omega)]; exact hc4
  replace hc5 : cs24 151 = .inl (gY G 14, 10, .inl (fun _ => 0)) := by rw [e24, va_up_ne _ _ (by omega)]; exact hc5
  replace hc6 : cs24 152 = refI G 22 152 0 := by rw [e24, va_up_ne _ _ (by omega)]; exact hc6
  replace hc7 : cs24 153 = refI G 17 153 0 := by rw [e24, va_up_ne _ _ (by omega)]; exact hc7
  replace hc8 : cs24 154 = .inl (gY G 14, 60, .inl (fun _ => 0)) := by rw [e24, va_up_ne _ _ (by omega)]; exact hc8
  replace hc9 : cs24 155 = .inl (gY G 14, 60, .inl (fun _ => 0)) := by rw [e24, va_up_ne _ _ (by omega)]; exact hc9
  replace hc10 : cs24 156 = .inl (gY G 14, 60, .inl (fun _ => 0)) := by rw [e24, va_up_ne _ _ (by omega)]; exact hc10
  replace hc11 : cs24 157 = .inl (gY G 14, 60, .inl (fun _ => 0)) := by rw [e24, va_up_ne _ _ (by omega)]; exact hc11
  replace hc0 : cs24 146 = .inr (3, [.ref (gA G 8), .ref (gA G 10), .int 0, .int 0, .ref (gA G 147), .ref (gA G 148), .ref (gA G 149), .ref (gA G 150), .ref (gA G 151), .ref (gA G 152), .ref (gA G 153), .int 0, .int 0, .ref (gA G 154), .ref (gA G 155), .ref (gA G 156), .ref (gA G 157), .int 0, .int 0, .int 0]) := by rw [e24]; exact va_up_self _ _ _
  replace hlo : ∀ n, n < 146 → cs24 n = cs n := fun n a => by rw [e24, va_up_ne _ _ (by omega)] <;> exact hlo n a
  clear e24
  refine ry_iconst (v := 0) dX3_init_103 rfl ?_
  refine ry_istore_n [(0, .ref (gA G 146)), (1, .ref (gA G 8)), (2, .ref (gA G 10)), (3, .int 0)] [1, 2, 3, 0] dX3_init_104 rfl (by decide) rfl ?_
  refine ry_iload_n 3 dX3_init_105 rfl rfl ?_
  refine ry_iconst (v := 4) dX3_init_106 rfl ?_
  refine ry_icmp_ge 129 dX3_init_107 (by decide) (fun q => absurd q (by decide)) (fun _ => ?_)
  refine ry_aload_n 0 dX3_init_110 rfl rfl ?_
  refine ry_get fl_X3_29 (by omega) hc0 rfl dX3_init_111 ?_
  refine ry_iload_n 3 dX3_init_114 rfl rfl ?_
  refine ry_new (ci := 10) (fs := [.int 0, .int 0, .int 0, .int 0, .int 0, .int 0, .int 0, .int 0, .int 0, .null, .null, .null]) tyX10 tyX10_ok rfl i_X10 wc_X3_27 wi_10 wn_10 bl_10 (Nat.le_of_ble_eq_true rfl) (Nat.le_of_ble_eq_true rfl) dX3_init_115 ?_
  refine ry_cs (fun cs25 e25 => ?_)
  replace hc0 : cs25 146 = .inr (3, [.ref (gA G 8), .ref (gA G 10), .int 0, .int 0, .ref (gA G 147), .ref (gA G 148), .ref (gA G 149), .ref (gA G 150), .ref (gA G 151), .ref (gA G 152), .ref (gA G 153), .int 0, .int 0, .ref (gA G 154), .ref (gA G 155), .ref (gA G 156), .ref (gA G 157), .int 0, .int 0, .int 0]) := by rw [e25, va_up_ne _ _ (by omega)]; exact hc0
  replace hc1 : cs25 147 = .inl (gY G 14, 10, .inl (fun _ => 0)) := by rw [e25, va_up_ne _ _ (by omega)]; exact hc1
  replace hc2 : cs25 148 = .inl (gY G 14, 10, .inl (fun _ => 0)) := by rw [e25, va_up_ne _ _ (by omega)]; exact hc2
  replace hc3 : cs25 149 = .inl (gY G 14, 10, .inl (fun _ => 0)) := by rw [e25, va_up_ne _ _ (by omega)]; exact hc3
  replace hc4 : cs25 150 = .inl (gY G 14, 10, .inl (fun _ => 0)) := by rw [e25, va_up_ne _ _ (by omega)]; exact hc4
  replace hc5 : cs25 151 = .inl (gY G 14, 10, .inl (fun _ => 0)) := by rw [e25, va_up_ne _ _ (by omega)]; exact hc5
  replace hc6 : cs25 152 = refI G 22 152 0 := by rw [e25, va_up_ne _ _ (by omega)]; exact hc6
  replace hc7 : cs25 153 = refI G 17 153 0 := by rw [e25, va_up_ne _ _ (by omega)]; exact hc7
  replace hc8 : cs25 154 = .inl (gY G 14, 60, .inl (fun _ => 0)) := by rw [e25, va_up_ne _ _ (by omega)]; exact hc8
  replace hc9 : cs25 155 = .inl (gY G 14, 60, .inl (fun _ => 0)) := by rw [e25, va_up_ne _ _ (by omega)]; exact hc9
  replace hc10 : cs25 156 = .inl (gY G 14, 60, .inl (fun _ => 0)) := by rw [e25, va_up_ne _ _ (by omega)]; exact hc10
  replace hc11 : cs25 157 = .inl (gY G 14, 60, .inl (fun _ => 0)) := by rw [e25, va_up_ne _ _ (by omega)]; exact hc11
  have hc12 : cs25 158 = .inr (10, [.int 0, .int 0, .int 0, .int 0, .int 0, .int 0, .int 0, .int 0, .int 0, .null, .null, .null]) := by rw [e25]; exact va_up_self _ _ _
  replace hlo : ∀ n, n < 146 → cs25 n = cs n := fun n a => by rw [e25, va_up_ne _ _ (by omega)] <;> exact hlo n a
  clear e25
  refine ry_dup dX3_init_118 rfl ?_
  refine ry_callIN (As := []) (n := 158) (mc := 3) (ms := 30) (Kc G 158 4 _) (fun _ _ h => by have := h.1; omega) mw_X10_init rfl win_X10_init wm_X3_59 rfl ⟨show d + 1 + 1 ≤ d + 2 by omega, show 30 * (d + 1) + 30 ≤ 30 * (d + 2) by omega, (Nat.le_of_ble_eq_true rfl), (Nat.le_of_ble_eq_true rfl)⟩ (Nat.le_of_ble_eq_true rfl) dX3_init_119 (kX10_init G d (show Is 158 10 by unfold Is; decide +kernel) hc12) (fun cs26 hK => ?_) rfl
  obtain ⟨-, hK1, hK2⟩ := hK
  clear hc12
  replace hc0 : cs26 146 = .inr (3, [.ref (gA G 8), .ref (gA G 10), .int 0, .int 0, .ref (gA G 147), .ref (gA G 148), .ref (gA G 149), .ref (gA G 150), .ref (gA G 151), .ref (gA G 152), .ref (gA G 153), .int 0, .int 0, .ref (gA G 154), .ref (gA G 155), .ref (gA G 156), .ref (gA G 157), .int 0, .int 0, .int 0]) := (hK1 _ (by omega)).trans hc0
  replace hc1 : cs26 147 = .inl (gY G 14, 10, .inl (fun _ => 0)) := (hK1 _ (by omega)).trans hc1
  replace hc2 : cs26 148 = .inl (gY G 14, 10, .inl (fun _ => 0)) := (hK1 _ (by omega)).trans hc2
  replace hc3 : cs26 149 = .inl (gY G 14, 10, .inl (fun _ => 0)) := (hK1 _ (by omega)).trans hc3
  replace hc4 : cs26 150 = .inl (gY G 14, 10, .inl (fun _ => 0)) := (hK1 _ (by omega)).trans hc4
  replace hc5 : cs26 151 = .inl (gY G 14, 10, .inl (fun _ => 0)) := (hK1 _ (by omega)).trans hc5
  replace hc6 : cs26 152 = refI G 22 152 0 := (hK1 _ (by omega)).trans hc6
  replace hc7 : cs26 153 = refI G 17 153 0 := (hK1 _ (by omega)).trans hc7
  replace hc8 : cs26 154 = .inl (gY G 14, 60, .inl (fun _ => 0)) := (hK1 _ (by omega)).trans hc8
  replace hc9 : cs26 155 = .inl (gY G 14, 60, .inl (fun _ => 0)) := (hK1 _ (by omega)).trans hc9
  replace hc10 : cs26 156 = .inl (gY G 14, 60, .inl (fun _ => 0)) := (hK1 _ (by omega)).trans hc10
  replace hc11 : cs26 157 = .inl (gY G 14, 60, .inl (fun _ => 0)) := (hK1 _ (by omega)).trans hc11
  replace hlo : ∀ n, n < 146 → cs26 n = cs n := fun n a => (hK1 n (by omega)).trans (hlo n a)
  have hr12 : ∀ n, 158 ≤ n → n < 162 → cs26 n = finY G n := fun n a b => hK2 n (by omega) (by omega)
  clear hK1 hK2
  refine ry_aast (κ := 22) (κ' := 10) (t0 := 9) (L := 4) (n := 152) (v := 158) (i := 0) (by omega) (by omega) rfl rfl hc6 (ln_at_3_6) ((hr12 158 (by omega) (by omega)).trans (fyE_10 (show Is 158 10 by unfold Is; decide +kernel))) (by decide) rfl (by decide +kernel) dX3_init_122 ?_
  refine ry_cs (fun cs27 e27 => ?_)
  replace hc0 : cs27 146 = .inr (3, [.ref (gA G 8), .ref (gA G 10), .int 0, .int 0, .ref (gA G 147), .ref (gA G 148), .ref (gA G 149), .ref (gA G 150), .ref (gA G 151), .ref (gA G 152), .ref (gA G 153), .int 0, .int 0, .ref (gA G 154), .ref (gA G 155), .ref (gA G 156), .ref (gA G 157), .int 0, .int 0, .int 0]) := by rw [e27, va_up_ne _ _ (by omega)]; exact hc0
  replace hc1 : cs27 147 = .inl (gY G 14, 10, .inl (fun _ => 0)) := by rw [e27, va_up_ne _ _ (by omega)]; exact hc1
  replace hc2 : cs27 148 = .inl (gY G 14, 10, .inl (fun _ => 0)) := by rw [e27, va_up_ne _ _ (by omega)]; exact hc2
  replace hc3 : cs27 149 = .inl (gY G 14, 10, .inl (fun _ => 0)) := by rw [e27, va_up_ne _ _ (by omega)]; exact hc3
  replace hc4 : cs27 150 = .inl (gY G 14, 10, .inl (fun _ => 0)) := by rw [e27, va_up_ne _ _ (by omega)]; exact hc4
  replace hc5 : cs27 151 = .inl (gY G 14, 10, .inl (fun _ => 0)) := by rw [e27, va_up_ne _ _ (by omega)]; exact hc5
  replace hc7 : cs27 153 = refI G 17 153 0 := by rw [e27, va_up_ne _ _ (by omega)]; exact hc7
  replace hc8 : cs27 154 = .inl (gY G 14, 60, .inl (fun _ => 0)) := by rw [e27, va_up_ne _ _ (by omega)]; exact hc8
  replace hc9 : cs27 155 = .inl (gY G 14, 60, .inl (fun _ => 0)) := by rw [e27, va_up_ne _ _ (by omega)]; exact hc9
  replace hc10 : cs27 156 = .inl (gY G 14, 60, .inl (fun _ => 0)) := by rw [e27, va_up_ne _ _ (by omega)]; exact hc10
  replace hc11 : cs27 157 = .inl (gY G 14, 60, .inl (fun _ => 0)) := by rw [e27, va_up_ne _ _ (by omega)]; exact hc11
  replace hc6 : cs27 152 = refI G 22 152 1 := by rw [e27]; exact va_up_self _ _ _
  replace hr12 : ∀ n, 158 ≤ n → n < 162 → cs27 n = finY G n := fun n a b => by rw [e27, va_up_ne _ _ (by omega)]; exact hr12 n a b
  replace hlo : ∀ n, n < 146 → cs27 n = cs n := fun n a => by rw [e27, va_up_ne _ _ (by omega)] <;> exact hlo n a
  clear e27
  refine ry_iinc 3 [(0, .ref (gA G 146)), (1, .ref (gA G 8)), (2, .ref (gA G 10)), (3, .int 1)] [1, 2, 3, 0] dX3_init_123 rfl rfl (by decide) rfl ?_
  refine ry_goto 105 dX3_init_126 (by decide) ?_
  refine ry_iload_n 3 dX3_init_105 rfl rfl ?_
  refine ry_iconst (v := 4) dX3_init_106 rfl ?_
  refine ry_icmp_ge 129 dX3_init_107 (by decide) (fun q => absurd q (by decide)) (fun _ => ?_)
  refine ry_aload_n 0 dX3_init_110 rfl rfl ?_
  refine ry_get fl_X3_29 (by omega) hc0 rfl dX3_init_111 ?_
  refine ry_iload_n 3 dX3_init_114 rfl rfl ?_
  refine ry_new (ci := 10) (fs := [.int 0, .int 0, .int 0, .int 0, .int 0, .int 0, .int 0, .int 0, .int 0, .null, .null, .null]) tyX10 tyX10_ok rfl i_X10 wc_X3_27 wi_10 wn_10 bl_10 (Nat.le_of_ble_eq_true rfl) (Nat.le_of_ble_eq_true rfl) dX3_init_115 ?_
  refine ry_cs (fun cs28 e28 => ?_)
  replace hc0 : cs28 146 = .inr (3, [.ref (gA G 8), .ref (gA G 10), .int 0, .int 0, .ref (gA G 147), .ref (gA G 148), .ref (gA G 149), .ref (gA G 150), .ref (gA G 151), .ref (gA G 152), .ref (gA G 153), .int 0, .int 0, .ref (gA G 154), .ref (gA G 155), .ref (gA G 156), .ref (gA G 157), .int 0, .int 0, .int 0]) := by rw [e28, va_up_ne _ _ (by omega)]; exact hc0
  replace hc1 : cs28 147 = .inl (gY G 14, 10, .inl (fun _ => 0)) := by rw [e28, va_up_ne _ _ (by omega)]; exact hc1
  replace hc2 : cs28 148 = .inl (gY G 14, 10, .inl (fun _ => 0)) := by rw [e28, va_up_ne _ _ (by omega)]; exact hc2
  replace hc3 : cs28 149 = .inl (gY G 14, 10, .inl (fun _ => 0)) := by rw [e28, va_up_ne _ _ (by omega)]; exact hc3
  replace hc4 : cs28 150 = .inl (gY G 14, 10, .inl (fun _ => 0)) := by rw [e28, va_up_ne _ _ (by omega)]; exact hc4
  replace hc5 : cs28 151 = .inl (gY G 14, 10, .inl (fun _ => 0)) := by rw [e28, va_up_ne _ _ (by omega)]; exact hc5
  replace hc6 : cs28 152 = refI G 22 152 1 := by rw [e28, va_up_ne _ _ (by omega)]; exact hc6
  replace hc7 : cs28 153 = refI G 17 153 0 := by rw [e28, va_up_ne _ _ (by omega)]; exact hc7
  replace hc8 : cs28 154 = .inl (gY G 14, 60, .inl (fun _ => 0)) := by rw [e28, va_up_ne _ _ (by omega)]; exact hc8
  replace hc9 : cs28 155 = .inl (gY G 14, 60, .inl (fun _ => 0)) := by rw [e28, va_up_ne _ _ (by omega)]; exact hc9
  replace hc10 : cs28 156 = .inl (gY G 14, 60, .inl (fun _ => 0)) := by rw [e28, va_up_ne _ _ (by omega)]; exact hc10
  replace hc11 : cs28 157 = .inl (gY G 14, 60, .inl (fun _ => 0)) := by rw [e28, va_up_ne _ _ (by omega)]; exact hc11
  have hc16 : cs28 162 = .inr (10, [.int 0, .int 0, .int 0, .int 0, .int 0, .int 0, .int 0, .int 0, .int 0, .null, .null, .null]) := by rw [e28]; exact va_up_self _ _ _
  replace hr12 : ∀ n, 158 ≤ n → n < 162 → cs28 n = finY G n := fun n a b => by rw [e28, va_up_ne _ _ (by omega)]; exact hr12 n a b
  replace hlo : ∀ n, n < 146 → cs28 n = cs n := fun n a => by rw [e28, va_up_ne _ _ (by omega)] <;> exact hlo n a
  clear e28
  refine ry_dup dX3_init_118 rfl ?_
  refine ry_callIN (As := []) (n := 162) (mc := 3) (ms := 30) (Kc G 162 4 _) (fun _ _ h => by have := h.1; omega) mw_X10_init rfl win_X10_init wm_X3_59 rfl ⟨show d + 1 + 1 ≤ d + 2 by omega, show 30 * (d + 1) + 30 ≤ 30 * (d + 2) by omega, (Nat.le_of_ble_eq_true rfl), (Nat.le_of_ble_eq_true rfl)⟩ (Nat.le_of_ble_eq_true rfl) dX3_init_119 (kX10_init G d (show Is 162 10 by unfold Is; decide +kernel) hc16) (fun cs29 hK => ?_) rfl
  obtain ⟨-, hK1, hK2⟩ := hK
  clear hc16
  replace hc0 : cs29 146 = .inr (3, [.ref (gA G 8), .ref (gA G 10), .int 0, .int 0, .ref (gA G 147), .ref (gA G 148), .ref (gA G 149), .ref (gA G 150), .ref (gA G 151), .ref (gA G 152), .ref (gA G 153), .int 0, .int 0, .ref (gA G 154), .ref (gA G 155), .ref (gA G 156), .ref (gA G 157), .int 0, .int 0, .int 0]) := (hK1 _ (by omega)).trans hc0
  replace hc1 : cs29 147 = .inl (gY G 14, 10, .inl (fun _ => 0)) := (hK1 _ (by omega)).trans hc1
  replace hc2 : cs29 148 = .inl (gY G 14, 10, .inl (fun _ => 0)) := (hK1 _ (by omega)).trans hc2
  replace hc3 : cs29 149 = .inl (gY G 14, 10, .inl (fun _ => 0)) := (hK1 _ (by omega)).trans hc3
  replace hc4 : cs29 150 = .inl (gY G 14, 10, .inl (fun _ => 0)) := (hK1 _ (by omega)).trans hc4
  replace hc5 : cs29 151 = .inl (gY G 14, 10, .inl (fun _ => 0)) := (hK1 _ (by omega)).trans hc5
  replace hc6 : cs29 152 = refI G 22 152 1 := (hK1 _ (by omega)).trans hc6
  replace hc7 : cs29 153 = refI G 17 153 0 := (hK1 _ (by omega)).trans hc7
  replace hc8 : cs29 154 = .inl (gY G 14, 60, .inl (fun _ => 0)) := (hK1 _ (by omega)).trans hc8
  replace hc9 : cs29 155 = .inl (gY G 14, 60, .inl (fun _ => 0)) := (hK1 _ (by omega)).trans hc9
  replace hc10 : cs29 156 = .inl (gY G 14, 60, .inl (fun _ => 0)) := (hK1 _ (by omega)).trans hc10
  replace hc11 : cs29 157 = .inl (gY G 14, 60, .inl (fun _ => 0)) := (hK1 _ (by omega)).trans hc11
  replace hr12 : ∀ n, 158 ≤ n → n < 162 → cs29 n = finY G n := fun n a b => (hK1 n (by omega)).trans (hr12 n a b)
  replace hlo : ∀ n, n < 146 → cs29 n = cs n := fun n a => (hK1 n (by omega)).trans (hlo n a)
  replace hr12 : ∀ n, 158 ≤ n → n < 166 → cs29 n = finY G n := fun n a b => if h : n < 162 then hr12 n a h else hK2 n (by omega) (by omega)
  clear hK1 hK2
  refine ry_aast (κ := 22) (κ' := 10) (t0 := 9) (L := 4) (n := 152) (v := 162) (i := 1) (by omega) (by omega) rfl rfl hc6 (ln_at_3_6) ((hr12 162 (by omega) (by omega)).trans (fyE_10 (show Is 162 10 by unfold Is; decide +kernel))) (by decide) rfl (by decide +kernel) dX3_init_122 ?_
  refine ry_cs (fun cs30 e30 => ?_)
  replace hc0 : cs30 146 = .inr (3, [.ref (gA G 8), .ref (gA G 10), .int 0, .int 0, .ref (gA G 147), .ref (gA G 148), .ref (gA G 149), .ref (gA G 150), .ref (gA G 151), .ref (gA G 152), .ref (gA G 153), .int 0, .int 0, .ref (gA G 154), .ref (gA G 155), .ref (gA G 156), .ref (gA G 157), .int 0, .int 0, .int 0]) := by rw [e30, va_up_ne _ _ (by omega)]; exact hc0
  replace hc1 : cs30 147 = .inl (gY G 14, 10, .inl (fun _ => 0)) := by rw [e30, va_up_ne _ _ (by omega)]; exact hc1
  replace hc2 : cs30 148 = .inl (gY G 14, 10, .inl (fun _ => 0)) := by rw [e30, va_up_ne _ _ (by omega)]; exact hc2
  replace hc3 : cs30 149 = .inl (gY G 14, 10, .inl (fun _ => 0)) := by rw [e30, va_up_ne _ _ (by omega)]; exact hc3
  replace hc4 : cs30 150 = .inl (gY G 14, 10, .inl (fun _ => 0)) := by rw [e30, va_up_ne _ _ (by omega)]; exact hc4
  replace hc5 : cs30 151 = .inl (gY G 14, 10, .inl (fun _ => 0)) := by rw [e30, va_up_ne _ _ (by omega)]; exact hc5
  replace hc7 : cs30 153 = refI G 17 153 0 := by rw [e30, va_up_ne _ _ (by omega)]; exact hc7
  replace hc8 : cs30 154 = .inl (gY G 14, 60, .inl (fun _ => 0)) := by rw [e30, va_up_ne _ _ (by omega)]; exact hc8
  replace hc9 : cs30 155 = .inl (gY G 14, 60, .inl (fun _ => 0)) := by rw [e30, va_up_ne _ _ (by omega)]; exact hc9
  replace hc10 : cs30 156 = .inl (gY G 14, 60, .inl (fun _ => 0)) := by rw [e30, va_up_ne _ _ (by omega)]; exact hc10
  replace hc11 : cs30 157 = .inl (gY G 14, 60, .inl (fun _ => 0)) := by rw [e30, va_up_ne _ _ (by omega)]; exact hc11
  replace hc6 : cs30 152 = refI G 22 152 2 := by rw [e30]; exact va_up_self _ _ _
  replace hr12 : ∀ n, 158 ≤ n → n < 166 → cs30 n = finY G n := fun n a b => by rw [e30, va_up_ne _ _ (by omega)]; exact hr12 n a b
  replace hlo : ∀ n, n < 146 → cs30 n = cs n := fun n a => by rw [e30, va_up_ne _ _ (by omega)] <;> exact hlo n a
  clear e30
  refine ry_iinc 3 [(0, .ref (gA G 146)), (1, .ref (gA G 8)), (2, .ref (gA G 10)), (3, .int 2)] [1, 2, 3, 0] dX3_init_123 rfl rfl (by decide) rfl ?_
  refine ry_goto 105 dX3_init_126 (by decide) ?_
  refine ry_iload_n 3 dX3_init_105 rfl rfl ?_
  refine ry_iconst (v := 4) dX3_init_106 rfl ?_
  refine ry_icmp_ge 129 dX3_init_107 (by decide) (fun q => absurd q (by decide)) (fun _ => ?_)
  refine ry_aload_n 0 dX3_init_110 rfl rfl ?_
  refine ry_get fl_X3_29 (by omega) hc0 rfl dX3_init_111 ?_
  refine ry_iload_n 3 dX3_init_114 rfl rfl ?_
  refine ry_new (ci := 10) (fs := [.int 0, .int 0, .int 0, .int 0, .int 0, .int 0, .int 0, .int 0, .int 0, .null, .null, .null]) tyX10 tyX10_ok rfl i_X10 wc_X3_27 wi_10 wn_10 bl_10 (Nat.le_of_ble_eq_true rfl) (Nat.le_of_ble_eq_true rfl) dX3_init_115 ?_
  refine ry_cs (fun cs31 e31 => ?_)
  replace hc0 : cs31 146 = .inr (3, [.ref (gA G 8), .ref (gA G 10), .int 0, .int 0, .ref (gA G 147), .ref (gA G 148), .ref (gA G 149), .ref (gA G 150), .ref (gA G 151), .ref (gA G 152), .ref (gA G 153), .int 0, .int 0, .ref (gA G 154), .ref (gA G 155), .ref (gA G 156), .ref (gA G 157), .int 0, .int 0, .int 0]) := by rw [e31, va_up_ne _ _ (by omega)]; exact hc0
  replace hc1 : cs31 147 = .inl (gY G 14, 10, .inl (fun _ => 0)) := by rw [e31, va_up_ne _ _ (by omega)]; exact hc1
  replace hc2 : cs31 148 = .inl (gY G 14, 10, .inl (fun _ => 0)) := by rw [e31, va_up_ne _ _ (by omega)]; exact hc2
  replace hc3 : cs31 149 = .inl (gY G 14, 10, .inl (fun _ => 0)) := by rw [e31, va_up_ne _ _ (by omega)]; exact hc3
  replace hc4 : cs31 150 = .inl (gY G 14, 10, .inl (fun _ => 0)) := by rw [e31, va_up_ne _ _ (by omega)]; exact hc4
  replace hc5 : cs31 151 = .inl (gY G 14, 10, .inl (fun _ => 0)) := by rw [e31, va_up_ne _ _ (by omega)]; exact hc5
  replace hc6 : cs31 152 = refI G 22 152 2 := by rw [e31, va_up_ne _ _ (by omega)]; exact hc6
  replace hc7 : cs31 153 = refI G 17 153 0 := by rw [e31, va_up_ne _ _ (by omega)]; exact hc7
  replace hc8 : cs31 154 = .inl (gY G 14, 60, .inl (fun _ => 0)) := by rw [e31, va_up_ne _ _ (by omega)]; exact hc8
  replace hc9 : cs31 155 = .inl (gY G 14, 60, .inl (fun _ => 0)) := by rw [e31, va_up_ne _ _ (by omega)]; exact hc9
  replace hc10 : cs31 156 = .inl (gY G 14, 60, .inl (fun _ => 0)) := by rw [e31, va_up_ne _ _ (by omega)]; exact hc10
  replace hc11 : cs31 157 = .inl (gY G 14, 60, .inl (fun _ => 0)) := by rw [e31, va_up_ne _ _ (by omega)]; exact hc11
  have hc20 : cs31 166 = .inr (10, [.int 0, .int 0, .int 0, .int 0, .int 0, .int 0, .int 0, .int 0, .int 0, .null, .null, .null]) := by rw [e31]; exact va_up_self _ _ _
  replace hr12 : ∀ n, 158 ≤ n → n < 166 → cs31 n = finY G n := fun n a b => by rw [e31, va_up_ne _ _ (by omega)]; exact hr12 n a b
  replace hlo : ∀ n, n < 146 → cs31 n = cs n := fun n a => by rw [e31, va_up_ne _ _ (by omega)] <;> exact hlo n a
  clear e31
  refine ry_dup dX3_init_118 rfl ?_
  refine ry_callIN (As := []) (n := 166) (mc := 3) (ms := 30) (Kc G 166 4 _) (fun _ _ h => by have := h.1; omega) mw_X10_init rfl win_X10_init wm_X3_59 rfl ⟨show d + 1 + 1 ≤ d + 2 by omega, show 30 * (d + 1) + 30 ≤ 30 * (d + 2) by omega, (Nat.le_of_ble_eq_true rfl), (Nat.le_of_ble_eq_true rfl)⟩ (Nat.le_of_ble_eq_true rfl) dX3_init_119 (kX10_init G d (show Is 166 10 by unfold Is; decide +kernel) hc20) (fun cs32 hK => ?_) rfl
  obtain ⟨-, hK1, hK2⟩ := hK
  clear hc20
  replace hc0 : cs32 146 = .inr (3, [.ref (gA G 8), .ref (gA G 10), .int 0, .int 0, .ref (gA G 147), .ref (gA G 148), .ref (gA G 149), .ref (gA G 150), .ref (gA G 151), .ref (gA G 152), .ref (gA G 153), .int 0, .int 0, .ref (gA G 154), .ref (gA G 155), .ref (gA G 156), .ref (gA G 157), .int 0, .int 0, .int 0]) := (hK1 _ (by omega)).trans hc0
  replace hc1 : cs32 147 = .inl (gY G 14, 10, .inl (fun _ => 0)) := (hK1 _ (by omega)).trans hc1
  replace hc2 : cs32 148 = .inl (gY G 14, 10, .inl (fun _ => 0)) := (hK1 _ (by omega)).trans hc2
  replace hc3 : cs32 149 = .inl (gY G 14, 10, .inl (fun _ => 0)) := (hK1 _ (by omega)).trans hc3
  replace hc4 : cs32 150 = .inl (gY G 14, 10, .inl (fun _ => 0)) := (hK1 _ (by omega)).trans hc4
  replace hc5 : cs32 151 = .inl (gY G 14, 10, .inl (fun _ => 0)) := (hK1 _ (by omega)).trans hc5
  replace hc6 : cs32 152 = refI G 22 152 2 := (hK1 _ (by omega)).trans hc6
  replace hc7 : cs32 153 = refI G 17 153 0 := (hK1 _ (by omega)).trans hc7
  replace hc8 : cs32 154 = .inl (gY G 14, 60, .inl (fun _ => 0)) := (hK1 _ (by omega)).trans hc8
  replace hc9 : cs32 155 = .inl (gY G 14, 60, .inl (fun _ => 0)) := (hK1 _ (by omega)).trans hc9
  replace hc10 : cs32 156 = .inl (gY G 14, 60, .inl (fun _ => 0)) := (hK1 _ (by omega)).trans hc10
  replace hc11 : cs32 157 = .inl (gY G 14, 60, .inl (fun _ => 0)) := (hK1 _ (by omega)).trans hc11
  replace hr12 : ∀ n, 158 ≤ n → n < 166 → cs32 n = finY G n := fun n a b => (hK1 n (by omega)).trans (hr12 n a b)
  replace hlo : ∀ n, n < 146 → cs32 n = cs n := fun n a => (hK1 n (by omega)).trans (hlo n a)
  replace hr12 : ∀ n, 158 ≤ n → n < 170 → cs32 n = finY G n := fun n a b => if h : n < 166 then hr12 n a h else hK2 n (by omega) (by omega)
  clear hK1 hK2
  refine ry_aast (κ := 22) (κ' := 10) (t0 := 9) (L := 4) (n := 152) (v := 166) (i := 2) (by omega) (by omega) rfl rfl hc6 (ln_at_3_6) ((hr12 166 (by omega) (by omega)).trans (fyE_10 (show Is 166 10 by unfold Is; decide +kernel))) (by decide) rfl (by decide +kernel) dX3_init_122 ?_
  refine ry_cs (fun cs33 e33 => ?_)
  replace hc0 : cs33 146 = .inr (3, [.ref (gA G 8), .ref (gA G 10), .int 0, .int 0, .ref (gA G 147), .ref (gA G 148), .ref (gA G 149), .ref (gA G 150), .ref (gA G 151), .ref (gA G 152), .ref (gA G 153), .int 0, .int 0, .ref (gA G 154), .ref (gA G 155), .ref (gA G 156), .ref (gA G 157), .int 0, .int 0, .int 0]) := by rw [e33, va_up_ne _ _ (by omega)]; exact hc0
  replace hc1 : cs33 147 = .inl (gY G 14, 10, .inl (fun _ => 0)) := by rw [e33, va_up_ne _ _ (by omega)]; exact hc1
  replace hc2 : cs33 148 = .inl (gY G 14, 10, .inl (fun _ => 0)) := by rw [e33, va_up_ne _ _ (by omega)]; exact hc2
  replace hc3 : cs33 149 = .inl (gY G 14, 10, .inl (fun _ => 0)) := by rw [e33, va_up_ne _ _ (by omega)]; exact hc3
  replace hc4 : cs33 150 = .inl (gY G 14, 10, .inl (fun _ => 0)) := by rw [e33, va_up_ne _ _ (by omega)]; exact hc4
  replace hc5 : cs33 151 = .inl (gY G 14, 10, .inl (fun _ => 0)) := by rw [e33, va_up_ne _ _ (by omega)]; exact hc5
  replace hc7 : cs33 153 = refI G 17 153 0 := by rw [e33, va_up_ne _ _ (by omega)]; exact hc7
  replace hc8 : cs33 154 = .inl (gY G 14, 60, .inl (fun _ => 0)) := by rw [e33, va_up_ne _ _ (by omega)]; exact hc8
  replace hc9 : cs33 155 = .inl (gY G 14, 60, .inl (fun _ => 0)) := by rw [e33, va_up_ne _ _ (by omega)]; exact hc9
  replace hc10 : cs33 156 = .inl (gY G 14, 60, .inl (fun _ => 0)) := by rw [e33, va_up_ne _ _ (by omega)]; exact hc10
  replace hc11 : cs33 157 = .inl (gY G 14, 60, .inl (fun _ => 0)) := by rw [e33, va_up_ne _ _ (by omega)]; exact hc11
  replace hc6 : cs33 152 = refI G 22 152 3 := by rw [e33]; exact va_up_self _ _ _
  replace hr12 : ∀ n, 158 ≤ n → n < 170 → cs33 n = finY G n := fun n a b => by rw [e33, va_up_ne _ _ (by omega)]; exact hr12 n a b
  replace hlo : ∀ n, n < 146 → cs33 n = cs n := fun n a => by rw [e33, va_up_ne _ _ (by omega)] <;> exact hlo n a
  clear e33
  refine ry_iinc 3 [(0, .ref (gA G 146)), (1, .ref (gA G 8)), (2, .ref (gA G 10)), (3, .int 3)] [1, 2, 3, 0] dX3_init_123 rfl rfl (by decide) rfl ?_
  refine ry_goto 105 dX3_init_126 (by decide) ?_
  refine ry_iload_n 3 dX3_init_105 rfl rfl ?_
  refine ry_iconst (v := 4) dX3_init_106 rfl ?_
  refine ry_icmp_ge 129 dX3_init_107 (by decide) (fun q => absurd q (by decide)) (fun _ => ?_)
  refine ry_aload_n 0 dX3_init_110 rfl rfl ?_
  refine ry_get fl_X3_29 (by omega) hc0 rfl dX3_init_111 ?_
  refine ry_iload_n 3 dX3_init_114 rfl rfl ?_
  refine ry_new (ci := 10) (fs := [.int 0, .int 0, .int 0, .int 0, .int 0, .int 0, .int 0, .int 0, .int 0, .null, .null, .null]) tyX10 tyX10_ok rfl i_X10 wc_X3_27 wi_10 wn_10 bl_10 (Nat.le_of_ble_eq_true rfl) (Nat.le_of_ble_eq_true rfl) dX3_init_115 ?_
  refine ry_cs (fun cs34 e34 => ?_)
  replace hc0 : cs34 146 = .inr (3, [.ref (gA G 8), .ref (gA G 10), .int 0, .int 0, .ref (gA G 147), .ref (gA G 148), .ref (gA G 149), .ref (gA G 150), .ref (gA G 151), .ref (gA G 152), .ref (gA G 153), .int 0, .int 0, .ref (gA G 154), .ref (gA G 155), .ref (gA G 156), .ref (gA G 157), .int 0, .int 0, .int 0]) := by rw [e34, va_up_ne _ _ (by omega)]; exact hc0
  replace hc1 : cs34 147 = .inl (gY G 14, 10, .inl (fun _ => 0)) := by rw [e34, va_up_ne _ _ (by omega)]; exact hc1
  replace hc2 : cs34 148 = .inl (gY G 14, 10, .inl (fun _ => 0)) := by rw [e34, va_up_ne _ _ (by omega)]; exact hc2
  replace hc3 : cs34 149 = .inl (gY G 14, 10, .inl (fun _ => 0)) := by rw [e34, va_up_ne _ _ (by omega)]; exact hc3
  replace hc4 : cs34 150 = .inl (gY G 14, 10, .inl (fun _ => 0)) := by rw [e34, va_up_ne _ _ (by omega)]; exact hc4
  replace hc5 : cs34 151 = .inl (gY G 14, 10, .inl (fun _ => 0)) := by rw [e34, va_up_ne _ _ (by omega)]; exact hc5
  replace hc6 : cs34 152 = refI G 22 152 3 := by rw [e34, va_up_ne _ _ (by omega)]; exact hc6
  replace hc7 : cs34 153 = refI G 17 153 0 := by rw [e34, va_up_ne _ _ (by omega)]; exact hc7
  replace hc8 : cs34 154 = .inl (gY G 14, 60, .inl (fun _ => 0)) := by rw [e34, va_up_ne _ _ (by omega)]; exact hc8
  replace hc9 : cs34 155 = .inl (gY G 14, 60, .inl (fun _ => 0)) := by rw [e34, va_up_ne _ _ (by omega)]; exact hc9
  replace hc10 : cs34 156 = .inl (gY G 14, 60, .inl (fun _ => 0)) := by rw [e34, va_up_ne _ _ (by omega)]; exact hc10
  replace hc11 : cs34 157 = .inl (gY G 14, 60, .inl (fun _ => 0)) := by rw [e34, va_up_ne _ _ (by omega)]; exact hc11
  have hc24 : cs34 170 = .inr (10, [.int 0, .int 0, .int 0, .int 0, .int 0, .int 0, .int 0, .int 0, .int 0, .null, .null, .null]) := by rw [e34]; exact va_up_self _ _ _
  replace hr12 : ∀ n, 158 ≤ n → n < 170 → cs34 n = finY G n := fun n a b => by rw [e34, va_up_ne _ _ (by omega)]; exact hr12 n a b
  replace hlo : ∀ n, n < 146 → cs34 n = cs n := fun n a => by rw [e34, va_up_ne _ _ (by omega)] <;> exact hlo n a
  clear e34
  refine ry_dup dX3_init_118 rfl ?_
  refine ry_callIN (As := []) (n := 170) (mc := 3) (ms := 30) (Kc G 170 4 _) (fun _ _ h => by have := h.1; omega) mw_X10_init rfl win_X10_init wm_X3_59 rfl ⟨show d + 1 + 1 ≤ d + 2 by omega, show 30 * (d + 1) + 30 ≤ 30 * (d + 2) by omega, (Nat.le_of_ble_eq_true rfl), (Nat.le_of_ble_eq_true rfl)⟩ (Nat.le_of_ble_eq_true rfl) dX3_init_119 (kX10_init G d (show Is 170 10 by unfold Is; decide +kernel) hc24) (fun cs35 hK => ?_) rfl
  obtain ⟨-, hK1, hK2⟩ := hK
  clear hc24
  replace hc0 : cs35 146 = .inr (3, [.ref (gA G 8), .ref (gA G 10), .int 0, .int 0, .ref (gA G 147), .ref (gA G 148), .ref (gA G 149), .ref (gA G 150), .ref (gA G 151), .ref (gA G 152), .ref (gA G 153), .int 0, .int 0, .ref (gA G 154), .ref (gA G 155), .ref (gA G 156), .ref (gA G 157), .int 0, .int 0, .int 0]) := (hK1 _ (by omega)).trans hc0
  replace hc1 : cs35 147 = .inl (gY G 14, 10, .inl (fun _ => 0)) := (hK1 _ (by omega)).trans hc1
  replace hc2 : cs35 148 = .inl (gY G 14, 10, .inl (fun _ => 0)) := (hK1 _ (by omega)).trans hc2
  replace hc3 : cs35 149 = .inl (gY G 14, 10, .inl (fun _ => 0)) := (hK1 _ (by omega)).trans hc3
  replace hc4 : cs35 150 = .inl (gY G 14, 10, .inl (fun _ => 0)) := (hK1 _ (by omega)).trans hc4
  replace hc5 : cs35 151 = .inl (gY G 14, 10, .inl (fun _ => 0)) := (hK1 _ (by omega)).trans hc5
  replace hc6 : cs35 152 = refI G 22 152 3 := (hK1 _ (by omega)).trans hc6
  replace hc7 : cs35 153 = refI G 17 153 0 := (hK1 _ (by omega)).trans hc7
  replace hc8 : cs35 154 = .inl (gY G 14, 60, .inl (fun _ => 0)) := (hK1 _ (by omega)).trans hc8
  replace hc9 : cs35 155 = .inl (gY G 14, 60, .inl (fun _ => 0)) := (hK1 _ (by omega)).trans hc9
  replace hc10 : cs35 156 = .inl (gY G 14, 60, .inl (fun _ => 0)) := (hK1 _ (by omega)).trans hc10
  replace hc11 : cs35 157 = .inl (gY G 14, 60, .inl (fun _ => 0)) := (hK1 _ (by omega)).trans hc11
  replace hr12 : ∀ n, 158 ≤ n → n < 170 → cs35 n = finY G n := fun n a b => (hK1 n (by omega)).trans (hr12 n a b)
  replace hlo : ∀ n, n < 146 → cs35 n = cs n := fun n a => (hK1 n (by omega)).trans (hlo n a)
  replace hr12 : ∀ n, 158 ≤ n → n < 174 → cs35 n = finY G n := fun n a b => if h : n < 170 then hr12 n a h else hK2 n (by omega) (by omega)
  clear hK1 hK2
  refine ry_aast (κ := 22) (κ' := 10) (t0 := 9) (L := 4) (n := 152) (v := 170) (i := 3) (by omega) (by omega) rfl rfl hc6 (ln_at_3_6) ((hr12 170 (by omega) (by omega)).trans (fyE_10 (show Is 170 10 by unfold Is; decide +kernel))) (by decide) rfl (by decide +kernel) dX3_init_122 ?_
  refine ry_cs (fun cs36 e36 => ?_)
  replace hc0 : cs36 146 = .inr (3, [.ref (gA G 8), .ref (gA G 10), .int 0, .int 0, .ref (gA G 147), .ref (gA G 148), .ref (gA G 149), .ref (gA G 150), .ref (gA G 151), .ref (gA G 152), .ref (gA G 153), .int 0, .int 0, .ref (gA G 154), .ref (gA G 155), .ref (gA G 156), .ref (gA G 157), .int 0, .int 0, .int 0]) := by rw [e36, va_up_ne _ _ (by omega)]; exact hc0
  replace hc1 : cs36 147 = .inl (gY G 14, 10, .inl (fun _ => 0)) := by rw [e36, va_up_ne _ _ (by omega)]; exact hc1
  replace hc2 : cs36 148 = .inl (gY G 14, 10, .inl (fun _ => 0)) := by rw [e36, va_up_ne _ _ (by omega)]; exact hc2
  replace hc3 : cs36 149 = .inl (gY G 14, 10, .inl (fun _ => 0)) := by rw [e36, va_up_ne _ _ (by omega)]; exact hc3
  replace hc4 : cs36 150 = .inl (gY G 14, 10, .inl (fun _ => 0)) := by rw [e36, va_up_ne _ _ (by omega)]; exact hc4
  replace hc5 : cs36 151 = .inl (gY G 14, 10, .inl (fun _ => 0)) := by rw [e36, va_up_ne _ _ (by omega)]; exact hc5
  replace hc7 : cs36 153 = refI G 17 153 0 := by rw [e36, va_up_ne _ _ (by omega)]; exact hc7
  replace hc8 : cs36 154 = .inl (gY G 14, 60, .inl (fun _ => 0)) := by rw [e36, va_up_ne _ _ (by omega)]; exact hc8
  replace hc9 : cs36 155 = .inl (gY G 14, 60, .inl (fun _ => 0)) := by rw [e36, va_up_ne _ _ (by omega)]; exact hc9
  replace hc10 : cs36 156 = .inl (gY G 14, 60, .inl (fun _ => 0)) := by rw [e36, va_up_ne _ _ (by omega)]; exact hc10
  replace hc11 : cs36 157 = .inl (gY G 14, 60, .inl (fun _ => 0)) := by rw [e36, va_up_ne _ _ (by omega)]; exact hc11
  replace hc6 : cs36 152 = refI G 22 152 4 := by rw [e36]; exact va_up_self _ _ _
  replace hr12 : ∀ n, 158 ≤ n → n < 174 → cs36 n = finY G n := fun n a b => by rw [e36, va_up_ne _ _ (by omega)]; exact hr12 n a b
  replace hlo : ∀ n, n < 146 → cs36 n = cs n := fun n a => by rw [e36, va_up_ne _ _ (by omega)] <;> exact hlo n a
  clear e36
  refine ry_iinc 3 [(0, .ref (gA G 146)), (1, .ref (gA G 8)), (2, .ref (gA G 10)), (3, .int 4)] [1, 2, 3, 0] dX3_init_123 rfl rfl (by decide) rfl ?_
  refine ry_goto 105 dX3_init_126 (by decide) ?_
  refine ry_iload_n 3 dX3_init_105 rfl rfl ?_
  refine ry_iconst (v := 4) dX3_init_106 rfl ?_
  refine ry_icmp_ge 129 dX3_init_107 (by decide) (fun _ => ?_) (fun q => absurd (by decide) q)
  refine ry_iconst (v := 0) dX3_init_129 rfl ?_
  refine ry_istore_n [(0, .ref (gA G 146)), (1, .ref (gA G 8)), (2, .ref (gA G 10)), (3, .int 0)] [1, 2, 3, 0] dX3_init_130 rfl (by decide) rfl ?_
  refine ry_iload_n 3 dX3_init_131 rfl rfl ?_
  refine ry_bipush (v := 30) dX3_init_132 rfl ?_
  refine ry_icmp_ge 156 dX3_init_134 (by decide) (fun q => absurd q (by decide)) (fun _ => ?_)
  refine ry_aload_n 0 dX3_init_137 rfl rfl ?_
  refine ry_get fl_X3_35 (by omega) hc0 rfl dX3_init_138 ?_
  refine ry_iload_n 3 dX3_init_141 rfl rfl ?_
  refine ry_new (ci := 2) (fs := [.int 0, .int 0, .int 0, .int 0, .int 0, .int 0, .int 0, .int 0, .int 0, .int 0, .null]) tyX2 tyX2_ok rfl i_X2 wc_X3_33 wi_2 wn_2 bl_2 (Nat.le_of_ble_eq_true rfl) (Nat.le_of_ble_eq_true rfl) dX3_init_142 ?_
  refine ry_cs (fun cs37 e37 => ?_)
  replace hc0 : cs37 146 = .inr (3, [.ref (gA G 8), .ref (gA G 10), .int 0, .int 0, .ref (gA G 147), .ref (gA G 148), .ref (gA G 149), .ref (gA G 150), .ref (gA G 151), .ref (gA G 152), .ref (gA G 153), .int 0, .int 0, .ref (gA G 154), .ref (gA G 155), .ref (gA G 156), .ref (gA G 157), .int 0, .int 0, .int 0]) := by rw [e37, va_up_ne _ _ (by omega)]; exact hc0
  replace hc1 : cs37 147 = .inl (gY G 14, 10, .inl (fun _ => 0)) := by rw [e37, va_up_ne _ _ (by omega)]; exact hc1
  replace hc2 : cs37 148 = .inl (gY G 14, 10, .inl (fun _ => 0)) := by rw [e37, va_up_ne _ _ (by omega)]; exact hc2
  replace hc3 : cs37 149 = .inl (gY G 14, 10, .inl (fun _ => 0)) := by rw [e37, va_up_ne _ _ (by omega)]; exact hc3
  replace hc4 : cs37 150 = .inl (gY G 14, 10, .inl (fun _ => 0)) := by rw [e37, va_up_ne _ _ (by omega)]; exact hc4
  replace hc5 : cs37 151 = .inl (gY G 14, 10, .inl (fun _ => 0)) := by rw [e37, va_up_ne _ _ (by omega)]; exact hc5
  replace hc6 : cs37 152 = refI G 22 152 4 := by rw [e37, va_up_ne _ _ (by omega)]; exact hc6
  replace hc7 : cs37 153 = refI G 17 153 0 := by rw [e37, va_up_ne _ _ (by omega)]; exact hc7
  replace hc8 : cs37 154 = .inl (gY G 14, 60, .inl (fun _ => 0)) := by rw [e37, va_up_ne _ _ (by omega)]; exact hc8
  replace hc9 : cs37 155 = .inl (gY G 14, 60, .inl (fun _ => 0)) := by rw [e37, va_up_ne _ _ (by omega)]; exact hc9
  replace hc10 : cs37 156 = .inl (gY G 14, 60, .inl (fun _ => 0)) := by rw [e37, va_up_ne _ _ (by omega)]; exact hc10
  replace hc11 : cs37 157 = .inl (gY G 14, 60, .inl (fun _ => 0)) := by rw [e37, va_up_ne _ _ (by omega)]; exact hc11
  have hc28 : cs37 174 = .inr (2, [.int 0, .int 0, .int 0, .int 0, .int 0, .int 0, .int 0, .int 0, .int 0, .int 0, .null]) := by rw [e37]; exact va_up_self _ _ _
  replace hr12 : ∀ n, 158 ≤ n → n < 174 → cs37 n = finY G n := fun n a b => by rw [e37, va_up_ne _ _ (by omega)]; exact hr12 n a b
  replace hlo : ∀ n, n < 146 → cs37 n = cs n := fun n a => by rw [e37, va_up_ne _ _ (by omega)] <;> exact hlo n a
  clear e37
  refine ry_dup dX3_init_145 rfl ?_
  refine ry_callIN (As := []) (n := 174) (mc := 1) (ms := 10) (Kc G 174 2 _) (fun _ _ h => by have := h.1; omega) mw_X2_init rfl win_X2_init wm_X3_60 rfl ⟨show d + 1 + 1 ≤ d + 2 by omega, show 30 * (d + 1) + 30 ≤ 30 * (d + 2) by omega, (Nat.le_of_ble_eq_true rfl), (Nat.le_of_ble_eq_true rfl)⟩ (Nat.le_of_ble_eq_true rfl) dX3_init_146 (kX2_init G d (show Is 174 2 by unfold Is; decide +kernel) hc28) (fun cs38 hK => ?_) rfl
  obtain ⟨-, hK1, hK2⟩ := hK
  clear hc28
  replace hc0 : cs38 146 = .inr (3, [.ref (gA G 8), .ref (gA G 10), .int 0, .int 0, .ref (gA G 147), .ref (gA G 148), .ref (gA G 149), .ref (gA G 150), .ref (gA G 151), .ref (gA G 152), .ref (gA G 153), .int 0, .int 0, .ref (gA G 154), .ref (gA G 155), .ref (gA G 156), .ref (gA G 157), .int 0, .int 0, .int 0]) := (hK1 _ (by omega)).trans hc0
  replace hc1 : cs38 147 = .inl (gY G 14, 10, .inl (fun _ => 0)) := (hK1 _ (by omega)).trans hc1
  replace hc2 : cs38 148 = .inl (gY G 14, 10, .inl (fun _ => 0)) := (hK1 _ (by omega)).trans hc2
  replace hc3 : cs38 149 = .inl (gY G 14, 10, .inl (fun _ => 0)) := (hK1 _ (by omega)).trans hc3
  replace hc4 : cs38 150 = .inl (gY G 14, 10, .inl (fun _ => 0)) := (hK1 _ (by omega)).trans hc4
  replace hc5 : cs38 151 = .inl (gY G 14, 10, .inl (fun _ => 0)) := (hK1 _ (by omega)).trans hc5
  replace hc6 : cs38 152 = refI G 22 152 4 := (hK1 _ (by omega)).trans hc6
  replace hc7 : cs38 153 = refI G 17 153 0 := (hK1 _ (by omega)).trans hc7
  replace hc8 : cs38 154 = .inl (gY G 14, 60, .inl (fun _ => 0)) := (hK1 _ (by omega)).trans hc8
  replace hc9 : cs38 155 = .inl (gY G 14, 60, .inl (fun _ => 0)) := (hK1 _ (by omega)).trans hc9
  replace hc10 : cs38 156 = .inl (gY G 14, 60, .inl (fun _ => 0)) := (hK1 _ (by omega)).trans hc10
  replace hc11 : cs38 157 = .inl (gY G 14, 60, .inl (fun _ => 0)) := (hK1 _ (by omega)).trans hc11
  replace hr12 : ∀ n, 158 ≤ n → n < 174 → cs38 n = finY G n := fun n a b => (hK1 n (by omega)).trans (hr12 n a b)
  replace hlo : ∀ n, n < 146 → cs38 n = cs n := fun n a => (hK1 n (by omega)).trans (hlo n a)
  replace hr12 : ∀ n, 158 ≤ n → n < 176 → cs38 n = finY G n := fun n a b => if h : n < 174 then hr12 n a h else hK2 n (by omega) (by omega)
  clear hK1 hK2
  refine ry_aast (κ := 17) (κ' := 2) (t0 := 4) (L := 30) (n := 153) (v := 174) (i := 0) (by omega) (by omega) rfl rfl hc7 (ln_at_3_7) ((hr12 174 (by omega) (by omega)).trans (fyE_2 (show Is 174 2 by unfold Is; decide +kernel))) (by decide) rfl (by decide +kernel) dX3_init_149 ?_
  refine ry_cs (fun cs39 e39 => ?_)
  replace hc0 : cs39 146 = .inr (3, [.ref (gA G 8), .ref (gA G 10), .int 0, .int 0, .ref (gA G 147), .ref (gA G 148), .ref (gA G 149), .ref (gA G 150), .ref (gA G 151), .ref (gA G 152), .ref (gA G 153), .int 0, .int 0, .ref (gA G 154), .ref (gA G 155), .ref (gA G 156), .ref (gA G 157), .int 0, .int 0, .int 0]) := by rw [e39, va_up_ne _ _ (by omega)]; exact hc0
  replace hc1 : cs39 147 = .inl (gY G 14, 10, .inl (fun _ => 0)) := by rw [e39, va_up_ne _ _ (by omega)]; exact hc1
  replace hc2 : cs39 148 = .inl (gY G 14, 10, .inl (fun _ => 0)) := by rw [e39, va_up_ne _ _ (by omega)]; exact hc2
  replace hc3 : cs39 149 = .inl (gY G 14, 10, .inl (fun _ => 0)) := by rw [e39, va_up_ne _ _ (by omega)]; exact hc3
  replace hc4 : cs39 150 = .inl (gY G 14, 10, .inl (fun _ => 0)) := by rw [e39, va_up_ne _ _ (by omega)]; exact hc4
  replace hc5 : cs39 151 = .inl (gY G 14, 10, .inl (fun _ => 0)) := by rw [e39, va_up_ne _ _ (by omega)]; exact hc5
  replace hc6 : cs39 152 = refI G 22 152 4 := by rw [e39, va_up_ne _ _ (by omega)]; exact hc6
  replace hc8 : cs39 154 = .inl (gY G 14, 60, .inl (fun _ => 0)) := by rw [e39, va_up_ne _ _ (by omega)]; exact hc8
  replace hc9 : cs39 155 = .inl (gY G 14, 60, .inl (fun _ => 0)) := by rw [e39, va_up_ne _ _ (by omega)]; exact hc9
  replace hc10 : cs39 156 = .inl (gY G 14, 60, .inl (fun _ => 0)) := by rw [e39, va_up_ne _ _ (by omega)]; exact hc10
  replace hc11 : cs39 157 = .inl (gY G 14, 60, .inl (fun _ => 0)) := by rw [e39, va_up_ne _ _ (by omega)]; exact hc11
  replace hc7 : cs39 153 = refI G 17 153 1 := by rw [e39]; exact va_up_self _ _ _
  replace hr12 : ∀ n, 158 ≤ n → n < 176 → cs39 n = finY G n := fun n a b => by rw [e39, va_up_ne _ _ (by omega)]; exact hr12 n a b
  replace hlo : ∀ n, n < 146 → cs39 n = cs n := fun n a => by rw [e39, va_up_ne _ _ (by omega)] <;> exact hlo n a
  clear e39
  refine ry_iinc 3 [(0, .ref (gA G 146)), (1, .ref (gA G 8)), (2, .ref (gA G 10)), (3, .int 1)] [1, 2, 3, 0] dX3_init_150 rfl rfl (by decide) rfl ?_
  refine ry_goto 131 dX3_init_153 (by decide) ?_
  refine ry_iload_n 3 dX3_init_131 rfl rfl ?_
  refine ry_bipush (v := 30) dX3_init_132 rfl ?_
  refine ry_icmp_ge 156 dX3_init_134 (by decide) (fun q => absurd q (by decide)) (fun _ => ?_)
  refine ry_aload_n 0 dX3_init_137 rfl rfl ?_
  refine ry_get fl_X3_35 (by omega) hc0 rfl dX3_init_138 ?_
  refine ry_iload_n 3 dX3_init_141 rfl rfl ?_
  refine ry_new (ci := 2) (fs := [.int 0, .int 0, .int 0, .int 0, .int 0, .int 0, .int 0, .int 0, .int 0, .int 0, .null]) tyX2 tyX2_ok rfl i_X2 wc_X3_33 wi_2 wn_2 bl_2 (Nat.le_of_ble_eq_true rfl) (Nat.le_of_ble_eq_true rfl) dX3_init_142 ?_
  refine ry_cs (fun cs40 e40 => ?_)
  replace hc0 : cs40 146 = .inr (3, [.ref (gA G 8), .ref (gA G 10), .int 0, .int 0, .ref (gA G 147), .ref (gA G 148), .ref (gA G 149), .ref (gA G 150), .ref (gA G 151), .ref (gA G 152), .ref (gA G 153), .int 0, .int 0, .ref (gA G 154), .ref (gA G 155), .ref (gA G 156), .ref (gA G 157), .int 0, .int 0, .int 0]) := by rw [e40, va_up_ne _ _ (by omega)]; exact hc0
  replace hc1 : cs40 147 = .inl (gY G 14, 10, .inl (fun _ => 0)) := by rw [e40, va_up_ne _ _ (by omega)]; exact hc1
  replace hc2 : cs40 148 = .inl (gY G 14, 10, .inl (fun _ => 0)) := by rw [e40, va_up_ne _ _ (by omega)]; exact hc2
  replace hc3 : cs40 149 = .inl (gY G 14, 10, .inl (fun _ => 0)) := by rw [e40, va_up_ne _ _ (by omega)]; exact hc3
  replace hc4 : cs40 150 = .inl (gY G 14, 10, .inl (fun _ => 0)) := by rw [e40, va_up_ne _ _ (by omega)]; exact hc4
  replace hc5 : cs40 151 = .inl (gY G 14, 10, .inl (fun _ => 0)) := by rw [e40, va_up_ne _ _ (by omega)]; exact hc5
  replace hc6 : cs40 152 = refI G 22 152 4 := by rw [e40, va_up_ne _ _ (by omega)]; exact hc6
  replace hc7 : cs40 153 = refI G 17 153 1 := by rw [e40, va_up_ne _ _ (by omega)]; exact hc7
  replace hc8 : cs40 154 = .inl (gY G 14, 60, .inl (fun _ => 0)) := by rw [e40, va_up_ne _ _ (by omega)]; exact hc8
  replace hc9 : cs40 155 = .inl (gY G 14, 60, .inl (fun _ => 0)) := by rw [e40, va_up_ne _ _ (by omega)]; exact hc9
  replace hc10 : cs40 156 = .inl (gY G 14, 60, .inl (fun _ => 0)) := by rw [e40, va_up_ne _ _ (by omega)]; exact hc10
  replace hc11 : cs40 157 = .inl (gY G 14, 60, .inl (fun _ => 0)) := by rw [e40, va_up_ne _ _ (by omega)]; exact hc11
  have hc30 : cs40 176 = .inr (2, [.int 0, .int 0, .int 0, .int 0, .int 0, .int 0, .int 0, .int 0, .int 0, .int 0, .null]) := by rw [e40]; exact va_up_self _ _ _
  replace hr12 : ∀ n, 158 ≤ n → n < 176 → cs40 n = finY G n := fun n a b => by rw [e40, va_up_ne _ _ (by omega)]; exact hr12 n a b
  replace hlo : ∀ n, n < 146 → cs40 n = cs n := fun n a => by rw [e40, va_up_ne _ _ (by omega)] <;> exact hlo n a
  clear e40
  refine ry_dup dX3_init_145 rfl ?_
  refine ry_callIN (As := []) (n := 176) (mc := 1) (ms := 10) (Kc G 176 2 _) (fun _ _ h => by have := h.1; omega) mw_X2_init rfl win_X2_init wm_X3_60 rfl ⟨show d + 1 + 1 ≤ d + 2 by omega, show 30 * (d + 1) + 30 ≤ 30 * (d + 2) by omega, (Nat.le_of_ble_eq_true rfl), (Nat.le_of_ble_eq_true rfl)⟩ (Nat.le_of_ble_eq_true rfl) dX3_init_146 (kX2_init G d (show Is 176 2 by unfold Is; decide +kernel) hc30) (fun cs41 hK => ?_) rfl
  obtain ⟨-, hK1, hK2⟩ := hK
  clear hc30
  replace hc0 : cs41 146 = .inr (3, [.ref (gA G 8), .ref (gA G 10), .int 0, .int 0, .ref (gA G 147), .ref (gA G 148), .ref (gA G 149), .ref (gA G 150), .ref (gA G 151), .ref (gA G 152), .ref (gA G 153), .int 0, .int 0, .ref (gA G 154), .ref (gA G 155), .ref (gA G 156), .ref (gA G 157), .int 0, .int 0, .int 0]) := (hK1 _ (by omega)).trans hc0
  replace hc1 : cs41 147 = .inl (gY G 14, 10, .inl (fun _ => 0)) := (hK1 _ (by omega)).trans hc1
  replace hc2 : cs41 148 = .inl (gY G 14, 10, .inl (fun _ => 0)) := (hK1 _ (by omega)).trans hc2
  replace hc3 : cs41 149 = .inl (gY G 14, 10, .inl (fun _ => 0)) := (hK1 _ (by omega)).trans hc3
  replace hc4 : cs41 150 = .inl (gY G 14, 10, .inl (fun _ => 0)) := (hK1 _ (by omega)).trans hc4
  replace hc5 : cs41 151 = .inl (gY G 14, 10, .inl (fun _ => 0)) := (hK1 _ (by omega)).trans hc5
  replace hc6 : cs41 152 = refI G 22 152 4 := (hK1 _ (by omega)).trans hc6
  replace hc7 : cs41 153 = refI G 17 153 1 := (hK1 _ (by omega)).trans hc7
  replace hc8 : cs41 154 = .inl (gY G 14, 60, .inl (fun _ => 0)) := (hK1 _ (by omega)).trans hc8
  replace hc9 : cs41 155 = .inl (gY G 14, 60, .inl (fun _ => 0)) := (hK1 _ (by omega)).trans hc9
  replace hc10 : cs41 156 = .inl (gY G 14, 60, .inl (fun _ => 0)) := (hK1 _ (by omega)).trans hc10
  replace hc11 : cs41 157 = .inl (gY G 14, 60, .inl (fun _ => 0)) := (hK1 _ (by omega)).trans hc11
  replace hr12 : ∀ n, 158 ≤ n → n < 176 → cs41 n = finY G n := fun n a b => (hK1 n (by omega)).trans (hr12 n a b)
  replace hlo : ∀ n, n < 146 → cs41 n = cs n := fun n a => (hK1 n (by omega)).trans (hlo n a)
  replace hr12 : ∀ n, 158 ≤ n → n < 178 → cs41 n = finY G n := fun n a b => if h : n < 176 then hr12 n a h else hK2 n (by omega) (by omega)
  clear hK1 hK2
  refine ry_aast (κ := 17) (κ' := 2) (t0 := 4) (L := 30) (n := 153) (v := 176) (i := 1) (by omega) (by omega) rfl rfl hc7 (ln_at_3_7) ((hr12 176 (by omega) (by omega)).trans (fyE_2 (show Is 176 2 by unfold Is; decide +kernel))) (by decide) rfl (by decide +kernel) dX3_init_149 ?_
  refine ry_cs (fun cs42 e42 => ?_)
  replace hc0 : cs42 146 = .inr (3, [.ref (gA G 8), .ref (gA G 10), .int 0, .int 0, .ref (gA G 147), .ref (gA G 148), .ref (gA G 149), .ref (gA G 150), .ref (gA G 151), .ref (gA G 152), .ref (gA G 153), .int 0, .int 0, .ref (gA G 154), .ref (gA G 155), .ref (gA G 156), .ref (gA G 157), .int 0, .int 0, .int 0]) := by rw [e42, va_up_ne _ _ (by omega)]; exact hc0
  replace hc1 : cs42 147 = .inl (gY G 14, 10, .inl (fun _ => 0)) := by rw [e42, va_up_ne _ _ (by omega)]; exact hc1
  replace hc2 : cs42 148 = .inl (gY G 14, 10, .inl (fun _ => 0)) := by rw [e42, va_up_ne _ _ (by omega)]; exact hc2
  replace hc3 : cs42 149 = .inl (gY G 14, 10, .inl (fun _ => 0)) := by rw [e42, va_up_ne _ _ (by omega)]; exact hc3
  replace hc4 : cs42 150 = .inl (gY G 14, 10, .inl (fun _ => 0)) := by rw [e42, va_up_ne _ _ (by omega)]; exact hc4
  replace hc5 : cs42 151 = .inl (gY G 14, 10, .inl (fun _ => 0)) := by rw [e42, va_up_ne _ _ (by omega)]; exact hc5
  replace hc6 : cs42 152 = refI G 22 152 4 := by rw [e42, va_up_ne _ _ (by omega)]; exact hc6
  replace hc8 : cs42 154 = .inl (gY G 14, 60, .inl (fun _ => 0)) := by rw [e42, va_up_ne _ _ (by omega)]; exact hc8
  replace hc9 : cs42 155 = .inl (gY G 14, 60, .inl (fun _ => 0)) := by rw [e42, va_up_ne _ _ (by omega)]; exact hc9
  replace hc10 : cs42 156 = .inl (gY G 14, 60, .inl (fun _ => 0)) := by rw [e42, va_up_ne _ _ (by omega)]; exact hc10
  replace hc11 : cs42 157 = .inl (gY G 14, 60, .inl (fun _ => 0)) := by rw [e42, va_up_ne _ _ (by omega)]; exact hc11
  replace hc7 : cs42 153 = refI G 17 153 2 := by rw [e42]; exact va_up_self _ _ _
  replace hr12 : ∀ n, 158 ≤ n → n < 178 → cs42 n = finY G n := fun n a b => by rw [e42, va_up_ne _ _ (by omega)]; exact hr12 n a b
  replace hlo : ∀ n, n < 146 → cs42 n = cs n := fun n a => by rw [e42, va_up_ne _ _ (by omega)] <;> exact hlo n a
  clear e42
  refine ry_iinc 3 [(0, .ref (gA G 146)), (1, .ref (gA G 8)), (2, .ref (gA G 10)), (3, .int 2)] [1, 2, 3, 0] dX3_init_150 rfl rfl (by decide) rfl ?_
  refine ry_goto 131 dX3_init_153 (by decide) ?_
  refine ry_iload_n 3 dX3_init_131 rfl rfl ?_
  refine ry_bipush (v := 30) dX3_init_132 rfl ?_
  refine ry_icmp_ge 156 dX3_init_134 (by decide) (fun q => absurd q (by decide)) (fun _ => ?_)
  refine ry_aload_n 0 dX3_init_137 rfl rfl ?_
  refine ry_get fl_X3_35 (by omega) hc0 rfl dX3_init_138 ?_
  refine ry_iload_n 3 dX3_init_141 rfl rfl ?_
  refine ry_new (ci := 2) (fs := [.int 0, .int 0, .int 0, .int 0, .int 0, .int 0, .int 0, .int 0, .int 0, .int 0, .null]) tyX2 tyX2_ok rfl i_X2 wc_X3_33 wi_2 wn_2 bl_2 (Nat.le_of_ble_eq_true rfl) (Nat.le_of_ble_eq_true rfl) dX3_init_142 ?_
  refine ry_cs (fun cs43 e43 => ?_)
  replace hc0 : cs43 146 = .inr (3, [.ref (gA G 8), .ref (gA G 10), .int 0, .int 0, .ref (gA G 147), .ref (gA G 148), .ref (gA G 149), .ref (gA G 150), .ref (gA G 151), .ref (gA G 152), .ref (gA G 153), .int 0, .int 0, .ref (gA G 154), .ref (gA G 155), .ref (gA G 156), .ref (gA G 157), .int 0, .int 0, .int 0]) := by rw [e43, va_up_ne _ _ (by omega)]; exact hc0
  replace hc1 : cs43 147 = .inl (gY G 14, 10, .inl (fun _ => 0)) := by rw [e43, va_up_ne _ _ (by omega)]; exact hc1
  replace hc2 : cs43 148 = .inl (gY G 14, 10, .inl (fun _ => 0)) := by rw [e43, va_up_ne _ _ (by omega)]; exact hc2
  replace hc3 : cs43 149 = .inl (gY G 14, 10, .inl (fun _ => 0)) := by rw [e43, va_up_ne _ _ (by omega)]; exact hc3
  replace hc4 : cs43 150 = .inl (gY G 14, 10, .inl (fun _ => 0)) := by rw [e43, va_up_ne _ _ (by omega)]; exact hc4
  replace hc5 : cs43 151 = .inl (gY G 14, 10, .inl (fun _ => 0)) := by rw [e43, va_up_ne _ _ (by omega)]; exact hc5
  replace hc6 : cs43 152 = refI G 22 152 4 := by rw [e43, va_up_ne _ _ (by omega)]; exact hc6
  replace hc7 : cs43 153 = refI G 17 153 2 := by rw [e43, va_up_ne _ _ (by omega)]; exact hc7
  replace hc8 : cs43 154 = .inl (gY G 14, 60, .inl (fun _ => 0)) := by rw [e43, va_up_ne _ _ (by omega)]; exact hc8
  replace hc9 : cs43 155 = .inl (gY G 14, 60, .inl (fun _ => 0)) := by rw [e43, va_up_ne _ _ (by omega)]; exact hc9
  replace hc10 : cs43 156 = .inl (gY G 14, 60, .inl (fun _ => 0)) := by rw [e43, va_up_ne _ _ (by omega)]; exact hc10
  replace hc11 : cs43 157 = .inl (gY G 14, 60, .inl (fun _ => 0)) := by rw [e43, va_up_ne _ _ (by omega)]; exact hc11
  have hc32 : cs43 178 = .inr (2, [.int 0, .int 0, .int 0, .int 0, .int 0, .int 0, .int 0, .int 0, .int 0, .int 0, .null]) := by rw [e43]; exact va_up_self _ _ _
  replace hr12 : ∀ n, 158 ≤ n → n < 178 → cs43 n = finY G n := fun n a b => by rw [e43, va_up_ne _ _ (by omega)]; exact hr12 n a b
  replace hlo : ∀ n, n < 146 → cs43 n = cs n := fun n a => by rw [e43, va_up_ne _ _ (by omega)] <;> exact hlo n a
  clear e43
  refine ry_dup dX3_init_145 rfl ?_
  refine ry_callIN (As := []) (n := 178) (mc := 1) (ms := 10) (Kc G 178 2 _) (fun _ _ h => by have := h.1; omega) mw_X2_init rfl win_X2_init wm_X3_60 rfl ⟨show d + 1 + 1 ≤ d + 2 by omega, show 30 * (d + 1) + 30 ≤ 30 * (d + 2) by omega, (Nat.le_of_ble_eq_true rfl), (Nat.le_of_ble_eq_true rfl)⟩ (Nat.le_of_ble_eq_true rfl) dX3_init_146 (kX2_init G d (show Is 178 2 by unfold Is; decide +kernel) hc32) (fun cs44 hK => ?_) rfl
  obtain ⟨-, hK1, hK2⟩ := hK
  clear hc32
  replace hc0 : cs44 146 = .inr (3, [.ref (gA G 8), .ref (gA G 10), .int 0, .int 0, .ref (gA G 147), .ref (gA G 148), .ref (gA G 149), .ref (gA G 150), .ref (gA G 151), .ref (gA G 152), .ref (gA G 153), .int 0, .int 0, .ref (gA G 154), .ref (gA G 155), .ref (gA G 156), .ref (gA G 157), .int 0, .int 0, .int 0]) := (hK1 _ (by omega)).trans hc0
  replace hc1 : cs44 147 = .inl (gY G 14, 10, .inl (fun _ => 0)) := (hK1 _ (by omega)).trans hc1
  replace hc2 : cs44 148 = .inl (gY G 14, 10, .inl (fun _ => 0)) := (hK1 _ (by omega)).trans hc2
  replace hc3 : cs44 149 = .inl (gY G 14, 10, .inl (fun _ => 0)) := (hK1 _ (by omega)).trans hc3
  replace hc4 : cs44 150 = .inl (gY G 14, 10, .inl (fun _ => 0)) := (hK1 _ (by omega)).trans hc4
  replace hc5 : cs44 151 = .inl (gY G 14, 10, .inl (fun _ => 0)) := (hK1 _ (by omega)).trans hc5
  replace hc6 : cs44 152 = refI G 22 152 4 := (hK1 _ (by omega)).trans hc6
  replace hc7 : cs44 153 = refI G 17 153 2 := (hK1 _ (by omega)).trans hc7
  replace hc8 : cs44 154 = .inl (gY G 14, 60, .inl (fun _ => 0)) := (hK1 _ (by omega)).trans hc8
  replace hc9 : cs44 155 = .inl (gY G 14, 60, .inl (fun _ => 0)) := (hK1 _ (by omega)).trans hc9
  replace hc10 : cs44 156 = .inl (gY G 14, 60, .inl (fun _ => 0)) := (hK1 _ (by omega)).trans hc10
  replace hc11 : cs44 157 = .inl (gY G 14, 60, .inl (fun _ => 0)) := (hK1 _ (by omega)).trans hc11
  replace hr12 : ∀ n, 158 ≤ n → n < 178 → cs44 n = finY G n := fun n a b => (hK1 n (by omega)).trans (hr12 n a b)
  replace hlo : ∀ n, n < 146 → cs44 n = cs n := fun n a => (hK1 n (by omega)).trans (hlo n a)
  replace hr12 : ∀ n, 158 ≤ n → n < 180 → cs44 n = finY G n := fun n a b => if h : n < 178 then hr12 n a h else hK2 n (by omega) (by omega)
  clear hK1 hK2
  refine ry_aast (κ := 17) (κ' := 2) (t0 := 4) (L := 30) (n := 153) (v := 178) (i := 2) (by omega) (by omega) rfl rfl hc7 (ln_at_3_7) ((hr12 178 (by omega) (by omega)).trans (fyE_2 (show Is 178 2 by unfold Is; decide +kernel))) (by decide) rfl (by decide +kernel) dX3_init_149 ?_
  refine ry_cs (fun cs45 e45 => ?_)
  replace hc0 : cs45 146 = .inr (3, [.ref (gA G 8), .ref (gA G 10), .int 0, .int 0, .ref (gA G 147), .ref (gA G 148), .ref (gA G 149), .ref (gA G 150), .ref (gA G 151), .ref (gA G 152), .ref (gA G 153), .int 0, .int 0, .ref (gA G 154), .ref (gA G 155), .ref (gA G 156), .ref (gA G 157), .int 0, .int 0, .int 0]) := by rw [e45, va_up_ne _ _ (by omega)]; exact hc0
  replace hc1 : cs45 147 = .inl (gY G 14, 10, .inl (fun _ => 0)) := by rw [e45, va_up_ne _ _ (by omega)]; exact hc1
  replace hc2 : cs45 148 = .inl (gY G 14, 10, .inl (fun _ => 0)) := by rw [e45, va_up_ne _ _ (by omega)]; exact hc2
  replace hc3 : cs45 149 = .inl (gY G 14, 10, .inl (fun _ => 0)) := by rw [e45, va_up_ne _ _ (by omega)]; exact hc3
  replace hc4 : cs45 150 = .inl (gY G 14, 10, .inl (fun _ => 0)) := by rw [e45, va_up_ne _ _ (by omega)]; exact hc4
  replace hc5 : cs45 151 = .inl (gY G 14, 10, .inl (fun _ => 0)) := by rw [e45, va_up_ne _ _ (by omega)]; exact hc5
  replace hc6 : cs45 152 = refI G 22 152 4 := by rw [e45, va_up_ne _ _ (by omega)]; exact hc6
  replace hc8 : cs45 154 = .inl (gY G 14, 60, .inl (fun _ => 0)) := by rw [e45, va_up_ne _ _ (by omega)]; exact hc8
  replace hc9 : cs45 155 = .inl (gY G 14, 60, .inl (fun _ => 0)) := by rw [e45, va_up_ne _ _ (by omega)]; exact hc9
  replace hc10 : cs45 156 = .inl (gY G 14, 60, .inl (fun _ => 0)) := by rw [e45, va_up_ne _ _ (by omega)]; exact hc10
  replace hc11 : cs45 157 = .inl (gY G 14, 60, .inl (fun _ => 0)) := by rw [e45, va_up_ne _ _ (by omega)]; exact hc11
  replace hc7 : cs45 153 = refI G 17 153 3 := by rw [e45]; exact va_up_self _ _ _
  replace hr12 : ∀ n, 158 ≤ n → n < 180 → cs45 n = finY G n := fun n a b => by rw [e45, va_up_ne _ _ (by omega)]; exact hr12 n a b
  replace hlo : ∀ n, n < 146 → cs45 n = cs n := fun n a => by rw [e45, va_up_ne _ _ (by omega)] <;> exact hlo n a
  clear e45
  refine ry_iinc 3 [(0, .ref (gA G 146)), (1, .ref (gA G 8)), (2, .ref (gA G 10)), (3, .int 3)] [1, 2, 3, 0] dX3_init_150 rfl rfl (by decide) rfl ?_
  refine ry_goto 131 dX3_init_153 (by decide) ?_
  refine ry_iload_n 3 dX3_init_131 rfl rfl ?_
  refine ry_bipush (v := 30) dX3_init_132 rfl ?_
  refine ry_icmp_ge 156 dX3_init_134 (by decide) (fun q => absurd q (by decide)) (fun _ => ?_)
  refine ry_aload_n 0 dX3_init_137 rfl rfl ?_
  refine ry_get fl_X3_35 (by omega) hc0 rfl dX3_init_138 ?_
  refine ry_iload_n 3 dX3_init_141 rfl rfl ?_
  refine ry_new (ci := 2) (fs := [.int 0, .int 0, .int 0, .int 0, .int 0, .int 0, .int 0, .int 0, .int 0, .int 0, .null]) tyX2 tyX2_ok rfl i_X2 wc_X3_33 wi_2 wn_2 bl_2 (Nat.le_of_ble_eq_true rfl) (Nat.le_of_ble_eq_true rfl) dX3_init_142 ?_
  refine ry_cs (fun cs46 e46 => ?_)
  replace hc0 : cs46 146 = .inr (3, [.ref (gA G 8), .ref (gA G 10), .int 0, .int 0, .ref (gA G 147), .ref (gA G 148), .ref (gA G 149), .ref (gA G 150), .ref (gA G 151), .ref (gA G 152), .ref (gA G 153), .int 0, .int 0, .ref (gA G 154), .ref (gA G 155), .ref (gA G 156), .ref (gA G 157), .int 0, .int 0, .int 0]) := by rw [e46, va_up_ne _ _ (by omega)]; exact hc0
  replace hc1 : cs46 147 = .inl (gY G 14, 10, .inl (fun _ => 0)) := by rw [e46, va_up_ne _ _ (by omega)]; exact hc1
  replace hc2 : cs46 148 = .inl (gY G 14, 10, .inl (fun _ => 0)) := by rw [e46, va_up_ne _ _ (by omega)]; exact hc2
  replace hc3 : cs46 149 = .inl (gY G 14, 10, .inl (fun _ => 0)) := by rw [e46, va_up_ne _ _ (by omega)]; exact hc3
  replace hc4 : cs46 150 = .inl (gY G 14, 10, .inl (fun _ => 0)) := by rw [e46, va_up_ne _ _ (by omega)]; exact hc4
  replace hc5 : cs46 151 = .inl (gY G 14, 10, .inl (fun _ => 0)) := by rw [e46, va_up_ne _ _ (by omega)]; exact hc5
  replace hc6 : cs46 152 = refI G 22 152 4 := by rw [e46, va_up_ne _ _ (by omega)]; exact hc6
  replace hc7 : cs46 153 = refI G 17 153 3 := by rw [e46, va_up_ne _ _ (by omega)]; exact hc7
  replace hc8 : cs46 154 = .inl (gY G 14, 60, .inl (fun _ => 0)) := by rw [e46, va_up_ne _ _ (by omega)]; exact hc8
  replace hc9 : cs46 155 = .inl (gY G 14, 60, .inl (fun _ => 0)) := by rw [e46, va_up_ne _ _ (by omega)]; exact hc9
  replace hc10 : cs46 156 = .inl (gY G 14, 60, .inl (fun _ => 0)) := by rw [e46, va_up_ne _ _ (by omega)]; exact hc10
  replace hc11 : cs46 157 = .inl (gY G 14, 60, .inl (fun _ => 0)) := by rw [e46, va_up_ne _ _ (by omega)]; exact hc11
  have hc34 : cs46 180 = .inr (2, [.int 0, .int 0, .int 0, .int 0, .int 0, .int 0, .int 0, .int 0, .int 0, .int 0, .null]) := by rw [e46]; exact va_up_self _ _ _
  replace hr12 : ∀ n, 158 ≤ n → n < 180 → cs46 n = finY G n := fun n a b => by rw [e46, va_up_ne _ _ (by omega)]; exact hr12 n a b
  replace hlo : ∀ n, n < 146 → cs46 n = cs n := fun n a => by rw [e46, va_up_ne _ _ (by omega)] <;> exact hlo n a
  clear e46
  refine ry_dup dX3_init_145 rfl ?_
  refine ry_callIN (As := []) (n := 180) (mc := 1) (ms := 10) (Kc G 180 2 _) (fun _ _ h => by have := h.1; omega) mw_X2_init rfl win_X2_init wm_X3_60 rfl ⟨show d + 1 + 1 ≤ d + 2 by omega, show 30 * (d + 1) + 30 ≤ 30 * (d + 2) by omega, (Nat.le_of_ble_eq_true rfl), (Nat.le_of_ble_eq_true rfl)⟩ (Nat.le_of_ble_eq_true rfl) dX3_init_146 (kX2_init G d (show Is 180 2 by unfold Is; decide +kernel) hc34) (fun cs47 hK => ?_) rfl
  obtain ⟨-, hK1, hK2⟩ := hK
  clear hc34
  replace hc0 : cs47 146 = .inr (3, [.ref (gA G 8), .ref (gA G 10), .int 0, .int 0, .ref (gA G 147), .ref (gA G 148), .ref (gA G 149), .ref (gA G 150), .ref (gA G 151), .ref (gA G 152), .ref (gA G 153), .int 0, .int 0, .ref (gA G 154), .ref (gA G 155), .ref (gA G 156), .ref (gA G 157), .int 0, .int 0, .int 0]) := (hK1 _ (by omega)).trans hc0
  replace hc1 : cs47 147 = .inl (gY G 14, 10, .inl (fun _ => 0)) := (hK1 _ (by omega)).trans hc1
  replace hc2 : cs47 148 = .inl (gY G 14, 10, .inl (fun _ => 0)) := (hK1 _ (by omega)).trans hc2
  replace hc3 : cs47 149 = .inl (gY G 14, 10, .inl (fun _ => 0)) := (hK1 _ (by omega)).trans hc3
  replace hc4 : cs47 150 = .inl (gY G 14, 10, .inl (fun _ => 0)) := (hK1 _ (by omega)).trans hc4
  replace hc5 : cs47 151 = .inl (gY G 14, 10, .inl (fun _ => 0)) := (hK1 _ (by omega)).trans hc5
  replace hc6 : cs47 152 = refI G 22 152 4 := (hK1 _ (by omega)).trans hc6
  replace hc7 : cs47 153 = refI G 17 153 3 := (hK1 _ (by omega)).trans hc7
  replace hc8 : cs47 154 = .inl (gY G 14, 60, .inl (fun _ => 0)) := (hK1 _ (by omega)).trans hc8
  replace hc9 : cs47 155 = .inl (gY G 14, 60, .inl (fun _ => 0)) := (hK1 _ (by omega)).trans hc9
  replace hc10 : cs47 156 = .inl (gY G 14, 60, .inl (fun _ => 0)) := (hK1 _ (by omega)).trans hc10
  replace hc11 : cs47 157 = .inl (gY G 14, 60, .inl (fun _ => 0)) := (hK1 _ (by omega)).trans hc11
  replace hr12 : ∀ n, 158 ≤ n → n < 180 → cs47 n = finY G n := fun n a b => (hK1 n (by omega)).trans (hr12 n a b)
  replace hlo : ∀ n, n < 146 → cs47 n = cs n := fun n a => (hK1 n (by omega)).trans (hlo n a)
  replace hr12 : ∀ n, 158 ≤ n → n < 182 → cs47 n = finY G n := fun n a b => if h : n < 180 then hr12 n a h else hK2 n (by omega) (by omega)
  clear hK1 hK2
  refine ry_aast (κ := 17) (κ' := 2) (t0 := 4) (L := 30) (n := 153) (v := 180) (i := 3) (by omega) (by omega) rfl rfl hc7 (ln_at_3_7) ((hr12 180 (by omega) (by omega)).trans (fyE_2 (show Is 180 2 by unfold Is; decide +kernel))) (by decide) rfl (by decide +kernel) dX3_init_149 ?_
  refine ry_cs (fun cs48 e48 => ?_)
  replace hc0 : cs48 146 = .inr (3, [.ref (gA G 8), .ref (gA G 10), .int 0, .int 0, .ref (gA G 147), .ref (gA G 148), .ref (gA G 149), .ref (gA G 150), .ref (gA G 151), .ref (gA G 152), .ref (gA G 153), .int 0, .int 0, .ref (gA G 154), .ref (gA G 155), .ref (gA G 156), .ref (gA G 157), .int 0, .int 0, .int 0]) := by rw [e48, va_up_ne _ _ (by omega)]; exact hc0
  replace hc1 : cs48 147 = .inl (gY G 14, 10, .inl (fun _ => 0)) := by rw [e48, va_up_ne _ _ (by omega)]; exact hc1
  replace hc2 : cs48 148 = .inl (gY G 14, 10, .inl (fun _ => 0)) := by rw [e48, va_up_ne _ _ (by omega)]; exact hc2
  replace hc3 : cs48 149 = .inl (gY G 14, 10, .inl (fun _ => 0)) := by rw [e48, va_up_ne _ _ (by omega)]; exact hc3
  replace hc4 : cs48 150 = .inl (gY G 14, 10, .inl (fun _ => 0)) := by rw [e48, va_up_ne _ _ (by omega)]; exact hc4
  replace hc5 : cs48 151 = .inl (gY G 14, 10, .inl (fun _ => 0)) := by rw [e48, va_up_ne _ _ (by omega)]; exact hc5
  replace hc6 : cs48 152 = refI G 22 152 4 := by rw [e48, va_up_ne _ _ (by omega)]; exact hc6
  replace hc8 : cs48 154 = .inl (gY G 14, 60, .inl (fun _ => 0)) := by rw [e48, va_up_ne _ _ (by omega)]; exact hc8
  replace hc9 : cs48 155 = .inl (gY G 14, 60, .inl (fun _ => 0)) := by rw [e48, va_up_ne _ _ (by omega)]; exact hc9
  replace hc10 : cs48 156 = .inl (gY G 14, 60, .inl (fun _ => 0)) := by rw [e48, va_up_ne _ _ (by omega)]; exact hc10
  replace hc11 : cs48 157 = .inl (gY G 14, 60, .inl (fun _ => 0)) := by rw [e48, va_up_ne _ _ (by omega)]; exact hc11
  replace hc7 : cs48 153 = refI G 17 153 4 := by rw [e48]; exact va_up_self _ _ _
  replace hr12 : ∀ n, 158 ≤ n → n < 182 → cs48 n = finY G n := fun n a b => by rw [e48, va_up_ne _ _ (by omega)]; exact hr12 n a b
  replace hlo : ∀ n, n < 146 → cs48 n = cs n := fun n a => by rw [e48, va_up_ne _ _ (by omega)] <;> exact hlo n a
  clear e48
  refine ry_iinc 3 [(0, .ref (gA G 146)), (1, .ref (gA G 8)), (2, .ref (gA G 10)), (3, .int 4)] [1, 2, 3, 0] dX3_init_150 rfl rfl (by decide) rfl ?_
  refine ry_goto 131 dX3_init_153 (by decide) ?_
  refine ry_iload_n 3 dX3_init_131 rfl rfl ?_
  refine ry_bipush (v := 30) dX3_init_132 rfl ?_
  refine ry_icmp_ge 156 dX3_init_134 (by decide) (fun q => absurd q (by decide)) (fun _ => ?_)
  refine ry_aload_n 0 dX3_init_137 rfl rfl ?_
  refine ry_get fl_X3_35 (by omega) hc0 rfl dX3_init_138 ?_
  refine ry_iload_n 3 dX3_init_141 rfl rfl ?_
  refine ry_new (ci := 2) (fs := [.int 0, .int 0, .int 0, .int 0, .int 0, .int 0, .int 0, .int 0, .int 0, .int 0, .null]) tyX2 tyX2_ok rfl i_X2 wc_X3_33 wi_2 wn_2 bl_2 (Nat.le_of_ble_eq_true rfl) (Nat.le_of_ble_eq_true rfl) dX3_init_142 ?_
  refine ry_cs (fun cs49 e49 => ?_)
  replace hc0 : cs49 146 = .inr (3, [.ref (gA G 8), .ref (gA G 10), .int 0, .int 0, .ref (gA G 147), .ref (gA G 148), .ref (gA G 149), .ref (gA G 150), .ref (gA G 151), .ref (gA G 152), .ref (gA G 153), .int 0, .int 0, .ref (gA G 154), .ref (gA G 155), .ref (gA G 156), .ref (gA G 157), .int 0, .int 0, .int 0]) := by rw [e49, va_up_ne _ _ (by omega)]; exact hc0
  replace hc1 : cs49 147 = .inl (gY G 14, 10, .inl (fun _ => 0)) := by rw [e49, va_up_ne _ _ (by omega)]; exact hc1
  replace hc2 : cs49 148 = .inl (gY G 14, 10, .inl (fun _ => 0)) := by rw [e49, va_up_ne _ _ (by omega)]; exact hc2
  replace hc3 : cs49 149 = .inl (gY G 14, 10, .inl (fun _ => 0)) := by rw [e49, va_up_ne _ _ (by omega)]; exact hc3
  replace hc4 : cs49 150 = .inl (gY G 14, 10, .inl (fun _ => 0)) := by rw [e49, va_up_ne _ _ (by omega)]; exact hc4
  replace hc5 : cs49 151 = .inl (gY G 14, 10, .inl (fun _ => 0)) := by rw [e49, va_up_ne _ _ (by omega)]; exact hc5
  replace hc6 : cs49 152 = refI G 22 152 4 := by rw [e49, va_up_ne _ _ (by omega)]; exact hc6
  replace hc7 : cs49 153 = refI G 17 153 4 := by rw [e49, va_up_ne _ _ (by omega)]; exact hc7
  replace hc8 : cs49 154 = .inl (gY G 14, 60, .inl (fun _ => 0)) := by rw [e49, va_up_ne _ _ (by omega)]; exact hc8
  replace hc9 : cs49 155 = .inl (gY G 14, 60, .inl (fun _ => 0)) := by rw [e49, va_up_ne _ _ (by omega)]; exact hc9
  replace hc10 : cs49 156 = .inl (gY G 14, 60, .inl (fun _ => 0)) := by rw [e49, va_up_ne _ _ (by omega)]; exact hc10
  replace hc11 : cs49 157 = .inl (gY G 14, 60, .inl (fun _ => 0)) := by rw [e49, va_up_ne _ _ (by omega)]; exact hc11
  have hc36 : cs49 182 = .inr (2, [.int 0, .int 0, .int 0, .int 0, .int 0, .int 0, .int 0, .int 0, .int 0, .int 0, .null]) := by rw [e49]; exact va_up_self _ _ _
  replace hr12 : ∀ n, 158 ≤ n → n < 182 → cs49 n = finY G n := fun n a b => by rw [e49, va_up_ne _ _ (by omega)]; exact hr12 n a b
  replace hlo : ∀ n, n < 146 → cs49 n = cs n := fun n a => by rw [e49, va_up_ne _ _ (by omega)] <;> exact hlo n a
  clear e49
  refine ry_dup dX3_init_145 rfl ?_
  refine ry_callIN (As := []) (n := 182) (mc := 1) (ms := 10) (Kc G 182 2 _) (fun _ _ h => by have := h.1; omega) mw_X2_init rfl win_X2_init wm_X3_60 rfl ⟨show d + 1 + 1 ≤ d + 2 by omega, show 30 * (d + 1) + 30 ≤ 30 * (d + 2) by omega, (Nat.le_of_ble_eq_true rfl), (Nat.le_of_ble_eq_true rfl)⟩ (Nat.le_of_ble_eq_true rfl) dX3_init_146 (kX2_init G d (show Is 182 2 by unfold Is; decide +kernel) hc36) (fun cs50 hK => ?_) rfl
  obtain ⟨-, hK1, hK2⟩ := hK
  clear hc36
  replace hc0 : cs50 146 = .inr (3, [.ref (gA G 8), .ref (gA G 10), .int 0, .int 0, .ref (gA G 147), .ref (gA G 148), .ref (gA G 149), .ref (gA G 150), .ref (gA G 151), .ref (gA G 152), .ref (gA G 153), .int 0, .int 0, .ref (gA G 154), .ref (gA G 155), .ref (gA G 156), .ref (gA G 157), .int 0, .int 0, .int 0]) := (hK1 _ (by omega)).trans hc0
  replace hc1 : cs50 147 = .inl (gY G 14, 10, .inl (fun _ => 0)) := (hK1 _ (by omega)).trans hc1
  replace hc2 : cs50 148 = .inl (gY G 14, 10, .inl (fun _ => 0)) := (hK1 _ (by omega)).trans hc2
  replace hc3 : cs50 149 = .inl (gY G 14, 10, .inl (fun _ => 0)) := (hK1 _ (by omega)).trans hc3
  replace hc4 : cs50 150 = .inl (gY G 14, 10, .inl (fun _ => 0)) := (hK1 _ (by omega)).trans hc4
  replace hc5 : cs50 151 = .inl (gY G 14, 10, .inl (fun _ => 0)) := (hK1 _ (by omega)).trans hc5
  replace hc6 : cs50 152 = refI G 22 152 4 := (hK1 _ (by omega)).trans hc6
  replace hc7 : cs50 153 = refI G 17 153 4 := (hK1 _ (by omega)).trans hc7
  replace hc8 : cs50 154 = .inl (gY G 14, 60, .inl (fun _ => 0)) := (hK1 _ (by omega)).trans hc8
  replace hc9 : cs50 155 = .inl (gY G 14, 60, .inl (fun _ => 0)) := (hK1 _ (by omega)).trans hc9
  replace hc10 : cs50 156 = .inl (gY G 14, 60, .inl (fun _ => 0)) := (hK1 _ (by omega)).trans hc10
  replace hc11 : cs50 157 = .inl (gY G 14, 60, .inl (fun _ => 0)) := (hK1 _ (by omega)).trans hc11
  replace hr12 : ∀ n, 158 ≤ n → n < 182 → cs50 n = finY G n := fun n a b => (hK1 n (by omega)).trans (hr12 n a b)
  replace hlo : ∀ n, n < 146 → cs50 n = cs n := fun n a => (hK1 n (by omega)).trans (hlo n a)
  replace hr12 : ∀ n, 158 ≤ n → n < 184 → cs50 n = finY G n := fun n a b => if h : n < 182 then hr12 n a h else hK2 n (by omega) (by omega)
  clear hK1 hK2
  refine ry_aast (κ := 17) (κ' := 2) (t0 := 4) (L := 30) (n := 153) (v := 182) (i := 4) (by omega) (by omega) rfl rfl hc7 (ln_at_3_7) ((hr12 182 (by omega) (by omega)).trans (fyE_2 (show Is 182 2 by unfold Is; decide +kernel))) (by decide) rfl (by decide +kernel) dX3_init_149 ?_
  refine ry_cs (fun cs51 e51 => ?_)
  replace hc0 : cs51 146 = .inr (3, [.ref (gA G 8), .ref (gA G 10), .int 0, .int 0, .ref (gA G 147), .ref (gA G 148), .ref (gA G 149), .ref (gA G 150), .ref (gA G 151), .ref (gA G 152), .ref (gA G 153), .int 0, .int 0, .ref (gA G 154), .ref (gA G 155), .ref (gA G 156), .ref (gA G 157), .int 0, .int 0, .int 0]) := by rw [e51, va_up_ne _ _ (by omega)]; exact hc0
  replace hc1 : cs51 147 = .inl (gY G 14, 10, .inl (fun _ => 0)) := by rw [e51, va_up_ne _ _ (by omega)]; exact hc1
  replace hc2 : cs51 148 = .inl (gY G 14, 10, .inl (fun _ => 0)) := by rw [e51, va_up_ne _ _ (by omega)]; exact hc2
  replace hc3 : cs51 149 = .inl (gY G 14, 10, .inl (fun _ => 0)) := by rw [e51, va_up_ne _ _ (by omega)]; exact hc3
  replace hc4 : cs51 150 = .inl (gY G 14, 10, .inl (fun _ => 0)) := by rw [e51, va_up_ne _ _ (by omega)]; exact hc4
  replace hc5 : cs51 151 = .inl (gY G 14, 10, .inl (fun _ => 0)) := by rw [e51, va_up_ne _ _ (by omega)]; exact hc5
  replace hc6 : cs51 152 = refI G 22 152 4 := by rw [e51, va_up_ne _ _ (by omega)]; exact hc6
  replace hc8 : cs51 154 = .inl (gY G 14, 60, .inl (fun _ => 0)) := by rw [e51, va_up_ne _ _ (by omega)]; exact hc8
  replace hc9 : cs51 155 = .inl (gY G 14, 60, .inl (fun _ => 0)) := by rw [e51, va_up_ne _ _ (by omega)]; exact hc9
  replace hc10 : cs51 156 = .inl (gY G 14, 60, .inl (fun _ => 0)) := by rw [e51, va_up_ne _ _ (by omega)]; exact hc10
  replace hc11 : cs51 157 = .inl (gY G 14, 60, .inl (fun _ => 0)) := by rw [e51, va_up_ne _ _ (by omega)]; exact hc11
  replace hc7 : cs51 153 = refI G 17 153 5 := by rw [e51]; exact va_up_self _ _ _
  replace hr12 : ∀ n, 158 ≤ n → n < 184 → cs51 n = finY G n := fun n a b => by rw [e51, va_up_ne _ _ (by omega)]; exact hr12 n a b
  replace hlo : ∀ n, n < 146 → cs51 n = cs n := fun n a => by rw [e51, va_up_ne _ _ (by omega)] <;> exact hlo n a
  clear e51
  refine ry_iinc 3 [(0, .ref (gA G 146)), (1, .ref (gA G 8)), (2, .ref (gA G 10)), (3, .int 5)] [1, 2, 3, 0] dX3_init_150 rfl rfl (by decide) rfl ?_
  refine ry_goto 131 dX3_init_153 (by decide) ?_
  refine ry_iload_n 3 dX3_init_131 rfl rfl ?_
  refine ry_bipush (v := 30) dX3_init_132 rfl ?_
  refine ry_icmp_ge 156 dX3_init_134 (by decide) (fun q => absurd q (by decide)) (fun _ => ?_)
  refine ry_aload_n 0 dX3_init_137 rfl rfl ?_
  refine ry_get fl_X3_35 (by omega) hc0 rfl dX3_init_138 ?_
  refine ry_iload_n 3 dX3_init_141 rfl rfl ?_
  refine ry_new (ci := 2) (fs := [.int 0, .int 0, .int 0, .int 0, .int 0, .int 0, .int 0, .int 0, .int 0, .int 0, .null]) tyX2 tyX2_ok rfl i_X2 wc_X3_33 wi_2 wn_2 bl_2 (Nat.le_of_ble_eq_true rfl) (Nat.le_of_ble_eq_true rfl) dX3_init_142 ?_
  refine ry_cs (fun cs52 e52 => ?_)
  replace hc0 : cs52 146 = .inr (3, [.ref (gA G 8), .ref (gA G 10), .int 0, .int 0, .ref (gA G 147), .ref (gA G 148), .ref (gA G 149), .ref (gA G 150), .ref (gA G 151), .ref (gA G 152), .ref (gA G 153), .int 0, .int 0, .ref (gA G 154), .ref (gA G 155), .ref (gA G 156), .ref (gA G 157), .int 0, .int 0, .int 0]) := by rw [e52, va_up_ne _ _ (by omega)]; exact hc0
  replace hc1 : cs52 147 = .inl (gY G 14, 10, .inl (fun _ => 0)) := by rw [e52, va_up_ne _ _ (by omega)]; exact hc1
  replace hc2 : cs52 148 = .inl (gY G 14, 10, .inl (fun _ => 0)) := by rw [e52, va_up_ne _ _ (by omega)]; exact hc2
  replace hc3 : cs52 149 = .inl (gY G 14, 10, .inl (fun _ => 0)) := by rw [e52, va_up_ne _ _ (by omega)]; exact hc3
  replace hc4 : cs52 150 = .inl (gY G 14, 10, .inl (fun _ => 0)) := by rw [e52, va_up_ne _ _ (by omega)]; exact hc4
  replace hc5 : cs52 151 = .inl (gY G 14, 10, .inl (fun _ => 0)) := by rw [e52, va_up_ne _ _ (by omega)]; exact hc5
  replace hc6 : cs52 152 = refI G 22 152 4 := by rw [e52, va_up_ne _ _ (by omega)]; exact hc6
  replace hc7 : cs52 153 = refI G 17 153 5 := by rw [e52, va_up_ne _ _ (by omega)]; exact hc7
  replace hc8 : cs52 154 = .inl (gY G 14, 60, .inl (fun _ => 0)) := by rw [e52, va_up_ne _ _ (by omega)]; exact hc8
  replace hc9 : cs52 155 = .inl (gY G 14, 60, .inl (fun _ => 0)) := by rw [e52, va_up_ne _ _ (by omega)]; exact hc9
  replace hc10 : cs52 156 = .inl (gY G 14, 60, .inl (fun _ => 0)) := by rw [e52, va_up_ne _ _ (by omega)]; exact hc10
  replace hc11 : cs52 157 = .inl (gY G 14, 60, .inl (fun _ => 0)) := by rw [e52, va_up_ne _ _ (by omega)]; exact hc11
  have hc38 : cs52 184 = .inr (2, [.int 0, .int 0, .int 0, .int 0, .int 0, .int 0, .int 0, .int 0, .int 0, .int 0, .null]) := by rw [e52]; exact va_up_self _ _ _
  replace hr12 : ∀ n, 158 ≤ n → n < 184 → cs52 n = finY G n := fun n a b => by rw [e52, va_up_ne _ _ (by omega)]; exact hr12 n a b
  replace hlo : ∀ n, n < 146 → cs52 n = cs n := fun n a => by rw [e52, va_up_ne _ _ (by omega)] <;> exact hlo n a
  clear e52
  refine ry_dup dX3_init_145 rfl ?_
  refine ry_callIN (As := []) (n := 184) (mc := 1) (ms := 10) (Kc G 184 2 _) (fun _ _ h => by have := h.1; omega) mw_X2_init rfl win_X2_init wm_X3_60 rfl ⟨show d + 1 + 1 ≤ d + 2 by omega, show 30 * (d + 1) + 30 ≤ 30 * (d + 2) by omega, (Nat.le_of_ble_eq_true rfl), (Nat.le_of_ble_eq_true rfl)⟩ (Nat.le_of_ble_eq_true rfl) dX3_init_146 (kX2_init G d (show Is 184 2 by unfold Is; decide +kernel) hc38) (fun cs53 hK => ?_) rfl
  obtain ⟨-, hK1, hK2⟩ := hK
  clear hc38
  replace hc0 : cs53 146 = .inr (3, [.ref (gA G 8), .ref (gA G 10), .int 0, .int 0, .ref (gA G 147), .ref (gA G 148), .ref (gA G 149), .ref (gA G 150), .ref (gA G 151), .ref (gA G 152), .ref (gA G 153), .int 0, .int 0, .ref (gA G 154), .ref (gA G 155), .ref (gA G 156), .ref (gA G 157), .int 0, .int 0, .int 0]) := (hK1 _ (by omega)).trans hc0
  replace hc1 : cs53 147 = .inl (gY G 14, 10, .inl (fun _ => 0)) := (hK1 _ (by omega)).trans hc1
  replace hc2 : cs53 148 = .inl (gY G 14, 10, .inl (fun _ => 0)) := (hK1 _ (by omega)).trans hc2
  replace hc3 : cs53 149 = .inl (gY G 14, 10, .inl (fun _ => 0)) := (hK1 _ (by omega)).trans hc3
  replace hc4 : cs53 150 = .inl (gY G 14, 10, .inl (fun _ => 0)) := (hK1 _ (by omega)).trans hc4
  replace hc5 : cs53 151 = .inl (gY G 14, 10, .inl (fun _ => 0)) := (hK1 _ (by omega)).trans hc5
  replace hc6 : cs53 152 = refI G 22 152 4 := (hK1 _ (by omega)).trans hc6
  replace hc7 : cs53 153 = refI G 17 153 5 := (hK1 _ (by omega)).trans hc7
  replace hc8 : cs53 154 = .inl (gY G 14, 60, .inl (fun _ => 0)) := (hK1 _ (by omega)).trans hc8
  replace hc9 : cs53 155 = .inl (gY G 14, 60, .inl (fun _ => 0)) := (hK1 _ (by omega)).trans hc9
  replace hc10 : cs53 156 = .inl (gY G 14, 60, .inl (fun _ => 0)) := (hK1 _ (by omega)).trans hc10
  replace hc11 : cs53 157 = .inl (gY G 14, 60, .inl (fun _ => 0)) := (hK1 _ (by omega)).trans hc11
  replace hr12 : ∀ n, 158 ≤ n → n < 184 → cs53 n = finY G n := fun n a b => (hK1 n (by omega)).trans (hr12 n a b)
  replace hlo : ∀ n, n < 146 → cs53 n = cs n := fun n a => (hK1 n (by omega)).trans (hlo n a)
  replace hr12 : ∀ n, 158 ≤ n → n < 186 → cs53 n = finY G n := fun n a b => if h : n < 184 then hr12 n a h else hK2 n (by omega) (by omega)
  clear hK1 hK2
  refine ry_aast (κ := 17) (κ' := 2) (t0 := 4) (L := 30) (n := 153) (v := 184) (i := 5) (by omega) (by omega) rfl rfl hc7 (ln_at_3_7) ((hr12 184 (by omega) (by omega)).trans (fyE_2 (show Is 184 2 by unfold Is; decide +kernel))) (by decide) rfl (by decide +kernel) dX3_init_149 ?_
  refine ry_cs (fun cs54 e54 => ?_)
  replace hc0 : cs54 146 = .inr (3, [.ref (gA G 8), .ref (gA G 10), .int 0, .int 0, .ref (gA G 147), .ref (gA G 148), .ref (gA G 149), .ref (gA G 150), .ref (gA G 151), .ref (gA G 152), .ref (gA G 153), .int 0, .int 0, .ref (gA G 154), .ref (gA G 155), .ref (gA G 156), .ref (gA G 157), .int 0, .int 0, .int 0]) := by rw [e54, va_up_ne _ _ (by omega)]; exact hc0
  replace hc1 : cs54 147 = .inl (gY G 14, 10, .inl (fun _ => 0)) := by rw [e54, va_up_ne _ _ (by omega)]; exact hc1
  replace hc2 : cs54 148 = .inl (gY G 14, 10, .inl (fun _ => 0)) := by rw [e54, va_up_ne _ _ (by omega)]; exact hc2
  replace hc3 : cs54 149 = .inl (gY G 14, 10, .inl (fun _ => 0)) := by rw [e54, va_up_ne _ _ (by omega)]; exact hc3
  replace hc4 : cs54 150 = .inl (gY G 14, 10, .inl (fun _ => 0)) := by rw [e54, va_up_ne _ _ (by omega)]; exact hc4
  replace hc5 : cs54 151 = .inl (gY G 14, 10, .inl (fun _ => 0)) := by rw [e54, va_up_ne _ _ (by omega)]; exact hc5
  replace hc6 : cs54 152 = refI G 22 152 4 := by rw [e54, va_up_ne _ _ (by omega)]; exact hc6
  replace hc8 : cs54 154 = .inl (gY G 14, 60, .inl (fun _ => 0)) := by rw [e54, va_up_ne _ _ (by omega)]; exact hc8
  replace hc9 : cs54 155 = .inl (gY G 14, 60, .inl (fun _ => 0)) := by rw [e54, va_up_ne _ _ (by omega)]; exact hc9
  replace hc10 : cs54 156 = .inl (gY G 14, 60, .inl (fun _ => 0)) := by rw [e54, va_up_ne _ _ (by omega)]; exact hc10
  replace hc11 : cs54 157 = .inl (gY G 14, 60, .inl (fun _ => 0)) := by rw [e54, va_up_ne _ _ (by omega)]; exact hc11
  replace hc7 : cs54 153 = refI G 17 153 6 := by rw [e54]; exact va_up_self _ _ _
  replace hr12 : ∀ n, 158 ≤ n → n < 186 → cs54 n = finY G n := fun n a b => by rw [e54, va_up_ne _ _ (by omega)]; exact hr12 n a b
  replace hlo : ∀ n, n < 146 → cs54 n = cs n := fun n a => by rw [e54, va_up_ne _ _ (by omega)] <;> exact hlo n a
  clear e54
  refine ry_iinc 3 [(0, .ref (gA G 146)), (1, .ref (gA G 8)), (2, .ref (gA G 10)), (3, .int 6)] [1, 2, 3, 0] dX3_init_150 rfl rfl (by decide) rfl ?_
  refine ry_goto 131 dX3_init_153 (by decide) ?_
  refine ry_iload_n 3 dX3_init_131 rfl rfl ?_
  refine ry_bipush (v := 30) dX3_init_132 rfl ?_
  refine ry_icmp_ge 156 dX3_init_134 (by decide) (fun q => absurd q (by decide)) (fun _ => ?_)
  refine ry_aload_n 0 dX3_init_137 rfl rfl ?_
  refine ry_get fl_X3_35 (by omega) hc0 rfl dX3_init_138 ?_
  refine ry_iload_n 3 dX3_init_141 rfl rfl ?_
  refine ry_new (ci := 2) (fs := [.int 0, .int 0, .int 0, .int 0, .int 0, .int 0, .int 0, .int 0, .int 0, .int 0, .null]) tyX2 tyX2_ok rfl i_X2 wc_X3_33 wi_2 wn_2 bl_2 (Nat.le_of_ble_eq_true rfl) (Nat.le_of_ble_eq_true rfl) dX3_init_142 ?_
  refine ry_cs (fun cs55 e55 => ?_)
  replace hc0 : cs55 146 = .inr (3, [.ref (gA G 8), .ref (gA G 10), .int 0, .int 0, .ref (gA G 147), .ref (gA G 148), .ref (gA G 149), .ref (gA G 150), .ref (gA G 151), .ref (gA G 152), .ref (gA G 153), .int 0, .int 0, .ref (gA G 154), .ref (gA G 155), .ref (gA G 156), .ref (gA G 157), .int 0, .int 0, .int 0]) := by rw [e55, va_up_ne _ _ (by omega)]; exact hc0
  replace hc1 : cs55 147 = .inl (gY G 14, 10, .inl (fun _ => 0)) := by rw [e55, va_up_ne _ _ (by omega)]; exact hc1
  replace hc2 : cs55 148 = .inl (gY G 14, 10, .inl (fun _ => 0)) := by rw [e55, va_up_ne _ _ (by omega)]; exact hc2
  replace hc3 : cs55 149 = .inl (gY G 14, 10, .inl (fun _ => 0)) := by rw [e55, va_up_ne _ _ (by omega)]; exact hc3
  replace hc4 : cs55 150 = .inl (gY G 14, 10, .inl (fun _ => 0)) := by rw [e55, va_up_ne _ _ (by omega)]; exact hc4
  replace hc5 : cs55 151 = .inl (gY G 14, 10, .inl (fun _ => 0)) := by rw [e55, va_up_ne _ _ (by omega)]; exact hc5
  replace hc6 : cs55 152 = refI G 22 152 4 := by rw [e55, va_up_ne _ _ (by omega)]; exact hc6
  replace hc7 : cs55 153 = refI G 17 153 6 := by rw [e55, va_up_ne _ _ (by omega)]; exact hc7
  replace hc8 : cs55 154 = .inl (gY G 14, 60, .inl (fun _ => 0)) := by rw [e55, va_up_ne _ _ (by omega)]; exact hc8
  replace hc9 : cs55 155 = .inl (gY G 14, 60, .inl (fun _ => 0)) := by rw [e55, va_up_ne _ _ (by omega)]; exact hc9
  replace hc10 : cs55 156 = .inl (gY G 14, 60, .inl (fun _ => 0)) := by rw [e55, va_up_ne _ _ (by omega)]; exact hc10
  replace hc11 : cs55 157 = .inl (gY G 14, 60, .inl (fun _ => 0)) := by rw [e55, va_up_ne _ _ (by omega)]; exact hc11
  have hc40 : cs55 186 = .inr (2, [.int 0, .int 0, .int 0, .int 0, .int 0, .int 0, .int 0, .int 0, .int 0, .int 0, .null]) := by rw [e55]; exact va_up_self _ _ _
  replace hr12 : ∀ n, 158 ≤ n → n < 186 → cs55 n = finY G n := fun n a b => by rw [e55, va_up_ne _ _ (by omega)]; exact hr12 n a b
  replace hlo : ∀ n, n < 146 → cs55 n = cs n := fun n a => by rw [e55, va_up_ne _ _ (by omega)] <;> exact hlo n a
  clear e55
  refine ry_dup dX3_init_145 rfl ?_
  refine ry_callIN (As := []) (n := 186) (mc := 1) (ms := 10) (Kc G 186 2 _) (fun _ _ h => by have := h.1; omega) mw_X2_init rfl win_X2_init wm_X3_60 rfl ⟨show d + 1 + 1 ≤ d + 2 by omega, show 30 * (d + 1) + 30 ≤ 30 * (d + 2) by omega, (Nat.le_of_ble_eq_true rfl), (Nat.le_of_ble_eq_true rfl)⟩ (Nat.le_of_ble_eq_true rfl) dX3_init_146 (kX2_init G d (show Is 186 2 by unfold Is; decide +kernel) hc40) (fun cs56 hK => ?_) rfl
  obtain ⟨-, hK1, hK2⟩ := hK
  clear hc40
  replace hc0 : cs56 146 = .inr (3, [.ref (gA G 8), .ref (gA G 10), .int 0, .int 0, .ref (gA G 147), .ref (gA G 148), .ref (gA G 149), .ref (gA G 150), .ref (gA G 151), .ref (gA G 152), .ref (gA G 153), .int 0, .int 0, .ref (gA G 154), .ref (gA G 155), .ref (gA G 156), .ref (gA G 157), .int 0, .int 0, .int 0]) := (hK1 _ (by omega)).trans hc0
  replace hc1 : cs56 147 = .inl (gY G 14, 10, .inl (fun _ => 0)) := (hK1 _ (by omega)).trans hc1
  replace hc2 : cs56 148 = .inl (gY G 14, 10, .inl (fun _ => 0)) := (hK1 _ (by omega)).trans hc2
  replace hc3 : cs56 149 = .inl (gY G 14, 10, .inl (fun _ => 0)) := (hK1 _ (by omega)).trans hc3
  replace hc4 : cs56 150 = .inl (gY G 14, 10, .inl (fun _ => 0)) := (hK1 _ (by omega)).trans hc4
  replace hc5 : cs56 151 = .inl (gY G 14, 10, .inl (fun _ => 0)) := (hK1 _ (by omega)).trans hc5
  replace hc6 : cs56 152 = refI G 22 152 4 := (hK1 _ (by omega)).trans hc6
  replace hc7 : cs56 153 = refI G 17 153 6 := (hK1 _ (by omega)).trans hc7
  replace hc8 : cs56 154 = .inl (gY G 14, 60, .inl (fun _ => 0)) := (hK1 _ (by omega)).trans hc8
  replace hc9 : cs56 155 = .inl (gY G 14, 60, .inl (fun _ => 0)) := (hK1 _ (by omega)).trans hc9
  replace hc10 : cs56 156 = .inl (gY G 14, 60, .inl (fun _ => 0)) := (hK1 _ (by omega)).trans hc10
  replace hc11 : cs56 157 = .inl (gY G 14, 60, .inl (fun _ => 0)) := (hK1 _ (by omega)).trans hc11
  replace hr12 : ∀ n, 158 ≤ n → n < 186 → cs56 n = finY G n := fun n a b => (hK1 n (by omega)).trans (hr12 n a b)
  replace hlo : ∀ n, n < 146 → cs56 n = cs n := fun n a => (hK1 n (by omega)).trans (hlo n a)
  replace hr12 : ∀ n, 158 ≤ n → n < 188 → cs56 n = finY G n := fun n a b => if h : n < 186 then hr12 n a h else hK2 n (by omega) (by omega)
  clear hK1 hK2
  refine ry_aast (κ := 17) (κ' := 2) (t0 := 4) (L := 30) (n := 153) (v := 186) (i := 6) (by omega) (by omega) rfl rfl hc7 (ln_at_3_7) ((hr12 186 (by omega) (by omega)).trans (fyE_2 (show Is 186 2 by unfold Is; decide +kernel))) (by decide) rfl (by decide +kernel) dX3_init_149 ?_
  refine ry_cs (fun cs57 e57 => ?_)
  replace hc0 : cs57 146 = .inr (3, [.ref (gA G 8), .ref (gA G 10), .int 0, .int 0, .ref (gA G 147), .ref (gA G 148), .ref (gA G 149), .ref (gA G 150), .ref (gA G 151), .ref (gA G 152), .ref (gA G 153), .int 0, .int 0, .ref (gA G 154), .ref (gA G 155), .ref (gA G 156), .ref (gA G 157), .int 0, .int 0, .int 0]) := by rw [e57, va_up_ne _ _ (by omega)]; exact hc0
  replace hc1 : cs57 147 = .inl (gY G 14, 10, .inl (fun _ => 0)) := by rw [e57, va_up_ne _ _ (by omega)]; exact hc1
  replace hc2 : cs57 148 = .inl (gY G 14, 10, .inl (fun _ => 0)) := by rw [e57, va_up_ne _ _ (by omega)]; exact hc2
  replace hc3 : cs57 149 = .inl (gY G 14, 10, .inl (fun _ => 0)) := by rw [e57, va_up_ne _ _ (by omega)]; exact hc3
  replace hc4 : cs57 150 = .inl (gY G 14, 10, .inl (fun _ => 0)) := by rw [e57, va_up_ne _ _ (by omega)]; exact hc4
  replace hc5 : cs57 151 = .inl (gY G 14, 10, .inl (fun _ => 0)) := by rw [e57, va_up_ne _ _ (by omega)]; exact hc5
  replace hc6 : cs57 152 = refI G 22 152 4 := by rw [e57, va_up_ne _ _ (by omega)]; exact hc6
  replace hc8 : cs57 154 = .inl (gY G 14, 60, .inl (fun _ => 0)) := by rw [e57, va_up_ne _ _ (by omega)]; exact hc8
  replace hc9 : cs57 155 = .inl (gY G 14, 60, .inl (fun _ => 0)) := by rw [e57, va_up_ne _ _ (by omega)]; exact hc9
  replace hc10 : cs57 156 = .inl (gY G 14, 60, .inl (fun _ => 0)) := by rw [e57, va_up_ne _ _ (by omega)]; exact hc10
  replace hc11 : cs57 157 = .inl (gY G 14, 60, .inl (fun _ => 0)) := by rw [e57, va_up_ne _ _ (by omega)]; exact hc11
  replace hc7 : cs57 153 = refI G 17 153 7 := by rw [e57]; exact va_up_self _ _ _
  replace hr12 : ∀ n, 158 ≤ n → n < 188 → cs57 n = finY G n := fun n a b => by rw [e57, va_up_ne _ _ (by omega)]; exact hr12 n a b
  replace hlo : ∀ n, n < 146 → cs57 n = cs n := fun n a => by rw [e57, va_up_ne _ _ (by omega)] <;> exact hlo n a
  clear e57
  refine ry_iinc 3 [(0, .ref (gA G 146)), (1, .ref (gA G 8)), (2, .ref (gA G 10)), (3, .int 7)] [1, 2, 3, 0] dX3_init_150 rfl rfl (by decide) rfl ?_
  refine ry_goto 131 dX3_init_153 (by decide) ?_
  refine ry_iload_n 3 dX3_init_131 rfl rfl ?_
  refine ry_bipush (v := 30) dX3_init_132 rfl ?_
  refine ry_icmp_ge 156 dX3_init_134 (by decide) (fun q => absurd q (by decide)) (fun _ => ?_)
  refine ry_aload_n 0 dX3_init_137 rfl rfl ?_
  refine ry_get fl_X3_35 (by omega) hc0 rfl dX3_init_138 ?_
  refine ry_iload_n 3 dX3_init_141 rfl rfl ?_
  refine ry_new (ci := 2) (fs := [.int 0, .int 0, .int 0, .int 0, .int 0, .int 0, .int 0, .int 0, .int 0, .int 0, .null]) tyX2 tyX2_ok rfl i_X2 wc_X3_33 wi_2 wn_2 bl_2 (Nat.le_of_ble_eq_true rfl) (Nat.le_of_ble_eq_true rfl) dX3_init_142 ?_
  refine ry_cs (fun cs58 e58 => ?_)
  replace hc0 : cs58 146 = .inr (3, [.ref (gA G 8), .ref (gA G 10), .int 0, .int 0, .ref (gA G 147), .ref (gA G 148), .ref (gA G 149), .ref (gA G 150), .ref (gA G 151), .ref (gA G 152), .ref (gA G 153), .int 0, .int 0, .ref (gA G 154), .ref (gA G 155), .ref (gA G 156), .ref (gA G 157), .int 0, .int 0, .int 0]) := by rw [e58, va_up_ne _ _ (by omega)]; exact hc0
  replace hc1 : cs58 147 = .inl (gY G 14, 10, .inl (fun _ => 0)) := by rw [e58, va_up_ne _ _ (by omega)]; exact hc1
  replace hc2 : cs58 148 = .inl (gY G 14, 10, .inl (fun _ => 0)) := by rw [e58, va_up_ne _ _ (by omega)]; exact hc2
  replace hc3 : cs58 149 = .inl (gY G 14, 10, .inl (fun _ => 0)) := by rw [e58, va_up_ne _ _ (by omega)]; exact hc3
  replace hc4 : cs58 150 = .inl (gY G 14, 10, .inl (fun _ => 0)) := by rw [e58, va_up_ne _ _ (by omega)]; exact hc4
  replace hc5 : cs58 151 = .inl (gY G 14, 10, .inl (fun _ => 0)) := by rw [e58, va_up_ne _ _ (by omega)]; exact hc5
  replace hc6 : cs58 152 = refI G 22 152 4 := by rw [e58, va_up_ne _ _ (by omega)]; exact hc6
  replace hc7 : cs58 153 = refI G 17 153 7 := by rw [e58, va_up_ne _ _ (by omega)]; exact hc7
  replace hc8 : cs58 154 = .inl (gY G 14, 60, .inl (fun _ => 0)) := by rw [e58, va_up_ne _ _ (by omega)]; exact hc8
  replace hc9 : cs58 155 = .inl (gY G 14, 60, .inl (fun _ => 0)) := by rw [e58, va_up_ne _ _ (by omega)]; exact hc9
  replace hc10 : cs58 156 = .inl (gY G 14, 60, .inl (fun _ => 0)) := by rw [e58, va_up_ne _ _ (by omega)]; exact hc10
  replace hc11 : cs58 157 = .inl (gY G 14, 60, .inl (fun _ => 0)) := by rw [e58, va_up_ne _ _ (by omega)]; exact hc11
  have hc42 : cs58 188 = .inr (2, [.int 0, .int 0, .int 0, .int 0, .int 0, .int 0, .int 0, .int 0, .int 0, .int 0, .null]) := by rw [e58]; exact va_up_self _ _ _
  replace hr12 : ∀ n, 158 ≤ n → n < 188 → cs58 n = finY G n := fun n a b => by rw [e58, va_up_ne _ _ (by omega)]; exact hr12 n a b
  replace hlo : ∀ n, n < 146 → cs58 n = cs n := fun n a => by rw [e58, va_up_ne _ _ (by omega)] <;> exact hlo n a
  clear e58
  refine ry_dup dX3_init_145 rfl ?_
  refine ry_callIN (As := []) (n := 188) (mc := 1) (ms := 10) (Kc G 188 2 _) (fun _ _ h => by have := h.1; omega) mw_X2_init rfl win_X2_init wm_X3_60 rfl ⟨show d + 1 + 1 ≤ d + 2 by omega, show 30 * (d + 1) + 30 ≤ 30 * (d + 2) by omega, (Nat.le_of_ble_eq_true rfl), (Nat.le_of_ble_eq_true rfl)⟩ (Nat.le_of_ble_eq_true rfl) dX3_init_146 (kX2_init G d (show Is 188 2 by unfold Is; decide +kernel) hc42) (fun cs59 hK => ?_) rfl
  obtain ⟨-, hK1, hK2⟩ := hK
  clear hc42
  replace hc0 : cs59 146 = .inr (3, [.ref (gA G 8), .ref (gA G 10), .int 0, .int 0, .ref (gA G 147), .ref (gA G 148), .ref (gA G 149), .ref (gA G 150), .ref (gA G 151), .ref (gA G 152), .ref (gA G 153), .int 0, .int 0, .ref (gA G 154), .ref (gA G 155), .ref (gA G 156), .ref (gA G 157), .int 0, .int 0, .int 0]) := (hK1 _ (by omega)).trans hc0
  replace hc1 : cs59 147 = .inl (gY G 14, 10, .inl (fun _ => 0)) := (hK1 _ (by omega)).trans hc1
  replace hc2 : cs59 148 = .inl (gY G 14, 10, .inl (fun _ => 0)) := (hK1 _ (by omega)).trans hc2
  replace hc3 : cs59 149 = .inl (gY G 14, 10, .inl (fun _ => 0)) := (hK1 _ (by omega)).trans hc3
  replace hc4 : cs59 150 = .inl (gY G 14, 10, .inl (fun _ => 0)) := (hK1 _ (by omega)).trans hc4
  replace hc5 : cs59 151 = .inl (gY G 14, 10, .inl (fun _ => 0)) := (hK1 _ (by omega)).trans hc5
  replace hc6 : cs59 152 = refI G 22 152 4 := (hK1 _ (by omega)).trans hc6
  replace hc7 : cs59 153 = refI G 17 153 7 := (hK1 _ (by omega)).trans hc7
  replace hc8 : cs59 154 = .inl (gY G 14, 60, .inl (fun _ => 0)) := (hK1 _ (by omega)).trans hc8
  replace hc9 : cs59 155 = .inl (gY G 14, 60, .inl (fun _ => 0)) := (hK1 _ (by omega)).trans hc9
  replace hc10 : cs59 156 = .inl (gY G 14, 60, .inl (fun _ => 0)) := (hK1 _ (by omega)).trans hc10
  replace hc11 : cs59 157 = .inl (gY G 14, 60, .inl (fun _ => 0)) := (hK1 _ (by omega)).trans hc11
  replace hr12 : ∀ n, 158 ≤ n → n < 188 → cs59 n = finY G n := fun n a b => (hK1 n (by omega)).trans (hr12 n a b)
  replace hlo : ∀ n, n < 146 → cs59 n = cs n := fun n a => (hK1 n (by omega)).trans (hlo n a)
  replace hr12 : ∀ n, 158 ≤ n → n < 190 → cs59 n = finY G n := fun n a b => if h : n < 188 then hr12 n a h else hK2 n (by omega) (by omega)
  clear hK1 hK2
  refine ry_aast (κ := 17) (κ' := 2) (t0 := 4) (L := 30) (n := 153) (v := 188) (i := 7) (by omega) (by omega) rfl rfl hc7 (ln_at_3_7) ((hr12 188 (by omega) (by omega)).trans (fyE_2 (show Is 188 2 by unfold Is; decide +kernel))) (by decide) rfl (by decide +kernel) dX3_init_149 ?_
  refine ry_cs (fun cs60 e60 => ?_)
  replace hc0 : cs60 146 = .inr (3, [.ref (gA G 8), .ref (gA G 10), .int 0, .int 0, .ref (gA G 147), .ref (gA G 148), .ref (gA G 149), .ref (gA G 150), .ref (gA G 151), .ref (gA G 152), .ref (gA G 153), .int 0, .int 0, .ref (gA G 154), .ref (gA G 155), .ref (gA G 156), .ref (gA G 157), .int 0, .int 0, .int 0]) := by rw [e60, va_up_ne _ _ (by omega)]; exact hc0
  replace hc1 : cs60 147 = .inl (gY G 14, 10, .inl (fun _ => 0)) := by rw [e60, va_up_ne _ _ (by omega)]; exact hc1
  replace hc2 : cs60 148 = .inl (gY G 14, 10, .inl (fun _ => 0)) := by rw [e60, va_up_ne _ _ (by omega)]; exact hc2
  replace hc3 : cs60 149 = .inl (gY G 14, 10, .inl (fun _ => 0)) := by rw [e60, va_up_ne _ _ (by omega)]; exact hc3
  replace hc4 : cs60 150 = .inl (gY G 14, 10, .inl (fun _ => 0)) := by rw [e60, va_up_ne _ _ (by omega)]; exact hc4
  replace hc5 : cs60 151 = .inl (gY G 14, 10, .inl (fun _ => 0)) := by rw [e60, va_up_ne _ _ (by omega)]; exact hc5
  replace hc6 : cs60 152 = refI G 22 152 4 := by rw [e60, va_up_ne _ _ (by omega)]; exact hc6
  replace hc8 : cs60 154 = .inl (gY G 14, 60, .inl (fun _ => 0)) := by rw [e60, va_up_ne _ _ (by omega)]; exact hc8
  replace hc9 : cs60 155 = .inl (gY G 14, 60, .inl (fun _ => 0)) := by rw [e60, va_up_ne _ _ (by omega)]; exact hc9
  replace hc10 : cs60 156 = .inl (gY G 14, 60, .inl (fun _ => 0)) := by rw [e60, va_up_ne _ _ (by omega)]; exact hc10
  replace hc11 : cs60 157 = .inl (gY G 14, 60, .inl (fun _ => 0)) := by rw [e60, va_up_ne _ _ (by omega)]; exact hc11
  replace hc7 : cs60 153 = refI G 17 153 8 := by rw [e60]; exact va_up_self _ _ _
  replace hr12 : ∀ n, 158 ≤ n → n < 190 → cs60 n = finY G n := fun n a b => by rw [e60, va_up_ne _ _ (by omega)]; exact hr12 n a b
  replace hlo : ∀ n, n < 146 → cs60 n = cs n := fun n a => by rw [e60, va_up_ne _ _ (by omega)] <;> exact hlo n a
  clear e60
  refine ry_iinc 3 [(0, .ref (gA G 146)), (1, .ref (gA G 8)), (2, .ref (gA G 10)), (3, .int 8)] [1, 2, 3, 0] dX3_init_150 rfl rfl (by decide) rfl ?_
  refine ry_goto 131 dX3_init_153 (by decide) ?_
  refine ry_iload_n 3 dX3_init_131 rfl rfl ?_
  refine ry_bipush (v := 30) dX3_init_132 rfl ?_
  refine ry_icmp_ge 156 dX3_init_134 (by decide) (fun q => absurd q (by decide)) (fun _ => ?_)
  refine ry_aload_n 0 dX3_init_137 rfl rfl ?_
  refine ry_get fl_X3_35 (by omega) hc0 rfl dX3_init_138 ?_
  refine ry_iload_n 3 dX3_init_141 rfl rfl ?_
  refine ry_new (ci := 2) (fs := [.int 0, .int 0, .int 0, .int 0, .int 0, .int 0, .int 0, .int 0, .int 0, .int 0, .null]) tyX2 tyX2_ok rfl i_X2 wc_X3_33 wi_2 wn_2 bl_2 (Nat.le_of_ble_eq_true rfl) (Nat.le_of_ble_eq_true rfl) dX3_init_142 ?_
  refine ry_cs (fun cs61 e61 => ?_)
  replace hc0 : cs61 146 = .inr (3, [.ref (gA G 8), .ref (gA G 10), .int 0, .int 0, .ref (gA G 147), .ref (gA G 148), .ref (gA G 149), .ref (gA G 150), .ref (gA G 151), .ref (gA G 152), .ref (gA G 153), .int 0, .int 0, .ref (gA G 154), .ref (gA G 155), .ref (gA G 156), .ref (gA G 157), .int 0, .int 0, .int 0]) := by rw [e61, va_up_ne _ _ (by omega)]; exact hc0
  replace hc1 : cs61 147 = .inl (gY G 14, 10, .inl (fun _ => 0)) := by rw [e61, va_up_ne _ _ (by omega)]; exact hc1
  replace hc2 : cs61 148 = .inl (gY G 14, 10, .inl (fun _ => 0)) := by rw [e61, va_up_ne _ _ (by omega)]; exact hc2
  replace hc3 : cs61 149 = .inl (gY G 14, 10, .inl (fun _ => 0)) := by rw [e61, va_up_ne _ _ (by omega)]; exact hc3
  replace hc4 : cs61 150 = .inl (gY G 14, 10, .inl (fun _ => 0)) := by rw [e61, va_up_ne _ _ (by omega)]; exact hc4
  replace hc5 : cs61 151 = .inl (gY G 14, 10, .inl (fun _ => 0)) := by rw [e61, va_up_ne _ _ (by omega)]; exact hc5
  replace hc6 : cs61 152 = refI G 22 152 4 := by rw [e61, va_up_ne _ _ (by omega)]; exact hc6
  replace hc7 : cs61 153 = refI G 17 153 8 := by rw [e61, va_up_ne _ _ (by omega)]; exact hc7
  replace hc8 : cs61 154 = .inl (gY G 14, 60, .inl (fun _ => 0)) := by rw [e61, va_up_ne _ _ (by omega)]; exact hc8
  replace hc9 : cs61 155 = .inl (gY G 14, 60, .inl (fun _ => 0)) := by rw [e61, va_up_ne _ _ (by omega)]; exact hc9
  replace hc10 : cs61 156 = .inl (gY G 14, 60, .inl (fun _ => 0)) := by rw [e61, va_up_ne _ _ (by omega)]; exact hc10
  replace hc11 : cs61 157 = .inl (gY G 14, 60, .inl (fun _ => 0)) := by rw [e61, va_up_ne _ _ (by omega)]; exact hc11
  have hc44 : cs61 190 = .inr (2, [.int 0, .int 0, .int 0, .int 0, .int 0, .int 0, .int 0, .int 0, .int 0, .int 0, .null]) := by rw [e61]; exact va_up_self _ _ _
  replace hr12 : ∀ n, 158 ≤ n → n < 190 → cs61 n = finY G n := fun n a b => by rw [e61, va_up_ne _ _ (by omega)]; exact hr12 n a b
  replace hlo : ∀ n, n < 146 → cs61 n = cs n := fun n a => by rw [e61, va_up_ne _ _ (by omega)] <;> exact hlo n a
  clear e61
  refine ry_dup dX3_init_145 rfl ?_
  refine ry_callIN (As := []) (n := 190) (mc := 1) (ms := 10) (Kc G 190 2 _) (fun _ _ h => by have := h.1; omega) mw_X2_init rfl win_X2_init wm_X3_60 rfl ⟨show d + 1 + 1 ≤ d + 2 by omega, show 30 * (d + 1) + 30 ≤ 30 * (d + 2) by omega, (Nat.le_of_ble_eq_true rfl), (Nat.le_of_ble_eq_true rfl)⟩ (Nat.le_of_ble_eq_true rfl) dX3_init_146 (kX2_init G d (show Is 190 2 by unfold Is; decide +kernel) hc44) (fun cs62 hK => ?_) rfl
  obtain ⟨-, hK1, hK2⟩ := hK
  clear hc44
  replace hc0 : cs62 146 = .inr (3, [.ref (gA G 8), .ref (gA G 10), .int 0, .int 0, .ref (gA G 147), .ref (gA G 148), .ref (gA G 149), .ref (gA G 150), .ref (gA G 151), .ref (gA G 152), .ref (gA G 153), .int 0, .int 0, .ref (gA G 154), .ref (gA G 155), .ref (gA G 156), .ref (gA G 157), .int 0, .int 0, .int 0]) := (hK1 _ (by omega)).trans hc0
  replace hc1 : cs62 147 = .inl (gY G 14, 10, .inl (fun _ => 0)) := (hK1 _ (by omega)).trans hc1
  replace hc2 : cs62 148 = .inl (gY G 14, 10, .inl (fun _ => 0)) := (hK1 _ (by omega)).trans hc2
  replace hc3 : cs62 149 = .inl (gY G 14, 10, .inl (fun _ => 0)) := (hK1 _ (by omega)).trans hc3
  replace hc4 : cs62 150 = .inl (gY G 14, 10, .inl (fun _ => 0)) := (hK1 _ (by omega)).trans hc4
  replace hc5 : cs62 151 = .inl (gY G 14, 10, .inl (fun _ => 0)) := (hK1 _ (by omega)).trans hc5
  replace hc6 : cs62 152 = refI G 22 152 4 := (hK1 _ (by omega)).trans hc6
  replace hc7 : cs62 153 = refI G 17 153 8 := (hK1 _ (by omega)).trans hc7
  replace hc8 : cs62 154 = .inl (gY G 14, 60, .inl (fun _ => 0)) := (hK1 _ (by omega)).trans hc8
  replace hc9 : cs62 155 = .inl (gY G 14, 60, .inl (fun _ => 0)) := (hK1 _ (by omega)).trans hc9
  replace hc10 : cs62 156 = .inl (gY G 14, 60, .inl (fun _ => 0)) := (hK1 _ (by omega)).trans hc10
  replace hc11 : cs62 157 = .inl (gY G 14, 60, .inl (fun _ => 0)) := (hK1 _ (by omega)).trans hc11
  replace hr12 : ∀ n, 158 ≤ n → n < 190 → cs62 n = finY G n := fun n a b => (hK1 n (by omega)).trans (hr12 n a b)
  replace hlo : ∀ n, n < 146 → cs62 n = cs n := fun n a => (hK1 n (by omega)).trans (hlo n a)
  replace hr12 : ∀ n, 158 ≤ n → n < 192 → cs62 n = finY G n := fun n a b => if h : n < 190 then hr12 n a h else hK2 n (by omega) (by omega)
  clear hK1 hK2
  refine ry_aast (κ := 17) (κ' := 2) (t0 := 4) (L := 30) (n := 153) (v := 190) (i := 8) (by omega) (by omega) rfl rfl hc7 (ln_at_3_7) ((hr12 190 (by omega) (by omega)).trans (fyE_2 (show Is 190 2 by unfold Is; decide +kernel))) (by decide) rfl (by decide +kernel) dX3_init_149 ?_
  refine ry_cs (fun cs63 e63 => ?_)
  replace hc0 : cs63 146 = .inr (3, [.ref (gA G 8), .ref (gA G 10), .int 0, .int 0, .ref (gA G 147), .ref (gA G 148), .ref (gA G 149), .ref (gA G 150), .ref (gA G 151), .ref (gA G 152), .ref (gA G 153), .int 0, .int 0, .ref (gA G 154), .ref (gA G 155), .ref (gA G 156), .ref (gA G 157), .int 0, .int 0, .int 0]) := by rw [e63, va_up_ne _ _ (by omega)]; exact hc0
  replace hc1 : cs63 147 = .inl (gY G 14, 10, .inl (fun _ => 0)) := by rw [e63, va_up_ne _ _ (by omega)]; exact hc1
  replace hc2 : cs63 148 = .inl (gY G 14, 10, .inl (fun _ => 0)) := by rw [e63, va_up_ne _ _ (by omega)]; exact hc2
  replace hc3 : cs63 149 = .inl (gY G 14, 10, .inl (fun _ => 0)) := by rw [e63, va_up_ne _ _ (by omega)]; exact hc3
  replace hc4 : cs63 150 = .inl (gY G 14, 10, .inl (fun _ => 0)) := by rw [e63, va_up_ne _ _ (by omega)]; exact hc4
  replace hc5 : cs63 151 = .inl (gY G 14, 10, .inl (fun _ => 0)) := by rw [e63, va_up_ne _ _ (by omega)]; exact hc5
  replace hc6 : cs63 152 = refI G 22 152 4 := by rw [e63, va_up_ne _ _ (by omega)]; exact hc6
  replace hc8 : cs63 154 = .inl (gY G 14, 60, .inl (fun _ => 0)) := by rw [e63, va_up_ne _ _ (by omega)]; exact hc8
  replace hc9 : cs63 155 = .inl (gY G 14, 60, .inl (fun _ => 0)) := by rw [e63, va_up_ne _ _ (by omega)]; exact hc9
  replace hc10 : cs63 156 = .inl (gY G 14, 60, .inl (fun _ => 0)) := by rw [e63, va_up_ne _ _ (by omega)]; exact hc10
  replace hc11 : cs63 157 = .inl (gY G 14, 60, .inl (fun _ => 0)) := by rw [e63, va_up_ne _ _ (by omega)]; exact hc11
  replace hc7 : cs63 153 = refI G 17 153 9 := by rw [e63]; exact va_up_self _ _ _
  replace hr12 : ∀ n, 158 ≤ n → n < 192 → cs63 n = finY G n := fun n a b => by rw [e63, va_up_ne _ _ (by omega)]; exact hr12 n a b
  replace hlo : ∀ n, n < 146 → cs63 n = cs n := fun n a => by rw [e63, va_up_ne _ _ (by omega)] <;> exact hlo n a
  clear e63
  refine ry_iinc 3 [(0, .ref (gA G 146)), (1, .ref (gA G 8)), (2, .ref (gA G 10)), (3, .int 9)] [1, 2, 3, 0] dX3_init_150 rfl rfl (by decide) rfl ?_
  refine ry_goto 131 dX3_init_153 (by decide) ?_
  refine ry_iload_n 3 dX3_init_131 rfl rfl ?_
  refine ry_bipush (v := 30) dX3_init_132 rfl ?_
  refine ry_icmp_ge 156 dX3_init_134 (by decide) (fun q => absurd q (by decide)) (fun _ => ?_)
  refine ry_aload_n 0 dX3_init_137 rfl rfl ?_
  refine ry_get fl_X3_35 (by omega) hc0 rfl dX3_init_138 ?_
  refine ry_iload_n 3 dX3_init_141 rfl rfl ?_
  refine ry_new (ci := 2) (fs := [.int 0, .int 0, .int 0, .int 0, .int 0, .int 0, .int 0, .int 0, .int 0, .int 0, .null]) tyX2 tyX2_ok rfl i_X2 wc_X3_33 wi_2 wn_2 bl_2 (Nat.le_of_ble_eq_true rfl) (Nat.le_of_ble_eq_true rfl) dX3_init_142 ?_
  refine ry_cs (fun cs64 e64 => ?_)
  replace hc0 : cs64 146 = .inr (3, [.ref (gA G 8), .ref (gA G 10), .int 0, .int 0, .ref (gA G 147), .ref (gA G 148), .ref (gA G 149), .ref (gA G 150), .ref (gA G 151), .ref (gA G 152), .ref (gA G 153), .int 0, .int 0, .ref (gA G 154), .ref (gA G 155), .ref (gA G 156), .ref (gA G 157), .int 0, .int 0, .int 0]) := by rw [e64, va_up_ne _ _ (by omega)]; exact hc0
  replace hc1 : cs64 147 = .inl (gY G 14, 10, .inl (fun _ => 0)) := by rw [e64, va_up_ne _ _ (by omega)]; exact hc1
  replace hc2 : cs64 148 = .inl (gY G 14, 10, .inl (fun _ => 0)) := by rw [e64, va_up_ne _ _ (by omega)]; exact hc2
  replace hc3 : cs64 149 = .inl (gY G 14, 10, .inl (fun _ => 0)) := by rw [e64, va_up_ne _ _ (by omega)]; exact hc3
  replace hc4 : cs64 150 = .inl (gY G 14, 10, .inl (fun _ => 0)) := by rw [e64, va_up_ne _ _ (by omega)]; exact hc4
  replace hc5 : cs64 151 = .inl (gY G 14, 10, .inl (fun _ => 0)) := by rw [e64, va_up_ne _ _ (by omega)]; exact hc5
  replace hc6 : cs64 152 = refI G 22 152 4 := by rw [e64, va_up_ne _ _ (by omega)]; exact hc6
  replace hc7 : cs64 153 = refI G 17 153 9 := by rw [e64, va_up_ne _ _ (by omega)]; exact hc7
  replace hc8 : cs64 154 = .inl (gY G 14, 60, .inl (fun _ => 0)) := by rw [e64, va_up_ne _ _ (by omega)]; exact hc8
  replace hc9 : cs64 155 = .inl (gY G 14, 60, .inl (fun _ => 0)) := by rw [e64, va_up_ne _ _ (by omega)]; exact hc9
  replace hc10 : cs64 156 = .inl (gY G 14, 60, .inl (fun _ => 0)) := by rw [e64, va_up_ne _ _ (by omega)]; exact hc10
  replace hc11 : cs64 157 = .inl (gY G 14, 60, .inl (fun _ => 0)) := by rw [e64, va_up_ne _ _ (by omega)]; exact hc11
  have hc46 : cs64 192 = .inr (2, [.int 0, .int 0, .int 0, .int 0, .int 0, .int 0, .int 0, .int 0, .int 0, .int 0, .null]) := by rw [e64]; exact va_up_self _ _ _
  replace hr12 : ∀ n, 158 ≤ n → n < 192 → cs64 n = finY G n := fun n a b => by rw [e64, va_up_ne _ _ (by omega)]; exact hr12 n a b
  replace hlo : ∀ n, n < 146 → cs64 n = cs n := fun n a => by rw [e64, va_up_ne _ _ (by omega)] <;> exact hlo n a
  clear e64
  refine ry_dup dX3_init_145 rfl ?_
  refine ry_callIN (As := []) (n := 192) (mc := 1) (ms := 10) (Kc G 192 2 _) (fun _ _ h => by have := h.1; omega) mw_X2_init rfl win_X2_init wm_X3_60 rfl ⟨show d + 1 + 1 ≤ d + 2 by omega, show 30 * (d + 1) + 30 ≤ 30 * (d + 2) by omega, (Nat.le_of_ble_eq_true rfl), (Nat.le_of_ble_eq_true rfl)⟩ (Nat.le_of_ble_eq_true rfl) dX3_init_146 (kX2_init G d (show Is 192 2 by unfold Is; decide +kernel) hc46) (fun cs65 hK => ?_) rfl
  obtain ⟨-, hK1, hK2⟩ := hK
  clear hc46
  replace hc0 : cs65 146 = .inr (3, [.ref (gA G 8), .ref (gA G 10), .int 0, .int 0, .ref (gA G 147), .ref (gA G 148), .ref (gA G 149), .ref (gA G 150), .ref (gA G 151), .ref (gA G 152), .ref (gA G 153), .int 0, .int 0, .ref (gA G 154), .ref (gA G 155), .ref (gA G 156), .ref (gA G 157), .int 0, .int 0, .int 0]) := (hK1 _ (by omega)).trans hc0
  replace hc1 : cs65 147 = .inl (gY G 14, 10, .inl (fun _ => 0)) := (hK1 _ (by omega)).trans hc1
  replace hc2 : cs65 148 = .inl (gY G 14, 10, .inl (fun _ => 0)) := (hK1 _ (by omega)).trans hc2
  replace hc3 : cs65 149 = .inl (gY G 14, 10, .inl (fun _ => 0)) := (hK1 _ (by omega)).trans hc3
  replace hc4 : cs65 150 = .inl (gY G 14, 10, .inl (fun _ => 0)) := (hK1 _ (by omega)).trans hc4
  replace hc5 : cs65 151 = .inl (gY G 14, 10, .inl (fun _ => 0)) := (hK1 _ (by omega)).trans hc5
  replace hc6 : cs65 152 = refI G 22 152 4 := (hK1 _ (by omega)).trans hc6
  replace hc7 : cs65 153 = refI G 17 153 9 := (hK1 _ (by omega)).trans hc7
  replace hc8 : cs65 154 = .inl (gY G 14, 60, .inl (fun _ => 0)) := (hK1 _ (by omega)).trans hc8
  replace hc9 : cs65 155 = .inl (gY G 14, 60, .inl (fun _ => 0)) := (hK1 _ (by omega)).trans hc9
  replace hc10 : cs65 156 = .inl (gY G 14, 60, .inl (fun _ => 0)) := (hK1 _ (by omega)).trans hc10
  replace hc11 : cs65 157 = .inl (gY G 14, 60, .inl (fun _ => 0)) := (hK1 _ (by omega)).trans hc11
  replace hr12 : ∀ n, 158 ≤ n → n < 192 → cs65 n = finY G n := fun n a b => (hK1 n (by omega)).trans (hr12 n a b)
  replace hlo : ∀ n, n < 146 → cs65 n = cs n := fun n a => (hK1 n (by omega)).trans (hlo n a)
  replace hr12 : ∀ n, 158 ≤ n → n < 194 → cs65 n = finY G n := fun n a b => if h : n < 192 then hr12 n a h else hK2 n (by omega) (by omega)
  clear hK1 hK2
  refine ry_aast (κ := 17) (κ' := 2) (t0 := 4) (L := 30) (n := 153) (v := 192) (i := 9) (by omega) (by omega) rfl rfl hc7 (ln_at_3_7) ((hr12 192 (by omega) (by omega)).trans (fyE_2 (show Is 192 2 by unfold Is; decide +kernel))) (by decide) rfl (by decide +kernel) dX3_init_149 ?_
  refine ry_cs (fun cs66 e66 => ?_)
  replace hc0 : cs66 146 = .inr (3, [.ref (gA G 8), .ref (gA G 10), .int 0, .int 0, .ref (gA G 147), .ref (gA G 148), .ref (gA G 149), .ref (gA G 150), .ref (gA G 151), .ref (gA G 152), .ref (gA G 153), .int 0, .int 0, .ref (gA G 154), .ref (gA G 155), .ref (gA G 156), .ref (gA G 157), .int 0, .int 0, .int 0]) := by rw [e66, va_up_ne _ _ (by omega)]; exact hc0
  replace hc1 : cs66 147 = .inl (gY G 14, 10, .inl (fun _ => 0)) := by rw [e66, va_up_ne _ _ (by omega)]; exact hc1
  replace hc2 : cs66 148 = .inl (gY G 14, 10, .inl (fun _ => 0)) := by rw [e66, va_up_ne _ _ (by omega)]; exact hc2
  replace hc3 : cs66 149 = .inl (gY G 14, 10, .inl (fun _ => 0)) := by rw [e66, va_up_ne _ _ (by omega)]; exact hc3
  replace hc4 : cs66 150 = .inl (gY G 14, 10, .inl (fun _ => 0)) := by rw [e66, va_up_ne _ _ (by omega)]; exact hc4
  replace hc5 : cs66 151 = .inl (gY G 14, 10, .inl (fun _ => 0)) := by rw [e66, va_up_ne _ _ (by omega)]; exact hc5
  replace hc6 : cs66 152 = refI G 22 152 4 := by rw [e66, va_up_ne _ _ (by omega)]; exact hc6
  replace hc8 : cs66 154 = .inl (gY G 14, 60, .inl (fun _ => 0)) := by rw [e66, va_up_ne _ _ (by omega)]; exact hc8
  replace hc9 : cs66 155 = .inl (gY G 14, 60, .inl (fun _ => 0)) := by rw [e66, va_up_ne _ _ (by omega)]; exact hc9
  replace hc10 : cs66 156 = .inl (gY G 14, 60, .inl (fun _ => 0)) := by rw [e66, va_up_ne _ _ (by omega)]; exact hc10
  replace hc11 : cs66 157 = .inl (gY G 14, 60, .inl (fun _ => 0)) := by rw [e66, va_up_ne _ _ (by omega)]; exact hc11
  replace hc7 : cs66 153 = refI G 17 153 10 := by rw [e66]; exact va_up_self _ _ _
  replace hr12 : ∀ n, 158 ≤ n → n < 194 → cs66 n = finY G n := fun n a b => by rw [e66, va_up_ne _ _ (by omega)]; exact hr12 n a b
  replace hlo : ∀ n, n < 146 → cs66 n = cs n := fun n a => by rw [e66, va_up_ne _ _ (by omega)] <;> exact hlo n a
  clear e66
  refine ry_iinc 3 [(0, .ref (gA G 146)), (1, .ref (gA G 8)), (2, .ref (gA G 10)), (3, .int 10)] [1, 2, 3, 0] dX3_init_150 rfl rfl (by decide) rfl ?_
  refine ry_goto 131 dX3_init_153 (by decide) ?_
  refine ry_iload_n 3 dX3_init_131 rfl rfl ?_
  refine ry_bipush (v := 30) dX3_init_132 rfl ?_
  refine ry_icmp_ge 156 dX3_init_134 (by decide) (fun q => absurd q (by decide)) (fun _ => ?_)
  refine ry_aload_n 0 dX3_init_137 rfl rfl ?_
  refine ry_get fl_X3_35 (by omega) hc0 rfl dX3_init_138 ?_
  refine ry_iload_n 3 dX3_init_141 rfl rfl ?_
  refine ry_new (ci := 2) (fs := [.int 0, .int 0, .int 0, .int 0, .int 0, .int 0, .int 0, .int 0, .int 0, .int 0, .null]) tyX2 tyX2_ok rfl i_X2 wc_X3_33 wi_2 wn_2 bl_2 (Nat.le_of_ble_eq_true rfl) (Nat.le_of_ble_eq_true rfl) dX3_init_142 ?_
  refine ry_cs (fun cs67 e67 => ?_)
  replace hc0 : cs67 146 = .inr (3, [.ref (gA G 8), .ref (gA G 10), .int 0, .int 0, .ref (gA G 147), .ref (gA G 148), .ref (gA G 149), .ref (gA G 150), .ref (gA G 151), .ref (gA G 152), .ref (gA G 153), .int 0, .int 0, .ref (gA G 154), .ref (gA G 155), .ref (gA G 156), .ref (gA G 157), .int 0, .int 0, .int 0]) := by rw [e67, va_up_ne _ _ (by omega)]; exact hc0
  replace hc1 : cs67 147 = .inl (gY G 14, 10, .inl (fun _ => 0)) := by rw [e67, va_up_ne _ _ (by omega)]; exact hc1
  replace hc2 : cs67 148 = .inl (gY G 14, 10, .inl (fun _ => 0)) := by rw [e67, va_up_ne _ _ (by omega)]; exact hc2
  replace hc3 : cs67 149 = .inl (gY G 14, 10, .inl (fun _ => 0)) := by rw [e67, va_up_ne _ _ (by omega)]; exact hc3
  replace hc4 : cs67 150 = .inl (gY G 14, 10, .inl (fun _ => 0)) := by rw [e67, va_up_ne _ _ (by omega)]; exact hc4
  replace hc5 : cs67 151 = .inl (gY G 14, 10, .inl (fun _ => 0)) := by rw [e67, va_up_ne _ _ (by omega)]; exact hc5
  replace hc6 : cs67 152 = refI G 22 152 4 := by rw [e67, va_up_ne _ _ (by omega)]; exact hc6
  replace hc7 : cs67 153 = refI G 17 153 10 := by rw [e67, va_up_ne _ _ (by omega)]; exact hc7
  replace hc8 : cs67 154 = .inl (gY G 14, 60, .inl (fun _ => 0)) := by rw [e67, va_up_ne _ _ (by omega)]; exact hc8
  replace hc9 : cs67 155 = .inl (gY G 14, 60, .inl (fun _ => 0)) := by rw [e67, va_up_ne _ _ (by omega)]; exact hc9
  replace hc10 : cs67 156 = .inl (gY G 14, 60, .inl (fun _ => 0)) := by rw [e67, va_up_ne _ _ (by omega)]; exact hc10
  replace hc11 : cs67 157 = .inl (gY G 14, 60, .inl (fun _ => 0)) := by rw [e67, va_up_ne _ _ (by omega)]; exact hc11
  have hc48 : cs67 194 = .inr (2, [.int 0, .int 0, .int 0, .int 0, .int 0, .int 0, .int 0, .int 0, .int 0, .int 0, .null]) := by rw [e67]; exact va_up_self _ _ _
  replace hr12 : ∀ n, 158 ≤ n → n < 194 → cs67 n = finY G n := fun n a b => by rw [e67, va_up_ne _ _ (by omega)]; exact hr12 n a b
  replace hlo : ∀ n, n < 146 → cs67 n = cs n := fun n a => by rw [e67, va_up_ne _ _ (by omega)] <;> exact hlo n a
  clear e67
  refine ry_dup dX3_init_145 rfl ?_
  refine ry_callIN (As := []) (n := 194) (mc := 1) (ms := 10) (Kc G 194 2 _) (fun _ _ h => by have := h.1; omega) mw_X2_init rfl win_X2_init wm_X3_60 rfl ⟨show d + 1 + 1 ≤ d + 2 by omega, show 30 * (d + 1) + 30 ≤ 30 * (d + 2) by omega, (Nat.le_of_ble_eq_true rfl), (Nat.le_of_ble_eq_true rfl)⟩ (Nat.le_of_ble_eq_true rfl) dX3_init_146 (kX2_init G d (show Is 194 2 by unfold Is; decide +kernel) hc48) (fun cs68 hK => ?_) rfl
  obtain ⟨-, hK1, hK2⟩ := hK
  clear hc48
  replace hc0 : cs68 146 = .inr (3, [.ref (gA G 8), .ref (gA G 10), .int 0, .int 0, .ref (gA G 147), .ref (gA G 148), .ref (gA G 149), .ref (gA G 150), .ref (gA G 151), .ref (gA G 152), .ref (gA G 153), .int 0, .int 0, .ref (gA G 154), .ref (gA G 155), .ref (gA G 156), .ref (gA G 157), .int 0, .int 0, .int 0]) := (hK1 _ (by omega)).trans hc0
  replace hc1 : cs68 147 = .inl (gY G 14, 10, .inl (fun _ => 0)) := (hK1 _ (by omega)).trans hc1
  replace hc2 : cs68 148 = .inl (gY G 14, 10, .inl (fun _ => 0)) := (hK1 _ (by omega)).trans hc2
  replace hc3 : cs68 149 = .inl (gY G 14, 10, .inl (fun _ => 0)) := (hK1 _ (by omega)).trans hc3
  replace hc4 : cs68 150 = .inl (gY G 14, 10, .inl (fun _ => 0)) := (hK1 _ (by omega)).trans hc4
  replace hc5 : cs68 151 = .inl (gY G 14, 10, .inl (fun _ => 0)) := (hK1 _ (by omega)).trans hc5
  replace hc6 : cs68 152 = refI G 22 152 4 := (hK1 _ (by omega)).trans hc6
  replace hc7 : cs68 153 = refI G 17 153 10 := (hK1 _ (by omega)).trans hc7
  replace hc8 : cs68 154 = .inl (gY G 14, 60, .inl (fun _ => 0)) := (hK1 _ (by omega)).trans hc8
  replace hc9 : cs68 155 = .inl (gY G 14, 60, .inl (fun _ => 0)) := (hK1 _ (by omega)).trans hc9
  replace hc10 : cs68 156 = .inl (gY G 14, 60, .inl (fun _ => 0)) := (hK1 _ (by omega)).trans hc10
  replace hc11 : cs68 157 = .inl (gY G 14, 60, .inl (fun _ => 0)) := (hK1 _ (by omega)).trans hc11
  replace hr12 : ∀ n, 158 ≤ n → n < 194 → cs68 n = finY G n := fun n a b => (hK1 n (by omega)).trans (hr12 n a b)
  replace hlo : ∀ n, n < 146 → cs68 n = cs n := fun n a => (hK1 n (by omega)).trans (hlo n a)
  replace hr12 : ∀ n, 158 ≤ n → n < 196 → cs68 n = finY G n := fun n a b => if h : n < 194 then hr12 n a h else hK2 n (by omega) (by omega)
  clear hK1 hK2
  refine ry_aast (κ := 17) (κ' := 2) (t0 := 4) (L := 30) (n := 153) (v := 194) (i := 10) (by omega) (by omega) rfl rfl hc7 (ln_at_3_7) ((hr12 194 (by omega) (by omega)).trans (fyE_2 (show Is 194 2 by unfold Is; decide +kernel))) (by decide) rfl (by decide +kernel) dX3_init_149 ?_
  refine ry_cs (fun cs69 e69 => ?_)
  replace hc0 : cs69 146 = .inr (3, [.ref (gA G 8), .ref (gA G 10), .int 0, .int 0, .ref (gA G 147), .ref (gA G 148), .ref (gA G 149), .ref (gA G 150), .ref (gA G 151), .ref (gA G 152), .ref (gA G 153), .int 0, .int 0, .ref (gA G 154), .ref (gA G 155), .ref (gA G 156), .ref (gA G 157), .int 0, .int 0, .int 0]) := by rw [e69, va_up_ne _ _ (by omega)]; exact hc0
  replace hc1 : cs69 147 = .inl (gY G 14, 10, .inl (fun _ => 0)) := by rw [e69, va_up_ne _ _ (by omega)]; exact hc1
  replace hc2 : cs69 148 = .inl (gY G 14, 10, .inl (fun _ => 0)) := by rw [e69, va_up_ne _ _ (by omega)]; exact hc2
  replace hc3 : cs69 149 = .inl (gY G 14, 10, .inl (fun _ => 0)) := by rw [e69, va_up_ne _ _ (by omega)]; exact hc3
  replace hc4 : cs69 150 = .inl (gY G 14, 10, .inl (fun _ => 0)) := by rw [e69, va_up_ne _ _ (by omega)]; exact hc4
  replace hc5 : cs69 151 = .inl (gY G 14, 10, .inl (fun _ => 0)) := by rw [e69, va_up_ne _ _ (by omega)]; exact hc5
  replace hc6 : cs69 152 = refI G 22 152 4 := by rw [e69, va_up_ne _ _ (by omega)]; exact hc6
  replace hc8 : cs69 154 = .inl (gY G 14, 60, .inl (fun _ => 0)) := by rw [e69, va_up_ne _ _ (by omega)]; exact hc8
  replace hc9 : cs69 155 = .inl (gY G 14, 60, .inl (fun _ => 0)) := by rw [e69, va_up_ne _ _ (by omega)]; exact hc9
  replace hc10 : cs69 156 = .inl (gY G 14, 60, .inl (fun _ => 0)) := by rw [e69, va_up_ne _ _ (by omega)]; exact hc10
  replace hc11 : cs69 157 = .inl (gY G 14, 60, .inl (fun _ => 0)) := by rw [e69, va_up_ne _ _ (by omega)]; exact hc11
  replace hc7 : cs69 153 = refI G 17 153 11 := by rw [e69]; exact va_up_self _ _ _
  replace hr12 : ∀ n, 158 ≤ n → n < 196 → cs69 n = finY G n := fun n a b => by rw [e69, va_up_ne _ _ (by omega)]; exact hr12 n a b
  replace hlo : ∀ n, n < 146 → cs69 n = cs n := fun n a => by rw [e69, va_up_ne _ _ (by omega)] <;> exact hlo n a
  clear e69
  refine ry_iinc 3 [(0, .ref (gA G 146)), (1, .ref (gA G 8)), (2, .ref (gA G 10)), (3, .int 11)] [1, 2, 3, 0] dX3_init_150 rfl rfl (by decide) rfl ?_
  refine ry_goto 131 dX3_init_153 (by decide) ?_
  refine ry_iload_n 3 dX3_init_131 rfl rfl ?_
  refine ry_bipush (v := 30) dX3_init_132 rfl ?_
  refine ry_icmp_ge 156 dX3_init_134 (by decide) (fun q => absurd q (by decide)) (fun _ => ?_)
  refine ry_aload_n 0 dX3_init_137 rfl rfl ?_
  refine ry_get fl_X3_35 (by omega) hc0 rfl dX3_init_138 ?_
  refine ry_iload_n 3 dX3_init_141 rfl rfl ?_
  refine ry_new (ci := 2) (fs := [.int 0, .int 0, .int 0, .int 0, .int 0, .int 0, .int 0, .int 0, .int 0, .int 0, .null]) tyX2 tyX2_ok rfl i_X2 wc_X3_33 wi_2 wn_2 bl_2 (Nat.le_of_ble_eq_true rfl) (Nat.le_of_ble_eq_true rfl) dX3_init_142 ?_
  refine ry_cs (fun cs70 e70 => ?_)
  replace hc0 : cs70 146 = .inr (3, [.ref (gA G 8), .ref (gA G 10), .int 0, .int 0, .ref (gA G 147), .ref (gA G 148), .ref (gA G 149), .ref (gA G 150), .ref (gA G 151), .ref (gA G 152), .ref (gA G 153), .int 0, .int 0, .ref (gA G 154), .ref (gA G 155), .ref (gA G 156), .ref (gA G 157), .int 0, .int 0, .int 0]) := by rw [e70, va_up_ne _ _ (by omega)]; exact hc0
  replace hc1 : cs70 147 = .inl (gY G 14, 10, .inl (fun _ => 0)) := by rw [e70, va_up_ne _ _ (by omega)]; exact hc1
  replace hc2 : cs70 148 = .inl (gY G 14, 10, .inl (fun _ => 0)) := by rw [e70, va_up_ne _ _ (by omega)]; exact hc2
  replace hc3 : cs70 149 = .inl (gY G 14, 10, .inl (fun _ => 0)) := by rw [e70, va_up_ne _ _ (by omega)]; exact hc3
  replace hc4 : cs70 150 = .inl (gY G 14, 10, .inl (fun _ => 0)) := by rw [e70, va_up_ne _ _ (by omega)]; exact hc4
  replace hc5 : cs70 151 = .inl (gY G 14, 10, .inl (fun _ => 0)) := by rw [e70, va_up_ne _ _ (by omega)]; exact hc5
  replace hc6 : cs70 152 = refI G 22 152 4 := by rw [e70, va_up_ne _ _ (by omega)]; exact hc6
  replace hc7 : cs70 153 = refI G 17 153 11 := by rw [e70, va_up_ne _ _ (by omega)]; exact hc7
  replace hc8 : cs70 154 = .inl (gY G 14, 60, .inl (fun _ => 0)) := by rw [e70, va_up_ne _ _ (by omega)]; exact hc8
  replace hc9 : cs70 155 = .inl (gY G 14, 60, .inl (fun _ => 0)) := by rw [e70, va_up_ne _ _ (by omega)]; exact hc9
  replace hc10 : cs70 156 = .inl (gY G 14, 60, .inl (fun _ => 0)) := by rw [e70, va_up_ne _ _ (by omega)]; exact hc10
  replace hc11 : cs70 157 = .inl (gY G 14, 60, .inl (fun _ => 0)) := by rw [e70, va_up_ne _ _ (by omega)]; exact hc11
  have hc50 : cs70 196 = .inr (2, [.int 0, .int 0, .int 0, .int 0, .int 0, .int 0, .int 0, .int 0, .int 0, .int 0, .null]) := by rw [e70]; exact va_up_self _ _ _
  replace hr12 : ∀ n, 158 ≤ n → n < 196 → cs70 n = finY G n := fun n a b => by rw [e70, va_up_ne _ _ (by omega)]; exact hr12 n a b
  replace hlo : ∀ n, n < 146 → cs70 n = cs n := fun n a => by rw [e70, va_up_ne _ _ (by omega)] <;> exact hlo n a
  clear e70
  refine ry_dup dX3_init_145 rfl ?_
  refine ry_callIN (As := []) (n := 196) (mc := 1) (ms := 10) (Kc G 196 2 _) (fun _ _ h => by have := h.1; omega) mw_X2_init rfl win_X2_init wm_X3_60 rfl ⟨show d + 1 + 1 ≤ d + 2 by omega, show 30 * (d + 1) + 30 ≤ 30 * (d + 2) by omega, (Nat.le_of_ble_eq_true rfl), (Nat.le_of_ble_eq_true rfl)⟩ (Nat.le_of_ble_eq_true rfl) dX3_init_146 (kX2_init G d (show Is 196 2 by unfold Is; decide +kernel) hc50) (fun cs71 hK => ?_) rfl
  obtain ⟨-, hK1, hK2⟩ := hK
  clear hc50
  replace hc0 : cs71 146 = .inr (3, [.ref (gA G 8), .ref (gA G 10), .int 0, .int 0, .ref (gA G 147), .ref (gA G 148), .ref (gA G 149), .ref (gA G 150), .ref (gA G 151), .ref (gA G 152), .ref (gA G 153), .int 0, .int 0, .ref (gA G 154), .ref (gA G 155), .ref (gA G 156), .ref (gA G 157), .int 0, .int 0, .int 0]) := (hK1 _ (by omega)).trans hc0
  replace hc1 : cs71 147 = .inl (gY G 14, 10, .inl (fun _ => 0)) := (hK1 _ (by omega)).trans hc1
  replace hc2 : cs71 148 = .inl (gY G 14, 10, .inl (fun _ => 0)) := (hK1 _ (by omega)).trans hc2
  replace hc3 : cs71 149 = .inl (gY G 14, 10, .inl (fun _ => 0)) := (hK1 _ (by omega)).trans hc3
  replace hc4 : cs71 150 = .inl (gY G 14, 10, .inl (fun _ => 0)) := (hK1 _ (by omega)).trans hc4
  replace hc5 : cs71 151 = .inl (gY G 14, 10, .inl (fun _ => 0)) := (hK1 _ (by omega)).trans hc5
  replace hc6 : cs71 152 = refI G 22 152 4 := (hK1 _ (by omega)).trans hc6
  replace hc7 : cs71 153 = refI G 17 153 11 := (hK1 _ (by omega)).trans hc7
  replace hc8 : cs71 154 = .inl (gY G 14, 60, .inl (fun _ => 0)) := (hK1 _ (by omega)).trans hc8
  replace hc9 : cs71 155 = .inl (gY G 14, 60, .inl (fun _ => 0)) := (hK1 _ (by omega)).trans hc9
  replace hc10 : cs71 156 = .inl (gY G 14, 60, .inl (fun _ => 0)) := (hK1 _ (by omega)).trans hc10
  replace hc11 : cs71 157 = .inl (gY G 14, 60, .inl (fun _ => 0)) := (hK1 _ (by omega)).trans hc11
  replace hr12 : ∀ n, 158 ≤ n → n < 196 → cs71 n = finY G n := fun n a b => (hK1 n (by omega)).trans (hr12 n a b)
  replace hlo : ∀ n, n < 146 → cs71 n = cs n := fun n a => (hK1 n (by omega)).trans (hlo n a)
  replace hr12 : ∀ n, 158 ≤ n → n < 198 → cs71 n = finY G n := fun n a b => if h : n < 196 then hr12 n a h else hK2 n (by omega) (by omega)
  clear hK1 hK2
  refine ry_aast (κ := 17) (κ' := 2) (t0 := 4) (L := 30) (n := 153) (v := 196) (i := 11) (by omega) (by omega) rfl rfl hc7 (ln_at_3_7) ((hr12 196 (by omega) (by omega)).trans (fyE_2 (show Is 196 2 by unfold Is; decide +kernel))) (by decide) rfl (by decide +kernel) dX3_init_149 ?_
  refine ry_cs (fun cs72 e72 => ?_)
  replace hc0 : cs72 146 = .inr (3, [.ref (gA G 8), .ref (gA G 10), .int 0, .int 0, .ref (gA G 147), .ref (gA G 148), .ref (gA G 149), .ref (gA G 150), .ref (gA G 151), .ref (gA G 152), .ref (gA G 153), .int 0, .int 0, .ref (gA G 154), .ref (gA G 155), .ref (gA G 156), .ref (gA G 157), .int 0, .int 0, .int 0]) := by rw [e72, va_up_ne _ _ (by omega)]; exact hc0
  replace hc1 : cs72 147 = .inl (gY G 14, 10, .inl (fun _ => 0)) := by rw [e72, va_up_ne _ _ (by omega)]; exact hc1
  replace hc2 : cs72 148 = .inl (gY G 14, 10, .inl (fun _ => 0)) := by rw [e72, va_up_ne _ _ (by omega)]; exact hc2
  replace hc3 : cs72 149 = .inl (gY G 14, 10, .inl (fun _ => 0)) := by rw [e72, va_up_ne _ _ (by omega)]; exact hc3
  replace hc4 : cs72 150 = .inl (gY G 14, 10, .inl (fun _ => 0)) := by rw [e72, va_up_ne _ _ (by omega)]; exact hc4
  replace hc5 : cs72 151 = .inl (gY G 14, 10, .inl (fun _ => 0)) := by rw [e72, va_up_ne _ _ (by omega)]; exact hc5
  replace hc6 : cs72 152 = refI G 22 152 4 := by rw [e72, va_up_ne _ _ (by omega)]; exact hc6
  replace hc8 : cs72 154 = .inl (gY G 14, 60, .inl (fun _ => 0)) := by rw [e72, va_up_ne _ _ (by omega)]; exact hc8
  replace hc9 : cs72 155 = .inl (gY G 14, 60, .inl (fun _ => 0)) := by rw [e72, va_up_ne _ _ (by omega)]; exact hc9
  replace hc10 : cs72 156 = .inl (gY G 14, 60, .inl (fun _ => 0)) := by rw [e72, va_up_ne _ _ (by omega)]; exact hc10
  replace hc11 : cs72 157 = .inl (gY G 14, 60, .inl (fun _ => 0)) := by rw [e72, va_up_ne _ _ (by omega)]; exact hc11
  replace hc7 : cs72 153 = refI G 17 153 12 := by rw [e72]; exact va_up_self _ _ _
  replace hr12 : ∀ n, 158 ≤ n → n < 198 → cs72 n = finY G n := fun n a b => by rw [e72, va_up_ne _ _ (by omega)]; exact hr12 n a b
  replace hlo : ∀ n, n < 146 → cs72 n = cs n := fun n a => by rw [e72, va_up_ne _ _ (by omega)] <;> exact hlo n a
  clear e72
  refine ry_iinc 3 [(0, .ref (gA G 146)), (1, .ref (gA G 8)), (2, .ref (gA G 10)), (3, .int 12)] [1, 2, 3, 0] dX3_init_150 rfl rfl (by decide) rfl ?_
  refine ry_goto 131 dX3_init_153 (by decide) ?_
  refine ry_iload_n 3 dX3_init_131 rfl rfl ?_
  refine ry_bipush (v := 30) dX3_init_132 rfl ?_
  refine ry_icmp_ge 156 dX3_init_134 (by decide) (fun q => absurd q (by decide)) (fun _ => ?_)
  refine ry_aload_n 0 dX3_init_137 rfl rfl ?_
  refine ry_get fl_X3_35 (by omega) hc0 rfl dX3_init_138 ?_
  refine ry_iload_n 3 dX3_init_141 rfl rfl ?_
  refine ry_new (ci := 2) (fs := [.int 0, .int 0, .int 0, .int 0, .int 0, .int 0, .int 0, .int 0, .int 0, .int 0, .null]) tyX2 tyX2_ok rfl i_X2 wc_X3_33 wi_2 wn_2 bl_2 (Nat.le_of_ble_eq_true rfl) (Nat.le_of_ble_eq_true rfl) dX3_init_142 ?_
  refine ry_cs (fun cs73 e73 => ?_)
  replace hc0 : cs73 146 = .inr (3, [.ref (gA G 8), .ref (gA G 10), .int 0, .int 0, .ref (gA G 147), .ref (gA G 148), .ref (gA G 149), .ref (gA G 150), .ref (gA G 151), .ref (gA G 152), .ref (gA G 153), .int 0, .int 0, .ref (gA G 154), .ref (gA G 155), .ref (gA G 156), .ref (gA G 157), .int 0, .int 0, .int 0]) := by rw [e73, va_up_ne _ _ (by omega)]; exact hc0
  replace hc1 : cs73 147 = .inl (gY G 14, 10, .inl (fun _ => 0)) := by rw [e73, va_up_ne _ _ (by omega)]; exact hc1
  replace hc2 : cs73 148 = .inl (gY G 14, 10, .inl (fun _ => 0)) := by rw [e73, va_up_ne _ _ (by omega)]; exact hc2
  replace hc3 : cs73 149 = .inl (gY G 14, 10, .inl (fun _ => 0)) := by rw [e73, va_up_ne _ _ (by omega)]; exact hc3
  replace hc4 : cs73 150 = .inl (gY G 14, 10, .inl (fun _ => 0)) := by rw [e73, va_up_ne _ _ (by omega)]; exact hc4
  replace hc5 : cs73 151 = .inl (gY G 14, 10, .inl (fun _ => 0)) := by rw [e73, va_up_ne _ _ (by omega)]; exact hc5
  replace hc6 : cs73 152 = refI G 22 152 4 := by rw [e73, va_up_ne _ _ (by omega)]; exact hc6
  replace hc7 : cs73 153 = refI G 17 153 12 := by rw [e73, va_up_ne _ _ (by omega)]; exact hc7
  replace hc8 : cs73 154 = .inl (gY G 14, 60, .inl (fun _ => 0)) := by rw [e73, va_up_ne _ _ (by omega)]; exact hc8
  replace hc9 : cs73 155 = .inl (gY G 14, 60, .inl (fun _ => 0)) := by rw [e73, va_up_ne _ _ (by omega)]; exact hc9
  replace hc10 : cs73 156 = .inl (gY G 14, 60, .inl (fun _ => 0)) := by rw [e73, va_up_ne _ _ (by omega)]; exact hc10
  replace hc11 : cs73 157 = .inl (gY G 14, 60, .inl (fun _ => 0)) := by rw [e73, va_up_ne _ _ (by omega)]; exact hc11
  have hc52 : cs73 198 = .inr (2, [.int 0, .int 0, .int 0, .int 0, .int 0, .int 0, .int 0, .int 0, .int 0, .int 0, .null]) := by rw [e73]; exact va_up_self _ _ _
  replace hr12 : ∀ n, 158 ≤ n → n < 198 → cs73 n = finY G n := fun n a b => by rw [e73, va_up_ne _ _ (by omega)]; exact hr12 n a b
  replace hlo : ∀ n, n < 146 → cs73 n = cs n := fun n a => by rw [e73, va_up_ne _ _ (by omega)] <;> exact hlo n a
  clear e73
  refine ry_dup dX3_init_145 rfl ?_
  refine ry_callIN (As := []) (n := 198) (mc := 1) (ms := 10) (Kc G 198 2 _) (fun _ _ h => by have := h.1; omega) mw_X2_init rfl win_X2_init wm_X3_60 rfl ⟨show d + 1 + 1 ≤ d + 2 by omega, show 30 * (d + 1) + 30 ≤ 30 * (d + 2) by omega, (Nat.le_of_ble_eq_true rfl), (Nat.le_of_ble_eq_true rfl)⟩ (Nat.le_of_ble_eq_true rfl) dX3_init_146 (kX2_init G d (show Is 198 2 by unfold Is; decide +kernel) hc52) (fun cs74 hK => ?_) rfl
  obtain ⟨-, hK1, hK2⟩ := hK
  clear hc52
  replace hc0 : cs74 146 = .inr (3, [.ref (gA G 8), .ref (gA G 10), .int 0, .int 0, .ref (gA G 147), .ref (gA G 148), .ref (gA G 149), .ref (gA G 150), .ref (gA G 151), .ref (gA G 152), .ref (gA G 153), .int 0, .int 0, .ref (gA G 154), .ref (gA G 155), .ref (gA G 156), .ref (gA G 157), .int 0, .int 0, .int 0]) := (hK1 _ (by omega)).trans hc0
  replace hc1 : cs74 147 = .inl (gY G 14, 10, .inl (fun _ => 0)) := (hK1 _ (by omega)).trans hc1
  replace hc2 : cs74 148 = .inl (gY G 14, 10, .inl (fun _ => 0)) := (hK1 _ (by omega)).trans hc2
  replace hc3 : cs74 149 = .inl (gY G 14, 10, .inl (fun _ => 0)) := (hK1 _ (by omega)).trans hc3
  replace hc4 : cs74 150 = .inl (gY G 14, 10, .inl (fun _ => 0)) := (hK1 _ (by omega)).trans hc4
  replace hc5 : cs74 151 = .inl (gY G 14, 10, .inl (fun _ => 0)) := (hK1 _ (by omega)).trans hc5
  replace hc6 : cs74 152 = refI G 22 152 4 := (hK1 _ (by omega)).trans hc6
  replace hc7 : cs74 153 = refI G 17 153 12 := (hK1 _ (by omega)).trans hc7
  replace hc8 : cs74 154 = .inl (gY G 14, 60, .inl (fun _ => 0)) := (hK1 _ (by omega)).trans hc8
  replace hc9 : cs74 155 = .inl (gY G 14, 60, .inl (fun _ => 0)) := (hK1 _ (by omega)).trans hc9
  replace hc10 : cs74 156 = .inl (gY G 14, 60, .inl (fun _ => 0)) := (hK1 _ (by omega)).trans hc10
  replace hc11 : cs74 157 = .inl (gY G 14, 60, .inl (fun _ => 0)) := (hK1 _ (by omega)).trans hc11
  replace hr12 : ∀ n, 158 ≤ n → n < 198 → cs74 n = finY G n := fun n a b => (hK1 n (by omega)).trans (hr12 n a b)
  replace hlo : ∀ n, n < 146 → cs74 n = cs n := fun n a => (hK1 n (by omega)).trans (hlo n a)
  replace hr12 : ∀ n, 158 ≤ n → n < 200 → cs74 n = finY G n := fun n a b => if h : n < 198 then hr12 n a h else hK2 n (by omega) (by omega)
  clear hK1 hK2
  refine ry_aast (κ := 17) (κ' := 2) (t0 := 4) (L := 30) (n := 153) (v := 198) (i := 12) (by omega) (by omega) rfl rfl hc7 (ln_at_3_7) ((hr12 198 (by omega) (by omega)).trans (fyE_2 (show Is 198 2 by unfold Is; decide +kernel))) (by decide) rfl (by decide +kernel) dX3_init_149 ?_
  refine ry_cs (fun cs75 e75 => ?_)
  replace hc0 : cs75 146 = .inr (3, [.ref (gA G 8), .ref (gA G 10), .int 0, .int 0, .ref (gA G 147), .ref (gA G 148), .ref (gA G 149), .ref (gA G 150), .ref (gA G 151), .ref (gA G 152), .ref (gA G 153), .int 0, .int 0, .ref (gA G 154), .ref (gA G 155), .ref (gA G 156), .ref (gA G 157), .int 0, .int 0, .int 0]) := by rw [e75, va_up_ne _ _ (by omega)]; exact hc0
  replace hc1 : cs75 147 = .inl (gY G 14, 10, .inl (fun _ => 0)) := by rw [e75, va_up_ne _ _ (by omega)]; exact hc1
  replace hc2 : cs75 148 = .inl (gY G 14, 10, .inl (fun _ => 0)) := by rw [e75, va_up_ne _ _ (by omega)]; exact hc2
  replace hc3 : cs75 149 = .inl (gY G 14, 10, .inl (fun _ => 0)) := by rw [e75, va_up_ne _ _ (by omega)]; exact hc3
  replace hc4 : cs75 150 = .inl (gY G 14, 10, .inl (fun _ => 0)) := by rw [e75, va_up_ne _ _ (by omega)]; exact hc4
  replace hc5 : cs75 151 = .inl (gY G 14, 10, .inl (fun _ => 0)) := by rw [e75, va_up_ne _ _ (by omega)]; exact hc5
  replace hc6 : cs75 152 = refI G 22 152 4 := by rw [e75, va_up_ne _ _ (by omega)]; exact hc6
  replace hc8 : cs75 154 = .inl (gY G 14, 60, .inl (fun _ => 0)) := by rw [e75, va_up_ne _ _ (by omega)]; exact hc8
  replace hc9 : cs75 155 = .inl (gY G 14, 60, .inl (fun _ => 0)) := by rw [e75, va_up_ne _ _ (by omega)]; exact hc9
  replace hc10 : cs75 156 = .inl (gY G 14, 60, .inl (fun _ => 0)) := by rw [e75, va_up_ne _ _ (by omega)]; exact hc10
  replace hc11 : cs75 157 = .inl (gY G 14, 60, .inl (fun _ => 0)) := by rw [e75, va_up_ne _ _ (by omega)]; exact hc11
  replace hc7 : cs75 153 = refI G 17 153 13 := by rw [e75]; exact va_up_self _ _ _
  replace hr12 : ∀ n, 158 ≤ n → n < 200 → cs75 n = finY G n := fun n a b => by rw [e75, va_up_ne _ _ (by omega)]; exact hr12 n a b
  replace hlo : ∀ n, n < 146 → cs75 n = cs n := fun n a => by rw [e75, va_up_ne _ _ (by omega)] <;> exact hlo n a
  clear e75
  refine ry_iinc 3 [(0, .ref (gA G 146)), (1, .ref (gA G 8)), (2, .ref (gA G 10)), (3, .int 13)] [1, 2, 3, 0] dX3_init_150 rfl rfl (by decide) rfl ?_
  refine ry_goto 131 dX3_init_153 (by decide) ?_
  refine ry_iload_n 3 dX3_init_131 rfl rfl ?_
  refine ry_bipush (v := 30) dX3_init_132 rfl ?_
  refine ry_icmp_ge 156 dX3_init_134 (by decide) (fun q => absurd q (by decide)) (fun _ => ?_)
  refine ry_aload_n 0 dX3_init_137 rfl rfl ?_
  refine ry_get fl_X3_35 (by omega) hc0 rfl dX3_init_138 ?_
  refine ry_iload_n 3 dX3_init_141 rfl rfl ?_
  refine ry_new (ci := 2) (fs := [.int 0, .int 0, .int 0, .int 0, .int 0, .int 0, .int 0, .int 0, .int 0, .int 0, .null]) tyX2 tyX2_ok rfl i_X2 wc_X3_33 wi_2 wn_2 bl_2 (Nat.le_of_ble_eq_true rfl) (Nat.le_of_ble_eq_true rfl) dX3_init_142 ?_
  refine ry_cs (fun cs76 e76 => ?_)
  replace hc0 : cs76 146 = .inr (3, [.ref (gA G 8), .ref (gA G 10), .int 0, .int 0, .ref (gA G 147), .ref (gA G 148), .ref (gA G 149), .ref (gA G 150), .ref (gA G 151), .ref (gA G 152), .ref (gA G 153), .int 0, .int 0, .ref (gA G 154), .ref (gA G 155), .ref (gA G 156), .ref (gA G 157), .int 0, .int 0, .int 0]) := by rw [e76, va_up_ne _ _ (by omega)]; exact hc0
  replace hc1 : cs76 147 = .inl (gY G 14, 10, .inl (fun _ => 0)) := by rw [e76, va_up_ne _ _ (by omega)]; exact hc1
  replace hc2 : cs76 148 = .inl (gY G 14, 10, .inl (fun _ => 0)) := by rw [e76, va_up_ne _ _ (by omega)]; exact hc2
  replace hc3 : cs76 149 = .inl (gY G 14, 10, .inl (fun _ => 0)) := by rw [e76, va_up_ne _ _ (by omega)]; exact hc3
  replace hc4 : cs76 150 = .inl (gY G 14, 10, .inl (fun _ => 0)) := by rw [e76, va_up_ne _ _ (by omega)]; exact hc4
  replace hc5 : cs76 151 = .inl (gY G 14, 10, .inl (fun _ => 0)) := by rw [e76, va_up_ne _ _ (by omega)]; exact hc5
  replace hc6 : cs76 152 = refI G 22 152 4 := by rw [e76, va_up_ne _ _ (by omega)]; exact hc6
  replace hc7 : cs76 153 = refI G 17 153 13 := by rw [e76, va_up_ne _ _ (by omega)]; exact hc7
  replace hc8 : cs76 154 = .inl (gY G 14, 60, .inl (fun _ => 0)) := by rw [e76, va_up_ne _ _ (by omega)]; exact hc8
  replace hc9 : cs76 155 = .inl (gY G 14, 60, .inl (fun _ => 0)) := by rw [e76, va_up_ne _ _ (by omega)]; exact hc9
  replace hc10 : cs76 156 = .inl (gY G 14, 60, .inl (fun _ => 0)) := by rw [e76, va_up_ne _ _ (by omega)]; exact hc10
  replace hc11 : cs76 157 = .inl (gY G 14, 60, .inl (fun _ => 0)) := by rw [e76, va_up_ne _ _ (by omega)]; exact hc11
  have hc54 : cs76 200 = .inr (2, [.int 0, .int 0, .int 0, .int 0, .int 0, .int 0, .int 0, .int 0, .int 0, .int 0, .null]) := by rw [e76]; exact va_up_self _ _ _
  replace hr12 : ∀ n, 158 ≤ n → n < 200 → cs76 n = finY G n := fun n a b => by rw [e76, va_up_ne _ _ (by omega)]; exact hr12 n a b
  replace hlo : ∀ n, n < 146 → cs76 n = cs n := fun n a => by rw [e76, va_up_ne _ _ (by omega)] <;> exact hlo n a
  clear e76
  refine ry_dup dX3_init_145 rfl ?_
  refine ry_callIN (As := []) (n := 200) (mc := 1) (ms := 10) (Kc G 200 2 _) (fun _ _ h => by have := h.1; omega) mw_X2_init rfl win_X2_init wm_X3_60 rfl ⟨show d + 1 + 1 ≤ d + 2 by omega, show 30 * (d + 1) + 30 ≤ 30 * (d + 2) by omega, (Nat.le_of_ble_eq_true rfl), (Nat.le_of_ble_eq_true rfl)⟩ (Nat.le_of_ble_eq_true rfl) dX3_init_146 (kX2_init G d (show Is 200 2 by unfold Is; decide +kernel) hc54) (fun cs77 hK => ?_) rfl
  obtain ⟨-, hK1, hK2⟩ := hK
  clear hc54
  replace hc0 : cs77 146 = .inr (3, [.ref (gA G 8), .ref (gA G 10), .int 0, .int 0, .ref (gA G 147), .ref (gA G 148), .ref (gA G 149), .ref (gA G 150), .ref (gA G 151), .ref (gA G 152), .ref (gA G 153), .int 0, .int 0, .ref (gA G 154), .ref (gA G 155), .ref (gA G 156), .ref (gA G 157), .int 0, .int 0, .int 0]) := (hK1 _ (by omega)).trans hc0
  replace hc1 : cs77 147 = .inl (gY G 14, 10, .inl (fun _ => 0)) := (hK1 _ (by omega)).trans hc1
  replace hc2 : cs77 148 = .inl (gY G 14, 10, .inl (fun _ => 0)) := (hK1 _ (by omega)).trans hc2
  replace hc3 : cs77 149 = .inl (gY G 14, 10, .inl (fun _ => 0)) := (hK1 _ (by omega)).trans hc3
  replace hc4 : cs77 150 = .inl (gY G 14, 10, .inl (fun _ => 0)) := (hK1 _ (by omega)).trans hc4
  replace hc5 : cs77 151 = .inl (gY G 14, 10, .inl (fun _ => 0)) := (hK1 _ (by omega)).trans hc5
  replace hc6 : cs77 152 = refI G 22 152 4 := (hK1 _ (by omega)).trans hc6
  replace hc7 : cs77 153 = refI G 17 153 13 := (hK1 _ (by omega)).trans hc7
  replace hc8 : cs77 154 = .inl (gY G 14, 60, .inl (fun _ => 0)) := (hK1 _ (by omega)).trans hc8
  replace hc9 : cs77 155 = .inl (gY G 14, 60, .inl (fun _ => 0)) := (hK1 _ (by omega)).trans hc9
  replace hc10 : cs77 156 = .inl (gY G 14, 60, .inl (fun _ => 0)) := (hK1 _ (by omega)).trans hc10
  replace hc11 : cs77 157 = .inl (gY G 14, 60, .inl (fun _ => 0)) := (hK1 _ (by omega)).trans hc11
  replace hr12 : ∀ n, 158 ≤ n → n < 200 → cs77 n = finY G n := fun n a b => (hK1 n (by omega)).trans (hr12 n a b)
  replace hlo : ∀ n, n < 146 → cs77 n = cs n := fun n a => (hK1 n (by omega)).trans (hlo n a)
  replace hr12 : ∀ n, 158 ≤ n → n < 202 → cs77 n = finY G n := fun n a b => if h : n < 200 then hr12 n a h else hK2 n (by omega) (by omega)
  clear hK1 hK2
  refine ry_aast (κ := 17) (κ' := 2) (t0 := 4) (L := 30) (n := 153) (v := 200) (i := 13) (by omega) (by omega) rfl rfl hc7 (ln_at_3_7) ((hr12 200 (by omega) (by omega)).trans (fyE_2 (show Is 200 2 by unfold Is; decide +kernel))) (by decide) rfl (by decide +kernel) dX3_init_149 ?_
  refine ry_cs (fun cs78 e78 => ?_)
  replace hc0 : cs78 146 = .inr (3, [.ref (gA G 8), .ref (gA G 10), .int 0, .int 0, .ref (gA G 147), .ref (gA G 148), .ref (gA G 149), .ref (gA G 150), .ref (gA G 151), .ref (gA G 152), .ref (gA G 153), .int 0, .int 0, .ref (gA G 154), .ref (gA G 155), .ref (gA G 156), .ref (gA G 157), .int 0, .int 0, .int 0]) := by rw [e78, va_up_ne _ _ (by omega)]; exact hc0
  replace hc1 : cs78 147 = .inl (gY G 14, 10, .inl (fun _ => 0)) := by rw [e78, va_up_ne _ _ (by omega)]; exact hc1
  replace hc2 : cs78 148 = .inl (gY G 14, 10, .inl (fun _ => 0)) := by rw [e78, va_up_ne _ _ (by omega)]; exact hc2
  replace hc3 : cs78 149 = .inl (gY G 14, 10, .inl (fun _ => 0)) := by rw [e78, va_up_ne _ _ (by omega)]; exact hc3
  replace hc4 : cs78 150 = .inl (gY G 14, 10, .inl (fun _ => 0)) := by rw [e78, va_up_ne _ _ (by omega)]; exact hc4
  replace hc5 : cs78 151 = .inl (gY G 14, 10, .inl (fun _ => 0)) := by rw [e78, va_up_ne _ _ (by omega)]; exact hc5
  replace hc6 : cs78 152 = refI G 22 152 4 := by rw [e78, va_up_ne _ _ (by omega)]; exact hc6
  replace hc8 : cs78 154 = .inl (gY G 14, 60, .inl (fun _ => 0)) := by rw [e78, va_up_ne _ _ (by omega)]; exact hc8
  replace hc9 : cs78 155 = .inl (gY G 14, 60, .inl (fun _ => 0)) := by rw [e78, va_up_ne _ _ (by omega)]; exact hc9
  replace hc10 : cs78 156 = .inl (gY G 14, 60, .inl (fun _ => 0)) := by rw [e78, va_up_ne _ _ (by omega)]; exact hc10
  replace hc11 : cs78 157 = .inl (gY G 14, 60, .inl (fun _ => 0)) := by rw [e78, va_up_ne _ _ (by omega)]; exact hc11
  replace hc7 : cs78 153 = refI G 17 153 14 := by rw [e78]; exact va_up_self _ _ _
  replace hr12 : ∀ n, 158 ≤ n → n < 202 → cs78 n = finY G n := fun n a b => by rw [e78, va_up_ne _ _ (by omega)]; exact hr12 n a b
  replace hlo : ∀ n, n < 146 → cs78 n = cs n := fun n a => by rw [e78, va_up_ne _ _ (by omega)] <;> exact hlo n a
  clear e78
  refine ry_iinc 3 [(0, .ref (gA G 146)), (1, .ref (gA G 8)), (2, .ref (gA G 10)), (3, .int 14)] [1, 2, 3, 0] dX3_init_150 rfl rfl (by decide) rfl ?_
  refine ry_goto 131 dX3_init_153 (by decide) ?_
  refine ry_iload_n 3 dX3_init_131 rfl rfl ?_
  refine ry_bipush (v := 30) dX3_init_132 rfl ?_
  refine ry_icmp_ge 156 dX3_init_134 (by decide) (fun q => absurd q (by decide)) (fun _ => ?_)
  refine ry_aload_n 0 dX3_init_137 rfl rfl ?_
  refine ry_get fl_X3_35 (by omega) hc0 rfl dX3_init_138 ?_
  refine ry_iload_n 3 dX3_init_141 rfl rfl ?_
  refine ry_new (ci := 2) (fs := [.int 0, .int 0, .int 0, .int 0, .int 0, .int 0, .int 0, .int 0, .int 0, .int 0, .null]) tyX2 tyX2_ok rfl i_X2 wc_X3_33 wi_2 wn_2 bl_2 (Nat.le_of_ble_eq_true rfl) (Nat.le_of_ble_eq_true rfl) dX3_init_142 ?_
  refine ry_cs (fun cs79 e79 => ?_)
  replace hc0 : cs79 146 = .inr (3, [.ref (gA G 8), .ref (gA G 10), .int 0, .int 0, .ref (gA G 147), .ref (gA G 148), .ref (gA G 149), .ref (gA G 150), .ref (gA G 151), .ref (gA G 152), .ref (gA G 153), .int 0, .int 0, .ref (gA G 154), .ref (gA G 155), .ref (gA G 156), .ref (gA G 157), .int 0, .int 0, .int 0]) := by rw [e79, va_up_ne _ _ (by omega)]; exact hc0
  replace hc1 : cs79 147 = .inl (gY G 14, 10, .inl (fun _ => 0)) := by rw [e79, va_up_ne _ _ (by omega)]; exact hc1
  replace hc2 : cs79 148 = .inl (gY G 14, 10, .inl (fun _ => 0)) := by rw [e79, va_up_ne _ _ (by omega)]; exact hc2
  replace hc3 : cs79 149 = .inl (gY G 14, 10, .inl (fun _ => 0)) := by rw [e79, va_up_ne _ _ (by omega)]; exact hc3
  replace hc4 : cs79 150 = .inl (gY G 14, 10, .inl (fun _ => 0)) := by rw [e79, va_up_ne _ _ (by omega)]; exact hc4
  replace hc5 : cs79 151 = .inl (gY G 14, 10, .inl (fun _ => 0)) := by rw [e79, va_up_ne _ _ (by omega)]; exact hc5
  replace hc6 : cs79 152 = refI G 22 152 4 := by rw [e79, va_up_ne _ _ (by omega)]; exact hc6
  replace hc7 : cs79 153 = refI G 17 153 14 := by rw [e79, va_up_ne _ _ (by omega)]; exact hc7
  replace hc8 : cs79 154 = .inl (gY G 14, 60, .inl (fun _ => 0)) := by rw [e79, va_up_ne _ _ (by omega)]; exact hc8
  replace hc9 : cs79 155 = .inl (gY G 14, 60, .inl (fun _ => 0)) := by rw [e79, va_up_ne _ _ (by omega)]; exact hc9
  replace hc10 : cs79 156 = .inl (gY G 14, 60, .inl (fun _ => 0)) := by rw [e79, va_up_ne _ _ (by omega)]; exact hc10
  replace hc11 : cs79 157 = .inl (gY G 14, 60, .inl (fun _ => 0)) := by rw [e79, va_up_ne _ _ (by omega)]; exact hc11
  have hc56 : cs79 202 = .inr (2, [.int 0, .int 0, .int 0, .int 0, .int 0, .int 0, .int 0, .int 0, .int 0, .int 0, .null]) := by rw [e79]; exact va_up_self _ _ _
  replace hr12 : ∀ n, 158 ≤ n → n < 202 → cs79 n = finY G n := fun n a b => by rw [e79, va_up_ne _ _ (by omega)]; exact hr12 n a b
  replace hlo : ∀ n, n < 146 → cs79 n = cs n := fun n a => by rw [e79, va_up_ne _ _ (by omega)] <;> exact hlo n a
  clear e79
  refine ry_dup dX3_init_145 rfl ?_
  refine ry_callIN (As := []) (n := 202) (mc := 1) (ms := 10) (Kc G 202 2 _) (fun _ _ h => by have := h.1; omega) mw_X2_init rfl win_X2_init wm_X3_60 rfl ⟨show d + 1 + 1 ≤ d + 2 by omega, show 30 * (d + 1) + 30 ≤ 30 * (d + 2) by omega, (Nat.le_of_ble_eq_true rfl), (Nat.le_of_ble_eq_true rfl)⟩ (Nat.le_of_ble_eq_true rfl) dX3_init_146 (kX2_init G d (show Is 202 2 by unfold Is; decide +kernel) hc56) (fun cs80 hK => ?_) rfl
  obtain ⟨-, hK1, hK2⟩ := hK
  clear hc56
  replace hc0 : cs80 146 = .inr (3, [.ref (gA G 8), .ref (gA G 10), .int 0, .int 0, .ref (gA G 147), .ref (gA G 148), .ref (gA G 149), .ref (gA G 150), .ref (gA G 151), .ref (gA G 152), .ref (gA G 153), .int 0, .int 0, .ref (gA G 154), .ref (gA G 155), .ref (gA G 156), .ref (gA G 157), .int 0, .int 0, .int 0]) := (hK1 _ (by omega)).trans hc0
  replace hc1 : cs80 147 = .inl (gY G 14, 10, .inl (fun _ => 0)) := (hK1 _ (by omega)).trans hc1
  replace hc2 : cs80 148 = .inl (gY G 14, 10, .inl (fun _ => 0)) := (hK1 _ (by omega)).trans hc2
  replace hc3 : cs80 149 = .inl (gY G 14, 10, .inl (fun _ => 0)) := (hK1 _ (by omega)).trans hc3
  replace hc4 : cs80 150 = .inl (gY G 14, 10, .inl (fun _ => 0)) := (hK1 _ (by omega)).trans hc4
  replace hc5 : cs80 151 = .inl (gY G 14, 10, .inl (fun _ => 0)) := (hK1 _ (by omega)).trans hc5
  replace hc6 : cs80 152 = refI G 22 152 4 := (hK1 _ (by omega)).trans hc6
  replace hc7 : cs80 153 = refI G 17 153 14 := (hK1 _ (by omega)).trans hc7
  replace hc8 : cs80 154 = .inl (gY G 14, 60, .inl (fun _ => 0)) := (hK1 _ (by omega)).trans hc8
  replace hc9 : cs80 155 = .inl (gY G 14, 60, .inl (fun _ => 0)) := (hK1 _ (by omega)).trans hc9
  replace hc10 : cs80 156 = .inl (gY G 14, 60, .inl (fun _ => 0)) := (hK1 _ (by omega)).trans hc10
  replace hc11 : cs80 157 = .inl (gY G 14, 60, .inl (fun _ => 0)) := (hK1 _ (by omega)).trans hc11
  replace hr12 : ∀ n, 158 ≤ n → n < 202 → cs80 n = finY G n := fun n a b => (hK1 n (by omega)).trans (hr12 n a b)
  replace hlo : ∀ n, n < 146 → cs80 n = cs n := fun n a => (hK1 n (by omega)).trans (hlo n a)
  replace hr12 : ∀ n, 158 ≤ n → n < 204 → cs80 n = finY G n := fun n a b => if h : n < 202 then hr12 n a h else hK2 n (by omega) (by omega)
  clear hK1 hK2
  refine ry_aast (κ := 17) (κ' := 2) (t0 := 4) (L := 30) (n := 153) (v := 202) (i := 14) (by omega) (by omega) rfl rfl hc7 (ln_at_3_7) ((hr12 202 (by omega) (by omega)).trans (fyE_2 (show Is 202 2 by unfold Is; decide +kernel))) (by decide) rfl (by decide +kernel) dX3_init_149 ?_
  refine ry_cs (fun cs81 e81 => ?_)
  replace hc0 : cs81 146 = .inr (3, [.ref (gA G 8), .ref (gA G 10), .int 0, .int 0, .ref (gA G 147), .ref (gA G 148), .ref (gA G 149), .ref (gA G 150), .ref (gA G 151), .ref (gA G 152), .ref (gA G 153), .int 0, .int 0, .ref (gA G 154), .ref (gA G 155), .ref (gA G 156), .ref (gA G 157), .int 0, .int 0, .int 0]) := by rw [e81, va_up_ne _ _ (by omega)]; exact hc0
  replace hc1 : cs81 147 = .inl (gY G 14, 10, .inl (fun _ => 0)) := by rw [e81, va_up_ne _ _ (by omega)]; exact hc1
  replace hc2 : cs81 148 = .inl (gY G 14, 10, .inl (fun _ => 0)) := by rw [e81, va_up_ne _ _ (by omega)]; exact hc2
  replace hc3 : cs81 149 = .inl (gY G 14, 10, .inl (fun _ => 0)) := by rw [e81, va_up_ne _ _ (by omega)]; exact hc3
  replace hc4 : cs81 150 = .inl (gY G 14, 10, .inl (fun _ => 0)) := by rw [e81, va_up_ne _ _ (by omega)]; exact hc4
  replace hc5 : cs81 151 = .inl (gY G 14, 10, .inl (fun _ => 0)) := by rw [e81, va_up_ne _ _ (by omega)]; exact hc5
  replace hc6 : cs81 152 = refI G 22 152 4 := by rw [e81, va_up_ne _ _ (by omega)]; exact hc6
  replace hc8 : cs81 154 = .inl (gY G 14, 60, .inl (fun _ => 0)) := by rw [e81, va_up_ne _ _ (by omega)]; exact hc8
  replace hc9 : cs81 155 = .inl (gY G 14, 60, .inl (fun _ => 0)) := by rw [e81, va_up_ne _ _ (by omega)]; exact hc9
  replace hc10 : cs81 156 = .inl (gY G 14, 60, .inl (fun _ => 0)) := by rw [e81, va_up_ne _ _ (by omega)]; exact hc10
  replace hc11 : cs81 157 = .inl (gY G 14, 60, .inl (fun _ => 0)) := by rw [e81, va_up_ne _ _ (by omega)]; exact hc11
  replace hc7 : cs81 153 = refI G 17 153 15 := by rw [e81]; exact va_up_self _ _ _
  replace hr12 : ∀ n, 158 ≤ n → n < 204 → cs81 n = finY G n := fun n a b => by rw [e81, va_up_ne _ _ (by omega)]; exact hr12 n a b
  replace hlo : ∀ n, n < 146 → cs81 n = cs n := fun n a => by rw [e81, va_up_ne _ _ (by omega)] <;> exact hlo n a
  clear e81
  refine ry_iinc 3 [(0, .ref (gA G 146)), (1, .ref (gA G 8)), (2, .ref (gA G 10)), (3, .int 15)] [1, 2, 3, 0] dX3_init_150 rfl rfl (by decide) rfl ?_
  refine ry_goto 131 dX3_init_153 (by decide) ?_
  refine ry_iload_n 3 dX3_init_131 rfl rfl ?_
  refine ry_bipush (v := 30) dX3_init_132 rfl ?_
  refine ry_icmp_ge 156 dX3_init_134 (by decide) (fun q => absurd q (by decide)) (fun _ => ?_)
  refine ry_aload_n 0 dX3_init_137 rfl rfl ?_
  refine ry_get fl_X3_35 (by omega) hc0 rfl dX3_init_138 ?_
  refine ry_iload_n 3 dX3_init_141 rfl rfl ?_
  refine ry_new (ci := 2) (fs := [.int 0, .int 0, .int 0, .int 0, .int 0, .int 0, .int 0, .int 0, .int 0, .int 0, .null]) tyX2 tyX2_ok rfl i_X2 wc_X3_33 wi_2 wn_2 bl_2 (Nat.le_of_ble_eq_true rfl) (Nat.le_of_ble_eq_true rfl) dX3_init_142 ?_
  refine ry_cs (fun cs82 e82 => ?_)
  replace hc0 : cs82 146 = .inr (3, [.ref (gA G 8), .ref (gA G 10), .int 0, .int 0, .ref (gA G 147), .ref (gA G 148), .ref (gA G 149), .ref (gA G 150), .ref (gA G 151), .ref (gA G 152), .ref (gA G 153), .int 0, .int 0, .ref (gA G 154), .ref (gA G 155), .ref (gA G 156), .ref (gA G 157), .int 0, .int 0, .int 0]) := by rw [e82, va_up_ne _ _ (by omega)]; exact hc0
  replace hc1 : cs82 147 = .inl (gY G 14, 10, .inl (fun _ => 0)) := by rw [e82, va_up_ne _ _ (by omega)]; exact hc1
  replace hc2 : cs82 148 = .inl (gY G 14, 10, .inl (fun _ => 0)) := by rw [e82, va_up_ne _ _ (by omega)]; exact hc2
  replace hc3 : cs82 149 = .inl (gY G 14, 10, .inl (fun _ => 0)) := by rw [e82, va_up_ne _ _ (by omega)]; exact hc3
  replace hc4 : cs82 150 = .inl (gY G 14, 10, .inl (fun _ => 0)) := by rw [e82, va_up_ne _ _ (by omega)]; exact hc4
  replace hc5 : cs82 151 = .inl (gY G 14, 10, .inl (fun _ => 0)) := by rw [e82, va_up_ne _ _ (by omega)]; exact hc5
  replace hc6 : cs82 152 = refI G 22 152 4 := by rw [e82, va_up_ne _ _ (by omega)]; exact hc6
  replace hc7 : cs82 153 = refI G 17 153 15 := by rw [e82, va_up_ne _ _ (by omega)]; exact hc7
  replace hc8 : cs82 154 = .inl (gY G 14, 60, .inl (fun _ => 0)) := by rw [e82, va_up_ne _ _ (by omega)]; exact hc8
  replace hc9 : cs82 155 = .inl (gY G 14, 60, .inl (fun _ => 0)) := by rw [e82, va_up_ne _ _ (by omega)]; exact hc9
  replace hc10 : cs82 156 = .inl (gY G 14, 60, .inl (fun _ => 0)) := by rw [e82, va_up_ne _ _ (by omega)]; exact hc10
  replace hc11 : cs82 157 = .inl (gY G 14, 60, .inl (fun _ => 0)) := by rw [e82, va_up_ne _ _ (by omega)]; exact hc11
  have hc58 : cs82 204 = .inr (2, [.int 0, .int 0, .int 0, .int 0, .int 0, .int 0, .int 0, .int 0, .int 0, .int 0, .null]) := by rw [e82]; exact va_up_self _ _ _
  replace hr12 : ∀ n, 158 ≤ n → n < 204 → cs82 n = finY G n := fun n a b => by rw [e82, va_up_ne _ _ (by omega)]; exact hr12 n a b
  replace hlo : ∀ n, n < 146 → cs82 n = cs n := fun n a => by rw [e82, va_up_ne _ _ (by omega)] <;> exact hlo n a
  clear e82
  refine ry_dup dX3_init_145 rfl ?_
  refine ry_callIN (As := []) (n := 204) (mc := 1) (ms := 10) (Kc G 204 2 _) (fun _ _ h => by have := h.1; omega) mw_X2_init rfl win_X2_init wm_X3_60 rfl ⟨show d + 1 + 1 ≤ d + 2 by omega, show 30 * (d + 1) + 30 ≤ 30 * (d + 2) by omega, (Nat.le_of_ble_eq_true rfl), (Nat.le_of_ble_eq_true rfl)⟩ (Nat.le_of_ble_eq_true rfl) dX3_init_146 (kX2_init G d (show Is 204 2 by unfold Is; decide +kernel) hc58) (fun cs83 hK => ?_) rfl
  obtain ⟨-, hK1, hK2⟩ := hK
  clear hc58
  replace hc0 : cs83 146 = .inr (3, [.ref (gA G 8), .ref (gA G 10), .int 0, .int 0, .ref (gA G 147), .ref (gA G 148), .ref (gA G 149), .ref (gA G 150), .ref (gA G 151), .ref (gA G 152), .ref (gA G 153), .int 0, .int 0, .ref (gA G 154), .ref (gA G 155), .ref (gA G 156), .ref (gA G 157), .int 0, .int 0, .int 0]) := (hK1 _ (by omega)).trans hc0
  replace hc1 : cs83 147 = .inl (gY G 14, 10, .inl (fun _ => 0)) := (hK1 _ (by omega)).trans hc1
  replace hc2 : cs83 148 = .inl (gY G 14, 10, .inl (fun _ => 0)) := (hK1 _ (by omega)).trans hc2
  replace hc3 : cs83 149 = .inl (gY G 14, 10, .inl (fun _ => 0)) := (hK1 _ (by omega)).trans hc3
  replace hc4 : cs83 150 = .inl (gY G 14, 10, .inl (fun _ => 0)) := (hK1 _ (by omega)).trans hc4
  replace hc5 : cs83 151 = .inl (gY G 14, 10, .inl (fun _ => 0)) := (hK1 _ (by omega)).trans hc5
  replace hc6 : cs83 152 = refI G 22 152 4 := (hK1 _ (by omega)).trans hc6
  replace hc7 : cs83 153 = refI G 17 153 15 := (hK1 _ (by omega)).trans hc7
  replace hc8 : cs83 154 = .inl (gY G 14, 60, .inl (fun _ => 0)) := (hK1 _ (by omega)).trans hc8
  replace hc9 : cs83 155 = .inl (gY G 14, 60, .inl (fun _ => 0)) := (hK1 _ (by omega)).trans hc9
  replace hc10 : cs83 156 = .inl (gY G 14, 60, .inl (fun _ => 0)) := (hK1 _ (by omega)).trans hc10
  replace hc11 : cs83 157 = .inl (gY G 14, 60, .inl (fun _ => 0)) := (hK1 _ (by omega)).trans hc11
  replace hr12 : ∀ n, 158 ≤ n → n < 204 → cs83 n = finY G n := fun n a b => (hK1 n (by omega)).trans (hr12 n a b)
  replace hlo : ∀ n, n < 146 → cs83 n = cs n := fun n a => (hK1 n (by omega)).trans (hlo n a)
  replace hr12 : ∀ n, 158 ≤ n → n < 206 → cs83 n = finY G n := fun n a b => if h : n < 204 then hr12 n a h else hK2 n (by omega) (by omega)
  clear hK1 hK2
  refine ry_aast (κ := 17) (κ' := 2) (t0 := 4) (L := 30) (n := 153) (v := 204) (i := 15) (by omega) (by omega) rfl rfl hc7 (ln_at_3_7) ((hr12 204 (by omega) (by omega)).trans (fyE_2 (show Is 204 2 by unfold Is; decide +kernel))) (by decide) rfl (by decide +kernel) dX3_init_149 ?_
  refine ry_cs (fun cs84 e84 => ?_)
  replace hc0 : cs84 146 = .inr (3, [.ref (gA G 8), .ref (gA G 10), .int 0, .int 0, .ref (gA G 147), .ref (gA G 148), .ref (gA G 149), .ref (gA G 150), .ref (gA G 151), .ref (gA G 152), .ref (gA G 153), .int 0, .int 0, .ref (gA G 154), .ref (gA G 155), .ref (gA G 156), .ref (gA G 157), .int 0, .int 0, .int 0]) := by rw [e84, va_up_ne _ _ (by omega)]; exact hc0
  replace hc1 : cs84 147 = .inl (gY G 14, 10, .inl (fun _ => 0)) := by rw [e84, va_up_ne _ _ (by omega)]; exact hc1
  replace hc2 : cs84 148 = .inl (gY G 14, 10, .inl (fun _ => 0)) := by rw [e84, va_up_ne _ _ (by omega)]; exact hc2
  replace hc3 : cs84 149 = .inl (gY G 14, 10, .inl (fun _ => 0)) := by rw [e84, va_up_ne _ _ (by omega)]; exact hc3
  replace hc4 : cs84 150 = .inl (gY G 14, 10, .inl (fun _ => 0)) := by rw [e84, va_up_ne _ _ (by omega)]; exact hc4
  replace hc5 : cs84 151 = .inl (gY G 14, 10, .inl (fun _ => 0)) := by rw [e84, va_up_ne _ _ (by omega)]; exact hc5
  replace hc6 : cs84 152 = refI G 22 152 4 := by rw [e84, va_up_ne _ _ (by omega)]; exact hc6
  replace hc8 : cs84 154 = .inl (gY G 14, 60, .inl (fun _ => 0)) := by rw [e84, va_up_ne _ _ (by omega)]; exact hc8
  replace hc9 : cs84 155 = .inl (gY G 14, 60, .inl (fun _ => 0)) := by rw [e84, va_up_ne _ _ (by omega)]; exact hc9
  replace hc10 : cs84 156 = .inl (gY G 14, 60, .inl (fun _ => 0)) := by rw [e84, va_up_ne _ _ (by omega)]; exact hc10
  replace hc11 : cs84 157 = .inl (gY G 14, 60, .inl (fun _ => 0)) := by rw [e84, va_up_ne _ _ (by omega)]; exact hc11
  replace hc7 : cs84 153 = refI G 17 153 16 := by rw [e84]; exact va_up_self _ _ _
  replace hr12 : ∀ n, 158 ≤ n → n < 206 → cs84 n = finY G n := fun n a b => by rw [e84, va_up_ne _ _ (by omega)]; exact hr12 n a b
  replace hlo : ∀ n, n < 146 → cs84 n = cs n := fun n a => by rw [e84, va_up_ne _ _ (by omega)] <;> exact hlo n a
  clear e84
  refine ry_iinc 3 [(0, .ref (gA G 146)), (1, .ref (gA G 8)), (2, .ref (gA G 10)), (3, .int 16)] [1, 2, 3, 0] dX3_init_150 rfl rfl (by decide) rfl ?_
  refine ry_goto 131 dX3_init_153 (by decide) ?_
  refine ry_iload_n 3 dX3_init_131 rfl rfl ?_
  refine ry_bipush (v := 30) dX3_init_132 rfl ?_
  refine ry_icmp_ge 156 dX3_init_134 (by decide) (fun q => absurd q (by decide)) (fun _ => ?_)
  refine ry_aload_n 0 dX3_init_137 rfl rfl ?_
  refine ry_get fl_X3_35 (by omega) hc0 rfl dX3_init_138 ?_
  refine ry_iload_n 3 dX3_init_141 rfl rfl ?_
  refine ry_new (ci := 2) (fs := [.int 0, .int 0, .int 0, .int 0, .int 0, .int 0, .int 0, .int 0, .int 0, .int 0, .null]) tyX2 tyX2_ok rfl i_X2 wc_X3_33 wi_2 wn_2 bl_2 (Nat.le_of_ble_eq_true rfl) (Nat.le_of_ble_eq_true rfl) dX3_init_142 ?_
  refine ry_cs (fun cs85 e85 => ?_)
  replace hc0 : cs85 146 = .inr (3, [.ref (gA G 8), .ref (gA G 10), .int 0, .int 0, .ref (gA G 147), .ref (gA G 148), .ref (gA G 149), .ref (gA G 150), .ref (gA G 151), .ref (gA G 152), .ref (gA G 153), .int 0, .int 0, .ref (gA G 154), .ref (gA G 155), .ref (gA G 156), .ref (gA G 157), .int 0, .int 0, .int 0]) := by rw [e85, va_up_ne _ _ (by omega)]; exact hc0
  replace hc1 : cs85 147 = .inl (gY G 14, 10, .inl (fun _ => 0)) := by rw [e85, va_up_ne _ _ (by omega)]; exact hc1
  replace hc2 : cs85 148 = .inl (gY G 14, 10, .inl (fun _ => 0)) := by rw [e85, va_up_ne _ _ (by omega)]; exact hc2
  replace hc3 : cs85 149 = .inl (gY G 14, 10, .inl (fun _ => 0)) := by rw [e85, va_up_ne _ _ (by omega)]; exact hc3
  replace hc4 : cs85 150 = .inl (gY G 14, 10, .inl (fun _ => 0)) := by rw [e85, va_up_ne _ _ (by omega)]; exact hc4
  replace hc5 : cs85 151 = .inl (gY G 14, 10, .inl (fun _ => 0)) := by rw [e85, va_up_ne _ _ (by omega)]; exact hc5
  replace hc6 : cs85 152 = refI G 22 152 4 := by rw [e85, va_up_ne _ _ (by omega)]; exact hc6
  replace hc7 : cs85 153 = refI G 17 153 16 := by rw [e85, va_up_ne _ _ (by omega)]; exact hc7
  replace hc8 : cs85 154 = .inl (gY G 14, 60, .inl (fun _ => 0)) := by rw [e85, va_up_ne _ _ (by omega)]; exact hc8
  replace hc9 : cs85 155 = .inl (gY G 14, 60, .inl (fun _ => 0)) := by rw [e85, va_up_ne _ _ (by omega)]; exact hc9
  replace hc10 : cs85 156 = .inl (gY G 14, 60, .inl (fun _ => 0)) := by rw [e85, va_up_ne _ _ (by omega)]; exact hc10
  replace hc11 : cs85 157 = .inl (gY G 14, 60, .inl (fun _ => 0)) := by rw [e85, va_up_ne _ _ (by omega)]; exact hc11
  have hc60 : cs85 206 = .inr (2, [.int 0, .int 0, .int 0, .int 0, .int 0, .int 0, .int 0, .int 0, .int 0, .int 0, .null]) := by rw [e85]; exact va_up_self _ _ _
  replace hr12 : ∀ n, 158 ≤ n → n < 206 → cs85 n = finY G n := fun n a b => by rw [e85, va_up_ne _ _ (by omega)]; exact hr12 n a b
  replace hlo : ∀ n, n < 146 → cs85 n = cs n := fun n a => by rw [e85, va_up_ne _ _ (by omega)] <;> exact hlo n a
  clear e85
  refine ry_dup dX3_init_145 rfl ?_
  refine ry_callIN (As := []) (n := 206) (mc := 1) (ms := 10) (Kc G 206 2 _) (fun _ _ h => by have := h.1; omega) mw_X2_init rfl win_X2_init wm_X3_60 rfl ⟨show d + 1 + 1 ≤ d + 2 by omega, show 30 * (d + 1) + 30 ≤ 30 * (d + 2) by omega, (Nat.le_of_ble_eq_true rfl), (Nat.le_of_ble_eq_true rfl)⟩ (Nat.le_of_ble_eq_true rfl) dX3_init_146 (kX2_init G d (show Is 206 2 by unfold Is; decide +kernel) hc60) (fun cs86 hK => ?_) rfl
  obtain ⟨-, hK1, hK2⟩ := hK
  clear hc60
  replace hc0 : cs86 146 = .inr (3, [.ref (gA G 8), .ref (gA G 10), .int 0, .int 0, .ref (gA G 147), .ref (gA G 148), .ref (gA G 149), .ref (gA G 150), .ref (gA G 151), .ref (gA G 152), .ref (gA G 153), .int 0, .int 0, .ref (gA G 154), .ref (gA G 155), .ref (gA G 156), .ref (gA G 157), .int 0, .int 0, .int 0]) := (hK1 _ (by omega)).trans hc0
  replace hc1 : cs86 147 = .inl (gY G 14, 10, .inl (fun _ => 0)) := (hK1 _ (by omega)).trans hc1
  replace hc2 : cs86 148 = .inl (gY G 14, 10, .inl (fun _ => 0)) := (hK1 _ (by omega)).trans hc2
  replace hc3 : cs86 149 = .inl (gY G 14, 10, .inl (fun _ => 0)) := (hK1 _ (by omega)).trans hc3
  replace hc4 : cs86 150 = .inl (gY G 14, 10, .inl (fun _ => 0)) := (hK1 _ (by omega)).trans hc4
  replace hc5 : cs86 151 = .inl (gY G 14, 10, .inl (fun _ => 0)) := (hK1 _ (by omega)).trans hc5
  replace hc6 : cs86 152 = refI G 22 152 4 := (hK1 _ (by omega)).trans hc6
  replace hc7 : cs86 153 = refI G 17 153 16 := (hK1 _ (by omega)).trans hc7
  replace hc8 : cs86 154 = .inl (gY G 14, 60, .inl (fun _ => 0)) := (hK1 _ (by omega)).trans hc8
  replace hc9 : cs86 155 = .inl (gY G 14, 60, .inl (fun _ => 0)) := (hK1 _ (by omega)).trans hc9
  replace hc10 : cs86 156 = .inl (gY G 14, 60, .inl (fun _ => 0)) := (hK1 _ (by omega)).trans hc10
  replace hc11 : cs86 157 = .inl (gY G 14, 60, .inl (fun _ => 0)) := (hK1 _ (by omega)).trans hc11
  replace hr12 : ∀ n, 158 ≤ n → n < 206 → cs86 n = finY G n := fun n a b => (hK1 n (by omega)).trans (hr12 n a b)
  replace hlo : ∀ n, n < 146 → cs86 n = cs n := fun n a => (hK1 n (by omega)).trans (hlo n a)
  replace hr12 : ∀ n, 158 ≤ n → n < 208 → cs86 n = finY G n := fun n a b => if h : n < 206 then hr12 n a h else hK2 n (by omega) (by omega)
  clear hK1 hK2
  refine ry_aast (κ := 17) (κ' := 2) (t0 := 4) (L := 30) (n := 153) (v := 206) (i := 16) (by omega) (by omega) rfl rfl hc7 (ln_at_3_7) ((hr12 206 (by omega) (by omega)).trans (fyE_2 (show Is 206 2 by unfold Is; decide +kernel))) (by decide) rfl (by decide +kernel) dX3_init_149 ?_
  refine ry_cs (fun cs87 e87 => ?_)
  replace hc0 : cs87 146 = .inr (3, [.ref (gA G 8), .ref (gA G 10), .int 0, .int 0, .ref (gA G 147), .ref (gA G 148), .ref (gA G 149), .ref (gA G 150), .ref (gA G 151), .ref (gA G 152), .ref (gA G 153), .int 0, .int 0, .ref (gA G 154), .ref (gA G 155), .ref (gA G 156), .ref (gA G 157), .int 0, .int 0, .int 0]) := by rw [e87, va_up_ne _ _ (by omega)]; exact hc0
  replace hc1 : cs87 147 = .inl (gY G 14, 10, .inl (fun _ => 0)) := by rw [e87, va_up_ne _ _ (by omega)]; exact hc1
  replace hc2 : cs87 148 = .inl (gY G 14, 10, .inl (fun _ => 0)) := by rw [e87, va_up_ne _ _ (by omega)]; exact hc2
  replace hc3 : cs87 149 = .inl (gY G 14, 10, .inl (fun _ => 0)) := by rw [e87, va_up_ne _ _ (by omega)]; exact hc3
  replace hc4 : cs87 150 = .inl (gY G 14, 10, .inl (fun _ => 0)) := by rw [e87, va_up_ne _ _ (by omega)]; exact hc4
  replace hc5 : cs87 151 = .inl (gY G 14, 10, .inl (fun _ => 0)) := by rw [e87, va_up_ne _ _ (by omega)]; exact hc5
  replace hc6 : cs87 152 = refI G 22 152 4 := by rw [e87, va_up_ne _ _ (by omega)]; exact hc6
  replace hc8 : cs87 154 = .inl (gY G 14, 60, .inl (fun _ => 0)) := by rw [e87, va_up_ne _ _ (by omega)]; exact hc8
  replace hc9 : cs87 155 = .inl (gY G 14, 60, .inl (fun _ => 0)) := by rw [e87, va_up_ne _ _ (by omega)]; exact hc9
  replace hc10 : cs87 156 = .inl (gY G 14, 60, .inl (fun _ => 0)) := by rw [e87, va_up_ne _ _ (by omega)]; exact hc10
  replace hc11 : cs87 157 = .inl (gY G 14, 60, .inl (fun _ => 0)) := by rw [e87, va_up_ne _ _ (by omega)]; exact hc11
  replace hc7 : cs87 153 = refI G 17 153 17 := by rw [e87]; exact va_up_self _ _ _
  replace hr12 : ∀ n, 158 ≤ n → n < 208 → cs87 n = finY G n := fun n a b => by rw [e87, va_up_ne _ _ (by omega)]; exact hr12 n a b
  replace hlo : ∀ n, n < 146 → cs87 n = cs n := fun n a => by rw [e87, va_up_ne _ _ (by omega)] <;> exact hlo n a
  clear e87
  refine ry_iinc 3 [(0, .ref (gA G 146)), (1, .ref (gA G 8)), (2, .ref (gA G 10)), (3, .int 17)] [1, 2, 3, 0] dX3_init_150 rfl rfl (by decide) rfl ?_
  refine ry_goto 131 dX3_init_153 (by decide) ?_
  refine ry_iload_n 3 dX3_init_131 rfl rfl ?_
  refine ry_bipush (v := 30) dX3_init_132 rfl ?_
  refine ry_icmp_ge 156 dX3_init_134 (by decide) (fun q => absurd q (by decide)) (fun _ => ?_)
  refine ry_aload_n 0 dX3_init_137 rfl rfl ?_
  refine ry_get fl_X3_35 (by omega) hc0 rfl dX3_init_138 ?_
  refine ry_iload_n 3 dX3_init_141 rfl rfl ?_
  refine ry_new (ci := 2) (fs := [.int 0, .int 0, .int 0, .int 0, .int 0, .int 0, .int 0, .int 0, .int 0, .int 0, .null]) tyX2 tyX2_ok rfl i_X2 wc_X3_33 wi_2 wn_2 bl_2 (Nat.le_of_ble_eq_true rfl) (Nat.le_of_ble_eq_true rfl) dX3_init_142 ?_
  refine ry_cs (fun cs88 e88 => ?_)
  replace hc0 : cs88 146 = .inr (3, [.ref (gA G 8), .ref (gA G 10), .int 0, .int 0, .ref (gA G 147), .ref (gA G 148), .ref (gA G 149), .ref (gA G 150), .ref (gA G 151), .ref (gA G 152), .ref (gA G 153), .int 0, .int 0, .ref (gA G 154), .ref (gA G 155), .ref (gA G 156), .ref (gA G 157), .int 0, .int 0, .int 0]) := by rw [e88, va_up_ne _ _ (by omega)]; exact hc0
  replace hc1 : cs88 147 = .inl (gY G 14, 10, .inl (fun _ => 0)) := by rw [e88, va_up_ne _ _ (by omega)]; exact hc1
  replace hc2 : cs88 148 = .inl (gY G 14, 10, .inl (fun _ => 0)) := by rw [e88, va_up_ne _ _ (by omega)]; exact hc2
  replace hc3 : cs88 149 = .inl (gY G 14, 10, .inl (fun _ => 0)) := by rw [e88, va_up_ne _ _ (by omega)]; exact hc3
  replace hc4 : cs88 150 = .inl (gY G 14, 10, .inl (fun _ => 0)) := by rw [e88, va_up_ne _ _ (by omega)]; exact hc4
  replace hc5 : cs88 151 = .inl (gY G 14, 10, .inl (fun _ => 0)) := by rw [e88, va_up_ne _ _ (by omega)]; exact hc5
  replace hc6 : cs88 152 = refI G 22 152 4 := by rw [e88, va_up_ne _ _ (by omega)]; exact hc6
  replace hc7 : cs88 153 = refI G 17 153 17 := by rw [e88, va_up_ne _ _ (by omega)]; exact hc7
  replace hc8 : cs88 154 = .inl (gY G 14, 60, .inl (fun _ => 0)) := by rw [e88, va_up_ne _ _ (by omega)]; exact hc8
  replace hc9 : cs88 155 = .inl (gY G 14, 60, .inl (fun _ => 0)) := by rw [e88, va_up_ne _ _ (by omega)]; exact hc9
  replace hc10 : cs88 156 = .inl (gY G 14, 60, .inl (fun _ => 0)) := by rw [e88, va_up_ne _ _ (by omega)]; exact hc10
  replace hc11 : cs88 157 = .inl (gY G 14, 60, .inl (fun _ => 0)) := by rw [e88, va_up_ne _ _ (by omega)]; exact hc11
  have hc62 : cs88 208 = .inr (2, [.int 0, .int 0, .int 0, .int 0, .int 0, .int 0, .int 0, .int 0, .int 0, .int 0, .null]) := by rw [e88]; exact va_up_self _ _ _
  replace hr12 : ∀ n, 158 ≤ n → n < 208 → cs88 n = finY G n := fun n a b => by rw [e88, va_up_ne _ _ (by omega)]; exact hr12 n a b
  replace hlo : ∀ n, n < 146 → cs88 n = cs n := fun n a => by rw [e88, va_up_ne _ _ (by omega)] <;> exact hlo n a
  clear e88
  refine ry_dup dX3_init_145 rfl ?_
  refine ry_callIN (As := []) (n := 208) (mc := 1) (ms := 10) (Kc G 208 2 _) (fun _ _ h => by have := h.1; omega) mw_X2_init rfl win_X2_init wm_X3_60 rfl ⟨show d + 1 + 1 ≤ d + 2 by omega, show 30 * (d + 1) + 30 ≤ 30 * (d + 2) by omega, (Nat.le_of_ble_eq_true rfl), (Nat.le_of_ble_eq_true rfl)⟩ (Nat.le_of_ble_eq_true rfl) dX3_init_146 (kX2_init G d (show Is 208 2 by unfold Is; decide +kernel) hc62) (fun cs89 hK => ?_) rfl
  obtain ⟨-, hK1, hK2⟩ := hK
  clear hc62
  replace hc0 : cs89 146 = .inr (3, [.ref (gA G 8), .ref (gA G 10), .int 0, .int 0, .ref (gA G 147), .ref (gA G 148), .ref (gA G 149), .ref (gA G 150), .ref (gA G 151), .ref (gA G 152), .ref (gA G 153), .int 0, .int 0, .ref (gA G 154), .ref (gA G 155), .ref (gA G 156), .ref (gA G 157), .int 0, .int 0, .int 0]) := (hK1 _ (by omega)).trans hc0
  replace hc1 : cs89 147 = .inl (gY G 14, 10, .inl (fun _ => 0)) := (hK1 _ (by omega)).trans hc1
  replace hc2 : cs89 148 = .inl (gY G 14, 10, .inl (fun _ => 0)) := (hK1 _ (by omega)).trans hc2
  replace hc3 : cs89 149 = .inl (gY G 14, 10, .inl (fun _ => 0)) := (hK1 _ (by omega)).trans hc3
  replace hc4 : cs89 150 = .inl (gY G 14, 10, .inl (fun _ => 0)) := (hK1 _ (by omega)).trans hc4
  replace hc5 : cs89 151 = .inl (gY G 14, 10, .inl (fun _ => 0)) := (hK1 _ (by omega)).trans hc5
  replace hc6 : cs89 152 = refI G 22 152 4 := (hK1 _ (by omega)).trans hc6
  replace hc7 : cs89 153 = refI G 17 153 17 := (hK1 _ (by omega)).trans hc7
  replace hc8 : cs89 154 = .inl (gY G 14, 60, .inl (fun _ => 0)) := (hK1 _ (by omega)).trans hc8
  replace hc9 : cs89 155 = .inl (gY G 14, 60, .inl (fun _ => 0)) := (hK1 _ (by omega)).trans hc9
  replace hc10 : cs89 156 = .inl (gY G 14, 60, .inl (fun _ => 0)) := (hK1 _ (by omega)).trans hc10
  replace hc11 : cs89 157 = .inl (gY G 14, 60, .inl (fun _ => 0)) := (hK1 _ (by omega)).trans hc11
  replace hr12 : ∀ n, 158 ≤ n → n < 208 → cs89 n = finY G n := fun n a b => (hK1 n (by omega)).trans (hr12 n a b)
  replace hlo : ∀ n, n < 146 → cs89 n = cs n := fun n a => (hK1 n (by omega)).trans (hlo n a)
  replace hr12 : ∀ n, 158 ≤ n → n < 210 → cs89 n = finY G n := fun n a b => if h : n < 208 then hr12 n a h else hK2 n (by omega) (by omega)
  clear hK1 hK2
  refine ry_aast (κ := 17) (κ' := 2) (t0 := 4) (L := 30) (n := 153) (v := 208) (i := 17) (by omega) (by omega) rfl rfl hc7 (ln_at_3_7) ((hr12 208 (by omega) (by omega)).trans (fyE_2 (show Is 208 2 by unfold Is; decide +kernel))) (by decide) rfl (by decide +kernel) dX3_init_149 ?_
  refine ry_cs (fun cs90 e90 => ?_)
  replace hc0 : cs90 146 = .inr (3, [.ref (gA G 8), .ref (gA G 10), .int 0, .int 0, .ref (gA G 147), .ref (gA G 148), .ref (gA G 149), .ref (gA G 150), .ref (gA G 151), .ref (gA G 152), .ref (gA G 153), .int 0, .int 0, .ref (gA G 154), .ref (gA G 155), .ref (gA G 156), .ref (gA G 157), .int 0, .int 0, .int 0]) := by rw [e90, va_up_ne _ _ (by omega)]; exact hc0
  replace hc1 : cs90 147 = .inl (gY G 14, 10, .inl (fun _ => 0)) := by rw [e90, va_up_ne _ _ (by omega)]; exact hc1
  replace hc2 : cs90 148 = .inl (gY G 14, 10, .inl (fun _ => 0)) := by rw [e90, va_up_ne _ _ (by omega)]; exact hc2
  replace hc3 : cs90 149 = .inl (gY G 14, 10, .inl (fun _ => 0)) := by rw [e90, va_up_ne _ _ (by omega)]; exact hc3
  replace hc4 : cs90 150 = .inl (gY G 14, 10, .inl (fun _ => 0)) := by rw [e90, va_up_ne _ _ (by omega)]; exact hc4
  replace hc5 : cs90 151 = .inl (gY G 14, 10, .inl (fun _ => 0)) := by rw [e90, va_up_ne _ _ (by omega)]; exact hc5
  replace hc6 : cs90 152 = refI G 22 152 4 := by rw [e90, va_up_ne _ _ (by omega)]; exact hc6
  replace hc8 : cs90 154 = .inl (gY G 14, 60, .inl (fun _ => 0)) := by rw [e90, va_up_ne _ _ (by omega)]; exact hc8
  replace hc9 : cs90 155 = .inl (gY G 14, 60, .inl (fun _ => 0)) := by rw [e90, va_up_ne _ _ (by omega)]; exact hc9
  replace hc10 : cs90 156 = .inl (gY G 14, 60, .inl (fun _ => 0)) := by rw [e90, va_up_ne _ _ (by omega)]; exact hc10
  replace hc11 : cs90 157 = .inl (gY G 14, 60, .inl (fun _ => 0)) := by rw [e90, va_up_ne _ _ (by omega)]; exact hc11
  replace hc7 : cs90 153 = refI G 17 153 18 := by rw [e90]; exact va_up_self _ _ _
  replace hr12 : ∀ n, 158 ≤ n → n < 210 → cs90 n = finY G n := fun n a b => by rw [e90, va_up_ne _ _ (by omega)]; exact hr12 n a b
  replace hlo : ∀ n, n < 146 → cs90 n = cs n := fun n a => by rw [e90, va_up_ne _ _ (by omega)] <;> exact hlo n a
  clear e90
  refine ry_iinc 3 [(0, .ref (gA G 146)), (1, .ref (gA G 8)), (2, .ref (gA G 10)), (3, .int 18)] [1, 2, 3, 0] dX3_init_150 rfl rfl (by decide) rfl ?_
  refine ry_goto 131 dX3_init_153 (by decide) ?_
  refine ry_iload_n 3 dX3_init_131 rfl rfl ?_
  refine ry_bipush (v := 30) dX3_init_132 rfl ?_
  refine ry_icmp_ge 156 dX3_init_134 (by decide) (fun q => absurd q (by decide)) (fun _ => ?_)
  refine ry_aload_n 0 dX3_init_137 rfl rfl ?_
  refine ry_get fl_X3_35 (by omega) hc0 rfl dX3_init_138 ?_
  refine ry_iload_n 3 dX3_init_141 rfl rfl ?_
  refine ry_new (ci := 2) (fs := [.int 0, .int 0, .int 0, .int 0, .int 0, .int 0, .int 0, .int 0, .int 0, .int 0, .null]) tyX2 tyX2_ok rfl i_X2 wc_X3_33 wi_2 wn_2 bl_2 (Nat.le_of_ble_eq_true rfl) (Nat.le_of_ble_eq_true rfl) dX3_init_142 ?_
  refine ry_cs (fun cs91 e91 => ?_)
  replace hc0 : cs91 146 = .inr (3, [.ref (gA G 8), .ref (gA G 10), .int 0, .int 0, .ref (gA G 147), .ref (gA G 148), .ref (gA G 149), .ref (gA G 150), .ref (gA G 151), .ref (gA G 152), .ref (gA G 153), .int 0, .int 0, .ref (gA G 154), .ref (gA G 155), .ref (gA G 156), .ref (gA G 157), .int 0, .int 0, .int 0]) := by rw [e91, va_up_ne _ _ (by omega)]; exact hc0
  replace hc1 : cs91 147 = .inl (gY G 14, 10, .inl (fun _ => 0)) := by rw [e91, va_up_ne _ _ (by omega)]; exact hc1
  replace hc2 : cs91 148 = .inl (gY G 14, 10, .inl (fun _ => 0)) := by rw [e91, va_up_ne _ _ (by omega)]; exact hc2
  replace hc3 : cs91 149 = .inl (gY G 14, 10, .inl (fun _ => 0)) := by rw [e91, va_up_ne _ _ (by omega)]; exact hc3
  replace hc4 : cs91 150 = .inl (gY G 14, 10, .inl (fun _ => 0)) := by rw [e91, va_up_ne _ _ (by omega)]; exact hc4
  replace hc5 : cs91 151 = .inl (gY G 14, 10, .inl (fun _ => 0)) := by rw [e91, va_up_ne _ _ (by omega)]; exact hc5
  replace hc6 : cs91 152 = refI G 22 152 4 := by rw [e91, va_up_ne _ _ (by omega)]; exact hc6
  replace hc7 : cs91 153 = refI G 17 153 18 := by rw [e91, va_up_ne _ _ (by omega)]; exact hc7
  replace hc8 : cs91 154 = .inl (gY G 14, 60, .inl (fun _ => 0)) := by rw [e91, va_up_ne _ _ (by omega)]; exact hc8
  replace hc9 : cs91 155 = .inl (gY G 14, 60, .inl (fun _ => 0)) := by rw [e91, va_up_ne _ _ (by omega)]; exact hc9
  replace hc10 : cs91 156 = .inl (gY G 14, 60, .inl (fun _ => 0)) := by rw [e91, va_up_ne _ _ (by omega)]; exact hc10
  replace hc11 : cs91 157 = .inl (gY G 14, 60, .inl (fun _ => 0)) := by rw [e91, va_up_ne _ _ (by omega)]; exact hc11
  have hc64 : cs91 210 = .inr (2, [.int 0, .int 0, .int 0, .int 0, .int 0, .int 0, .int 0, .int 0, .int 0, .int 0, .null]) := by rw [e91]; exact va_up_self _ _ _
  replace hr12 : ∀ n, 158 ≤ n → n < 210 → cs91 n = finY G n := fun n a b => by rw [e91, va_up_ne _ _ (by omega)]; exact hr12 n a b
  replace hlo : ∀ n, n < 146 → cs91 n = cs n := fun n a => by rw [e91, va_up_ne _ _ (by omega)] <;> exact hlo n a
  clear e91
  refine ry_dup dX3_init_145 rfl ?_
  refine ry_callIN (As := []) (n := 210) (mc := 1) (ms := 10) (Kc G 210 2 _) (fun _ _ h => by have := h.1; omega) mw_X2_init rfl win_X2_init wm_X3_60 rfl ⟨show d + 1 + 1 ≤ d + 2 by omega, show 30 * (d + 1) + 30 ≤ 30 * (d + 2) by omega, (Nat.le_of_ble_eq_true rfl), (Nat.le_of_ble_eq_true rfl)⟩ (Nat.le_of_ble_eq_true rfl) dX3_init_146 (kX2_init G d (show Is 210 2 by unfold Is; decide +kernel) hc64) (fun cs92 hK => ?_) rfl
  obtain ⟨-, hK1, hK2⟩ := hK
  clear hc64
  replace hc0 : cs92 146 = .inr (3, [.ref (gA G 8), .ref (gA G 10), .int 0, .int 0, .ref (gA G 147), .ref (gA G 148), .ref (gA G 149), .ref (gA G 150), .ref (gA G 151), .ref (gA G 152), .ref (gA G 153), .int 0, .int 0, .ref (gA G 154), .ref (gA G 155), .ref (gA G 156), .ref (gA G 157), .int 0, .int 0, .int 0]) := (hK1 _ (by omega)).trans hc0
  replace hc1 : cs92 147 = .inl (gY G 14, 10, .inl (fun _ => 0)) := (hK1 _ (by omega)).trans hc1
  replace hc2 : cs92 148 = .inl (gY G 14, 10, .inl (fun _ => 0)) := (hK1 _ (by omega)).trans hc2
  replace hc3 : cs92 149 = .inl (gY G 14, 10, .inl (fun _ => 0)) := (hK1 _ (by omega)).trans hc3
  replace hc4 : cs92 150 = .inl (gY G 14, 10, .inl (fun _ => 0)) := (hK1 _ (by omega)).trans hc4
  replace hc5 : cs92 151 = .inl (gY G 14, 10, .inl (fun _ => 0)) := (hK1 _ (by omega)).trans hc5
  replace hc6 : cs92 152 = refI G 22 152 4 := (hK1 _ (by omega)).trans hc6
  replace hc7 : cs92 153 = refI G 17 153 18 := (hK1 _ (by omega)).trans hc7
  replace hc8 : cs92 154 = .inl (gY G 14, 60, .inl (fun _ => 0)) := (hK1 _ (by omega)).trans hc8
  replace hc9 : cs92 155 = .inl (gY G 14, 60, .inl (fun _ => 0)) := (hK1 _ (by omega)).trans hc9
  replace hc10 : cs92 156 = .inl (gY G 14, 60, .inl (fun _ => 0)) := (hK1 _ (by omega)).trans hc10
  replace hc11 : cs92 157 = .inl (gY G 14, 60, .inl (fun _ => 0)) := (hK1 _ (by omega)).trans hc11
  replace hr12 : ∀ n, 158 ≤ n → n < 210 → cs92 n = finY G n := fun n a b => (hK1 n (by omega)).trans (hr12 n a b)
  replace hlo : ∀ n, n < 146 → cs92 n = cs n := fun n a => (hK1 n (by omega)).trans (hlo n a)
  replace hr12 : ∀ n, 158 ≤ n → n < 212 → cs92 n = finY G n := fun n a b => if h : n < 210 then hr12 n a h else hK2 n (by omega) (by omega)
  clear hK1 hK2
  refine ry_aast (κ := 17) (κ' := 2) (t0 := 4) (L := 30) (n := 153) (v := 210) (i := 18) (by omega) (by omega) rfl rfl hc7 (ln_at_3_7) ((hr12 210 (by omega) (by omega)).trans (fyE_2 (show Is 210 2 by unfold Is; decide +kernel))) (by decide) rfl (by decide +kernel) dX3_init_149 ?_
  refine ry_cs (fun cs93 e93 => ?_)
  replace hc0 : cs93 146 = .inr (3, [.ref (gA G 8), .ref (gA G 10), .int 0, .int 0, .ref (gA G 147), .ref (gA G 148), .ref (gA G 149), .ref (gA G 150), .ref (gA G 151), .ref (gA G 152), .ref (gA G 153), .int 0, .int 0, .ref (gA G 154), .ref (gA G 155), .ref (gA G 156), .ref (gA G 157), .int 0, .int 0, .int 0]) := by rw [e93, va_up_ne _ _ (by omega)]; exact hc0
  replace hc1 : cs93 147 = .inl (gY G 14, 10, .inl (fun _ => 0)) := by rw [e93, va_up_ne _ _ (by omega)]; exact hc1
  replace hc2 : cs93 148 = .inl (gY G 14, 10, .inl (fun _ => 0)) := by rw [e93, va_up_ne _ _ (by omega)]; exact hc2
  replace hc3 : cs93 149 = .inl (gY G 14, 10, .inl (fun _ => 0)) := by rw [e93, va_up_ne _ _ (by omega)]; exact hc3
  replace hc4 : cs93 150 = .inl (gY G 14, 10, .inl (fun _ => 0)) := by rw [e93, va_up_ne _ _ (by omega)]; exact hc4
  replace hc5 : cs93 151 = .inl (gY G 14, 10, .inl (fun _ => 0)) := by rw [e93, va_up_ne _ _ (by omega)]; exact hc5
  replace hc6 : cs93 152 = refI G 22 152 4 := by rw [e93, va_up_ne _ _ (by omega)]; exact hc6
  replace hc8 : cs93 154 = .inl (gY G 14, 60, .inl (fun _ => 0)) := by rw [e93, va_up_ne _ _ (by omega)]; exact hc8
  replace hc9 : cs93 155 = .inl (gY G 14, 60, .inl (fun _ => 0)) := by rw [e93, va_up_ne _ _ (by omega)]; exact hc9
  replace hc10 : cs93 156 = .inl (gY G 14, 60, .inl (fun _ => 0)) := by rw [e93, va_up_ne _ _ (by omega)]; exact hc10
  replace hc11 : cs93 157 = .inl (gY G 14, 60, .inl (fun _ => 0)) := by rw [e93, va_up_ne _ _ (by omega)]; exact hc11
  replace hc7 : cs93 153 = refI G 17 153 19 := by rw [e93]; exact va_up_self _ _ _
  replace hr12 : ∀ n, 158 ≤ n → n < 212 → cs93 n = finY G n := fun n a b => by rw [e93, va_up_ne _ _ (by omega)]; exact hr12 n a b
  replace hlo : ∀ n, n < 146 → cs93 n = cs n := fun n a => by rw [e93, va_up_ne _ _ (by omega)] <;> exact hlo n a
  clear e93
  refine ry_iinc 3 [(0, .ref (gA G 146)), (1, .ref (gA G 8)), (2, .ref (gA G 10)), (3, .int 19)] [1, 2, 3, 0] dX3_init_150 rfl rfl (by decide) rfl ?_
  refine ry_goto 131 dX3_init_153 (by decide) ?_
  refine ry_iload_n 3 dX3_init_131 rfl rfl ?_
  refine ry_bipush (v := 30) dX3_init_132 rfl ?_
  refine ry_icmp_ge 156 dX3_init_134 (by decide) (fun q => absurd q (by decide)) (fun _ => ?_)
  refine ry_aload_n 0 dX3_init_137 rfl rfl ?_
  refine ry_get fl_X3_35 (by omega) hc0 rfl dX3_init_138 ?_
  refine ry_iload_n 3 dX3_init_141 rfl rfl ?_
  refine ry_new (ci := 2) (fs := [.int 0, .int 0, .int 0, .int 0, .int 0, .int 0, .int 0, .int 0, .int 0, .int 0, .null]) tyX2 tyX2_ok rfl i_X2 wc_X3_33 wi_2 wn_2 bl_2 (Nat.le_of_ble_eq_true rfl) (Nat.le_of_ble_eq_true rfl) dX3_init_142 ?_
  refine ry_cs (fun cs94 e94 => ?_)
  replace hc0 : cs94 146 = .inr (3, [.ref (gA G 8), .ref (gA G 10), .int 0, .int 0, .ref (gA G 147), .ref (gA G 148), .ref (gA G 149), .ref (gA G 150), .ref (gA G 151), .ref (gA G 152), .ref (gA G 153), .int 0, .int 0, .ref (gA G 154), .ref (gA G 155), .ref (gA G 156), .ref (gA G 157), .int 0, .int 0, .int 0]) := by rw [e94, va_up_ne _ _ (by omega)]; exact hc0
  replace hc1 : cs94 147 = .inl (gY G 14, 10, .inl (fun _ => 0)) := by rw [e94, va_up_ne _ _ (by omega)]; exact hc1
  replace hc2 : cs94 148 = .inl (gY G 14, 10, .inl (fun _ => 0)) := by rw [e94, va_up_ne _ _ (by omega)]; exact hc2
  replace hc3 : cs94 149 = .inl (gY G 14, 10, .inl (fun _ => 0)) := by rw [e94, va_up_ne _ _ (by omega)]; exact hc3
  replace hc4 : cs94 150 = .inl (gY G 14, 10, .inl (fun _ => 0)) := by rw [e94, va_up_ne _ _ (by omega)]; exact hc4
  replace hc5 : cs94 151 = .inl (gY G 14, 10, .inl (fun _ => 0)) := by rw [e94, va_up_ne _ _ (by omega)]; exact hc5
  replace hc6 : cs94 152 = refI G 22 152 4 := by rw [e94, va_up_ne _ _ (by omega)]; exact hc6
  replace hc7 : cs94 153 = refI G 17 153 19 := by rw [e94, va_up_ne _ _ (by omega)]; exact hc7
  replace hc8 : cs94 154 = .inl (gY G 14, 60, .inl (fun _ => 0)) := by rw [e94, va_up_ne _ _ (by omega)]; exact hc8
  replace hc9 : cs94 155 = .inl (gY G 14, 60, .inl (fun _ => 0)) := by rw [e94, va_up_ne _ _ (by omega)]; exact hc9
  replace hc10 : cs94 156 = .inl (gY G 14, 60, .inl (fun _ => 0)) := by rw [e94, va_up_ne _ _ (by omega)]; exact hc10
  replace hc11 : cs94 157 = .inl (gY G 14, 60, .inl (fun _ => 0)) := by rw [e94, va_up_ne _ _ (by omega)]; exact hc11
  have hc66 : cs94 212 = .inr (2, [.int 0, .int 0, .int 0, .int 0, .int 0, .int 0, .int 0, .int 0, .int 0, .int 0, .null]) := by rw [e94]; exact va_up_self _ _ _
  replace hr12 : ∀ n, 158 ≤ n → n < 212 → cs94 n = finY G n := fun n a b => by rw [e94, va_up_ne _ _ (by omega)]; exact hr12 n a b
  replace hlo : ∀ n, n < 146 → cs94 n = cs n := fun n a => by rw [e94, va_up_ne _ _ (by omega)] <;> exact hlo n a
  clear e94
  refine ry_dup dX3_init_145 rfl ?_
  refine ry_callIN (As := []) (n := 212) (mc := 1) (ms := 10) (Kc G 212 2 _) (fun _ _ h => by have := h.1; omega) mw_X2_init rfl win_X2_init wm_X3_60 rfl ⟨show d + 1 + 1 ≤ d + 2 by omega, show 30 * (d + 1) + 30 ≤ 30 * (d + 2) by omega, (Nat.le_of_ble_eq_true rfl), (Nat.le_of_ble_eq_true rfl)⟩ (Nat.le_of_ble_eq_true rfl) dX3_init_146 (kX2_init G d (show Is 212 2 by unfold Is; decide +kernel) hc66) (fun cs95 hK => ?_) rfl
  obtain ⟨-, hK1, hK2⟩ := hK
  clear hc66
  replace hc0 : cs95 146 = .inr (3, [.ref (gA G 8), .ref (gA G 10), .int 0, .int 0, .ref (gA G 147), .ref (gA G 148), .ref (gA G 149), .ref (gA G 150), .ref (gA G 151), .ref (gA G 152), .ref (gA G 153), .int 0, .int 0, .ref (gA G 154), .ref (gA G 155), .ref (gA G 156), .ref (gA G 157), .int 0, .int 0, .int 0]) := (hK1 _ (by omega)).trans hc0
  replace hc1 : cs95 147 = .inl (gY G 14, 10, .inl (fun _ => 0)) := (hK1 _ (by omega)).trans hc1
  replace hc2 : cs95 148 = .inl (gY G 14, 10, .inl (fun _ => 0)) := (hK1 _ (by omega)).trans hc2
  replace hc3 : cs95 149 = .inl (gY G 14, 10, .inl (fun _ => 0)) := (hK1 _ (by omega)).trans hc3
  replace hc4 : cs95 150 = .inl (gY G 14, 10, .inl (fun _ => 0)) := (hK1 _ (by omega)).trans hc4
  replace hc5 : cs95 151 = .inl (gY G 14, 10, .inl (fun _ => 0)) := (hK1 _ (by omega)).trans hc5
  replace hc6 : cs95 152 = refI G 22 152 4 := (hK1 _ (by omega)).trans hc6
  replace hc7 : cs95 153 = refI G 17 153 19 := (hK1 _ (by omega)).trans hc7
  replace hc8 : cs95 154 = .inl (gY G 14, 60, .inl (fun _ => 0)) := (hK1 _ (by omega)).trans hc8
  replace hc9 : cs95 155 = .inl (gY G 14, 60, .inl (fun _ => 0)) := (hK1 _ (by omega)).trans hc9
  replace hc10 : cs95 156 = .inl (gY G 14, 60, .inl (fun _ => 0)) := (hK1 _ (by omega)).trans hc10
  replace hc11 : cs95 157 = .inl (gY G 14, 60, .inl (fun _ => 0)) := (hK1 _ (by omega)).trans hc11
  replace hr12 : ∀ n, 158 ≤ n → n < 212 → cs95 n = finY G n := fun n a b => (hK1 n (by omega)).trans (hr12 n a b)
  replace hlo : ∀ n, n < 146 → cs95 n = cs n := fun n a => (hK1 n (by omega)).trans (hlo n a)
  replace hr12 : ∀ n, 158 ≤ n → n < 214 → cs95 n = finY G n := fun n a b => if h : n < 212 then hr12 n a h else hK2 n (by omega) (by omega)
  clear hK1 hK2
  refine ry_aast (κ := 17) (κ' := 2) (t0 := 4) (L := 30) (n := 153) (v := 212) (i := 19) (by omega) (by omega) rfl rfl hc7 (ln_at_3_7) ((hr12 212 (by omega) (by omega)).trans (fyE_2 (show Is 212 2 by unfold Is; decide +kernel))) (by decide) rfl (by decide +kernel) dX3_init_149 ?_
  refine ry_cs (fun cs96 e96 => ?_)
  replace hc0 : cs96 146 = .inr (3, [.ref (gA G 8), .ref (gA G 10), .int 0, .int 0, .ref (gA G 147), .ref (gA G 148), .ref (gA G 149), .ref (gA G 150), .ref (gA G 151), .ref (gA G 152), .ref (gA G 153), .int 0, .int 0, .ref (gA G 154), .ref (gA G 155), .ref (gA G 156), .ref (gA G 157), .int 0, .int 0, .int 0]) := by rw [e96, va_up_ne _ _ (by omega)]; exact hc0
  replace hc1 : cs96 147 = .inl (gY G 14, 10, .inl (fun _ => 0)) := by rw [e96, va_up_ne _ _ (by omega)]; exact hc1
  replace hc2 : cs96 148 = .inl (gY G 14, 10, .inl (fun _ => 0)) := by rw [e96, va_up_ne _ _ (by omega)]; exact hc2
  replace hc3 : cs96 149 = .inl (gY G 14, 10, .inl (fun _ => 0)) := by rw [e96, va_up_ne _ _ (by omega)]; exact hc3
  replace hc4 : cs96 150 = .inl (gY G 14, 10, .inl (fun _ => 0)) := by rw [e96, va_up_ne _ _ (by omega)]; exact hc4
  replace hc5 : cs96 151 = .inl (gY G 14, 10, .inl (fun _ => 0)) := by rw [e96, va_up_ne _ _ (by omega)]; exact hc5
  replace hc6 : cs96 152 = refI G 22 152 4 := by rw [e96, va_up_ne _ _ (by omega)]; exact hc6
  replace hc8 : cs96 154 = .inl (gY G 14, 60, .inl (fun _ => 0)) := by rw [e96, va_up_ne _ _ (by omega)]; exact hc8
  replace hc9 : cs96 155 = .inl (gY G 14, 60, .inl (fun _ => 0)) := by rw [e96, va_up_ne _ _ (by omega)]; exact hc9
  replace hc10 : cs96 156 = .inl (gY G 14, 60, .inl (fun _ => 0)) := by rw [e96, va_up_ne _ _ (by omega)]; exact hc10
  replace hc11 : cs96 157 = .inl (gY G 14, 60, .inl (fun _ => 0)) := by rw [e96, va_up_ne _ _ (by omega)]; exact hc11
  replace hc7 : cs96 153 = refI G 17 153 20 := by rw [e96]; exact va_up_self _ _ _
  replace hr12 : ∀ n, 158 ≤ n → n < 214 → cs96 n = finY G n := fun n a b => by rw [e96, va_up_ne _ _ (by omega)]; exact hr12 n a b
  replace hlo : ∀ n, n < 146 → cs96 n = cs n := fun n a => by rw [e96, va_up_ne _ _ (by omega)] <;> exact hlo n a
  clear e96
  refine ry_iinc 3 [(0, .ref (gA G 146)), (1, .ref (gA G 8)), (2, .ref (gA G 10)), (3, .int 20)] [1, 2, 3, 0] dX3_init_150 rfl rfl (by decide) rfl ?_
  refine ry_goto 131 dX3_init_153 (by decide) ?_
  refine ry_iload_n 3 dX3_init_131 rfl rfl ?_
  refine ry_bipush (v := 30) dX3_init_132 rfl ?_
  refine ry_icmp_ge 156 dX3_init_134 (by decide) (fun q => absurd q (by decide)) (fun _ => ?_)
  refine ry_aload_n 0 dX3_init_137 rfl rfl ?_
  refine ry_get fl_X3_35 (by omega) hc0 rfl dX3_init_138 ?_
  refine ry_iload_n 3 dX3_init_141 rfl rfl ?_
  refine ry_new (ci := 2) (fs := [.int 0, .int 0, .int 0, .int 0, .int 0, .int 0, .int 0, .int 0, .int 0, .int 0, .null]) tyX2 tyX2_ok rfl i_X2 wc_X3_33 wi_2 wn_2 bl_2 (Nat.le_of_ble_eq_true rfl) (Nat.le_of_ble_eq_true rfl) dX3_init_142 ?_
  refine ry_cs (fun cs97 e97 => ?_)
  replace hc0 : cs97 146 = .inr (3, [.ref (gA G 8), .ref (gA G 10), .int 0, .int 0, .ref (gA G 147), .ref (gA G 148), .ref (gA G 149), .ref (gA G 150), .ref (gA G 151), .ref (gA G 152), .ref (gA G 153), .int 0, .int 0, .ref (gA G 154), .ref (gA G 155), .ref (gA G 156), .ref (gA G 157), .int 0, .int 0, .int 0]) := by rw [e97, va_up_ne _ _ (by omega)]; exact hc0
  replace hc1 : cs97 147 = .inl (gY G 14, 10, .inl (fun _ => 0)) := by rw [e97, va_up_ne _ _ (by omega)]; exact hc1
  replace hc2 : cs97 148 = .inl (gY G 14, 10, .inl (fun _ => 0)) := by rw [e97, va_up_ne _ _ (by omega)]; exact hc2
  replace hc3 : cs97 149 = .inl (gY G 14, 10, .inl (fun _ => 0)) := by rw [e97, va_up_ne _ _ (by omega)]; exact hc3
  replace hc4 : cs97 150 = .inl (gY G 14, 10, .inl (fun _ => 0)) := by rw [e97, va_up_ne _ _ (by omega)]; exact hc4
  replace hc5 : cs97 151 = .inl (gY G 14, 10, .inl (fun _ => 0)) := by rw [e97, va_up_ne _ _ (by omega)]; exact hc5
  replace hc6 : cs97 152 = refI G 22 152 4 := by rw [e97, va_up_ne _ _ (by omega)]; exact hc6
  replace hc7 : cs97 153 = refI G 17 153 20 := by rw [e97, va_up_ne _ _ (by omega)]; exact hc7
  replace hc8 : cs97 154 = .inl (gY G 14, 60, .inl (fun _ => 0)) := by rw [e97, va_up_ne _ _ (by omega)]; exact hc8
  replace hc9 : cs97 155 = .inl (gY G 14, 60, .inl (fun _ => 0)) := by rw [e97, va_up_ne _ _ (by omega)]; exact hc9
  replace hc10 : cs97 156 = .inl (gY G 14, 60, .inl (fun _ => 0)) := by rw [e97, va_up_ne _ _ (by omega)]; exact hc10
  replace hc11 : cs97 157 = .inl (gY G 14, 60, .inl (fun _ => 0)) := by rw [e97, va_up_ne _ _ (by omega)]; exact hc11
  have hc68 : cs97 214 = .inr (2, [.int 0, .int 0, .int 0, .int 0, .int 0, .int 0, .int 0, .int 0, .int 0, .int 0, .null]) := by rw [e97]; exact va_up_self _ _ _
  replace hr12 : ∀ n, 158 ≤ n → n < 214 → cs97 n = finY G n := fun n a b => by rw [e97, va_up_ne _ _ (by omega)]; exact hr12 n a b
  replace hlo : ∀ n, n < 146 → cs97 n = cs n := fun n a => by rw [e97, va_up_ne _ _ (by omega)] <;> exact hlo n a
  clear e97
  refine ry_dup dX3_init_145 rfl ?_
  refine ry_callIN (As := []) (n := 214) (mc := 1) (ms := 10) (Kc G 214 2 _) (fun _ _ h => by have := h.1; omega) mw_X2_init rfl win_X2_init wm_X3_60 rfl ⟨show d + 1 + 1 ≤ d + 2 by omega, show 30 * (d + 1) + 30 ≤ 30 * (d + 2) by omega, (Nat.le_of_ble_eq_true rfl), (Nat.le_of_ble_eq_true rfl)⟩ (Nat.le_of_ble_eq_true rfl) dX3_init_146 (kX2_init G d (show Is 214 2 by unfold Is; decide +kernel) hc68) (fun cs98 hK => ?_) rfl
  obtain ⟨-, hK1, hK2⟩ := hK
  clear hc68
  replace hc0 : cs98 146 = .inr (3, [.ref (gA G 8), .ref (gA G 10), .int 0, .int 0, .ref (gA G 147), .ref (gA G 148), .ref (gA G 149), .ref (gA G 150), .ref (gA G 151), .ref (gA G 152), .ref (gA G 153), .int 0, .int 0, .ref (gA G 154), .ref (gA G 155), .ref (gA G 156), .ref (gA G 157), .int 0, .int 0, .int 0]) := (hK1 _ (by omega)).trans hc0
  replace hc1 : cs98 147 = .inl (gY G 14, 10, .inl (fun _ => 0)) := (hK1 _ (by omega)).trans hc1
  replace hc2 : cs98 148 = .inl (gY G 14, 10, .inl (fun _ => 0)) := (hK1 _ (by omega)).trans hc2
  replace hc3 : cs98 149 = .inl (gY G 14, 10, .inl (fun _ => 0)) := (hK1 _ (by omega)).trans hc3
  replace hc4 : cs98 150 = .inl (gY G 14, 10, .inl (fun _ => 0)) := (hK1 _ (by omega)).trans hc4
  replace hc5 : cs98 151 = .inl (gY G 14, 10, .inl (fun _ => 0)) := (hK1 _ (by omega)).trans hc5
  replace hc6 : cs98 152 = refI G 22 152 4 := (hK1 _ (by omega)).trans hc6
  replace hc7 : cs98 153 = refI G 17 153 20 := (hK1 _ (by omega)).trans hc7
  replace hc8 : cs98 154 = .inl (gY G 14, 60, .inl (fun _ => 0)) := (hK1 _ (by omega)).trans hc8
  replace hc9 : cs98 155 = .inl (gY G 14, 60, .inl (fun _ => 0)) := (hK1 _ (by omega)).trans hc9
  replace hc10 : cs98 156 = .inl (gY G 14, 60, .inl (fun _ => 0)) := (hK1 _ (by omega)).trans hc10
  replace hc11 : cs98 157 = .inl (gY G 14, 60, .inl (fun _ => 0)) := (hK1 _ (by omega)).trans hc11
  replace hr12 : ∀ n, 158 ≤ n → n < 214 → cs98 n = finY G n := fun n a b => (hK1 n (by omega)).trans (hr12 n a b)
  replace hlo : ∀ n, n < 146 → cs98 n = cs n := fun n a => (hK1 n (by omega)).trans (hlo n a)
  replace hr12 : ∀ n, 158 ≤ n → n < 216 → cs98 n = finY G n := fun n a b => if h : n < 214 then hr12 n a h else hK2 n (by omega) (by omega)
  clear hK1 hK2
  refine ry_aast (κ := 17) (κ' := 2) (t0 := 4) (L := 30) (n := 153) (v := 214) (i := 20) (by omega) (by omega) rfl rfl hc7 (ln_at_3_7) ((hr12 214 (by omega) (by omega)).trans (fyE_2 (show Is 214 2 by unfold Is; decide +kernel))) (by decide) rfl (by decide +kernel) dX3_init_149 ?_
  refine ry_cs (fun cs99 e99 => ?_)
  replace hc0 : cs99 146 = .inr (3, [.ref (gA G 8), .ref (gA G 10), .int 0, .int 0, .ref (gA G 147), .ref (gA G 148), .ref (gA G 149), .ref (gA G 150), .ref (gA G 151), .ref (gA G 152), .ref (gA G 153), .int 0, .int 0, .ref (gA G 154), .ref (gA G 155), .ref (gA G 156), .ref (gA G 157), .int 0, .int 0, .int 0]) := by rw [e99, va_up_ne _ _ (by omega)]; exact hc0
  replace hc1 : cs99 147 = .inl (gY G 14, 10, .inl (fun _ => 0)) := by rw [e99, va_up_ne _ _ (by omega)]; exact hc1
  replace hc2 : cs99 148 = .inl (gY G 14, 10, .inl (fun _ => 0)) := by rw [e99, va_up_ne _ _ (by omega)]; exact hc2
  replace hc3 : cs99 149 = .inl (gY G 14, 10, .inl (fun _ => 0)) := by rw [e99, va_up_ne _ _ (by omega)]; exact hc3
  replace hc4 : cs99 150 = .inl (gY G 14, 10, .inl (fun _ => 0)) := by rw [e99, va_up_ne _ _ (by omega)]; exact hc4
  replace hc5 : cs99 151 = .inl (gY G 14, 10, .inl (fun _ => 0)) := by rw [e99, va_up_ne _ _ (by omega)]; exact hc5
  replace hc6 : cs99 152 = refI G 22 152 4 := by rw [e99, va_up_ne _ _ (by omega)]; exact hc6
  replace hc8 : cs99 154 = .inl (gY G 14, 60, .inl (fun _ => 0)) := by rw [e99, va_up_ne _ _ (by omega)]; exact hc8
  replace hc9 : cs99 155 = .inl (gY G 14, 60, .inl (fun _ => 0)) := by rw [e99, va_up_ne _ _ (by omega)]; exact hc9
  replace hc10 : cs99 156 = .inl (gY G 14, 60, .inl (fun _ => 0)) := by rw [e99, va_up_ne _ _ (by omega)]; exact hc10
  replace hc11 : cs99 157 = .inl (gY G 14, 60, .inl (fun _ => 0)) := by rw [e99, va_up_ne _ _ (by omega)]; exact hc11
  replace hc7 : cs99 153 = refI G 17 153 21 := by rw [e99]; exact va_up_self _ _ _
  replace hr12 : ∀ n, 158 ≤ n → n < 216 → cs99 n = finY G n := fun n a b => by rw [e99, va_up_ne _ _ (by omega)]; exact hr12 n a b
  replace hlo : ∀ n, n < 146 → cs99 n = cs n := fun n a => by rw [e99, va_up_ne _ _ (by omega)] <;> exact hlo n a
  clear e99
  refine ry_iinc 3 [(0, .ref (gA G 146)), (1, .ref (gA G 8)), (2, .ref (gA G 10)), (3, .int 21)] [1, 2, 3, 0] dX3_init_150 rfl rfl (by decide) rfl ?_
  refine ry_goto 131 dX3_init_153 (by decide) ?_
  refine ry_iload_n 3 dX3_init_131 rfl rfl ?_
  refine ry_bipush (v := 30) dX3_init_132 rfl ?_
  refine ry_icmp_ge 156 dX3_init_134 (by decide) (fun q => absurd q (by decide)) (fun _ => ?_)
  refine ry_aload_n 0 dX3_init_137 rfl rfl ?_
  refine ry_get fl_X3_35 (by omega) hc0 rfl dX3_init_138 ?_
  refine ry_iload_n 3 dX3_init_141 rfl rfl ?_
  refine ry_new (ci := 2) (fs := [.int 0, .int 0, .int 0, .int 0, .int 0, .int 0, .int 0, .int 0, .int 0, .int 0, .null]) tyX2 tyX2_ok rfl i_X2 wc_X3_33 wi_2 wn_2 bl_2 (Nat.le_of_ble_eq_true rfl) (Nat.le_of_ble_eq_true rfl) dX3_init_142 ?_
  refine ry_cs (fun cs100 e100 => ?_)
  replace hc0 : cs100 146 = .inr (3, [.ref (gA G 8), .ref (gA G 10), .int 0, .int 0, .ref (gA G 147), .ref (gA G 148), .ref (gA G 149), .ref (gA G 150), .ref (gA G 151), .ref (gA G 152), .ref (gA G 153), .int 0, .int 0, .ref (gA G 154), .ref (gA G 155), .ref (gA G 156), .ref (gA G 157), .int 0, .int 0, .int 0]) := by rw [e100, va_up_ne _ _ (by omega)]; exact hc0
  replace hc1 : cs100 147 = .inl (gY G 14, 10, .inl (fun _ => 0)) := by rw [e100, va_up_ne _ _ (by omega)]; exact hc1
  replace hc2 : cs100 148 = .inl (gY G 14, 10, .inl (fun _ => 0)) := by rw [e100, va_up_ne _ _ (by omega)]; exact hc2
  replace hc3 : cs100 149 = .inl (gY G 14, 10, .inl (fun _ => 0)) := by rw [e100, va_up_ne _ _ (by omega)]; exact hc3
  replace hc4 : cs100 150 = .inl (gY G 14, 10, .inl (fun _ => 0)) := by rw [e100, va_up_ne _ _ (by omega)]; exact hc4
  replace hc5 : cs100 151 = .inl (gY G 14, 10, .inl (fun _ => 0)) := by rw [e100, va_up_ne _ _ (by omega)]; exact hc5
  replace hc6 : cs100 152 = refI G 22 152 4 := by rw [e100, va_up_ne _ _ (by omega)]; exact hc6
  replace hc7 : cs100 153 = refI G 17 153 21 := by rw [e100, va_up_ne _ _ (by omega)]; exact hc7
  replace hc8 : cs100 154 = .inl (gY G 14, 60, .inl (fun _ => 0)) := by rw [e100, va_up_ne _ _ (by omega)]; exact hc8
  replace hc9 : cs100 155 = .inl (gY G 14, 60, .inl (fun _ => 0)) := by rw [e100, va_up_ne _ _ (by omega)]; exact hc9
  replace hc10 : cs100 156 = .inl (gY G 14, 60, .inl (fun _ => 0)) := by rw [e100, va_up_ne _ _ (by omega)]; exact hc10
  replace hc11 : cs100 157 = .inl (gY G 14, 60, .inl (fun _ => 0)) := by rw [e100, va_up_ne _ _ (by omega)]; exact hc11
  have hc70 : cs100 216 = .inr (2, [.int 0, .int 0, .int 0, .int 0, .int 0, .int 0, .int 0, .int 0, .int 0, .int 0, .null]) := by rw [e100]; exact va_up_self _ _ _
  replace hr12 : ∀ n, 158 ≤ n → n < 216 → cs100 n = finY G n := fun n a b => by rw [e100, va_up_ne _ _ (by omega)]; exact hr12 n a b
  replace hlo : ∀ n, n < 146 → cs100 n = cs n := fun n a => by rw [e100, va_up_ne _ _ (by omega)] <;> exact hlo n a
  clear e100
  refine ry_dup dX3_init_145 rfl ?_
  refine ry_callIN (As := []) (n := 216) (mc := 1) (ms := 10) (Kc G 216 2 _) (fun _ _ h => by have := h.1; omega) mw_X2_init rfl win_X2_init wm_X3_60 rfl ⟨show d + 1 + 1 ≤ d + 2 by omega, show 30 * (d + 1) + 30 ≤ 30 * (d + 2) by omega, (Nat.le_of_ble_eq_true rfl), (Nat.le_of_ble_eq_true rfl)⟩ (Nat.le_of_ble_eq_true rfl) dX3_init_146 (kX2_init G d (show Is 216 2 by unfold Is; decide +kernel) hc70) (fun cs101 hK => ?_) rfl
  obtain ⟨-, hK1, hK2⟩ := hK
  clear hc70
  replace hc0 : cs101 146 = .inr (3, [.ref (gA G 8), .ref (gA G 10), .int 0, .int 0, .ref (gA G 147), .ref (gA G 148), .ref (gA G 149), .ref (gA G 150), .ref (gA G 151), .ref (gA G 152), .ref (gA G 153), .int 0, .int 0, .ref (gA G 154), .ref (gA G 155), .ref (gA G 156), .ref (gA G 157), .int 0, .int 0, .int 0]) := (hK1 _ (by omega)).trans hc0
  replace hc1 : cs101 147 = .inl (gY G 14, 10, .inl (fun _ => 0)) := (hK1 _ (by omega)).trans hc1
  replace hc2 : cs101 148 = .inl (gY G 14, 10, .inl (fun _ => 0)) := (hK1 _ (by omega)).trans hc2
  replace hc3 : cs101 149 = .inl (gY G 14, 10, .inl (fun _ => 0)) := (hK1 _ (by omega)).trans hc3
  replace hc4 : cs101 150 = .inl (gY G 14, 10, .inl (fun _ => 0)) := (hK1 _ (by omega)).trans hc4
  replace hc5 : cs101 151 = .inl (gY G 14, 10, .inl (fun _ => 0)) := (hK1 _ (by omega)).trans hc5
  replace hc6 : cs101 152 = refI G 22 152 4 := (hK1 _ (by omega)).trans hc6
  replace hc7 : cs101 153 = refI G 17 153 21 := (hK1 _ (by omega)).trans hc7
  replace hc8 : cs101 154 = .inl (gY G 14, 60, .inl (fun _ => 0)) := (hK1 _ (by omega)).trans hc8
  replace hc9 : cs101 155 = .inl (gY G 14, 60, .inl (fun _ => 0)) := (hK1 _ (by omega)).trans hc9
  replace hc10 : cs101 156 = .inl (gY G 14, 60, .inl (fun _ => 0)) := (hK1 _ (by omega)).trans hc10
  replace hc11 : cs101 157 = .inl (gY G 14, 60, .inl (fun _ => 0)) := (hK1 _ (by omega)).trans hc11
  replace hr12 : ∀ n, 158 ≤ n → n < 216 → cs101 n = finY G n := fun n a b => (hK1 n (by omega)).trans (hr12 n a b)
  replace hlo : ∀ n, n < 146 → cs101 n = cs n := fun n a => (hK1 n (by omega)).trans (hlo n a)
  replace hr12 : ∀ n, 158 ≤ n → n < 218 → cs101 n = finY G n := fun n a b => if h : n < 216 then hr12 n a h else hK2 n (by omega) (by omega)
  clear hK1 hK2
  refine ry_aast (κ := 17) (κ' := 2) (t0 := 4) (L := 30) (n := 153) (v := 216) (i := 21) (by omega) (by omega) rfl rfl hc7 (ln_at_3_7) ((hr12 216 (by omega) (by omega)).trans (fyE_2 (show Is 216 2 by unfold Is; decide +kernel))) (by decide) rfl (by decide +kernel) dX3_init_149 ?_
  refine ry_cs (fun cs102 e102 => ?_)
  replace hc0 : cs102 146 = .inr (3, [.ref (gA G 8), .ref (gA G 10), .int 0, .int 0, .ref (gA G 147), .ref (gA G 148), .ref (gA G 149), .ref (gA G 150), .ref (gA G 151), .ref (gA G 152), .ref (gA G 153), .int 0, .int 0, .ref (gA G 154), .ref (gA G 155), .ref (gA G 156), .ref (gA G 157), .int 0, .int 0, .int 0]) := by rw [e102, va_up_ne _ _ (by omega)]; exact hc0
  replace hc1 : cs102 147 = .inl (gY G 14, 10, .inl (fun _ => 0)) := by rw [e102, va_up_ne _ _ (by omega)]; exact hc1
  replace hc2 : cs102 148 = .inl (gY G 14, 10, .inl (fun _ => 0)) := by rw [e102, va_up_ne _ _ (by omega)]; exact hc2
  replace hc3 : cs102 149 = .inl (gY G 14, 10, .inl (fun _ => 0)) := by rw [e102, va_up_ne _ _ (by omega)]; exact hc3
  replace hc4 : cs102 150 = .inl (gY G 14, 10, .inl (fun _ => 0)) := by rw [e102, va_up_ne _ _ (by omega)]; exact hc4
  replace hc5 : cs102 151 = .inl (gY G 14, 10, .inl (fun _ => 0)) := by rw [e102, va_up_ne _ _ (by omega)]; exact hc5
  replace hc6 : cs102 152 = refI G 22 152 4 := by rw [e102, va_up_ne _ _ (by omega)]; exact hc6
  replace hc8 : cs102 154 = .inl (gY G 14, 60, .inl (fun _ => 0)) := by rw [e102, va_up_ne _ _ (by omega)]; exact hc8
  replace hc9 : cs102 155 = .inl (gY G 14, 60, .inl (fun _ => 0)) := by rw [e102, va_up_ne _ _ (by omega)]; exact hc9
  replace hc10 : cs102 156 = .inl (gY G 14, 60, .inl (fun _ => 0)) := by rw [e102, va_up_ne _ _ (by omega)]; exact hc10
  replace hc11 : cs102 157 = .inl (gY G 14, 60, .inl (fun _ => 0)) := by rw [e102, va_up_ne _ _ (by omega)]; exact hc11
  replace hc7 : cs102 153 = refI G 17 153 22 := by rw [e102]; exact va_up_self _ _ _
  replace hr12 : ∀ n, 158 ≤ n → n < 218 → cs102 n = finY G n := fun n a b => by rw [e102, va_up_ne _ _ (by omega)]; exact hr12 n a b
  replace hlo : ∀ n, n < 146 → cs102 n = cs n := fun n a => by rw [e102, va_up_ne _ _ (by omega)] <;> exact hlo n a
  clear e102
  refine ry_iinc 3 [(0, .ref (gA G 146)), (1, .ref (gA G 8)), (2, .ref (gA G 10)), (3, .int 22)] [1, 2, 3, 0] dX3_init_150 rfl rfl (by decide) rfl ?_
  refine ry_goto 131 dX3_init_153 (by decide) ?_
  refine ry_iload_n 3 dX3_init_131 rfl rfl ?_
  refine ry_bipush (v := 30) dX3_init_132 rfl ?_
  refine ry_icmp_ge 156 dX3_init_134 (by decide) (fun q => absurd q (by decide)) (fun _ => ?_)
  refine ry_aload_n 0 dX3_init_137 rfl rfl ?_
  refine ry_get fl_X3_35 (by omega) hc0 rfl dX3_init_138 ?_
  refine ry_iload_n 3 dX3_init_141 rfl rfl ?_
  refine ry_new (ci := 2) (fs := [.int 0, .int 0, .int 0, .int 0, .int 0, .int 0, .int 0, .int 0, .int 0, .int 0, .null]) tyX2 tyX2_ok rfl i_X2 wc_X3_33 wi_2 wn_2 bl_2 (Nat.le_of_ble_eq_true rfl) (Nat.le_of_ble_eq_true rfl) dX3_init_142 ?_
  refine ry_cs (fun cs103 e103 => ?_)
  replace hc0 : cs103 146 = .inr (3, [.ref (gA G 8), .ref (gA G 10), .int 0, .int 0, .ref (gA G 147), .ref (gA G 148), .ref (gA G 149), .ref (gA G 150), .ref (gA G 151), .ref (gA G 152), .ref (gA G 153), .int 0, .int 0, .ref (gA G 154), .ref (gA G 155), .ref (gA G 156), .ref (gA G 157), .int 0, .int 0, .int 0]) := by rw [e103, va_up_ne _ _ (by omega)]; exact hc0
  replace hc1 : cs103 147 = .inl (gY G 14, 10, .inl (fun _ => 0)) := by rw [e103, va_up_ne _ _ (by omega)]; exact hc1
  replace hc2 : cs103 148 = .inl (gY G 14, 10, .inl (fun _ => 0)) := by rw [e103, va_up_ne _ _ (by omega)]; exact hc2
  replace hc3 : cs103 149 = .inl (gY G 14, 10, .inl (fun _ => 0)) := by rw [e103, va_up_ne _ _ (by omega)]; exact hc3
  replace hc4 : cs103 150 = .inl (gY G 14, 10, .inl (fun _ => 0)) := by rw [e103, va_up_ne _ _ (by omega)]; exact hc4
  replace hc5 : cs103 151 = .inl (gY G 14, 10, .inl (fun _ => 0)) := by rw [e103, va_up_ne _ _ (by omega)]; exact hc5
  replace hc6 : cs103 152 = refI G 22 152 4 := by rw [e103, va_up_ne _ _ (by omega)]; exact hc6
  replace hc7 : cs103 153 = refI G 17 153 22 := by rw [e103, va_up_ne _ _ (by omega)]; exact hc7
  replace hc8 : cs103 154 = .inl (gY G 14, 60, .inl (fun _ => 0)) := by rw [e103, va_up_ne _ _ (by omega)]; exact hc8
  replace hc9 : cs103 155 = .inl (gY G 14, 60, .inl (fun _ => 0)) := by rw [e103, va_up_ne _ _ (by omega)]; exact hc9
  replace hc10 : cs103 156 = .inl (gY G 14, 60, .inl (fun _ => 0)) := by rw [e103, va_up_ne _ _ (by omega)]; exact hc10
  replace hc11 : cs103 157 = .inl (gY G 14, 60, .inl (fun _ => 0)) := by rw [e103, va_up_ne _ _ (by omega)]; exact hc11
  have hc72 : cs103 218 = .inr (2, [.int 0, .int 0, .int 0, .int 0, .int 0, .int 0, .int 0, .int 0, .int 0, .int 0, .null]) := by rw [e103]; exact va_up_self _ _ _
  replace hr12 : ∀ n, 158 ≤ n → n < 218 → cs103 n = finY G n := fun n a b => by rw [e103, va_up_ne _ _ (by omega)]; exact hr12 n a b
  replace hlo : ∀ n, n < 146 → cs103 n = cs n := fun n a => by rw [e103, va_up_ne _ _ (by omega)] <;> exact hlo n a
  clear e103
  refine ry_dup dX3_init_145 rfl ?_
  refine ry_callIN (As := []) (n := 218) (mc := 1) (ms := 10) (Kc G 218 2 _) (fun _ _ h => by have := h.1; omega) mw_X2_init rfl win_X2_init wm_X3_60 rfl ⟨show d + 1 + 1 ≤ d + 2 by omega, show 30 * (d + 1) + 30 ≤ 30 * (d + 2) by omega, (Nat.le_of_ble_eq_true rfl), (Nat.le_of_ble_eq_true rfl)⟩ (Nat.le_of_ble_eq_true rfl) dX3_init_146 (kX2_init G d (show Is 218 2 by unfold Is; decide +kernel) hc72) (fun cs104 hK => ?_) rfl
  obtain ⟨-, hK1, hK2⟩ := hK
  clear hc72
  replace hc0 : cs104 146 = .inr (3, [.ref (gA G 8), .ref (gA G 10), .int 0, .int 0, .ref (gA G 147), .ref (gA G 148), .ref (gA G 149), .ref (gA G 150), .ref (gA G 151), .ref (gA G 152), .ref (gA G 153), .int 0, .int 0, .ref (gA G 154), .ref (gA G 155), .ref (gA G 156), .ref (gA G 157), .int 0, .int 0, .int 0]) := (hK1 _ (by omega)).trans hc0
  replace hc1 : cs104 147 = .inl (gY G 14, 10, .inl (fun _ => 0)) := (hK1 _ (by omega)).trans hc1
  replace hc2 : cs104 148 = .inl (gY G 14, 10, .inl (fun _ => 0)) := (hK1 _ (by omega)).trans hc2
  replace hc3 : cs104 149 = .inl (gY G 14, 10, .inl (fun _ => 0)) := (hK1 _ (by omega)).trans hc3
  replace hc4 : cs104 150 = .inl (gY G 14, 10, .inl (fun _ => 0)) := (hK1 _ (by omega)).trans hc4
  replace hc5 : cs104 151 = .inl (gY G 14, 10, .inl (fun _ => 0)) := (hK1 _ (by omega)).trans hc5
  replace hc6 : cs104 152 = refI G 22 152 4 := (hK1 _ (by omega)).trans hc6
  replace hc7 : cs104 153 = refI G 17 153 22 := (hK1 _ (by omega)).trans hc7
  replace hc8 : cs104 154 = .inl (gY G 14, 60, .inl (fun _ => 0)) := (hK1 _ (by omega)).trans hc8
  replace hc9 : cs104 155 = .inl (gY G 14, 60, .inl (fun _ => 0)) := (hK1 _ (by omega)).trans hc9
  replace hc10 : cs104 156 = .inl (gY G 14, 60, .inl (fun _ => 0)) := (hK1 _ (by omega)).trans hc10
  replace hc11 : cs104 157 = .inl (gY G 14, 60, .inl (fun _ => 0)) := (hK1 _ (by omega)).trans hc11
  replace hr12 : ∀ n, 158 ≤ n → n < 218 → cs104 n = finY G n := fun n a b => (hK1 n (by omega)).trans (hr12 n a b)
  replace hlo : ∀ n, n < 146 → cs104 n = cs n := fun n a => (hK1 n (by omega)).trans (hlo n a)
  replace hr12 : ∀ n, 158 ≤ n → n < 220 → cs104 n = finY G n := fun n a b => if h : n < 218 then hr12 n a h else hK2 n (by omega) (by omega)
  clear hK1 hK2
  refine ry_aast (κ := 17) (κ' := 2) (t0 := 4) (L := 30) (n := 153) (v := 218) (i := 22) (by omega) (by omega) rfl rfl hc7 (ln_at_3_7) ((hr12 218 (by omega) (by omega)).trans (fyE_2 (show Is 218 2 by unfold Is; decide +kernel))) (by decide) rfl (by decide +kernel) dX3_init_149 ?_
  refine ry_cs (fun cs105 e105 => ?_)
  replace hc0 : cs105 146 = .inr (3, [.ref (gA G 8), .ref (gA G 10), .int 0, .int 0, .ref (gA G 147), .ref (gA G 148), .ref (gA G 149), .ref (gA G 150), .ref (gA G 151), .ref (gA G 152), .ref (gA G 153), .int 0, .int 0, .ref (gA G 154), .ref (gA G 155), .ref (gA G 156), .ref (gA G 157), .int 0, .int 0, .int 0]) := by rw [e105, va_up_ne _ _ (by omega)]; exact hc0
  replace hc1 : cs105 147 = .inl (gY G 14, 10, .inl (fun _ => 0)) := by rw [e105, va_up_ne _ _ (by omega)]; exact hc1
  replace hc2 : cs105 148 = .inl (gY G 14, 10, .inl (fun _ => 0)) := by rw [e105, va_up_ne _ _ (by omega)]; exact hc2
  replace hc3 : cs105 149 = .inl (gY G 14, 10, .inl (fun _ => 0)) := by rw [e105, va_up_ne _ _ (by omega)]; exact hc3
  replace hc4 : cs105 150 = .inl (gY G 14, 10, .inl (fun _ => 0)) := by rw [e105, va_up_ne _ _ (by omega)]; exact hc4
  replace hc5 : cs105 151 = .inl (gY G 14, 10, .inl (fun _ => 0)) := by rw [e105, va_up_ne _ _ (by omega)]; exact hc5
  replace hc6 : cs105 152 = refI G 22 152 4 := by rw [e105, va_up_ne _ _ (by omega)]; exact hc6
  replace hc8 : cs105 154 = .inl (gY G 14, 60, .inl (fun _ => 0)) := by rw [e105, va_up_ne _ _ (by omega)]; exact hc8
  replace hc9 : cs105 155 = .inl (gY G 14, 60, .inl (fun _ => 0)) := by rw [e105, va_up_ne _ _ (by omega)]; exact hc9
  replace hc10 : cs105 156 = .inl (gY G 14, 60, .inl (fun _ => 0)) := by rw [e105, va_up_ne _ _ (by omega)]; exact hc10
  replace hc11 : cs105 157 = .inl (gY G 14, 60, .inl (fun _ => 0)) := by rw [e105, va_up_ne _ _ (by omega)]; exact hc11
  replace hc7 : cs105 153 = refI G 17 153 23 := by rw [e105]; exact va_up_self _ _ _
  replace hr12 : ∀ n, 158 ≤ n → n < 220 → cs105 n = finY G n := fun n a b => by rw [e105, va_up_ne _ _ (by omega)]; exact hr12 n a b
  replace hlo : ∀ n, n < 146 → cs105 n = cs n := fun n a => by rw [e105, va_up_ne _ _ (by omega)] <;> exact hlo n a
  clear e105
  refine ry_iinc 3 [(0, .ref (gA G 146)), (1, .ref (gA G 8)), (2, .ref (gA G 10)), (3, .int 23)] [1, 2, 3, 0] dX3_init_150 rfl rfl (by decide) rfl ?_
  refine ry_goto 131 dX3_init_153 (by decide) ?_
  refine ry_iload_n 3 dX3_init_131 rfl rfl ?_
  refine ry_bipush (v := 30) dX3_init_132 rfl ?_
  refine ry_icmp_ge 156 dX3_init_134 (by decide) (fun q => absurd q (by decide)) (fun _ => ?_)
  refine ry_aload_n 0 dX3_init_137 rfl rfl ?_
  refine ry_get fl_X3_35 (by omega) hc0 rfl dX3_init_138 ?_
  refine ry_iload_n 3 dX3_init_141 rfl rfl ?_
  refine ry_new (ci := 2) (fs := [.int 0, .int 0, .int 0, .int 0, .int 0, .int 0, .int 0, .int 0, .int 0, .int 0, .null]) tyX2 tyX2_ok rfl i_X2 wc_X3_33 wi_2 wn_2 bl_2 (Nat.le_of_ble_eq_true rfl) (Nat.le_of_ble_eq_true rfl) dX3_init_142 ?_
  refine ry_cs (fun cs106 e106 => ?_)
  replace hc0 : cs106 146 = .inr (3, [.ref (gA G 8), .ref (gA G 10), .int 0, .int 0, .ref (gA G 147), .ref (gA G 148), .ref (gA G 149), .ref (gA G 150), .ref (gA G 151), .ref (gA G 152), .ref (gA G 153), .int 0, .int 0, .ref (gA G 154), .ref (gA G 155), .ref (gA G 156), .ref (gA G 157), .int 0, .int 0, .int 0]) := by rw [e106, va_up_ne _ _ (by omega)]; exact hc0
  replace hc1 : cs106 147 = .inl (gY G 14, 10, .inl (fun _ => 0)) := by rw [e106, va_up_ne _ _ (by omega)]; exact hc1
  replace hc2 : cs106 148 = .inl (gY G 14, 10, .inl (fun _ => 0)) := by rw [e106, va_up_ne _ _ (by omega)]; exact hc2
  replace hc3 : cs106 149 = .inl (gY G 14, 10, .inl (fun _ => 0)) := by rw [e106, va_up_ne _ _ (by omega)]; exact hc3
  replace hc4 : cs106 150 = .inl (gY G 14, 10, .inl (fun _ => 0)) := by rw [e106, va_up_ne _ _ (by omega)]; exact hc4
  replace hc5 : cs106 151 = .inl (gY G 14, 10, .inl (fun _ => 0)) := by rw [e106, va_up_ne _ _ (by omega)]; exact hc5
  replace hc6 : cs106 152 = refI G 22 152 4 := by rw [e106, va_up_ne _ _ (by omega)]; exact hc6
  replace hc7 : cs106 153 = refI G 17 153 23 := by rw [e106, va_up_ne _ _ (by omega)]; exact hc7
  replace hc8 : cs106 154 = .inl (gY G 14, 60, .inl (fun _ => 0)) := by rw [e106, va_up_ne _ _ (by omega)]; exact hc8
  replace hc9 : cs106 155 = .inl (gY G 14, 60, .inl (fun _ => 0)) := by rw [e106, va_up_ne _ _ (by omega)]; exact hc9
  replace hc10 : cs106 156 = .inl (gY G 14, 60, .inl (fun _ => 0)) := by rw [e106, va_up_ne _ _ (by omega)]; exact hc10
  replace hc11 : cs106 157 = .inl (gY G 14, 60, .inl (fun _ => 0)) := by rw [e106, va_up_ne _ _ (by omega)]; exact hc11
  have hc74 : cs106 220 = .inr (2, [.int 0, .int 0, .int 0, .int 0, .int 0, .int 0, .int 0, .int 0, .int 0, .int 0, .null]) := by rw [e106]; exact va_up_self _ _ _
  replace hr12 : ∀ n, 158 ≤ n → n < 220 → cs106 n = finY G n := fun n a b => by rw [e106, va_up_ne _ _ (by omega)]; exact hr12 n a b
  replace hlo : ∀ n, n < 146 → cs106 n = cs n := fun n a => by rw [e106, va_up_ne _ _ (by omega)] <;> exact hlo n a
  clear e106
  refine ry_dup dX3_init_145 rfl ?_
  refine ry_callIN (As := []) (n := 220) (mc := 1) (ms := 10) (Kc G 220 2 _) (fun _ _ h => by have := h.1; omega) mw_X2_init rfl win_X2_init wm_X3_60 rfl ⟨show d + 1 + 1 ≤ d + 2 by omega, show 30 * (d + 1) + 30 ≤ 30 * (d + 2) by omega, (Nat.le_of_ble_eq_true rfl), (Nat.le_of_ble_eq_true rfl)⟩ (Nat.le_of_ble_eq_true rfl) dX3_init_146 (kX2_init G d (show Is 220 2 by unfold Is; decide +kernel) hc74) (fun cs107 hK => ?_) rfl
  obtain ⟨-, hK1, hK2⟩ := hK
  clear hc74
  replace hc0 : cs107 146 = .inr (3, [.ref (gA G 8), .ref (gA G 10), .int 0, .int 0, .ref (gA G 147), .ref (gA G 148), .ref (gA G 149), .ref (gA G 150), .ref (gA G 151), .ref (gA G 152), .ref (gA G 153), .int 0, .int 0, .ref (gA G 154), .ref (gA G 155), .ref (gA G 156), .ref (gA G 157), .int 0, .int 0, .int 0]) := (hK1 _ (by omega)).trans hc0
  replace hc1 : cs107 147 = .inl (gY G 14, 10, .inl (fun _ => 0)) := (hK1 _ (by omega)).trans hc1
  replace hc2 : cs107 148 = .inl (gY G 14, 10, .inl (fun _ => 0)) := (hK1 _ (by omega)).trans hc2
  replace hc3 : cs107 149 = .inl (gY G 14, 10, .inl (fun _ => 0)) := (hK1 _ (by omega)).trans hc3
  replace hc4 : cs107 150 = .inl (gY G 14, 10, .inl (fun _ => 0)) := (hK1 _ (by omega)).trans hc4
  replace hc5 : cs107 151 = .inl (gY G 14, 10, .inl (fun _ => 0)) := (hK1 _ (by omega)).trans hc5
  replace hc6 : cs107 152 = refI G 22 152 4 := (hK1 _ (by omega)).trans hc6
  replace hc7 : cs107 153 = refI G 17 153 23 := (hK1 _ (by omega)).trans hc7
  replace hc8 : cs107 154 = .inl (gY G 14, 60, .inl (fun _ => 0)) := (hK1 _ (by omega)).trans hc8
  replace hc9 : cs107 155 = .inl (gY G 14, 60, .inl (fun _ => 0)) := (hK1 _ (by omega)).trans hc9
  replace hc10 : cs107 156 = .inl (gY G 14, 60, .inl (fun _ => 0)) := (hK1 _ (by omega)).trans hc10
  replace hc11 : cs107 157 = .inl (gY G 14, 60, .inl (fun _ => 0)) := (hK1 _ (by omega)).trans hc11
  replace hr12 : ∀ n, 158 ≤ n → n < 220 → cs107 n = finY G n := fun n a b => (hK1 n (by omega)).trans (hr12 n a b)
  replace hlo : ∀ n, n < 146 → cs107 n = cs n := fun n a => (hK1 n (by omega)).trans (hlo n a)
  replace hr12 : ∀ n, 158 ≤ n → n < 222 → cs107 n = finY G n := fun n a b => if h : n < 220 then hr12 n a h else hK2 n (by omega) (by omega)
  clear hK1 hK2
  refine ry_aast (κ := 17) (κ' := 2) (t0 := 4) (L := 30) (n := 153) (v := 220) (i := 23) (by omega) (by omega) rfl rfl hc7 (ln_at_3_7) ((hr12 220 (by omega) (by omega)).trans (fyE_2 (show Is 220 2 by unfold Is; decide +kernel))) (by decide) rfl (by decide +kernel) dX3_init_149 ?_
  refine ry_cs (fun cs108 e108 => ?_)
  replace hc0 : cs108 146 = .inr (3, [.ref (gA G 8), .ref (gA G 10), .int 0, .int 0, .ref (gA G 147), .ref (gA G 148), .ref (gA G 149), .ref (gA G 150), .ref (gA G 151), .ref (gA G 152), .ref (gA G 153), .int 0, .int 0, .ref (gA G 154), .ref (gA G 155), .ref (gA G 156), .ref (gA G 157), .int 0, .int 0, .int 0]) := by rw [e108, va_up_ne _ _ (by omega)]; exact hc0
  replace hc1 : cs108 147 = .inl (gY G 14, 10, .inl (fun _ => 0)) := by rw [e108, va_up_ne _ _ (by omega)]; exact hc1
  replace hc2 : cs108 148 = .inl (gY G 14, 10, .inl (fun _ => 0)) := by rw [e108, va_up_ne _ _ (by omega)]; exact hc2
  replace hc3 : cs108 149 = .inl (gY G 14, 10, .inl (fun _ => 0)) := by rw [e108, va_up_ne _ _ (by omega)]; exact hc3
  replace hc4 : cs108 150 = .inl (gY G 14, 10, .inl (fun _ => 0)) := by rw [e108, va_up_ne _ _ (by omega)]; exact hc4
  replace hc5 : cs108 151 = .inl (gY G 14, 10, .inl (fun _ => 0)) := by rw [e108, va_up_ne _ _ (by omega)]; exact hc5
  replace hc6 : cs108 152 = refI G 22 152 4 := by rw [e108, va_up_ne _ _ (by omega)]; exact hc6
  replace hc8 : cs108 154 = .inl (gY G 14, 60, .inl (fun _ => 0)) := by rw [e108, va_up_ne _ _ (by omega)]; exact hc8
  replace hc9 : cs108 155 = .inl (gY G 14, 60, .inl (fun _ => 0)) := by rw [e108, va_up_ne _ _ (by omega)]; exact hc9
  replace hc10 : cs108 156 = .inl (gY G 14, 60, .inl (fun _ => 0)) := by rw [e108, va_up_ne _ _ (by omega)]; exact hc10
  replace hc11 : cs108 157 = .inl (gY G 14, 60, .inl (fun _ => 0)) := by rw [e108, va_up_ne _ _ (by omega)]; exact hc11
  replace hc7 : cs108 153 = refI G 17 153 24 := by rw [e108]; exact va_up_self _ _ _
  replace hr12 : ∀ n, 158 ≤ n → n < 222 → cs108 n = finY G n := fun n a b => by rw [e108, va_up_ne _ _ (by omega)]; exact hr12 n a b
  replace hlo : ∀ n, n < 146 → cs108 n = cs n := fun n a => by rw [e108, va_up_ne _ _ (by omega)] <;> exact hlo n a
  clear e108
  refine ry_iinc 3 [(0, .ref (gA G 146)), (1, .ref (gA G 8)), (2, .ref (gA G 10)), (3, .int 24)] [1, 2, 3, 0] dX3_init_150 rfl rfl (by decide) rfl ?_
  refine ry_goto 131 dX3_init_153 (by decide) ?_
  refine ry_iload_n 3 dX3_init_131 rfl rfl ?_
  refine ry_bipush (v := 30) dX3_init_132 rfl ?_
  refine ry_icmp_ge 156 dX3_init_134 (by decide) (fun q => absurd q (by decide)) (fun _ => ?_)
  refine ry_aload_n 0 dX3_init_137 rfl rfl ?_
  refine ry_get fl_X3_35 (by omega) hc0 rfl dX3_init_138 ?_
  refine ry_iload_n 3 dX3_init_141 rfl rfl ?_
  refine ry_new (ci := 2) (fs := [.int 0, .int 0, .int 0, .int 0, .int 0, .int 0, .int 0, .int 0, .int 0, .int 0, .null]) tyX2 tyX2_ok rfl i_X2 wc_X3_33 wi_2 wn_2 bl_2 (Nat.le_of_ble_eq_true rfl) (Nat.le_of_ble_eq_true rfl) dX3_init_142 ?_
  refine ry_cs (fun cs109 e109 => ?_)
  replace hc0 : cs109 146 = .inr (3, [.ref (gA G 8), .ref (gA G 10), .int 0, .int 0, .ref (gA G 147), .ref (gA G 148), .ref (gA G 149), .ref (gA G 150), .ref (gA G 151), .ref (gA G 152), .ref (gA G 153), .int 0, .int 0, .ref (gA G 154), .ref (gA G 155), .ref (gA G 156), .ref (gA G 157), .int 0, .int 0, .int 0]) := by rw [e109, va_up_ne _ _ (by omega)]; exact hc0
  replace hc1 : cs109 147 = .inl (gY G 14, 10, .inl (fun _ => 0)) := by rw [e109, va_up_ne _ _ (by omega)]; exact hc1
  replace hc2 : cs109 148 = .inl (gY G 14, 10, .inl (fun _ => 0)) := by rw [e109, va_up_ne _ _ (by omega)]; exact hc2
  replace hc3 : cs109 149 = .inl (gY G 14, 10, .inl (fun _ => 0)) := by rw [e109, va_up_ne _ _ (by omega)]; exact hc3
  replace hc4 : cs109 150 = .inl (gY G 14, 10, .inl (fun _ => 0)) := by rw [e109, va_up_ne _ _ (by omega)]; exact hc4
  replace hc5 : cs109 151 = .inl (gY G 14, 10, .inl (fun _ => 0)) := by rw [e109, va_up_ne _ _ (by omega)]; exact hc5
  replace hc6 : cs109 152 = refI G 22 152 4 := by rw [e109, va_up_ne _ _ (by omega)]; exact hc6
  replace hc7 : cs109 153 = refI G 17 153 24 := by rw [e109, va_up_ne _ _ (by omega)]; exact hc7
  replace hc8 : cs109 154 = .inl (gY G 14, 60, .inl (fun _ => 0)) := by rw [e109, va_up_ne _ _ (by omega)]; exact hc8
  replace hc9 : cs109 155 = .inl (gY G 14, 60, .inl (fun _ => 0)) := by rw [e109, va_up_ne _ _ (by omega)]; exact hc9
  replace hc10 : cs109 156 = .inl (gY G 14, 60, .inl (fun _ => 0)) := by rw [e109, va_up_ne _ _ (by omega)]; exact hc10
  replace hc11 : cs109 157 = .inl (gY G 14, 60, .inl (fun _ => 0)) := by rw [e109, va_up_ne _ _ (by omega)]; exact hc11
  have hc76 : cs109 222 = .inr (2, [.int 0, .int 0, .int 0, .int 0, .int 0, .int 0, .int 0, .int 0, .int 0, .int 0, .null]) := by rw [e109]; exact va_up_self _ _ _
  replace hr12 : ∀ n, 158 ≤ n → n < 222 → cs109 n = finY G n := fun n a b => by rw [e109, va_up_ne _ _ (by omega)]; exact hr12 n a b
  replace hlo : ∀ n, n < 146 → cs109 n = cs n := fun n a => by rw [e109, va_up_ne _ _ (by omega)] <;> exact hlo n a
  clear e109
  refine ry_dup dX3_init_145 rfl ?_
  refine ry_callIN (As := []) (n := 222) (mc := 1) (ms := 10) (Kc G 222 2 _) (fun _ _ h => by have := h.1; omega) mw_X2_init rfl win_X2_init wm_X3_60 rfl ⟨show d + 1 + 1 ≤ d + 2 by omega, show 30 * (d + 1) + 30 ≤ 30 * (d + 2) by omega, (Nat.le_of_ble_eq_true rfl), (Nat.le_of_ble_eq_true rfl)⟩ (Nat.le_of_ble_eq_true rfl) dX3_init_146 (kX2_init G d (show Is 222 2 by unfold Is; decide +kernel) hc76) (fun cs110 hK => ?_) rfl
  obtain ⟨-, hK1, hK2⟩ := hK
  clear hc76
  replace hc0 : cs110 146 = .inr (3, [.ref (gA G 8), .ref (gA G 10), .int 0, .int 0, .ref (gA G 147), .ref (gA G 148), .ref (gA G 149), .ref (gA G 150), .ref (gA G 151), .ref (gA G 152), .ref (gA G 153), .int 0, .int 0, .ref (gA G 154), .ref (gA G 155), .ref (gA G 156), .ref (gA G 157), .int 0, .int 0, .int 0]) := (hK1 _ (by omega)).trans hc0
  replace hc1 : cs110 147 = .inl (gY G 14, 10, .inl (fun _ => 0)) := (hK1 _ (by omega)).trans hc1
  replace hc2 : cs110 148 = .inl (gY G 14, 10, .inl (fun _ => 0)) := (hK1 _ (by omega)).trans hc2
  replace hc3 : cs110 149 = .inl (gY G 14, 10, .inl (fun _ => 0)) := (hK1 _ (by omega)).trans hc3
  replace hc4 : cs110 150 = .inl (gY G 14, 10, .inl (fun _ => 0)) := (hK1 _ (by omega)).trans hc4
  replace hc5 : cs110 151 = .inl (gY G 14, 10, .inl (fun _ => 0)) := (hK1 _ (by omega)).trans hc5
  replace hc6 : cs110 152 = refI G 22 152 4 := (hK1 _ (by omega)).trans hc6
  replace hc7 : cs110 153 = refI G 17 153 24 := (hK1 _ (by omega)).trans hc7
  replace hc8 : cs110 154 = .inl (gY G 14, 60, .inl (fun _ => 0)) := (hK1 _ (by omega)).trans hc8
  replace hc9 : cs110 155 = .inl (gY G 14, 60, .inl (fun _ => 0)) := (hK1 _ (by omega)).trans hc9
  replace hc10 : cs110 156 = .inl (gY G 14, 60, .inl (fun _ => 0)) := (hK1 _ (by omega)).trans hc10
  replace hc11 : cs110 157 = .inl (gY G 14, 60, .inl (fun _ => 0)) := (hK1 _ (by omega)).trans hc11
  replace hr12 : ∀ n, 158 ≤ n → n < 222 → cs110 n = finY G n := fun n a b => (hK1 n (by omega)).trans (hr12 n a b)
  replace hlo : ∀ n, n < 146 → cs110 n = cs n := fun n a => (hK1 n (by omega)).trans (hlo n a)
  replace hr12 : ∀ n, 158 ≤ n → n < 224 → cs110 n = finY G n := fun n a b => if h : n < 222 then hr12 n a h else hK2 n (by omega) (by omega)
  clear hK1 hK2
  refine ry_aast (κ := 17) (κ' := 2) (t0 := 4) (L := 30) (n := 153) (v := 222) (i := 24) (by omega) (by omega) rfl rfl hc7 (ln_at_3_7) ((hr12 222 (by omega) (by omega)).trans (fyE_2 (show Is 222 2 by unfold Is; decide +kernel))) (by decide) rfl (by decide +kernel) dX3_init_149 ?_
  refine ry_cs (fun cs111 e111 => ?_)
  replace hc0 : cs111 146 = .inr (3, [.ref (gA G 8), .ref (gA G 10), .int 0, .int 0, .ref (gA G 147), .ref (gA G 148), .ref (gA G 149), .ref (gA G 150), .ref (gA G 151), .ref (gA G 152), .ref (gA G 153), .int 0, .int 0, .ref (gA G 154), .ref (gA G 155), .ref (gA G 156), .ref (gA G 157), .int 0, .int 0, .int 0]) := by rw [e111, va_up_ne _ _ (by omega)]; exact hc0
  replace hc1 : cs111 147 = .inl (gY G 14, 10, .inl (fun _ => 0)) := by rw [e111, va_up_ne _ _ (by omega)]; exact hc1
  replace hc2 : cs111 148 = .inl (gY G 14, 10, .inl (fun _ => 0)) := by rw [e111, va_up_ne _ _ (by omega)]; exact hc2
  replace hc3 : cs111 149 = .inl (gY G 14, 10, .inl (fun _ => 0)) := by rw [e111, va_up_ne _ _ (by omega)]; exact hc3
  replace hc4 : cs111 150 = .inl (gY G 14, 10, .inl (fun _ => 0)) := by rw [e111, va_up_ne _ _ (by omega)]; exact hc4
  replace hc5 : cs111 151 = .inl (gY G 14, 10, .inl (fun _ => 0)) := by rw [e111, va_up_ne _ _ (by omega)]; exact hc5
  replace hc6 : cs111 152 = refI G 22 152 4 := by rw [e111, va_up_ne _ _ (by omega)]; exact hc6
  replace hc8 : cs111 154 = .inl (gY G 14, 60, .inl (fun _ => 0)) := by rw [e111, va_up_ne _ _ (by omega)]; exact hc8
  replace hc9 : cs111 155 = .inl (gY G 14, 60, .inl (fun _ => 0)) := by rw [e111, va_up_ne _ _ (by omega)]; exact hc9
  replace hc10 : cs111 156 = .inl (gY G 14, 60, .inl (fun _ => 0)) := by rw [e111, va_up_ne _ _ (by omega)]; exact hc10
  replace hc11 : cs111 157 = .inl (gY G 14, 60, .inl (fun _ => 0)) := by rw [e111, va_up_ne _ _ (by omega)]; exact hc11
  replace hc7 : cs111 153 = refI G 17 153 25 := by rw [e111]; exact va_up_self _ _ _
  replace hr12 : ∀ n, 158 ≤ n → n < 224 → cs111 n = finY G n := fun n a b => by rw [e111, va_up_ne _ _ (by omega)]; exact hr12 n a b
  replace hlo : ∀ n, n < 146 → cs111 n = cs n := fun n a => by rw [e111, va_up_ne _ _ (by omega)] <;> exact hlo n a
  clear e111
  refine ry_iinc 3 [(0, .ref (gA G 146)), (1, .ref (gA G 8)), (2, .ref (gA G 10)), (3, .int 25)] [1, 2, 3, 0] dX3_init_150 rfl rfl (by decide) rfl ?_
  refine ry_goto 131 dX3_init_153 (by decide) ?_
  refine ry_iload_n 3 dX3_init_131 rfl rfl ?_
  refine ry_bipush (v := 30) dX3_init_132 rfl ?_
  refine ry_icmp_ge 156 dX3_init_134 (by decide) (fun q => absurd q (by decide)) (fun _ => ?_)
  refine ry_aload_n 0 dX3_init_137 rfl rfl ?_
  refine ry_get fl_X3_35 (by omega) hc0 rfl dX3_init_138 ?_
  refine ry_iload_n 3 dX3_init_141 rfl rfl ?_
  refine ry_new (ci := 2) (fs := [.int 0, .int 0, .int 0, .int 0, .int 0, .int 0, .int 0, .int 0, .int 0, .int 0, .null]) tyX2 tyX2_ok rfl i_X2 wc_X3_33 wi_2 wn_2 bl_2 (Nat.le_of_ble_eq_true rfl) (Nat.le_of_ble_eq_true rfl) dX3_init_142 ?_
  refine ry_cs (fun cs112 e112 => ?_)
  replace hc0 : cs112 146 = .inr (3, [.ref (gA G 8), .ref (gA G 10), .int 0, .int 0, .ref (gA G 147), .ref (gA G 148), .ref (gA G 149), .ref (gA G 150), .ref (gA G 151), .ref (gA G 152), .ref (gA G 153), .int 0, .int 0, .ref (gA G 154), .ref (gA G 155), .ref (gA G 156), .ref (gA G 157), .int 0, .int 0, .int 0]) := by rw [e112, va_up_ne _ _ (by omega)]; exact hc0
  replace hc1 : cs112 147 = .inl (gY G 14, 10, .inl (fun _ => 0)) := by rw [e112, va_up_ne _ _ (by omega)]; exact hc1
  replace hc2 : cs112 148 = .inl (gY G 14, 10, .inl (fun _ => 0)) := by rw [e112, va_up_ne _ _ (by omega)]; exact hc2
  replace hc3 : cs112 149 = .inl (gY G 14, 10, .inl (fun _ => 0)) := by rw [e112, va_up_ne _ _ (by omega)]; exact hc3
  replace hc4 : cs112 150 = .inl (gY G 14, 10, .inl (fun _ => 0)) := by rw [e112, va_up_ne _ _ (by omega)]; exact hc4
  replace hc5 : cs112 151 = .inl (gY G 14, 10, .inl (fun _ => 0)) := by rw [e112, va_up_ne _ _ (by omega)]; exact hc5
  replace hc6 : cs112 152 = refI G 22 152 4 := by rw [e112, va_up_ne _ _ (by omega)]; exact hc6
  replace hc7 : cs112 153 = refI G 17 153 25 := by rw [e112, va_up_ne _ _ (by omega)]; exact hc7
  replace hc8 : cs112 154 = .inl (gY G 14, 60, .inl (fun _ => 0)) := by rw [e112, va_up_ne _ _ (by omega)]; exact hc8
  replace hc9 : cs112 155 = .inl (gY G 14, 60, .inl (fun _ => 0)) := by rw [e112, va_up_ne _ _ (by omega)]; exact hc9
  replace hc10 : cs112 156 = .inl (gY G 14, 60, .inl (fun _ => 0)) := by rw [e112, va_up_ne _ _ (by omega)]; exact hc10
  replace hc11 : cs112 157 = .inl (gY G 14, 60, .inl (fun _ => 0)) := by rw [e112, va_up_ne _ _ (by omega)]; exact hc11
  have hc78 : cs112 224 = .inr (2, [.int 0, .int 0, .int 0, .int 0, .int 0, .int 0, .int 0, .int 0, .int 0, .int 0, .null]) := by rw [e112]; exact va_up_self _ _ _
  replace hr12 : ∀ n, 158 ≤ n → n < 224 → cs112 n = finY G n := fun n a b => by rw [e112, va_up_ne _ _ (by omega)]; exact hr12 n a b
  replace hlo : ∀ n, n < 146 → cs112 n = cs n := fun n a => by rw [e112, va_up_ne _ _ (by omega)] <;> exact hlo n a
  clear e112
  refine ry_dup dX3_init_145 rfl ?_
  refine ry_callIN (As := []) (n := 224) (mc := 1) (ms := 10) (Kc G 224 2 _) (fun _ _ h => by have := h.1; omega) mw_X2_init rfl win_X2_init wm_X3_60 rfl ⟨show d + 1 + 1 ≤ d + 2 by omega, show 30 * (d + 1) + 30 ≤ 30 * (d + 2) by omega, (Nat.le_of_ble_eq_true rfl), (Nat.le_of_ble_eq_true rfl)⟩ (Nat.le_of_ble_eq_true rfl) dX3_init_146 (kX2_init G d (show Is 224 2 by unfold Is; decide +kernel) hc78) (fun cs113 hK => ?_) rfl
  obtain ⟨-, hK1, hK2⟩ := hK
  clear hc78
  replace hc0 : cs113 146 = .inr (3, [.ref (gA G 8), .ref (gA G 10), .int 0, .int 0, .ref (gA G 147), .ref (gA G 148), .ref (gA G 149), .ref (gA G 150), .ref (gA G 151), .ref (gA G 152), .ref (gA G 153), .int 0, .int 0, .ref (gA G 154), .ref (gA G 155), .ref (gA G 156), .ref (gA G 157), .int 0, .int 0, .int 0]) := (hK1 _ (by omega)).trans hc0
  replace hc1 : cs113 147 = .inl (gY G 14, 10, .inl (fun _ => 0)) := (hK1 _ (by omega)).trans hc1
  replace hc2 : cs113 148 = .inl (gY G 14, 10, .inl (fun _ => 0)) := (hK1 _ (by omega)).trans hc2
  replace hc3 : cs113 149 = .inl (gY G 14, 10, .inl (fun _ => 0)) := (hK1 _ (by omega)).trans hc3
  replace hc4 : cs113 150 = .inl (gY G 14, 10, .inl (fun _ => 0)) := (hK1 _ (by omega)).trans hc4
  replace hc5 : cs113 151 = .inl (gY G 14, 10, .inl (fun _ => 0)) := (hK1 _ (by omega)).trans hc5
  replace hc6 : cs113 152 = refI G 22 152 4 := (hK1 _ (by omega)).trans hc6
  replace hc7 : cs113 153 = refI G 17 153 25 := (hK1 _ (by omega)).trans hc7
  replace hc8 : cs113 154 = .inl (gY G 14, 60, .inl (fun _ => 0)) := (hK1 _ (by omega)).trans hc8
  replace hc9 : cs113 155 = .inl (gY G 14, 60, .inl (fun _ => 0)) := (hK1 _ (by omega)).trans hc9
  replace hc10 : cs113 156 = .inl (gY G 14, 60, .inl (fun _ => 0)) := (hK1 _ (by omega)).trans hc10
  replace hc11 : cs113 157 = .inl (gY G 14, 60, .inl (fun _ => 0)) := (hK1 _ (by omega)).trans hc11
  replace hr12 : ∀ n, 158 ≤ n → n < 224 → cs113 n = finY G n := fun n a b => (hK1 n (by omega)).trans (hr12 n a b)
  replace hlo : ∀ n, n < 146 → cs113 n = cs n := fun n a => (hK1 n (by omega)).trans (hlo n a)
  replace hr12 : ∀ n, 158 ≤ n → n < 226 → cs113 n = finY G n := fun n a b => if h : n < 224 then hr12 n a h else hK2 n (by omega) (by omega)
  clear hK1 hK2
  refine ry_aast (κ := 17) (κ' := 2) (t0 := 4) (L := 30) (n := 153) (v := 224) (i := 25) (by omega) (by omega) rfl rfl hc7 (ln_at_3_7) ((hr12 224 (by omega) (by omega)).trans (fyE_2 (show Is 224 2 by unfold Is; decide +kernel))) (by decide) rfl (by decide +kernel) dX3_init_149 ?_
  refine ry_cs (fun cs114 e114 => ?_)
  replace hc0 : cs114 146 = .inr (3, [.ref (gA G 8), .ref (gA G 10), .int 0, .int 0, .ref (gA G 147), .ref (gA G 148), .ref (gA G 149), .ref (gA G 150), .ref (gA G 151), .ref (gA G 152), .ref (gA G 153), .int 0, .int 0, .ref (gA G 154), .ref (gA G 155), .ref (gA G 156), .ref (gA G 157), .int 0, .int 0, .int 0]) := by rw [e114, va_up_ne _ _ (by omega)]; exact hc0
  replace hc1 : cs114 147 = .inl (gY G 14, 10, .inl (fun _ => 0)) := by rw [e114, va_up_ne _ _ (by omega)]; exact hc1
  replace hc2 : cs114 148 = .inl (gY G 14, 10, .inl (fun _ => 0)) := by rw [e114, va_up_ne _ _ (by omega)]; exact hc2
  replace hc3 : cs114 149 = .inl (gY G 14, 10, .inl (fun _ => 0)) := by rw [e114, va_up_ne _ _ (by omega)]; exact hc3
  replace hc4 : cs114 150 = .inl (gY G 14, 10, .inl (fun _ => 0)) := by rw [e114, va_up_ne _ _ (by omega)]; exact hc4
  replace hc5 : cs114 151 = .inl (gY G 14, 10, .inl (fun _ => 0)) := by rw [e114, va_up_ne _ _ (by omega)]; exact hc5
  replace hc6 : cs114 152 = refI G 22 152 4 := by rw [e114, va_up_ne _ _ (by omega)]; exact hc6
  replace hc8 : cs114 154 = .inl (gY G 14, 60, .inl (fun _ => 0)) := by rw [e114, va_up_ne _ _ (by omega)]; exact hc8
  replace hc9 : cs114 155 = .inl (gY G 14, 60, .inl (fun _ => 0)) := by rw [e114, va_up_ne _ _ (by omega)]; exact hc9
  replace hc10 : cs114 156 = .inl (gY G 14, 60, .inl (fun _ => 0)) := by rw [e114, va_up_ne _ _ (by omega)]; exact hc10
  replace hc11 : cs114 157 = .inl (gY G 14, 60, .inl (fun _ => 0)) := by rw [e114, va_up_ne _ _ (by omega)]; exact hc11
  replace hc7 : cs114 153 = refI G 17 153 26 := by rw [e114]; exact va_up_self _ _ _
  replace hr12 : ∀ n, 158 ≤ n → n < 226 → cs114 n = finY G n := fun n a b => by rw [e114, va_up_ne _ _ (by omega)]; exact hr12 n a b
  replace hlo : ∀ n, n < 146 → cs114 n = cs n := fun n a => by rw [e114, va_up_ne _ _ (by omega)] <;> exact hlo n a
  clear e114
  refine ry_iinc 3 [(0, .ref (gA G 146)), (1, .ref (gA G 8)), (2, .ref (gA G 10)), (3, .int 26)] [1, 2, 3, 0] dX3_init_150 rfl rfl (by decide) rfl ?_
  refine ry_goto 131 dX3_init_153 (by decide) ?_
  refine ry_iload_n 3 dX3_init_131 rfl rfl ?_
  refine ry_bipush (v := 30) dX3_init_132 rfl ?_
  refine ry_icmp_ge 156 dX3_init_134 (by decide) (fun q => absurd q (by decide)) (fun _ => ?_)
  refine ry_aload_n 0 dX3_init_137 rfl rfl ?_
  refine ry_get fl_X3_35 (by omega) hc0 rfl dX3_init_138 ?_
  refine ry_iload_n 3 dX3_init_141 rfl rfl ?_
  refine ry_new (ci := 2) (fs := [.int 0, .int 0, .int 0, .int 0, .int 0, .int 0, .int 0, .int 0, .int 0, .int 0, .null]) tyX2 tyX2_ok rfl i_X2 wc_X3_33 wi_2 wn_2 bl_2 (Nat.le_of_ble_eq_true rfl) (Nat.le_of_ble_eq_true rfl) dX3_init_142 ?_
  refine ry_cs (fun cs115 e115 => ?_)
  replace hc0 : cs115 146 = .inr (3, [.ref (gA G 8), .ref (gA G 10), .int 0, .int 0, .ref (gA G 147), .ref (gA G 148), .ref (gA G 149), .ref (gA G 150), .ref (gA G 151), .ref (gA G 152), .ref (gA G 153), .int 0, .int 0, .ref (gA G 154), .ref (gA G 155), .ref (gA G 156), .ref (gA G 157), .int 0, .int 0, .int 0]) := by rw [e115, va_up_ne _ _ (by omega)]; exact hc0
  replace hc1 : cs115 147 = .inl (gY G 14, 10, .inl (fun _ => 0)) := by rw [e115, va_up_ne _ _ (by omega)]; exact hc1
  replace hc2 : cs115 148 = .inl (gY G 14, 10, .inl (fun _ => 0)) := by rw [e115, va_up_ne _ _ (by omega)]; exact hc2
  replace hc3 : cs115 149 = .inl (gY G 14, 10, .inl (fun _ => 0)) := by rw [e115, va_up_ne _ _ (by omega)]; exact hc3
  replace hc4 : cs115 150 = .inl (gY G 14, 10, .inl (fun _ => 0)) := by rw [e115, va_up_ne _ _ (by omega)]; exact hc4
  replace hc5 : cs115 151 = .inl (gY G 14, 10, .inl (fun _ => 0)) := by rw [e115, va_up_ne _ _ (by omega)]; exact hc5
  replace hc6 : cs115 152 = refI G 22 152 4 := by rw [e115, va_up_ne _ _ (by omega)]; exact hc6
  replace hc7 : cs115 153 = refI G 17 153 26 := by rw [e115, va_up_ne _ _ (by omega)]; exact hc7
  replace hc8 : cs115 154 = .inl (gY G 14, 60, .inl (fun _ => 0)) := by rw [e115, va_up_ne _ _ (by omega)]; exact hc8
  replace hc9 : cs115 155 = .inl (gY G 14, 60, .inl (fun _ => 0)) := by rw [e115, va_up_ne _ _ (by omega)]; exact hc9
  replace hc10 : cs115 156 = .inl (gY G 14, 60, .inl (fun _ => 0)) := by rw [e115, va_up_ne _ _ (by omega)]; exact hc10
  replace hc11 : cs115 157 = .inl (gY G 14, 60, .inl (fun _ => 0)) := by rw [e115, va_up_ne _ _ (by omega)]; exact hc11
  have hc80 : cs115 226 = .inr (2, [.int 0, .int 0, .int 0, .int 0, .int 0, .int 0, .int 0, .int 0, .int 0, .int 0, .null]) := by rw [e115]; exact va_up_self _ _ _
  replace hr12 : ∀ n, 158 ≤ n → n < 226 → cs115 n = finY G n := fun n a b => by rw [e115, va_up_ne _ _ (by omega)]; exact hr12 n a b
  replace hlo : ∀ n, n < 146 → cs115 n = cs n := fun n a => by rw [e115, va_up_ne _ _ (by omega)] <;> exact hlo n a
  clear e115
  refine ry_dup dX3_init_145 rfl ?_
  refine ry_callIN (As := []) (n := 226) (mc := 1) (ms := 10) (Kc G 226 2 _) (fun _ _ h => by have := h.1; omega) mw_X2_init rfl win_X2_init wm_X3_60 rfl ⟨show d + 1 + 1 ≤ d + 2 by omega, show 30 * (d + 1) + 30 ≤ 30 * (d + 2) by omega, (Nat.le_of_ble_eq_true rfl), (Nat.le_of_ble_eq_true rfl)⟩ (Nat.le_of_ble_eq_true rfl) dX3_init_146 (kX2_init G d (show Is 226 2 by unfold Is; decide +kernel) hc80) (fun cs116 hK => ?_) rfl
  obtain ⟨-, hK1, hK2⟩ := hK
  clear hc80
  replace hc0 : cs116 146 = .inr (3, [.ref (gA G 8), .ref (gA G 10), .int 0, .int 0, .ref (gA G 147), .ref (gA G 148), .ref (gA G 149), .ref (gA G 150), .ref (gA G 151), .ref (gA G 152), .ref (gA G 153), .int 0, .int 0, .ref (gA G 154), .ref (gA G 155), .ref (gA G 156), .ref (gA G 157), .int 0, .int 0, .int 0]) := (hK1 _ (by omega)).trans hc0
  replace hc1 : cs116 147 = .inl (gY G 14, 10, .inl (fun _ => 0)) := (hK1 _ (by omega)).trans hc1
  replace hc2 : cs116 148 = .inl (gY G 14, 10, .inl (fun _ => 0)) := (hK1 _ (by omega)).trans hc2
  replace hc3 : cs116 149 = .inl (gY G 14, 10, .inl (fun _ => 0)) := (hK1 _ (by omega)).trans hc3
  replace hc4 : cs116 150 = .inl (gY G 14, 10, .inl (fun _ => 0)) := (hK1 _ (by omega)).trans hc4
  replace hc5 : cs116 151 = .inl (gY G 14, 10, .inl (fun _ => 0)) := (hK1 _ (by omega)).trans hc5
  replace hc6 : cs116 152 = refI G 22 152 4 := (hK1 _ (by omega)).trans hc6
  replace hc7 : cs116 153 = refI G 17 153 26 := (hK1 _ (by omega)).trans hc7
  replace hc8 : cs116 154 = .inl (gY G 14, 60, .inl (fun _ => 0)) := (hK1 _ (by omega)).trans hc8
  replace hc9 : cs116 155 = .inl (gY G 14, 60, .inl (fun _ => 0)) := (hK1 _ (by omega)).trans hc9
  replace hc10 : cs116 156 = .inl (gY G 14, 60, .inl (fun _ => 0)) := (hK1 _ (by omega)).trans hc10
  replace hc11 : cs116 157 = .inl (gY G 14, 60, .inl (fun _ => 0)) := (hK1 _ (by omega)).trans hc11
  replace hr12 : ∀ n, 158 ≤ n → n < 226 → cs116 n = finY G n := fun n a b => (hK1 n (by omega)).trans (hr12 n a b)
  replace hlo : ∀ n, n < 146 → cs116 n = cs n := fun n a => (hK1 n (by omega)).trans (hlo n a)
  replace hr12 : ∀ n, 158 ≤ n → n < 228 → cs116 n = finY G n := fun n a b => if h : n < 226 then hr12 n a h else hK2 n (by omega) (by omega)
  clear hK1 hK2
  refine ry_aast (κ := 17) (κ' := 2) (t0 := 4) (L := 30) (n := 153) (v := 226) (i := 26) (by omega) (by omega) rfl rfl hc7 (ln_at_3_7) ((hr12 226 (by omega) (by omega)).trans (fyE_2 (show Is 226 2 by unfold Is; decide +kernel))) (by decide) rfl (by decide +kernel) dX3_init_149 ?_
  refine ry_cs (fun cs117 e117 => ?_)
  replace hc0 : cs117 146 = .inr (3, [.ref (gA G 8), .ref (gA G 10), .int 0, .int 0, .ref (gA G 147), .ref (gA G 148), .ref (gA G 149), .ref (gA G 150), .ref (gA G 151), .ref (gA G 152), .ref (gA G 153), .int 0, .int 0, .ref (gA G 154), .ref (gA G 155), .ref (gA G 156), .ref (gA G 157), .int 0, .int 0, .int 0]) := by rw [e117, va_up_ne _ _ (by omega)]; exact hc0
  replace hc1 : cs117 147 = .inl (gY G 14, 10, .inl (fun _ => 0)) := by rw [e117, va_up_ne _ _ (by omega)]; exact hc1
  replace hc2 : cs117 148 = .inl (gY G 14, 10, .inl (fun _ => 0)) := by rw [e117, va_up_ne _ _ (by omega)]; exact hc2
  replace hc3 : cs117 149 = .inl (gY G 14, 10, .inl (fun _ => 0)) := by rw [e117, va_up_ne _ _ (by omega)]; exact hc3
  replace hc4 : cs117 150 = .inl (gY G 14, 10, .inl (fun _ => 0)) := by rw [e117, va_up_ne _ _ (by omega)]; exact hc4
  replace hc5 : cs117 151 = .inl (gY G 14, 10, .inl (fun _ => 0)) := by rw [e117, va_up_ne _ _ (by omega)]; exact hc5
  replace hc6 : cs117 152 = refI G 22 152 4 := by rw [e117, va_up_ne _ _ (by omega)]; exact hc6
  replace hc8 : cs117 154 = .inl (gY G 14, 60, .inl (fun _ => 0)) := by rw [e117, va_up_ne _ _ (by omega)]; exact hc8
  replace hc9 : cs117 155 = .inl (gY G 14, 60, .inl (fun _ => 0)) := by rw [e117, va_up_ne _ _ (by omega)]; exact hc9
  replace hc10 : cs117 156 = .inl (gY G 14, 60, .inl (fun _ => 0)) := by rw [e117, va_up_ne _ _ (by omega)]; exact hc10
  replace hc11 : cs117 157 = .inl (gY G 14, 60, .inl (fun _ => 0)) := by rw [e117, va_up_ne _ _ (by omega)]; exact hc11
  replace hc7 : cs117 153 = refI G 17 153 27 := by rw [e117]; exact va_up_self _ _ _
  replace hr12 : ∀ n, 158 ≤ n → n < 228 → cs117 n = finY G n := fun n a b => by rw [e117, va_up_ne _ _ (by omega)]; exact hr12 n a b
  replace hlo : ∀ n, n < 146 → cs117 n = cs n := fun n a => by rw [e117, va_up_ne _ _ (by omega)] <;> exact hlo n a
  clear e117
  refine ry_iinc 3 [(0, .ref (gA G 146)), (1, .ref (gA G 8)), (2, .ref (gA G 10)), (3, .int 27)] [1, 2, 3, 0] dX3_init_150 rfl rfl (by decide) rfl ?_
  refine ry_goto 131 dX3_init_153 (by decide) ?_
  refine ry_iload_n 3 dX3_init_131 rfl rfl ?_
  refine ry_bipush (v := 30) dX3_init_132 rfl ?_
  refine ry_icmp_ge 156 dX3_init_134 (by decide) (fun q => absurd q (by decide)) (fun _ => ?_)
  refine ry_aload_n 0 dX3_init_137 rfl rfl ?_
  refine ry_get fl_X3_35 (by omega) hc0 rfl dX3_init_138 ?_
  refine ry_iload_n 3 dX3_init_141 rfl rfl ?_
  refine ry_new (ci := 2) (fs := [.int 0, .int 0, .int 0, .int 0, .int 0, .int 0, .int 0, .int 0, .int 0, .int 0, .null]) tyX2 tyX2_ok rfl i_X2 wc_X3_33 wi_2 wn_2 bl_2 (Nat.le_of_ble_eq_true rfl) (Nat.le_of_ble_eq_true rfl) dX3_init_142 ?_
  refine ry_cs (fun cs118 e118 => ?_)
  replace hc0 : cs118 146 = .inr (3, [.ref (gA G 8), .ref (gA G 10), .int 0, .int 0, .ref (gA G 147), .ref (gA G 148), .ref (gA G 149), .ref (gA G 150), .ref (gA G 151), .ref (gA G 152), .ref (gA G 153), .int 0, .int 0, .ref (gA G 154), .ref (gA G 155), .ref (gA G 156), .ref (gA G 157), .int 0, .int 0, .int 0]) := by rw [e118, va_up_ne _ _ (by omega)]; exact hc0
  replace hc1 : cs118 147 = .inl (gY G 14, 10, .inl (fun _ => 0)) := by rw [e118, va_up_ne _ _ (by omega)]; exact hc1
  replace hc2 : cs118 148 = .inl (gY G 14, 10, .inl (fun _ => 0)) := by rw [e118, va_up_ne _ _ (by omega)]; exact hc2
  replace hc3 : cs118 149 = .inl (gY G 14, 10, .inl (fun _ => 0)) := by rw [e118, va_up_ne _ _ (by omega)]; exact hc3
  replace hc4 : cs118 150 = .inl (gY G 14, 10, .inl (fun _ => 0)) := by rw [e118, va_up_ne _ _ (by omega)]; exact hc4
  replace hc5 : cs118 151 = .inl (gY G 14, 10, .inl (fun _ => 0)) := by rw [e118, va_up_ne _ _ (by omega)]; exact hc5
  replace hc6 : cs118 152 = refI G 22 152 4 := by rw [e118, va_up_ne _ _ (by omega)]; exact hc6
  replace hc7 : cs118 153 = refI G 17 153 27 := by rw [e118, va_up_ne _ _ (by omega)]; exact hc7
  replace hc8 : cs118 154 = .inl (gY G 14, 60, .inl (fun _ => 0)) := by rw [e118, va_up_ne _ _ (by omega)]; exact hc8
  replace hc9 : cs118 155 = .inl (gY G 14, 60, .inl (fun _ => 0)) := by rw [e118, va_up_ne _ _ (by omega)]; exact hc9
  replace hc10 : cs118 156 = .inl (gY G 14, 60, .inl (fun _ => 0)) := by rw [e118, va_up_ne _ _ (by omega)]; exact hc10
  replace hc11 : cs118 157 = .inl (gY G 14, 60, .inl (fun _ => 0)) := by rw [e118, va_up_ne _ _ (by omega)]; exact hc11
  have hc82 : cs118 228 = .inr (2, [.int 0, .int 0, .int 0, .int 0, .int 0, .int 0, .int 0, .int 0, .int 0, .int 0, .null]) := by rw [e118]; exact va_up_self _ _ _
  replace hr12 : ∀ n, 158 ≤ n → n < 228 → cs118 n = finY G n := fun n a b => by rw [e118, va_up_ne _ _ (by omega)]; exact hr12 n a b
  replace hlo : ∀ n, n < 146 → cs118 n = cs n := fun n a => by rw [e118, va_up_ne _ _ (by omega)] <;> exact hlo n a
  clear e118
  refine ry_dup dX3_init_145 rfl ?_
  refine ry_callIN (As := []) (n := 228) (mc := 1) (ms := 10) (Kc G 228 2 _) (fun _ _ h => by have := h.1; omega) mw_X2_init rfl win_X2_init wm_X3_60 rfl ⟨show d + 1 + 1 ≤ d + 2 by omega, show 30 * (d + 1) + 30 ≤ 30 * (d + 2) by omega, (Nat.le_of_ble_eq_true rfl), (Nat.le_of_ble_eq_true rfl)⟩ (Nat.le_of_ble_eq_true rfl) dX3_init_146 (kX2_init G d (show Is 228 2 by unfold Is; decide +kernel) hc82) (fun cs119 hK => ?_) rfl
  obtain ⟨-, hK1, hK2⟩ := hK
  clear hc82
  replace hc0 : cs119 146 = .inr (3, [.ref (gA G 8), .ref (gA G 10), .int 0, .int 0, .ref (gA G 147), .ref (gA G 148), .ref (gA G 149), .ref (gA G 150), .ref (gA G 151), .ref (gA G 152), .ref (gA G 153), .int 0, .int 0, .ref (gA G 154), .ref (gA G 155), .ref (gA G 156), .ref (gA G 157), .int 0, .int 0, .int 0]) := (hK1 _ (by omega)).trans hc0
  replace hc1 : cs119 147 = .inl (gY G 14, 10, .inl (fun _ => 0)) := (hK1 _ (by omega)).trans hc1
  replace hc2 : cs119 148 = .inl (gY G 14, 10, .inl (fun _ => 0)) := (hK1 _ (by omega)).trans hc2
  replace hc3 : cs119 149 = .inl (gY G 14, 10, .inl (fun _ => 0)) := (hK1 _ (by omega)).trans hc3
  replace hc4 : cs119 150 = .inl (gY G 14, 10, .inl (fun _ => 0)) := (hK1 _ (by omega)).trans hc4
  replace hc5 : cs119 151 = .inl (gY G 14, 10, .inl (fun _ => 0)) := (hK1 _ (by omega)).trans hc5
  replace hc6 : cs119 152 = refI G 22 152 4 := (hK1 _ (by omega)).trans hc6
  replace hc7 : cs119 153 = refI G 17 153 27 := (hK1 _ (by omega)).trans hc7
  replace hc8 : cs119 154 = .inl (gY G 14, 60, .inl (fun _ => 0)) := (hK1 _ (by omega)).trans hc8
  replace hc9 : cs119 155 = .inl (gY G 14, 60, .inl (fun _ => 0)) := (hK1 _ (by omega)).trans hc9
  replace hc10 : cs119 156 = .inl (gY G 14, 60, .inl (fun _ => 0)) := (hK1 _ (by omega)).trans hc10
  replace hc11 : cs119 157 = .inl (gY G 14, 60, .inl (fun _ => 0)) := (hK1 _ (by omega)).trans hc11
  replace hr12 : ∀ n, 158 ≤ n → n < 228 → cs119 n = finY G n := fun n a b => (hK1 n (by omega)).trans (hr12 n a b)
  replace hlo : ∀ n, n < 146 → cs119 n = cs n := fun n a => (hK1 n (by omega)).trans (hlo n a)
  replace hr12 : ∀ n, 158 ≤ n → n < 230 → cs119 n = finY G n := fun n a b => if h : n < 228 then hr12 n a h else hK2 n (by omega) (by omega)
  clear hK1 hK2
  refine ry_aast (κ := 17) (κ' := 2) (t0 := 4) (L := 30) (n := 153) (v := 228) (i := 27) (by omega) (by omega) rfl rfl hc7 (ln_at_3_7) ((hr12 228 (by omega) (by omega)).trans (fyE_2 (show Is 228 2 by unfold Is; decide +kernel))) (by decide) rfl (by decide +kernel) dX3_init_149 ?_
  refine ry_cs (fun cs120 e120 => ?_)
  replace hc0 : cs120 146 = .inr (3, [.ref (gA G 8), .ref (gA G 10), .int 0, .int 0, .ref (gA G 147), .ref (gA G 148), .ref (gA G 149), .ref (gA G 150), .ref (gA G 151), .ref (gA G 152), .ref (gA G 153), .int 0, .int 0, .ref (gA G 154), .ref (gA G 155), .ref (gA G 156), .ref (gA G 157), .int 0, .int 0, .int 0]) := by rw [e120, va_up_ne _ _ (by omega)]; exact hc0
  replace hc1 : cs120 147 = .inl (gY G 14, 10, .inl (fun _ => 0)) := by rw [e120, va_up_ne _ _ (by omega)]; exact hc1
  replace hc2 : cs120 148 = .inl (gY G 14, 10, .inl (fun _ => 0)) := by rw [e120, va_up_ne _ _ (by omega)]; exact hc2
  replace hc3 : cs120 149 = .inl (gY G 14, 10, .inl (fun _ => 0)) := by rw [e120, va_up_ne _ _ (by omega)]; exact hc3
  replace hc4 : cs120 150 = .inl (gY G 14, 10, .inl (fun _ => 0)) := by rw [e120, va_up_ne _ _ (by omega)]; exact hc4
  replace hc5 : cs120 151 = .inl (gY G 14, 10, .inl (fun _ => 0)) := by rw [e120, va_up_ne _ _ (by omega)]; exact hc5
  replace hc6 : cs120 152 = refI G 22 152 4 := by rw [e120, va_up_ne _ _ (by omega)]; exact hc6
  replace hc8 : cs120 154 = .inl (gY G 14, 60, .inl (fun _ => 0)) := by rw [e120, va_up_ne _ _ (by omega)]; exact hc8
  replace hc9 : cs120 155 = .inl (gY G 14, 60, .inl (fun _ => 0)) := by rw [e120, va_up_ne _ _ (by omega)]; exact hc9
  replace hc10 : cs120 156 = .inl (gY G 14, 60, .inl (fun _ => 0)) := by rw [e120, va_up_ne _ _ (by omega)]; exact hc10
  replace hc11 : cs120 157 = .inl (gY G 14, 60, .inl (fun _ => 0)) := by rw [e120, va_up_ne _ _ (by omega)]; exact hc11
  replace hc7 : cs120 153 = refI G 17 153 28 := by rw [e120]; exact va_up_self _ _ _
  replace hr12 : ∀ n, 158 ≤ n → n < 230 → cs120 n = finY G n := fun n a b => by rw [e120, va_up_ne _ _ (by omega)]; exact hr12 n a b
  replace hlo : ∀ n, n < 146 → cs120 n = cs n := fun n a => by rw [e120, va_up_ne _ _ (by omega)] <;> exact hlo n a
  clear e120
  refine ry_iinc 3 [(0, .ref (gA G 146)), (1, .ref (gA G 8)), (2, .ref (gA G 10)), (3, .int 28)] [1, 2, 3, 0] dX3_init_150 rfl rfl (by decide) rfl ?_
  refine ry_goto 131 dX3_init_153 (by decide) ?_
  refine ry_iload_n 3 dX3_init_131 rfl rfl ?_
  refine ry_bipush (v := 30) dX3_init_132 rfl ?_
  refine ry_icmp_ge 156 dX3_init_134 (by decide) (fun q => absurd q (by decide)) (fun _ => ?_)
  refine ry_aload_n 0 dX3_init_137 rfl rfl ?_
  refine ry_get fl_X3_35 (by omega) hc0 rfl dX3_init_138 ?_
  refine ry_iload_n 3 dX3_init_141 rfl rfl ?_
  refine ry_new (ci := 2) (fs := [.int 0, .int 0, .int 0, .int 0, .int 0, .int 0, .int 0, .int 0, .int 0, .int 0, .null]) tyX2 tyX2_ok rfl i_X2 wc_X3_33 wi_2 wn_2 bl_2 (Nat.le_of_ble_eq_true rfl) (Nat.le_of_ble_eq_true rfl) dX3_init_142 ?_
  refine ry_cs (fun cs121 e121 => ?_)
  replace hc0 : cs121 146 = .inr (3, [.ref (gA G 8), .ref (gA G 10), .int 0, .int 0, .ref (gA G 147), .ref (gA G 148), .ref (gA G 149), .ref (gA G 150), .ref (gA G 151), .ref (gA G 152), .ref (gA G 153), .int 0, .int 0, .ref (gA G 154), .ref (gA G 155), .ref (gA G 156), .ref (gA G 157), .int 0, .int 0, .int 0]) := by rw [e121, va_up_ne _ _ (by omega)]; exact hc0
  replace hc1 : cs121 147 = .inl (gY G 14, 10, .inl (fun _ => 0)) := by rw [e121, va_up_ne _ _ (by omega)]; exact hc1
  replace hc2 : cs121 148 = .inl (gY G 14, 10, .inl (fun _ => 0)) := by rw [e121, va_up_ne _ _ (by omega)]; exact hc2
  replace hc3 : cs121 149 = .inl (gY G 14, 10, .inl (fun _ => 0)) := by rw [e121, va_up_ne _ _ (by omega)]; exact hc3
  replace hc4 : cs121 150 = .inl (gY G 14, 10, .inl (fun _ => 0)) := by rw [e121, va_up_ne _ _ (by omega)]; exact hc4
  replace hc5 : cs121 151 = .inl (gY G 14, 10, .inl (fun _ => 0)) := by rw [e121, va_up_ne _ _ (by omega)]; exact hc5
  replace hc6 : cs121 152 = refI G 22 152 4 := by rw [e121, va_up_ne _ _ (by omega)]; exact hc6
  replace hc7 : cs121 153 = refI G 17 153 28 := by rw [e121, va_up_ne _ _ (by omega)]; exact hc7
  replace hc8 : cs121 154 = .inl (gY G 14, 60, .inl (fun _ => 0)) := by rw [e121, va_up_ne _ _ (by omega)]; exact hc8
  replace hc9 : cs121 155 = .inl (gY G 14, 60, .inl (fun _ => 0)) := by rw [e121, va_up_ne _ _ (by omega)]; exact hc9
  replace hc10 : cs121 156 = .inl (gY G 14, 60, .inl (fun _ => 0)) := by rw [e121, va_up_ne _ _ (by omega)]; exact hc10
  replace hc11 : cs121 157 = .inl (gY G 14, 60, .inl (fun _ => 0)) := by rw [e121, va_up_ne _ _ (by omega)]; exact hc11
  have hc84 : cs121 230 = .inr (2, [.int 0, .int 0, .int 0, .int 0, .int 0, .int 0, .int 0, .int 0, .int 0, .int 0, .null]) := by rw [e121]; exact va_up_self _ _ _
  replace hr12 : ∀ n, 158 ≤ n → n < 230 → cs121 n = finY G n := fun n a b => by rw [e121, va_up_ne _ _ (by omega)]; exact hr12 n a b
  replace hlo : ∀ n, n < 146 → cs121 n = cs n := fun n a => by rw [e121, va_up_ne _ _ (by omega)] <;> exact hlo n a
  clear e121
  refine ry_dup dX3_init_145 rfl ?_
  refine ry_callIN (As := []) (n := 230) (mc := 1) (ms := 10) (Kc G 230 2 _) (fun _ _ h => by have := h.1; omega) mw_X2_init rfl win_X2_init wm_X3_60 rfl ⟨show d + 1 + 1 ≤ d + 2 by omega, show 30 * (d + 1) + 30 ≤ 30 * (d + 2) by omega, (Nat.le_of_ble_eq_true rfl), (Nat.le_of_ble_eq_true rfl)⟩ (Nat.le_of_ble_eq_true rfl) dX3_init_146 (kX2_init G d (show Is 230 2 by unfold Is; decide +kernel) hc84) (fun cs122 hK => ?_) rfl
  obtain ⟨-, hK1, hK2⟩ := hK
  clear hc84
  replace hc0 : cs122 146 = .inr (3, [.ref (gA G 8), .ref (gA G 10), .int 0, .int 0, .ref (gA G 147), .ref (gA G 148), .ref (gA G 149), .ref (gA G 150), .ref (gA G 151), .ref (gA G 152), .ref (gA G 153), .int 0, .int 0, .ref (gA G 154), .ref (gA G 155), .ref (gA G 156), .ref (gA G 157), .int 0, .int 0, .int 0]) := (hK1 _ (by omega)).trans hc0
  replace hc1 : cs122 147 = .inl (gY G 14, 10, .inl (fun _ => 0)) := (hK1 _ (by omega)).trans hc1
  replace hc2 : cs122 148 = .inl (gY G 14, 10, .inl (fun _ => 0)) := (hK1 _ (by omega)).trans hc2
  replace hc3 : cs122 149 = .inl (gY G 14, 10, .inl (fun _ => 0)) := (hK1 _ (by omega)).trans hc3
  replace hc4 : cs122 150 = .inl (gY G 14, 10, .inl (fun _ => 0)) := (hK1 _ (by omega)).trans hc4
  replace hc5 : cs122 151 = .inl (gY G 14, 10, .inl (fun _ => 0)) := (hK1 _ (by omega)).trans hc5
  replace hc6 : cs122 152 = refI G 22 152 4 := (hK1 _ (by omega)).trans hc6
  replace hc7 : cs122 153 = refI G 17 153 28 := (hK1 _ (by omega)).trans hc7
  replace hc8 : cs122 154 = .inl (gY G 14, 60, .inl (fun _ => 0)) := (hK1 _ (by omega)).trans hc8
  replace hc9 : cs122 155 = .inl (gY G 14, 60, .inl (fun _ => 0)) := (hK1 _ (by omega)).trans hc9
  replace hc10 : cs122 156 = .inl (gY G 14, 60, .inl (fun _ => 0)) := (hK1 _ (by omega)).trans hc10
  replace hc11 : cs122 157 = .inl (gY G 14, 60, .inl (fun _ => 0)) := (hK1 _ (by omega)).trans hc11
  replace hr12 : ∀ n, 158 ≤ n → n < 230 → cs122 n = finY G n := fun n a b => (hK1 n (by omega)).trans (hr12 n a b)
  replace hlo : ∀ n, n < 146 → cs122 n = cs n := fun n a => (hK1 n (by omega)).trans (hlo n a)
  replace hr12 : ∀ n, 158 ≤ n → n < 232 → cs122 n = finY G n := fun n a b => if h : n < 230 then hr12 n a h else hK2 n (by omega) (by omega)
  clear hK1 hK2
  refine ry_aast (κ := 17) (κ' := 2) (t0 := 4) (L := 30) (n := 153) (v := 230) (i := 28) (by omega) (by omega) rfl rfl hc7 (ln_at_3_7) ((hr12 230 (by omega) (by omega)).trans (fyE_2 (show Is 230 2 by unfold Is; decide +kernel))) (by decide) rfl (by decide +kernel) dX3_init_149 ?_
  refine ry_cs (fun cs123 e123 => ?_)
  replace hc0 : cs123 146 = .inr (3, [.ref (gA G 8), .ref (gA G 10), .int 0, .int 0, .ref (gA G 147), .ref (gA G 148), .ref (gA G 149), .ref (gA G 150), .ref (gA G 151), .ref (gA G 152), .ref (gA G 153), .int 0, .int 0, .ref (gA G 154), .ref (gA G 155), .ref (gA G 156), .ref (gA G 157), .int 0, .int 0, .int 0]) := by rw [e123, va_up_ne _ _ (by omega)]; exact hc0
  replace hc1 : cs123 147 = .inl (gY G 14, 10, .inl (fun _ => 0)) := by rw [e123, va_up_ne _ _ (by omega)]; exact hc1
  replace hc2 : cs123 148 = .inl (gY G 14, 10, .inl (fun _ => 0)) := by rw [e123, va_up_ne _ _ (by omega)]; exact hc2
  replace hc3 : cs123 149 = .inl (gY G 14, 10, .inl (fun _ => 0)) := by rw [e123, va_up_ne _ _ (by omega)]; exact hc3
  replace hc4 : cs123 150 = .inl (gY G 14, 10, .inl (fun _ => 0)) := by rw [e123, va_up_ne _ _ (by omega)]; exact hc4
  replace hc5 : cs123 151 = .inl (gY G 14, 10, .inl (fun _ => 0)) := by rw [e123, va_up_ne _ _ (by omega)]; exact hc5
  replace hc6 : cs123 152 = refI G 22 152 4 := by rw [e123, va_up_ne _ _ (by omega)]; exact hc6
  replace hc8 : cs123 154 = .inl (gY G 14, 60, .inl (fun _ => 0)) := by rw [e123, va_up_ne _ _ (by omega)]; exact hc8
  replace hc9 : cs123 155 = .inl (gY G 14, 60, .inl (fun _ => 0)) := by rw [e123, va_up_ne _ _ (by omega)]; exact hc9
  replace hc10 : cs123 156 = .inl (gY G 14, 60, .inl (fun _ => 0)) := by rw [e123, va_up_ne _ _ (by omega)]; exact hc10
  replace hc11 : cs123 157 = .inl (gY G 14, 60, .inl (fun _ => 0)) := by rw [e123, va_up_ne _ _ (by omega)]; exact hc11
  replace hc7 : cs123 153 = refI G 17 153 29 := by rw [e123]; exact va_up_self _ _ _
  replace hr12 : ∀ n, 158 ≤ n → n < 232 → cs123 n = finY G n := fun n a b => by rw [e123, va_up_ne _ _ (by omega)]; exact hr12 n a b
  replace hlo : ∀ n, n < 146 → cs123 n = cs n := fun n a => by rw [e123, va_up_ne _ _ (by omega)] <;> exact hlo n a
  clear e123
  refine ry_iinc 3 [(0, .ref (gA G 146)), (1, .ref (gA G 8)), (2, .ref (gA G 10)), (3, .int 29)] [1, 2, 3, 0] dX3_init_150 rfl rfl (by decide) rfl ?_
  refine ry_goto 131 dX3_init_153 (by decide) ?_
  refine ry_iload_n 3 dX3_init_131 rfl rfl ?_
  refine ry_bipush (v := 30) dX3_init_132 rfl ?_
  refine ry_icmp_ge 156 dX3_init_134 (by decide) (fun q => absurd q (by decide)) (fun _ => ?_)
  refine ry_aload_n 0 dX3_init_137 rfl rfl ?_
  refine ry_get fl_X3_35 (by omega) hc0 rfl dX3_init_138 ?_
  refine ry_iload_n 3 dX3_init_141 rfl rfl ?_
  refine ry_new (ci := 2) (fs := [.int 0, .int 0, .int 0, .int 0, .int 0, .int 0, .int 0, .int 0, .int 0, .int 0, .null]) tyX2 tyX2_ok rfl i_X2 wc_X3_33 wi_2 wn_2 bl_2 (Nat.le_of_ble_eq_true rfl) (Nat.le_of_ble_eq_true rfl) dX3_init_142 ?_
  refine ry_cs (fun cs124 e124 => ?_)
  replace hc0 : cs124 146 = .inr (3, [.ref (gA G 8), .ref (gA G 10), .int 0, .int 0, .ref (gA G 147), .ref (gA G 148), .ref (gA G 149), .ref (gA G 150), .ref (gA G 151), .ref (gA G 152), .ref (gA G 153), .int 0, .int 0, .ref (gA G 154), .ref (gA G 155), .ref (gA G 156), .ref (gA G 157), .int 0, .int 0, .int 0]) := by rw [e124, va_up_ne _ _ (by omega)]; exact hc0
  replace hc1 : cs124 147 = .inl (gY G 14, 10, .inl (fun _ => 0)) := by rw [e124, va_up_ne _ _ (by omega)]; exact hc1
  replace hc2 : cs124 148 = .inl (gY G 14, 10, .inl (fun _ => 0)) := by rw [e124, va_up_ne _ _ (by omega)]; exact hc2
  replace hc3 : cs124 149 = .inl (gY G 14, 10, .inl (fun _ => 0)) := by rw [e124, va_up_ne _ _ (by omega)]; exact hc3
  replace hc4 : cs124 150 = .inl (gY G 14, 10, .inl (fun _ => 0)) := by rw [e124, va_up_ne _ _ (by omega)]; exact hc4
  replace hc5 : cs124 151 = .inl (gY G 14, 10, .inl (fun _ => 0)) := by rw [e124, va_up_ne _ _ (by omega)]; exact hc5
  replace hc6 : cs124 152 = refI G 22 152 4 := by rw [e124, va_up_ne _ _ (by omega)]; exact hc6
  replace hc7 : cs124 153 = refI G 17 153 29 := by rw [e124, va_up_ne _ _ (by omega)]; exact hc7
  replace hc8 : cs124 154 = .inl (gY G 14, 60, .inl (fun _ => 0)) := by rw [e124, va_up_ne _ _ (by omega)]; exact hc8
  replace hc9 : cs124 155 = .inl (gY G 14, 60, .inl (fun _ => 0)) := by rw [e124, va_up_ne _ _ (by omega)]; exact hc9
  replace hc10 : cs124 156 = .inl (gY G 14, 60, .inl (fun _ => 0)) := by rw [e124, va_up_ne _ _ (by omega)]; exact hc10
  replace hc11 : cs124 157 = .inl (gY G 14, 60, .inl (fun _ => 0)) := by rw [e124, va_up_ne _ _ (by omega)]; exact hc11
  have hc86 : cs124 232 = .inr (2, [.int 0, .int 0, .int 0, .int 0, .int 0, .int 0, .int 0, .int 0, .int 0, .int 0, .null]) := by rw [e124]; exact va_up_self _ _ _
  replace hr12 : ∀ n, 158 ≤ n → n < 232 → cs124 n = finY G n := fun n a b => by rw [e124, va_up_ne _ _ (by omega)]; exact hr12 n a b
  replace hlo : ∀ n, n < 146 → cs124 n = cs n := fun n a => by rw [e124, va_up_ne _ _ (by omega)] <;> exact hlo n a
  clear e124
  refine ry_dup dX3_init_145 rfl ?_
  refine ry_callIN (As := []) (n := 232) (mc := 1) (ms := 10) (Kc G 232 2 _) (fun _ _ h => by have := h.1; omega) mw_X2_init rfl win_X2_init wm_X3_60 rfl ⟨show d + 1 + 1 ≤ d + 2 by omega, show 30 * (d + 1) + 30 ≤ 30 * (d + 2) by omega, (Nat.le_of_ble_eq_true rfl), (Nat.le_of_ble_eq_true rfl)⟩ (Nat.le_of_ble_eq_true rfl) dX3_init_146 (kX2_init G d (show Is 232 2 by unfold Is; decide +kernel) hc86) (fun cs125 hK => ?_) rfl
  obtain ⟨-, hK1, hK2⟩ := hK
  clear hc86
  replace hc0 : cs125 146 = .inr (3, [.ref (gA G 8), .ref (gA G 10), .int 0, .int 0, .ref (gA G 147), .ref (gA G 148), .ref (gA G 149), .ref (gA G 150), .ref (gA G 151), .ref (gA G 152), .ref (gA G 153), .int 0, .int 0, .ref (gA G 154), .ref (gA G 155), .ref (gA G 156), .ref (gA G 157), .int 0, .int 0, .int 0]) := (hK1 _ (by omega)).trans hc0
  replace hc1 : cs125 147 = .inl (gY G 14, 10, .inl (fun _ => 0)) := (hK1 _ (by omega)).trans hc1
  replace hc2 : cs125 148 = .inl (gY G 14, 10, .inl (fun _ => 0)) := (hK1 _ (by omega)).trans hc2
  replace hc3 : cs125 149 = .inl (gY G 14, 10, .inl (fun _ => 0)) := (hK1 _ (by omega)).trans hc3
  replace hc4 : cs125 150 = .inl (gY G 14, 10, .inl (fun _ => 0)) := (hK1 _ (by omega)).trans hc4
  replace hc5 : cs125 151 = .inl (gY G 14, 10, .inl (fun _ => 0)) := (hK1 _ (by omega)).trans hc5
  replace hc6 : cs125 152 = refI G 22 152 4 := (hK1 _ (by omega)).trans hc6
  replace hc7 : cs125 153 = refI G 17 153 29 := (hK1 _ (by omega)).trans hc7
  replace hc8 : cs125 154 = .inl (gY G 14, 60, .inl (fun _ => 0)) := (hK1 _ (by omega)).trans hc8
  replace hc9 : cs125 155 = .inl (gY G 14, 60, .inl (fun _ => 0)) := (hK1 _ (by omega)).trans hc9
  replace hc10 : cs125 156 = .inl (gY G 14, 60, .inl (fun _ => 0)) := (hK1 _ (by omega)).trans hc10
  replace hc11 : cs125 157 = .inl (gY G 14, 60, .inl (fun _ => 0)) := (hK1 _ (by omega)).trans hc11
  replace hr12 : ∀ n, 158 ≤ n → n < 232 → cs125 n = finY G n := fun n a b => (hK1 n (by omega)).trans (hr12 n a b)
  replace hlo : ∀ n, n < 146 → cs125 n = cs n := fun n a => (hK1 n (by omega)).trans (hlo n a)
  replace hr12 : ∀ n, 158 ≤ n → n < 234 → cs125 n = finY G n := fun n a b => if h : n < 232 then hr12 n a h else hK2 n (by omega) (by omega)
  clear hK1 hK2
  refine ry_aast (κ := 17) (κ' := 2) (t0 := 4) (L := 30) (n := 153) (v := 232) (i := 29) (by omega) (by omega) rfl rfl hc7 (ln_at_3_7) ((hr12 232 (by omega) (by omega)).trans (fyE_2 (show Is 232 2 by unfold Is; decide +kernel))) (by decide) rfl (by decide +kernel) dX3_init_149 ?_
  refine ry_cs (fun cs126 e126 => ?_)
  replace hc0 : cs126 146 = .inr (3, [.ref (gA G 8), .ref (gA G 10), .int 0, .int 0, .ref (gA G 147), .ref (gA G 148), .ref (gA G 149), .ref (gA G 150), .ref (gA G 151), .ref (gA G 152), .ref (gA G 153), .int 0, .int 0, .ref (gA G 154), .ref (gA G 155), .ref (gA G 156), .ref (gA G 157), .int 0, .int 0, .int 0]) := by rw [e126, va_up_ne _ _ (by omega)]; exact hc0
  replace hc1 : cs126 147 = .inl (gY G 14, 10, .inl (fun _ => 0)) := by rw [e126, va_up_ne _ _ (by omega)]; exact hc1
  replace hc2 : cs126 148 = .inl (gY G 14, 10, .inl (fun _ => 0)) := by rw [e126, va_up_ne _ _ (by omega)]; exact hc2
  replace hc3 : cs126 149 = .inl (gY G 14, 10, .inl (fun _ => 0)) := by rw [e126, va_up_ne _ _ (by omega)]; exact hc3
  replace hc4 : cs126 150 = .inl (gY G 14, 10, .inl (fun _ => 0)) := by rw [e126, va_up_ne _ _ (by omega)]; exact hc4
  replace hc5 : cs126 151 = .inl (gY G 14, 10, .inl (fun _ => 0)) := by rw [e126, va_up_ne _ _ (by omega)]; exact hc5
  replace hc6 : cs126 152 = refI G 22 152 4 := by rw [e126, va_up_ne _ _ (by omega)]; exact hc6
  replace hc8 : cs126 154 = .inl (gY G 14, 60, .inl (fun _ => 0)) := by rw [e126, va_up_ne _ _ (by omega)]; exact hc8
  replace hc9 : cs126 155 = .inl (gY G 14, 60, .inl (fun _ => 0)) := by rw [e126, va_up_ne _ _ (by omega)]; exact hc9
  replace hc10 : cs126 156 = .inl (gY G 14, 60, .inl (fun _ => 0)) := by rw [e126, va_up_ne _ _ (by omega)]; exact hc10
  replace hc11 : cs126 157 = .inl (gY G 14, 60, .inl (fun _ => 0)) := by rw [e126, va_up_ne _ _ (by omega)]; exact hc11
  replace hc7 : cs126 153 = refI G 17 153 30 := by rw [e126]; exact va_up_self _ _ _
  replace hr12 : ∀ n, 158 ≤ n → n < 234 → cs126 n = finY G n := fun n a b => by rw [e126, va_up_ne _ _ (by omega)]; exact hr12 n a b
  replace hlo : ∀ n, n < 146 → cs126 n = cs n := fun n a => by rw [e126, va_up_ne _ _ (by omega)] <;> exact hlo n a
  clear e126
  refine ry_iinc 3 [(0, .ref (gA G 146)), (1, .ref (gA G 8)), (2, .ref (gA G 10)), (3, .int 30)] [1, 2, 3, 0] dX3_init_150 rfl rfl (by decide) rfl ?_
  refine ry_goto 131 dX3_init_153 (by decide) ?_
  refine ry_iload_n 3 dX3_init_131 rfl rfl ?_
  refine ry_bipush (v := 30) dX3_init_132 rfl ?_
  refine ry_icmp_ge 156 dX3_init_134 (by decide) (fun _ => ?_) (fun q => absurd (by decide) q)
  refine ry_ret dX3_init_156 ⟨by omega, hlo, fun n a b => ?_⟩
  rcases (show n = 146 ∨ n = 147 ∨ n = 148 ∨ n = 149 ∨ n = 150 ∨ n = 151 ∨ n = 152 ∨ n = 153 ∨ n = 154 ∨ n = 155 ∨ n = 156 ∨ n = 157 ∨ (158 ≤ n ∧ n < 234) by omega) with rfl | rfl | rfl | rfl | rfl | rfl | rfl | rfl | rfl | rfl | rfl | rfl | q
  · rw [hc0]; exact (fyj_3_0).symm
  · rw [hc1]; exact (fyj_3_1).symm
  · rw [hc2]; exact (fyj_3_2).symm
  · rw [hc3]; exact (fyj_3_3).symm
  · rw [hc4]; exact (fyj_3_4).symm
  · rw [hc5]; exact (fyj_3_5).symm
  · rw [hc6]; exact (fyj_3_6).symm
  · rw [hc7]; exact (fyj_3_7).symm
  · rw [hc8]; exact (fyj_3_8).symm
  · rw [hc9]; exact (fyj_3_9).symm
  · rw [hc10]; exact (fyj_3_10).symm
  · rw [hc11]; exact (fyj_3_11).symm
  · exact hr12 n q.1 q.2
