/-! ===== a constructor ===== -/
set_option maxRecDepth 20000 in
set_option maxHeartbeats 40000000 in
theorem kX12_init (G : GT) (d : Nat) {cs : Nat → va_E} (hc0 : cs 269 = .inr (12, [.int 0, .null, .null, .null, .null, .null, .null, .null, .null, .null, .int 0, .int 0, .int 0, .int 0, .int 0, .long 0, .int 0, .int 0, .int 0, .null, .null, .int 0, .int 0, .int 0, .int 0, .int 0, .int 0, .int 0, .int 0, .int 0, .int 0, .null, .null, .null, .null, .null, .null, .null, .null, .null, .null, .null, .null, .null, .null, .null, .null, .null, .null, .null, .null, .null, .null, .null, .int 0, .int 0, .int 0, .int 0, .int 0, .int 0, .null, .null, .int 0, .int 0, .int 0, .int 0, .int 0, .null, .null, .int 0, .null, .int 0, .int 0, .null, .null, .null, .int 0, .int 0, .int 0, .int 0, .int 0, .int 0, .null, .int 0, .int 0, .int 0, .int 0, .int 0, .int 0, .int 0, .int 0, .null])) : SpecY G yX12_init cX12_init 1 (d + 1) 44 7327 [.ref (gA G 269)] 270 cs (Kc G 269 45 cs) := by
  refine ry_spec (by decide) (Nat.le_of_ble_eq_true rfl) ?_
  have hlo : ∀ n, n < 269 → cs n = cs n := fun _ _ => rfl
  show RunY G RX12 "<init>" cX12_init 1 none _ 0 0 0 [(0, .ref (gA G 269))] [] 270 cs
  refine ry_aload_n 0 dX12_init_0 rfl rfl ?_
  refine ry_objInit wm_X12_1 w_oi w_oc (show 1 ≤ d + 1 by omega) (show 30 ≤ 30 * (d + 1) by omega) rfl dX12_init_1 ?_
  refine ry_aload_n 0 dX12_init_4 rfl rfl ?_
  refine ry_sipush (v := 2400) dX12_init_5 rfl ?_
  refine ry_newa (κ := 13) (n := 2400) (atype := .byte) (ty := .byte) (t0 := 0) rfl wa_byte rfl (fun _ _ => Iff.rfl) rfl (by decide) rfl (by decide) (Nat.le_of_ble_eq_true rfl) (Nat.le_of_ble_eq_true rfl) dX12_init_8 ?_
  refine ry_cs (fun cs1 e1 => ?_)
  replace hc0 : cs1 269 = .inr (12, [.int 0, .null, .null, .null, .null, .null, .null, .null, .null, .null, .int 0, .int 0, .int 0, .int 0, .int 0, .long 0, .int 0, .int 0, .int 0, .null, .null, .int 0, .int 0, .int 0, .int 0, .int 0, .int 0, .int 0, .int 0, .int 0, .int 0, .null, .null, .null, .null, .null, .null, .null, .null, .null, .null, .null, .null, .null, .null, .null, .null, .null, .null, .null, .null, .null, .null, .null, .int 0, .int 0, .int 0, .int 0, .int 0, .int 0, .null, .null, .int 0, .int 0, .int 0, .int 0, .int 0, .null, .null, .int 0, .null, .int 0, .int 0, .null, .null, .null, .int 0, .int 0, .int 0, .int 0, .int 0, .int 0, .null, .int 0, .int 0, .int 0, .int 0, .int 0, .int 0, .int 0, .int 0, .null]) := by rw [e1, va_up_ne _ _ (by omega)]; exact hc0
  have hc1 : cs1 270 = .inl (gY G 13, 2400, .inl (fun _ => 0)) := by rw [e1]; exact va_up_self _ _ _
  replace hlo : ∀ n, n < 269 → cs1 n = cs n := fun n a => by rw [e1, va_up_ne _ _ (by omega)] <;> exact hlo n a
  clear e1
  refine ry_putF ff_X12_7 rfl (by omega) hc0 rfl rfl (nlt rfl) dX12_init_10 ?_
  refine ry_cs (fun cs2 e2 => ?_)
  replace hc1 : cs2 270 = .inl (gY G 13, 2400, .inl (fun _ => 0)) := by rw [e2, va_up_ne _ _ (by omega)]; exact hc1
  replace hc0 : cs2 269 = .inr (12, [.int 0, .ref (gA G 270), .null, .null, .null, .null, .null, .null, .null, .null, .int 0, .int 0, .int 0, .int 0, .int 0, .long 0, .int 0, .int 0, .int 0, .null, .null, .int 0, .int 0, .int 0, .int 0, .int 0, .int 0, .int 0, .int 0, .int 0, .int 0, .null, .null, .null, .null, .null, .null, .null, .null, .null, .null, .null, .null, .null, .null, .null, .null, .null, .null, .null, .null, .null, .null, .null, .int 0, .int 0, .int 0, .int 0, .int 0, .int 0, .null, .null, .int 0, .int 0, .int 0, .int 0, .int 0, .null, .null, .int 0, .null, .int 0, .int 0, .null, .null, .null, .int 0, .int 0, .int 0, .int 0, .int 0, .int 0, .null, .int 0, .int 0, .int 0, .int 0, .int 0, .int 0, .int 0, .int 0, .null]) := by rw [e2]; exact va_up_self _ _ _
  replace hlo : ∀ n, n < 269 → cs2 n = cs n := fun n a => by rw [e2, va_up_ne _ _ (by omega)] <;> exact hlo n a
  clear e2
  refine ry_aload_n 0 dX12_init_13 rfl rfl ?_
  refine ry_iconst (v := 4) dX12_init_14 rfl ?_
  refine ry_newa (κ := 14) (n := 4) (atype := .int) (ty := .int) (t0 := 1) rfl wa_int rfl (fun _ _ => Iff.rfl) rfl (by decide) rfl (by decide) (Nat.le_of_ble_eq_true rfl) (Nat.le_of_ble_eq_true rfl) dX12_init_15 ?_
  refine ry_cs (fun cs3 e3 => ?_)
  replace hc0 : cs3 269 = .inr (12, [.int 0, .ref (gA G 270), .null, .null, .null, .null, .null, .null, .null, .null, .int 0, .int 0, .int 0, .int 0, .int 0, .long 0, .int 0, .int 0, .int 0, .null, .null, .int 0, .int 0, .int 0, .int 0, .int 0, .int 0, .int 0, .int 0, .int 0, .int 0, .null, .null, .null, .null, .null, .null, .null, .null, .null, .null, .null, .null, .null, .null, .null, .null, .null, .null, .null, .null, .null, .null, .null, .int 0, .int 0, .int 0, .int 0, .int 0, .int 0, .null, .null, .int 0, .int 0, .int 0, .int 0, .int 0, .null, .null, .int 0, .null, .int 0, .int 0, .null, .null, .null, .int 0, .int 0, .int 0, .int 0, .int 0, .int 0, .null, .int 0, .int 0, .int 0, .int 0, .int 0, .int 0, .int 0, .int 0, .null]) := by rw [e3, va_up_ne _ _ (by omega)]; exact hc0
  replace hc1 : cs3 270 = .inl (gY G 13, 2400, .inl (fun _ => 0)) := by rw [e3, va_up_ne _ _ (by omega)]; exact hc1
  have hc2 : cs3 271 = .inl (gY G 14, 4, .inl (fun _ => 0)) := by rw [e3]; exact va_up_self _ _ _
  replace hlo : ∀ n, n < 269 → cs3 n = cs n := fun n a => by rw [e3, va_up_ne _ _ (by omega)] <;> exact hlo n a
  clear e3
  refine ry_putF ff_X12_13 rfl (by omega) hc0 rfl rfl (nlt rfl) dX12_init_17 ?_
  refine ry_cs (fun cs4 e4 => ?_)
  replace hc1 : cs4 270 = .inl (gY G 13, 2400, .inl (fun _ => 0)) := by rw [e4, va_up_ne _ _ (by omega)]; exact hc1
  replace hc2 : cs4 271 = .inl (gY G 14, 4, .inl (fun _ => 0)) := by rw [e4, va_up_ne _ _ (by omega)]; exact hc2
  replace hc0 : cs4 269 = .inr (12, [.int 0, .ref (gA G 270), .ref (gA G 271), .null, .null, .null, .null, .null, .null, .null, .int 0, .int 0, .int 0, .int 0, .int 0, .long 0, .int 0, .int 0, .int 0, .null, .null, .int 0, .int 0, .int 0, .int 0, .int 0, .int 0, .int 0, .int 0, .int 0, .int 0, .null, .null, .null, .null, .null, .null, .null, .null, .null, .null, .null, .null, .null, .null, .null, .null, .null, .null, .null, .null, .null, .null, .null, .int 0, .int 0, .int 0, .int 0, .int 0, .int 0, .null, .null, .int 0, .int 0, .int 0, .int 0, .int 0, .null, .null, .int 0, .null, .int 0, .int 0, .null, .null, .null, .int 0, .int 0, .int 0, .int 0, .int 0, .int 0, .null, .int 0, .int 0, .int 0, .int 0, .int 0, .int 0, .int 0, .int 0, .null]) := by rw [e4]; exact va_up_self _ _ _
  replace hlo : ∀ n, n < 269 → cs4 n = cs n := fun n a => by rw [e4, va_up_ne _ _ (by omega)] <;> exact hlo n a
  clear e4
  refine ry_aload_n 0 dX12_init_20 rfl rfl ?_
  refine ry_iconst (v := 4) dX12_init_21 rfl ?_
  refine ry_newa (κ := 14) (n := 4) (atype := .int) (ty := .int) (t0 := 1) rfl wa_int rfl (fun _ _ => Iff.rfl) rfl (by decide) rfl (by decide) (Nat.le_of_ble_eq_true rfl) (Nat.le_of_ble_eq_true rfl) dX12_init_22 ?_
  refine ry_cs (fun cs5 e5 => ?_)
  replace hc0 : cs5 269 = .inr (12, [.int 0, .ref (gA G 270), .ref (gA G 271), .null, .null, .null, .null, .null, .null, .null, .int 0, .int 0, .int 0, .int 0, .int 0, .long 0, .int 0, .int 0, .int 0, .null, .null, .int 0, .int 0, .int 0, .int 0, .int 0, .int 0, .int 0, .int 0, .int 0, .int 0, .null, .null, .null, .null, .null, .null, .null, .null, .null, .null, .null, .null, .null, .null, .null, .null, .null, .null, .null, .null, .null, .null, .null, .int 0, .int 0, .int 0, .int 0, .int 0, .int 0, .null, .null, .int 0, .int 0, .int 0, .int 0, .int 0, .null, .null, .int 0, .null, .int 0, .int 0, .null, .null, .null, .int 0, .int 0, .int 0, .int 0, .int 0, .int 0, .null, .int 0, .int 0, .int 0, .int 0, .int 0, .int 0, .int 0, .int 0, .null]) := by rw [e5, va_up_ne _ _ (by omega)]; exact hc0
  replace hc1 : cs5 270 = .inl (gY G 13, 2400, .inl (fun _ => 0)) := by rw [e5, va_up_ne _ _ (by omega)]; exact hc1
  replace hc2 : cs5 271 = .inl (gY G 14, 4, .inl (fun _ => 0)) := by rw [e5, va_up_ne _ _ (by omega)]; exact hc2
  have hc3 : cs5 272 = .inl (gY G 14, 4, .inl (fun _ => 0)) := by rw [e5]; exact va_up_self _ _ _
  replace hlo : ∀ n, n < 269 → cs5 n = cs n := fun n a => by rw [e5, va_up_ne _ _ (by omega)] <;> exact hlo n a
  clear e5
  refine ry_putF ff_X12_17 rfl (by omega) hc0 rfl rfl (nlt rfl) dX12_init_24 ?_
  refine ry_cs (fun cs6 e6 => ?_)
  replace hc1 : cs6 270 = .inl (gY G 13, 2400, .inl (fun _ => 0)) := by rw [e6, va_up_ne _ _ (by omega)]; exact hc1
  replace hc2 : cs6 271 = .inl (gY G 14, 4, .inl (fun _ => 0)) := by rw [e6, va_up_ne _ _ (by omega)]; exact hc2
  replace hc3 : cs6 272 = .inl (gY G 14, 4, .inl (fun _ => 0)) := by rw [e6, va_up_ne _ _ (by omega)]; exact hc3
  replace hc0 : cs6 269 = .inr (12, [.int 0, .ref (gA G 270), .ref (gA G 271), .ref (gA G 272), .null, .null, .null, .null, .null, .null, .int 0, .int 0, .int 0, .int 0, .int 0, .long 0, .int 0, .int 0, .int 0, .null, .null, .int 0, .int 0, .int 0, .int 0, .int 0, .int 0, .int 0, .int 0, .int 0, .int 0, .null, .null, .null, .null, .null, .null, .null, .null, .null, .null, .null, .null, .null, .null, .null, .null, .null, .null, .null, .null, .null, .null, .null, .int 0, .int 0, .int 0, .int 0, .int 0, .int 0, .null, .null, .int 0, .int 0, .int 0, .int 0, .int 0, .null, .null, .int 0, .null, .int 0, .int 0, .null, .null, .null, .int 0, .int 0, .int 0, .int 0, .int 0, .int 0, .null, .int 0, .int 0, .int 0, .int 0, .int 0, .int 0, .int 0, .int 0, .null]) := by rw [e6]; exact va_up_self _ _ _
  replace hlo : ∀ n, n < 269 → cs6 n = cs n := fun n a => by rw [e6, va_up_ne _ _ (by omega)] <;> exact hlo n a
  clear e6
  refine ry_aload_n 0 dX12_init_27 rfl rfl ?_
  refine ry_iconst (v := 4) dX12_init_28 rfl ?_
  refine ry_newa (κ := 14) (n := 4) (atype := .int) (ty := .int) (t0 := 1) rfl wa_int rfl (fun _ _ => Iff.rfl) rfl (by decide) rfl (by decide) (Nat.le_of_ble_eq_true rfl) (Nat.le_of_ble_eq_true rfl) dX12_init_29 ?_
  refine ry_cs (fun cs7 e7 => ?_)
  replace hc0 : cs7 269 = .inr (12, [.int 0, .ref (gA G 270), .ref (gA G 271), .ref (gA G 272), .null, .null, .null, .null, .null, .null, .int 0, .int 0, .int 0, .int 0, .int 0, .long 0, .int 0, .int 0, .int 0, .null, .null, .int 0, .int 0, .int 0, .int 0, .int 0, .int 0, .int 0, .int 0, .int 0, .int 0, .null, .null, .null, .null, .null, .null, .null, .null, .null, .null, .null, .null, .null, .null, .null, .null, .null, .null, .null, .null, .null, .null, .null, .int 0, .int 0, .int 0, .int 0, .int 0, .int 0, .null, .null, .int 0, .int 0, .int 0, .int 0, .int 0, .null, .null, .int 0, .null, .int 0, .int 0, .null, .null, .null, .int 0, .int 0, .int 0, .int 0, .int 0, .int 0, .null, .int 0, .int 0, .int 0, .int 0, .int 0, .int 0, .int 0, .int 0, .null]) := by rw [e7, va_up_ne _ _ (by omega)]; exact hc0
  replace hc1 : cs7 270 = .inl (gY G 13, 2400, .inl (fun _ => 0)) := by rw [e7, va_up_ne _ _ (by omega)]; exact hc1
  replace hc2 : cs7 271 = .inl (gY G 14, 4, .inl (fun _ => 0)) := by rw [e7, va_up_ne _ _ (by omega)]; exact hc2
  replace hc3 : cs7 272 = .inl (gY G 14, 4, .inl (fun _ => 0)) := by rw [e7, va_up_ne _ _ (by omega)]; exact hc3
  have hc4 : cs7 273 = .inl (gY G 14, 4, .inl (fun _ => 0)) := by rw [e7]; exact va_up_self _ _ _
  replace hlo : ∀ n, n < 269 → cs7 n = cs n := fun n a => by rw [e7, va_up_ne _ _ (by omega)] <;> exact hlo n a
  clear e7
  refine ry_putF ff_X12_20 rfl (by omega) hc0 rfl rfl (nlt rfl) dX12_init_31 ?_
  refine ry_cs (fun cs8 e8 => ?_)
  replace hc1 : cs8 270 = .inl (gY G 13, 2400, .inl (fun _ => 0)) := by rw [e8, va_up_ne _ _ (by omega)]; exact hc1
  replace hc2 : cs8 271 = .inl (gY G 14, 4, .inl (fun _ => 0)) := by rw [e8, va_up_ne _ _ (by omega)]; exact hc2
  replace hc3 : cs8 272 = .inl (gY G 14, 4, .inl (fun _ => 0)) := by rw [e8, va_up_ne _ _ (by omega)]; exact hc3
  replace hc4 : cs8 273 = .inl (gY G 14, 4, .inl (fun _ => 0)) := by rw [e8, va_up_ne _ _ (by omega)]; exact hc4
  replace hc0 : cs8 269 = .inr (12, [.int 0, .ref (gA G 270), .ref (gA G 271), .ref (gA G 272), .ref (gA G 273), .null, .null, .null, .null, .null, .int 0, .int 0, .int 0, .int 0, .int 0, .long 0, .int 0, .int 0, .int 0, .null, .null, .int 0, .int 0, .int 0, .int 0, .int 0, .int 0, .int 0, .int 0, .int 0, .int 0, .null, .null, .null, .null, .null, .null, .null, .null, .null, .null, .null, .null, .null, .null, .null, .null, .null, .null, .null, .null, .null, .null, .null, .int 0, .int 0, .int 0, .int 0, .int 0, .int 0, .null, .null, .int 0, .int 0, .int 0, .int 0, .int 0, .null, .null, .int 0, .null, .int 0, .int 0, .null, .null, .null, .int 0, .int 0, .int 0, .int 0, .int 0, .int 0, .null, .int 0, .int 0, .int 0, .int 0, .int 0, .int 0, .int 0, .int 0, .null]) := by rw [e8]; exact va_up_self _ _ _
  replace hlo : ∀ n, n < 269 → cs8 n = cs n := fun n a => by rw [e8, va_up_ne _ _ (by omega)] <;> exact hlo n a
  clear e8
  refine ry_aload_n 0 dX12_init_34 rfl rfl ?_
  refine ry_bipush (v := 16) dX12_init_35 rfl ?_
  refine ry_newa (κ := 14) (n := 16) (atype := .int) (ty := .int) (t0 := 1) rfl wa_int rfl (fun _ _ => Iff.rfl) rfl (by decide) rfl (by decide) (Nat.le_of_ble_eq_true rfl) (Nat.le_of_ble_eq_true rfl) dX12_init_37 ?_
  refine ry_cs (fun cs9 e9 => ?_)
  replace hc0 : cs9 269 = .inr (12, [.int 0, .ref (gA G 270), .ref (gA G 271), .ref (gA G 272), .ref (gA G 273), .null, .null, .null, .null, .null, .int 0, .int 0, .int 0, .int 0, .int 0, .long 0, .int 0, .int 0, .int 0, .null, .null, .int 0, .int 0, .int 0, .int 0, .int 0, .int 0, .int 0, .int 0, .int 0, .int 0, .null, .null, .null, .null, .null, .null, .null, .null, .null, .null, .null, .null, .null, .null, .null, .null, .null, .null, .null, .null, .null, .null, .null, .int 0, .int 0, .int 0, .int 0, .int 0, .int 0, .null, .null, .int 0, .int 0, .int 0, .int 0, .int 0, .null, .null, .int 0, .null, .int 0, .int 0, .null, .null, .null, .int 0, .int 0, .int 0, .int 0, .int 0, .int 0, .null, .int 0, .int 0, .int 0, .int 0, .int 0, .int 0, .int 0, .int 0, .null]) := by rw [e9, va_up_ne _ _ (by omega)]; exact hc0
  replace hc1 : cs9 270 = .inl (gY G 13, 2400, .inl (fun _ => 0)) := by rw [e9, va_up_ne _ _ (by omega)]; exact hc1
  replace hc2 : cs9 271 = .inl (gY G 14, 4, .inl (fun _ => 0)) := by rw [e9, va_up_ne _ _ (by omega)]; exact hc2
  replace hc3 : cs9 272 = .inl (gY G 14, 4, .inl (fun _ => 0)) := by rw [e9, va_up_ne _ _ (by omega)]; exact hc3
  replace hc4 : cs9 273 = .inl (gY G 14, 4, .inl (fun _ => 0)) := by rw [e9, va_up_ne _ _ (by omega)]; exact hc4
  have hc5 : cs9 274 = .inl (gY G 14, 16, .inl (fun _ => 0)) := by rw [e9]; exact va_up_self _ _ _
  replace hlo : ∀ n, n < 269 → cs9 n = cs n := fun n a => by rw [e9, va_up_ne _ _ (by omega)] <;> exact hlo n a
  clear e9
  refine ry_putF ff_X12_23 rfl (by omega) hc0 rfl rfl (nlt rfl) dX12_init_39 ?_
  refine ry_cs (fun cs10 e10 => ?_)
  replace hc1 : cs10 270 = .inl (gY G 13, 2400, .inl (fun _ => 0)) := by rw [e10, va_up_ne _ _ (by omega)]; exact hc1
  replace hc2 : cs10 271 = .inl (gY G 14, 4, .inl (fun _ => 0)) := by rw [e10, va_up_ne _ _ (by omega)]; exact hc2
  replace hc3 : cs10 272 = .inl (gY G 14, 4, .inl (fun _ => 0)) := by rw [e10, va_up_ne _ _ (by omega)]; exact hc3
  replace hc4 : cs10 273 = .inl (gY G 14, 4, .inl (fun _ => 0)) := by rw [e10, va_up_ne _ _ (by omega)]; exact hc4
  replace hc5 : cs10 274 = .inl (gY G 14, 16, .inl (fun _ => 0)) := by rw [e10, va_up_ne _ _ (by omega)]; exact hc5
  replace hc0 : cs10 269 = .inr (12, [.int 0, .ref (gA G 270), .ref (gA G 271), .ref (gA G 272), .ref (gA G 273), .ref (gA G 274), .null, .null, .null, .null, .int 0, .int 0, .int 0, .int 0, .int 0, .long 0, .int 0, .int 0, .int 0, .null, .null, .int 0, .int 0, .int 0, .int 0, .int 0, .int 0, .int 0, .int 0, .int 0, .int 0, .null, .null, .null, .null, .null, .null, .null, .null, .null, .null, .null, .null, .null, .null, .null, .null, .null, .null, .null, .null, .null, .null, .null, .int 0, .int 0, .int 0, .int 0, .int 0, .int 0, .null, .null, .int 0, .int 0, .int 0, .int 0, .int 0, .null, .null, .int 0, .null, .int 0, .int 0, .null, .null, .null, .int 0, .int 0, .int 0, .int 0, .int 0, .int 0, .null, .int 0, .int 0, .int 0, .int 0, .int 0, .int 0, .int 0, .int 0, .null]) := by rw [e10]; exact va_up_self _ _ _
  replace hlo : ∀ n, n < 269 → cs10 n = cs n := fun n a => by rw [e10, va_up_ne _ _ (by omega)] <;> exact hlo n a
  clear e10
  refine ry_aload_n 0 dX12_init_42 rfl rfl ?_
  refine ry_bipush (v := 104) dX12_init_43 rfl ?_
  refine ry_newa (κ := 14) (n := 104) (atype := .int) (ty := .int) (t0 := 1) rfl wa_int rfl (fun _ _ => Iff.rfl) rfl (by decide) rfl (by decide) (Nat.le_of_ble_eq_true rfl) (Nat.le_of_ble_eq_true rfl) dX12_init_45 ?_
  refine ry_cs (fun cs11 e11 => ?_)
  replace hc0 : cs11 269 = .inr (12, [.int 0, .ref (gA G 270), .ref (gA G 271), .ref (gA G 272), .ref (gA G 273), .ref (gA G 274), .null, .null, .null, .null, .int 0, .int 0, .int 0, .int 0, .int 0, .long 0, .int 0, .int 0, .int 0, .null, .null, .int 0, .int 0, .int 0, .int 0, .int 0, .int 0, .int 0, .int 0, .int 0, .int 0, .null, .null, .null, .null, .null, .null, .null, .null, .null, .null, .null, .null, .null, .null, .null, .null, .null, .null, .null, .null, .null, .null, .null, .int 0, .int 0, .int 0, .int 0, .int 0, .int 0, .null, .null, .int 0, .int 0, .int 0, .int 0, .int 0, .null, .null, .int 0, .null, .int 0, .int 0, .null, .null, .null, .int 0, .int 0, .int 0, .int 0, .int 0, .int 0, .null, .int 0, .int 0, .int 0, .int 0, .int 0, .int 0, .int 0, .int 0, .null]) := by rw [e11, va_up_ne _ _ (by omega)]; exact hc0
  replace hc1 : cs11 270 = .inl (gY G 13, 2400, .inl (fun _ => 0)) := by rw [e11, va_up_ne _ _ (by omega)]; exact hc1
  replace hc2 : cs11 271 = .inl (gY G 14, 4, .inl (fun _ => 0)) := by rw [e11, va_up_ne _ _ (by omega)]; exact hc2
  replace hc3 : cs11 272 = .inl (gY G 14, 4, .inl (fun _ => 0)) := by rw [e11, va_up_ne _ _ (by omega)]; exact hc3
  replace hc4 : cs11 273 = .inl (gY G 14, 4, .inl (fun _ => 0)) := by rw [e11, va_up_ne _ _ (by omega)]; exact hc4
  replace hc5 : cs11 274 = .inl (gY G 14, 16, .inl (fun _ => 0)) := by rw [e11, va_up_ne _ _ (by omega)]; exact hc5
  have hc6 : cs11 275 = .inl (gY G 14, 104, .inl (fun _ => 0)) := by rw [e11]; exact va_up_self _ _ _
  replace hlo : ∀ n, n < 269 → cs11 n = cs n := fun n a => by rw [e11, va_up_ne _ _ (by omega)] <;> exact hlo n a
  clear e11
  refine ry_putF ff_X12_26 rfl (by omega) hc0 rfl rfl (nlt rfl) dX12_init_47 ?_
  refine ry_cs (fun cs12 e12 => ?_)
  replace hc1 : cs12 270 = .inl (gY G 13, 2400, .inl (fun _ => 0)) := by rw [e12, va_up_ne _ _ (by omega)]; exact hc1
  replace hc2 : cs12 271 = .inl (gY G 14, 4, .inl (fun _ => 0)) := by rw [e12, va_up_ne _ _ (by omega)]; exact hc2
  replace hc3 : cs12 272 = .inl (gY G 14, 4, .inl (fun _ => 0)) := by rw [e12, va_up_ne _ _ (by omega)]; exact hc3
  replace hc4 : cs12 273 = .inl (gY G 14, 4, .inl (fun _ => 0)) := by rw [e12, va_up_ne _ _ (by omega)]; exact hc4
  replace hc5 : cs12 274 = .inl (gY G 14, 16, .inl (fun _ => 0)) := by rw [e12, va_up_ne _ _ (by omega)]; exact hc5
  replace hc6 : cs12 275 = .inl (gY G 14, 104, .inl (fun _ => 0)) := by rw [e12, va_up_ne _ _ (by omega)]; exact hc6
  replace hc0 : cs12 269 = .inr (12, [.int 0, .ref (gA G 270), .ref (gA G 271), .ref (gA G 272), .ref (gA G 273), .ref (gA G 274), .ref (gA G 275), .null, .null, .null, .int 0, .int 0, .int 0, .int 0, .int 0, .long 0, .int 0, .int 0, .int 0, .null, .null, .int 0, .int 0, .int 0, .int 0, .int 0, .int 0, .int 0, .int 0, .int 0, .int 0, .null, .null, .null, .null, .null, .null, .null, .null, .null, .null, .null, .null, .null, .null, .null, .null, .null, .null, .null, .null, .null, .null, .null, .int 0, .int 0, .int 0, .int 0, .int 0, .int 0, .null, .null, .int 0, .int 0, .int 0, .int 0, .int 0, .null, .null, .int 0, .null, .int 0, .int 0, .null, .null, .null, .int 0, .int 0, .int 0, .int 0, .int 0, .int 0, .null, .int 0, .int 0, .int 0, .int 0, .int 0, .int 0, .int 0, .int 0, .null]) := by rw [e12]; exact va_up_self _ _ _
  replace hlo : ∀ n, n < 269 → cs12 n = cs n := fun n a => by rw [e12, va_up_ne _ _ (by omega)] <;> exact hlo n a
  clear e12
  refine ry_aload_n 0 dX12_init_50 rfl rfl ?_
  refine ry_sipush (v := 1072) dX12_init_51 rfl ?_
  refine ry_newa (κ := 14) (n := 1072) (atype := .int) (ty := .int) (t0 := 1) rfl wa_int rfl (fun _ _ => Iff.rfl) rfl (by decide) rfl (by decide) (Nat.le_of_ble_eq_true rfl) (Nat.le_of_ble_eq_true rfl) dX12_init_54 ?_
  refine ry_cs (fun cs13 e13 => ?_)
  replace hc0 : cs13 269 = .inr (12, [.int 0, .ref (gA G 270), .ref (gA G 271), .ref (gA G 272), .ref (gA G 273), .ref (gA G 274), .ref (gA G 275), .null, .null, .null, .int 0, .int 0, .int 0, .int 0, .int 0, .long 0, .int 0, .int 0, .int 0, .null, .null, .int 0, .int 0, .int 0, .int 0, .int 0, .int 0, .int 0, .int 0, .int 0, .int 0, .null, .null, .null, .null, .null, .null, .null, .null, .null, .null, .null, .null, .null, .null, .null, .null, .null, .null, .null, .null, .null, .null, .null, .int 0, .int 0, .int 0, .int 0, .int 0, .int 0, .null, .null, .int 0, .int 0, .int 0, .int 0, .int 0, .null, .null, .int 0, .null, .int 0, .int 0, .null, .null, .null, .int 0, .int 0, .int 0, .int 0, .int 0, .int 0, .null, .int 0, .int 0, .int 0, .int 0, .int 0, .int 0, .int 0, .int 0, .null]) := by rw [e13, va_up_ne _ _ (by omega)]; exact hc0
  replace hc1 : cs13 270 = .inl (gY G 13, 2400, .inl (fun _ => 0)) := by rw [e13, va_up_ne _ _ (by omega)]; exact hc1
  replace hc2 : cs13 271 = .inl (gY G 14, 4, .inl (fun _ => 0)) := by rw [e13, va_up_ne _ _ (by omega)]; exact hc2
  replace hc3 : cs13 272 = .inl (gY G 14, 4, .inl (fun _ => 0)) := by rw [e13, va_up_ne _ _ (by omega)]; exact hc3
  replace hc4 : cs13 273 = .inl (gY G 14, 4, .inl (fun _ => 0)) := by rw [e13, va_up_ne _ _ (by omega)]; exact hc4
  replace hc5 : cs13 274 = .inl (gY G 14, 16, .inl (fun _ => 0)) := by rw [e13, va_up_ne _ _ (by omega)]; exact hc5
  replace hc6 : cs13 275 = .inl (gY G 14, 104, .inl (fun _ => 0)) := by rw [e13, va_up_ne _ _ (by omega)]; exact hc6
  have hc7 : cs13 276 = .inl (gY G 14, 1072, .inl (fun _ => 0)) := by rw [e13]; exact va_up_self _ _ _
  replace hlo : ∀ n, n < 269 → cs13 n = cs n := fun n a => by rw [e13, va_up_ne _ _ (by omega)] <;> exact hlo n a
  clear e13
  refine ry_putF ff_X12_29 rfl (by omega) hc0 rfl rfl (nlt rfl) dX12_init_56 ?_
  refine ry_cs (fun cs14 e14 => ?_)
  replace hc1 : cs14 270 = .inl (gY G 13, 2400, .inl (fun _ => 0)) := by rw [e14, va_up_ne _ _ (by omega)]; exact hc1
  replace hc2 : cs14 271 = .inl (gY G 14, 4, .inl (fun _ => 0)) := by rw [e14, va_up_ne _ _ (by omega)]; exact hc2
  replace hc3 : cs14 272 = .inl (gY G 14, 4, .inl (fun _ => 0)) := by rw [e14, va_up_ne _ _ (by omega)]; exact hc3
  replace hc4 : cs14 273 = .inl (gY G 14, 4, .inl (fun _ => 0)) := by rw [e14, va_up_ne _ _ (by omega)]; exact hc4
  replace hc5 : cs14 274 = .inl (gY G 14, 16, .inl (fun _ => 0)) := by rw [e14, va_up_ne _ _ (by omega)]; exact hc5
  replace hc6 : cs14 275 = .inl (gY G 14, 104, .inl (fun _ => 0)) := by rw [e14, va_up_ne _ _ (by omega)]; exact hc6
  replace hc7 : cs14 276 = .inl (gY G 14, 1072, .inl (fun _ => 0)) := by rw [e14, va_up_ne _ _ (by omega)]; exact hc7
  replace hc0 : cs14 269 = .inr (12, [.int 0, .ref (gA G 270), .ref (gA G 271), .ref (gA G 272), .ref (gA G 273), .ref (gA G 274), .ref (gA G 275), .ref (gA G 276), .null, .null, .int 0, .int 0, .int 0, .int 0, .int 0, .long 0, .int 0, .int 0, .int 0, .null, .null, .int 0, .int 0, .int 0, .int 0, .int 0, .int 0, .int 0, .int 0, .int 0, .int 0, .null, .null, .null, .null, .null, .null, .null, .null, .null, .null, .null, .null, .null, .null, .null, .null, .null, .null, .null, .null, .null, .null, .null, .int 0, .int 0, .int 0, .int 0, .int 0, .int 0, .null, .null, .int 0, .int 0, .int 0, .int 0, .int 0, .null, .null, .int 0, .null, .int 0, .int 0, .null, .null, .null, .int 0, .int 0, .int 0, .int 0, .int 0, .int 0, .null, .int 0, .int 0, .int 0, .int 0, .int 0, .int 0, .int 0, .int 0, .null]) := by rw [e14]; exact va_up_self _ _ _
  replace hlo : ∀ n, n < 269 → cs14 n = cs n := fun n a => by rw [e14, va_up_ne _ _ (by omega)] <;> exact hlo n a
  clear e14
  refine ry_aload_n 0 dX12_init_59 rfl rfl ?_
  refine ry_sipush (v := 968) dX12_init_60 rfl ?_
  refine ry_newa (κ := 14) (n := 968) (atype := .int) (ty := .int) (t0 := 1) rfl wa_int rfl (fun _ _ => Iff.rfl) rfl (by decide) rfl (by decide) (Nat.le_of_ble_eq_true rfl) (Nat.le_of_ble_eq_true rfl) dX12_init_63 ?_
  refine ry_cs (fun cs15 e15 => ?_)
  replace hc0 : cs15 269 = .inr (12, [.int 0, .ref (gA G 270), .ref (gA G 271), .ref (gA G 272), .ref (gA G 273), .ref (gA G 274), .ref (gA G 275), .ref (gA G 276), .null, .null, .int 0, .int 0, .int 0, .int 0, .int 0, .long 0, .int 0, .int 0, .int 0, .null, .null, .int 0, .int 0, .int 0, .int 0, .int 0, .int 0, .int 0, .int 0, .int 0, .int 0, .null, .null, .null, .null, .null, .null, .null, .null, .null, .null, .null, .null, .null, .null, .null, .null, .null, .null, .null, .null, .null, .null, .null, .int 0, .int 0, .int 0, .int 0, .int 0, .int 0, .null, .null, .int 0, .int 0, .int 0, .int 0, .int 0, .null, .null, .int 0, .null, .int 0, .int 0, .null, .null, .null, .int 0, .int 0, .int 0, .int 0, .int 0, .int 0, .null, .int 0, .int 0, .int 0, .int 0, .int 0, .int 0, .int 0, .int 0, .null]) := by rw [e15, va_up_ne _ _ (by omega)]; exact hc0
  replace hc1 : cs15 270 = .inl (gY G 13, 2400, .inl (fun _ => 0)) := by rw [e15, va_up_ne _ _ (by omega)]; exact hc1
  replace hc2 : cs15 271 = .inl (gY G 14, 4, .inl (fun _ => 0)) := by rw [e15, va_up_ne _ _ (by omega)]; exact hc2
  replace hc3 : cs15 272 = .inl (gY G 14, 4, .inl (fun _ => 0)) := by rw [e15, va_up_ne _ _ (by omega)]; exact hc3
  replace hc4 : cs15 273 = .inl (gY G 14, 4, .inl (fun _ => 0)) := by rw [e15, va_up_ne _ _ (by omega)]; exact hc4
  replace hc5 : cs15 274 = .inl (gY G 14, 16, .inl (fun _ => 0)) := by rw [e15, va_up_ne _ _ (by omega)]; exact hc5
  replace hc6 : cs15 275 = .inl (gY G 14, 104, .inl (fun _ => 0)) := by rw [e15, va_up_ne _ _ (by omega)]; exact hc6
  replace hc7 : cs15 276 = .inl (gY G 14, 1072, .inl (fun _ => 0)) := by rw [e15, va_up_ne _ _ (by omega)]; exact hc7
  have hc8 : cs15 277 = .inl (gY G 14, 968, .inl (fun _ => 0)) := by rw [e15]; exact va_up_self _ _ _
  replace hlo : ∀ n, n < 269 → cs15 n = cs n := fun n a => by rw [e15, va_up_ne _ _ (by omega)] <;> exact hlo n a
  clear e15
  refine ry_putF ff_X12_32 rfl (by omega) hc0 rfl rfl (nlt rfl) dX12_init_65 ?_
  refine ry_cs (fun cs16 e16 => ?_)
  replace hc1 : cs16 270 = .inl (gY G 13, 2400, .inl (fun _ => 0)) := by rw [e16, va_up_ne _ _ (by omega)]; exact hc1
  replace hc2 : cs16 271 = .inl (gY G 14, 4, .inl (fun _ => 0)) := by rw [e16, va_up_ne _ _ (by omega)]; exact hc2
  replace hc3 : cs16 272 = .inl (gY G 14, 4, .inl (fun _ => 0)) := by rw [e16, va_up_ne _ _ (by omega)]; exact hc3
  replace hc4 : cs16 273 = .inl (gY G 14, 4, .inl (fun _ => 0)) := by rw [e16, va_up_ne _ _ (by omega)]; exact hc4
  replace hc5 : cs16 274 = .inl (gY G 14, 16, .inl (fun _ => 0)) := by rw [e16, va_up_ne _ _ (by omega)]; exact hc5
  replace hc6 : cs16 275 = .inl (gY G 14, 104, .inl (fun _ => 0)) := by rw [e16, va_up_ne _ _ (by omega)]; exact hc6
  replace hc7 : cs16 276 = .inl (gY G 14, 1072, .inl (fun _ => 0)) := by rw [e16, va_up_ne _ _ (by omega)]; exact hc7
  replace hc8 : cs16 277 = .inl (gY G 14, 968, .inl (fun _ => 0)) := by rw [e16, va_up_ne _ _ (by omega)]; exact hc8
  replace hc0 : cs16 269 = .inr (12, [.int 0, .ref (gA G 270), .ref (gA G 271), .ref (gA G 272), .ref (gA G 273), .ref (gA G 274), .ref (gA G 275), .ref (gA G 276), .ref (gA G 277), .null, .int 0, .int 0, .int 0, .int 0, .int 0, .long 0, .int 0, .int 0, .int 0, .null, .null, .int 0, .int 0, .int 0, .int 0, .int 0, .int 0, .int 0, .int 0, .int 0, .int 0, .null, .null, .null, .null, .null, .null, .null, .null, .null, .null, .null, .null, .null, .null, .null, .null, .null, .null, .null, .null, .null, .null, .null, .int 0, .int 0, .int 0, .int 0, .int 0, .int 0, .null, .null, .int 0, .int 0, .int 0, .int 0, .int 0, .null, .null, .int 0, .null, .int 0, .int 0, .null, .null, .null, .int 0, .int 0, .int 0, .int 0, .int 0, .int 0, .null, .int 0, .int 0, .int 0, .int 0, .int 0, .int 0, .int 0, .int 0, .null]) := by rw [e16]; exact va_up_self _ _ _
  replace hlo : ∀ n, n < 269 → cs16 n = cs n := fun n a => by rw [e16, va_up_ne _ _ (by omega)] <;> exact hlo n a
  clear e16
  refine ry_aload_n 0 dX12_init_68 rfl rfl ?_
  refine ry_sipush (v := 136) dX12_init_69 rfl ?_
  refine ry_newa (κ := 14) (n := 136) (atype := .int) (ty := .int) (t0 := 1) rfl wa_int rfl (fun _ _ => Iff.rfl) rfl (by decide) rfl (by decide) (Nat.le_of_ble_eq_true rfl) (Nat.le_of_ble_eq_true rfl) dX12_init_72 ?_
  refine ry_cs (fun cs17 e17 => ?_)
  replace hc0 : cs17 269 = .inr (12, [.int 0, .ref (gA G 270), .ref (gA G 271), .ref (gA G 272), .ref (gA G 273), .ref (gA G 274), .ref (gA G 275), .ref (gA G 276), .ref (gA G 277), .null, .int 0, .int 0, .int 0, .int 0, .int 0, .long 0, .int 0, .int 0, .int 0, .null, .null, .int 0, .int 0, .int 0, .int 0, .int 0, .int 0, .int 0, .int 0, .int 0, .int 0, .null, .null, .null, .null, .null, .null, .null, .null, .null, .null, .null, .null, .null, .null, .null, .null, .null, .null, .null, .null, .null, .null, .null, .int 0, .int 0, .int 0, .int 0, .int 0, .int 0, .null, .null, .int 0, .int 0, .int 0, .int 0, .int 0, .null, .null, .int 0, .null, .int 0, .int 0, .null, .null, .null, .int 0, .int 0, .int 0, .int 0, .int 0, .int 0, .null, .int 0, .int 0, .int 0, .int 0, .int 0, .int 0, .int 0, .int 0, .null]) := by rw [e17, va_up_ne _ _ (by omega)]; exact hc0
  replace hc1 : cs17 270 = .inl (gY G 13, 2400, .inl (fun _ => 0)) := by rw [e17, va_up_ne _ _ (by omega)]; exact hc1
  replace hc2 : cs17 271 = .inl (gY G 14, 4, .inl (fun _ => 0)) := by rw [e17, va_up_ne _ _ (by omega)]; exact hc2
  replace hc3 : cs17 272 = .inl (gY G 14, 4, .inl (fun _ => 0)) := by rw [e17, va_up_ne _ _ (by omega)]; exact hc3
  replace hc4 : cs17 273 = .inl (gY G 14, 4, .inl (fun _ => 0)) := by rw [e17, va_up_ne _ _ (by omega)]; exact hc4
  replace hc5 : cs17 274 = .inl (gY G 14, 16, .inl (fun _ => 0)) := by rw [e17, va_up_ne _ _ (by omega)]; exact hc5
  replace hc6 : cs17 275 = .inl (gY G 14, 104, .inl (fun _ => 0)) := by rw [e17, va_up_ne _ _ (by omega)]; exact hc6
  replace hc7 : cs17 276 = .inl (gY G 14, 1072, .inl (fun _ => 0)) := by rw [e17, va_up_ne _ _ (by omega)]; exact hc7
  replace hc8 : cs17 277 = .inl (gY G 14, 968, .inl (fun _ => 0)) := by rw [e17, va_up_ne _ _ (by omega)]; exact hc8
  have hc9 : cs17 278 = .inl (gY G 14, 136, .inl (fun _ => 0)) := by rw [e17]; exact va_up_self _ _ _
  replace hlo : ∀ n, n < 269 → cs17 n = cs n := fun n a => by rw [e17, va_up_ne _ _ (by omega)] <;> exact hlo n a
  clear e17
  refine ry_putF ff_X12_35 rfl (by omega) hc0 rfl rfl (nlt rfl) dX12_init_74 ?_
  refine ry_cs (fun cs18 e18 => ?_)
  replace hc1 : cs18 270 = .inl (gY G 13, 2400, .inl (fun _ => 0)) := by rw [e18, va_up_ne _ _ (by omega)]; exact hc1
  replace hc2 : cs18 271 = .inl (gY G 14, 4, .inl (fun _ => 0)) := by rw [e18, va_up_ne _ _ (by omega)]; exact hc2
  replace hc3 : cs18 272 = .inl (gY G 14, 4, .inl (fun _ => 0)) := by rw [e18, va_up_ne _ _ (by omega)]; exact hc3
  replace hc4 : cs18 273 = .inl (gY G 14, 4, .inl (fun _ => 0)) := by rw [e18, va_up_ne _ _ (by omega)]; exact hc4
  replace hc5 : cs18 274 = .inl (gY G 14, 16, .inl (fun _ => 0)) := by rw [e18, va_up_ne _ _ (by omega)]; exact hc5
  replace hc6 : cs18 275 = .inl (gY G 14, 104, .inl (fun _ => 0)) := by rw [e18, va_up_ne _ _ (by omega)]; exact hc6
  replace hc7 : cs18 276 = .inl (gY G 14, 1072, .inl (fun _ => 0)) := by rw [e18, va_up_ne _ _ (by omega)]; exact hc7
  replace hc8 : cs18 277 = .inl (gY G 14, 968, .inl (fun _ => 0)) := by rw [e18, va_up_ne _ _ (by omega)]; exact hc8
  replace hc9 : cs18 278 = .inl (gY G 14, 136, .inl (fun _ => 0)) := by rw [e18, va_up_ne _ _ (by omega)]; exact hc9
  replace hc0 : cs18 269 = .inr (12, [.int 0, .ref (gA G 270), .ref (gA G 271), .ref (gA G 272), .ref (gA G 273), .ref (gA G 274), .ref (gA G 275), .ref (gA G 276), .ref (gA G 277), .ref (gA G 278), .int 0, .int 0, .int 0, .int 0, .int 0, .long 0, .int 0, .int 0, .int 0, .null, .null, .int 0, .int 0, .int 0, .int 0, .int 0, .int 0, .int 0, .int 0, .int 0, .int 0, .null, .null, .null, .null, .null, .null, .null, .null, .null, .null, .null, .null, .null, .null, .null, .null, .null, .null, .null, .null, .null, .null, .null, .int 0, .int 0, .int 0, .int 0, .int 0, .int 0, .null, .null, .int 0, .int 0, .int 0, .int 0, .int 0, .null, .null, .int 0, .null, .int 0, .int 0, .null, .null, .null, .int 0, .int 0, .int 0, .int 0, .int 0, .int 0, .null, .int 0, .int 0, .int 0, .int 0, .int 0, .int 0, .int 0, .int 0, .null]) := by rw [e18]; exact va_up_self _ _ _
  replace hlo : ∀ n, n < 269 → cs18 n = cs n := fun n a => by rw [e18, va_up_ne _ _ (by omega)] <;> exact hlo n a
  clear e18
  refine ry_aload_n 0 dX12_init_77 rfl rfl ?_
  refine ry_sipush (v := 134) dX12_init_78 rfl ?_
  refine ry_newa (κ := 14) (n := 134) (atype := .int) (ty := .int) (t0 := 1) rfl wa_int rfl (fun _ _ => Iff.rfl) rfl (by decide) rfl (by decide) (Nat.le_of_ble_eq_true rfl) (Nat.le_of_ble_eq_true rfl) dX12_init_81 ?_
  refine ry_cs (fun cs19 e19 => ?_)
  replace hc0 : cs19 269 = .inr (12, [.int 0, .ref (gA G 270), .ref (gA G 271), .ref (gA G 272), .ref (gA G 273), .ref (gA G 274), .ref (gA G 275), .ref (gA G 276), .ref (gA G 277), .ref (gA G 278), .int 0, .int 0, .int 0, .int 0, .int 0, .long 0, .int 0, .int 0, .int 0, .null, .null, .int 0, .int 0, .int 0, .int 0, .int 0, .int 0, .int 0, .int 0, .int 0, .int 0, .null, .null, .null, .null, .null, .null, .null, .null, .null, .null, .null, .null, .null, .null, .null, .null, .null, .null, .null, .null, .null, .null, .null, .int 0, .int 0, .int 0, .int 0, .int 0, .int 0, .null, .null, .int 0, .int 0, .int 0, .int 0, .int 0, .null, .null, .int 0, .null, .int 0, .int 0, .null, .null, .null, .int 0, .int 0, .int 0, .int 0, .int 0, .int 0, .null, .int 0, .int 0, .int 0, .int 0, .int 0, .int 0, .int 0, .int 0, .null]) := by rw [e19, va_up_ne _ _ (by omega)]; exact hc0
  replace hc1 : cs19 270 = .inl (gY G 13, 2400, .inl (fun _ => 0)) := by rw [e19, va_up_ne _ _ (by omega)]; exact hc1
  replace hc2 : cs19 271 = .inl (gY G 14, 4, .inl (fun _ => 0)) := by rw [e19, va_up_ne _ _ (by omega)]; exact hc2
  replace hc3 : cs19 272 = .inl (gY G 14, 4, .inl (fun _ => 0)) := by rw [e19, va_up_ne _ _ (by omega)]; exact hc3
  replace hc4 : cs19 273 = .inl (gY G 14, 4, .inl (fun _ => 0)) := by rw [e19, va_up_ne _ _ (by omega)]; exact hc4
  replace hc5 : cs19 274 = .inl (gY G 14, 16, .inl (fun _ => 0)) := by rw [e19, va_up_ne _ _ (by omega)]; exact hc5
  replace hc6 : cs19 275 = .inl (gY G 14, 104, .inl (fun _ => 0)) := by rw [e19, va_up_ne _ _ (by omega)]; exact hc6
  replace hc7 : cs19 276 = .inl (gY G 14, 1072, .inl (fun _ => 0)) := by rw [e19, va_up_ne _ _ (by omega)]; exact hc7
  replace hc8 : cs19 277 = .inl (gY G 14, 968, .inl (fun _ => 0)) := by rw [e19, va_up_ne _ _ (by omega)]; exact hc8
  replace hc9 : cs19 278 = .inl (gY G 14, 136, .inl (fun _ => 0)) := by rw [e19, va_up_ne _ _ (by omega)]; exact hc9
  have hc10 : cs19 279 = .inl (gY G 14, 134, .inl (fun _ => 0)) := by rw [e19]; exact va_up_self _ _ _
  replace hlo : ∀ n, n < 269 → cs19 n = cs n := fun n a => by rw [e19, va_up_ne _ _ (by omega)] <;> exact hlo n a
  clear e19
  refine ry_putF ff_X12_38 rfl (by omega) hc0 rfl rfl (nlt rfl) dX12_init_83 ?_
  refine ry_cs (fun cs20 e20 => ?_)
  replace hc1 : cs20 270 = .inl (gY G 13, 2400, .inl (fun _ => 0)) := by rw [e20, va_up_ne _ _ (by omega)]; exact hc1
  replace hc2 : cs20 271 = .inl (gY G 14, 4, .inl (fun _ => 0)) := by rw [e20, va_up_ne _ _ (by omega)]; exact hc2
  replace hc3 : cs20 272 = .inl (gY G 14, 4, .inl (fun _ => 0)) := by rw [e20, va_up_ne _ _ (by omega)]; exact hc3
  replace hc4 : cs20 273 = .inl (gY G 14, 4, .inl (fun _ => 0)) := by rw [e20, va_up_ne _ _ (by omega)]; exact hc4
  replace hc5 : cs20 274 = .inl (gY G 14, 16, .inl (fun _ => 0)) := by rw [e20, va_up_ne _ _ (by omega)]; exact hc5
  replace hc6 : cs20 275 = .inl (gY G 14, 104, .inl (fun _ => 0)) := by rw [e20, va_up_ne _ _ (by omega)]; exact hc6
  replace hc7 : cs20 276 = .inl (gY G 14, 1072, .inl (fun _ => 0)) := by rw [e20, va_up_ne _ _ (by omega)]; exact hc7
  replace hc8 : cs20 277 = .inl (gY G 14, 968, .inl (fun _ => 0)) := by rw [e20, va_up_ne _ _ (by omega)]; exact hc8
  replace hc9 : cs20 278 = .inl (gY G 14, 136, .inl (fun _ => 0)) := by rw [e20, va_up_ne _ _ (by omega)]; exact hc9
  replace hc10 : cs20 279 = .inl (gY G 14, 134, .inl (fun _ => 0)) := by rw [e20, va_up_ne _ _ (by omega)]; exact hc10
  replace hc0 : cs20 269 = .inr (12, [.int 0, .ref (gA G 270), .ref (gA G 271), .ref (gA G 272), .ref (gA G 273), .ref (gA G 274), .ref (gA G 275), .ref (gA G 276), .ref (gA G 277), .ref (gA G 278), .int 0, .int 0, .int 0, .int 0, .int 0, .long 0, .int 0, .int 0, .int 0, .ref (gA G 279), .null, .int 0, .int 0, .int 0, .int 0, .int 0, .int 0, .int 0, .int 0, .int 0, .int 0, .null, .null, .null, .null, .null, .null, .null, .null, .null, .null, .null, .null, .null, .null, .null, .null, .null, .null, .null, .null, .null, .null, .null, .int 0, .int 0, .int 0, .int 0, .int 0, .int 0, .null, .null, .int 0, .int 0, .int 0, .int 0, .int 0, .null, .null, .int 0, .null, .int 0, .int 0, .null, .null, .null, .int 0, .int 0, .int 0, .int 0, .int 0, .int 0, .null, .int 0, .int 0, .int 0, .int 0, .int 0, .int 0, .int 0, .int 0, .null]) := by rw [e20]; exact va_up_self _ _ _
  replace hlo : ∀ n, n < 269 → cs20 n = cs n := fun n a => by rw [e20, va_up_ne _ _ (by omega)] <;> exact hlo n a
  clear e20
  refine ry_aload_n 0 dX12_init_86 rfl rfl ?_
  refine ry_iconst (v := 3) dX12_init_87 rfl ?_
  refine ry_newa (κ := 14) (n := 3) (atype := .int) (ty := .int) (t0 := 1) rfl wa_int rfl (fun _ _ => Iff.rfl) rfl (by decide) rfl (by decide) (Nat.le_of_ble_eq_true rfl) (Nat.le_of_ble_eq_true rfl) dX12_init_88 ?_
  refine ry_cs (fun cs21 e21 => ?_)
  replace hc0 : cs21 269 = .inr (12, [.int 0, .ref (gA G 270), .ref (gA G 271), .ref (gA G 272), .ref (gA G 273), .ref (gA G 274), .ref (gA G 275), .ref (gA G 276), .ref (gA G 277), .ref (gA G 278), .int 0, .int 0, .int 0, .int 0, .int 0, .long 0, .int 0, .int 0, .int 0, .ref (gA G 279), .null, .int 0, .int 0, .int 0, .int 0, .int 0, .int 0, .int 0, .int 0, .int 0, .int 0, .null, .null, .null, .null, .null, .null, .null, .null, .null, .null, .null, .null, .null, .null, .null, .null, .null, .null, .null, .null, .null, .null, .null, .int 0, .int 0, .int 0, .int 0, .int 0, .int 0, .null, .null, .int 0, .int 0, .int 0, .int 0, .int 0, .null, .null, .int 0, .null, .int 0, .int 0, .null, .null, .null, .int 0, .int 0, .int 0, .int 0, .int 0, .int 0, .null, .int 0, .int 0, .int 0, .int 0, .int 0, .int 0, .int 0, .int 0, .null]) := by rw [e21, va_up_ne _ _ (by omega)]; exact hc0
  replace hc1 : cs21 270 = .inl (gY G 13, 2400, .inl (fun _ => 0)) := by rw [e21, va_up_ne _ _ (by omega)]; exact hc1
  replace hc2 : cs21 271 = .inl (gY G 14, 4, .inl (fun _ => 0)) := by rw [e21, va_up_ne _ _ (by omega)]; exact hc2
  replace hc3 : cs21 272 = .inl (gY G 14, 4, .inl (fun _ => 0)) := by rw [e21, va_up_ne _ _ (by omega)]; exact hc3
  replace hc4 : cs21 273 = .inl (gY G 14, 4, .inl (fun _ => 0)) := by rw [e21, va_up_ne _ _ (by omega)]; exact hc4
  replace hc5 : cs21 274 = .inl (gY G 14, 16, .inl (fun _ => 0)) := by rw [e21, va_up_ne _ _ (by omega)]; exact hc5
  replace hc6 : cs21 275 = .inl (gY G 14, 104, .inl (fun _ => 0)) := by rw [e21, va_up_ne _ _ (by omega)]; exact hc6
  replace hc7 : cs21 276 = .inl (gY G 14, 1072, .inl (fun _ => 0)) := by rw [e21, va_up_ne _ _ (by omega)]; exact hc7
  replace hc8 : cs21 277 = .inl (gY G 14, 968, .inl (fun _ => 0)) := by rw [e21, va_up_ne _ _ (by omega)]; exact hc8
  replace hc9 : cs21 278 = .inl (gY G 14, 136, .inl (fun _ => 0)) := by rw [e21, va_up_ne _ _ (by omega)]; exact hc9
  replace hc10 : cs21 279 = .inl (gY G 14, 134, .inl (fun _ => 0)) := by rw [e21, va_up_ne _ _ (by omega)]; exact hc10
  have hc11 : cs21 280 = .inl (gY G 14, 3, .inl (fun _ => 0)) := by rw [e21]; exact va_up_self _ _ _
  replace hlo : ∀ n, n < 269 → cs21 n = cs n := fun n a => by rw [e21, va_up_ne _ _ (by omega)] <;> exact hlo n a
  clear e21
  refine ry_putF ff_X12_41 rfl (by omega) hc0 rfl rfl (nlt rfl) dX12_init_90 ?_
  refine ry_cs (fun cs22 e22 => ?_)
  replace hc1 : cs22 270 = .inl (gY G 13, 2400, .inl (fun _ => 0)) := by rw [e22, va_up_ne _ _ (by omega)]; exact hc1
  replace hc2 : cs22 271 = .inl (gY G 14, 4, .inl (fun _ => 0)) := by rw [e22, va_up_ne _ _ (by omega)]; exact hc2
  replace hc3 : cs22 272 = .inl (gY G 14, 4, .inl (fun _ => 0)) := by rw [e22, va_up_ne _ _ (by omega)]; exact hc3
  replace hc4 : cs22 273 = .inl (gY G 14, 4, .inl (fun _ => 0)) := by rw [e22, va_up_ne _ _ (by omega)]; exact hc4
  replace hc5 : cs22 274 = .inl (gY G 14, 16, .inl (fun _ => 0)) := by rw [e22, va_up_ne _ _ (by omega)]; exact hc5
  replace hc6 : cs22 275 = .inl (gY G 14, 104, .inl (fun _ => 0)) := by rw [e22, va_up_ne _ _ (by omega)]; exact hc6
  replace hc7 : cs22 276 = .inl (gY G 14, 1072, .inl (fun _ => 0)) := by rw [e22, va_up_ne _ _ (by omega)]; exact hc7
  replace hc8 : cs22 277 = .inl (gY G 14, 968, .inl (fun _ => 0)) := by rw [e22, va_up_ne _ _ (by omega)]; exact hc8
  replace hc9 : cs22 278 = .inl (gY G 14, 136, .inl (fun _ => 0)) := by rw [e22, va_up_ne _ _ (by omega)]; exact hc9
  replace hc10 : cs22 279 = .inl (gY G 14, 134, .inl (fun _ => 0)) := by rw [e22, va_up_ne _ _ (by omega)]; exact hc10
  replace hc11 : cs22 280 = .inl (gY G 14, 3, .inl (fun _ => 0)) := by rw [e22, va_up_ne _ _ (by omega)]; exact hc11
  replace hc0 : cs22 269 = .inr (12, [.int 0, .ref (gA G 270), .ref (gA G 271), .ref (gA G 272), .ref (gA G 273), .ref (gA G 274), .ref (gA G 275), .ref (gA G 276), .ref (gA G 277), .ref (gA G 278), .int 0, .int 0, .int 0, .int 0, .int 0, .long 0, .int 0, .int 0, .int 0, .ref (gA G 279), .ref (gA G 280), .int 0, .int 0, .int 0, .int 0, .int 0, .int 0, .int 0, .int 0, .int 0, .int 0, .null, .null, .null, .null, .null, .null, .null, .null, .null, .null, .null, .null, .null, .null, .null, .null, .null, .null, .null, .null, .null, .null, .null, .int 0, .int 0, .int 0, .int 0, .int 0, .int 0, .null, .null, .int 0, .int 0, .int 0, .int 0, .int 0, .null, .null, .int 0, .null, .int 0, .int 0, .null, .null, .null, .int 0, .int 0, .int 0, .int 0, .int 0, .int 0, .null, .int 0, .int 0, .int 0, .int 0, .int 0, .int 0, .int 0, .int 0, .null]) := by rw [e22]; exact va_up_self _ _ _
  replace hlo : ∀ n, n < 269 → cs22 n = cs n := fun n a => by rw [e22, va_up_ne _ _ (by omega)] <;> exact hlo n a
  clear e22
  refine ry_aload_n 0 dX12_init_93 rfl rfl ?_
  refine ry_bipush (v := 10) dX12_init_94 rfl ?_
  refine ry_newa (κ := 14) (n := 10) (atype := .int) (ty := .int) (t0 := 1) rfl wa_int rfl (fun _ _ => Iff.rfl) rfl (by decide) rfl (by decide) (Nat.le_of_ble_eq_true rfl) (Nat.le_of_ble_eq_true rfl) dX12_init_96 ?_
  refine ry_cs (fun cs23 e23 => ?_)
  replace hc0 : cs23 269 = .inr (12, [.int 0, .ref (gA G 270), .ref (gA G 271), .ref (gA G 272), .ref (gA G 273), .ref (gA G 274), .ref (gA G 275), .ref (gA G 276), .ref (gA G 277), .ref (gA G 278), .int 0, .int 0, .int 0, .int 0, .int 0, .long 0, .int 0, .int 0, .int 0, .ref (gA G 279), .ref (gA G 280), .int 0, .int 0, .int 0, .int 0, .int 0, .int 0, .int 0, .int 0, .int 0, .int 0, .null, .null, .null, .null, .null, .null, .null, .null, .null, .null, .null, .null, .null, .null, .null, .null, .null, .null, .null, .null, .null, .null, .null, .int 0, .int 0, .int 0, .int 0, .int 0, .int 0, .null, .null, .int 0, .int 0, .int 0, .int 0, .int 0, .null, .null, .int 0, .null, .int 0, .int 0, .null, .null, .null, .int 0, .int 0, .int 0, .int 0, .int 0, .int 0, .null, .int 0, .int 0, .int 0, .int 0, .int 0, .int 0, .int 0, .int 0, .null]) := by rw [e23, va_up_ne _ _ (by omega)]; exact hc0
  replace hc1 : cs23 270 = .inl (gY G 13, 2400, .inl (fun _ => 0)) := by rw [e23, va_up_ne _ _ (by omega)]; exact hc1
  replace hc2 : cs23 271 = .inl (gY G 14, 4, .inl (fun _ => 0)) := by rw [e23, va_up_ne _ _ (by omega)]; exact hc2
  replace hc3 : cs23 272 = .inl (gY G 14, 4, .inl (fun _ => 0)) := by rw [e23, va_up_ne _ _ (by omega)]; exact hc3
  replace hc4 : cs23 273 = .inl (gY G 14, 4, .inl (fun _ => 0)) := by rw [e23, va_up_ne _ _ (by omega)]; exact hc4
  replace hc5 : cs23 274 = .inl (gY G 14, 16, .inl (fun _ => 0)) := by rw [e23, va_up_ne _ _ (by omega)]; exact hc5
  replace hc6 : cs23 275 = .inl (gY G 14, 104, .inl (fun _ => 0)) := by rw [e23, va_up_ne _ _ (by omega)]; exact hc6
  replace hc7 : cs23 276 = .inl (gY G 14, 1072, .inl (fun _ => 0)) := by rw [e23, va_up_ne _ _ (by omega)]; exact hc7
  replace hc8 : cs23 277 = .inl (gY G 14, 968, .inl (fun _ => 0)) := by rw [e23, va_up_ne _ _ (by omega)]; exact hc8
  replace hc9 : cs23 278 = .inl (gY G 14, 136, .inl (fun _ => 0)) := by rw [e23, va_up_ne _ _ (by omega)]; exact hc9
  replace hc10 : cs23 279 = .inl (gY G 14, 134, .inl (fun _ => 0)) := by rw [e23, va_up_ne _ _ (by omega)]; exact hc10
  replace hc11 : cs23 280 = .inl (gY G 14, 3, .inl (fun _ => 0)) := by rw [e23, va_up_ne _ _ (by omega)]; exact hc11
  have hc12 : cs23 281 = .inl (gY G 14, 10, .inl (fun _ => 0)) := by rw [e23]; exact va_up_self _ _ _
  replace hlo : ∀ n, n < 269 → cs23 n = cs n := fun n a => by rw [e23, va_up_ne _ _ (by omega)] <;> exact hlo n a
  clear e23
  refine ry_putF ff_X12_44 rfl (by omega) hc0 rfl rfl (nlt rfl) dX12_init_98 ?_
  refine ry_cs (fun cs24 e24 => ?_)
  replace hc1 : cs24 270 = .inl (gY G 13, 2400, .inl (fun _ => 0)) := by rw [e24, va_up_ne _ _ (by omega)]; exact hc1
  replace hc2 : cs24 271 = .inl (gY G 14, 4, .inl (fun _ => 0)) := by rw [e24, va_up_ne _ _ (by omega)]; exact hc2
  replace hc3 : cs24 272 = .inl (gY G 14, 4, .inl (fun _ => 0)) := by rw [e24, va_up_ne _ _ (by omega)]; exact hc3
  replace hc4 : cs24 273 = .inl (gY G 14, 4, .inl (fun _ => 0)) := by rw [e24, va_up_ne _ _ (by omega)]; exact hc4
  replace hc5 : cs24 274 = .inl (gY G 14, 16, .inl (fun _ => 0)) := by rw [e24, va_up_ne _ _ (by omega)]; exact hc5
  replace hc6 : cs24 275 = .inl (gY G 14, 104, .inl (fun _ => 0)) := by rw [e24, va_up_ne _ _ (by omega)]; exact hc6
  replace hc7 : cs24 276 = .inl (gY G 14, 1072, .inl (fun _ => 0)) := by rw [e24, va_up_ne _ _ (by omega)]; exact hc7
  replace hc8 : cs24 277 = .inl (gY G 14, 968, .inl (fun _ => 0)) := by rw [e24, va_up_ne _ _ (by omega)]; exact hc8
  replace hc9 : cs24 278 = .inl (gY G 14, 136, .inl (fun _ => 0)) := by rw [e24, va_up_ne _ _ (by omega)]; exact hc9
  replace hc10 : cs24 279 = .inl (gY G 14, 134, .inl (fun _ => 0)) := by rw [e24, va_up_ne _ _ (by omega)]; exact hc10
  replace hc11 : cs24 280 = .inl (gY G 14, 3, .inl (fun _ => 0)) := by rw [e24, va_up_ne _ _ (by omega)]; exact hc11
  replace hc12 : cs24 281 = .inl (gY G 14, 10, .inl (fun _ => 0)) := by rw [e24, va_up_ne _ _ (by omega)]; exact hc12
  replace hc0 : cs24 269 = .inr (12, [.int 0, .ref (gA G 270), .ref (gA G 271), .ref (gA G 272), .ref (gA G 273), .ref (gA G 274), .ref (gA G 275), .ref (gA G 276), .ref (gA G 277), .ref (gA G 278), .int 0, .int 0, .int 0, .int 0, .int 0, .long 0, .int 0, .int 0, .int 0, .ref (gA G 279), .ref (gA G 280), .int 0, .int 0, .int 0, .int 0, .int 0, .int 0, .int 0, .int 0, .int 0, .int 0, .ref (gA G 281), .null, .null, .null, .null, .null, .null, .null, .null, .null, .null, .null, .null, .null, .null, .null, .null, .null, .null, .null, .null, .null, .null, .int 0, .int 0, .int 0, .int 0, .int 0, .int 0, .null, .null, .int 0, .int 0, .int 0, .int 0, .int 0, .null, .null, .int 0, .null, .int 0, .int 0, .null, .null, .null, .int 0, .int 0, .int 0, .int 0, .int 0, .int 0, .null, .int 0, .int 0, .int 0, .int 0, .int 0, .int 0, .int 0, .int 0, .null]) := by rw [e24]; exact va_up_self _ _ _
  replace hlo : ∀ n, n < 269 → cs24 n = cs n := fun n a => by rw [e24, va_up_ne _ _ (by omega)] <;> exact hlo n a
  clear e24
  refine ry_aload_n 0 dX12_init_101 rfl rfl ?_
  refine ry_bipush (v := 10) dX12_init_102 rfl ?_
  refine ry_newa (κ := 14) (n := 10) (atype := .int) (ty := .int) (t0 := 1) rfl wa_int rfl (fun _ _ => Iff.rfl) rfl (by decide) rfl (by decide) (Nat.le_of_ble_eq_true rfl) (Nat.le_of_ble_eq_true rfl) dX12_init_104 ?_
  refine ry_cs (fun cs25 e25 => ?_)
  replace hc0 : cs25 269 = .inr (12, [.int 0, .ref (gA G 270), .ref (gA G 271), .ref (gA G 272), .ref (gA G 273), .ref (gA G 274), .ref (gA G 275), .ref (gA G 276), .ref (gA G 277), .ref (gA G 278), .int 0, .int 0, .int 0, .int 0, .int 0, .long 0, .int 0, .int 0, .int 0, .ref (gA G 279), .ref (gA G 280), .int 0, .int 0, .int 0, .int 0, .int 0, .int 0, .int 0, .int 0, .int 0, .int 0, .ref (gA G 281), .null, .null, .null, .null, .null, .null, .null, .null, .null, .null, .null, .null, .null, .null, .null, .null, .null, .null, .null, .null, .null, .null, .int 0, .int 0, .int 0, .int 0, .int 0, .int 0, .null, .null, .int 0, .int 0, .int 0, .int 0, .int 0, .null, .null, .int 0, .null, .int 0, .int 0, .null, .null, .null, .int 0, .int 0, .int 0, .int 0, .int 0, .int 0, .null, .int 0, .int 0, .int 0, .int 0, .int 0, .int 0, .int 0, .int 0, .null]) := by rw [e25, va_up_ne _ _ (by omega)]; exact hc0
  replace hc1 : cs25 270 = .inl (gY G 13, 2400, .inl (fun _ => 0)) := by rw [e25, va_up_ne _ _ (by omega)]; exact hc1
  replace hc2 : cs25 271 = .inl (gY G 14, 4, .inl (fun _ => 0)) := by rw [e25, va_up_ne _ _ (by omega)]; exact hc2
  replace hc3 : cs25 272 = .inl (gY G 14, 4, .inl (fun _ => 0)) := by rw [e25, va_up_ne _ _ (by omega)]; exact hc3
  replace hc4 : cs25 273 = .inl (gY G 14, 4, .inl (fun _ => 0)) := by rw [e25, va_up_ne _ _ (by omega)]; exact hc4
  replace hc5 : cs25 274 = .inl (gY G 14, 16, .inl (fun _ => 0)) := by rw [e25, va_up_ne _ _ (by omega)]; exact hc5
  replace hc6 : cs25 275 = .inl (gY G 14, 104, .inl (fun _ => 0)) := by rw [e25, va_up_ne _ _ (by omega)]; exact hc6
  replace hc7 : cs25 276 = .inl (gY G 14, 1072, .inl (fun _ => 0)) := by rw [e25, va_up_ne _ _ (by omega)]; exact hc7
  replace hc8 : cs25 277 = .inl (gY G 14, 968, .inl (fun _ => 0)) := by rw [e25, va_up_ne _ _ (by omega)]; exact hc8
  replace hc9 : cs25 278 = .inl (gY G 14, 136, .inl (fun _ => 0)) := by rw [e25, va_up_ne _ _ (by omega)]; exact hc9
  replace hc10 : cs25 279 = .inl (gY G 14, 134, .inl (fun _ => 0)) := by rw [e25, va_up_ne _ _ (by omega)]; exact hc10
  replace hc11 : cs25 280 = .inl (gY G 14, 3, .inl (fun _ => 0)) := by rw [e25, va_up_ne _ _ (by omega)]; exact hc11
  replace hc12 : cs25 281 = .inl (gY G 14, 10, .inl (fun _ => 0)) := by rw [e25, va_up_ne _ _ (by omega)]; exact hc12
  have hc13 : cs25 282 = .inl (gY G 14, 10, .inl (fun _ => 0)) := by rw [e25]; exact va_up_self _ _ _
  replace hlo : ∀ n, n < 269 → cs25 n = cs n := fun n a => by rw [e25, va_up_ne _ _ (by omega)] <;> exact hlo n a
  clear e25
  refine ry_putF ff_X12_47 rfl (by omega) hc0 rfl rfl (nlt rfl) dX12_init_106 ?_
  refine ry_cs (fun cs26 e26 => ?_)
  replace hc1 : cs26 270 = .inl (gY G 13, 2400, .inl (fun _ => 0)) := by rw [e26, va_up_ne _ _ (by omega)]; exact hc1
  replace hc2 : cs26 271 = .inl (gY G 14, 4, .inl (fun _ => 0)) := by rw [e26, va_up_ne _ _ (by omega)]; exact hc2
  replace hc3 : cs26 272 = .inl (gY G 14, 4, .inl (fun _ => 0)) := by rw [e26, va_up_ne _ _ (by omega)]; exact hc3
  replace hc4 : cs26 273 = .inl (gY G 14, 4, .inl (fun _ => 0)) := by rw [e26, va_up_ne _ _ (by omega)]; exact hc4
  replace hc5 : cs26 274 = .inl (gY G 14, 16, .inl (fun _ => 0)) := by rw [e26, va_up_ne _ _ (by omega)]; exact hc5
  replace hc6 : cs26 275 = .inl (gY G 14, 104, .inl (fun _ => 0)) := by rw [e26, va_up_ne _ _ (by omega)]; exact hc6
  replace hc7 : cs26 276 = .inl (gY G 14, 1072, .inl (fun _ => 0)) := by rw [e26, va_up_ne _ _ (by omega)]; exact hc7
  replace hc8 : cs26 277 = .inl (gY G 14, 968, .inl (fun _ => 0)) := by rw [e26, va_up_ne _ _ (by omega)]; exact hc8
  replace hc9 : cs26 278 = .inl (gY G 14, 136, .inl (fun _ => 0)) := by rw [e26, va_up_ne _ _ (by omega)]; exact hc9
  replace hc10 : cs26 279 = .inl (gY G 14, 134, .inl (fun _ => 0)) := by rw [e26, va_up_ne _ _ (by omega)]; exact hc10
  replace hc11 : cs26 280 = .inl (gY G 14, 3, .inl (fun _ => 0)) := by rw [e26, va_up_ne _ _ (by omega)]; exact hc11
  replace hc12 : cs26 281 = .inl (gY G 14, 10, .inl (fun _ => 0)) := by rw [e26, va_up_ne _ _ (by omega)]; exact hc12
  replace hc13 : cs26 282 = .inl (gY G 14, 10, .inl (fun _ => 0)) := by rw [e26, va_up_ne _ _ (by omega)]; exact hc13
  replace hc0 : cs26 269 = .inr (12, [.int 0, .ref (gA G 270), .ref (gA G 271), .ref (gA G 272), .ref (gA G 273), .ref (gA G 274), .ref (gA G 275), .ref (gA G 276), .ref (gA G 277), .ref (gA G 278), .int 0, .int 0, .int 0, .int 0, .int 0, .long 0, .int 0, .int 0, .int 0, .ref (gA G 279), .ref (gA G 280), .int 0, .int 0, .int 0, .int 0, .int 0, .int 0, .int 0, .int 0, .int 0, .int 0, .ref (gA G 281), .ref (gA G 282), .null, .null, .null, .null, .null, .null, .null, .null, .null, .null, .null, .null, .null, .null, .null, .null, .null, .null, .null, .null, .null, .int 0, .int 0, .int 0, .int 0, .int 0, .int 0, .null, .null, .int 0, .int 0, .int 0, .int 0, .int 0, .null, .null, .int 0, .null, .int 0, .int 0, .null, .null, .null, .int 0, .int 0, .int 0, .int 0, .int 0, .int 0, .null, .int 0, .int 0, .int 0, .int 0, .int 0, .int 0, .int 0, .int 0, .null]) := by rw [e26]; exact va_up_self _ _ _
  replace hlo : ∀ n, n < 269 → cs26 n = cs n := fun n a => by rw [e26, va_up_ne _ _ (by omega)] <;> exact hlo n a
  clear e26
  refine ry_aload_n 0 dX12_init_109 rfl rfl ?_
  refine ry_bipush (v := 10) dX12_init_110 rfl ?_
  refine ry_newa (κ := 14) (n := 10) (atype := .int) (ty := .int) (t0 := 1) rfl wa_int rfl (fun _ _ => Iff.rfl) rfl (by decide) rfl (by decide) (Nat.le_of_ble_eq_true rfl) (Nat.le_of_ble_eq_true rfl) dX12_init_112 ?_
  refine ry_cs (fun cs27 e27 => ?_)
  replace hc0 : cs27 269 = .inr (12, [.int 0, .ref (gA G 270), .ref (gA G 271), .ref (gA G 272), .ref (gA G 273), .ref (gA G 274), .ref (gA G 275), .ref (gA G 276), .ref (gA G 277), .ref (gA G 278), .int 0, .int 0, .int 0, .int 0, .int 0, .long 0, .int 0, .int 0, .int 0, .ref (gA G 279), .ref (gA G 280), .int 0, .int 0, .int 0, .int 0, .int 0, .int 0, .int 0, .int 0, .int 0, .int 0, .ref (gA G 281), .ref (gA G 282), .null, .null, .null, .null, .null, .null, .null, .null, .null, .null, .null, .null, .null, .null, .null, .null, .null, .null, .null, .null, .null, .int 0, .int 0, .int 0, .int 0, .int 0, .int 0, .null, .null, .int 0, .int 0, .int 0, .int 0, .int 0, .null, .null, .int 0, .null, .int 0, .int 0, .null, .null, .null, .int 0, .int 0, .int 0, .int 0, .int 0, .int 0, .null, .int 0, .int 0, .int 0, .int 0, .int 0, .int 0, .int 0, .int 0, .null]) := by rw [e27, va_up_ne _ _ (by omega)]; exact hc0
  replace hc1 : cs27 270 = .inl (gY G 13, 2400, .inl (fun _ => 0)) := by rw [e27, va_up_ne _ _ (by omega)]; exact hc1
  replace hc2 : cs27 271 = .inl (gY G 14, 4, .inl (fun _ => 0)) := by rw [e27, va_up_ne _ _ (by omega)]; exact hc2
  replace hc3 : cs27 272 = .inl (gY G 14, 4, .inl (fun _ => 0)) := by rw [e27, va_up_ne _ _ (by omega)]; exact hc3
  replace hc4 : cs27 273 = .inl (gY G 14, 4, .inl (fun _ => 0)) := by rw [e27, va_up_ne _ _ (by omega)]; exact hc4
  replace hc5 : cs27 274 = .inl (gY G 14, 16, .inl (fun _ => 0)) := by rw [e27, va_up_ne _ _ (by omega)]; exact hc5
  replace hc6 : cs27 275 = .inl (gY G 14, 104, .inl (fun _ => 0)) := by rw [e27, va_up_ne _ _ (by omega)]; exact hc6
  replace hc7 : cs27 276 = .inl (gY G 14, 1072, .inl (fun _ => 0)) := by rw [e27, va_up_ne _ _ (by omega)]; exact hc7
  replace hc8 : cs27 277 = .inl (gY G 14, 968, .inl (fun _ => 0)) := by rw [e27, va_up_ne _ _ (by omega)]; exact hc8
  replace hc9 : cs27 278 = .inl (gY G 14, 136, .inl (fun _ => 0)) := by rw [e27, va_up_ne _ _ (by omega)]; exact hc9
  replace hc10 : cs27 279 = .inl (gY G 14, 134, .inl (fun _ => 0)) := by rw [e27, va_up_ne _ _ (by omega)]; exact hc10
  replace hc11 : cs27 280 = .inl (gY G 14, 3, .inl (fun _ => 0)) := by rw [e27, va_up_ne _ _ (by omega)]; exact hc11
  replace hc12 : cs27 281 = .inl (gY G 14, 10, .inl (fun _ => 0)) := by rw [e27, va_up_ne _ _ (by omega)]; exact hc12
  replace hc13 : cs27 282 = .inl (gY G 14, 10, .inl (fun _ => 0)) := by rw [e27, va_up_ne _ _ (by omega)]; exact hc13
  have hc14 : cs27 283 = .inl (gY G 14, 10, .inl (fun _ => 0)) := by rw [e27]; exact va_up_self _ _ _
  replace hlo : ∀ n, n < 269 → cs27 n = cs n := fun n a => by rw [e27, va_up_ne _ _ (by omega)] <;> exact hlo n a
  clear e27
  refine ry_putF ff_X12_50 rfl (by omega) hc0 rfl rfl (nlt rfl) dX12_init_114 ?_
  refine ry_cs (fun cs28 e28 => ?_)
  replace hc1 : cs28 270 = .inl (gY G 13, 2400, .inl (fun _ => 0)) := by rw [e28, va_up_ne _ _ (by omega)]; exact hc1
  replace hc2 : cs28 271 = .inl (gY G 14, 4, .inl (fun _ => 0)) := by rw [e28, va_up_ne _ _ (by omega)]; exact hc2
  replace hc3 : cs28 272 = .inl (gY G 14, 4, .inl (fun _ => 0)) := by rw [e28, va_up_ne _ _ (by omega)]; exact hc3
  replace hc4 : cs28 273 = .inl (gY G 14, 4, .inl (fun _ => 0)) := by rw [e28, va_up_ne _ _ (by omega)]; exact hc4
  replace hc5 : cs28 274 = .inl (gY G 14, 16, .inl (fun _ => 0)) := by rw [e28, va_up_ne _ _ (by omega)]; exact hc5
  replace hc6 : cs28 275 = .inl (gY G 14, 104, .inl (fun _ => 0)) := by rw [e28, va_up_ne _ _ (by omega)]; exact hc6
  replace hc7 : cs28 276 = .inl (gY G 14, 1072, .inl (fun _ => 0)) := by rw [e28, va_up_ne _ _ (by omega)]; exact hc7
  replace hc8 : cs28 277 = .inl (gY G 14, 968, .inl (fun _ => 0)) := by rw [e28, va_up_ne _ _ (by omega)]; exact hc8
  replace hc9 : cs28 278 = .inl (gY G 14, 136, .inl (fun _ => 0)) := by rw [e28, va_up_ne _ _ (by omega)]; exact hc9
  replace hc10 : cs28 279 = .inl (gY G 14, 134, .inl (fun _ => 0)) := by rw [e28, va_up_ne _ _ (by omega)]; exact hc10
  replace hc11 : cs28 280 = .inl (gY G 14, 3, .inl (fun _ => 0)) := by rw [e28, va_up_ne _ _ (by omega)]; exact hc11
  replace hc12 : cs28 281 = .inl (gY G 14, 10, .inl (fun _ => 0)) := by rw [e28, va_up_ne _ _ (by omega)]; exact hc12
  replace hc13 : cs28 282 = .inl (gY G 14, 10, .inl (fun _ => 0)) := by rw [e28, va_up_ne _ _ (by omega)]; exact hc13
  replace hc14 : cs28 283 = .inl (gY G 14, 10, .inl (fun _ => 0)) := by rw [e28, va_up_ne _ _ (by omega)]; exact hc14
  replace hc0 : cs28 269 = .inr (12, [.int 0, .ref (gA G 270), .ref (gA G 271), .ref (gA G 272), .ref (gA G 273), .ref (gA G 274), .ref (gA G 275), .ref (gA G 276), .ref (gA G 277), .ref (gA G 278), .int 0, .int 0, .int 0, .int 0, .int 0, .long 0, .int 0, .int 0, .int 0, .ref (gA G 279), .ref (gA G 280), .int 0, .int 0, .int 0, .int 0, .int 0, .int 0, .int 0, .int 0, .int 0, .int 0, .ref (gA G 281), .ref (gA G 282), .ref (gA G 283), .null, .null, .null, .null, .null, .null, .null, .null, .null, .null, .null, .null, .null, .null, .null, .null, .null, .null, .null, .null, .int 0, .int 0, .int 0, .int 0, .int 0, .int 0, .null, .null, .int 0, .int 0, .int 0, .int 0, .int 0, .null, .null, .int 0, .null, .int 0, .int 0, .null, .null, .null, .int 0, .int 0, .int 0, .int 0, .int 0, .int 0, .null, .int 0, .int 0, .int 0, .int 0, .int 0, .int 0, .int 0, .int 0, .null]) := by rw [e28]; exact va_up_self _ _ _
  replace hlo : ∀ n, n < 269 → cs28 n = cs n := fun n a => by rw [e28, va_up_ne _ _ (by omega)] <;> exact hlo n a
  clear e28
  refine ry_aload_n 0 dX12_init_117 rfl rfl ?_
  refine ry_bipush (v := 10) dX12_init_118 rfl ?_
  refine ry_newa (κ := 14) (n := 10) (atype := .int) (ty := .int) (t0 := 1) rfl wa_int rfl (fun _ _ => Iff.rfl) rfl (by decide) rfl (by decide) (Nat.le_of_ble_eq_true rfl) (Nat.le_of_ble_eq_true rfl) dX12_init_120 ?_
  refine ry_cs (fun cs29 e29 => ?_)
  replace hc0 : cs29 269 = .inr (12, [.int 0, .ref (gA G 270), .ref (gA G 271), .ref (gA G 272), .ref (gA G 273), .ref (gA G 274), .ref (gA G 275), .ref (gA G 276), .ref (gA G 277), .ref (gA G 278), .int 0, .int 0, .int 0, .int 0, .int 0, .long 0, .int 0, .int 0, .int 0, .ref (gA G 279), .ref (gA G 280), .int 0, .int 0, .int 0, .int 0, .int 0, .int 0, .int 0, .int 0, .int 0, .int 0, .ref (gA G 281), .ref (gA G 282), .ref (gA G 283), .null, .null, .null, .null, .null, .null, .null, .null, .null, .null, .null, .null, .null, .null, .null, .null, .null, .null, .null, .null, .int 0, .int 0, .int 0, .int 0, .int 0, .int 0, .null, .null, .int 0, .int 0, .int 0, .int 0, .int 0, .null, .null, .int 0, .null, .int 0, .int 0, .null, .null, .null, .int 0, .int 0, .int 0, .int 0, .int 0, .int 0, .null, .int 0, .int 0, .int 0, .int 0, .int 0, .int 0, .int 0, .int 0, .null]) := by rw [e29, va_up_ne _ _ (by omega)]; exact hc0
  replace hc1 : cs29 270 = .inl (gY G 13, 2400, .inl (fun _ => 0)) := by rw [e29, va_up_ne _ _ (by omega)]; exact hc1
  replace hc2 : cs29 271 = .inl (gY G 14, 4, .inl (fun _ => 0)) := by rw [e29, va_up_ne _ _ (by omega)]; exact hc2
  replace hc3 : cs29 272 = .inl (gY G 14, 4, .inl (fun _ => 0)) := by rw [e29, va_up_ne _ _ (by omega)]; exact hc3
  replace hc4 : cs29 273 = .inl (gY G 14, 4, .inl (fun _ => 0)) := by rw [e29, va_up_ne _ _ (by omega)]; exact hc4
  replace hc5 : cs29 274 = .inl (gY G 14, 16, .inl (fun _ => 0)) := by rw [e29, va_up_ne _ _ (by omega)]; exact hc5
  replace hc6 : cs29 275 = .inl (gY G 14, 104, .inl (fun _ => 0)) := by rw [e29, va_up_ne _ _ (by omega)]; exact hc6
  replace hc7 : cs29 276 = .inl (gY G 14, 1072, .inl (fun _ => 0)) := by rw [e29, va_up_ne _ _ (by omega)]; exact hc7
  replace hc8 : cs29 277 = .inl (gY G 14, 968, .inl (fun _ => 0)) := by rw [e29, va_up_ne _ _ (by omega)]; exact hc8
  replace hc9 : cs29 278 = .inl (gY G 14, 136, .inl (fun _ => 0)) := by rw [e29, va_up_ne _ _ (by omega)]; exact hc9
  replace hc10 : cs29 279 = .inl (gY G 14, 134, .inl (fun _ => 0)) := by rw [e29, va_up_ne _ _ (by omega)]; exact hc10
  replace hc11 : cs29 280 = .inl (gY G 14, 3, .inl (fun _ => 0)) := by rw [e29, va_up_ne _ _ (by omega)]; exact hc11
  replace hc12 : cs29 281 = .inl (gY G 14, 10, .inl (fun _ => 0)) := by rw [e29, va_up_ne _ _ (by omega)]; exact hc12
  replace hc13 : cs29 282 = .inl (gY G 14, 10, .inl (fun _ => 0)) := by rw [e29, va_up_ne _ _ (by omega)]; exact hc13
  replace hc14 : cs29 283 = .inl (gY G 14, 10, .inl (fun _ => 0)) := by rw [e29, va_up_ne _ _ (by omega)]; exact hc14
  have hc15 : cs29 284 = .inl (gY G 14, 10, .inl (fun _ => 0)) := by rw [e29]; exact va_up_self _ _ _
  replace hlo : ∀ n, n < 269 → cs29 n = cs n := fun n a => by rw [e29, va_up_ne _ _ (by omega)] <;> exact hlo n a
  clear e29
  refine ry_putF ff_X12_53 rfl (by omega) hc0 rfl rfl (nlt rfl) dX12_init_122 ?_
  refine ry_cs (fun cs30 e30 => ?_)
  replace hc1 : cs30 270 = .inl (gY G 13, 2400, .inl (fun _ => 0)) := by rw [e30, va_up_ne _ _ (by omega)]; exact hc1
  replace hc2 : cs30 271 = .inl (gY G 14, 4, .inl (fun _ => 0)) := by rw [e30, va_up_ne _ _ (by omega)]; exact hc2
  replace hc3 : cs30 272 = .inl (gY G 14, 4, .inl (fun _ => 0)) := by rw [e30, va_up_ne _ _ (by omega)]; exact hc3
  replace hc4 : cs30 273 = .inl (gY G 14, 4, .inl (fun _ => 0)) := by rw [e30, va_up_ne _ _ (by omega)]; exact hc4
  replace hc5 : cs30 274 = .inl (gY G 14, 16, .inl (fun _ => 0)) := by rw [e30, va_up_ne _ _ (by omega)]; exact hc5
  replace hc6 : cs30 275 = .inl (gY G 14, 104, .inl (fun _ => 0)) := by rw [e30, va_up_ne _ _ (by omega)]; exact hc6
  replace hc7 : cs30 276 = .inl (gY G 14, 1072, .inl (fun _ => 0)) := by rw [e30, va_up_ne _ _ (by omega)]; exact hc7
  replace hc8 : cs30 277 = .inl (gY G 14, 968, .inl (fun _ => 0)) := by rw [e30, va_up_ne _ _ (by omega)]; exact hc8
  replace hc9 : cs30 278 = .inl (gY G 14, 136, .inl (fun _ => 0)) := by rw [e30, va_up_ne _ _ (by omega)]; exact hc9
  replace hc10 : cs30 279 = .inl (gY G 14, 134, .inl (fun _ => 0)) := by rw [e30, va_up_ne _ _ (by omega)]; exact hc10
  replace hc11 : cs30 280 = .inl (gY G 14, 3, .inl (fun _ => 0)) := by rw [e30, va_up_ne _ _ (by omega)]; exact hc11
  replace hc12 : cs30 281 = .inl (gY G 14, 10, .inl (fun _ => 0)) := by rw [e30, va_up_ne _ _ (by omega)]; exact hc12
  replace hc13 : cs30 282 = .inl (gY G 14, 10, .inl (fun _ => 0)) := by rw [e30, va_up_ne _ _ (by omega)]; exact hc13
  replace hc14 : cs30 283 = .inl (gY G 14, 10, .inl (fun _ => 0)) := by rw [e30, va_up_ne _ _ (by omega)]; exact hc14
  replace hc15 : cs30 284 = .inl (gY G 14, 10, .inl (fun _ => 0)) := by rw [e30, va_up_ne _ _ (by omega)]; exact hc15
  replace hc0 : cs30 269 = .inr (12, [.int 0, .ref (gA G 270), .ref (gA G 271), .ref (gA G 272), .ref (gA G 273), .ref (gA G 274), .ref (gA G 275), .ref (gA G 276), .ref (gA G 277), .ref (gA G 278), .int 0, .int 0, .int 0, .int 0, .int 0, .long 0, .int 0, .int 0, .int 0, .ref (gA G 279), .ref (gA G 280), .int 0, .int 0, .int 0, .int 0, .int 0, .int 0, .int 0, .int 0, .int 0, .int 0, .ref (gA G 281), .ref (gA G 282), .ref (gA G 283), .ref (gA G 284), .null, .null, .null, .null, .null, .null, .null, .null, .null, .null, .null, .null, .null, .null, .null, .null, .null, .null, .null, .int 0, .int 0, .int 0, .int 0, .int 0, .int 0, .null, .null, .int 0, .int 0, .int 0, .int 0, .int 0, .null, .null, .int 0, .null, .int 0, .int 0, .null, .null, .null, .int 0, .int 0, .int 0, .int 0, .int 0, .int 0, .null, .int 0, .int 0, .int 0, .int 0, .int 0, .int 0, .int 0, .int 0, .null]) := by rw [e30]; exact va_up_self _ _ _
  replace hlo : ∀ n, n < 269 → cs30 n = cs n := fun n a => by rw [e30, va_up_ne _ _ (by omega)] <;> exact hlo n a
  clear e30
  refine ry_aload_n 0 dX12_init_125 rfl rfl ?_
  refine ry_bipush (v := 10) dX12_init_126 rfl ?_
  refine ry_newa (κ := 14) (n := 10) (atype := .int) (ty := .int) (t0 := 1) rfl wa_int rfl (fun _ _ => Iff.rfl) rfl (by decide) rfl (by decide) (Nat.le_of_ble_eq_true rfl) (Nat.le_of_ble_eq_true rfl) dX12_init_128 ?_
  refine ry_cs (fun cs31 e31 => ?_)
  replace hc0 : cs31 269 = .inr (12, [.int 0, .ref (gA G 270), .ref (gA G 271), .ref (gA G 272), .ref (gA G 273), .ref (gA G 274), .ref (gA G 275), .ref (gA G 276), .ref (gA G 277), .ref (gA G 278), .int 0, .int 0, .int 0, .int 0, .int 0, .long 0, .int 0, .int 0, .int 0, .ref (gA G 279), .ref (gA G 280), .int 0, .int 0, .int 0, .int 0, .int 0, .int 0, .int 0, .int 0, .int 0, .int 0, .ref (gA G 281), .ref (gA G 282), .ref (gA G 283), .ref (gA G 284), .null, .null, .null, .null, .null, .null, .null, .null, .null, .null, .null, .null, .null, .null, .null, .null, .null, .null, .null, .int 0, .int 0, .int 0, .int 0, .int 0, .int 0, .null, .null, .int 0, .int 0, .int 0, .int 0, .int 0, .null, .null, .int 0, .null, .int 0, .int 0, .null, .null, .null, .int 0, .int 0, .int 0, .int 0, .int 0, .int 0, .null, .int 0, .int 0, .int 0, .int 0, .int 0, .int 0, .int 0, .int 0, .null]) := by rw [e31, va_up_ne _ _ (by omega)]; exact hc0
  replace hc1 : cs31 270 = .inl (gY G 13, 2400, .inl (fun _ => 0)) := by rw [e31, va_up_ne _ _ (by omega)]; exact hc1
  replace hc2 : cs31 271 = .inl (gY G 14, 4, .inl (fun _ => 0)) := by rw [e31, va_up_ne _ _ (by omega)]; exact hc2
  replace hc3 : cs31 272 = .inl (gY G 14, 4, .inl (fun _ => 0)) := by rw [e31, va_up_ne _ _ (by omega)]; exact hc3
  replace hc4 : cs31 273 = .inl (gY G 14, 4, .inl (fun _ => 0)) := by rw [e31, va_up_ne _ _ (by omega)]; exact hc4
  replace hc5 : cs31 274 = .inl (gY G 14, 16, .inl (fun _ => 0)) := by rw [e31, va_up_ne _ _ (by omega)]; exact hc5
  replace hc6 : cs31 275 = .inl (gY G 14, 104, .inl (fun _ => 0)) := by rw [e31, va_up_ne _ _ (by omega)]; exact hc6
  replace hc7 : cs31 276 = .inl (gY G 14, 1072, .inl (fun _ => 0)) := by rw [e31, va_up_ne _ _ (by omega)]; exact hc7
  replace hc8 : cs31 277 = .inl (gY G 14, 968, .inl (fun _ => 0)) := by rw [e31, va_up_ne _ _ (by omega)]; exact hc8
  replace hc9 : cs31 278 = .inl (gY G 14, 136, .inl (fun _ => 0)) := by rw [e31, va_up_ne _ _ (by omega)]; exact hc9
  replace hc10 : cs31 279 = .inl (gY G 14, 134, .inl (fun _ => 0)) := by rw [e31, va_up_ne _ _ (by omega)]; exact hc10
  replace hc11 : cs31 280 = .inl (gY G 14, 3, .inl (fun _ => 0)) := by rw [e31, va_up_ne _ _ (by omega)]; exact hc11
  replace hc12 : cs31 281 = .inl (gY G 14, 10, .inl (fun _ => 0)) := by rw [e31, va_up_ne _ _ (by omega)]; exact hc12
  replace hc13 : cs31 282 = .inl (gY G 14, 10, .inl (fun _ => 0)) := by rw [e31, va_up_ne _ _ (by omega)]; exact hc13
  replace hc14 : cs31 283 = .inl (gY G 14, 10, .inl (fun _ => 0)) := by rw [e31, va_up_ne _ _ (by omega)]; exact hc14
  replace hc15 : cs31 284 = .inl (gY G 14, 10, .inl (fun _ => 0)) := by rw [e31, va_up_ne _ _ (by omega)]; exact hc15
  have hc16 : cs31 285 = .inl (gY G 14, 10, .inl (fun _ => 0)) := by rw [e31]; exact va_up_self _ _ _
  replace hlo : ∀ n, n < 269 → cs31 n = cs n := fun n a => by rw [e31, va_up_ne _ _ (by omega)] <;> exact hlo n a
  clear e31
  refine ry_putF ff_X12_56 rfl (by omega) hc0 rfl rfl (nlt rfl) dX12_init_130 ?_
  refine ry_cs (fun cs32 e32 => ?_)
  replace hc1 : cs32 270 = .inl (gY G 13, 2400, .inl (fun _ => 0)) := by rw [e32, va_up_ne _ _ (by omega)]; exact hc1
  replace hc2 : cs32 271 = .inl (gY G 14, 4, .inl (fun _ => 0)) := by rw [e32, va_up_ne _ _ (by omega)]; exact hc2
  replace hc3 : cs32 272 = .inl (gY G 14, 4, .inl (fun _ => 0)) := by rw [e32, va_up_ne _ _ (by omega)]; exact hc3
  replace hc4 : cs32 273 = .inl (gY G 14, 4, .inl (fun _ => 0)) := by rw [e32, va_up_ne _ _ (by omega)]; exact hc4
  replace hc5 : cs32 274 = .inl (gY G 14, 16, .inl (fun _ => 0)) := by rw [e32, va_up_ne _ _ (by omega)]; exact hc5
  replace hc6 : cs32 275 = .inl (gY G 14, 104, .inl (fun _ => 0)) := by rw [e32, va_up_ne _ _ (by omega)]; exact hc6
  replace hc7 : cs32 276 = .inl (gY G 14, 1072, .inl (fun _ => 0)) := by rw [e32, va_up_ne _ _ (by omega)]; exact hc7
  replace hc8 : cs32 277 = .inl (gY G 14, 968, .inl (fun _ => 0)) := by rw [e32, va_up_ne _ _ (by omega)]; exact hc8
  replace hc9 : cs32 278 = .inl (gY G 14, 136, .inl (fun _ => 0)) := by rw [e32, va_up_ne _ _ (by omega)]; exact hc9
  replace hc10 : cs32 279 = .inl (gY G 14, 134, .inl (fun _ => 0)) := by rw [e32, va_up_ne _ _ (by omega)]; exact hc10
  replace hc11 : cs32 280 = .inl (gY G 14, 3, .inl (fun _ => 0)) := by rw [e32, va_up_ne _ _ (by omega)]; exact hc11
  replace hc12 : cs32 281 = .inl (gY G 14, 10, .inl (fun _ => 0)) := by rw [e32, va_up_ne _ _ (by omega)]; exact hc12
  replace hc13 : cs32 282 = .inl (gY G 14, 10, .inl (fun _ => 0)) := by rw [e32, va_up_ne _ _ (by omega)]; exact hc13
  replace hc14 : cs32 283 = .inl (gY G 14, 10, .inl (fun _ => 0)) := by rw [e32, va_up_ne _ _ (by omega)]; exact hc14
  replace hc15 : cs32 284 = .inl (gY G 14, 10, .inl (fun _ => 0)) := by rw [e32, va_up_ne _ _ (by omega)]; exact hc15
  replace hc16 : cs32 285 = .inl (gY G 14, 10, .inl (fun _ => 0)) := by rw [e32, va_up_ne _ _ (by omega)]; exact hc16
  replace hc0 : cs32 269 = .inr (12, [.int 0, .ref (gA G 270), .ref (gA G 271), .ref (gA G 272), .ref (gA G 273), .ref (gA G 274), .ref (gA G 275), .ref (gA G 276), .ref (gA G 277), .ref (gA G 278), .int 0, .int 0, .int 0, .int 0, .int 0, .long 0, .int 0, .int 0, .int 0, .ref (gA G 279), .ref (gA G 280), .int 0, .int 0, .int 0, .int 0, .int 0, .int 0, .int 0, .int 0, .int 0, .int 0, .ref (gA G 281), .ref (gA G 282), .ref (gA G 283), .ref (gA G 284), .ref (gA G 285), .null, .null, .null, .null, .null, .null, .null, .null, .null, .null, .null, .null, .null, .null, .null, .null, .null, .null, .int 0, .int 0, .int 0, .int 0, .int 0, .int 0, .null, .null, .int 0, .int 0, .int 0, .int 0, .int 0, .null, .null, .int 0, .null, .int 0, .int 0, .null, .null, .null, .int 0, .int 0, .int 0, .int 0, .int 0, .int 0, .null, .int 0, .int 0, .int 0, .int 0, .int 0, .int 0, .int 0, .int 0, .null]) := by rw [e32]; exact va_up_self _ _ _
  replace hlo : ∀ n, n < 269 → cs32 n = cs n := fun n a => by rw [e32, va_up_ne _ _ (by omega)] <;> exact hlo n a
  clear e32
  refine ry_aload_n 0 dX12_init_133 rfl rfl ?_
  refine ry_iconst (v := 4) dX12_init_134 rfl ?_
  refine ry_newa (κ := 14) (n := 4) (atype := .int) (ty := .int) (t0 := 1) rfl wa_int rfl (fun _ _ => Iff.rfl) rfl (by decide) rfl (by decide) (Nat.le_of_ble_eq_true rfl) (Nat.le_of_ble_eq_true rfl) dX12_init_135 ?_
  refine ry_cs (fun cs33 e33 => ?_)
  replace hc0 : cs33 269 = .inr (12, [.int 0, .ref (gA G 270), .ref (gA G 271), .ref (gA G 272), .ref (gA G 273), .ref (gA G 274), .ref (gA G 275), .ref (gA G 276), .ref (gA G 277), .ref (gA G 278), .int 0, .int 0, .int 0, .int 0, .int 0, .long 0, .int 0, .int 0, .int 0, .ref (gA G 279), .ref (gA G 280), .int 0, .int 0, .int 0, .int 0, .int 0, .int 0, .int 0, .int 0, .int 0, .int 0, .ref (gA G 281), .ref (gA G 282), .ref (gA G 283), .ref (gA G 284), .ref (gA G 285), .null, .null, .null, .null, .null, .null, .null, .null, .null, .null, .null, .null, .null, .null, .null, .null, .null, .null, .int 0, .int 0, .int 0, .int 0, .int 0, .int 0, .null, .null, .int 0, .int 0, .int 0, .int 0, .int 0, .null, .null, .int 0, .null, .int 0, .int 0, .null, .null, .null, .int 0, .int 0, .int 0, .int 0, .int 0, .int 0, .null, .int 0, .int 0, .int 0, .int 0, .int 0, .int 0, .int 0, .int 0, .null]) := by rw [e33, va_up_ne _ _ (by omega)]; exact hc0
  replace hc1 : cs33 270 = .inl (gY G 13, 2400, .inl (fun _ => 0)) := by rw [e33, va_up_ne _ _ (by omega)]; exact hc1
  replace hc2 : cs33 271 = .inl (gY G 14, 4, .inl (fun _ => 0)) := by rw [e33, va_up_ne _ _ (by omega)]; exact hc2
  replace hc3 : cs33 272 = .inl (gY G 14, 4, .inl (fun _ => 0)) := by rw [e33, va_up_ne _ _ (by omega)]; exact hc3
  replace hc4 : cs33 273 = .inl (gY G 14, 4, .inl (fun _ => 0)) := by rw [e33, va_up_ne _ _ (by omega)]; exact hc4
  replace hc5 : cs33 274 = .inl (gY G 14, 16, .inl (fun _ => 0)) := by rw [e33, va_up_ne _ _ (by omega)]; exact hc5
  replace hc6 : cs33 275 = .inl (gY G 14, 104, .inl (fun _ => 0)) := by rw [e33, va_up_ne _ _ (by omega)]; exact hc6
  replace hc7 : cs33 276 = .inl (gY G 14, 1072, .inl (fun _ => 0)) := by rw [e33, va_up_ne _ _ (by omega)]; exact hc7
  replace hc8 : cs33 277 = .inl (gY G 14, 968, .inl (fun _ => 0)) := by rw [e33, va_up_ne _ _ (by omega)]; exact hc8
  replace hc9 : cs33 278 = .inl (gY G 14, 136, .inl (fun _ => 0)) := by rw [e33, va_up_ne _ _ (by omega)]; exact hc9
  replace hc10 : cs33 279 = .inl (gY G 14, 134, .inl (fun _ => 0)) := by rw [e33, va_up_ne _ _ (by omega)]; exact hc10
  replace hc11 : cs33 280 = .inl (gY G 14, 3, .inl (fun _ => 0)) := by rw [e33, va_up_ne _ _ (by omega)]; exact hc11
  replace hc12 : cs33 281 = .inl (gY G 14, 10, .inl (fun _ => 0)) := by rw [e33, va_up_ne _ _ (by omega)]; exact hc12
  replace hc13 : cs33 282 = .inl (gY G 14, 10, .inl (fun _ => 0)) := by rw [e33, va_up_ne _ _ (by omega)]; exact hc13
  replace hc14 : cs33 283 = .inl (gY G 14, 10, .inl (fun _ => 0)) := by rw [e33, va_up_ne _ _ (by omega)]; exact hc14
  replace hc15 : cs33 284 = .inl (gY G 14, 10, .inl (fun _ => 0)) := by rw [e33, va_up_ne _ _ (by omega)]; exact hc15
  replace hc16 : cs33 285 = .inl (gY G 14, 10, .inl (fun _ => 0)) := by rw [e33, va_up_ne _ _ (by omega)]; exact hc16
  have hc17 : cs33 286 = .inl (gY G 14, 4, .inl (fun _ => 0)) := by rw [e33]; exact va_up_self _ _ _
  replace hlo : ∀ n, n < 269 → cs33 n = cs n := fun n a => by rw [e33, va_up_ne _ _ (by omega)] <;> exact hlo n a
  clear e33
  refine ry_putF ff_X12_59 rfl (by omega) hc0 rfl rfl (nlt rfl) dX12_init_137 ?_
  refine ry_cs (fun cs34 e34 => ?_)
  replace hc1 : cs34 270 = .inl (gY G 13, 2400, .inl (fun _ => 0)) := by rw [e34, va_up_ne _ _ (by omega)]; exact hc1
  replace hc2 : cs34 271 = .inl (gY G 14, 4, .inl (fun _ => 0)) := by rw [e34, va_up_ne _ _ (by omega)]; exact hc2
  replace hc3 : cs34 272 = .inl (gY G 14, 4, .inl (fun _ => 0)) := by rw [e34, va_up_ne _ _ (by omega)]; exact hc3
  replace hc4 : cs34 273 = .inl (gY G 14, 4, .inl (fun _ => 0)) := by rw [e34, va_up_ne _ _ (by omega)]; exact hc4
  replace hc5 : cs34 274 = .inl (gY G 14, 16, .inl (fun _ => 0)) := by rw [e34, va_up_ne _ _ (by omega)]; exact hc5
  replace hc6 : cs34 275 = .inl (gY G 14, 104, .inl (fun _ => 0)) := by rw [e34, va_up_ne _ _ (by omega)]; exact hc6
  replace hc7 : cs34 276 = .inl (gY G 14, 1072, .inl (fun _ => 0)) := by rw [e34, va_up_ne _ _ (by omega)]; exact hc7
  replace hc8 : cs34 277 = .inl (gY G 14, 968, .inl (fun _ => 0)) := by rw [e34, va_up_ne _ _ (by omega)]; exact hc8
  replace hc9 : cs34 278 = .inl (gY G 14, 136, .inl (fun _ => 0)) := by rw [e34, va_up_ne _ _ (by omega)]; exact hc9
  replace hc10 : cs34 279 = .inl (gY G 14, 134, .inl (fun _ => 0)) := by rw [e34, va_up_ne _ _ (by omega)]; exact hc10
  replace hc11 : cs34 280 = .inl (gY G 14, 3, .inl (fun _ => 0)) := by rw [e34, va_up_ne _ _ (by omega)]; exact hc11
  replace hc12 : cs34 281 = .inl (gY G 14, 10, .inl (fun _ => 0)) := by rw [e34, va_up_ne _ _ (by omega)]; exact hc12
  replace hc13 : cs34 282 = .inl (gY G 14, 10, .inl (fun _ => 0)) := by rw [e34, va_up_ne _ _ (by omega)]; exact hc13
  replace hc14 : cs34 283 = .inl (gY G 14, 10, .inl (fun _ => 0)) := by rw [e34, va_up_ne _ _ (by omega)]; exact hc14
  replace hc15 : cs34 284 = .inl (gY G 14, 10, .inl (fun _ => 0)) := by rw [e34, va_up_ne _ _ (by omega)]; exact hc15
  replace hc16 : cs34 285 = .inl (gY G 14, 10, .inl (fun _ => 0)) := by rw [e34, va_up_ne _ _ (by omega)]; exact hc16
  replace hc17 : cs34 286 = .inl (gY G 14, 4, .inl (fun _ => 0)) := by rw [e34, va_up_ne _ _ (by omega)]; exact hc17
  replace hc0 : cs34 269 = .inr (12, [.int 0, .ref (gA G 270), .ref (gA G 271), .ref (gA G 272), .ref (gA G 273), .ref (gA G 274), .ref (gA G 275), .ref (gA G 276), .ref (gA G 277), .ref (gA G 278), .int 0, .int 0, .int 0, .int 0, .int 0, .long 0, .int 0, .int 0, .int 0, .ref (gA G 279), .ref (gA G 280), .int 0, .int 0, .int 0, .int 0, .int 0, .int 0, .int 0, .int 0, .int 0, .int 0, .ref (gA G 281), .ref (gA G 282), .ref (gA G 283), .ref (gA G 284), .ref (gA G 285), .ref (gA G 286), .null, .null, .null, .null, .null, .null, .null, .null, .null, .null, .null, .null, .null, .null, .null, .null, .null, .int 0, .int 0, .int 0, .int 0, .int 0, .int 0, .null, .null, .int 0, .int 0, .int 0, .int 0, .int 0, .null, .null, .int 0, .null, .int 0, .int 0, .null, .null, .null, .int 0, .int 0, .int 0, .int 0, .int 0, .int 0, .null, .int 0, .int 0, .int 0, .int 0, .int 0, .int 0, .int 0, .int 0, .null]) := by rw [e34]; exact va_up_self _ _ _
  replace hlo : ∀ n, n < 269 → cs34 n = cs n := fun n a => by rw [e34, va_up_ne _ _ (by omega)] <;> exact hlo n a
  clear e34
  refine ry_aload_n 0 dX12_init_140 rfl rfl ?_
  refine ry_iconst (v := 4) dX12_init_141 rfl ?_
  refine ry_newa (κ := 14) (n := 4) (atype := .int) (ty := .int) (t0 := 1) rfl wa_int rfl (fun _ _ => Iff.rfl) rfl (by decide) rfl (by decide) (Nat.le_of_ble_eq_true rfl) (Nat.le_of_ble_eq_true rfl) dX12_init_142 ?_
  refine ry_cs (fun cs35 e35 => ?_)
  replace hc0 : cs35 269 = .inr (12, [.int 0, .ref (gA G 270), .ref (gA G 271), .ref (gA G 272), .ref (gA G 273), .ref (gA G 274), .ref (gA G 275), .ref (gA G 276), .ref (gA G 277), .ref (gA G 278), .int 0, .int 0, .int 0, .int 0, .int 0, .long 0, .int 0, .int 0, .int 0, .ref (gA G 279), .ref (gA G 280), .int 0, .int 0, .int 0, .int 0, .int 0, .int 0, .int 0, .int 0, .int 0, .int 0, .ref (gA G 281), .ref (gA G 282), .ref (gA G 283), .ref (gA G 284), .ref (gA G 285), .ref (gA G 286), .null, .null, .null, .null, .null, .null, .null, .null, .null, .null, .null, .null, .null, .null, .null, .null, .null, .int 0, .int 0, .int 0, .int 0, .int 0, .int 0, .null, .null, .int 0, .int 0, .int 0, .int 0, .int 0, .null, .null, .int 0, .null, .int 0, .int 0, .null, .null, .null, .int 0, .int 0, .int 0, .int 0, .int 0, .int 0, .null, .int 0, .int 0, .int 0, .int 0, .int 0, .int 0, .int 0, .int 0, .null]) := by rw [e35, va_up_ne _ _ (by omega)]; exact hc0
  replace hc1 : cs35 270 = .inl (gY G 13, 2400, .inl (fun _ => 0)) := by rw [e35, va_up_ne _ _ (by omega)]; exact hc1
  replace hc2 : cs35 271 = .inl (gY G 14, 4, .inl (fun _ => 0)) := by rw [e35, va_up_ne _ _ (by omega)]; exact hc2
  replace hc3 : cs35 272 = .inl (gY G 14, 4, .inl (fun _ => 0)) := by rw [e35, va_up_ne _ _ (by omega)]; exact hc3
  replace hc4 : cs35 273 = .inl (gY G 14, 4, .inl (fun _ => 0)) := by rw [e35, va_up_ne _ _ (by omega)]; exact hc4
  replace hc5 : cs35 274 = .inl (gY G 14, 16, .inl (fun _ => 0)) := by rw [e35, va_up_ne _ _ (by omega)]; exact hc5
  replace hc6 : cs35 275 = .inl (gY G 14, 104, .inl (fun _ => 0)) := by rw [e35, va_up_ne _ _ (by omega)]; exact hc6
  replace hc7 : cs35 276 = .inl (gY G 14, 1072, .inl (fun _ => 0)) := by rw [e35, va_up_ne _ _ (by omega)]; exact hc7
  replace hc8 : cs35 277 = .inl (gY G 14, 968, .inl (fun _ => 0)) := by rw [e35, va_up_ne _ _ (by omega)]; exact hc8
  replace hc9 : cs35 278 = .inl (gY G 14, 136, .inl (fun _ => 0)) := by rw [e35, va_up_ne _ _ (by omega)]; exact hc9
  replace hc10 : cs35 279 = .inl (gY G 14, 134, .inl (fun _ => 0)) := by rw [e35, va_up_ne _ _ (by omega)]; exact hc10
  replace hc11 : cs35 280 = .inl (gY G 14, 3, .inl (fun _ => 0)) := by rw [e35, va_up_ne _ _ (by omega)]; exact hc11
  replace hc12 : cs35 281 = .inl (gY G 14, 10, .inl (fun _ => 0)) := by rw [e35, va_up_ne _ _ (by omega)]; exact hc12
  replace hc13 : cs35 282 = .inl (gY G 14, 10, .inl (fun _ => 0)) := by rw [e35, va_up_ne _ _ (by omega)]; exact hc13
  replace hc14 : cs35 283 = .inl (gY G 14, 10, .inl (fun _ => 0)) := by rw [e35, va_up_ne _ _ (by omega)]; exact hc14
  replace hc15 : cs35 284 = .inl (gY G 14, 10, .inl (fun _ => 0)) := by rw [e35, va_up_ne _ _ (by omega)]; exact hc15
  replace hc16 : cs35 285 = .inl (gY G 14, 10, .inl (fun _ => 0)) := by rw [e35, va_up_ne _ _ (by omega)]; exact hc16
  replace hc17 : cs35 286 = .inl (gY G 14, 4, .inl (fun _ => 0)) := by rw [e35, va_up_ne _ _ (by omega)]; exact hc17
  have hc18 : cs35 287 = .inl (gY G 14, 4, .inl (fun _ => 0)) := by rw [e35]; exact va_up_self _ _ _
  replace hlo : ∀ n, n < 269 → cs35 n = cs n := fun n a => by rw [e35, va_up_ne _ _ (by omega)] <;> exact hlo n a
  clear e35
  refine ry_putF ff_X12_62 rfl (by omega) hc0 rfl rfl (nlt rfl) dX12_init_144 ?_
  refine ry_cs (fun cs36 e36 => ?_)
  replace hc1 : cs36 270 = .inl (gY G 13, 2400, .inl (fun _ => 0)) := by rw [e36, va_up_ne _ _ (by omega)]; exact hc1
  replace hc2 : cs36 271 = .inl (gY G 14, 4, .inl (fun _ => 0)) := by rw [e36, va_up_ne _ _ (by omega)]; exact hc2
  replace hc3 : cs36 272 = .inl (gY G 14, 4, .inl (fun _ => 0)) := by rw [e36, va_up_ne _ _ (by omega)]; exact hc3
  replace hc4 : cs36 273 = .inl (gY G 14, 4, .inl (fun _ => 0)) := by rw [e36, va_up_ne _ _ (by omega)]; exact hc4
  replace hc5 : cs36 274 = .inl (gY G 14, 16, .inl (fun _ => 0)) := by rw [e36, va_up_ne _ _ (by omega)]; exact hc5
  replace hc6 : cs36 275 = .inl (gY G 14, 104, .inl (fun _ => 0)) := by rw [e36, va_up_ne _ _ (by omega)]; exact hc6
  replace hc7 : cs36 276 = .inl (gY G 14, 1072, .inl (fun _ => 0)) := by rw [e36, va_up_ne _ _ (by omega)]; exact hc7
  replace hc8 : cs36 277 = .inl (gY G 14, 968, .inl (fun _ => 0)) := by rw [e36, va_up_ne _ _ (by omega)]; exact hc8
  replace hc9 : cs36 278 = .inl (gY G 14, 136, .inl (fun _ => 0)) := by rw [e36, va_up_ne _ _ (by omega)]; exact hc9
  replace hc10 : cs36 279 = .inl (gY G 14, 134, .inl (fun _ => 0)) := by rw [e36, va_up_ne _ _ (by omega)]; exact hc10
  replace hc11 : cs36 280 = .inl (gY G 14, 3, .inl (fun _ => 0)) := by rw [e36, va_up_ne _ _ (by omega)]; exact hc11
  replace hc12 : cs36 281 = .inl (gY G 14, 10, .inl (fun _ => 0)) := by rw [e36, va_up_ne _ _ (by omega)]; exact hc12
  replace hc13 : cs36 282 = .inl (gY G 14, 10, .inl (fun _ => 0)) := by rw [e36, va_up_ne _ _ (by omega)]; exact hc13
  replace hc14 : cs36 283 = .inl (gY G 14, 10, .inl (fun _ => 0)) := by rw [e36, va_up_ne _ _ (by omega)]; exact hc14
  replace hc15 : cs36 284 = .inl (gY G 14, 10, .inl (fun _ => 0)) := by rw [e36, va_up_ne _ _ (by omega)]; exact hc15
  replace hc16 : cs36 285 = .inl (gY G 14, 10, .inl (fun _ => 0)) := by rw [e36, va_up_ne _ _ (by omega)]; exact hc16
  replace hc17 : cs36 286 = .inl (gY G 14, 4, .inl (fun _ => 0)) := by rw [e36, va_up_ne _ _ (by omega)]; exact hc17
  replace hc18 : cs36 287 = .inl (gY G 14, 4, .inl (fun _ => 0)) := by rw [e36, va_up_ne _ _ (by omega)]; exact hc18
  replace hc0 : cs36 269 = .inr (12, [.int 0, .ref (gA G 270), .ref (gA G 271), .ref (gA G 272), .ref (gA G 273), .ref (gA G 274), .ref (gA G 275), .ref (gA G 276), .ref (gA G 277), .ref (gA G 278), .int 0, .int 0, .int 0, .int 0, .int 0, .long 0, .int 0, .int 0, .int 0, .ref (gA G 279), .ref (gA G 280), .int 0, .int 0, .int 0, .int 0, .int 0, .int 0, .int 0, .int 0, .int 0, .int 0, .ref (gA G 281), .ref (gA G 282), .ref (gA G 283), .ref (gA G 284), .ref (gA G 285), .ref (gA G 286), .ref (gA G 287), .null, .null, .null, .null, .null, .null, .null, .null, .null, .null, .null, .null, .null, .null, .null, .null, .int 0, .int 0, .int 0, .int 0, .int 0, .int 0, .null, .null, .int 0, .int 0, .int 0, .int 0, .int 0, .null, .null, .int 0, .null, .int 0, .int 0, .null, .null, .null, .int 0, .int 0, .int 0, .int 0, .int 0, .int 0, .null, .int 0, .int 0, .int 0, .int 0, .int 0, .int 0, .int 0, .int 0, .null]) := by rw [e36]; exact va_up_self _ _ _
  replace hlo : ∀ n, n < 269 → cs36 n = cs n := fun n a => by rw [e36, va_up_ne _ _ (by omega)] <;> exact hlo n a
  clear e36
  refine ry_aload_n 0 dX12_init_147 rfl rfl ?_
  refine ry_iconst (v := 4) dX12_init_148 rfl ?_
  refine ry_newa (κ := 14) (n := 4) (atype := .int) (ty := .int) (t0 := 1) rfl wa_int rfl (fun _ _ => Iff.rfl) rfl (by decide) rfl (by decide) (Nat.le_of_ble_eq_true rfl) (Nat.le_of_ble_eq_true rfl) dX12_init_149 ?_
  refine ry_cs (fun cs37 e37 => ?_)
  replace hc0 : cs37 269 = .inr (12, [.int 0, .ref (gA G 270), .ref (gA G 271), .ref (gA G 272), .ref (gA G 273), .ref (gA G 274), .ref (gA G 275), .ref (gA G 276), .ref (gA G 277), .ref (gA G 278), .int 0, .int 0, .int 0, .int 0, .int 0, .long 0, .int 0, .int 0, .int 0, .ref (gA G 279), .ref (gA G 280), .int 0, .int 0, .int 0, .int 0, .int 0, .int 0, .int 0, .int 0, .int 0, .int 0, .ref (gA G 281), .ref (gA G 282), .ref (gA G 283), .ref (gA G 284), .ref (gA G 285), .ref (gA G 286), .ref (gA G 287), .null, .null, .null, .null, .null, .null, .null, .null, .null, .null, .null, .null, .null, .null, .null, .null, .int 0, .int 0, .int 0, .int 0, .int 0, .int 0, .null, .null, .int 0, .int 0, .int 0, .int 0, .int 0, .null, .null, .int 0, .null, .int 0, .int 0, .null, .null, .null, .int 0, .int 0, .int 0, .int 0, .int 0, .int 0, .null, .int 0, .int 0, .int 0, .int 0, .int 0, .int 0, .int 0, .int 0, .null]) := by rw [e37, va_up_ne _ _ (by omega)]; exact hc0
  replace hc1 : cs37 270 = .inl (gY G 13, 2400, .inl (fun _ => 0)) := by rw [e37, va_up_ne _ _ (by omega)]; exact hc1
  replace hc2 : cs37 271 = .inl (gY G 14, 4, .inl (fun _ => 0)) := by rw [e37, va_up_ne _ _ (by omega)]; exact hc2
  replace hc3 : cs37 272 = .inl (gY G 14, 4, .inl (fun _ => 0)) := by rw [e37, va_up_ne _ _ (by omega)]; exact hc3
  replace hc4 : cs37 273 = .inl (gY G 14, 4, .inl (fun _ => 0)) := by rw [e37, va_up_ne _ _ (by omega)]; exact hc4
  replace hc5 : cs37 274 = .inl (gY G 14, 16, .inl (fun _ => 0)) := by rw [e37, va_up_ne _ _ (by omega)]; exact hc5
  replace hc6 : cs37 275 = .inl (gY G 14, 104, .inl (fun _ => 0)) := by rw [e37, va_up_ne _ _ (by omega)]; exact hc6
  replace hc7 : cs37 276 = .inl (gY G 14, 1072, .inl (fun _ => 0)) := by rw [e37, va_up_ne _ _ (by omega)]; exact hc7
  replace hc8 : cs37 277 = .inl (gY G 14, 968, .inl (fun _ => 0)) := by rw [e37, va_up_ne _ _ (by omega)]; exact hc8
  replace hc9 : cs37 278 = .inl (gY G 14, 136, .inl (fun _ => 0)) := by rw [e37, va_up_ne _ _ (by omega)]; exact hc9
  replace hc10 : cs37 279 = .inl (gY G 14, 134, .inl (fun _ => 0)) := by rw [e37, va_up_ne _ _ (by omega)]; exact hc10
  replace hc11 : cs37 280 = .inl (gY G 14, 3, .inl (fun _ => 0)) := by rw [e37, va_up_ne _ _ (by omega)]; exact hc11
  replace hc12 : cs37 281 = .inl (gY G 14, 10, .inl (fun _ => 0)) := by rw [e37, va_up_ne _ _ (by omega)]; exact hc12
  replace hc13 : cs37 282 = .inl (gY G 14, 10, .inl (fun _ => 0)) := by rw [e37, va_up_ne _ _ (by omega)]; exact hc13
  replace hc14 : cs37 283 = .inl (gY G 14, 10, .inl (fun _ => 0)) := by rw [e37, va_up_ne _ _ (by omega)]; exact hc14
  replace hc15 : cs37 284 = .inl (gY G 14, 10, .inl (fun _ => 0)) := by rw [e37, va_up_ne _ _ (by omega)]; exact hc15
  replace hc16 : cs37 285 = .inl (gY G 14, 10, .inl (fun _ => 0)) := by rw [e37, va_up_ne _ _ (by omega)]; exact hc16
  replace hc17 : cs37 286 = .inl (gY G 14, 4, .inl (fun _ => 0)) := by rw [e37, va_up_ne _ _ (by omega)]; exact hc17
  replace hc18 : cs37 287 = .inl (gY G 14, 4, .inl (fun _ => 0)) := by rw [e37, va_up_ne _ _ (by omega)]; exact hc18
  have hc19 : cs37 288 = .inl (gY G 14, 4, .inl (fun _ => 0)) := by rw [e37]; exact va_up_self _ _ _
  replace hlo : ∀ n, n < 269 → cs37 n = cs n := fun n a => by rw [e37, va_up_ne _ _ (by omega)] <;> exact hlo n a
  clear e37
  refine ry_putF ff_X12_65 rfl (by omega) hc0 rfl rfl (nlt rfl) dX12_init_151 ?_
  refine ry_cs (fun cs38 e38 => ?_)
  replace hc1 : cs38 270 = .inl (gY G 13, 2400, .inl (fun _ => 0)) := by rw [e38, va_up_ne _ _ (by omega)]; exact hc1
  replace hc2 : cs38 271 = .inl (gY G 14, 4, .inl (fun _ => 0)) := by rw [e38, va_up_ne _ _ (by omega)]; exact hc2
  replace hc3 : cs38 272 = .inl (gY G 14, 4, .inl (fun _ => 0)) := by rw [e38, va_up_ne _ _ (by omega)]; exact hc3
  replace hc4 : cs38 273 = .inl (gY G 14, 4, .inl (fun _ => 0)) := by rw [e38, va_up_ne _ _ (by omega)]; exact hc4
  replace hc5 : cs38 274 = .inl (gY G 14, 16, .inl (fun _ => 0)) := by rw [e38, va_up_ne _ _ (by omega)]; exact hc5
  replace hc6 : cs38 275 = .inl (gY G 14, 104, .inl (fun _ => 0)) := by rw [e38, va_up_ne _ _ (by omega)]; exact hc6
  replace hc7 : cs38 276 = .inl (gY G 14, 1072, .inl (fun _ => 0)) := by rw [e38, va_up_ne _ _ (by omega)]; exact hc7
  replace hc8 : cs38 277 = .inl (gY G 14, 968, .inl (fun _ => 0)) := by rw [e38, va_up_ne _ _ (by omega)]; exact hc8
  replace hc9 : cs38 278 = .inl (gY G 14, 136, .inl (fun _ => 0)) := by rw [e38, va_up_ne _ _ (by omega)]; exact hc9
  replace hc10 : cs38 279 = .inl (gY G 14, 134, .inl (fun _ => 0)) := by rw [e38, va_up_ne _ _ (by omega)]; exact hc10
  replace hc11 : cs38 280 = .inl (gY G 14, 3, .inl (fun _ => 0)) := by rw [e38, va_up_ne _ _ (by omega)]; exact hc11
  replace hc12 : cs38 281 = .inl (gY G 14, 10, .inl (fun _ => 0)) := by rw [e38, va_up_ne _ _ (by omega)]; exact hc12
  replace hc13 : cs38 282 = .inl (gY G 14, 10, .inl (fun _ => 0)) := by rw [e38, va_up_ne _ _ (by omega)]; exact hc13
  replace hc14 : cs38 283 = .inl (gY G 14, 10, .inl (fun _ => 0)) := by rw [e38, va_up_ne _ _ (by omega)]; exact hc14
  replace hc15 : cs38 284 = .inl (gY G 14, 10, .inl (fun _ => 0)) := by rw [e38, va_up_ne _ _ (by omega)]; exact hc15
  replace hc16 : cs38 285 = .inl (gY G 14, 10, .inl (fun _ => 0)) := by rw [e38, va_up_ne _ _ (by omega)]; exact hc16
  replace hc17 : cs38 286 = .inl (gY G 14, 4, .inl (fun _ => 0)) := by rw [e38, va_up_ne _ _ (by omega)]; exact hc17
  replace hc18 : cs38 287 = .inl (gY G 14, 4, .inl (fun _ => 0)) := by rw [e38, va_up_ne _ _ (by omega)]; exact hc18
  replace hc19 : cs38 288 = .inl (gY G 14, 4, .inl (fun _ => 0)) := by rw [e38, va_up_ne _ _ (by omega)]; exact hc19
  replace hc0 : cs38 269 = .inr (12, [.int 0, .ref (gA G 270), .ref (gA G 271), .ref (gA G 272), .ref (gA G 273), .ref (gA G 274), .ref (gA G 275), .ref (gA G 276), .ref (gA G 277), .ref (gA G 278), .int 0, .int 0, .int 0, .int 0, .int 0, .long 0, .int 0, .int 0, .int 0, .ref (gA G 279), .ref (gA G 280), .int 0, .int 0, .int 0, .int 0, .int 0, .int 0, .int 0, .int 0, .int 0, .int 0, .ref (gA G 281), .ref (gA G 282), .ref (gA G 283), .ref (gA G 284), .ref (gA G 285), .ref (gA G 286), .ref (gA G 287), .ref (gA G 288), .null, .null, .null, .null, .null, .null, .null, .null, .null, .null, .null, .null, .null, .null, .null, .int 0, .int 0, .int 0, .int 0, .int 0, .int 0, .null, .null, .int 0, .int 0, .int 0, .int 0, .int 0, .null, .null, .int 0, .null, .int 0, .int 0, .null, .null, .null, .int 0, .int 0, .int 0, .int 0, .int 0, .int 0, .null, .int 0, .int 0, .int 0, .int 0, .int 0, .int 0, .int 0, .int 0, .null]) := by rw [e38]; exact va_up_self _ _ _
  replace hlo : ∀ n, n < 269 → cs38 n = cs n := fun n a => by rw [e38, va_up_ne _ _ (by omega)] <;> exact hlo n a
  clear e38
  refine ry_aload_n 0 dX12_init_154 rfl rfl ?_
  refine ry_iconst (v := 4) dX12_init_155 rfl ?_
  refine ry_newa (κ := 14) (n := 4) (atype := .int) (ty := .int) (t0 := 1) rfl wa_int rfl (fun _ _ => Iff.rfl) rfl (by decide) rfl (by decide) (Nat.le_of_ble_eq_true rfl) (Nat.le_of_ble_eq_true rfl) dX12_init_156 ?_
  refine ry_cs (fun cs39 e39 => ?_)
  replace hc0 : cs39 269 = .inr (12, [.int 0, .ref (gA G 270), .ref (gA G 271), .ref (gA G 272), .ref (gA G 273), .ref (gA G 274), .ref (gA G 275), .ref (gA G 276), .ref (gA G 277), .ref (gA G 278), .int 0, .int 0, .int 0, .int 0, .int 0, .long 0, .int 0, .int 0, .int 0, .ref (gA G 279), .ref (gA G 280), .int 0, .int 0, .int 0, .int 0, .int 0, .int 0, .int 0, .int 0, .int 0, .int 0, .ref (gA G 281), .ref (gA G 282), .ref (gA G 283), .ref (gA G 284), .ref (gA G 285), .ref (gA G 286), .ref (gA G 287), .ref (gA G 288), .null, .null, .null, .null, .null, .null, .null, .null, .null, .null, .null, .null, .null, .null, .null, .int 0, .int 0, .int 0, .int 0, .int 0, .int 0, .null, .null, .int 0, .int 0, .int 0, .int 0, .int 0, .null, .null, .int 0, .null, .int 0, .int 0, .null, .null, .null, .int 0, .int 0, .int 0, .int 0, .int 0, .int 0, .null, .int 0, .int 0, .int 0, .int 0, .int 0, .int 0, .int 0, .int 0, .null]) := by rw [e39, va_up_ne _ _ (by omega)]; exact hc0
  replace hc1 : cs39 270 = .inl (gY G 13, 2400, .inl (fun _ => 0)) := by rw [e39, va_up_ne _ _ (by omega)]; exact hc1
  replace hc2 : cs39 271 = .inl (gY G 14, 4, .inl (fun _ => 0)) := by rw [e39, va_up_ne _ _ (by omega)]; exact hc2
  replace hc3 : cs39 272 = .inl (gY G 14, 4, .inl (fun _ => 0)) := by rw [e39, va_up_ne _ _ (by omega)]; exact hc3
  replace hc4 : cs39 273 = .inl (gY G 14, 4, .inl (fun _ => 0)) := by rw [e39, va_up_ne _ _ (by omega)]; exact hc4
  replace hc5 : cs39 274 = .inl (gY G 14, 16, .inl (fun _ => 0)) := by rw [e39, va_up_ne _ _ (by omega)]; exact hc5
  replace hc6 : cs39 275 = .inl (gY G 14, 104, .inl (fun _ => 0)) := by rw [e39, va_up_ne _ _ (by omega)]; exact hc6
  replace hc7 : cs39 276 = .inl (gY G 14, 1072, .inl (fun _ => 0)) := by rw [e39, va_up_ne _ _ (by omega)]; exact hc7
  replace hc8 : cs39 277 = .inl (gY G 14, 968, .inl (fun _ => 0)) := by rw [e39, va_up_ne _ _ (by omega)]; exact hc8
  replace hc9 : cs39 278 = .inl (gY G 14, 136, .inl (fun _ => 0)) := by rw [e39, va_up_ne _ _ (by omega)]; exact hc9
  replace hc10 : cs39 279 = .inl (gY G 14, 134, .inl (fun _ => 0)) := by rw [e39, va_up_ne _ _ (by omega)]; exact hc10
  replace hc11 : cs39 280 = .inl (gY G 14, 3, .inl (fun _ => 0)) := by rw [e39, va_up_ne _ _ (by omega)]; exact hc11
  replace hc12 : cs39 281 = .inl (gY G 14, 10, .inl (fun _ => 0)) := by rw [e39, va_up_ne _ _ (by omega)]; exact hc12
  replace hc13 : cs39 282 = .inl (gY G 14, 10, .inl (fun _ => 0)) := by rw [e39, va_up_ne _ _ (by omega)]; exact hc13
  replace hc14 : cs39 283 = .inl (gY G 14, 10, .inl (fun _ => 0)) := by rw [e39, va_up_ne _ _ (by omega)]; exact hc14
  replace hc15 : cs39 284 = .inl (gY G 14, 10, .inl (fun _ => 0)) := by rw [e39, va_up_ne _ _ (by omega)]; exact hc15
  replace hc16 : cs39 285 = .inl (gY G 14, 10, .inl (fun _ => 0)) := by rw [e39, va_up_ne _ _ (by omega)]; exact hc16
  replace hc17 : cs39 286 = .inl (gY G 14, 4, .inl (fun _ => 0)) := by rw [e39, va_up_ne _ _ (by omega)]; exact hc17
  replace hc18 : cs39 287 = .inl (gY G 14, 4, .inl (fun _ => 0)) := by rw [e39, va_up_ne _ _ (by omega)]; exact hc18
  replace hc19 : cs39 288 = .inl (gY G 14, 4, .inl (fun _ => 0)) := by rw [e39, va_up_ne _ _ (by omega)]; exact hc19
  have hc20 : cs39 289 = .inl (gY G 14, 4, .inl (fun _ => 0)) := by rw [e39]; exact va_up_self _ _ _
  replace hlo : ∀ n, n < 269 → cs39 n = cs n := fun n a => by rw [e39, va_up_ne _ _ (by omega)] <;> exact hlo n a
  clear e39
  refine ry_putF ff_X12_68 rfl (by omega) hc0 rfl rfl (nlt rfl) dX12_init_158 ?_
  refine ry_cs (fun cs40 e40 => ?_)
  replace hc1 : cs40 270 = .inl (gY G 13, 2400, .inl (fun _ => 0)) := by rw [e40, va_up_ne _ _ (by omega)]; exact hc1
  replace hc2 : cs40 271 = .inl (gY G 14, 4, .inl (fun _ => 0)) := by rw [e40, va_up_ne _ _ (by omega)]; exact hc2
  replace hc3 : cs40 272 = .inl (gY G 14, 4, .inl (fun _ => 0)) := by rw [e40, va_up_ne _ _ (by omega)]; exact hc3
  replace hc4 : cs40 273 = .inl (gY G 14, 4, .inl (fun _ => 0)) := by rw [e40, va_up_ne _ _ (by omega)]; exact hc4
  replace hc5 : cs40 274 = .inl (gY G 14, 16, .inl (fun _ => 0)) := by rw [e40, va_up_ne _ _ (by omega)]; exact hc5
  replace hc6 : cs40 275 = .inl (gY G 14, 104, .inl (fun _ => 0)) := by rw [e40, va_up_ne _ _ (by omega)]; exact hc6
  replace hc7 : cs40 276 = .inl (gY G 14, 1072, .inl (fun _ => 0)) := by rw [e40, va_up_ne _ _ (by omega)]; exact hc7
  replace hc8 : cs40 277 = .inl (gY G 14, 968, .inl (fun _ => 0)) := by rw [e40, va_up_ne _ _ (by omega)]; exact hc8
  replace hc9 : cs40 278 = .inl (gY G 14, 136, .inl (fun _ => 0)) := by rw [e40, va_up_ne _ _ (by omega)]; exact hc9
  replace hc10 : cs40 279 = .inl (gY G 14, 134, .inl (fun _ => 0)) := by rw [e40, va_up_ne _ _ (by omega)]; exact hc10
  replace hc11 : cs40 280 = .inl (gY G 14, 3, .inl (fun _ => 0)) := by rw [e40, va_up_ne _ _ (by omega)]; exact hc11
  replace hc12 : cs40 281 = .inl (gY G 14, 10, .inl (fun _ => 0)) := by rw [e40, va_up_ne _ _ (by omega)]; exact hc12
  replace hc13 : cs40 282 = .inl (gY G 14, 10, .inl (fun _ => 0)) := by rw [e40, va_up_ne _ _ (by omega)]; exact hc13
  replace hc14 : cs40 283 = .inl (gY G 14, 10, .inl (fun _ => 0)) := by rw [e40, va_up_ne _ _ (by omega)]; exact hc14
  replace hc15 : cs40 284 = .inl (gY G 14, 10, .inl (fun _ => 0)) := by rw [e40, va_up_ne _ _ (by omega)]; exact hc15
  replace hc16 : cs40 285 = .inl (gY G 14, 10, .inl (fun _ => 0)) := by rw [e40, va_up_ne _ _ (by omega)]; exact hc16
  replace hc17 : cs40 286 = .inl (gY G 14, 4, .inl (fun _ => 0)) := by rw [e40, va_up_ne _ _ (by omega)]; exact hc17
  replace hc18 : cs40 287 = .inl (gY G 14, 4, .inl (fun _ => 0)) := by rw [e40, va_up_ne _ _ (by omega)]; exact hc18
  replace hc19 : cs40 288 = .inl (gY G 14, 4, .inl (fun _ => 0)) := by rw [e40, va_up_ne _ _ (by omega)]; exact hc19
  replace hc20 : cs40 289 = .inl (gY G 14, 4, .inl (fun _ => 0)) := by rw [e40, va_up_ne _ _ (by omega)]; exact hc20
  replace hc0 : cs40 269 = .inr (12, [.int 0, .ref (gA G 270), .ref (gA G 271), .ref (gA G 272), .ref (gA G 273), .ref (gA G 274), .ref (gA G 275), .ref (gA G 276), .ref (gA G 277), .ref (gA G 278), .int 0, .int 0, .int 0, .int 0, .int 0, .long 0, .int 0, .int 0, .int 0, .ref (gA G 279), .ref (gA G 280), .int 0, .int 0, .int 0, .int 0, .int 0, .int 0, .int 0, .int 0, .int 0, .int 0, .ref (gA G 281), .ref (gA G 282), .ref (gA G 283), .ref (gA G 284), .ref (gA G 285), .ref (gA G 286), .ref (gA G 287), .ref (gA G 288), .ref (gA G 289), .null, .null, .null, .null, .null, .null, .null, .null, .null, .null, .null, .null, .null, .null, .int 0, .int 0, .int 0, .int 0, .int 0, .int 0, .null, .null, .int 0, .int 0, .int 0, .int 0, .int 0, .null, .null, .int 0, .null, .int 0, .int 0, .null, .null, .null, .int 0, .int 0, .int 0, .int 0, .int 0, .int 0, .null, .int 0, .int 0, .int 0, .int 0, .int 0, .int 0, .int 0, .int 0, .null]) := by rw [e40]; exact va_up_self _ _ _
  replace hlo : ∀ n, n < 269 → cs40 n = cs n := fun n a => by rw [e40, va_up_ne _ _ (by omega)] <;> exact hlo n a
  clear e40
  refine ry_aload_n 0 dX12_init_161 rfl rfl ?_
  refine ry_iconst (v := 4) dX12_init_162 rfl ?_
  refine ry_newa (κ := 14) (n := 4) (atype := .int) (ty := .int) (t0 := 1) rfl wa_int rfl (fun _ _ => Iff.rfl) rfl (by decide) rfl (by decide) (Nat.le_of_ble_eq_true rfl) (Nat.le_of_ble_eq_true rfl) dX12_init_163 ?_
  refine ry_cs (fun cs41 e41 => ?_)
  replace hc0 : cs41 269 = .inr (12, [.int 0, .ref (gA G 270), .ref (gA G 271), .ref (gA G 272), .ref (gA G 273), .ref (gA G 274), .ref (gA G 275), .ref (gA G 276), .ref (gA G 277), .ref (gA G 278), .int 0, .int 0, .int 0, .int 0, .int 0, .long 0, .int 0, .int 0, .int 0, .ref (gA G 279), .ref (gA G 280), .int 0, .int 0, .int 0, .int 0, .int 0, .int 0, .int 0, .int 0, .int 0, .int 0, .ref (gA G 281), .ref (gA G 282), .ref (gA G 283), .ref (gA G 284), .ref (gA G 285), .ref (gA G 286), .ref (gA G 287), .ref (gA G 288), .ref (gA G 289), .null, .null, .null, .null, .null, .null, .null, .null, .null, .null, .null, .null, .null, .null, .int 0, .int 0, .int 0, .int 0, .int 0, .int 0, .null, .null, .int 0, .int 0, .int 0, .int 0, .int 0, .null, .null, .int 0, .null, .int 0, .int 0, .null, .null, .null, .int 0, .int 0, .int 0, .int 0, .int 0, .int 0, .null, .int 0, .int 0, .int 0, .int 0, .int 0, .int 0, .int 0, .int 0, .null]) := by rw [e41, va_up_ne _ _ (by omega)]; exact hc0
  replace hc1 : cs41 270 = .inl (gY G 13, 2400, .inl (fun _ => 0)) := by rw [e41, va_up_ne _ _ (by omega)]; exact hc1
  replace hc2 : cs41 271 = .inl (gY G 14, 4, .inl (fun _ => 0)) := by rw [e41, va_up_ne _ _ (by omega)]; exact hc2
  replace hc3 : cs41 272 = .inl (gY G 14, 4, .inl (fun _ => 0)) := by rw [e41, va_up_ne _ _ (by omega)]; exact hc3
  replace hc4 : cs41 273 = .inl (gY G 14, 4, .inl (fun _ => 0)) := by rw [e41, va_up_ne _ _ (by omega)]; exact hc4
  replace hc5 : cs41 274 = .inl (gY G 14, 16, .inl (fun _ => 0)) := by rw [e41, va_up_ne _ _ (by omega)]; exact hc5
  replace hc6 : cs41 275 = .inl (gY G 14, 104, .inl (fun _ => 0)) := by rw [e41, va_up_ne _ _ (by omega)]; exact hc6
  replace hc7 : cs41 276 = .inl (gY G 14, 1072, .inl (fun _ => 0)) := by rw [e41, va_up_ne _ _ (by omega)]; exact hc7
  replace hc8 : cs41 277 = .inl (gY G 14, 968, .inl (fun _ => 0)) := by rw [e41, va_up_ne _ _ (by omega)]; exact hc8
  replace hc9 : cs41 278 = .inl (gY G 14, 136, .inl (fun _ => 0)) := by rw [e41, va_up_ne _ _ (by omega)]; exact hc9
  replace hc10 : cs41 279 = .inl (gY G 14, 134, .inl (fun _ => 0)) := by rw [e41, va_up_ne _ _ (by omega)]; exact hc10
  replace hc11 : cs41 280 = .inl (gY G 14, 3, .inl (fun _ => 0)) := by rw [e41, va_up_ne _ _ (by omega)]; exact hc11
  replace hc12 : cs41 281 = .inl (gY G 14, 10, .inl (fun _ => 0)) := by rw [e41, va_up_ne _ _ (by omega)]; exact hc12
  replace hc13 : cs41 282 = .inl (gY G 14, 10, .inl (fun _ => 0)) := by rw [e41, va_up_ne _ _ (by omega)]; exact hc13
  replace hc14 : cs41 283 = .inl (gY G 14, 10, .inl (fun _ => 0)) := by rw [e41, va_up_ne _ _ (by omega)]; exact hc14
  replace hc15 : cs41 284 = .inl (gY G 14, 10, .inl (fun _ => 0)) := by rw [e41, va_up_ne _ _ (by omega)]; exact hc15
  replace hc16 : cs41 285 = .inl (gY G 14, 10, .inl (fun _ => 0)) := by rw [e41, va_up_ne _ _ (by omega)]; exact hc16
  replace hc17 : cs41 286 = .inl (gY G 14, 4, .inl (fun _ => 0)) := by rw [e41, va_up_ne _ _ (by omega)]; exact hc17
  replace hc18 : cs41 287 = .inl (gY G 14, 4, .inl (fun _ => 0)) := by rw [e41, va_up_ne _ _ (by omega)]; exact hc18
  replace hc19 : cs41 288 = .inl (gY G 14, 4, .inl (fun _ => 0)) := by rw [e41, va_up_ne _ _ (by omega)]; exact hc19
  replace hc20 : cs41 289 = .inl (gY G 14, 4, .inl (fun _ => 0)) := by rw [e41, va_up_ne _ _ (by omega)]; exact hc20
  have hc21 : cs41 290 = .inl (gY G 14, 4, .inl (fun _ => 0)) := by rw [e41]; exact va_up_self _ _ _
  replace hlo : ∀ n, n < 269 → cs41 n = cs n := fun n a => by rw [e41, va_up_ne _ _ (by omega)] <;> exact hlo n a
  clear e41
  refine ry_putF ff_X12_71 rfl (by omega) hc0 rfl rfl (nlt rfl) dX12_init_165 ?_
  refine ry_cs (fun cs42 e42 => ?_)
  replace hc1 : cs42 270 = .inl (gY G 13, 2400, .inl (fun _ => 0)) := by rw [e42, va_up_ne _ _ (by omega)]; exact hc1
  replace hc2 : cs42 271 = .inl (gY G 14, 4, .inl (fun _ => 0)) := by rw [e42, va_up_ne _ _ (by omega)]; exact hc2
  replace hc3 : cs42 272 = .inl (gY G 14, 4, .inl (fun _ => 0)) := by rw [e42, va_up_ne _ _ (by omega)]; exact hc3
  replace hc4 : cs42 273 = .inl (gY G 14, 4, .inl (fun _ => 0)) := by rw [e42, va_up_ne _ _ (by omega)]; exact hc4
  replace hc5 : cs42 274 = .inl (gY G 14, 16, .inl (fun _ => 0)) := by rw [e42, va_up_ne _ _ (by omega)]; exact hc5
  replace hc6 : cs42 275 = .inl (gY G 14, 104, .inl (fun _ => 0)) := by rw [e42, va_up_ne _ _ (by omega)]; exact hc6
  replace hc7 : cs42 276 = .inl (gY G 14, 1072, .inl (fun _ => 0)) := by rw [e42, va_up_ne _ _ (by omega)]; exact hc7
  replace hc8 : cs42 277 = .inl (gY G 14, 968, .inl (fun _ => 0)) := by rw [e42, va_up_ne _ _ (by omega)]; exact hc8
  replace hc9 : cs42 278 = .inl (gY G 14, 136, .inl (fun _ => 0)) := by rw [e42, va_up_ne _ _ (by omega)]; exact hc9
  replace hc10 : cs42 279 = .inl (gY G 14, 134, .inl (fun _ => 0)) := by rw [e42, va_up_ne _ _ (by omega)]; exact hc10
  replace hc11 : cs42 280 = .inl (gY G 14, 3, .inl (fun _ => 0)) := by rw [e42, va_up_ne _ _ (by omega)]; exact hc11
  replace hc12 : cs42 281 = .inl (gY G 14, 10, .inl (fun _ => 0)) := by rw [e42, va_up_ne _ _ (by omega)]; exact hc12
  replace hc13 : cs42 282 = .inl (gY G 14, 10, .inl (fun _ => 0)) := by rw [e42, va_up_ne _ _ (by omega)]; exact hc13
  replace hc14 : cs42 283 = .inl (gY G 14, 10, .inl (fun _ => 0)) := by rw [e42, va_up_ne _ _ (by omega)]; exact hc14
  replace hc15 : cs42 284 = .inl (gY G 14, 10, .inl (fun _ => 0)) := by rw [e42, va_up_ne _ _ (by omega)]; exact hc15
  replace hc16 : cs42 285 = .inl (gY G 14, 10, .inl (fun _ => 0)) := by rw [e42, va_up_ne _ _ (by omega)]; exact hc16
  replace hc17 : cs42 286 = .inl (gY G 14, 4, .inl (fun _ => 0)) := by rw [e42, va_up_ne _ _ (by omega)]; exact hc17
  replace hc18 : cs42 287 = .inl (gY G 14, 4, .inl (fun _ => 0)) := by rw [e42, va_up_ne _ _ (by omega)]; exact hc18
  replace hc19 : cs42 288 = .inl (gY G 14, 4, .inl (fun _ => 0)) := by rw [e42, va_up_ne _ _ (by omega)]; exact hc19
  replace hc20 : cs42 289 = .inl (gY G 14, 4, .inl (fun _ => 0)) := by rw [e42, va_up_ne _ _ (by omega)]; exact hc20
  replace hc21 : cs42 290 = .inl (gY G 14, 4, .inl (fun _ => 0)) := by rw [e42, va_up_ne _ _ (by omega)]; exact hc21
  replace hc0 : cs42 269 = .inr (12, [.int 0, .ref (gA G 270), .ref (gA G 271), .ref (gA G 272), .ref (gA G 273), .ref (gA G 274), .ref (gA G 275), .ref (gA G 276), .ref (gA G 277), .ref (gA G 278), .int 0, .int 0, .int 0, .int 0, .int 0, .long 0, .int 0, .int 0, .int 0, .ref (gA G 279), .ref (gA G 280), .int 0, .int 0, .int 0, .int 0, .int 0, .int 0, .int 0, .int 0, .int 0, .int 0, .ref (gA G 281), .ref (gA G 282), .ref (gA G 283), .ref (gA G 284), .ref (gA G 285), .ref (gA G 286), .ref (gA G 287), .ref (gA G 288), .ref (gA G 289), .ref (gA G 290), .null, .null, .null, .null, .null, .null, .null, .null, .null, .null, .null, .null, .null, .int 0, .int 0, .int 0, .int 0, .int 0, .int 0, .null, .null, .int 0, .int 0, .int 0, .int 0, .int 0, .null, .null, .int 0, .null, .int 0, .int 0, .null, .null, .null, .int 0, .int 0, .int 0, .int 0, .int 0, .int 0, .null, .int 0, .int 0, .int 0, .int 0, .int 0, .int 0, .int 0, .int 0, .null]) := by rw [e42]; exact va_up_self _ _ _
  replace hlo : ∀ n, n < 269 → cs42 n = cs n := fun n a => by rw [e42, va_up_ne _ _ (by omega)] <;> exact hlo n a
  clear e42
  refine ry_aload_n 0 dX12_init_168 rfl rfl ?_
  refine ry_iconst (v := 4) dX12_init_169 rfl ?_
  refine ry_newa (κ := 14) (n := 4) (atype := .int) (ty := .int) (t0 := 1) rfl wa_int rfl (fun _ _ => Iff.rfl) rfl (by decide) rfl (by decide) (Nat.le_of_ble_eq_true rfl) (Nat.le_of_ble_eq_true rfl) dX12_init_170 ?_
  refine ry_cs (fun cs43 e43 => ?_)
  replace hc0 : cs43 269 = .inr (12, [.int 0, .ref (gA G 270), .ref (gA G 271), .ref (gA G 272), .ref (gA G 273), .ref (gA G 274), .ref (gA G 275), .ref (gA G 276), .ref (gA G 277), .ref (gA G 278), .int 0, .int 0, .int 0, .int 0, .int 0, .long 0, .int 0, .int 0, .int 0, .ref (gA G 279), .ref (gA G 280), .int 0, .int 0, .int 0, .int 0, .int 0, .int 0, .int 0, .int 0, .int 0, .int 0, .ref (gA G 281), .ref (gA G 282), .ref (gA G 283), .ref (gA G 284), .ref (gA G 285), .ref (gA G 286), .ref (gA G 287), .ref (gA G 288), .ref (gA G 289), .ref (gA G 290), .null, .null, .null, .null, .null, .null, .null, .null, .null, .null, .null, .null, .null, .int 0, .int 0, .int 0, .int 0, .int 0, .int 0, .null, .null, .int 0, .int 0, .int 0, .int 0, .int 0, .null, .null, .int 0, .null, .int 0, .int 0, .null, .null, .null, .int 0, .int 0, .int 0, .int 0, .int 0, .int 0, .null, .int 0, .int 0, .int 0, .int 0, .int 0, .int 0, .int 0, .int 0, .null]) := by rw [e43, va_up_ne _ _ (by omega)]; exact hc0
  replace hc1 : cs43 270 = .inl (gY G 13, 2400, .inl (fun _ => 0)) := by rw [e43, va_up_ne _ _ (by omega)]; exact hc1
  replace hc2 : cs43 271 = .inl (gY G 14, 4, .inl (fun _ => 0)) := by rw [e43, va_up_ne _ _ (by omega)]; exact hc2
  replace hc3 : cs43 272 = .inl (gY G 14, 4, .inl (fun _ => 0)) := by rw [e43, va_up_ne _ _ (by omega)]; exact hc3
  replace hc4 : cs43 273 = .inl (gY G 14, 4, .inl (fun _ => 0)) := by rw [e43, va_up_ne _ _ (by omega)]; exact hc4
  replace hc5 : cs43 274 = .inl (gY G 14, 16, .inl (fun _ => 0)) := by rw [e43, va_up_ne _ _ (by omega)]; exact hc5
  replace hc6 : cs43 275 = .inl (gY G 14, 104, .inl (fun _ => 0)) := by rw [e43, va_up_ne _ _ (by omega)]; exact hc6
  replace hc7 : cs43 276 = .inl (gY G 14, 1072, .inl (fun _ => 0)) := by rw [e43, va_up_ne _ _ (by omega)]; exact hc7
  replace hc8 : cs43 277 = .inl (gY G 14, 968, .inl (fun _ => 0)) := by rw [e43, va_up_ne _ _ (by omega)]; exact hc8
  replace hc9 : cs43 278 = .inl (gY G 14, 136, .inl (fun _ => 0)) := by rw [e43, va_up_ne _ _ (by omega)]; exact hc9
  replace hc10 : cs43 279 = .inl (gY G 14, 134, .inl (fun _ => 0)) := by rw [e43, va_up_ne _ _ (by omega)]; exact hc10
  replace hc11 : cs43 280 = .inl (gY G 14, 3, .inl (fun _ => 0)) := by rw [e43, va_up_ne _ _ (by omega)]; exact hc11
  replace hc12 : cs43 281 = .inl (gY G 14, 10, .inl (fun _ => 0)) := by rw [e43, va_up_ne _ _ (by omega)]; exact hc12
  replace hc13 : cs43 282 = .inl (gY G 14, 10, .inl (fun _ => 0)) := by rw [e43, va_up_ne _ _ (by omega)]; exact hc13
  replace hc14 : cs43 283 = .inl (gY G 14, 10, .inl (fun _ => 0)) := by rw [e43, va_up_ne _ _ (by omega)]; exact hc14
  replace hc15 : cs43 284 = .inl (gY G 14, 10, .inl (fun _ => 0)) := by rw [e43, va_up_ne _ _ (by omega)]; exact hc15
  replace hc16 : cs43 285 = .inl (gY G 14, 10, .inl (fun _ => 0)) := by rw [e43, va_up_ne _ _ (by omega)]; exact hc16
  replace hc17 : cs43 286 = .inl (gY G 14, 4, .inl (fun _ => 0)) := by rw [e43, va_up_ne _ _ (by omega)]; exact hc17
  replace hc18 : cs43 287 = .inl (gY G 14, 4, .inl (fun _ => 0)) := by rw [e43, va_up_ne _ _ (by omega)]; exact hc18
  replace hc19 : cs43 288 = .inl (gY G 14, 4, .inl (fun _ => 0)) := by rw [e43, va_up_ne _ _ (by omega)]; exact hc19
  replace hc20 : cs43 289 = .inl (gY G 14, 4, .inl (fun _ => 0)) := by rw [e43, va_up_ne _ _ (by omega)]; exact hc20
  replace hc21 : cs43 290 = .inl (gY G 14, 4, .inl (fun _ => 0)) := by rw [e43, va_up_ne _ _ (by omega)]; exact hc21
  have hc22 : cs43 291 = .inl (gY G 14, 4, .inl (fun _ => 0)) := by rw [e43]; exact va_up_self _ _ _
  replace hlo : ∀ n, n < 269 → cs43 n = cs n := fun n a => by rw [e43, va_up_ne _ _ (by omega)] <;> exact hlo n a
  clear e43
  refine ry_putF ff_X12_74 rfl (by omega) hc0 rfl rfl (nlt rfl) dX12_init_172 ?_
  refine ry_cs (fun cs44 e44 => ?_)
  replace hc1 : cs44 270 = .inl (gY G 13, 2400, .inl (fun _ => 0)) := by rw [e44, va_up_ne _ _ (by omega)]; exact hc1
  replace hc2 : cs44 271 = .inl (gY G 14, 4, .inl (fun _ => 0)) := by rw [e44, va_up_ne _ _ (by omega)]; exact hc2
  replace hc3 : cs44 272 = .inl (gY G 14, 4, .inl (fun _ => 0)) := by rw [e44, va_up_ne _ _ (by omega)]; exact hc3
  replace hc4 : cs44 273 = .inl (gY G 14, 4, .inl (fun _ => 0)) := by rw [e44, va_up_ne _ _ (by omega)]; exact hc4
  replace hc5 : cs44 274 = .inl (gY G 14, 16, .inl (fun _ => 0)) := by rw [e44, va_up_ne _ _ (by omega)]; exact hc5
  replace hc6 : cs44 275 = .inl (gY G 14, 104, .inl (fun _ => 0)) := by rw [e44, va_up_ne _ _ (by omega)]; exact hc6
  replace hc7 : cs44 276 = .inl (gY G 14, 1072, .inl (fun _ => 0)) := by rw [e44, va_up_ne _ _ (by omega)]; exact hc7
  replace hc8 : cs44 277 = .inl (gY G 14, 968, .inl (fun _ => 0)) := by rw [e44, va_up_ne _ _ (by omega)]; exact hc8
  replace hc9 : cs44 278 = .inl (gY G 14, 136, .inl (fun _ => 0)) := by rw [e44, va_up_ne _ _ (by omega)]; exact hc9
  replace hc10 : cs44 279 = .inl (gY G 14, 134, .inl (fun _ => 0)) := by rw [e44, va_up_ne _ _ (by omega)]; exact hc10
  replace hc11 : cs44 280 = .inl (gY G 14, 3, .inl (fun _ => 0)) := by rw [e44, va_up_ne _ _ (by omega)]; exact hc11
  replace hc12 : cs44 281 = .inl (gY G 14, 10, .inl (fun _ => 0)) := by rw [e44, va_up_ne _ _ (by omega)]; exact hc12
  replace hc13 : cs44 282 = .inl (gY G 14, 10, .inl (fun _ => 0)) := by rw [e44, va_up_ne _ _ (by omega)]; exact hc13
  replace hc14 : cs44 283 = .inl (gY G 14, 10, .inl (fun _ => 0)) := by rw [e44, va_up_ne _ _ (by omega)]; exact hc14
  replace hc15 : cs44 284 = .inl (gY G 14, 10, .inl (fun _ => 0)) := by rw [e44, va_up_ne _ _ (by omega)]; exact hc15
  replace hc16 : cs44 285 = .inl (gY G 14, 10, .inl (fun _ => 0)) := by rw [e44, va_up_ne _ _ (by omega)]; exact hc16
  replace hc17 : cs44 286 = .inl (gY G 14, 4, .inl (fun _ => 0)) := by rw [e44, va_up_ne _ _ (by omega)]; exact hc17
  replace hc18 : cs44 287 = .inl (gY G 14, 4, .inl (fun _ => 0)) := by rw [e44, va_up_ne _ _ (by omega)]; exact hc18
  replace hc19 : cs44 288 = .inl (gY G 14, 4, .inl (fun _ => 0)) := by rw [e44, va_up_ne _ _ (by omega)]; exact hc19
  replace hc20 : cs44 289 = .inl (gY G 14, 4, .inl (fun _ => 0)) := by rw [e44, va_up_ne _ _ (by omega)]; exact hc20
  replace hc21 : cs44 290 = .inl (gY G 14, 4, .inl (fun _ => 0)) := by rw [e44, va_up_ne _ _ (by omega)]; exact hc21
  replace hc22 : cs44 291 = .inl (gY G 14, 4, .inl (fun _ => 0)) := by rw [e44, va_up_ne _ _ (by omega)]; exact hc22
  replace hc0 : cs44 269 = .inr (12, [.int 0, .ref (gA G 270), .ref (gA G 271), .ref (gA G 272), .ref (gA G 273), .ref (gA G 274), .ref (gA G 275), .ref (gA G 276), .ref (gA G 277), .ref (gA G 278), .int 0, .int 0, .int 0, .int 0, .int 0, .long 0, .int 0, .int 0, .int 0, .ref (gA G 279), .ref (gA G 280), .int 0, .int 0, .int 0, .int 0, .int 0, .int 0, .int 0, .int 0, .int 0, .int 0, .ref (gA G 281), .ref (gA G 282), .ref (gA G 283), .ref (gA G 284), .ref (gA G 285), .ref (gA G 286), .ref (gA G 287), .ref (gA G 288), .ref (gA G 289), .ref (gA G 290), .ref (gA G 291), .null, .null, .null, .null, .null, .null, .null, .null, .null, .null, .null, .null, .int 0, .int 0, .int 0, .int 0, .int 0, .int 0, .null, .null, .int 0, .int 0, .int 0, .int 0, .int 0, .null, .null, .int 0, .null, .int 0, .int 0, .null, .null, .null, .int 0, .int 0, .int 0, .int 0, .int 0, .int 0, .null, .int 0, .int 0, .int 0, .int 0, .int 0, .int 0, .int 0, .int 0, .null]) := by rw [e44]; exact va_up_self _ _ _
  replace hlo : ∀ n, n < 269 → cs44 n = cs n := fun n a => by rw [e44, va_up_ne _ _ (by omega)] <;> exact hlo n a
  clear e44
  refine ry_aload_n 0 dX12_init_175 rfl rfl ?_
  refine ry_bipush (v := 40) dX12_init_176 rfl ?_
  refine ry_newa (κ := 14) (n := 40) (atype := .int) (ty := .int) (t0 := 1) rfl wa_int rfl (fun _ _ => Iff.rfl) rfl (by decide) rfl (by decide) (Nat.le_of_ble_eq_true rfl) (Nat.le_of_ble_eq_true rfl) dX12_init_178 ?_
  refine ry_cs (fun cs45 e45 => ?_)
  replace hc0 : cs45 269 = .inr (12, [.int 0, .ref (gA G 270), .ref (gA G 271), .ref (gA G 272), .ref (gA G 273), .ref (gA G 274), .ref (gA G 275), .ref (gA G 276), .ref (gA G 277), .ref (gA G 278), .int 0, .int 0, .int 0, .int 0, .int 0, .long 0, .int 0, .int 0, .int 0, .ref (gA G 279), .ref (gA G 280), .int 0, .int 0, .int 0, .int 0, .int 0, .int 0, .int 0, .int 0, .int 0, .int 0, .ref (gA G 281), .ref (gA G 282), .ref (gA G 283), .ref (gA G 284), .ref (gA G 285), .ref (gA G 286), .ref (gA G 287), .ref (gA G 288), .ref (gA G 289), .ref (gA G 290), .ref (gA G 291), .null, .null, .null, .null, .null, .null, .null, .null, .null, .null, .null, .null, .int 0, .int 0, .int 0, .int 0, .int 0, .int 0, .null, .null, .int 0, .int 0, .int 0, .int 0, .int 0, .null, .null, .int 0, .null, .int 0, .int 0, .null, .null, .null, .int 0, .int 0, .int 0, .int 0, .int 0, .int 0, .null, .int 0, .int 0, .int 0, .int 0, .int 0, .int 0, .int 0, .int 0, .null]) := by rw [e45, va_up_ne _ _ (by omega)]; exact hc0
  replace hc1 : cs45 270 = .inl (gY G 13, 2400, .inl (fun _ => 0)) := by rw [e45, va_up_ne _ _ (by omega)]; exact hc1
  replace hc2 : cs45 271 = .inl (gY G 14, 4, .inl (fun _ => 0)) := by rw [e45, va_up_ne _ _ (by omega)]; exact hc2
  replace hc3 : cs45 272 = .inl (gY G 14, 4, .inl (fun _ => 0)) := by rw [e45, va_up_ne _ _ (by omega)]; exact hc3
  replace hc4 : cs45 273 = .inl (gY G 14, 4, .inl (fun _ => 0)) := by rw [e45, va_up_ne _ _ (by omega)]; exact hc4
  replace hc5 : cs45 274 = .inl (gY G 14, 16, .inl (fun _ => 0)) := by rw [e45, va_up_ne _ _ (by omega)]; exact hc5
  replace hc6 : cs45 275 = .inl (gY G 14, 104, .inl (fun _ => 0)) := by rw [e45, va_up_ne _ _ (by omega)]; exact hc6
  replace hc7 : cs45 276 = .inl (gY G 14, 1072, .inl (fun _ => 0)) := by rw [e45, va_up_ne _ _ (by omega)]; exact hc7
  replace hc8 : cs45 277 = .inl (gY G 14, 968, .inl (fun _ => 0)) := by rw [e45, va_up_ne _ _ (by omega)]; exact hc8
  replace hc9 : cs45 278 = .inl (gY G 14, 136, .inl (fun _ => 0)) := by rw [e45, va_up_ne _ _ (by omega)]; exact hc9
  replace hc10 : cs45 279 = .inl (gY G 14, 134, .inl (fun _ => 0)) := by rw [e45, va_up_ne _ _ (by omega)]; exact hc10
  replace hc11 : cs45 280 = .inl (gY G 14, 3, .inl (fun _ => 0)) := by rw [e45, va_up_ne _ _ (by omega)]; exact hc11
  replace hc12 : cs45 281 = .inl (gY G 14, 10, .inl (fun _ => 0)) := by rw [e45, va_up_ne _ _ (by omega)]; exact hc12
  replace hc13 : cs45 282 = .inl (gY G 14, 10, .inl (fun _ => 0)) := by rw [e45, va_up_ne _ _ (by omega)]; exact hc13
  replace hc14 : cs45 283 = .inl (gY G 14, 10, .inl (fun _ => 0)) := by rw [e45, va_up_ne _ _ (by omega)]; exact hc14
  replace hc15 : cs45 284 = .inl (gY G 14, 10, .inl (fun _ => 0)) := by rw [e45, va_up_ne _ _ (by omega)]; exact hc15
  replace hc16 : cs45 285 = .inl (gY G 14, 10, .inl (fun _ => 0)) := by rw [e45, va_up_ne _ _ (by omega)]; exact hc16
  replace hc17 : cs45 286 = .inl (gY G 14, 4, .inl (fun _ => 0)) := by rw [e45, va_up_ne _ _ (by omega)]; exact hc17
  replace hc18 : cs45 287 = .inl (gY G 14, 4, .inl (fun _ => 0)) := by rw [e45, va_up_ne _ _ (by omega)]; exact hc18
  replace hc19 : cs45 288 = .inl (gY G 14, 4, .inl (fun _ => 0)) := by rw [e45, va_up_ne _ _ (by omega)]; exact hc19
  replace hc20 : cs45 289 = .inl (gY G 14, 4, .inl (fun _ => 0)) := by rw [e45, va_up_ne _ _ (by omega)]; exact hc20
  replace hc21 : cs45 290 = .inl (gY G 14, 4, .inl (fun _ => 0)) := by rw [e45, va_up_ne _ _ (by omega)]; exact hc21
  replace hc22 : cs45 291 = .inl (gY G 14, 4, .inl (fun _ => 0)) := by rw [e45, va_up_ne _ _ (by omega)]; exact hc22
  have hc23 : cs45 292 = .inl (gY G 14, 40, .inl (fun _ => 0)) := by rw [e45]; exact va_up_self _ _ _
  replace hlo : ∀ n, n < 269 → cs45 n = cs n := fun n a => by rw [e45, va_up_ne _ _ (by omega)] <;> exact hlo n a
  clear e45
  refine ry_putF ff_X12_77 rfl (by omega) hc0 rfl rfl (nlt rfl) dX12_init_180 ?_
  refine ry_cs (fun cs46 e46 => ?_)
  replace hc1 : cs46 270 = .inl (gY G 13, 2400, .inl (fun _ => 0)) := by rw [e46, va_up_ne _ _ (by omega)]; exact hc1
  replace hc2 : cs46 271 = .inl (gY G 14, 4, .inl (fun _ => 0)) := by rw [e46, va_up_ne _ _ (by omega)]; exact hc2
  replace hc3 : cs46 272 = .inl (gY G 14, 4, .inl (fun _ => 0)) := by rw [e46, va_up_ne _ _ (by omega)]; exact hc3
  replace hc4 : cs46 273 = .inl (gY G 14, 4, .inl (fun _ => 0)) := by rw [e46, va_up_ne _ _ (by omega)]; exact hc4
  replace hc5 : cs46 274 = .inl (gY G 14, 16, .inl (fun _ => 0)) := by rw [e46, va_up_ne _ _ (by omega)]; exact hc5
  replace hc6 : cs46 275 = .inl (gY G 14, 104, .inl (fun _ => 0)) := by rw [e46, va_up_ne _ _ (by omega)]; exact hc6
  replace hc7 : cs46 276 = .inl (gY G 14, 1072, .inl (fun _ => 0)) := by rw [e46, va_up_ne _ _ (by omega)]; exact hc7
  replace hc8 : cs46 277 = .inl (gY G 14, 968, .inl (fun _ => 0)) := by rw [e46, va_up_ne _ _ (by omega)]; exact hc8
  replace hc9 : cs46 278 = .inl (gY G 14, 136, .inl (fun _ => 0)) := by rw [e46, va_up_ne _ _ (by omega)]; exact hc9
  replace hc10 : cs46 279 = .inl (gY G 14, 134, .inl (fun _ => 0)) := by rw [e46, va_up_ne _ _ (by omega)]; exact hc10
  replace hc11 : cs46 280 = .inl (gY G 14, 3, .inl (fun _ => 0)) := by rw [e46, va_up_ne _ _ (by omega)]; exact hc11
  replace hc12 : cs46 281 = .inl (gY G 14, 10, .inl (fun _ => 0)) := by rw [e46, va_up_ne _ _ (by omega)]; exact hc12
  replace hc13 : cs46 282 = .inl (gY G 14, 10, .inl (fun _ => 0)) := by rw [e46, va_up_ne _ _ (by omega)]; exact hc13
  replace hc14 : cs46 283 = .inl (gY G 14, 10, .inl (fun _ => 0)) := by rw [e46, va_up_ne _ _ (by omega)]; exact hc14
  replace hc15 : cs46 284 = .inl (gY G 14, 10, .inl (fun _ => 0)) := by rw [e46, va_up_ne _ _ (by omega)]; exact hc15
  replace hc16 : cs46 285 = .inl (gY G 14, 10, .inl (fun _ => 0)) := by rw [e46, va_up_ne _ _ (by omega)]; exact hc16
  replace hc17 : cs46 286 = .inl (gY G 14, 4, .inl (fun _ => 0)) := by rw [e46, va_up_ne _ _ (by omega)]; exact hc17
  replace hc18 : cs46 287 = .inl (gY G 14, 4, .inl (fun _ => 0)) := by rw [e46, va_up_ne _ _ (by omega)]; exact hc18
  replace hc19 : cs46 288 = .inl (gY G 14, 4, .inl (fun _ => 0)) := by rw [e46, va_up_ne _ _ (by omega)]; exact hc19
  replace hc20 : cs46 289 = .inl (gY G 14, 4, .inl (fun _ => 0)) := by rw [e46, va_up_ne _ _ (by omega)]; exact hc20
  replace hc21 : cs46 290 = .inl (gY G 14, 4, .inl (fun _ => 0)) := by rw [e46, va_up_ne _ _ (by omega)]; exact hc21
  replace hc22 : cs46 291 = .inl (gY G 14, 4, .inl (fun _ => 0)) := by rw [e46, va_up_ne _ _ (by omega)]; exact hc22
  replace hc23 : cs46 292 = .inl (gY G 14, 40, .inl (fun _ => 0)) := by rw [e46, va_up_ne _ _ (by omega)]; exact hc23
  replace hc0 : cs46 269 = .inr (12, [.int 0, .ref (gA G 270), .ref (gA G 271), .ref (gA G 272), .ref (gA G 273), .ref (gA G 274), .ref (gA G 275), .ref (gA G 276), .ref (gA G 277), .ref (gA G 278), .int 0, .int 0, .int 0, .int 0, .int 0, .long 0, .int 0, .int 0, .int 0, .ref (gA G 279), .ref (gA G 280), .int 0, .int 0, .int 0, .int 0, .int 0, .int 0, .int 0, .int 0, .int 0, .int 0, .ref (gA G 281), .ref (gA G 282), .ref (gA G 283), .ref (gA G 284), .ref (gA G 285), .ref (gA G 286), .ref (gA G 287), .ref (gA G 288), .ref (gA G 289), .ref (gA G 290), .ref (gA G 291), .ref (gA G 292), .null, .null, .null, .null, .null, .null, .null, .null, .null, .null, .null, .int 0, .int 0, .int 0, .int 0, .int 0, .int 0, .null, .null, .int 0, .int 0, .int 0, .int 0, .int 0, .null, .null, .int 0, .null, .int 0, .int 0, .null, .null, .null, .int 0, .int 0, .int 0, .int 0, .int 0, .int 0, .null, .int 0, .int 0, .int 0, .int 0, .int 0, .int 0, .int 0, .int 0, .null]) := by rw [e46]; exact va_up_self _ _ _
  replace hlo : ∀ n, n < 269 → cs46 n = cs n := fun n a => by rw [e46, va_up_ne _ _ (by omega)] <;> exact hlo n a
  clear e46
  refine ry_aload_n 0 dX12_init_183 rfl rfl ?_
  refine ry_bipush (v := 40) dX12_init_184 rfl ?_
  refine ry_newa (κ := 14) (n := 40) (atype := .int) (ty := .int) (t0 := 1) rfl wa_int rfl (fun _ _ => Iff.rfl) rfl (by decide) rfl (by decide) (Nat.le_of_ble_eq_true rfl) (Nat.le_of_ble_eq_true rfl) dX12_init_186 ?_
  refine ry_cs (fun cs47 e47 => ?_)
  replace hc0 : cs47 269 = .inr (12, [.int 0, .ref (gA G 270), .ref (gA G 271), .ref (gA G 272), .ref (gA G 273), .ref (gA G 274), .ref (gA G 275), .ref (gA G 276), .ref (gA G 277), .ref (gA G 278), .int 0, .int 0, .int 0, .int 0, .int 0, .long 0, .int 0, .int 0, .int 0, .ref (gA G 279), .ref (gA G 280), .int 0, .int 0, .int 0, .int 0, .int 0, .int 0, .int 0, .int 0, .int 0, .int 0, .ref (gA G 281), .ref (gA G 282), .ref (gA G 283), .ref (gA G 284), .ref (gA G 285), .ref (gA G 286), .ref (gA G 287), .ref (gA G 288), .ref (gA G 289), .ref (gA G 290), .ref (gA G 291), .ref (gA G 292), .null, .null, .null, .null, .null, .null, .null, .null, .null, .null, .null, .int 0, .int 0, .int 0, .int 0, .int 0, .int 0, .null, .null, .int 0, .int 0, .int 0, .int 0, .int 0, .null, .null, .int 0, .null, .int 0, .int 0, .null, .null, .null, .int 0, .int 0, .int 0, .int 0, .int 0, .int 0, .null, .int 0, .int 0, .int 0, .int 0, .int 0, .int 0, .int 0, .int 0, .null]) := by rw [e47, va_up_ne _ _ (by omega)]; exact hc0
  replace hc1 : cs47 270 = .inl (gY G 13, 2400, .inl (fun _ => 0)) := by rw [e47, va_up_ne _ _ (by omega)]; exact hc1
  replace hc2 : cs47 271 = .inl (gY G 14, 4, .inl (fun _ => 0)) := by rw [e47, va_up_ne _ _ (by omega)]; exact hc2
  replace hc3 : cs47 272 = .inl (gY G 14, 4, .inl (fun _ => 0)) := by rw [e47, va_up_ne _ _ (by omega)]; exact hc3
  replace hc4 : cs47 273 = .inl (gY G 14, 4, .inl (fun _ => 0)) := by rw [e47, va_up_ne _ _ (by omega)]; exact hc4
  replace hc5 : cs47 274 = .inl (gY G 14, 16, .inl (fun _ => 0)) := by rw [e47, va_up_ne _ _ (by omega)]; exact hc5
  replace hc6 : cs47 275 = .inl (gY G 14, 104, .inl (fun _ => 0)) := by rw [e47, va_up_ne _ _ (by omega)]; exact hc6
  replace hc7 : cs47 276 = .inl (gY G 14, 1072, .inl (fun _ => 0)) := by rw [e47, va_up_ne _ _ (by omega)]; exact hc7
  replace hc8 : cs47 277 = .inl (gY G 14, 968, .inl (fun _ => 0)) := by rw [e47, va_up_ne _ _ (by omega)]; exact hc8
  replace hc9 : cs47 278 = .inl (gY G 14, 136, .inl (fun _ => 0)) := by rw [e47, va_up_ne _ _ (by omega)]; exact hc9
  replace hc10 : cs47 279 = .inl (gY G 14, 134, .inl (fun _ => 0)) := by rw [e47, va_up_ne _ _ (by omega)]; exact hc10
  replace hc11 : cs47 280 = .inl (gY G 14, 3, .inl (fun _ => 0)) := by rw [e47, va_up_ne _ _ (by omega)]; exact hc11
  replace hc12 : cs47 281 = .inl (gY G 14, 10, .inl (fun _ => 0)) := by rw [e47, va_up_ne _ _ (by omega)]; exact hc12
  replace hc13 : cs47 282 = .inl (gY G 14, 10, .inl (fun _ => 0)) := by rw [e47, va_up_ne _ _ (by omega)]; exact hc13
  replace hc14 : cs47 283 = .inl (gY G 14, 10, .inl (fun _ => 0)) := by rw [e47, va_up_ne _ _ (by omega)]; exact hc14
  replace hc15 : cs47 284 = .inl (gY G 14, 10, .inl (fun _ => 0)) := by rw [e47, va_up_ne _ _ (by omega)]; exact hc15
  replace hc16 : cs47 285 = .inl (gY G 14, 10, .inl (fun _ => 0)) := by rw [e47, va_up_ne _ _ (by omega)]; exact hc16
  replace hc17 : cs47 286 = .inl (gY G 14, 4, .inl (fun _ => 0)) := by rw [e47, va_up_ne _ _ (by omega)]; exact hc17
  replace hc18 : cs47 287 = .inl (gY G 14, 4, .inl (fun _ => 0)) := by rw [e47, va_up_ne _ _ (by omega)]; exact hc18
  replace hc19 : cs47 288 = .inl (gY G 14, 4, .inl (fun _ => 0)) := by rw [e47, va_up_ne _ _ (by omega)]; exact hc19
  replace hc20 : cs47 289 = .inl (gY G 14, 4, .inl (fun _ => 0)) := by rw [e47, va_up_ne _ _ (by omega)]; exact hc20
  replace hc21 : cs47 290 = .inl (gY G 14, 4, .inl (fun _ => 0)) := by rw [e47, va_up_ne _ _ (by omega)]; exact hc21
  replace hc22 : cs47 291 = .inl (gY G 14, 4, .inl (fun _ => 0)) := by rw [e47, va_up_ne _ _ (by omega)]; exact hc22
  replace hc23 : cs47 292 = .inl (gY G 14, 40, .inl (fun _ => 0)) := by rw [e47, va_up_ne _ _ (by omega)]; exact hc23
  have hc24 : cs47 293 = .inl (gY G 14, 40, .inl (fun _ => 0)) := by rw [e47]; exact va_up_self _ _ _
  replace hlo : ∀ n, n < 269 → cs47 n = cs n := fun n a => by rw [e47, va_up_ne _ _ (by omega)] <;> exact hlo n a
  clear e47
  refine ry_putF ff_X12_80 rfl (by omega) hc0 rfl rfl (nlt rfl) dX12_init_188 ?_
  refine ry_cs (fun cs48 e48 => ?_)
  replace hc1 : cs48 270 = .inl (gY G 13, 2400, .inl (fun _ => 0)) := by rw [e48, va_up_ne _ _ (by omega)]; exact hc1
  replace hc2 : cs48 271 = .inl (gY G 14, 4, .inl (fun _ => 0)) := by rw [e48, va_up_ne _ _ (by omega)]; exact hc2
  replace hc3 : cs48 272 = .inl (gY G 14, 4, .inl (fun _ => 0)) := by rw [e48, va_up_ne _ _ (by omega)]; exact hc3
  replace hc4 : cs48 273 = .inl (gY G 14, 4, .inl (fun _ => 0)) := by rw [e48, va_up_ne _ _ (by omega)]; exact hc4
  replace hc5 : cs48 274 = .inl (gY G 14, 16, .inl (fun _ => 0)) := by rw [e48, va_up_ne _ _ (by omega)]; exact hc5
  replace hc6 : cs48 275 = .inl (gY G 14, 104, .inl (fun _ => 0)) := by rw [e48, va_up_ne _ _ (by omega)]; exact hc6
  replace hc7 : cs48 276 = .inl (gY G 14, 1072, .inl (fun _ => 0)) := by rw [e48, va_up_ne _ _ (by omega)]; exact hc7
  replace hc8 : cs48 277 = .inl (gY G 14, 968, .inl (fun _ => 0)) := by rw [e48, va_up_ne _ _ (by omega)]; exact hc8
  replace hc9 : cs48 278 = .inl (gY G 14, 136, .inl (fun _ => 0)) := by rw [e48, va_up_ne _ _ (by omega)]; exact hc9
  replace hc10 : cs48 279 = .inl (gY G 14, 134, .inl (fun _ => 0)) := by rw [e48, va_up_ne _ _ (by omega)]; exact hc10
  replace hc11 : cs48 280 = .inl (gY G 14, 3, .inl (fun _ => 0)) := by rw [e48, va_up_ne _ _ (by omega)]; exact hc11
  replace hc12 : cs48 281 = .inl (gY G 14, 10, .inl (fun _ => 0)) := by rw [e48, va_up_ne _ _ (by omega)]; exact hc12
  replace hc13 : cs48 282 = .inl (gY G 14, 10, .inl (fun _ => 0)) := by rw [e48, va_up_ne _ _ (by omega)]; exact hc13
  replace hc14 : cs48 283 = .inl (gY G 14, 10, .inl (fun _ => 0)) := by rw [e48, va_up_ne _ _ (by omega)]; exact hc14
  replace hc15 : cs48 284 = .inl (gY G 14, 10, .inl (fun _ => 0)) := by rw [e48, va_up_ne _ _ (by omega)]; exact hc15
  replace hc16 : cs48 285 = .inl (gY G 14, 10, .inl (fun _ => 0)) := by rw [e48, va_up_ne _ _ (by omega)]; exact hc16
  replace hc17 : cs48 286 = .inl (gY G 14, 4, .inl (fun _ => 0)) := by rw [e48, va_up_ne _ _ (by omega)]; exact hc17
  replace hc18 : cs48 287 = .inl (gY G 14, 4, .inl (fun _ => 0)) := by rw [e48, va_up_ne _ _ (by omega)]; exact hc18
  replace hc19 : cs48 288 = .inl (gY G 14, 4, .inl (fun _ => 0)) := by rw [e48, va_up_ne _ _ (by omega)]; exact hc19
  replace hc20 : cs48 289 = .inl (gY G 14, 4, .inl (fun _ => 0)) := by rw [e48, va_up_ne _ _ (by omega)]; exact hc20
  replace hc21 : cs48 290 = .inl (gY G 14, 4, .inl (fun _ => 0)) := by rw [e48, va_up_ne _ _ (by omega)]; exact hc21
  replace hc22 : cs48 291 = .inl (gY G 14, 4, .inl (fun _ => 0)) := by rw [e48, va_up_ne _ _ (by omega)]; exact hc22
  replace hc23 : cs48 292 = .inl (gY G 14, 40, .inl (fun _ => 0)) := by rw [e48, va_up_ne _ _ (by omega)]; exact hc23
  replace hc24 : cs48 293 = .inl (gY G 14, 40, .inl (fun _ => 0)) := by rw [e48, va_up_ne _ _ (by omega)]; exact hc24
  replace hc0 : cs48 269 = .inr (12, [.int 0, .ref (gA G 270), .ref (gA G 271), .ref (gA G 272), .ref (gA G 273), .ref (gA G 274), .ref (gA G 275), .ref (gA G 276), .ref (gA G 277), .ref (gA G 278), .int 0, .int 0, .int 0, .int 0, .int 0, .long 0, .int 0, .int 0, .int 0, .ref (gA G 279), .ref (gA G 280), .int 0, .int 0, .int 0, .int 0, .int 0, .int 0, .int 0, .int 0, .int 0, .int 0, .ref (gA G 281), .ref (gA G 282), .ref (gA G 283), .ref (gA G 284), .ref (gA G 285), .ref (gA G 286), .ref (gA G 287), .ref (gA G 288), .ref (gA G 289), .ref (gA G 290), .ref (gA G 291), .ref (gA G 292), .ref (gA G 293), .null, .null, .null, .null, .null, .null, .null, .null, .null, .null, .int 0, .int 0, .int 0, .int 0, .int 0, .int 0, .null, .null, .int 0, .int 0, .int 0, .int 0, .int 0, .null, .null, .int 0, .null, .int 0, .int 0, .null, .null, .null, .int 0, .int 0, .int 0, .int 0, .int 0, .int 0, .null, .int 0, .int 0, .int 0, .int 0, .int 0, .int 0, .int 0, .int 0, .null]) := by rw [e48]; exact va_up_self _ _ _
  replace hlo : ∀ n, n < 269 → cs48 n = cs n := fun n a => by rw [e48, va_up_ne _ _ (by omega)] <;> exact hlo n a
  clear e48
  refine ry_aload_n 0 dX12_init_191 rfl rfl ?_
  refine ry_bipush (v := 40) dX12_init_192 rfl ?_
  refine ry_newa (κ := 14) (n := 40) (atype := .int) (ty := .int) (t0 := 1) rfl wa_int rfl (fun _ _ => Iff.rfl) rfl (by decide) rfl (by decide) (Nat.le_of_ble_eq_true rfl) (Nat.le_of_ble_eq_true rfl) dX12_init_194 ?_
  refine ry_cs (fun cs49 e49 => ?_)
  replace hc0 : cs49 269 = .inr (12, [.int 0, .ref (gA G 270), .ref (gA G 271), .ref (gA G 272), .ref (gA G 273), .ref (gA G 274), .ref (gA G 275), .ref (gA G 276), .ref (gA G 277), .ref (gA G 278), .int 0, .int 0, .int 0, .int 0, .int 0, .long 0, .int 0, .int 0, .int 0, .ref (gA G 279), .ref (gA G 280), .int 0, .int 0, .int 0, .int 0, .int 0, .int 0, .int 0, .int 0, .int 0, .int 0, .ref (gA G 281), .ref (gA G 282), .ref (gA G 283), .ref (gA G 284), .ref (gA G 285), .ref (gA G 286), .ref (gA G 287), .ref (gA G 288), .ref (gA G 289), .ref (gA G 290), .ref (gA G 291), .ref (gA G 292), .ref (gA G 293), .null, .null, .null, .null, .null, .null, .null, .null, .null, .null, .int 0, .int 0, .int 0, .int 0, .int 0, .int 0, .null, .null, .int 0, .int 0, .int 0, .int 0, .int 0, .null, .null, .int 0, .null, .int 0, .int 0, .null, .null, .null, .int 0, .int 0, .int 0, .int 0, .int 0, .int 0, .null, .int 0, .int 0, .int 0, .int 0, .int 0, .int 0, .int 0, .int 0, .null]) := by rw [e49, va_up_ne _ _ (by omega)]; exact hc0
  replace hc1 : cs49 270 = .inl (gY G 13, 2400, .inl (fun _ => 0)) := by rw [e49, va_up_ne _ _ (by omega)]; exact hc1
  replace hc2 : cs49 271 = .inl (gY G 14, 4, .inl (fun _ => 0)) := by rw [e49, va_up_ne _ _ (by omega)]; exact hc2
  replace hc3 : cs49 272 = .inl (gY G 14, 4, .inl (fun _ => 0)) := by rw [e49, va_up_ne _ _ (by omega)]; exact hc3
  replace hc4 : cs49 273 = .inl (gY G 14, 4, .inl (fun _ => 0)) := by rw [e49, va_up_ne _ _ (by omega)]; exact hc4
  replace hc5 : cs49 274 = .inl (gY G 14, 16, .inl (fun _ => 0)) := by rw [e49, va_up_ne _ _ (by omega)]; exact hc5
  replace hc6 : cs49 275 = .inl (gY G 14, 104, .inl (fun _ => 0)) := by rw [e49, va_up_ne _ _ (by omega)]; exact hc6
  replace hc7 : cs49 276 = .inl (gY G 14, 1072, .inl (fun _ => 0)) := by rw [e49, va_up_ne _ _ (by omega)]; exact hc7
  replace hc8 : cs49 277 = .inl (gY G 14, 968, .inl (fun _ => 0)) := by rw [e49, va_up_ne _ _ (by omega)]; exact hc8
  replace hc9 : cs49 278 = .inl (gY G 14, 136, .inl (fun _ => 0)) := by rw [e49, va_up_ne _ _ (by omega)]; exact hc9
  replace hc10 : cs49 279 = .inl (gY G 14, 134, .inl (fun _ => 0)) := by rw [e49, va_up_ne _ _ (by omega)]; exact hc10
  replace hc11 : cs49 280 = .inl (gY G 14, 3, .inl (fun _ => 0)) := by rw [e49, va_up_ne _ _ (by omega)]; exact hc11
  replace hc12 : cs49 281 = .inl (gY G 14, 10, .inl (fun _ => 0)) := by rw [e49, va_up_ne _ _ (by omega)]; exact hc12
  replace hc13 : cs49 282 = .inl (gY G 14, 10, .inl (fun _ => 0)) := by rw [e49, va_up_ne _ _ (by omega)]; exact hc13
  replace hc14 : cs49 283 = .inl (gY G 14, 10, .inl (fun _ => 0)) := by rw [e49, va_up_ne _ _ (by omega)]; exact hc14
  replace hc15 : cs49 284 = .inl (gY G 14, 10, .inl (fun _ => 0)) := by rw [e49, va_up_ne _ _ (by omega)]; exact hc15
  replace hc16 : cs49 285 = .inl (gY G 14, 10, .inl (fun _ => 0)) := by rw [e49, va_up_ne _ _ (by omega)]; exact hc16
  replace hc17 : cs49 286 = .inl (gY G 14, 4, .inl (fun _ => 0)) := by rw [e49, va_up_ne _ _ (by omega)]; exact hc17
  replace hc18 : cs49 287 = .inl (gY G 14, 4, .inl (fun _ => 0)) := by rw [e49, va_up_ne _ _ (by omega)]; exact hc18
  replace hc19 : cs49 288 = .inl (gY G 14, 4, .inl (fun _ => 0)) := by rw [e49, va_up_ne _ _ (by omega)]; exact hc19
  replace hc20 : cs49 289 = .inl (gY G 14, 4, .inl (fun _ => 0)) := by rw [e49, va_up_ne _ _ (by omega)]; exact hc20
  replace hc21 : cs49 290 = .inl (gY G 14, 4, .inl (fun _ => 0)) := by rw [e49, va_up_ne _ _ (by omega)]; exact hc21
  replace hc22 : cs49 291 = .inl (gY G 14, 4, .inl (fun _ => 0)) := by rw [e49, va_up_ne _ _ (by omega)]; exact hc22
  replace hc23 : cs49 292 = .inl (gY G 14, 40, .inl (fun _ => 0)) := by rw [e49, va_up_ne _ _ (by omega)]; exact hc23
  replace hc24 : cs49 293 = .inl (gY G 14, 40, .inl (fun _ => 0)) := by rw [e49, va_up_ne _ _ (by omega)]; exact hc24
  have hc25 : cs49 294 = .inl (gY G 14, 40, .inl (fun _ => 0)) := by rw [e49]; exact va_up_self _ _ _
  replace hlo : ∀ n, n < 269 → cs49 n = cs n := fun n a => by rw [e49, va_up_ne _ _ (by omega)] <;> exact hlo n a
  clear e49
  refine ry_putF ff_X12_83 rfl (by omega) hc0 rfl rfl (nlt rfl) dX12_init_196 ?_
  refine ry_cs (fun cs50 e50 => ?_)
  replace hc1 : cs50 270 = .inl (gY G 13, 2400, .inl (fun _ => 0)) := by rw [e50, va_up_ne _ _ (by omega)]; exact hc1
  replace hc2 : cs50 271 = .inl (gY G 14, 4, .inl (fun _ => 0)) := by rw [e50, va_up_ne _ _ (by omega)]; exact hc2
  replace hc3 : cs50 272 = .inl (gY G 14, 4, .inl (fun _ => 0)) := by rw [e50, va_up_ne _ _ (by omega)]; exact hc3
  replace hc4 : cs50 273 = .inl (gY G 14, 4, .inl (fun _ => 0)) := by rw [e50, va_up_ne _ _ (by omega)]; exact hc4
  replace hc5 : cs50 274 = .inl (gY G 14, 16, .inl (fun _ => 0)) := by rw [e50, va_up_ne _ _ (by omega)]; exact hc5
  replace hc6 : cs50 275 = .inl (gY G 14, 104, .inl (fun _ => 0)) := by rw [e50, va_up_ne _ _ (by omega)]; exact hc6
  replace hc7 : cs50 276 = .inl (gY G 14, 1072, .inl (fun _ => 0)) := by rw [e50, va_up_ne _ _ (by omega)]; exact hc7
  replace hc8 : cs50 277 = .inl (gY G 14, 968, .inl (fun _ => 0)) := by rw [e50, va_up_ne _ _ (by omega)]; exact hc8
  replace hc9 : cs50 278 = .inl (gY G 14, 136, .inl (fun _ => 0)) := by rw [e50, va_up_ne _ _ (by omega)]; exact hc9
  replace hc10 : cs50 279 = .inl (gY G 14, 134, .inl (fun _ => 0)) := by rw [e50, va_up_ne _ _ (by omega)]; exact hc10
  replace hc11 : cs50 280 = .inl (gY G 14, 3, .inl (fun _ => 0)) := by rw [e50, va_up_ne _ _ (by omega)]; exact hc11
  replace hc12 : cs50 281 = .inl (gY G 14, 10, .inl (fun _ => 0)) := by rw [e50, va_up_ne _ _ (by omega)]; exact hc12
  replace hc13 : cs50 282 = .inl (gY G 14, 10, .inl (fun _ => 0)) := by rw [e50, va_up_ne _ _ (by omega)]; exact hc13
  replace hc14 : cs50 283 = .inl (gY G 14, 10, .inl (fun _ => 0)) := by rw [e50, va_up_ne _ _ (by omega)]; exact hc14
  replace hc15 : cs50 284 = .inl (gY G 14, 10, .inl (fun _ => 0)) := by rw [e50, va_up_ne _ _ (by omega)]; exact hc15
  replace hc16 : cs50 285 = .inl (gY G 14, 10, .inl (fun _ => 0)) := by rw [e50, va_up_ne _ _ (by omega)]; exact hc16
  replace hc17 : cs50 286 = .inl (gY G 14, 4, .inl (fun _ => 0)) := by rw [e50, va_up_ne _ _ (by omega)]; exact hc17
  replace hc18 : cs50 287 = .inl (gY G 14, 4, .inl (fun _ => 0)) := by rw [e50, va_up_ne _ _ (by omega)]; exact hc18
  replace hc19 : cs50 288 = .inl (gY G 14, 4, .inl (fun _ => 0)) := by rw [e50, va_up_ne _ _ (by omega)]; exact hc19
  replace hc20 : cs50 289 = .inl (gY G 14, 4, .inl (fun _ => 0)) := by rw [e50, va_up_ne _ _ (by omega)]; exact hc20
  replace hc21 : cs50 290 = .inl (gY G 14, 4, .inl (fun _ => 0)) := by rw [e50, va_up_ne _ _ (by omega)]; exact hc21
  replace hc22 : cs50 291 = .inl (gY G 14, 4, .inl (fun _ => 0)) := by rw [e50, va_up_ne _ _ (by omega)]; exact hc22
  replace hc23 : cs50 292 = .inl (gY G 14, 40, .inl (fun _ => 0)) := by rw [e50, va_up_ne _ _ (by omega)]; exact hc23
  replace hc24 : cs50 293 = .inl (gY G 14, 40, .inl (fun _ => 0)) := by rw [e50, va_up_ne _ _ (by omega)]; exact hc24
  replace hc25 : cs50 294 = .inl (gY G 14, 40, .inl (fun _ => 0)) := by rw [e50, va_up_ne _ _ (by omega)]; exact hc25
  replace hc0 : cs50 269 = .inr (12, [.int 0, .ref (gA G 270), .ref (gA G 271), .ref (gA G 272), .ref (gA G 273), .ref (gA G 274), .ref (gA G 275), .ref (gA G 276), .ref (gA G 277), .ref (gA G 278), .int 0, .int 0, .int 0, .int 0, .int 0, .long 0, .int 0, .int 0, .int 0, .ref (gA G 279), .ref (gA G 280), .int 0, .int 0, .int 0, .int 0, .int 0, .int 0, .int 0, .int 0, .int 0, .int 0, .ref (gA G 281), .ref (gA G 282), .ref (gA G 283), .ref (gA G 284), .ref (gA G 285), .ref (gA G 286), .ref (gA G 287), .ref (gA G 288), .ref (gA G 289), .ref (gA G 290), .ref (gA G 291), .ref (gA G 292), .ref (gA G 293), .ref (gA G 294), .null, .null, .null, .null, .null, .null, .null, .null, .null, .int 0, .int 0, .int 0, .int 0, .int 0, .int 0, .null, .null, .int 0, .int 0, .int 0, .int 0, .int 0, .null, .null, .int 0, .null, .int 0, .int 0, .null, .null, .null, .int 0, .int 0, .int 0, .int 0, .int 0, .int 0, .null, .int 0, .int 0, .int 0, .int 0, .int 0, .int 0, .int 0, .int 0, .null]) := by rw [e50]; exact va_up_self _ _ _
  replace hlo : ∀ n, n < 269 → cs50 n = cs n := fun n a => by rw [e50, va_up_ne _ _ (by omega)] <;> exact hlo n a
  clear e50
  refine ry_aload_n 0 dX12_init_199 rfl rfl ?_
  refine ry_bipush (v := 64) dX12_init_200 rfl ?_
  refine ry_newa (κ := 14) (n := 64) (atype := .int) (ty := .int) (t0 := 1) rfl wa_int rfl (fun _ _ => Iff.rfl) rfl (by decide) rfl (by decide) (Nat.le_of_ble_eq_true rfl) (Nat.le_of_ble_eq_true rfl) dX12_init_202 ?_
  refine ry_cs (fun cs51 e51 => ?_)
  replace hc0 : cs51 269 = .inr (12, [.int 0, .ref (gA G 270), .ref (gA G 271), .ref (gA G 272), .ref (gA G 273), .ref (gA G 274), .ref (gA G 275), .ref (gA G 276), .ref (gA G 277), .ref (gA G 278), .int 0, .int 0, .int 0, .int 0, .int 0, .long 0, .int 0, .int 0, .int 0, .ref (gA G 279), .ref (gA G 280), .int 0, .int 0, .int 0, .int 0, .int 0, .int 0, .int 0, .int 0, .int 0, .int 0, .ref (gA G 281), .ref (gA G 282), .ref (gA G 283), .ref (gA G 284), .ref (gA G 285), .ref (gA G 286), .ref (gA G 287), .ref (gA G 288), .ref (gA G 289), .ref (gA G 290), .ref (gA G 291), .ref (gA G 292), .ref (gA G 293), .ref (gA G 294), .null, .null, .null, .null, .null, .null, .null, .null, .null, .int 0, .int 0, .int 0, .int 0, .int 0, .int 0, .null, .null, .int 0, .int 0, .int 0, .int 0, .int 0, .null, .null, .int 0, .null, .int 0, .int 0, .null, .null, .null, .int 0, .int 0, .int 0, .int 0, .int 0, .int 0, .null, .int 0, .int 0, .int 0, .int 0, .int 0, .int 0, .int 0, .int 0, .null]) := by rw [e51, va_up_ne _ _ (by omega)]; exact hc0
  replace hc1 : cs51 270 = .inl (gY G 13, 2400, .inl (fun _ => 0)) := by rw [e51, va_up_ne _ _ (by omega)]; exact hc1
  replace hc2 : cs51 271 = .inl (gY G 14, 4, .inl (fun _ => 0)) := by rw [e51, va_up_ne _ _ (by omega)]; exact hc2
  replace hc3 : cs51 272 = .inl (gY G 14, 4, .inl (fun _ => 0)) := by rw [e51, va_up_ne _ _ (by omega)]; exact hc3
  replace hc4 : cs51 273 = .inl (gY G 14, 4, .inl (fun _ => 0)) := by rw [e51, va_up_ne _ _ (by omega)]; exact hc4
  replace hc5 : cs51 274 = .inl (gY G 14, 16, .inl (fun _ => 0)) := by rw [e51, va_up_ne _ _ (by omega)]; exact hc5
  replace hc6 : cs51 275 = .inl (gY G 14, 104, .inl (fun _ => 0)) := by rw [e51, va_up_ne _ _ (by omega)]; exact hc6
  replace hc7 : cs51 276 = .inl (gY G 14, 1072, .inl (fun _ => 0)) := by rw [e51, va_up_ne _ _ (by omega)]; exact hc7
  replace hc8 : cs51 277 = .inl (gY G 14, 968, .inl (fun _ => 0)) := by rw [e51, va_up_ne _ _ (by omega)]; exact hc8
  replace hc9 : cs51 278 = .inl (gY G 14, 136, .inl (fun _ => 0)) := by rw [e51, va_up_ne _ _ (by omega)]; exact hc9
  replace hc10 : cs51 279 = .inl (gY G 14, 134, .inl (fun _ => 0)) := by rw [e51, va_up_ne _ _ (by omega)]; exact hc10
  replace hc11 : cs51 280 = .inl (gY G 14, 3, .inl (fun _ => 0)) := by rw [e51, va_up_ne _ _ (by omega)]; exact hc11
  replace hc12 : cs51 281 = .inl (gY G 14, 10, .inl (fun _ => 0)) := by rw [e51, va_up_ne _ _ (by omega)]; exact hc12
  replace hc13 : cs51 282 = .inl (gY G 14, 10, .inl (fun _ => 0)) := by rw [e51, va_up_ne _ _ (by omega)]; exact hc13
  replace hc14 : cs51 283 = .inl (gY G 14, 10, .inl (fun _ => 0)) := by rw [e51, va_up_ne _ _ (by omega)]; exact hc14
  replace hc15 : cs51 284 = .inl (gY G 14, 10, .inl (fun _ => 0)) := by rw [e51, va_up_ne _ _ (by omega)]; exact hc15
  replace hc16 : cs51 285 = .inl (gY G 14, 10, .inl (fun _ => 0)) := by rw [e51, va_up_ne _ _ (by omega)]; exact hc16
  replace hc17 : cs51 286 = .inl (gY G 14, 4, .inl (fun _ => 0)) := by rw [e51, va_up_ne _ _ (by omega)]; exact hc17
  replace hc18 : cs51 287 = .inl (gY G 14, 4, .inl (fun _ => 0)) := by rw [e51, va_up_ne _ _ (by omega)]; exact hc18
  replace hc19 : cs51 288 = .inl (gY G 14, 4, .inl (fun _ => 0)) := by rw [e51, va_up_ne _ _ (by omega)]; exact hc19
  replace hc20 : cs51 289 = .inl (gY G 14, 4, .inl (fun _ => 0)) := by rw [e51, va_up_ne _ _ (by omega)]; exact hc20
  replace hc21 : cs51 290 = .inl (gY G 14, 4, .inl (fun _ => 0)) := by rw [e51, va_up_ne _ _ (by omega)]; exact hc21
  replace hc22 : cs51 291 = .inl (gY G 14, 4, .inl (fun _ => 0)) := by rw [e51, va_up_ne _ _ (by omega)]; exact hc22
  replace hc23 : cs51 292 = .inl (gY G 14, 40, .inl (fun _ => 0)) := by rw [e51, va_up_ne _ _ (by omega)]; exact hc23
  replace hc24 : cs51 293 = .inl (gY G 14, 40, .inl (fun _ => 0)) := by rw [e51, va_up_ne _ _ (by omega)]; exact hc24
  replace hc25 : cs51 294 = .inl (gY G 14, 40, .inl (fun _ => 0)) := by rw [e51, va_up_ne _ _ (by omega)]; exact hc25
  have hc26 : cs51 295 = .inl (gY G 14, 64, .inl (fun _ => 0)) := by rw [e51]; exact va_up_self _ _ _
  replace hlo : ∀ n, n < 269 → cs51 n = cs n := fun n a => by rw [e51, va_up_ne _ _ (by omega)] <;> exact hlo n a
  clear e51
  refine ry_putF ff_X12_86 rfl (by omega) hc0 rfl rfl (nlt rfl) dX12_init_204 ?_
  refine ry_cs (fun cs52 e52 => ?_)
  replace hc1 : cs52 270 = .inl (gY G 13, 2400, .inl (fun _ => 0)) := by rw [e52, va_up_ne _ _ (by omega)]; exact hc1
  replace hc2 : cs52 271 = .inl (gY G 14, 4, .inl (fun _ => 0)) := by rw [e52, va_up_ne _ _ (by omega)]; exact hc2
  replace hc3 : cs52 272 = .inl (gY G 14, 4, .inl (fun _ => 0)) := by rw [e52, va_up_ne _ _ (by omega)]; exact hc3
  replace hc4 : cs52 273 = .inl (gY G 14, 4, .inl (fun _ => 0)) := by rw [e52, va_up_ne _ _ (by omega)]; exact hc4
  replace hc5 : cs52 274 = .inl (gY G 14, 16, .inl (fun _ => 0)) := by rw [e52, va_up_ne _ _ (by omega)]; exact hc5
  replace hc6 : cs52 275 = .inl (gY G 14, 104, .inl (fun _ => 0)) := by rw [e52, va_up_ne _ _ (by omega)]; exact hc6
  replace hc7 : cs52 276 = .inl (gY G 14, 1072, .inl (fun _ => 0)) := by rw [e52, va_up_ne _ _ (by omega)]; exact hc7
  replace hc8 : cs52 277 = .inl (gY G 14, 968, .inl (fun _ => 0)) := by rw [e52, va_up_ne _ _ (by omega)]; exact hc8
  replace hc9 : cs52 278 = .inl (gY G 14, 136, .inl (fun _ => 0)) := by rw [e52, va_up_ne _ _ (by omega)]; exact hc9
  replace hc10 : cs52 279 = .inl (gY G 14, 134, .inl (fun _ => 0)) := by rw [e52, va_up_ne _ _ (by omega)]; exact hc10
  replace hc11 : cs52 280 = .inl (gY G 14, 3, .inl (fun _ => 0)) := by rw [e52, va_up_ne _ _ (by omega)]; exact hc11
  replace hc12 : cs52 281 = .inl (gY G 14, 10, .inl (fun _ => 0)) := by rw [e52, va_up_ne _ _ (by omega)]; exact hc12
  replace hc13 : cs52 282 = .inl (gY G 14, 10, .inl (fun _ => 0)) := by rw [e52, va_up_ne _ _ (by omega)]; exact hc13
  replace hc14 : cs52 283 = .inl (gY G 14, 10, .inl (fun _ => 0)) := by rw [e52, va_up_ne _ _ (by omega)]; exact hc14
  replace hc15 : cs52 284 = .inl (gY G 14, 10, .inl (fun _ => 0)) := by rw [e52, va_up_ne _ _ (by omega)]; exact hc15
  replace hc16 : cs52 285 = .inl (gY G 14, 10, .inl (fun _ => 0)) := by rw [e52, va_up_ne _ _ (by omega)]; exact hc16
  replace hc17 : cs52 286 = .inl (gY G 14, 4, .inl (fun _ => 0)) := by rw [e52, va_up_ne _ _ (by omega)]; exact hc17
  replace hc18 : cs52 287 = .inl (gY G 14, 4, .inl (fun _ => 0)) := by rw [e52, va_up_ne _ _ (by omega)]; exact hc18
  replace hc19 : cs52 288 = .inl (gY G 14, 4, .inl (fun _ => 0)) := by rw [e52, va_up_ne _ _ (by omega)]; exact hc19
  replace hc20 : cs52 289 = .inl (gY G 14, 4, .inl (fun _ => 0)) := by rw [e52, va_up_ne _ _ (by omega)]; exact hc20
  replace hc21 : cs52 290 = .inl (gY G 14, 4, .inl (fun _ => 0)) := by rw [e52, va_up_ne _ _ (by omega)]; exact hc21
  replace hc22 : cs52 291 = .inl (gY G 14, 4, .inl (fun _ => 0)) := by rw [e52, va_up_ne _ _ (by omega)]; exact hc22
  replace hc23 : cs52 292 = .inl (gY G 14, 40, .inl (fun _ => 0)) := by rw [e52, va_up_ne _ _ (by omega)]; exact hc23
  replace hc24 : cs52 293 = .inl (gY G 14, 40, .inl (fun _ => 0)) := by rw [e52, va_up_ne _ _ (by omega)]; exact hc24
  replace hc25 : cs52 294 = .inl (gY G 14, 40, .inl (fun _ => 0)) := by rw [e52, va_up_ne _ _ (by omega)]; exact hc25
  replace hc26 : cs52 295 = .inl (gY G 14, 64, .inl (fun _ => 0)) := by rw [e52, va_up_ne _ _ (by omega)]; exact hc26
  replace hc0 : cs52 269 = .inr (12, [.int 0, .ref (gA G 270), .ref (gA G 271), .ref (gA G 272), .ref (gA G 273), .ref (gA G 274), .ref (gA G 275), .ref (gA G 276), .ref (gA G 277), .ref (gA G 278), .int 0, .int 0, .int 0, .int 0, .int 0, .long 0, .int 0, .int 0, .int 0, .ref (gA G 279), .ref (gA G 280), .int 0, .int 0, .int 0, .int 0, .int 0, .int 0, .int 0, .int 0, .int 0, .int 0, .ref (gA G 281), .ref (gA G 282), .ref (gA G 283), .ref (gA G 284), .ref (gA G 285), .ref (gA G 286), .ref (gA G 287), .ref (gA G 288), .ref (gA G 289), .ref (gA G 290), .ref (gA G 291), .ref (gA G 292), .ref (gA G 293), .ref (gA G 294), .ref (gA G 295), .null, .null, .null, .null, .null, .null, .null, .null, .int 0, .int 0, .int 0, .int 0, .int 0, .int 0, .null, .null, .int 0, .int 0, .int 0, .int 0, .int 0, .null, .null, .int 0, .null, .int 0, .int 0, .null, .null, .null, .int 0, .int 0, .int 0, .int 0, .int 0, .int 0, .null, .int 0, .int 0, .int 0, .int 0, .int 0, .int 0, .int 0, .int 0, .null]) := by rw [e52]; exact va_up_self _ _ _
  replace hlo : ∀ n, n < 269 → cs52 n = cs n := fun n a => by rw [e52, va_up_ne _ _ (by omega)] <;> exact hlo n a
  clear e52
  refine ry_aload_n 0 dX12_init_207 rfl rfl ?_
  refine ry_bipush (v := 64) dX12_init_208 rfl ?_
  refine ry_newa (κ := 14) (n := 64) (atype := .int) (ty := .int) (t0 := 1) rfl wa_int rfl (fun _ _ => Iff.rfl) rfl (by decide) rfl (by decide) (Nat.le_of_ble_eq_true rfl) (Nat.le_of_ble_eq_true rfl) dX12_init_210 ?_
  refine ry_cs (fun cs53 e53 => ?_)
  replace hc0 : cs53 269 = .inr (12, [.int 0, .ref (gA G 270), .ref (gA G 271), .ref (gA G 272), .ref (gA G 273), .ref (gA G 274), .ref (gA G 275), .ref (gA G 276), .ref (gA G 277), .ref (gA G 278), .int 0, .int 0, .int 0, .int 0, .int 0, .long 0, .int 0, .int 0, .int 0, .ref (gA G 279), .ref (gA G 280), .int 0, .int 0, .int 0, .int 0, .int 0, .int 0, .int 0, .int 0, .int 0, .int 0, .ref (gA G 281), .ref (gA G 282), .ref (gA G 283), .ref (gA G 284), .ref (gA G 285), .ref (gA G 286), .ref (gA G 287), .ref (gA G 288), .ref (gA G 289), .ref (gA G 290), .ref (gA G 291), .ref (gA G 292), .ref (gA G 293), .ref (gA G 294), .ref (gA G 295), .null, .null, .null, .null, .null, .null, .null, .null, .int 0, .int 0, .int 0, .int 0, .int 0, .int 0, .null, .null, .int 0, .int 0, .int 0, .int 0, .int 0, .null, .null, .int 0, .null, .int 0, .int 0, .null, .null, .null, .int 0, .int 0, .int 0, .int 0, .int 0, .int 0, .null, .int 0, .int 0, .int 0, .int 0, .int 0, .int 0, .int 0, .int 0, .null]) := by rw [e53, va_up_ne _ _ (by omega)]; exact hc0
  replace hc1 : cs53 270 = .inl (gY G 13, 2400, .inl (fun _ => 0)) := by rw [e53, va_up_ne _ _ (by omega)]; exact hc1
  replace hc2 : cs53 271 = .inl (gY G 14, 4, .inl (fun _ => 0)) := by rw [e53, va_up_ne _ _ (by omega)]; exact hc2
  replace hc3 : cs53 272 = .inl (gY G 14, 4, .inl (fun _ => 0)) := by rw [e53, va_up_ne _ _ (by omega)]; exact hc3
  replace hc4 : cs53 273 = .inl (gY G 14, 4, .inl (fun _ => 0)) := by rw [e53, va_up_ne _ _ (by omega)]; exact hc4
  replace hc5 : cs53 274 = .inl (gY G 14, 16, .inl (fun _ => 0)) := by rw [e53, va_up_ne _ _ (by omega)]; exact hc5
  replace hc6 : cs53 275 = .inl (gY G 14, 104, .inl (fun _ => 0)) := by rw [e53, va_up_ne _ _ (by omega)]; exact hc6
  replace hc7 : cs53 276 = .inl (gY G 14, 1072, .inl (fun _ => 0)) := by rw [e53, va_up_ne _ _ (by omega)]; exact hc7
  replace hc8 : cs53 277 = .inl (gY G 14, 968, .inl (fun _ => 0)) := by rw [e53, va_up_ne _ _ (by omega)]; exact hc8
  replace hc9 : cs53 278 = .inl (gY G 14, 136, .inl (fun _ => 0)) := by rw [e53, va_up_ne _ _ (by omega)]; exact hc9
  replace hc10 : cs53 279 = .inl (gY G 14, 134, .inl (fun _ => 0)) := by rw [e53, va_up_ne _ _ (by omega)]; exact hc10
  replace hc11 : cs53 280 = .inl (gY G 14, 3, .inl (fun _ => 0)) := by rw [e53, va_up_ne _ _ (by omega)]; exact hc11
  replace hc12 : cs53 281 = .inl (gY G 14, 10, .inl (fun _ => 0)) := by rw [e53, va_up_ne _ _ (by omega)]; exact hc12
  replace hc13 : cs53 282 = .inl (gY G 14, 10, .inl (fun _ => 0)) := by rw [e53, va_up_ne _ _ (by omega)]; exact hc13
  replace hc14 : cs53 283 = .inl (gY G 14, 10, .inl (fun _ => 0)) := by rw [e53, va_up_ne _ _ (by omega)]; exact hc14
  replace hc15 : cs53 284 = .inl (gY G 14, 10, .inl (fun _ => 0)) := by rw [e53, va_up_ne _ _ (by omega)]; exact hc15
  replace hc16 : cs53 285 = .inl (gY G 14, 10, .inl (fun _ => 0)) := by rw [e53, va_up_ne _ _ (by omega)]; exact hc16
  replace hc17 : cs53 286 = .inl (gY G 14, 4, .inl (fun _ => 0)) := by rw [e53, va_up_ne _ _ (by omega)]; exact hc17
  replace hc18 : cs53 287 = .inl (gY G 14, 4, .inl (fun _ => 0)) := by rw [e53, va_up_ne _ _ (by omega)]; exact hc18
  replace hc19 : cs53 288 = .inl (gY G 14, 4, .inl (fun _ => 0)) := by rw [e53, va_up_ne _ _ (by omega)]; exact hc19
  replace hc20 : cs53 289 = .inl (gY G 14, 4, .inl (fun _ => 0)) := by rw [e53, va_up_ne _ _ (by omega)]; exact hc20
  replace hc21 : cs53 290 = .inl (gY G 14, 4, .inl (fun _ => 0)) := by rw [e53, va_up_ne _ _ (by omega)]; exact hc21
  replace hc22 : cs53 291 = .inl (gY G 14, 4, .inl (fun _ => 0)) := by rw [e53, va_up_ne _ _ (by omega)]; exact hc22
  replace hc23 : cs53 292 = .inl (gY G 14, 40, .inl (fun _ => 0)) := by rw [e53, va_up_ne _ _ (by omega)]; exact hc23
  replace hc24 : cs53 293 = .inl (gY G 14, 40, .inl (fun _ => 0)) := by rw [e53, va_up_ne _ _ (by omega)]; exact hc24
  replace hc25 : cs53 294 = .inl (gY G 14, 40, .inl (fun _ => 0)) := by rw [e53, va_up_ne _ _ (by omega)]; exact hc25
  replace hc26 : cs53 295 = .inl (gY G 14, 64, .inl (fun _ => 0)) := by rw [e53, va_up_ne _ _ (by omega)]; exact hc26
  have hc27 : cs53 296 = .inl (gY G 14, 64, .inl (fun _ => 0)) := by rw [e53]; exact va_up_self _ _ _
  replace hlo : ∀ n, n < 269 → cs53 n = cs n := fun n a => by rw [e53, va_up_ne _ _ (by omega)] <;> exact hlo n a
  clear e53
  refine ry_putF ff_X12_89 rfl (by omega) hc0 rfl rfl (nlt rfl) dX12_init_212 ?_
  refine ry_cs (fun cs54 e54 => ?_)
  replace hc1 : cs54 270 = .inl (gY G 13, 2400, .inl (fun _ => 0)) := by rw [e54, va_up_ne _ _ (by omega)]; exact hc1
  replace hc2 : cs54 271 = .inl (gY G 14, 4, .inl (fun _ => 0)) := by rw [e54, va_up_ne _ _ (by omega)]; exact hc2
  replace hc3 : cs54 272 = .inl (gY G 14, 4, .inl (fun _ => 0)) := by rw [e54, va_up_ne _ _ (by omega)]; exact hc3
  replace hc4 : cs54 273 = .inl (gY G 14, 4, .inl (fun _ => 0)) := by rw [e54, va_up_ne _ _ (by omega)]; exact hc4
  replace hc5 : cs54 274 = .inl (gY G 14, 16, .inl (fun _ => 0)) := by rw [e54, va_up_ne _ _ (by omega)]; exact hc5
  replace hc6 : cs54 275 = .inl (gY G 14, 104, .inl (fun _ => 0)) := by rw [e54, va_up_ne _ _ (by omega)]; exact hc6
  replace hc7 : cs54 276 = .inl (gY G 14, 1072, .inl (fun _ => 0)) := by rw [e54, va_up_ne _ _ (by omega)]; exact hc7
  replace hc8 : cs54 277 = .inl (gY G 14, 968, .inl (fun _ => 0)) := by rw [e54, va_up_ne _ _ (by omega)]; exact hc8
  replace hc9 : cs54 278 = .inl (gY G 14, 136, .inl (fun _ => 0)) := by rw [e54, va_up_ne _ _ (by omega)]; exact hc9
  replace hc10 : cs54 279 = .inl (gY G 14, 134, .inl (fun _ => 0)) := by rw [e54, va_up_ne _ _ (by omega)]; exact hc10
  replace hc11 : cs54 280 = .inl (gY G 14, 3, .inl (fun _ => 0)) := by rw [e54, va_up_ne _ _ (by omega)]; exact hc11
  replace hc12 : cs54 281 = .inl (gY G 14, 10, .inl (fun _ => 0)) := by rw [e54, va_up_ne _ _ (by omega)]; exact hc12
  replace hc13 : cs54 282 = .inl (gY G 14, 10, .inl (fun _ => 0)) := by rw [e54, va_up_ne _ _ (by omega)]; exact hc13
  replace hc14 : cs54 283 = .inl (gY G 14, 10, .inl (fun _ => 0)) := by rw [e54, va_up_ne _ _ (by omega)]; exact hc14
  replace hc15 : cs54 284 = .inl (gY G 14, 10, .inl (fun _ => 0)) := by rw [e54, va_up_ne _ _ (by omega)]; exact hc15
  replace hc16 : cs54 285 = .inl (gY G 14, 10, .inl (fun _ => 0)) := by rw [e54, va_up_ne _ _ (by omega)]; exact hc16
  replace hc17 : cs54 286 = .inl (gY G 14, 4, .inl (fun _ => 0)) := by rw [e54, va_up_ne _ _ (by omega)]; exact hc17
  replace hc18 : cs54 287 = .inl (gY G 14, 4, .inl (fun _ => 0)) := by rw [e54, va_up_ne _ _ (by omega)]; exact hc18
  replace hc19 : cs54 288 = .inl (gY G 14, 4, .inl (fun _ => 0)) := by rw [e54, va_up_ne _ _ (by omega)]; exact hc19
  replace hc20 : cs54 289 = .inl (gY G 14, 4, .inl (fun _ => 0)) := by rw [e54, va_up_ne _ _ (by omega)]; exact hc20
  replace hc21 : cs54 290 = .inl (gY G 14, 4, .inl (fun _ => 0)) := by rw [e54, va_up_ne _ _ (by omega)]; exact hc21
  replace hc22 : cs54 291 = .inl (gY G 14, 4, .inl (fun _ => 0)) := by rw [e54, va_up_ne _ _ (by omega)]; exact hc22
  replace hc23 : cs54 292 = .inl (gY G 14, 40, .inl (fun _ => 0)) := by rw [e54, va_up_ne _ _ (by omega)]; exact hc23
  replace hc24 : cs54 293 = .inl (gY G 14, 40, .inl (fun _ => 0)) := by rw [e54, va_up_ne _ _ (by omega)]; exact hc24
  replace hc25 : cs54 294 = .inl (gY G 14, 40, .inl (fun _ => 0)) := by rw [e54, va_up_ne _ _ (by omega)]; exact hc25
  replace hc26 : cs54 295 = .inl (gY G 14, 64, .inl (fun _ => 0)) := by rw [e54, va_up_ne _ _ (by omega)]; exact hc26
  replace hc27 : cs54 296 = .inl (gY G 14, 64, .inl (fun _ => 0)) := by rw [e54, va_up_ne _ _ (by omega)]; exact hc27
  replace hc0 : cs54 269 = .inr (12, [.int 0, .ref (gA G 270), .ref (gA G 271), .ref (gA G 272), .ref (gA G 273), .ref (gA G 274), .ref (gA G 275), .ref (gA G 276), .ref (gA G 277), .ref (gA G 278), .int 0, .int 0, .int 0, .int 0, .int 0, .long 0, .int 0, .int 0, .int 0, .ref (gA G 279), .ref (gA G 280), .int 0, .int 0, .int 0, .int 0, .int 0, .int 0, .int 0, .int 0, .int 0, .int 0, .ref (gA G 281), .ref (gA G 282), .ref (gA G 283), .ref (gA G 284), .ref (gA G 285), .ref (gA G 286), .ref (gA G 287), .ref (gA G 288), .ref (gA G 289), .ref (gA G 290), .ref (gA G 291), .ref (gA G 292), .ref (gA G 293), .ref (gA G 294), .ref (gA G 295), .ref (gA G 296), .null, .null, .null, .null, .null, .null, .null, .int 0, .int 0, .int 0, .int 0, .int 0, .int 0, .null, .null, .int 0, .int 0, .int 0, .int 0, .int 0, .null, .null, .int 0, .null, .int 0, .int 0, .null, .null, .null, .int 0, .int 0, .int 0, .int 0, .int 0, .int 0, .null, .int 0, .int 0, .int 0, .int 0, .int 0, .int 0, .int 0, .int 0, .null]) := by rw [e54]; exact va_up_self _ _ _
  replace hlo : ∀ n, n < 269 → cs54 n = cs n := fun n a => by rw [e54, va_up_ne _ _ (by omega)] <;> exact hlo n a
  clear e54
  refine ry_aload_n 0 dX12_init_215 rfl rfl ?_
  refine ry_bipush (v := 64) dX12_init_216 rfl ?_
  refine ry_newa (κ := 14) (n := 64) (atype := .int) (ty := .int) (t0 := 1) rfl wa_int rfl (fun _ _ => Iff.rfl) rfl (by decide) rfl (by decide) (Nat.le_of_ble_eq_true rfl) (Nat.le_of_ble_eq_true rfl) dX12_init_218 ?_
  refine ry_cs (fun cs55 e55 => ?_)
  replace hc0 : cs55 269 = .inr (12, [.int 0, .ref (gA G 270), .ref (gA G 271), .ref (gA G 272), .ref (gA G 273), .ref (gA G 274), .ref (gA G 275), .ref (gA G 276), .ref (gA G 277), .ref (gA G 278), .int 0, .int 0, .int 0, .int 0, .int 0, .long 0, .int 0, .int 0, .int 0, .ref (gA G 279), .ref (gA G 280), .int 0, .int 0, .int 0, .int 0, .int 0, .int 0, .int 0, .int 0, .int 0, .int 0, .ref (gA G 281), .ref (gA G 282), .ref (gA G 283), .ref (gA G 284), .ref (gA G 285), .ref (gA G 286), .ref (gA G 287), .ref (gA G 288), .ref (gA G 289), .ref (gA G 290), .ref (gA G 291), .ref (gA G 292), .ref (gA G 293), .ref (gA G 294), .ref (gA G 295), .ref (gA G 296), .null, .null, .null, .null, .null, .null, .null, .int 0, .int 0, .int 0, .int 0, .int 0, .int 0, .null, .null, .int 0, .int 0, .int 0, .int 0, .int 0, .null, .null, .int 0, .null, .int 0, .int 0, .null, .null, .null, .int 0, .int 0, .int 0, .int 0, .int 0, .int 0, .null, .int 0, .int 0, .int 0, .int 0, .int 0, .int 0, .int 0, .int 0, .null]) := by rw [e55, va_up_ne _ _ (by omega)]; exact hc0
  replace hc1 : cs55 270 = .inl (gY G 13, 2400, .inl (fun _ => 0)) := by rw [e55, va_up_ne _ _ (by omega)]; exact hc1
  replace hc2 : cs55 271 = .inl (gY G 14, 4, .inl (fun _ => 0)) := by rw [e55, va_up_ne _ _ (by omega)]; exact hc2
  replace hc3 : cs55 272 = .inl (gY G 14, 4, .inl (fun _ => 0)) := by rw [e55, va_up_ne _ _ (by omega)]; exact hc3
  replace hc4 : cs55 273 = .inl (gY G 14, 4, .inl (fun _ => 0)) := by rw [e55, va_up_ne _ _ (by omega)]; exact hc4
  replace hc5 : cs55 274 = .inl (gY G 14, 16, .inl (fun _ => 0)) := by rw [e55, va_up_ne _ _ (by omega)]; exact hc5
  replace hc6 : cs55 275 = .inl (gY G 14, 104, .inl (fun _ => 0)) := by rw [e55, va_up_ne _ _ (by omega)]; exact hc6
  replace hc7 : cs55 276 = .inl (gY G 14, 1072, .inl (fun _ => 0)) := by rw [e55, va_up_ne _ _ (by omega)]; exact hc7
  replace hc8 : cs55 277 = .inl (gY G 14, 968, .inl (fun _ => 0)) := by rw [e55, va_up_ne _ _ (by omega)]; exact hc8
  replace hc9 : cs55 278 = .inl (gY G 14, 136, .inl (fun _ => 0)) := by rw [e55, va_up_ne _ _ (by omega)]; exact hc9
  replace hc10 : cs55 279 = .inl (gY G 14, 134, .inl (fun _ => 0)) := by rw [e55, va_up_ne _ _ (by omega)]; exact hc10
  replace hc11 : cs55 280 = .inl (gY G 14, 3, .inl (fun _ => 0)) := by rw [e55, va_up_ne _ _ (by omega)]; exact hc11
  replace hc12 : cs55 281 = .inl (gY G 14, 10, .inl (fun _ => 0)) := by rw [e55, va_up_ne _ _ (by omega)]; exact hc12
  replace hc13 : cs55 282 = .inl (gY G 14, 10, .inl (fun _ => 0)) := by rw [e55, va_up_ne _ _ (by omega)]; exact hc13
  replace hc14 : cs55 283 = .inl (gY G 14, 10, .inl (fun _ => 0)) := by rw [e55, va_up_ne _ _ (by omega)]; exact hc14
  replace hc15 : cs55 284 = .inl (gY G 14, 10, .inl (fun _ => 0)) := by rw [e55, va_up_ne _ _ (by omega)]; exact hc15
  replace hc16 : cs55 285 = .inl (gY G 14, 10, .inl (fun _ => 0)) := by rw [e55, va_up_ne _ _ (by omega)]; exact hc16
  replace hc17 : cs55 286 = .inl (gY G 14, 4, .inl (fun _ => 0)) := by rw [e55, va_up_ne _ _ (by omega)]; exact hc17
  replace hc18 : cs55 287 = .inl (gY G 14, 4, .inl (fun _ => 0)) := by rw [e55, va_up_ne _ _ (by omega)]; exact hc18
  replace hc19 : cs55 288 = .inl (gY G 14, 4, .inl (fun _ => 0)) := by rw [e55, va_up_ne _ _ (by omega)]; exact hc19
  replace hc20 : cs55 289 = .inl (gY G 14, 4, .inl (fun _ => 0)) := by rw [e55, va_up_ne _ _ (by omega)]; exact hc20
  replace hc21 : cs55 290 = .inl (gY G 14, 4, .inl (fun _ => 0)) := by rw [e55, va_up_ne _ _ (by omega)]; exact hc21
  replace hc22 : cs55 291 = .inl (gY G 14, 4, .inl (fun _ => 0)) := by rw [e55, va_up_ne _ _ (by omega)]; exact hc22
  replace hc23 : cs55 292 = .inl (gY G 14, 40, .inl (fun _ => 0)) := by rw [e55, va_up_ne _ _ (by omega)]; exact hc23
  replace hc24 : cs55 293 = .inl (gY G 14, 40, .inl (fun _ => 0)) := by rw [e55, va_up_ne _ _ (by omega)]; exact hc24
  replace hc25 : cs55 294 = .inl (gY G 14, 40, .inl (fun _ => 0)) := by rw [e55, va_up_ne _ _ (by omega)]; exact hc25
  replace hc26 : cs55 295 = .inl (gY G 14, 64, .inl (fun _ => 0)) := by rw [e55, va_up_ne _ _ (by omega)]; exact hc26
  replace hc27 : cs55 296 = .inl (gY G 14, 64, .inl (fun _ => 0)) := by rw [e55, va_up_ne _ _ (by omega)]; exact hc27
  have hc28 : cs55 297 = .inl (gY G 14, 64, .inl (fun _ => 0)) := by rw [e55]; exact va_up_self _ _ _
  replace hlo : ∀ n, n < 269 → cs55 n = cs n := fun n a => by rw [e55, va_up_ne _ _ (by omega)] <;> exact hlo n a
  clear e55
  refine ry_putF ff_X12_92 rfl (by omega) hc0 rfl rfl (nlt rfl) dX12_init_220 ?_
  refine ry_cs (fun cs56 e56 => ?_)
  replace hc1 : cs56 270 = .inl (gY G 13, 2400, .inl (fun _ => 0)) := by rw [e56, va_up_ne _ _ (by omega)]; exact hc1
  replace hc2 : cs56 271 = .inl (gY G 14, 4, .inl (fun _ => 0)) := by rw [e56, va_up_ne _ _ (by omega)]; exact hc2
  replace hc3 : cs56 272 = .inl (gY G 14, 4, .inl (fun _ => 0)) := by rw [e56, va_up_ne _ _ (by omega)]; exact hc3
  replace hc4 : cs56 273 = .inl (gY G 14, 4, .inl (fun _ => 0)) := by rw [e56, va_up_ne _ _ (by omega)]; exact hc4
  replace hc5 : cs56 274 = .inl (gY G 14, 16, .inl (fun _ => 0)) := by rw [e56, va_up_ne _ _ (by omega)]; exact hc5
  replace hc6 : cs56 275 = .inl (gY G 14, 104, .inl (fun _ => 0)) := by rw [e56, va_up_ne _ _ (by omega)]; exact hc6
  replace hc7 : cs56 276 = .inl (gY G 14, 1072, .inl (fun _ => 0)) := by rw [e56, va_up_ne _ _ (by omega)]; exact hc7
  replace hc8 : cs56 277 = .inl (gY G 14, 968, .inl (fun _ => 0)) := by rw [e56, va_up_ne _ _ (by omega)]; exact hc8
  replace hc9 : cs56 278 = .inl (gY G 14, 136, .inl (fun _ => 0)) := by rw [e56, va_up_ne _ _ (by omega)]; exact hc9
  replace hc10 : cs56 279 = .inl (gY G 14, 134, .inl (fun _ => 0)) := by rw [e56, va_up_ne _ _ (by omega)]; exact hc10
  replace hc11 : cs56 280 = .inl (gY G 14, 3, .inl (fun _ => 0)) := by rw [e56, va_up_ne _ _ (by omega)]; exact hc11
  replace hc12 : cs56 281 = .inl (gY G 14, 10, .inl (fun _ => 0)) := by rw [e56, va_up_ne _ _ (by omega)]; exact hc12
  replace hc13 : cs56 282 = .inl (gY G 14, 10, .inl (fun _ => 0)) := by rw [e56, va_up_ne _ _ (by omega)]; exact hc13
  replace hc14 : cs56 283 = .inl (gY G 14, 10, .inl (fun _ => 0)) := by rw [e56, va_up_ne _ _ (by omega)]; exact hc14
  replace hc15 : cs56 284 = .inl (gY G 14, 10, .inl (fun _ => 0)) := by rw [e56, va_up_ne _ _ (by omega)]; exact hc15
  replace hc16 : cs56 285 = .inl (gY G 14, 10, .inl (fun _ => 0)) := by rw [e56, va_up_ne _ _ (by omega)]; exact hc16
  replace hc17 : cs56 286 = .inl (gY G 14, 4, .inl (fun _ => 0)) := by rw [e56, va_up_ne _ _ (by omega)]; exact hc17
  replace hc18 : cs56 287 = .inl (gY G 14, 4, .inl (fun _ => 0)) := by rw [e56, va_up_ne _ _ (by omega)]; exact hc18
  replace hc19 : cs56 288 = .inl (gY G 14, 4, .inl (fun _ => 0)) := by rw [e56, va_up_ne _ _ (by omega)]; exact hc19
  replace hc20 : cs56 289 = .inl (gY G 14, 4, .inl (fun _ => 0)) := by rw [e56, va_up_ne _ _ (by omega)]; exact hc20
  replace hc21 : cs56 290 = .inl (gY G 14, 4, .inl (fun _ => 0)) := by rw [e56, va_up_ne _ _ (by omega)]; exact hc21
  replace hc22 : cs56 291 = .inl (gY G 14, 4, .inl (fun _ => 0)) := by rw [e56, va_up_ne _ _ (by omega)]; exact hc22
  replace hc23 : cs56 292 = .inl (gY G 14, 40, .inl (fun _ => 0)) := by rw [e56, va_up_ne _ _ (by omega)]; exact hc23
  replace hc24 : cs56 293 = .inl (gY G 14, 40, .inl (fun _ => 0)) := by rw [e56, va_up_ne _ _ (by omega)]; exact hc24
  replace hc25 : cs56 294 = .inl (gY G 14, 40, .inl (fun _ => 0)) := by rw [e56, va_up_ne _ _ (by omega)]; exact hc25
  replace hc26 : cs56 295 = .inl (gY G 14, 64, .inl (fun _ => 0)) := by rw [e56, va_up_ne _ _ (by omega)]; exact hc26
  replace hc27 : cs56 296 = .inl (gY G 14, 64, .inl (fun _ => 0)) := by rw [e56, va_up_ne _ _ (by omega)]; exact hc27
  replace hc28 : cs56 297 = .inl (gY G 14, 64, .inl (fun _ => 0)) := by rw [e56, va_up_ne _ _ (by omega)]; exact hc28
  replace hc0 : cs56 269 = .inr (12, [.int 0, .ref (gA G 270), .ref (gA G 271), .ref (gA G 272), .ref (gA G 273), .ref (gA G 274), .ref (gA G 275), .ref (gA G 276), .ref (gA G 277), .ref (gA G 278), .int 0, .int 0, .int 0, .int 0, .int 0, .long 0, .int 0, .int 0, .int 0, .ref (gA G 279), .ref (gA G 280), .int 0, .int 0, .int 0, .int 0, .int 0, .int 0, .int 0, .int 0, .int 0, .int 0, .ref (gA G 281), .ref (gA G 282), .ref (gA G 283), .ref (gA G 284), .ref (gA G 285), .ref (gA G 286), .ref (gA G 287), .ref (gA G 288), .ref (gA G 289), .ref (gA G 290), .ref (gA G 291), .ref (gA G 292), .ref (gA G 293), .ref (gA G 294), .ref (gA G 295), .ref (gA G 296), .ref (gA G 297), .null, .null, .null, .null, .null, .null, .int 0, .int 0, .int 0, .int 0, .int 0, .int 0, .null, .null, .int 0, .int 0, .int 0, .int 0, .int 0, .null, .null, .int 0, .null, .int 0, .int 0, .null, .null, .null, .int 0, .int 0, .int 0, .int 0, .int 0, .int 0, .null, .int 0, .int 0, .int 0, .int 0, .int 0, .int 0, .int 0, .int 0, .null]) := by rw [e56]; exact va_up_self _ _ _
  replace hlo : ∀ n, n < 269 → cs56 n = cs n := fun n a => by rw [e56, va_up_ne _ _ (by omega)] <;> exact hlo n a
  clear e56
  refine ry_aload_n 0 dX12_init_223 rfl rfl ?_
  refine ry_bipush (v := 64) dX12_init_224 rfl ?_
  refine ry_newa (κ := 14) (n := 64) (atype := .int) (ty := .int) (t0 := 1) rfl wa_int rfl (fun _ _ => Iff.rfl) rfl (by decide) rfl (by decide) (Nat.le_of_ble_eq_true rfl) (Nat.le_of_ble_eq_true rfl) dX12_init_226 ?_
  refine ry_cs (fun cs57 e57 => ?_)
  replace hc0 : cs57 269 = .inr (12, [.int 0, .ref (gA G 270), .ref (gA G 271), .ref (gA G 272), .ref (gA G 273), .ref (gA G 274), .ref (gA G 275), .ref (gA G 276), .ref (gA G 277), .ref (gA G 278), .int 0, .int 0, .int 0, .int 0, .int 0, .long 0, .int 0, .int 0, .int 0, .ref (gA G 279), .ref (gA G 280), .int 0, .int 0, .int 0, .int 0, .int 0, .int 0, .int 0, .int 0, .int 0, .int 0, .ref (gA G 281), .ref (gA G 282), .ref (gA G 283), .ref (gA G 284), .ref (gA G 285), .ref (gA G 286), .ref (gA G 287), .ref (gA G 288), .ref (gA G 289), .ref (gA G 290), .ref (gA G 291), .ref (gA G 292), .ref (gA G 293), .ref (gA G 294), .ref (gA G 295), .ref (gA G 296), .ref (gA G 297), .null, .null, .null, .null, .null, .null, .int 0, .int 0, .int 0, .int 0, .int 0, .int 0, .null, .null, .int 0, .int 0, .int 0, .int 0, .int 0, .null, .null, .int 0, .null, .int 0, .int 0, .null, .null, .null, .int 0, .int 0, .int 0, .int 0, .int 0, .int 0, .null, .int 0, .int 0, .int 0, .int 0, .int 0, .int 0, .int 0, .int 0, .null]) := by rw [e57, va_up_ne _ _ (by omega)]; exact hc0
  replace hc1 : cs57 270 = .inl (gY G 13, 2400, .inl (fun _ => 0)) := by rw [e57, va_up_ne _ _ (by omega)]; exact hc1
  replace hc2 : cs57 271 = .inl (gY G 14, 4, .inl (fun _ => 0)) := by rw [e57, va_up_ne _ _ (by omega)]; exact hc2
  replace hc3 : cs57 272 = .inl (gY G 14, 4, .inl (fun _ => 0)) := by rw [e57, va_up_ne _ _ (by omega)]; exact hc3
  replace hc4 : cs57 273 = .inl (gY G 14, 4, .inl (fun _ => 0)) := by rw [e57, va_up_ne _ _ (by omega)]; exact hc4
  replace hc5 : cs57 274 = .inl (gY G 14, 16, .inl (fun _ => 0)) := by rw [e57, va_up_ne _ _ (by omega)]; exact hc5
  replace hc6 : cs57 275 = .inl (gY G 14, 104, .inl (fun _ => 0)) := by rw [e57, va_up_ne _ _ (by omega)]; exact hc6
  replace hc7 : cs57 276 = .inl (gY G 14, 1072, .inl (fun _ => 0)) := by rw [e57, va_up_ne _ _ (by omega)]; exact hc7
  replace hc8 : cs57 277 = .inl (gY G 14, 968, .inl (fun _ => 0)) := by rw [e57, va_up_ne _ _ (by omega)]; exact hc8
  replace hc9 : cs57 278 = .inl (gY G 14, 136, .inl (fun _ => 0)) := by rw [e57, va_up_ne _ _ (by omega)]; exact hc9
  replace hc10 : cs57 279 = .inl (gY G 14, 134, .inl (fun _ => 0)) := by rw [e57, va_up_ne _ _ (by omega)]; exact hc10
  replace hc11 : cs57 280 = .inl (gY G 14, 3, .inl (fun _ => 0)) := by rw [e57, va_up_ne _ _ (by omega)]; exact hc11
  replace hc12 : cs57 281 = .inl (gY G 14, 10, .inl (fun _ => 0)) := by rw [e57, va_up_ne _ _ (by omega)]; exact hc12
  replace hc13 : cs57 282 = .inl (gY G 14, 10, .inl (fun _ => 0)) := by rw [e57, va_up_ne _ _ (by omega)]; exact hc13
  replace hc14 : cs57 283 = .inl (gY G 14, 10, .inl (fun _ => 0)) := by rw [e57, va_up_ne _ _ (by omega)]; exact hc14
  replace hc15 : cs57 284 = .inl (gY G 14, 10, .inl (fun _ => 0)) := by rw [e57, va_up_ne _ _ (by omega)]; exact hc15
  replace hc16 : cs57 285 = .inl (gY G 14, 10, .inl (fun _ => 0)) := by rw [e57, va_up_ne _ _ (by omega)]; exact hc16
  replace hc17 : cs57 286 = .inl (gY G 14, 4, .inl (fun _ => 0)) := by rw [e57, va_up_ne _ _ (by omega)]; exact hc17
  replace hc18 : cs57 287 = .inl (gY G 14, 4, .inl (fun _ => 0)) := by rw [e57, va_up_ne _ _ (by omega)]; exact hc18
  replace hc19 : cs57 288 = .inl (gY G 14, 4, .inl (fun _ => 0)) := by rw [e57, va_up_ne _ _ (by omega)]; exact hc19
  replace hc20 : cs57 289 = .inl (gY G 14, 4, .inl (fun _ => 0)) := by rw [e57, va_up_ne _ _ (by omega)]; exact hc20
  replace hc21 : cs57 290 = .inl (gY G 14, 4, .inl (fun _ => 0)) := by rw [e57, va_up_ne _ _ (by omega)]; exact hc21
  replace hc22 : cs57 291 = .inl (gY G 14, 4, .inl (fun _ => 0)) := by rw [e57, va_up_ne _ _ (by omega)]; exact hc22
  replace hc23 : cs57 292 = .inl (gY G 14, 40, .inl (fun _ => 0)) := by rw [e57, va_up_ne _ _ (by omega)]; exact hc23
  replace hc24 : cs57 293 = .inl (gY G 14, 40, .inl (fun _ => 0)) := by rw [e57, va_up_ne _ _ (by omega)]; exact hc24
  replace hc25 : cs57 294 = .inl (gY G 14, 40, .inl (fun _ => 0)) := by rw [e57, va_up_ne _ _ (by omega)]; exact hc25
  replace hc26 : cs57 295 = .inl (gY G 14, 64, .inl (fun _ => 0)) := by rw [e57, va_up_ne _ _ (by omega)]; exact hc26
  replace hc27 : cs57 296 = .inl (gY G 14, 64, .inl (fun _ => 0)) := by rw [e57, va_up_ne _ _ (by omega)]; exact hc27
  replace hc28 : cs57 297 = .inl (gY G 14, 64, .inl (fun _ => 0)) := by rw [e57, va_up_ne _ _ (by omega)]; exact hc28
  have hc29 : cs57 298 = .inl (gY G 14, 64, .inl (fun _ => 0)) := by rw [e57]; exact va_up_self _ _ _
  replace hlo : ∀ n, n < 269 → cs57 n = cs n := fun n a => by rw [e57, va_up_ne _ _ (by omega)] <;> exact hlo n a
  clear e57
  refine ry_putF ff_X12_95 rfl (by omega) hc0 rfl rfl (nlt rfl) dX12_init_228 ?_
  refine ry_cs (fun cs58 e58 => ?_)
  replace hc1 : cs58 270 = .inl (gY G 13, 2400, .inl (fun _ => 0)) := by rw [e58, va_up_ne _ _ (by omega)]; exact hc1
  replace hc2 : cs58 271 = .inl (gY G 14, 4, .inl (fun _ => 0)) := by rw [e58, va_up_ne _ _ (by omega)]; exact hc2
  replace hc3 : cs58 272 = .inl (gY G 14, 4, .inl (fun _ => 0)) := by rw [e58, va_up_ne _ _ (by omega)]; exact hc3
  replace hc4 : cs58 273 = .inl (gY G 14, 4, .inl (fun _ => 0)) := by rw [e58, va_up_ne _ _ (by omega)]; exact hc4
  replace hc5 : cs58 274 = .inl (gY G 14, 16, .inl (fun _ => 0)) := by rw [e58, va_up_ne _ _ (by omega)]; exact hc5
  replace hc6 : cs58 275 = .inl (gY G 14, 104, .inl (fun _ => 0)) := by rw [e58, va_up_ne _ _ (by omega)]; exact hc6
  replace hc7 : cs58 276 = .inl (gY G 14, 1072, .inl (fun _ => 0)) := by rw [e58, va_up_ne _ _ (by omega)]; exact hc7
  replace hc8 : cs58 277 = .inl (gY G 14, 968, .inl (fun _ => 0)) := by rw [e58, va_up_ne _ _ (by omega)]; exact hc8
  replace hc9 : cs58 278 = .inl (gY G 14, 136, .inl (fun _ => 0)) := by rw [e58, va_up_ne _ _ (by omega)]; exact hc9
  replace hc10 : cs58 279 = .inl (gY G 14, 134, .inl (fun _ => 0)) := by rw [e58, va_up_ne _ _ (by omega)]; exact hc10
  replace hc11 : cs58 280 = .inl (gY G 14, 3, .inl (fun _ => 0)) := by rw [e58, va_up_ne _ _ (by omega)]; exact hc11
  replace hc12 : cs58 281 = .inl (gY G 14, 10, .inl (fun _ => 0)) := by rw [e58, va_up_ne _ _ (by omega)]; exact hc12
  replace hc13 : cs58 282 = .inl (gY G 14, 10, .inl (fun _ => 0)) := by rw [e58, va_up_ne _ _ (by omega)]; exact hc13
  replace hc14 : cs58 283 = .inl (gY G 14, 10, .inl (fun _ => 0)) := by rw [e58, va_up_ne _ _ (by omega)]; exact hc14
  replace hc15 : cs58 284 = .inl (gY G 14, 10, .inl (fun _ => 0)) := by rw [e58, va_up_ne _ _ (by omega)]; exact hc15
  replace hc16 : cs58 285 = .inl (gY G 14, 10, .inl (fun _ => 0)) := by rw [e58, va_up_ne _ _ (by omega)]; exact hc16
  replace hc17 : cs58 286 = .inl (gY G 14, 4, .inl (fun _ => 0)) := by rw [e58, va_up_ne _ _ (by omega)]; exact hc17
  replace hc18 : cs58 287 = .inl (gY G 14, 4, .inl (fun _ => 0)) := by rw [e58, va_up_ne _ _ (by omega)]; exact hc18
  replace hc19 : cs58 288 = .inl (gY G 14, 4, .inl (fun _ => 0)) := by rw [e58, va_up_ne _ _ (by omega)]; exact hc19
  replace hc20 : cs58 289 = .inl (gY G 14, 4, .inl (fun _ => 0)) := by rw [e58, va_up_ne _ _ (by omega)]; exact hc20
  replace hc21 : cs58 290 = .inl (gY G 14, 4, .inl (fun _ => 0)) := by rw [e58, va_up_ne _ _ (by omega)]; exact hc21
  replace hc22 : cs58 291 = .inl (gY G 14, 4, .inl (fun _ => 0)) := by rw [e58, va_up_ne _ _ (by omega)]; exact hc22
  replace hc23 : cs58 292 = .inl (gY G 14, 40, .inl (fun _ => 0)) := by rw [e58, va_up_ne _ _ (by omega)]; exact hc23
  replace hc24 : cs58 293 = .inl (gY G 14, 40, .inl (fun _ => 0)) := by rw [e58, va_up_ne _ _ (by omega)]; exact hc24
  replace hc25 : cs58 294 = .inl (gY G 14, 40, .inl (fun _ => 0)) := by rw [e58, va_up_ne _ _ (by omega)]; exact hc25
  replace hc26 : cs58 295 = .inl (gY G 14, 64, .inl (fun _ => 0)) := by rw [e58, va_up_ne _ _ (by omega)]; exact hc26
  replace hc27 : cs58 296 = .inl (gY G 14, 64, .inl (fun _ => 0)) := by rw [e58, va_up_ne _ _ (by omega)]; exact hc27
  replace hc28 : cs58 297 = .inl (gY G 14, 64, .inl (fun _ => 0)) := by rw [e58, va_up_ne _ _ (by omega)]; exact hc28
  replace hc29 : cs58 298 = .inl (gY G 14, 64, .inl (fun _ => 0)) := by rw [e58, va_up_ne _ _ (by omega)]; exact hc29
  replace hc0 : cs58 269 = .inr (12, [.int 0, .ref (gA G 270), .ref (gA G 271), .ref (gA G 272), .ref (gA G 273), .ref (gA G 274), .ref (gA G 275), .ref (gA G 276), .ref (gA G 277), .ref (gA G 278), .int 0, .int 0, .int 0, .int 0, .int 0, .long 0, .int 0, .int 0, .int 0, .ref (gA G 279), .ref (gA G 280), .int 0, .int 0, .int 0, .int 0, .int 0, .int 0, .int 0, .int 0, .int 0, .int 0, .ref (gA G 281), .ref (gA G 282), .ref (gA G 283), .ref (gA G 284), .ref (gA G 285), .ref (gA G 286), .ref (gA G 287), .ref (gA G 288), .ref (gA G 289), .ref (gA G 290), .ref (gA G 291), .ref (gA G 292), .ref (gA G 293), .ref (gA G 294), .ref (gA G 295), .ref (gA G 296), .ref (gA G 297), .ref (gA G 298), .null, .null, .null, .null, .null, .int 0, .int 0, .int 0, .int 0, .int 0, .int 0, .null, .null, .int 0, .int 0, .int 0, .int 0, .int 0, .null, .null, .int 0, .null, .int 0, .int 0, .null, .null, .null, .int 0, .int 0, .int 0, .int 0, .int 0, .int 0, .null, .int 0, .int 0, .int 0, .int 0, .int 0, .int 0, .int 0, .int 0, .null]) := by rw [e58]; exact va_up_self _ _ _
  replace hlo : ∀ n, n < 269 → cs58 n = cs n := fun n a => by rw [e58, va_up_ne _ _ (by omega)] <;> exact hlo n a
  clear e58
  refine ry_aload_n 0 dX12_init_231 rfl rfl ?_
  refine ry_bipush (v := 64) dX12_init_232 rfl ?_
  refine ry_newa (κ := 14) (n := 64) (atype := .int) (ty := .int) (t0 := 1) rfl wa_int rfl (fun _ _ => Iff.rfl) rfl (by decide) rfl (by decide) (Nat.le_of_ble_eq_true rfl) (Nat.le_of_ble_eq_true rfl) dX12_init_234 ?_
  refine ry_cs (fun cs59 e59 => ?_)
  replace hc0 : cs59 269 = .inr (12, [.int 0, .ref (gA G 270), .ref (gA G 271), .ref (gA G 272), .ref (gA G 273), .ref (gA G 274), .ref (gA G 275), .ref (gA G 276), .ref (gA G 277), .ref (gA G 278), .int 0, .int 0, .int 0, .int 0, .int 0, .long 0, .int 0, .int 0, .int 0, .ref (gA G 279), .ref (gA G 280), .int 0, .int 0, .int 0, .int 0, .int 0, .int 0, .int 0, .int 0, .int 0, .int 0, .ref (gA G 281), .ref (gA G 282), .ref (gA G 283), .ref (gA G 284), .ref (gA G 285), .ref (gA G 286), .ref (gA G 287), .ref (gA G 288), .ref (gA G 289), .ref (gA G 290), .ref (gA G 291), .ref (gA G 292), .ref (gA G 293), .ref (gA G 294), .ref (gA G 295), .ref (gA G 296), .ref (gA G 297), .ref (gA G 298), .null, .null, .null, .null, .null, .int 0, .int 0, .int 0, .int 0, .int 0, .int 0, .null, .null, .int 0, .int 0, .int 0, .int 0, .int 0, .null, .null, .int 0, .null, .int 0, .int 0, .null, .null, .null, .int 0, .int 0, .int 0, .int 0, .int 0, .int 0, .null, .int 0, .int 0, .int 0, .int 0, .int 0, .int 0, .int 0, .int 0, .null]) := by rw [e59, va_up_ne _ _ (by omega)]; exact hc0
  replace hc1 : cs59 270 = .inl (gY G 13, 2400, .inl (fun _ => 0)) := by rw [e59, va_up_ne _ _ (by omega)]; exact hc1
  replace hc2 : cs59 271 = .inl (gY G 14, 4, .inl (fun _ => 0)) := by rw [e59, va_up_ne _ _ (by omega)]; exact hc2
  replace hc3 : cs59 272 = .inl (gY G 14, 4, .inl (fun _ => 0)) := by rw [e59, va_up_ne _ _ (by omega)]; exact hc3
  replace hc4 : cs59 273 = .inl (gY G 14, 4, .inl (fun _ => 0)) := by rw [e59, va_up_ne _ _ (by omega)]; exact hc4
  replace hc5 : cs59 274 = .inl (gY G 14, 16, .inl (fun _ => 0)) := by rw [e59, va_up_ne _ _ (by omega)]; exact hc5
  replace hc6 : cs59 275 = .inl (gY G 14, 104, .inl (fun _ => 0)) := by rw [e59, va_up_ne _ _ (by omega)]; exact hc6
  replace hc7 : cs59 276 = .inl (gY G 14, 1072, .inl (fun _ => 0)) := by rw [e59, va_up_ne _ _ (by omega)]; exact hc7
  replace hc8 : cs59 277 = .inl (gY G 14, 968, .inl (fun _ => 0)) := by rw [e59, va_up_ne _ _ (by omega)]; exact hc8
  replace hc9 : cs59 278 = .inl (gY G 14, 136, .inl (fun _ => 0)) := by rw [e59, va_up_ne _ _ (by omega)]; exact hc9
  replace hc10 : cs59 279 = .inl (gY G 14, 134, .inl (fun _ => 0)) := by rw [e59, va_up_ne _ _ (by omega)]; exact hc10
  replace hc11 : cs59 280 = .inl (gY G 14, 3, .inl (fun _ => 0)) := by rw [e59, va_up_ne _ _ (by omega)]; exact hc11
  replace hc12 : cs59 281 = .inl (gY G 14, 10, .inl (fun _ => 0)) := by rw [e59, va_up_ne _ _ (by omega)]; exact hc12
  replace hc13 : cs59 282 = .inl (gY G 14, 10, .inl (fun _ => 0)) := by rw [e59, va_up_ne _ _ (by omega)]; exact hc13
  replace hc14 : cs59 283 = .inl (gY G 14, 10, .inl (fun _ => 0)) := by rw [e59, va_up_ne _ _ (by omega)]; exact hc14
  replace hc15 : cs59 284 = .inl (gY G 14, 10, .inl (fun _ => 0)) := by rw [e59, va_up_ne _ _ (by omega)]; exact hc15
  replace hc16 : cs59 285 = .inl (gY G 14, 10, .inl (fun _ => 0)) := by rw [e59, va_up_ne _ _ (by omega)]; exact hc16
  replace hc17 : cs59 286 = .inl (gY G 14, 4, .inl (fun _ => 0)) := by rw [e59, va_up_ne _ _ (by omega)]; exact hc17
  replace hc18 : cs59 287 = .inl (gY G 14, 4, .inl (fun _ => 0)) := by rw [e59, va_up_ne _ _ (by omega)]; exact hc18
  replace hc19 : cs59 288 = .inl (gY G 14, 4, .inl (fun _ => 0)) := by rw [e59, va_up_ne _ _ (by omega)]; exact hc19
  replace hc20 : cs59 289 = .inl (gY G 14, 4, .inl (fun _ => 0)) := by rw [e59, va_up_ne _ _ (by omega)]; exact hc20
  replace hc21 : cs59 290 = .inl (gY G 14, 4, .inl (fun _ => 0)) := by rw [e59, va_up_ne _ _ (by omega)]; exact hc21
  replace hc22 : cs59 291 = .inl (gY G 14, 4, .inl (fun _ => 0)) := by rw [e59, va_up_ne _ _ (by omega)]; exact hc22
  replace hc23 : cs59 292 = .inl (gY G 14, 40, .inl (fun _ => 0)) := by rw [e59, va_up_ne _ _ (by omega)]; exact hc23
  replace hc24 : cs59 293 = .inl (gY G 14, 40, .inl (fun _ => 0)) := by rw [e59, va_up_ne _ _ (by omega)]; exact hc24
  replace hc25 : cs59 294 = .inl (gY G 14, 40, .inl (fun _ => 0)) := by rw [e59, va_up_ne _ _ (by omega)]; exact hc25
  replace hc26 : cs59 295 = .inl (gY G 14, 64, .inl (fun _ => 0)) := by rw [e59, va_up_ne _ _ (by omega)]; exact hc26
  replace hc27 : cs59 296 = .inl (gY G 14, 64, .inl (fun _ => 0)) := by rw [e59, va_up_ne _ _ (by omega)]; exact hc27
  replace hc28 : cs59 297 = .inl (gY G 14, 64, .inl (fun _ => 0)) := by rw [e59, va_up_ne _ _ (by omega)]; exact hc28
  replace hc29 : cs59 298 = .inl (gY G 14, 64, .inl (fun _ => 0)) := by rw [e59, va_up_ne _ _ (by omega)]; exact hc29
  have hc30 : cs59 299 = .inl (gY G 14, 64, .inl (fun _ => 0)) := by rw [e59]; exact va_up_self _ _ _
  replace hlo : ∀ n, n < 269 → cs59 n = cs n := fun n a => by rw [e59, va_up_ne _ _ (by omega)] <;> exact hlo n a
  clear e59
  refine ry_putF ff_X12_98 rfl (by omega) hc0 rfl rfl (nlt rfl) dX12_init_236 ?_
  refine ry_cs (fun cs60 e60 => ?_)
  replace hc1 : cs60 270 = .inl (gY G 13, 2400, .inl (fun _ => 0)) := by rw [e60, va_up_ne _ _ (by omega)]; exact hc1
  replace hc2 : cs60 271 = .inl (gY G 14, 4, .inl (fun _ => 0)) := by rw [e60, va_up_ne _ _ (by omega)]; exact hc2
  replace hc3 : cs60 272 = .inl (gY G 14, 4, .inl (fun _ => 0)) := by rw [e60, va_up_ne _ _ (by omega)]; exact hc3
  replace hc4 : cs60 273 = .inl (gY G 14, 4, .inl (fun _ => 0)) := by rw [e60, va_up_ne _ _ (by omega)]; exact hc4
  replace hc5 : cs60 274 = .inl (gY G 14, 16, .inl (fun _ => 0)) := by rw [e60, va_up_ne _ _ (by omega)]; exact hc5
  replace hc6 : cs60 275 = .inl (gY G 14, 104, .inl (fun _ => 0)) := by rw [e60, va_up_ne _ _ (by omega)]; exact hc6
  replace hc7 : cs60 276 = .inl (gY G 14, 1072, .inl (fun _ => 0)) := by rw [e60, va_up_ne _ _ (by omega)]; exact hc7
  replace hc8 : cs60 277 = .inl (gY G 14, 968, .inl (fun _ => 0)) := by rw [e60, va_up_ne _ _ (by omega)]; exact hc8
  replace hc9 : cs60 278 = .inl (gY G 14, 136, .inl (fun _ => 0)) := by rw [e60, va_up_ne _ _ (by omega)]; exact hc9
  replace hc10 : cs60 279 = .inl (gY G 14, 134, .inl (fun _ => 0)) := by rw [e60, va_up_ne _ _ (by omega)]; exact hc10
  replace hc11 : cs60 280 = .inl (gY G 14, 3, .inl (fun _ => 0)) := by rw [e60, va_up_ne _ _ (by omega)]; exact hc11
  replace hc12 : cs60 281 = .inl (gY G 14, 10, .inl (fun _ => 0)) := by rw [e60, va_up_ne _ _ (by omega)]; exact hc12
  replace hc13 : cs60 282 = .inl (gY G 14, 10, .inl (fun _ => 0)) := by rw [e60, va_up_ne _ _ (by omega)]; exact hc13
  replace hc14 : cs60 283 = .inl (gY G 14, 10, .inl (fun _ => 0)) := by rw [e60, va_up_ne _ _ (by omega)]; exact hc14
  replace hc15 : cs60 284 = .inl (gY G 14, 10, .inl (fun _ => 0)) := by rw [e60, va_up_ne _ _ (by omega)]; exact hc15
  replace hc16 : cs60 285 = .inl (gY G 14, 10, .inl (fun _ => 0)) := by rw [e60, va_up_ne _ _ (by omega)]; exact hc16
  replace hc17 : cs60 286 = .inl (gY G 14, 4, .inl (fun _ => 0)) := by rw [e60, va_up_ne _ _ (by omega)]; exact hc17
  replace hc18 : cs60 287 = .inl (gY G 14, 4, .inl (fun _ => 0)) := by rw [e60, va_up_ne _ _ (by omega)]; exact hc18
  replace hc19 : cs60 288 = .inl (gY G 14, 4, .inl (fun _ => 0)) := by rw [e60, va_up_ne _ _ (by omega)]; exact hc19
  replace hc20 : cs60 289 = .inl (gY G 14, 4, .inl (fun _ => 0)) := by rw [e60, va_up_ne _ _ (by omega)]; exact hc20
  replace hc21 : cs60 290 = .inl (gY G 14, 4, .inl (fun _ => 0)) := by rw [e60, va_up_ne _ _ (by omega)]; exact hc21
  replace hc22 : cs60 291 = .inl (gY G 14, 4, .inl (fun _ => 0)) := by rw [e60, va_up_ne _ _ (by omega)]; exact hc22
  replace hc23 : cs60 292 = .inl (gY G 14, 40, .inl (fun _ => 0)) := by rw [e60, va_up_ne _ _ (by omega)]; exact hc23
  replace hc24 : cs60 293 = .inl (gY G 14, 40, .inl (fun _ => 0)) := by rw [e60, va_up_ne _ _ (by omega)]; exact hc24
  replace hc25 : cs60 294 = .inl (gY G 14, 40, .inl (fun _ => 0)) := by rw [e60, va_up_ne _ _ (by omega)]; exact hc25
  replace hc26 : cs60 295 = .inl (gY G 14, 64, .inl (fun _ => 0)) := by rw [e60, va_up_ne _ _ (by omega)]; exact hc26
  replace hc27 : cs60 296 = .inl (gY G 14, 64, .inl (fun _ => 0)) := by rw [e60, va_up_ne _ _ (by omega)]; exact hc27
  replace hc28 : cs60 297 = .inl (gY G 14, 64, .inl (fun _ => 0)) := by rw [e60, va_up_ne _ _ (by omega)]; exact hc28
  replace hc29 : cs60 298 = .inl (gY G 14, 64, .inl (fun _ => 0)) := by rw [e60, va_up_ne _ _ (by omega)]; exact hc29
  replace hc30 : cs60 299 = .inl (gY G 14, 64, .inl (fun _ => 0)) := by rw [e60, va_up_ne _ _ (by omega)]; exact hc30
  replace hc0 : cs60 269 = .inr (12, [.int 0, .ref (gA G 270), .ref (gA G 271), .ref (gA G 272), .ref (gA G 273), .ref (gA G 274), .ref (gA G 275), .ref (gA G 276), .ref (gA G 277), .ref (gA G 278), .int 0, .int 0, .int 0, .int 0, .int 0, .long 0, .int 0, .int 0, .int 0, .ref (gA G 279), .ref (gA G 280), .int 0, .int 0, .int 0, .int 0, .int 0, .int 0, .int 0, .int 0, .int 0, .int 0, .ref (gA G 281), .ref (gA G 282), .ref (gA G 283), .ref (gA G 284), .ref (gA G 285), .ref (gA G 286), .ref (gA G 287), .ref (gA G 288), .ref (gA G 289), .ref (gA G 290), .ref (gA G 291), .ref (gA G 292), .ref (gA G 293), .ref (gA G 294), .ref (gA G 295), .ref (gA G 296), .ref (gA G 297), .ref (gA G 298), .ref (gA G 299), .null, .null, .null, .null, .int 0, .int 0, .int 0, .int 0, .int 0, .int 0, .null, .null, .int 0, .int 0, .int 0, .int 0, .int 0, .null, .null, .int 0, .null, .int 0, .int 0, .null, .null, .null, .int 0, .int 0, .int 0, .int 0, .int 0, .int 0, .null, .int 0, .int 0, .int 0, .int 0, .int 0, .int 0, .int 0, .int 0, .null]) := by rw [e60]; exact va_up_self _ _ _
  replace hlo : ∀ n, n < 269 → cs60 n = cs n := fun n a => by rw [e60, va_up_ne _ _ (by omega)] <;> exact hlo n a
  clear e60
  refine ry_aload_n 0 dX12_init_239 rfl rfl ?_
  refine ry_bipush (v := 64) dX12_init_240 rfl ?_
  refine ry_newa (κ := 14) (n := 64) (atype := .int) (ty := .int) (t0 := 1) rfl wa_int rfl (fun _ _ => Iff.rfl) rfl (by decide) rfl (by decide) (Nat.le_of_ble_eq_true rfl) (Nat.le_of_ble_eq_true rfl) dX12_init_242 ?_
  refine ry_cs (fun cs61 e61 => ?_)
  replace hc0 : cs61 269 = .inr (12, [.int 0, .ref (gA G 270), .ref (gA G 271), .ref (gA G 272), .ref (gA G 273), .ref (gA G 274), .ref (gA G 275), .ref (gA G 276), .ref (gA G 277), .ref (gA G 278), .int 0, .int 0, .int 0, .int 0, .int 0, .long 0, .int 0, .int 0, .int 0, .ref (gA G 279), .ref (gA G 280), .int 0, .int 0, .int 0, .int 0, .int 0, .int 0, .int 0, .int 0, .int 0, .int 0, .ref (gA G 281), .ref (gA G 282), .ref (gA G 283), .ref (gA G 284), .ref (gA G 285), .ref (gA G 286), .ref (gA G 287), .ref (gA G 288), .ref (gA G 289), .ref (gA G 290), .ref (gA G 291), .ref (gA G 292), .ref (gA G 293), .ref (gA G 294), .ref (gA G 295), .ref (gA G 296), .ref (gA G 297), .ref (gA G 298), .ref (gA G 299), .null, .null, .null, .null, .int 0, .int 0, .int 0, .int 0, .int 0, .int 0, .null, .null, .int 0, .int 0, .int 0, .int 0, .int 0, .null, .null, .int 0, .null, .int 0, .int 0, .null, .null, .null, .int 0, .int 0, .int 0, .int 0, .int 0, .int 0, .null, .int 0, .int 0, .int 0, .int 0, .int 0, .int 0, .int 0, .int 0, .null]) := by rw [e61, va_up_ne _ _ (by omega)]; exact hc0
  replace hc1 : cs61 270 = .inl (gY G 13, 2400, .inl (fun _ => 0)) := by rw [e61, va_up_ne _ _ (by omega)]; exact hc1
  replace hc2 : cs61 271 = .inl (gY G 14, 4, .inl (fun _ => 0)) := by rw [e61, va_up_ne _ _ (by omega)]; exact hc2
  replace hc3 : cs61 272 = .inl (gY G 14, 4, .inl (fun _ => 0)) := by rw [e61, va_up_ne _ _ (by omega)]; exact hc3
  replace hc4 : cs61 273 = .inl (gY G 14, 4, .inl (fun _ => 0)) := by rw [e61, va_up_ne _ _ (by omega)]; exact hc4
  replace hc5 : cs61 274 = .inl (gY G 14, 16, .inl (fun _ => 0)) := by rw [e61, va_up_ne _ _ (by omega)]; exact hc5
  replace hc6 : cs61 275 = .inl (gY G 14, 104, .inl (fun _ => 0)) := by rw [e61, va_up_ne _ _ (by omega)]; exact hc6
  replace hc7 : cs61 276 = .inl (gY G 14, 1072, .inl (fun _ => 0)) := by rw [e61, va_up_ne _ _ (by omega)]; exact hc7
  replace hc8 : cs61 277 = .inl (gY G 14, 968, .inl (fun _ => 0)) := by rw [e61, va_up_ne _ _ (by omega)]; exact hc8
  replace hc9 : cs61 278 = .inl (gY G 14, 136, .inl (fun _ => 0)) := by rw [e61, va_up_ne _ _ (by omega)]; exact hc9
  replace hc10 : cs61 279 = .inl (gY G 14, 134, .inl (fun _ => 0)) := by rw [e61, va_up_ne _ _ (by omega)]; exact hc10
  replace hc11 : cs61 280 = .inl (gY G 14, 3, .inl (fun _ => 0)) := by rw [e61, va_up_ne _ _ (by omega)]; exact hc11
  replace hc12 : cs61 281 = .inl (gY G 14, 10, .inl (fun _ => 0)) := by rw [e61, va_up_ne _ _ (by omega)]; exact hc12
  replace hc13 : cs61 282 = .inl (gY G 14, 10, .inl (fun _ => 0)) := by rw [e61, va_up_ne _ _ (by omega)]; exact hc13
  replace hc14 : cs61 283 = .inl (gY G 14, 10, .inl (fun _ => 0)) := by rw [e61, va_up_ne _ _ (by omega)]; exact hc14
  replace hc15 : cs61 284 = .inl (gY G 14, 10, .inl (fun _ => 0)) := by rw [e61, va_up_ne _ _ (by omega)]; exact hc15
  replace hc16 : cs61 285 = .inl (gY G 14, 10, .inl (fun _ => 0)) := by rw [e61, va_up_ne _ _ (by omega)]; exact hc16
  replace hc17 : cs61 286 = .inl (gY G 14, 4, .inl (fun _ => 0)) := by rw [e61, va_up_ne _ _ (by omega)]; exact hc17
  replace hc18 : cs61 287 = .inl (gY G 14, 4, .inl (fun _ => 0)) := by rw [e61, va_up_ne _ _ (by omega)]; exact hc18
  replace hc19 : cs61 288 = .inl (gY G 14, 4, .inl (fun _ => 0)) := by rw [e61, va_up_ne _ _ (by omega)]; exact hc19
  replace hc20 : cs61 289 = .inl (gY G 14, 4, .inl (fun _ => 0)) := by rw [e61, va_up_ne _ _ (by omega)]; exact hc20
  replace hc21 : cs61 290 = .inl (gY G 14, 4, .inl (fun _ => 0)) := by rw [e61, va_up_ne _ _ (by omega)]; exact hc21
  replace hc22 : cs61 291 = .inl (gY G 14, 4, .inl (fun _ => 0)) := by rw [e61, va_up_ne _ _ (by omega)]; exact hc22
  replace hc23 : cs61 292 = .inl (gY G 14, 40, .inl (fun _ => 0)) := by rw [e61, va_up_ne _ _ (by omega)]; exact hc23
  replace hc24 : cs61 293 = .inl (gY G 14, 40, .inl (fun _ => 0)) := by rw [e61, va_up_ne _ _ (by omega)]; exact hc24
  replace hc25 : cs61 294 = .inl (gY G 14, 40, .inl (fun _ => 0)) := by rw [e61, va_up_ne _ _ (by omega)]; exact hc25
  replace hc26 : cs61 295 = .inl (gY G 14, 64, .inl (fun _ => 0)) := by rw [e61, va_up_ne _ _ (by omega)]; exact hc26
  replace hc27 : cs61 296 = .inl (gY G 14, 64, .inl (fun _ => 0)) := by rw [e61, va_up_ne _ _ (by omega)]; exact hc27
  replace hc28 : cs61 297 = .inl (gY G 14, 64, .inl (fun _ => 0)) := by rw [e61, va_up_ne _ _ (by omega)]; exact hc28
  replace hc29 : cs61 298 = .inl (gY G 14, 64, .inl (fun _ => 0)) := by rw [e61, va_up_ne _ _ (by omega)]; exact hc29
  replace hc30 : cs61 299 = .inl (gY G 14, 64, .inl (fun _ => 0)) := by rw [e61, va_up_ne _ _ (by omega)]; exact hc30
  have hc31 : cs61 300 = .inl (gY G 14, 64, .inl (fun _ => 0)) := by rw [e61]; exact va_up_self _ _ _
  replace hlo : ∀ n, n < 269 → cs61 n = cs n := fun n a => by rw [e61, va_up_ne _ _ (by omega)] <;> exact hlo n a
  clear e61
  refine ry_putF ff_X12_101 rfl (by omega) hc0 rfl rfl (nlt rfl) dX12_init_244 ?_
  refine ry_cs (fun cs62 e62 => ?_)
  replace hc1 : cs62 270 = .inl (gY G 13, 2400, .inl (fun _ => 0)) := by rw [e62, va_up_ne _ _ (by omega)]; exact hc1
  replace hc2 : cs62 271 = .inl (gY G 14, 4, .inl (fun _ => 0)) := by rw [e62, va_up_ne _ _ (by omega)]; exact hc2
  replace hc3 : cs62 272 = .inl (gY G 14, 4, .inl (fun _ => 0)) := by rw [e62, va_up_ne _ _ (by omega)]; exact hc3
  replace hc4 : cs62 273 = .inl (gY G 14, 4, .inl (fun _ => 0)) := by rw [e62, va_up_ne _ _ (by omega)]; exact hc4
  replace hc5 : cs62 274 = .inl (gY G 14, 16, .inl (fun _ => 0)) := by rw [e62, va_up_ne _ _ (by omega)]; exact hc5
  replace hc6 : cs62 275 = .inl (gY G 14, 104, .inl (fun _ => 0)) := by rw [e62, va_up_ne _ _ (by omega)]; exact hc6
  replace hc7 : cs62 276 = .inl (gY G 14, 1072, .inl (fun _ => 0)) := by rw [e62, va_up_ne _ _ (by omega)]; exact hc7
  replace hc8 : cs62 277 = .inl (gY G 14, 968, .inl (fun _ => 0)) := by rw [e62, va_up_ne _ _ (by omega)]; exact hc8
  replace hc9 : cs62 278 = .inl (gY G 14, 136, .inl (fun _ => 0)) := by rw [e62, va_up_ne _ _ (by omega)]; exact hc9
  replace hc10 : cs62 279 = .inl (gY G 14, 134, .inl (fun _ => 0)) := by rw [e62, va_up_ne _ _ (by omega)]; exact hc10
  replace hc11 : cs62 280 = .inl (gY G 14, 3, .inl (fun _ => 0)) := by rw [e62, va_up_ne _ _ (by omega)]; exact hc11
  replace hc12 : cs62 281 = .inl (gY G 14, 10, .inl (fun _ => 0)) := by rw [e62, va_up_ne _ _ (by omega)]; exact hc12
  replace hc13 : cs62 282 = .inl (gY G 14, 10, .inl (fun _ => 0)) := by rw [e62, va_up_ne _ _ (by omega)]; exact hc13
  replace hc14 : cs62 283 = .inl (gY G 14, 10, .inl (fun _ => 0)) := by rw [e62, va_up_ne _ _ (by omega)]; exact hc14
  replace hc15 : cs62 284 = .inl (gY G 14, 10, .inl (fun _ => 0)) := by rw [e62, va_up_ne _ _ (by omega)]; exact hc15
  replace hc16 : cs62 285 = .inl (gY G 14, 10, .inl (fun _ => 0)) := by rw [e62, va_up_ne _ _ (by omega)]; exact hc16
  replace hc17 : cs62 286 = .inl (gY G 14, 4, .inl (fun _ => 0)) := by rw [e62, va_up_ne _ _ (by omega)]; exact hc17
  replace hc18 : cs62 287 = .inl (gY G 14, 4, .inl (fun _ => 0)) := by rw [e62, va_up_ne _ _ (by omega)]; exact hc18
  replace hc19 : cs62 288 = .inl (gY G 14, 4, .inl (fun _ => 0)) := by rw [e62, va_up_ne _ _ (by omega)]; exact hc19
  replace hc20 : cs62 289 = .inl (gY G 14, 4, .inl (fun _ => 0)) := by rw [e62, va_up_ne _ _ (by omega)]; exact hc20
  replace hc21 : cs62 290 = .inl (gY G 14, 4, .inl (fun _ => 0)) := by rw [e62, va_up_ne _ _ (by omega)]; exact hc21
  replace hc22 : cs62 291 = .inl (gY G 14, 4, .inl (fun _ => 0)) := by rw [e62, va_up_ne _ _ (by omega)]; exact hc22
  replace hc23 : cs62 292 = .inl (gY G 14, 40, .inl (fun _ => 0)) := by rw [e62, va_up_ne _ _ (by omega)]; exact hc23
  replace hc24 : cs62 293 = .inl (gY G 14, 40, .inl (fun _ => 0)) := by rw [e62, va_up_ne _ _ (by omega)]; exact hc24
  replace hc25 : cs62 294 = .inl (gY G 14, 40, .inl (fun _ => 0)) := by rw [e62, va_up_ne _ _ (by omega)]; exact hc25
  replace hc26 : cs62 295 = .inl (gY G 14, 64, .inl (fun _ => 0)) := by rw [e62, va_up_ne _ _ (by omega)]; exact hc26
  replace hc27 : cs62 296 = .inl (gY G 14, 64, .inl (fun _ => 0)) := by rw [e62, va_up_ne _ _ (by omega)]; exact hc27
  replace hc28 : cs62 297 = .inl (gY G 14, 64, .inl (fun _ => 0)) := by rw [e62, va_up_ne _ _ (by omega)]; exact hc28
  replace hc29 : cs62 298 = .inl (gY G 14, 64, .inl (fun _ => 0)) := by rw [e62, va_up_ne _ _ (by omega)]; exact hc29
  replace hc30 : cs62 299 = .inl (gY G 14, 64, .inl (fun _ => 0)) := by rw [e62, va_up_ne _ _ (by omega)]; exact hc30
  replace hc31 : cs62 300 = .inl (gY G 14, 64, .inl (fun _ => 0)) := by rw [e62, va_up_ne _ _ (by omega)]; exact hc31
  replace hc0 : cs62 269 = .inr (12, [.int 0, .ref (gA G 270), .ref (gA G 271), .ref (gA G 272), .ref (gA G 273), .ref (gA G 274), .ref (gA G 275), .ref (gA G 276), .ref (gA G 277), .ref (gA G 278), .int 0, .int 0, .int 0, .int 0, .int 0, .long 0, .int 0, .int 0, .int 0, .ref (gA G 279), .ref (gA G 280), .int 0, .int 0, .int 0, .int 0, .int 0, .int 0, .int 0, .int 0, .int 0, .int 0, .ref (gA G 281), .ref (gA G 282), .ref (gA G 283), .ref (gA G 284), .ref (gA G 285), .ref (gA G 286), .ref (gA G 287), .ref (gA G 288), .ref (gA G 289), .ref (gA G 290), .ref (gA G 291), .ref (gA G 292), .ref (gA G 293), .ref (gA G 294), .ref (gA G 295), .ref (gA G 296), .ref (gA G 297), .ref (gA G 298), .ref (gA G 299), .ref (gA G 300), .null, .null, .null, .int 0, .int 0, .int 0, .int 0, .int 0, .int 0, .null, .null, .int 0, .int 0, .int 0, .int 0, .int 0, .null, .null, .int 0, .null, .int 0, .int 0, .null, .null, .null, .int 0, .int 0, .int 0, .int 0, .int 0, .int 0, .null, .int 0, .int 0, .int 0, .int 0, .int 0, .int 0, .int 0, .int 0, .null]) := by rw [e62]; exact va_up_self _ _ _
  replace hlo : ∀ n, n < 269 → cs62 n = cs n := fun n a => by rw [e62, va_up_ne _ _ (by omega)] <;> exact hlo n a
  clear e62
  refine ry_aload_n 0 dX12_init_247 rfl rfl ?_
  refine ry_bipush (v := 64) dX12_init_248 rfl ?_
  refine ry_newa (κ := 14) (n := 64) (atype := .int) (ty := .int) (t0 := 1) rfl wa_int rfl (fun _ _ => Iff.rfl) rfl (by decide) rfl (by decide) (Nat.le_of_ble_eq_true rfl) (Nat.le_of_ble_eq_true rfl) dX12_init_250 ?_
  refine ry_cs (fun cs63 e63 => ?_)
  replace hc0 : cs63 269 = .inr (12, [.int 0, .ref (gA G 270), .ref (gA G 271), .ref (gA G 272), .ref (gA G 273), .ref (gA G 274), .ref (gA G 275), .ref (gA G 276), .ref (gA G 277), .ref (gA G 278), .int 0, .int 0, .int 0, .int 0, .int 0, .long 0, .int 0, .int 0, .int 0, .ref (gA G 279), .ref (gA G 280), .int 0, .int 0, .int 0, .int 0, .int 0, .int 0, .int 0, .int 0, .int 0, .int 0, .ref (gA G 281), .ref (gA G 282), .ref (gA G 283), .ref (gA G 284), .ref (gA G 285), .ref (gA G 286), .ref (gA G 287), .ref (gA G 288), .ref (gA G 289), .ref (gA G 290), .ref (gA G 291), .ref (gA G 292), .ref (gA G 293), .ref (gA G 294), .ref (gA G 295), .ref (gA G 296), .ref (gA G 297), .ref (gA G 298), .ref (gA G 299), .ref (gA G 300), .null, .null, .null, .int 0, .int 0, .int 0, .int 0, .int 0, .int 0, .null, .null, .int 0, .int 0, .int 0, .int 0, .int 0, .null, .null, .int 0, .null, .int 0, .int 0, .null, .null, .null, .int 0, .int 0, .int 0, .int 0, .int 0, .int 0, .null, .int 0, .int 0, .int 0, .int 0, .int 0, .int 0, .int 0, .int 0, .null]) := by rw [e63, va_up_ne _ _ (by omega)]; exact hc0
  replace hc1 : cs63 270 = .inl (gY G 13, 2400, .inl (fun _ => 0)) := by rw [e63, va_up_ne _ _ (by omega)]; exact hc1
  replace hc2 : cs63 271 = .inl (gY G 14, 4, .inl (fun _ => 0)) := by rw [e63, va_up_ne _ _ (by omega)]; exact hc2
  replace hc3 : cs63 272 = .inl (gY G 14, 4, .inl (fun _ => 0)) := by rw [e63, va_up_ne _ _ (by omega)]; exact hc3
  replace hc4 : cs63 273 = .inl (gY G 14, 4, .inl (fun _ => 0)) := by rw [e63, va_up_ne _ _ (by omega)]; exact hc4
  replace hc5 : cs63 274 = .inl (gY G 14, 16, .inl (fun _ => 0)) := by rw [e63, va_up_ne _ _ (by omega)]; exact hc5
  replace hc6 : cs63 275 = .inl (gY G 14, 104, .inl (fun _ => 0)) := by rw [e63, va_up_ne _ _ (by omega)]; exact hc6
  replace hc7 : cs63 276 = .inl (gY G 14, 1072, .inl (fun _ => 0)) := by rw [e63, va_up_ne _ _ (by omega)]; exact hc7
  replace hc8 : cs63 277 = .inl (gY G 14, 968, .inl (fun _ => 0)) := by rw [e63, va_up_ne _ _ (by omega)]; exact hc8
  replace hc9 : cs63 278 = .inl (gY G 14, 136, .inl (fun _ => 0)) := by rw [e63, va_up_ne _ _ (by omega)]; exact hc9
  replace hc10 : cs63 279 = .inl (gY G 14, 134, .inl (fun _ => 0)) := by rw [e63, va_up_ne _ _ (by omega)]; exact hc10
  replace hc11 : cs63 280 = .inl (gY G 14, 3, .inl (fun _ => 0)) := by rw [e63, va_up_ne _ _ (by omega)]; exact hc11
  replace hc12 : cs63 281 = .inl (gY G 14, 10, .inl (fun _ => 0)) := by rw [e63, va_up_ne _ _ (by omega)]; exact hc12
  replace hc13 : cs63 282 = .inl (gY G 14, 10, .inl (fun _ => 0)) := by rw [e63, va_up_ne _ _ (by omega)]; exact hc13
  replace hc14 : cs63 283 = .inl (gY G 14, 10, .inl (fun _ => 0)) := by rw [e63, va_up_ne _ _ (by omega)]; exact hc14
  replace hc15 : cs63 284 = .inl (gY G 14, 10, .inl (fun _ => 0)) := by rw [e63, va_up_ne _ _ (by omega)]; exact hc15
  replace hc16 : cs63 285 = .inl (gY G 14, 10, .inl (fun _ => 0)) := by rw [e63, va_up_ne _ _ (by omega)]; exact hc16
  replace hc17 : cs63 286 = .inl (gY G 14, 4, .inl (fun _ => 0)) := by rw [e63, va_up_ne _ _ (by omega)]; exact hc17
  replace hc18 : cs63 287 = .inl (gY G 14, 4, .inl (fun _ => 0)) := by rw [e63, va_up_ne _ _ (by omega)]; exact hc18
  replace hc19 : cs63 288 = .inl (gY G 14, 4, .inl (fun _ => 0)) := by rw [e63, va_up_ne _ _ (by omega)]; exact hc19
  replace hc20 : cs63 289 = .inl (gY G 14, 4, .inl (fun _ => 0)) := by rw [e63, va_up_ne _ _ (by omega)]; exact hc20
  replace hc21 : cs63 290 = .inl (gY G 14, 4, .inl (fun _ => 0)) := by rw [e63, va_up_ne _ _ (by omega)]; exact hc21
  replace hc22 : cs63 291 = .inl (gY G 14, 4, .inl (fun _ => 0)) := by rw [e63, va_up_ne _ _ (by omega)]; exact hc22
  replace hc23 : cs63 292 = .inl (gY G 14, 40, .inl (fun _ => 0)) := by rw [e63, va_up_ne _ _ (by omega)]; exact hc23
  replace hc24 : cs63 293 = .inl (gY G 14, 40, .inl (fun _ => 0)) := by rw [e63, va_up_ne _ _ (by omega)]; exact hc24
  replace hc25 : cs63 294 = .inl (gY G 14, 40, .inl (fun _ => 0)) := by rw [e63, va_up_ne _ _ (by omega)]; exact hc25
  replace hc26 : cs63 295 = .inl (gY G 14, 64, .inl (fun _ => 0)) := by rw [e63, va_up_ne _ _ (by omega)]; exact hc26
  replace hc27 : cs63 296 = .inl (gY G 14, 64, .inl (fun _ => 0)) := by rw [e63, va_up_ne _ _ (by omega)]; exact hc27
  replace hc28 : cs63 297 = .inl (gY G 14, 64, .inl (fun _ => 0)) := by rw [e63, va_up_ne _ _ (by omega)]; exact hc28
  replace hc29 : cs63 298 = .inl (gY G 14, 64, .inl (fun _ => 0)) := by rw [e63, va_up_ne _ _ (by omega)]; exact hc29
  replace hc30 : cs63 299 = .inl (gY G 14, 64, .inl (fun _ => 0)) := by rw [e63, va_up_ne _ _ (by omega)]; exact hc30
  replace hc31 : cs63 300 = .inl (gY G 14, 64, .inl (fun _ => 0)) := by rw [e63, va_up_ne _ _ (by omega)]; exact hc31
  have hc32 : cs63 301 = .inl (gY G 14, 64, .inl (fun _ => 0)) := by rw [e63]; exact va_up_self _ _ _
  replace hlo : ∀ n, n < 269 → cs63 n = cs n := fun n a => by rw [e63, va_up_ne _ _ (by omega)] <;> exact hlo n a
  clear e63
  refine ry_putF ff_X12_104 rfl (by omega) hc0 rfl rfl (nlt rfl) dX12_init_252 ?_
  refine ry_cs (fun cs64 e64 => ?_)
  replace hc1 : cs64 270 = .inl (gY G 13, 2400, .inl (fun _ => 0)) := by rw [e64, va_up_ne _ _ (by omega)]; exact hc1
  replace hc2 : cs64 271 = .inl (gY G 14, 4, .inl (fun _ => 0)) := by rw [e64, va_up_ne _ _ (by omega)]; exact hc2
  replace hc3 : cs64 272 = .inl (gY G 14, 4, .inl (fun _ => 0)) := by rw [e64, va_up_ne _ _ (by omega)]; exact hc3
  replace hc4 : cs64 273 = .inl (gY G 14, 4, .inl (fun _ => 0)) := by rw [e64, va_up_ne _ _ (by omega)]; exact hc4
  replace hc5 : cs64 274 = .inl (gY G 14, 16, .inl (fun _ => 0)) := by rw [e64, va_up_ne _ _ (by omega)]; exact hc5
  replace hc6 : cs64 275 = .inl (gY G 14, 104, .inl (fun _ => 0)) := by rw [e64, va_up_ne _ _ (by omega)]; exact hc6
  replace hc7 : cs64 276 = .inl (gY G 14, 1072, .inl (fun _ => 0)) := by rw [e64, va_up_ne _ _ (by omega)]; exact hc7
  replace hc8 : cs64 277 = .inl (gY G 14, 968, .inl (fun _ => 0)) := by rw [e64, va_up_ne _ _ (by omega)]; exact hc8
  replace hc9 : cs64 278 = .inl (gY G 14, 136, .inl (fun _ => 0)) := by rw [e64, va_up_ne _ _ (by omega)]; exact hc9
  replace hc10 : cs64 279 = .inl (gY G 14, 134, .inl (fun _ => 0)) := by rw [e64, va_up_ne _ _ (by omega)]; exact hc10
  replace hc11 : cs64 280 = .inl (gY G 14, 3, .inl (fun _ => 0)) := by rw [e64, va_up_ne _ _ (by omega)]; exact hc11
  replace hc12 : cs64 281 = .inl (gY G 14, 10, .inl (fun _ => 0)) := by rw [e64, va_up_ne _ _ (by omega)]; exact hc12
  replace hc13 : cs64 282 = .inl (gY G 14, 10, .inl (fun _ => 0)) := by rw [e64, va_up_ne _ _ (by omega)]; exact hc13
  replace hc14 : cs64 283 = .inl (gY G 14, 10, .inl (fun _ => 0)) := by rw [e64, va_up_ne _ _ (by omega)]; exact hc14
  replace hc15 : cs64 284 = .inl (gY G 14, 10, .inl (fun _ => 0)) := by rw [e64, va_up_ne _ _ (by omega)]; exact hc15
  replace hc16 : cs64 285 = .inl (gY G 14, 10, .inl (fun _ => 0)) := by rw [e64, va_up_ne _ _ (by omega)]; exact hc16
  replace hc17 : cs64 286 = .inl (gY G 14, 4, .inl (fun _ => 0)) := by rw [e64, va_up_ne _ _ (by omega)]; exact hc17
  replace hc18 : cs64 287 = .inl (gY G 14, 4, .inl (fun _ => 0)) := by rw [e64, va_up_ne _ _ (by omega)]; exact hc18
  replace hc19 : cs64 288 = .inl (gY G 14, 4, .inl (fun _ => 0)) := by rw [e64, va_up_ne _ _ (by omega)]; exact hc19
  replace hc20 : cs64 289 = .inl (gY G 14, 4, .inl (fun _ => 0)) := by rw [e64, va_up_ne _ _ (by omega)]; exact hc20
  replace hc21 : cs64 290 = .inl (gY G 14, 4, .inl (fun _ => 0)) := by rw [e64, va_up_ne _ _ (by omega)]; exact hc21
  replace hc22 : cs64 291 = .inl (gY G 14, 4, .inl (fun _ => 0)) := by rw [e64, va_up_ne _ _ (by omega)]; exact hc22
  replace hc23 : cs64 292 = .inl (gY G 14, 40, .inl (fun _ => 0)) := by rw [e64, va_up_ne _ _ (by omega)]; exact hc23
  replace hc24 : cs64 293 = .inl (gY G 14, 40, .inl (fun _ => 0)) := by rw [e64, va_up_ne _ _ (by omega)]; exact hc24
  replace hc25 : cs64 294 = .inl (gY G 14, 40, .inl (fun _ => 0)) := by rw [e64, va_up_ne _ _ (by omega)]; exact hc25
  replace hc26 : cs64 295 = .inl (gY G 14, 64, .inl (fun _ => 0)) := by rw [e64, va_up_ne _ _ (by omega)]; exact hc26
  replace hc27 : cs64 296 = .inl (gY G 14, 64, .inl (fun _ => 0)) := by rw [e64, va_up_ne _ _ (by omega)]; exact hc27
  replace hc28 : cs64 297 = .inl (gY G 14, 64, .inl (fun _ => 0)) := by rw [e64, va_up_ne _ _ (by omega)]; exact hc28
  replace hc29 : cs64 298 = .inl (gY G 14, 64, .inl (fun _ => 0)) := by rw [e64, va_up_ne _ _ (by omega)]; exact hc29
  replace hc30 : cs64 299 = .inl (gY G 14, 64, .inl (fun _ => 0)) := by rw [e64, va_up_ne _ _ (by omega)]; exact hc30
  replace hc31 : cs64 300 = .inl (gY G 14, 64, .inl (fun _ => 0)) := by rw [e64, va_up_ne _ _ (by omega)]; exact hc31
  replace hc32 : cs64 301 = .inl (gY G 14, 64, .inl (fun _ => 0)) := by rw [e64, va_up_ne _ _ (by omega)]; exact hc32
  replace hc0 : cs64 269 = .inr (12, [.int 0, .ref (gA G 270), .ref (gA G 271), .ref (gA G 272), .ref (gA G 273), .ref (gA G 274), .ref (gA G 275), .ref (gA G 276), .ref (gA G 277), .ref (gA G 278), .int 0, .int 0, .int 0, .int 0, .int 0, .long 0, .int 0, .int 0, .int 0, .ref (gA G 279), .ref (gA G 280), .int 0, .int 0, .int 0, .int 0, .int 0, .int 0, .int 0, .int 0, .int 0, .int 0, .ref (gA G 281), .ref (gA G 282), .ref (gA G 283), .ref (gA G 284), .ref (gA G 285), .ref (gA G 286), .ref (gA G 287), .ref (gA G 288), .ref (gA G 289), .ref (gA G 290), .ref (gA G 291), .ref (gA G 292), .ref (gA G 293), .ref (gA G 294), .ref (gA G 295), .ref (gA G 296), .ref (gA G 297), .ref (gA G 298), .ref (gA G 299), .ref (gA G 300), .ref (gA G 301), .null, .null, .int 0, .int 0, .int 0, .int 0, .int 0, .int 0, .null, .null, .int 0, .int 0, .int 0, .int 0, .int 0, .null, .null, .int 0, .null, .int 0, .int 0, .null, .null, .null, .int 0, .int 0, .int 0, .int 0, .int 0, .int 0, .null, .int 0, .int 0, .int 0, .int 0, .int 0, .int 0, .int 0, .int 0, .null]) := by rw [e64]; exact va_up_self _ _ _
  replace hlo : ∀ n, n < 269 → cs64 n = cs n := fun n a => by rw [e64, va_up_ne _ _ (by omega)] <;> exact hlo n a
  clear e64
  refine ry_aload_n 0 dX12_init_255 rfl rfl ?_
  refine ry_bipush (v := 64) dX12_init_256 rfl ?_
  refine ry_newa (κ := 14) (n := 64) (atype := .int) (ty := .int) (t0 := 1) rfl wa_int rfl (fun _ _ => Iff.rfl) rfl (by decide) rfl (by decide) (Nat.le_of_ble_eq_true rfl) (Nat.le_of_ble_eq_true rfl) dX12_init_258 ?_
  refine ry_cs (fun cs65 e65 => ?_)
  replace hc0 : cs65 269 = .inr (12, [.int 0, .ref (gA G 270), .ref (gA G 271), .ref (gA G 272), .ref (gA G 273), .ref (gA G 274), .ref (gA G 275), .ref (gA G 276), .ref (gA G 277), .ref (gA G 278), .int 0, .int 0, .int 0, .int 0, .int 0, .long 0, .int 0, .int 0, .int 0, .ref (gA G 279), .ref (gA G 280), .int 0, .int 0, .int 0, .int 0, .int 0, .int 0, .int 0, .int 0, .int 0, .int 0, .ref (gA G 281), .ref (gA G 282), .ref (gA G 283), .ref (gA G 284), .ref (gA G 285), .ref (gA G 286), .ref (gA G 287), .ref (gA G 288), .ref (gA G 289), .ref (gA G 290), .ref (gA G 291), .ref (gA G 292), .ref (gA G 293), .ref (gA G 294), .ref (gA G 295), .ref (gA G 296), .ref (gA G 297), .ref (gA G 298), .ref (gA G 299), .ref (gA G 300), .ref (gA G 301), .null, .null, .int 0, .int 0, .int 0, .int 0, .int 0, .int 0, .null, .null, .int 0, .int 0, .int 0, .int 0, .int 0, .null, .null, .int 0, .null, .int 0, .int 0, .null, .null, .null, .int 0, .int 0, .int 0, .int 0, .int 0, .int 0, .null, .int 0, .int 0, .int 0, .int 0, .int 0, .int 0, .int 0, .int 0, .null]) := by rw [e65, va_up_ne _ _ (by omega)]; exact hc0
  replace hc1 : cs65 270 = .inl (gY G 13, 2400, .inl (fun _ => 0)) := by rw [e65, va_up_ne _ _ (by omega)]; exact hc1
  replace hc2 : cs65 271 = .inl (gY G 14, 4, .inl (fun _ => 0)) := by rw [e65, va_up_ne _ _ (by omega)]; exact hc2
  replace hc3 : cs65 272 = .inl (gY G 14, 4, .inl (fun _ => 0)) := by rw [e65, va_up_ne _ _ (by omega)]; exact hc3
  replace hc4 : cs65 273 = .inl (gY G 14, 4, .inl (fun _ => 0)) := by rw [e65, va_up_ne _ _ (by omega)]; exact hc4
  replace hc5 : cs65 274 = .inl (gY G 14, 16, .inl (fun _ => 0)) := by rw [e65, va_up_ne _ _ (by omega)]; exact hc5
  replace hc6 : cs65 275 = .inl (gY G 14, 104, .inl (fun _ => 0)) := by rw [e65, va_up_ne _ _ (by omega)]; exact hc6
  replace hc7 : cs65 276 = .inl (gY G 14, 1072, .inl (fun _ => 0)) := by rw [e65, va_up_ne _ _ (by omega)]; exact hc7
  replace hc8 : cs65 277 = .inl (gY G 14, 968, .inl (fun _ => 0)) := by rw [e65, va_up_ne _ _ (by omega)]; exact hc8
  replace hc9 : cs65 278 = .inl (gY G 14, 136, .inl (fun _ => 0)) := by rw [e65, va_up_ne _ _ (by omega)]; exact hc9
  replace hc10 : cs65 279 = .inl (gY G 14, 134, .inl (fun _ => 0)) := by rw [e65, va_up_ne _ _ (by omega)]; exact hc10
  replace hc11 : cs65 280 = .inl (gY G 14, 3, .inl (fun _ => 0)) := by rw [e65, va_up_ne _ _ (by omega)]; exact hc11
  replace hc12 : cs65 281 = .inl (gY G 14, 10, .inl (fun _ => 0)) := by rw [e65, va_up_ne _ _ (by omega)]; exact hc12
  replace hc13 : cs65 282 = .inl (gY G 14, 10, .inl (fun _ => 0)) := by rw [e65, va_up_ne _ _ (by omega)]; exact hc13
  replace hc14 : cs65 283 = .inl (gY G 14, 10, .inl (fun _ => 0)) := by rw [e65, va_up_ne _ _ (by omega)]; exact hc14
  replace hc15 : cs65 284 = .inl (gY G 14, 10, .inl (fun _ => 0)) := by rw [e65, va_up_ne _ _ (by omega)]; exact hc15
  replace hc16 : cs65 285 = .inl (gY G 14, 10, .inl (fun _ => 0)) := by rw [e65, va_up_ne _ _ (by omega)]; exact hc16
  replace hc17 : cs65 286 = .inl (gY G 14, 4, .inl (fun _ => 0)) := by rw [e65, va_up_ne _ _ (by omega)]; exact hc17
  replace hc18 : cs65 287 = .inl (gY G 14, 4, .inl (fun _ => 0)) := by rw [e65, va_up_ne _ _ (by omega)]; exact hc18
  replace hc19 : cs65 288 = .inl (gY G 14, 4, .inl (fun _ => 0)) := by rw [e65, va_up_ne _ _ (by omega)]; exact hc19
  replace hc20 : cs65 289 = .inl (gY G 14, 4, .inl (fun _ => 0)) := by rw [e65, va_up_ne _ _ (by omega)]; exact hc20
  replace hc21 : cs65 290 = .inl (gY G 14, 4, .inl (fun _ => 0)) := by rw [e65, va_up_ne _ _ (by omega)]; exact hc21
  replace hc22 : cs65 291 = .inl (gY G 14, 4, .inl (fun _ => 0)) := by rw [e65, va_up_ne _ _ (by omega)]; exact hc22
  replace hc23 : cs65 292 = .inl (gY G 14, 40, .inl (fun _ => 0)) := by rw [e65, va_up_ne _ _ (by omega)]; exact hc23
  replace hc24 : cs65 293 = .inl (gY G 14, 40, .inl (fun _ => 0)) := by rw [e65, va_up_ne _ _ (by omega)]; exact hc24
  replace hc25 : cs65 294 = .inl (gY G 14, 40, .inl (fun _ => 0)) := by rw [e65, va_up_ne _ _ (by omega)]; exact hc25
  replace hc26 : cs65 295 = .inl (gY G 14, 64, .inl (fun _ => 0)) := by rw [e65, va_up_ne _ _ (by omega)]; exact hc26
  replace hc27 : cs65 296 = .inl (gY G 14, 64, .inl (fun _ => 0)) := by rw [e65, va_up_ne _ _ (by omega)]; exact hc27
  replace hc28 : cs65 297 = .inl (gY G 14, 64, .inl (fun _ => 0)) := by rw [e65, va_up_ne _ _ (by omega)]; exact hc28
  replace hc29 : cs65 298 = .inl (gY G 14, 64, .inl (fun _ => 0)) := by rw [e65, va_up_ne _ _ (by omega)]; exact hc29
  replace hc30 : cs65 299 = .inl (gY G 14, 64, .inl (fun _ => 0)) := by rw [e65, va_up_ne _ _ (by omega)]; exact hc30
  replace hc31 : cs65 300 = .inl (gY G 14, 64, .inl (fun _ => 0)) := by rw [e65, va_up_ne _ _ (by omega)]; exact hc31
  replace hc32 : cs65 301 = .inl (gY G 14, 64, .inl (fun _ => 0)) := by rw [e65, va_up_ne _ _ (by omega)]; exact hc32
  have hc33 : cs65 302 = .inl (gY G 14, 64, .inl (fun _ => 0)) := by rw [e65]; exact va_up_self _ _ _
  replace hlo : ∀ n, n < 269 → cs65 n = cs n := fun n a => by rw [e65, va_up_ne _ _ (by omega)] <;> exact hlo n a
  clear e65
  refine ry_putF ff_X12_107 rfl (by omega) hc0 rfl rfl (nlt rfl) dX12_init_260 ?_
  refine ry_cs (fun cs66 e66 => ?_)
  replace hc1 : cs66 270 = .inl (gY G 13, 2400, .inl (fun _ => 0)) := by rw [e66, va_up_ne _ _ (by omega)]; exact hc1
  replace hc2 : cs66 271 = .inl (gY G 14, 4, .inl (fun _ => 0)) := by rw [e66, va_up_ne _ _ (by omega)]; exact hc2
  replace hc3 : cs66 272 = .inl (gY G 14, 4, .inl (fun _ => 0)) := by rw [e66, va_up_ne _ _ (by omega)]; exact hc3
  replace hc4 : cs66 273 = .inl (gY G 14, 4, .inl (fun _ => 0)) := by rw [e66, va_up_ne _ _ (by omega)]; exact hc4
  replace hc5 : cs66 274 = .inl (gY G 14, 16, .inl (fun _ => 0)) := by rw [e66, va_up_ne _ _ (by omega)]; exact hc5
  replace hc6 : cs66 275 = .inl (gY G 14, 104, .inl (fun _ => 0)) := by rw [e66, va_up_ne _ _ (by omega)]; exact hc6
  replace hc7 : cs66 276 = .inl (gY G 14, 1072, .inl (fun _ => 0)) := by rw [e66, va_up_ne _ _ (by omega)]; exact hc7
  replace hc8 : cs66 277 = .inl (gY G 14, 968, .inl (fun _ => 0)) := by rw [e66, va_up_ne _ _ (by omega)]; exact hc8
  replace hc9 : cs66 278 = .inl (gY G 14, 136, .inl (fun _ => 0)) := by rw [e66, va_up_ne _ _ (by omega)]; exact hc9
  replace hc10 : cs66 279 = .inl (gY G 14, 134, .inl (fun _ => 0)) := by rw [e66, va_up_ne _ _ (by omega)]; exact hc10
  replace hc11 : cs66 280 = .inl (gY G 14, 3, .inl (fun _ => 0)) := by rw [e66, va_up_ne _ _ (by omega)]; exact hc11
  replace hc12 : cs66 281 = .inl (gY G 14, 10, .inl (fun _ => 0)) := by rw [e66, va_up_ne _ _ (by omega)]; exact hc12
  replace hc13 : cs66 282 = .inl (gY G 14, 10, .inl (fun _ => 0)) := by rw [e66, va_up_ne _ _ (by omega)]; exact hc13
  replace hc14 : cs66 283 = .inl (gY G 14, 10, .inl (fun _ => 0)) := by rw [e66, va_up_ne _ _ (by omega)]; exact hc14
  replace hc15 : cs66 284 = .inl (gY G 14, 10, .inl (fun _ => 0)) := by rw [e66, va_up_ne _ _ (by omega)]; exact hc15
  replace hc16 : cs66 285 = .inl (gY G 14, 10, .inl (fun _ => 0)) := by rw [e66, va_up_ne _ _ (by omega)]; exact hc16
  replace hc17 : cs66 286 = .inl (gY G 14, 4, .inl (fun _ => 0)) := by rw [e66, va_up_ne _ _ (by omega)]; exact hc17
  replace hc18 : cs66 287 = .inl (gY G 14, 4, .inl (fun _ => 0)) := by rw [e66, va_up_ne _ _ (by omega)]; exact hc18
  replace hc19 : cs66 288 = .inl (gY G 14, 4, .inl (fun _ => 0)) := by rw [e66, va_up_ne _ _ (by omega)]; exact hc19
  replace hc20 : cs66 289 = .inl (gY G 14, 4, .inl (fun _ => 0)) := by rw [e66, va_up_ne _ _ (by omega)]; exact hc20
  replace hc21 : cs66 290 = .inl (gY G 14, 4, .inl (fun _ => 0)) := by rw [e66, va_up_ne _ _ (by omega)]; exact hc21
  replace hc22 : cs66 291 = .inl (gY G 14, 4, .inl (fun _ => 0)) := by rw [e66, va_up_ne _ _ (by omega)]; exact hc22
  replace hc23 : cs66 292 = .inl (gY G 14, 40, .inl (fun _ => 0)) := by rw [e66, va_up_ne _ _ (by omega)]; exact hc23
  replace hc24 : cs66 293 = .inl (gY G 14, 40, .inl (fun _ => 0)) := by rw [e66, va_up_ne _ _ (by omega)]; exact hc24
  replace hc25 : cs66 294 = .inl (gY G 14, 40, .inl (fun _ => 0)) := by rw [e66, va_up_ne _ _ (by omega)]; exact hc25
  replace hc26 : cs66 295 = .inl (gY G 14, 64, .inl (fun _ => 0)) := by rw [e66, va_up_ne _ _ (by omega)]; exact hc26
  replace hc27 : cs66 296 = .inl (gY G 14, 64, .inl (fun _ => 0)) := by rw [e66, va_up_ne _ _ (by omega)]; exact hc27
  replace hc28 : cs66 297 = .inl (gY G 14, 64, .inl (fun _ => 0)) := by rw [e66, va_up_ne _ _ (by omega)]; exact hc28
  replace hc29 : cs66 298 = .inl (gY G 14, 64, .inl (fun _ => 0)) := by rw [e66, va_up_ne _ _ (by omega)]; exact hc29
  replace hc30 : cs66 299 = .inl (gY G 14, 64, .inl (fun _ => 0)) := by rw [e66, va_up_ne _ _ (by omega)]; exact hc30
  replace hc31 : cs66 300 = .inl (gY G 14, 64, .inl (fun _ => 0)) := by rw [e66, va_up_ne _ _ (by omega)]; exact hc31
  replace hc32 : cs66 301 = .inl (gY G 14, 64, .inl (fun _ => 0)) := by rw [e66, va_up_ne _ _ (by omega)]; exact hc32
  replace hc33 : cs66 302 = .inl (gY G 14, 64, .inl (fun _ => 0)) := by rw [e66, va_up_ne _ _ (by omega)]; exact hc33
  replace hc0 : cs66 269 = .inr (12, [.int 0, .ref (gA G 270), .ref (gA G 271), .ref (gA G 272), .ref (gA G 273), .ref (gA G 274), .ref (gA G 275), .ref (gA G 276), .ref (gA G 277), .ref (gA G 278), .int 0, .int 0, .int 0, .int 0, .int 0, .long 0, .int 0, .int 0, .int 0, .ref (gA G 279), .ref (gA G 280), .int 0, .int 0, .int 0, .int 0, .int 0, .int 0, .int 0, .int 0, .int 0, .int 0, .ref (gA G 281), .ref (gA G 282), .ref (gA G 283), .ref (gA G 284), .ref (gA G 285), .ref (gA G 286), .ref (gA G 287), .ref (gA G 288), .ref (gA G 289), .ref (gA G 290), .ref (gA G 291), .ref (gA G 292), .ref (gA G 293), .ref (gA G 294), .ref (gA G 295), .ref (gA G 296), .ref (gA G 297), .ref (gA G 298), .ref (gA G 299), .ref (gA G 300), .ref (gA G 301), .ref (gA G 302), .null, .int 0, .int 0, .int 0, .int 0, .int 0, .int 0, .null, .null, .int 0, .int 0, .int 0, .int 0, .int 0, .null, .null, .int 0, .null, .int 0, .int 0, .null, .null, .null, .int 0, .int 0, .int 0, .int 0, .int 0, .int 0, .null, .int 0, .int 0, .int 0, .int 0, .int 0, .int 0, .int 0, .int 0, .null]) := by rw [e66]; exact va_up_self _ _ _
  replace hlo : ∀ n, n < 269 → cs66 n = cs n := fun n a => by rw [e66, va_up_ne _ _ (by omega)] <;> exact hlo n a
  clear e66
  refine ry_aload_n 0 dX12_init_263 rfl rfl ?_
  refine ry_sipush (v := 640) dX12_init_264 rfl ?_
  refine ry_newa (κ := 14) (n := 640) (atype := .int) (ty := .int) (t0 := 1) rfl wa_int rfl (fun _ _ => Iff.rfl) rfl (by decide) rfl (by decide) (Nat.le_of_ble_eq_true rfl) (Nat.le_of_ble_eq_true rfl) dX12_init_267 ?_
  refine ry_cs (fun cs67 e67 => ?_)
  replace hc0 : cs67 269 = .inr (12, [.int 0, .ref (gA G 270), .ref (gA G 271), .ref (gA G 272), .ref (gA G 273), .ref (gA G 274), .ref (gA G 275), .ref (gA G 276), .ref (gA G 277), .ref (gA G 278), .int 0, .int 0, .int 0, .int 0, .int 0, .long 0, .int 0, .int 0, .int 0, .ref (gA G 279), .ref (gA G 280), .int 0, .int 0, .int 0, .int 0, .int 0, .int 0, .int 0, .int 0, .int 0, .int 0, .ref (gA G 281), .ref (gA G 282), .ref (gA G 283), .ref (gA G 284), .ref (gA G 285), .ref (gA G 286), .ref (gA G 287), .ref (gA G 288), .ref (gA G 289), .ref (gA G 290), .ref (gA G 291), .ref (gA G 292), .ref (gA G 293), .ref (gA G 294), .ref (gA G 295), .ref (gA G 296), .ref (gA G 297), .ref (gA G 298), .ref (gA G 299), .ref (gA G 300), .ref (gA G 301), .ref (gA G 302), .null, .int 0, .int 0, .int 0, .int 0, .int 0, .int 0, .null, .null, .int 0, .int 0, .int 0, .int 0, .int 0, .null, .null, .int 0, .null, .int 0, .int 0, .null, .null, .null, .int 0, .int 0, .int 0, .int 0, .int 0, .int 0, .null, .int 0, .int 0, .int 0, .int 0, .int 0, .int 0, .int 0, .int 0, .null]) := by rw [e67, va_up_ne _ _ (by omega)]; exact hc0
  replace hc1 : cs67 270 = .inl (gY G 13, 2400, .inl (fun _ => 0)) := by rw [e67, va_up_ne _ _ (by omega)]; exact hc1
  replace hc2 : cs67 271 = .inl (gY G 14, 4, .inl (fun _ => 0)) := by rw [e67, va_up_ne _ _ (by omega)]; exact hc2
  replace hc3 : cs67 272 = .inl (gY G 14, 4, .inl (fun _ => 0)) := by rw [e67, va_up_ne _ _ (by omega)]; exact hc3
  replace hc4 : cs67 273 = .inl (gY G 14, 4, .inl (fun _ => 0)) := by rw [e67, va_up_ne _ _ (by omega)]; exact hc4
  replace hc5 : cs67 274 = .inl (gY G 14, 16, .inl (fun _ => 0)) := by rw [e67, va_up_ne _ _ (by omega)]; exact hc5
  replace hc6 : cs67 275 = .inl (gY G 14, 104, .inl (fun _ => 0)) := by rw [e67, va_up_ne _ _ (by omega)]; exact hc6
  replace hc7 : cs67 276 = .inl (gY G 14, 1072, .inl (fun _ => 0)) := by rw [e67, va_up_ne _ _ (by omega)]; exact hc7
  replace hc8 : cs67 277 = .inl (gY G 14, 968, .inl (fun _ => 0)) := by rw [e67, va_up_ne _ _ (by omega)]; exact hc8
  replace hc9 : cs67 278 = .inl (gY G 14, 136, .inl (fun _ => 0)) := by rw [e67, va_up_ne _ _ (by omega)]; exact hc9
  replace hc10 : cs67 279 = .inl (gY G 14, 134, .inl (fun _ => 0)) := by rw [e67, va_up_ne _ _ (by omega)]; exact hc10
  replace hc11 : cs67 280 = .inl (gY G 14, 3, .inl (fun _ => 0)) := by rw [e67, va_up_ne _ _ (by omega)]; exact hc11
  replace hc12 : cs67 281 = .inl (gY G 14, 10, .inl (fun _ => 0)) := by rw [e67, va_up_ne _ _ (by omega)]; exact hc12
  replace hc13 : cs67 282 = .inl (gY G 14, 10, .inl (fun _ => 0)) := by rw [e67, va_up_ne _ _ (by omega)]; exact hc13
  replace hc14 : cs67 283 = .inl (gY G 14, 10, .inl (fun _ => 0)) := by rw [e67, va_up_ne _ _ (by omega)]; exact hc14
  replace hc15 : cs67 284 = .inl (gY G 14, 10, .inl (fun _ => 0)) := by rw [e67, va_up_ne _ _ (by omega)]; exact hc15
  replace hc16 : cs67 285 = .inl (gY G 14, 10, .inl (fun _ => 0)) := by rw [e67, va_up_ne _ _ (by omega)]; exact hc16
  replace hc17 : cs67 286 = .inl (gY G 14, 4, .inl (fun _ => 0)) := by rw [e67, va_up_ne _ _ (by omega)]; exact hc17
  replace hc18 : cs67 287 = .inl (gY G 14, 4, .inl (fun _ => 0)) := by rw [e67, va_up_ne _ _ (by omega)]; exact hc18
  replace hc19 : cs67 288 = .inl (gY G 14, 4, .inl (fun _ => 0)) := by rw [e67, va_up_ne _ _ (by omega)]; exact hc19
  replace hc20 : cs67 289 = .inl (gY G 14, 4, .inl (fun _ => 0)) := by rw [e67, va_up_ne _ _ (by omega)]; exact hc20
  replace hc21 : cs67 290 = .inl (gY G 14, 4, .inl (fun _ => 0)) := by rw [e67, va_up_ne _ _ (by omega)]; exact hc21
  replace hc22 : cs67 291 = .inl (gY G 14, 4, .inl (fun _ => 0)) := by rw [e67, va_up_ne _ _ (by omega)]; exact hc22
  replace hc23 : cs67 292 = .inl (gY G 14, 40, .inl (fun _ => 0)) := by rw [e67, va_up_ne _ _ (by omega)]; exact hc23
  replace hc24 : cs67 293 = .inl (gY G 14, 40, .inl (fun _ => 0)) := by rw [e67, va_up_ne _ _ (by omega)]; exact hc24
  replace hc25 : cs67 294 = .inl (gY G 14, 40, .inl (fun _ => 0)) := by rw [e67, va_up_ne _ _ (by omega)]; exact hc25
  replace hc26 : cs67 295 = .inl (gY G 14, 64, .inl (fun _ => 0)) := by rw [e67, va_up_ne _ _ (by omega)]; exact hc26
  replace hc27 : cs67 296 = .inl (gY G 14, 64, .inl (fun _ => 0)) := by rw [e67, va_up_ne _ _ (by omega)]; exact hc27
  replace hc28 : cs67 297 = .inl (gY G 14, 64, .inl (fun _ => 0)) := by rw [e67, va_up_ne _ _ (by omega)]; exact hc28
  replace hc29 : cs67 298 = .inl (gY G 14, 64, .inl (fun _ => 0)) := by rw [e67, va_up_ne _ _ (by omega)]; exact hc29
  replace hc30 : cs67 299 = .inl (gY G 14, 64, .inl (fun _ => 0)) := by rw [e67, va_up_ne _ _ (by omega)]; exact hc30
  replace hc31 : cs67 300 = .inl (gY G 14, 64, .inl (fun _ => 0)) := by rw [e67, va_up_ne _ _ (by omega)]; exact hc31
  replace hc32 : cs67 301 = .inl (gY G 14, 64, .inl (fun _ => 0)) := by rw [e67, va_up_ne _ _ (by omega)]; exact hc32
  replace hc33 : cs67 302 = .inl (gY G 14, 64, .inl (fun _ => 0)) := by rw [e67, va_up_ne _ _ (by omega)]; exact hc33
  have hc34 : cs67 303 = .inl (gY G 14, 640, .inl (fun _ => 0)) := by rw [e67]; exact va_up_self _ _ _
  replace hlo : ∀ n, n < 269 → cs67 n = cs n := fun n a => by rw [e67, va_up_ne _ _ (by omega)] <;> exact hlo n a
  clear e67
  refine ry_putF ff_X12_110 rfl (by omega) hc0 rfl rfl (nlt rfl) dX12_init_269 ?_
  refine ry_cs (fun cs68 e68 => ?_)
  replace hc1 : cs68 270 = .inl (gY G 13, 2400, .inl (fun _ => 0)) := by rw [e68, va_up_ne _ _ (by omega)]; exact hc1
  replace hc2 : cs68 271 = .inl (gY G 14, 4, .inl (fun _ => 0)) := by rw [e68, va_up_ne _ _ (by omega)]; exact hc2
  replace hc3 : cs68 272 = .inl (gY G 14, 4, .inl (fun _ => 0)) := by rw [e68, va_up_ne _ _ (by omega)]; exact hc3
  replace hc4 : cs68 273 = .inl (gY G 14, 4, .inl (fun _ => 0)) := by rw [e68, va_up_ne _ _ (by omega)]; exact hc4
  replace hc5 : cs68 274 = .inl (gY G 14, 16, .inl (fun _ => 0)) := by rw [e68, va_up_ne _ _ (by omega)]; exact hc5
  replace hc6 : cs68 275 = .inl (gY G 14, 104, .inl (fun _ => 0)) := by rw [e68, va_up_ne _ _ (by omega)]; exact hc6
  replace hc7 : cs68 276 = .inl (gY G 14, 1072, .inl (fun _ => 0)) := by rw [e68, va_up_ne _ _ (by omega)]; exact hc7
  replace hc8 : cs68 277 = .inl (gY G 14, 968, .inl (fun _ => 0)) := by rw [e68, va_up_ne _ _ (by omega)]; exact hc8
  replace hc9 : cs68 278 = .inl (gY G 14, 136, .inl (fun _ => 0)) := by rw [e68, va_up_ne _ _ (by omega)]; exact hc9
  replace hc10 : cs68 279 = .inl (gY G 14, 134, .inl (fun _ => 0)) := by rw [e68, va_up_ne _ _ (by omega)]; exact hc10
  replace hc11 : cs68 280 = .inl (gY G 14, 3, .inl (fun _ => 0)) := by rw [e68, va_up_ne _ _ (by omega)]; exact hc11
  replace hc12 : cs68 281 = .inl (gY G 14, 10, .inl (fun _ => 0)) := by rw [e68, va_up_ne _ _ (by omega)]; exact hc12
  replace hc13 : cs68 282 = .inl (gY G 14, 10, .inl (fun _ => 0)) := by rw [e68, va_up_ne _ _ (by omega)]; exact hc13
  replace hc14 : cs68 283 = .inl (gY G 14, 10, .inl (fun _ => 0)) := by rw [e68, va_up_ne _ _ (by omega)]; exact hc14
  replace hc15 : cs68 284 = .inl (gY G 14, 10, .inl (fun _ => 0)) := by rw [e68, va_up_ne _ _ (by omega)]; exact hc15
  replace hc16 : cs68 285 = .inl (gY G 14, 10, .inl (fun _ => 0)) := by rw [e68, va_up_ne _ _ (by omega)]; exact hc16
  replace hc17 : cs68 286 = .inl (gY G 14, 4, .inl (fun _ => 0)) := by rw [e68, va_up_ne _ _ (by omega)]; exact hc17
  replace hc18 : cs68 287 = .inl (gY G 14, 4, .inl (fun _ => 0)) := by rw [e68, va_up_ne _ _ (by omega)]; exact hc18
  replace hc19 : cs68 288 = .inl (gY G 14, 4, .inl (fun _ => 0)) := by rw [e68, va_up_ne _ _ (by omega)]; exact hc19
  replace hc20 : cs68 289 = .inl (gY G 14, 4, .inl (fun _ => 0)) := by rw [e68, va_up_ne _ _ (by omega)]; exact hc20
  replace hc21 : cs68 290 = .inl (gY G 14, 4, .inl (fun _ => 0)) := by rw [e68, va_up_ne _ _ (by omega)]; exact hc21
  replace hc22 : cs68 291 = .inl (gY G 14, 4, .inl (fun _ => 0)) := by rw [e68, va_up_ne _ _ (by omega)]; exact hc22
  replace hc23 : cs68 292 = .inl (gY G 14, 40, .inl (fun _ => 0)) := by rw [e68, va_up_ne _ _ (by omega)]; exact hc23
  replace hc24 : cs68 293 = .inl (gY G 14, 40, .inl (fun _ => 0)) := by rw [e68, va_up_ne _ _ (by omega)]; exact hc24
  replace hc25 : cs68 294 = .inl (gY G 14, 40, .inl (fun _ => 0)) := by rw [e68, va_up_ne _ _ (by omega)]; exact hc25
  replace hc26 : cs68 295 = .inl (gY G 14, 64, .inl (fun _ => 0)) := by rw [e68, va_up_ne _ _ (by omega)]; exact hc26
  replace hc27 : cs68 296 = .inl (gY G 14, 64, .inl (fun _ => 0)) := by rw [e68, va_up_ne _ _ (by omega)]; exact hc27
  replace hc28 : cs68 297 = .inl (gY G 14, 64, .inl (fun _ => 0)) := by rw [e68, va_up_ne _ _ (by omega)]; exact hc28
  replace hc29 : cs68 298 = .inl (gY G 14, 64, .inl (fun _ => 0)) := by rw [e68, va_up_ne _ _ (by omega)]; exact hc29
  replace hc30 : cs68 299 = .inl (gY G 14, 64, .inl (fun _ => 0)) := by rw [e68, va_up_ne _ _ (by omega)]; exact hc30
  replace hc31 : cs68 300 = .inl (gY G 14, 64, .inl (fun _ => 0)) := by rw [e68, va_up_ne _ _ (by omega)]; exact hc31
  replace hc32 : cs68 301 = .inl (gY G 14, 64, .inl (fun _ => 0)) := by rw [e68, va_up_ne _ _ (by omega)]; exact hc32
  replace hc33 : cs68 302 = .inl (gY G 14, 64, .inl (fun _ => 0)) := by rw [e68, va_up_ne _ _ (by omega)]; exact hc33
  replace hc34 : cs68 303 = .inl (gY G 14, 640, .inl (fun _ => 0)) := by rw [e68, va_up_ne _ _ (by omega)]; exact hc34
  replace hc0 : cs68 269 = .inr (12, [.int 0, .ref (gA G 270), .ref (gA G 271), .ref (gA G 272), .ref (gA G 273), .ref (gA G 274), .ref (gA G 275), .ref (gA G 276), .ref (gA G 277), .ref (gA G 278), .int 0, .int 0, .int 0, .int 0, .int 0, .long 0, .int 0, .int 0, .int 0, .ref (gA G 279), .ref (gA G 280), .int 0, .int 0, .int 0, .int 0, .int 0, .int 0, .int 0, .int 0, .int 0, .int 0, .ref (gA G 281), .ref (gA G 282), .ref (gA G 283), .ref (gA G 284), .ref (gA G 285), .ref (gA G 286), .ref (gA G 287), .ref (gA G 288), .ref (gA G 289), .ref (gA G 290), .ref (gA G 291), .ref (gA G 292), .ref (gA G 293), .ref (gA G 294), .ref (gA G 295), .ref (gA G 296), .ref (gA G 297), .ref (gA G 298), .ref (gA G 299), .ref (gA G 300), .ref (gA G 301), .ref (gA G 302), .ref (gA G 303), .int 0, .int 0, .int 0, .int 0, .int 0, .int 0, .null, .null, .int 0, .int 0, .int 0, .int 0, .int 0, .null, .null, .int 0, .null, .int 0, .int 0, .null, .null, .null, .int 0, .int 0, .int 0, .int 0, .int 0, .int 0, .null, .int 0, .int 0, .int 0, .int 0, .int 0, .int 0, .int 0, .int 0, .null]) := by rw [e68]; exact va_up_self _ _ _
  replace hlo : ∀ n, n < 269 → cs68 n = cs n := fun n a => by rw [e68, va_up_ne _ _ (by omega)] <;> exact hlo n a
  clear e68
  refine ry_aload_n 0 dX12_init_272 rfl rfl ?_
  refine ry_bipush (v := 7) dX12_init_273 rfl ?_
  refine ry_newa (κ := 14) (n := 7) (atype := .int) (ty := .int) (t0 := 1) rfl wa_int rfl (fun _ _ => Iff.rfl) rfl (by decide) rfl (by decide) (Nat.le_of_ble_eq_true rfl) (Nat.le_of_ble_eq_true rfl) dX12_init_275 ?_
  refine ry_cs (fun cs69 e69 => ?_)
  replace hc0 : cs69 269 = .inr (12, [.int 0, .ref (gA G 270), .ref (gA G 271), .ref (gA G 272), .ref (gA G 273), .ref (gA G 274), .ref (gA G 275), .ref (gA G 276), .ref (gA G 277), .ref (gA G 278), .int 0, .int 0, .int 0, .int 0, .int 0, .long 0, .int 0, .int 0, .int 0, .ref (gA G 279), .ref (gA G 280), .int 0, .int 0, .int 0, .int 0, .int 0, .int 0, .int 0, .int 0, .int 0, .int 0, .ref (gA G 281), .ref (gA G 282), .ref (gA G 283), .ref (gA G 284), .ref (gA G 285), .ref (gA G 286), .ref (gA G 287), .ref (gA G 288), .ref (gA G 289), .ref (gA G 290), .ref (gA G 291), .ref (gA G 292), .ref (gA G 293), .ref (gA G 294), .ref (gA G 295), .ref (gA G 296), .ref (gA G 297), .ref (gA G 298), .ref (gA G 299), .ref (gA G 300), .ref (gA G 301), .ref (gA G 302), .ref (gA G 303), .int 0, .int 0, .int 0, .int 0, .int 0, .int 0, .null, .null, .int 0, .int 0, .int 0, .int 0, .int 0, .null, .null, .int 0, .null, .int 0, .int 0, .null, .null, .null, .int 0, .int 0, .int 0, .int 0, .int 0, .int 0, .null, .int 0, .int 0, .int 0, .int 0, .int 0, .int 0, .int 0, .int 0, .null]) := by rw [e69, va_up_ne _ _ (by omega)]; exact hc0
  replace hc1 : cs69 270 = .inl (gY G 13, 2400, .inl (fun _ => 0)) := by rw [e69, va_up_ne _ _ (by omega)]; exact hc1
  replace hc2 : cs69 271 = .inl (gY G 14, 4, .inl (fun _ => 0)) := by rw [e69, va_up_ne _ _ (by omega)]; exact hc2
  replace hc3 : cs69 272 = .inl (gY G 14, 4, .inl (fun _ => 0)) := by rw [e69, va_up_ne _ _ (by omega)]; exact hc3
  replace hc4 : cs69 273 = .inl (gY G 14, 4, .inl (fun _ => 0)) := by rw [e69, va_up_ne _ _ (by omega)]; exact hc4
  replace hc5 : cs69 274 = .inl (gY G 14, 16, .inl (fun _ => 0)) := by rw [e69, va_up_ne _ _ (by omega)]; exact hc5
  replace hc6 : cs69 275 = .inl (gY G 14, 104, .inl (fun _ => 0)) := by rw [e69, va_up_ne _ _ (by omega)]; exact hc6
  replace hc7 : cs69 276 = .inl (gY G 14, 1072, .inl (fun _ => 0)) := by rw [e69, va_up_ne _ _ (by omega)]; exact hc7
  replace hc8 : cs69 277 = .inl (gY G 14, 968, .inl (fun _ => 0)) := by rw [e69, va_up_ne _ _ (by omega)]; exact hc8
  replace hc9 : cs69 278 = .inl (gY G 14, 136, .inl (fun _ => 0)) := by rw [e69, va_up_ne _ _ (by omega)]; exact hc9
  replace hc10 : cs69 279 = .inl (gY G 14, 134, .inl (fun _ => 0)) := by rw [e69, va_up_ne _ _ (by omega)]; exact hc10
  replace hc11 : cs69 280 = .inl (gY G 14, 3, .inl (fun _ => 0)) := by rw [e69, va_up_ne _ _ (by omega)]; exact hc11
  replace hc12 : cs69 281 = .inl (gY G 14, 10, .inl (fun _ => 0)) := by rw [e69, va_up_ne _ _ (by omega)]; exact hc12
  replace hc13 : cs69 282 = .inl (gY G 14, 10, .inl (fun _ => 0)) := by rw [e69, va_up_ne _ _ (by omega)]; exact hc13
  replace hc14 : cs69 283 = .inl (gY G 14, 10, .inl (fun _ => 0)) := by rw [e69, va_up_ne _ _ (by omega)]; exact hc14
  replace hc15 : cs69 284 = .inl (gY G 14, 10, .inl (fun _ => 0)) := by rw [e69, va_up_ne _ _ (by omega)]; exact hc15
  replace hc16 : cs69 285 = .inl (gY G 14, 10, .inl (fun _ => 0)) := by rw [e69, va_up_ne _ _ (by omega)]; exact hc16
  replace hc17 : cs69 286 = .inl (gY G 14, 4, .inl (fun _ => 0)) := by rw [e69, va_up_ne _ _ (by omega)]; exact hc17
  replace hc18 : cs69 287 = .inl (gY G 14, 4, .inl (fun _ => 0)) := by rw [e69, va_up_ne _ _ (by omega)]; exact hc18
  replace hc19 : cs69 288 = .inl (gY G 14, 4, .inl (fun _ => 0)) := by rw [e69, va_up_ne _ _ (by omega)]; exact hc19
  replace hc20 : cs69 289 = .inl (gY G 14, 4, .inl (fun _ => 0)) := by rw [e69, va_up_ne _ _ (by omega)]; exact hc20
  replace hc21 : cs69 290 = .inl (gY G 14, 4, .inl (fun _ => 0)) := by rw [e69, va_up_ne _ _ (by omega)]; exact hc21
  replace hc22 : cs69 291 = .inl (gY G 14, 4, .inl (fun _ => 0)) := by rw [e69, va_up_ne _ _ (by omega)]; exact hc22
  replace hc23 : cs69 292 = .inl (gY G 14, 40, .inl (fun _ => 0)) := by rw [e69, va_up_ne _ _ (by omega)]; exact hc23
  replace hc24 : cs69 293 = .inl (gY G 14, 40, .inl (fun _ => 0)) := by rw [e69, va_up_ne _ _ (by omega)]; exact hc24
  replace hc25 : cs69 294 = .inl (gY G 14, 40, .inl (fun _ => 0)) := by rw [e69, va_up_ne _ _ (by omega)]; exact hc25
  replace hc26 : cs69 295 = .inl (gY G 14, 64, .inl (fun _ => 0)) := by rw [e69, va_up_ne _ _ (by omega)]; exact hc26
  replace hc27 : cs69 296 = .inl (gY G 14, 64, .inl (fun _ => 0)) := by rw [e69, va_up_ne _ _ (by omega)]; exact hc27
  replace hc28 : cs69 297 = .inl (gY G 14, 64, .inl (fun _ => 0)) := by rw [e69, va_up_ne _ _ (by omega)]; exact hc28
  replace hc29 : cs69 298 = .inl (gY G 14, 64, .inl (fun _ => 0)) := by rw [e69, va_up_ne _ _ (by omega)]; exact hc29
  replace hc30 : cs69 299 = .inl (gY G 14, 64, .inl (fun _ => 0)) := by rw [e69, va_up_ne _ _ (by omega)]; exact hc30
  replace hc31 : cs69 300 = .inl (gY G 14, 64, .inl (fun _ => 0)) := by rw [e69, va_up_ne _ _ (by omega)]; exact hc31
  replace hc32 : cs69 301 = .inl (gY G 14, 64, .inl (fun _ => 0)) := by rw [e69, va_up_ne _ _ (by omega)]; exact hc32
  replace hc33 : cs69 302 = .inl (gY G 14, 64, .inl (fun _ => 0)) := by rw [e69, va_up_ne _ _ (by omega)]; exact hc33
  replace hc34 : cs69 303 = .inl (gY G 14, 640, .inl (fun _ => 0)) := by rw [e69, va_up_ne _ _ (by omega)]; exact hc34
  have hc35 : cs69 304 = .inl (gY G 14, 7, .inl (fun _ => 0)) := by rw [e69]; exact va_up_self _ _ _
  replace hlo : ∀ n, n < 269 → cs69 n = cs n := fun n a => by rw [e69, va_up_ne _ _ (by omega)] <;> exact hlo n a
  clear e69
  refine ry_putF ff_X12_113 rfl (by omega) hc0 rfl rfl (nlt rfl) dX12_init_277 ?_
  refine ry_cs (fun cs70 e70 => ?_)
  replace hc1 : cs70 270 = .inl (gY G 13, 2400, .inl (fun _ => 0)) := by rw [e70, va_up_ne _ _ (by omega)]; exact hc1
  replace hc2 : cs70 271 = .inl (gY G 14, 4, .inl (fun _ => 0)) := by rw [e70, va_up_ne _ _ (by omega)]; exact hc2
  replace hc3 : cs70 272 = .inl (gY G 14, 4, .inl (fun _ => 0)) := by rw [e70, va_up_ne _ _ (by omega)]; exact hc3
  replace hc4 : cs70 273 = .inl (gY G 14, 4, .inl (fun _ => 0)) := by rw [e70, va_up_ne _ _ (by omega)]; exact hc4
  replace hc5 : cs70 274 = .inl (gY G 14, 16, .inl (fun _ => 0)) := by rw [e70, va_up_ne _ _ (by omega)]; exact hc5
  replace hc6 : cs70 275 = .inl (gY G 14, 104, .inl (fun _ => 0)) := by rw [e70, va_up_ne _ _ (by omega)]; exact hc6
  replace hc7 : cs70 276 = .inl (gY G 14, 1072, .inl (fun _ => 0)) := by rw [e70, va_up_ne _ _ (by omega)]; exact hc7
  replace hc8 : cs70 277 = .inl (gY G 14, 968, .inl (fun _ => 0)) := by rw [e70, va_up_ne _ _ (by omega)]; exact hc8
  replace hc9 : cs70 278 = .inl (gY G 14, 136, .inl (fun _ => 0)) := by rw [e70, va_up_ne _ _ (by omega)]; exact hc9
  replace hc10 : cs70 279 = .inl (gY G 14, 134, .inl (fun _ => 0)) := by rw [e70, va_up_ne _ _ (by omega)]; exact hc10
  replace hc11 : cs70 280 = .inl (gY G 14, 3, .inl (fun _ => 0)) := by rw [e70, va_up_ne _ _ (by omega)]; exact hc11
  replace hc12 : cs70 281 = .inl (gY G 14, 10, .inl (fun _ => 0)) := by rw [e70, va_up_ne _ _ (by omega)]; exact hc12
  replace hc13 : cs70 282 = .inl (gY G 14, 10, .inl (fun _ => 0)) := by rw [e70, va_up_ne _ _ (by omega)]; exact hc13
  replace hc14 : cs70 283 = .inl (gY G 14, 10, .inl (fun _ => 0)) := by rw [e70, va_up_ne _ _ (by omega)]; exact hc14
  replace hc15 : cs70 284 = .inl (gY G 14, 10, .inl (fun _ => 0)) := by rw [e70, va_up_ne _ _ (by omega)]; exact hc15
  replace hc16 : cs70 285 = .inl (gY G 14, 10, .inl (fun _ => 0)) := by rw [e70, va_up_ne _ _ (by omega)]; exact hc16
  replace hc17 : cs70 286 = .inl (gY G 14, 4, .inl (fun _ => 0)) := by rw [e70, va_up_ne _ _ (by omega)]; exact hc17
  replace hc18 : cs70 287 = .inl (gY G 14, 4, .inl (fun _ => 0)) := by rw [e70, va_up_ne _ _ (by omega)]; exact hc18
  replace hc19 : cs70 288 = .inl (gY G 14, 4, .inl (fun _ => 0)) := by rw [e70, va_up_ne _ _ (by omega)]; exact hc19
  replace hc20 : cs70 289 = .inl (gY G 14, 4, .inl (fun _ => 0)) := by rw [e70, va_up_ne _ _ (by omega)]; exact hc20
  replace hc21 : cs70 290 = .inl (gY G 14, 4, .inl (fun _ => 0)) := by rw [e70, va_up_ne _ _ (by omega)]; exact hc21
  replace hc22 : cs70 291 = .inl (gY G 14, 4, .inl (fun _ => 0)) := by rw [e70, va_up_ne _ _ (by omega)]; exact hc22
  replace hc23 : cs70 292 = .inl (gY G 14, 40, .inl (fun _ => 0)) := by rw [e70, va_up_ne _ _ (by omega)]; exact hc23
  replace hc24 : cs70 293 = .inl (gY G 14, 40, .inl (fun _ => 0)) := by rw [e70, va_up_ne _ _ (by omega)]; exact hc24
  replace hc25 : cs70 294 = .inl (gY G 14, 40, .inl (fun _ => 0)) := by rw [e70, va_up_ne _ _ (by omega)]; exact hc25
  replace hc26 : cs70 295 = .inl (gY G 14, 64, .inl (fun _ => 0)) := by rw [e70, va_up_ne _ _ (by omega)]; exact hc26
  replace hc27 : cs70 296 = .inl (gY G 14, 64, .inl (fun _ => 0)) := by rw [e70, va_up_ne _ _ (by omega)]; exact hc27
  replace hc28 : cs70 297 = .inl (gY G 14, 64, .inl (fun _ => 0)) := by rw [e70, va_up_ne _ _ (by omega)]; exact hc28
  replace hc29 : cs70 298 = .inl (gY G 14, 64, .inl (fun _ => 0)) := by rw [e70, va_up_ne _ _ (by omega)]; exact hc29
  replace hc30 : cs70 299 = .inl (gY G 14, 64, .inl (fun _ => 0)) := by rw [e70, va_up_ne _ _ (by omega)]; exact hc30
  replace hc31 : cs70 300 = .inl (gY G 14, 64, .inl (fun _ => 0)) := by rw [e70, va_up_ne _ _ (by omega)]; exact hc31
  replace hc32 : cs70 301 = .inl (gY G 14, 64, .inl (fun _ => 0)) := by rw [e70, va_up_ne _ _ (by omega)]; exact hc32
  replace hc33 : cs70 302 = .inl (gY G 14, 64, .inl (fun _ => 0)) := by rw [e70, va_up_ne _ _ (by omega)]; exact hc33
  replace hc34 : cs70 303 = .inl (gY G 14, 640, .inl (fun _ => 0)) := by rw [e70, va_up_ne _ _ (by omega)]; exact hc34
  replace hc35 : cs70 304 = .inl (gY G 14, 7, .inl (fun _ => 0)) := by rw [e70, va_up_ne _ _ (by omega)]; exact hc35
  replace hc0 : cs70 269 = .inr (12, [.int 0, .ref (gA G 270), .ref (gA G 271), .ref (gA G 272), .ref (gA G 273), .ref (gA G 274), .ref (gA G 275), .ref (gA G 276), .ref (gA G 277), .ref (gA G 278), .int 0, .int 0, .int 0, .int 0, .int 0, .long 0, .int 0, .int 0, .int 0, .ref (gA G 279), .ref (gA G 280), .int 0, .int 0, .int 0, .int 0, .int 0, .int 0, .int 0, .int 0, .int 0, .int 0, .ref (gA G 281), .ref (gA G 282), .ref (gA G 283), .ref (gA G 284), .ref (gA G 285), .ref (gA G 286), .ref (gA G 287), .ref (gA G 288), .ref (gA G 289), .ref (gA G 290), .ref (gA G 291), .ref (gA G 292), .ref (gA G 293), .ref (gA G 294), .ref (gA G 295), .ref (gA G 296), .ref (gA G 297), .ref (gA G 298), .ref (gA G 299), .ref (gA G 300), .ref (gA G 301), .ref (gA G 302), .ref (gA G 303), .int 0, .int 0, .int 0, .int 0, .int 0, .int 0, .ref (gA G 304), .null, .int 0, .int 0, .int 0, .int 0, .int 0, .null, .null, .int 0, .null, .int 0, .int 0, .null, .null, .null, .int 0, .int 0, .int 0, .int 0, .int 0, .int 0, .null, .int 0, .int 0, .int 0, .int 0, .int 0, .int 0, .int 0, .int 0, .null]) := by rw [e70]; exact va_up_self _ _ _
  replace hlo : ∀ n, n < 269 → cs70 n = cs n := fun n a => by rw [e70, va_up_ne _ _ (by omega)] <;> exact hlo n a
  clear e70
  refine ry_aload_n 0 dX12_init_280 rfl rfl ?_
  refine ry_bipush (v := 10) dX12_init_281 rfl ?_
  refine ry_newa (κ := 14) (n := 10) (atype := .int) (ty := .int) (t0 := 1) rfl wa_int rfl (fun _ _ => Iff.rfl) rfl (by decide) rfl (by decide) (Nat.le_of_ble_eq_true rfl) (Nat.le_of_ble_eq_true rfl) dX12_init_283 ?_
  refine ry_cs (fun cs71 e71 => ?_)
  replace hc0 : cs71 269 = .inr (12, [.int 0, .ref (gA G 270), .ref (gA G 271), .ref (gA G 272), .ref (gA G 273), .ref (gA G 274), .ref (gA G 275), .ref (gA G 276), .ref (gA G 277), .ref (gA G 278), .int 0, .int 0, .int 0, .int 0, .int 0, .long 0, .int 0, .int 0, .int 0, .ref (gA G 279), .ref (gA G 280), .int 0, .int 0, .int 0, .int 0, .int 0, .int 0, .int 0, .int 0, .int 0, .int 0, .ref (gA G 281), .ref (gA G 282), .ref (gA G 283), .ref (gA G 284), .ref (gA G 285), .ref (gA G 286), .ref (gA G 287), .ref (gA G 288), .ref (gA G 289), .ref (gA G 290), .ref (gA G 291), .ref (gA G 292), .ref (gA G 293), .ref (gA G 294), .ref (gA G 295), .ref (gA G 296), .ref (gA G 297), .ref (gA G 298), .ref (gA G 299), .ref (gA G 300), .ref (gA G 301), .ref (gA G 302), .ref (gA G 303), .int 0, .int 0, .int 0, .int 0, .int 0, .int 0, .ref (gA G 304), .null, .int 0, .int 0, .int 0, .int 0, .int 0, .null, .null, .int 0, .null, .int 0, .int 0, .null, .null, .null, .int 0, .int 0, .int 0, .int 0, .int 0, .int 0, .null, .int 0, .int 0, .int 0, .int 0, .int 0, .int 0, .int 0, .int 0, .null]) := by rw [e71, va_up_ne _ _ (by omega)]; exact hc0
  replace hc1 : cs71 270 = .inl (gY G 13, 2400, .inl (fun _ => 0)) := by rw [e71, va_up_ne _ _ (by omega)]; exact hc1
  replace hc2 : cs71 271 = .inl (gY G 14, 4, .inl (fun _ => 0)) := by rw [e71, va_up_ne _ _ (by omega)]; exact hc2
  replace hc3 : cs71 272 = .inl (gY G 14, 4, .inl (fun _ => 0)) := by rw [e71, va_up_ne _ _ (by omega)]; exact hc3
  replace hc4 : cs71 273 = .inl (gY G 14, 4, .inl (fun _ => 0)) := by rw [e71, va_up_ne _ _ (by omega)]; exact hc4
  replace hc5 : cs71 274 = .inl (gY G 14, 16, .inl (fun _ => 0)) := by rw [e71, va_up_ne _ _ (by omega)]; exact hc5
  replace hc6 : cs71 275 = .inl (gY G 14, 104, .inl (fun _ => 0)) := by rw [e71, va_up_ne _ _ (by omega)]; exact hc6
  replace hc7 : cs71 276 = .inl (gY G 14, 1072, .inl (fun _ => 0)) := by rw [e71, va_up_ne _ _ (by omega)]; exact hc7
  replace hc8 : cs71 277 = .inl (gY G 14, 968, .inl (fun _ => 0)) := by rw [e71, va_up_ne _ _ (by omega)]; exact hc8
  replace hc9 : cs71 278 = .inl (gY G 14, 136, .inl (fun _ => 0)) := by rw [e71, va_up_ne _ _ (by omega)]; exact hc9
  replace hc10 : cs71 279 = .inl (gY G 14, 134, .inl (fun _ => 0)) := by rw [e71, va_up_ne _ _ (by omega)]; exact hc10
  replace hc11 : cs71 280 = .inl (gY G 14, 3, .inl (fun _ => 0)) := by rw [e71, va_up_ne _ _ (by omega)]; exact hc11
  replace hc12 : cs71 281 = .inl (gY G 14, 10, .inl (fun _ => 0)) := by rw [e71, va_up_ne _ _ (by omega)]; exact hc12
  replace hc13 : cs71 282 = .inl (gY G 14, 10, .inl (fun _ => 0)) := by rw [e71, va_up_ne _ _ (by omega)]; exact hc13
  replace hc14 : cs71 283 = .inl (gY G 14, 10, .inl (fun _ => 0)) := by rw [e71, va_up_ne _ _ (by omega)]; exact hc14
  replace hc15 : cs71 284 = .inl (gY G 14, 10, .inl (fun _ => 0)) := by rw [e71, va_up_ne _ _ (by omega)]; exact hc15
  replace hc16 : cs71 285 = .inl (gY G 14, 10, .inl (fun _ => 0)) := by rw [e71, va_up_ne _ _ (by omega)]; exact hc16
  replace hc17 : cs71 286 = .inl (gY G 14, 4, .inl (fun _ => 0)) := by rw [e71, va_up_ne _ _ (by omega)]; exact hc17
  replace hc18 : cs71 287 = .inl (gY G 14, 4, .inl (fun _ => 0)) := by rw [e71, va_up_ne _ _ (by omega)]; exact hc18
  replace hc19 : cs71 288 = .inl (gY G 14, 4, .inl (fun _ => 0)) := by rw [e71, va_up_ne _ _ (by omega)]; exact hc19
  replace hc20 : cs71 289 = .inl (gY G 14, 4, .inl (fun _ => 0)) := by rw [e71, va_up_ne _ _ (by omega)]; exact hc20
  replace hc21 : cs71 290 = .inl (gY G 14, 4, .inl (fun _ => 0)) := by rw [e71, va_up_ne _ _ (by omega)]; exact hc21
  replace hc22 : cs71 291 = .inl (gY G 14, 4, .inl (fun _ => 0)) := by rw [e71, va_up_ne _ _ (by omega)]; exact hc22
  replace hc23 : cs71 292 = .inl (gY G 14, 40, .inl (fun _ => 0)) := by rw [e71, va_up_ne _ _ (by omega)]; exact hc23
  replace hc24 : cs71 293 = .inl (gY G 14, 40, .inl (fun _ => 0)) := by rw [e71, va_up_ne _ _ (by omega)]; exact hc24
  replace hc25 : cs71 294 = .inl (gY G 14, 40, .inl (fun _ => 0)) := by rw [e71, va_up_ne _ _ (by omega)]; exact hc25
  replace hc26 : cs71 295 = .inl (gY G 14, 64, .inl (fun _ => 0)) := by rw [e71, va_up_ne _ _ (by omega)]; exact hc26
  replace hc27 : cs71 296 = .inl (gY G 14, 64, .inl (fun _ => 0)) := by rw [e71, va_up_ne _ _ (by omega)]; exact hc27
  replace hc28 : cs71 297 = .inl (gY G 14, 64, .inl (fun _ => 0)) := by rw [e71, va_up_ne _ _ (by omega)]; exact hc28
  replace hc29 : cs71 298 = .inl (gY G 14, 64, .inl (fun _ => 0)) := by rw [e71, va_up_ne _ _ (by omega)]; exact hc29
  replace hc30 : cs71 299 = .inl (gY G 14, 64, .inl (fun _ => 0)) := by rw [e71, va_up_ne _ _ (by omega)]; exact hc30
  replace hc31 : cs71 300 = .inl (gY G 14, 64, .inl (fun _ => 0)) := by rw [e71, va_up_ne _ _ (by omega)]; exact hc31
  replace hc32 : cs71 301 = .inl (gY G 14, 64, .inl (fun _ => 0)) := by rw [e71, va_up_ne _ _ (by omega)]; exact hc32
  replace hc33 : cs71 302 = .inl (gY G 14, 64, .inl (fun _ => 0)) := by rw [e71, va_up_ne _ _ (by omega)]; exact hc33
  replace hc34 : cs71 303 = .inl (gY G 14, 640, .inl (fun _ => 0)) := by rw [e71, va_up_ne _ _ (by omega)]; exact hc34
  replace hc35 : cs71 304 = .inl (gY G 14, 7, .inl (fun _ => 0)) := by rw [e71, va_up_ne _ _ (by omega)]; exact hc35
  have hc36 : cs71 305 = .inl (gY G 14, 10, .inl (fun _ => 0)) := by rw [e71]; exact va_up_self _ _ _
  replace hlo : ∀ n, n < 269 → cs71 n = cs n := fun n a => by rw [e71, va_up_ne _ _ (by omega)] <;> exact hlo n a
  clear e71
  refine ry_putF ff_X12_116 rfl (by omega) hc0 rfl rfl (nlt rfl) dX12_init_285 ?_
  refine ry_cs (fun cs72 e72 => ?_)
  replace hc1 : cs72 270 = .inl (gY G 13, 2400, .inl (fun _ => 0)) := by rw [e72, va_up_ne _ _ (by omega)]; exact hc1
  replace hc2 : cs72 271 = .inl (gY G 14, 4, .inl (fun _ => 0)) := by rw [e72, va_up_ne _ _ (by omega)]; exact hc2
  replace hc3 : cs72 272 = .inl (gY G 14, 4, .inl (fun _ => 0)) := by rw [e72, va_up_ne _ _ (by omega)]; exact hc3
  replace hc4 : cs72 273 = .inl (gY G 14, 4, .inl (fun _ => 0)) := by rw [e72, va_up_ne _ _ (by omega)]; exact hc4
  replace hc5 : cs72 274 = .inl (gY G 14, 16, .inl (fun _ => 0)) := by rw [e72, va_up_ne _ _ (by omega)]; exact hc5
  replace hc6 : cs72 275 = .inl (gY G 14, 104, .inl (fun _ => 0)) := by rw [e72, va_up_ne _ _ (by omega)]; exact hc6
  replace hc7 : cs72 276 = .inl (gY G 14, 1072, .inl (fun _ => 0)) := by rw [e72, va_up_ne _ _ (by omega)]; exact hc7
  replace hc8 : cs72 277 = .inl (gY G 14, 968, .inl (fun _ => 0)) := by rw [e72, va_up_ne _ _ (by omega)]; exact hc8
  replace hc9 : cs72 278 = .inl (gY G 14, 136, .inl (fun _ => 0)) := by rw [e72, va_up_ne _ _ (by omega)]; exact hc9
  replace hc10 : cs72 279 = .inl (gY G 14, 134, .inl (fun _ => 0)) := by rw [e72, va_up_ne _ _ (by omega)]; exact hc10
  replace hc11 : cs72 280 = .inl (gY G 14, 3, .inl (fun _ => 0)) := by rw [e72, va_up_ne _ _ (by omega)]; exact hc11
  replace hc12 : cs72 281 = .inl (gY G 14, 10, .inl (fun _ => 0)) := by rw [e72, va_up_ne _ _ (by omega)]; exact hc12
  replace hc13 : cs72 282 = .inl (gY G 14, 10, .inl (fun _ => 0)) := by rw [e72, va_up_ne _ _ (by omega)]; exact hc13
  replace hc14 : cs72 283 = .inl (gY G 14, 10, .inl (fun _ => 0)) := by rw [e72, va_up_ne _ _ (by omega)]; exact hc14
  replace hc15 : cs72 284 = .inl (gY G 14, 10, .inl (fun _ => 0)) := by rw [e72, va_up_ne _ _ (by omega)]; exact hc15
  replace hc16 : cs72 285 = .inl (gY G 14, 10, .inl (fun _ => 0)) := by rw [e72, va_up_ne _ _ (by omega)]; exact hc16
  replace hc17 : cs72 286 = .inl (gY G 14, 4, .inl (fun _ => 0)) := by rw [e72, va_up_ne _ _ (by omega)]; exact hc17
  replace hc18 : cs72 287 = .inl (gY G 14, 4, .inl (fun _ => 0)) := by rw [e72, va_up_ne _ _ (by omega)]; exact hc18
  replace hc19 : cs72 288 = .inl (gY G 14, 4, .inl (fun _ => 0)) := by rw [e72, va_up_ne _ _ (by omega)]; exact hc19
  replace hc20 : cs72 289 = .inl (gY G 14, 4, .inl (fun _ => 0)) := by rw [e72, va_up_ne _ _ (by omega)]; exact hc20
  replace hc21 : cs72 290 = .inl (gY G 14, 4, .inl (fun _ => 0)) := by rw [e72, va_up_ne _ _ (by omega)]; exact hc21
  replace hc22 : cs72 291 = .inl (gY G 14, 4, .inl (fun _ => 0)) := by rw [e72, va_up_ne _ _ (by omega)]; exact hc22
  replace hc23 : cs72 292 = .inl (gY G 14, 40, .inl (fun _ => 0)) := by rw [e72, va_up_ne _ _ (by omega)]; exact hc23
  replace hc24 : cs72 293 = .inl (gY G 14, 40, .inl (fun _ => 0)) := by rw [e72, va_up_ne _ _ (by omega)]; exact hc24
  replace hc25 : cs72 294 = .inl (gY G 14, 40, .inl (fun _ => 0)) := by rw [e72, va_up_ne _ _ (by omega)]; exact hc25
  replace hc26 : cs72 295 = .inl (gY G 14, 64, .inl (fun _ => 0)) := by rw [e72, va_up_ne _ _ (by omega)]; exact hc26
  replace hc27 : cs72 296 = .inl (gY G 14, 64, .inl (fun _ => 0)) := by rw [e72, va_up_ne _ _ (by omega)]; exact hc27
  replace hc28 : cs72 297 = .inl (gY G 14, 64, .inl (fun _ => 0)) := by rw [e72, va_up_ne _ _ (by omega)]; exact hc28
  replace hc29 : cs72 298 = .inl (gY G 14, 64, .inl (fun _ => 0)) := by rw [e72, va_up_ne _ _ (by omega)]; exact hc29
  replace hc30 : cs72 299 = .inl (gY G 14, 64, .inl (fun _ => 0)) := by rw [e72, va_up_ne _ _ (by omega)]; exact hc30
  replace hc31 : cs72 300 = .inl (gY G 14, 64, .inl (fun _ => 0)) := by rw [e72, va_up_ne _ _ (by omega)]; exact hc31
  replace hc32 : cs72 301 = .inl (gY G 14, 64, .inl (fun _ => 0)) := by rw [e72, va_up_ne _ _ (by omega)]; exact hc32
  replace hc33 : cs72 302 = .inl (gY G 14, 64, .inl (fun _ => 0)) := by rw [e72, va_up_ne _ _ (by omega)]; exact hc33
  replace hc34 : cs72 303 = .inl (gY G 14, 640, .inl (fun _ => 0)) := by rw [e72, va_up_ne _ _ (by omega)]; exact hc34
  replace hc35 : cs72 304 = .inl (gY G 14, 7, .inl (fun _ => 0)) := by rw [e72, va_up_ne _ _ (by omega)]; exact hc35
  replace hc36 : cs72 305 = .inl (gY G 14, 10, .inl (fun _ => 0)) := by rw [e72, va_up_ne _ _ (by omega)]; exact hc36
  replace hc0 : cs72 269 = .inr (12, [.int 0, .ref (gA G 270), .ref (gA G 271), .ref (gA G 272), .ref (gA G 273), .ref (gA G 274), .ref (gA G 275), .ref (gA G 276), .ref (gA G 277), .ref (gA G 278), .int 0, .int 0, .int 0, .int 0, .int 0, .long 0, .int 0, .int 0, .int 0, .ref (gA G 279), .ref (gA G 280), .int 0, .int 0, .int 0, .int 0, .int 0, .int 0, .int 0, .int 0, .int 0, .int 0, .ref (gA G 281), .ref (gA G 282), .ref (gA G 283), .ref (gA G 284), .ref (gA G 285), .ref (gA G 286), .ref (gA G 287), .ref (gA G 288), .ref (gA G 289), .ref (gA G 290), .ref (gA G 291), .ref (gA G 292), .ref (gA G 293), .ref (gA G 294), .ref (gA G 295), .ref (gA G 296), .ref (gA G 297), .ref (gA G 298), .ref (gA G 299), .ref (gA G 300), .ref (gA G 301), .ref (gA G 302), .ref (gA G 303), .int 0, .int 0, .int 0, .int 0, .int 0, .int 0, .ref (gA G 304), .ref (gA G 305), .int 0, .int 0, .int 0, .int 0, .int 0, .null, .null, .int 0, .null, .int 0, .int 0, .null, .null, .null, .int 0, .int 0, .int 0, .int 0, .int 0, .int 0, .null, .int 0, .int 0, .int 0, .int 0, .int 0, .int 0, .int 0, .int 0, .null]) := by rw [e72]; exact va_up_self _ _ _
  replace hlo : ∀ n, n < 269 → cs72 n = cs n := fun n a => by rw [e72, va_up_ne _ _ (by omega)] <;> exact hlo n a
  clear e72
  refine ry_aload_n 0 dX12_init_288 rfl rfl ?_
  refine ry_bipush (v := 10) dX12_init_289 rfl ?_
  refine ry_newa (κ := 14) (n := 10) (atype := .int) (ty := .int) (t0 := 1) rfl wa_int rfl (fun _ _ => Iff.rfl) rfl (by decide) rfl (by decide) (Nat.le_of_ble_eq_true rfl) (Nat.le_of_ble_eq_true rfl) dX12_init_291 ?_
  refine ry_cs (fun cs73 e73 => ?_)
  replace hc0 : cs73 269 = .inr (12, [.int 0, .ref (gA G 270), .ref (gA G 271), .ref (gA G 272), .ref (gA G 273), .ref (gA G 274), .ref (gA G 275), .ref (gA G 276), .ref (gA G 277), .ref (gA G 278), .int 0, .int 0, .int 0, .int 0, .int 0, .long 0, .int 0, .int 0, .int 0, .ref (gA G 279), .ref (gA G 280), .int 0, .int 0, .int 0, .int 0, .int 0, .int 0, .int 0, .int 0, .int 0, .int 0, .ref (gA G 281), .ref (gA G 282), .ref (gA G 283), .ref (gA G 284), .ref (gA G 285), .ref (gA G 286), .ref (gA G 287), .ref (gA G 288), .ref (gA G 289), .ref (gA G 290), .ref (gA G 291), .ref (gA G 292), .ref (gA G 293), .ref (gA G 294), .ref (gA G 295), .ref (gA G 296), .ref (gA G 297), .ref (gA G 298), .ref (gA G 299), .ref (gA G 300), .ref (gA G 301), .ref (gA G 302), .ref (gA G 303), .int 0, .int 0, .int 0, .int 0, .int 0, .int 0, .ref (gA G 304), .ref (gA G 305), .int 0, .int 0, .int 0, .int 0, .int 0, .null, .null, .int 0, .null, .int 0, .int 0, .null, .null, .null, .int 0, .int 0, .int 0, .int 0, .int 0, .int 0, .null, .int 0, .int 0, .int 0, .int 0, .int 0, .int 0, .int 0, .int 0, .null]) := by rw [e73, va_up_ne _ _ (by omega)]; exact hc0
  replace hc1 : cs73 270 = .inl (gY G 13, 2400, .inl (fun _ => 0)) := by rw [e73, va_up_ne _ _ (by omega)]; exact hc1
  replace hc2 : cs73 271 = .inl (gY G 14, 4, .inl (fun _ => 0)) := by rw [e73, va_up_ne _ _ (by omega)]; exact hc2
  replace hc3 : cs73 272 = .inl (gY G 14, 4, .inl (fun _ => 0)) := by rw [e73, va_up_ne _ _ (by omega)]; exact hc3
  replace hc4 : cs73 273 = .inl (gY G 14, 4, .inl (fun _ => 0)) := by rw [e73, va_up_ne _ _ (by omega)]; exact hc4
  replace hc5 : cs73 274 = .inl (gY G 14, 16, .inl (fun _ => 0)) := by rw [e73, va_up_ne _ _ (by omega)]; exact hc5
  replace hc6 : cs73 275 = .inl (gY G 14, 104, .inl (fun _ => 0)) := by rw [e73, va_up_ne _ _ (by omega)]; exact hc6
  replace hc7 : cs73 276 = .inl (gY G 14, 1072, .inl (fun _ => 0)) := by rw [e73, va_up_ne _ _ (by omega)]; exact hc7
  replace hc8 : cs73 277 = .inl (gY G 14, 968, .inl (fun _ => 0)) := by rw [e73, va_up_ne _ _ (by omega)]; exact hc8
  replace hc9 : cs73 278 = .inl (gY G 14, 136, .inl (fun _ => 0)) := by rw [e73, va_up_ne _ _ (by omega)]; exact hc9
  replace hc10 : cs73 279 = .inl (gY G 14, 134, .inl (fun _ => 0)) := by rw [e73, va_up_ne _ _ (by omega)]; exact hc10
  replace hc11 : cs73 280 = .inl (gY G 14, 3, .inl (fun _ => 0)) := by rw [e73, va_up_ne _ _ (by omega)]; exact hc11
  replace hc12 : cs73 281 = .inl (gY G 14, 10, .inl (fun _ => 0)) := by rw [e73, va_up_ne _ _ (by omega)]; exact hc12
  replace hc13 : cs73 282 = .inl (gY G 14, 10, .inl (fun _ => 0)) := by rw [e73, va_up_ne _ _ (by omega)]; exact hc13
  replace hc14 : cs73 283 = .inl (gY G 14, 10, .inl (fun _ => 0)) := by rw [e73, va_up_ne _ _ (by omega)]; exact hc14
  replace hc15 : cs73 284 = .inl (gY G 14, 10, .inl (fun _ => 0)) := by rw [e73, va_up_ne _ _ (by omega)]; exact hc15
  replace hc16 : cs73 285 = .inl (gY G 14, 10, .inl (fun _ => 0)) := by rw [e73, va_up_ne _ _ (by omega)]; exact hc16
  replace hc17 : cs73 286 = .inl (gY G 14, 4, .inl (fun _ => 0)) := by rw [e73, va_up_ne _ _ (by omega)]; exact hc17
  replace hc18 : cs73 287 = .inl (gY G 14, 4, .inl (fun _ => 0)) := by rw [e73, va_up_ne _ _ (by omega)]; exact hc18
  replace hc19 : cs73 288 = .inl (gY G 14, 4, .inl (fun _ => 0)) := by rw [e73, va_up_ne _ _ (by omega)]; exact hc19
  replace hc20 : cs73 289 = .inl (gY G 14, 4, .inl (fun _ => 0)) := by rw [e73, va_up_ne _ _ (by omega)]; exact hc20
  replace hc21 : cs73 290 = .inl (gY G 14, 4, .inl (fun _ => 0)) := by rw [e73, va_up_ne _ _ (by omega)]; exact hc21
  replace hc22 : cs73 291 = .inl (gY G 14, 4, .inl (fun _ => 0)) := by rw [e73, va_up_ne _ _ (by omega)]; exact hc22
  replace hc23 : cs73 292 = .inl (gY G 14, 40, .inl (fun _ => 0)) := by rw [e73, va_up_ne _ _ (by omega)]; exact hc23
  replace hc24 : cs73 293 = .inl (gY G 14, 40, .inl (fun _ => 0)) := by rw [e73, va_up_ne _ _ (by omega)]; exact hc24
  replace hc25 : cs73 294 = .inl (gY G 14, 40, .inl (fun _ => 0)) := by rw [e73, va_up_ne _ _ (by omega)]; exact hc25
  replace hc26 : cs73 295 = .inl (gY G 14, 64, .inl (fun _ => 0)) := by rw [e73, va_up_ne _ _ (by omega)]; exact hc26
  replace hc27 : cs73 296 = .inl (gY G 14, 64, .inl (fun _ => 0)) := by rw [e73, va_up_ne _ _ (by omega)]; exact hc27
  replace hc28 : cs73 297 = .inl (gY G 14, 64, .inl (fun _ => 0)) := by rw [e73, va_up_ne _ _ (by omega)]; exact hc28
  replace hc29 : cs73 298 = .inl (gY G 14, 64, .inl (fun _ => 0)) := by rw [e73, va_up_ne _ _ (by omega)]; exact hc29
  replace hc30 : cs73 299 = .inl (gY G 14, 64, .inl (fun _ => 0)) := by rw [e73, va_up_ne _ _ (by omega)]; exact hc30
  replace hc31 : cs73 300 = .inl (gY G 14, 64, .inl (fun _ => 0)) := by rw [e73, va_up_ne _ _ (by omega)]; exact hc31
  replace hc32 : cs73 301 = .inl (gY G 14, 64, .inl (fun _ => 0)) := by rw [e73, va_up_ne _ _ (by omega)]; exact hc32
  replace hc33 : cs73 302 = .inl (gY G 14, 64, .inl (fun _ => 0)) := by rw [e73, va_up_ne _ _ (by omega)]; exact hc33
  replace hc34 : cs73 303 = .inl (gY G 14, 640, .inl (fun _ => 0)) := by rw [e73, va_up_ne _ _ (by omega)]; exact hc34
  replace hc35 : cs73 304 = .inl (gY G 14, 7, .inl (fun _ => 0)) := by rw [e73, va_up_ne _ _ (by omega)]; exact hc35
  replace hc36 : cs73 305 = .inl (gY G 14, 10, .inl (fun _ => 0)) := by rw [e73, va_up_ne _ _ (by omega)]; exact hc36
  have hc37 : cs73 306 = .inl (gY G 14, 10, .inl (fun _ => 0)) := by rw [e73]; exact va_up_self _ _ _
  replace hlo : ∀ n, n < 269 → cs73 n = cs n := fun n a => by rw [e73, va_up_ne _ _ (by omega)] <;> exact hlo n a
  clear e73
  refine ry_putF ff_X12_119 rfl (by omega) hc0 rfl rfl (nlt rfl) dX12_init_293 ?_
  refine ry_cs (fun cs74 e74 => ?_)
  replace hc1 : cs74 270 = .inl (gY G 13, 2400, .inl (fun _ => 0)) := by rw [e74, va_up_ne _ _ (by omega)]; exact hc1
  replace hc2 : cs74 271 = .inl (gY G 14, 4, .inl (fun _ => 0)) := by rw [e74, va_up_ne _ _ (by omega)]; exact hc2
  replace hc3 : cs74 272 = .inl (gY G 14, 4, .inl (fun _ => 0)) := by rw [e74, va_up_ne _ _ (by omega)]; exact hc3
  replace hc4 : cs74 273 = .inl (gY G 14, 4, .inl (fun _ => 0)) := by rw [e74, va_up_ne _ _ (by omega)]; exact hc4
  replace hc5 : cs74 274 = .inl (gY G 14, 16, .inl (fun _ => 0)) := by rw [e74, va_up_ne _ _ (by omega)]; exact hc5
  replace hc6 : cs74 275 = .inl (gY G 14, 104, .inl (fun _ => 0)) := by rw [e74, va_up_ne _ _ (by omega)]; exact hc6
  replace hc7 : cs74 276 = .inl (gY G 14, 1072, .inl (fun _ => 0)) := by rw [e74, va_up_ne _ _ (by omega)]; exact hc7
  replace hc8 : cs74 277 = .inl (gY G 14, 968, .inl (fun _ => 0)) := by rw [e74, va_up_ne _ _ (by omega)]; exact hc8
  replace hc9 : cs74 278 = .inl (gY G 14, 136, .inl (fun _ => 0)) := by rw [e74, va_up_ne _ _ (by omega)]; exact hc9
  replace hc10 : cs74 279 = .inl (gY G 14, 134, .inl (fun _ => 0)) := by rw [e74, va_up_ne _ _ (by omega)]; exact hc10
  replace hc11 : cs74 280 = .inl (gY G 14, 3, .inl (fun _ => 0)) := by rw [e74, va_up_ne _ _ (by omega)]; exact hc11
  replace hc12 : cs74 281 = .inl (gY G 14, 10, .inl (fun _ => 0)) := by rw [e74, va_up_ne _ _ (by omega)]; exact hc12
  replace hc13 : cs74 282 = .inl (gY G 14, 10, .inl (fun _ => 0)) := by rw [e74, va_up_ne _ _ (by omega)]; exact hc13
  replace hc14 : cs74 283 = .inl (gY G 14, 10, .inl (fun _ => 0)) := by rw [e74, va_up_ne _ _ (by omega)]; exact hc14
  replace hc15 : cs74 284 = .inl (gY G 14, 10, .inl (fun _ => 0)) := by rw [e74, va_up_ne _ _ (by omega)]; exact hc15
  replace hc16 : cs74 285 = .inl (gY G 14, 10, .inl (fun _ => 0)) := by rw [e74, va_up_ne _ _ (by omega)]; exact hc16
  replace hc17 : cs74 286 = .inl (gY G 14, 4, .inl (fun _ => 0)) := by rw [e74, va_up_ne _ _ (by omega)]; exact hc17
  replace hc18 : cs74 287 = .inl (gY G 14, 4, .inl (fun _ => 0)) := by rw [e74, va_up_ne _ _ (by omega)]; exact hc18
  replace hc19 : cs74 288 = .inl (gY G 14, 4, .inl (fun _ => 0)) := by rw [e74, va_up_ne _ _ (by omega)]; exact hc19
  replace hc20 : cs74 289 = .inl (gY G 14, 4, .inl (fun _ => 0)) := by rw [e74, va_up_ne _ _ (by omega)]; exact hc20
  replace hc21 : cs74 290 = .inl (gY G 14, 4, .inl (fun _ => 0)) := by rw [e74, va_up_ne _ _ (by omega)]; exact hc21
  replace hc22 : cs74 291 = .inl (gY G 14, 4, .inl (fun _ => 0)) := by rw [e74, va_up_ne _ _ (by omega)]; exact hc22
  replace hc23 : cs74 292 = .inl (gY G 14, 40, .inl (fun _ => 0)) := by rw [e74, va_up_ne _ _ (by omega)]; exact hc23
  replace hc24 : cs74 293 = .inl (gY G 14, 40, .inl (fun _ => 0)) := by rw [e74, va_up_ne _ _ (by omega)]; exact hc24
  replace hc25 : cs74 294 = .inl (gY G 14, 40, .inl (fun _ => 0)) := by rw [e74, va_up_ne _ _ (by omega)]; exact hc25
  replace hc26 : cs74 295 = .inl (gY G 14, 64, .inl (fun _ => 0)) := by rw [e74, va_up_ne _ _ (by omega)]; exact hc26
  replace hc27 : cs74 296 = .inl (gY G 14, 64, .inl (fun _ => 0)) := by rw [e74, va_up_ne _ _ (by omega)]; exact hc27
  replace hc28 : cs74 297 = .inl (gY G 14, 64, .inl (fun _ => 0)) := by rw [e74, va_up_ne _ _ (by omega)]; exact hc28
  replace hc29 : cs74 298 = .inl (gY G 14, 64, .inl (fun _ => 0)) := by rw [e74, va_up_ne _ _ (by omega)]; exact hc29
  replace hc30 : cs74 299 = .inl (gY G 14, 64, .inl (fun _ => 0)) := by rw [e74, va_up_ne _ _ (by omega)]; exact hc30
  replace hc31 : cs74 300 = .inl (gY G 14, 64, .inl (fun _ => 0)) := by rw [e74, va_up_ne _ _ (by omega)]; exact hc31
  replace hc32 : cs74 301 = .inl (gY G 14, 64, .inl (fun _ => 0)) := by rw [e74, va_up_ne _ _ (by omega)]; exact hc32
  replace hc33 : cs74 302 = .inl (gY G 14, 64, .inl (fun _ => 0)) := by rw [e74, va_up_ne _ _ (by omega)]; exact hc33
  replace hc34 : cs74 303 = .inl (gY G 14, 640, .inl (fun _ => 0)) := by rw [e74, va_up_ne _ _ (by omega)]; exact hc34
  replace hc35 : cs74 304 = .inl (gY G 14, 7, .inl (fun _ => 0)) := by rw [e74, va_up_ne _ _ (by omega)]; exact hc35
  replace hc36 : cs74 305 = .inl (gY G 14, 10, .inl (fun _ => 0)) := by rw [e74, va_up_ne _ _ (by omega)]; exact hc36
  replace hc37 : cs74 306 = .inl (gY G 14, 10, .inl (fun _ => 0)) := by rw [e74, va_up_ne _ _ (by omega)]; exact hc37
  replace hc0 : cs74 269 = .inr (12, [.int 0, .ref (gA G 270), .ref (gA G 271), .ref (gA G 272), .ref (gA G 273), .ref (gA G 274), .ref (gA G 275), .ref (gA G 276), .ref (gA G 277), .ref (gA G 278), .int 0, .int 0, .int 0, .int 0, .int 0, .long 0, .int 0, .int 0, .int 0, .ref (gA G 279), .ref (gA G 280), .int 0, .int 0, .int 0, .int 0, .int 0, .int 0, .int 0, .int 0, .int 0, .int 0, .ref (gA G 281), .ref (gA G 282), .ref (gA G 283), .ref (gA G 284), .ref (gA G 285), .ref (gA G 286), .ref (gA G 287), .ref (gA G 288), .ref (gA G 289), .ref (gA G 290), .ref (gA G 291), .ref (gA G 292), .ref (gA G 293), .ref (gA G 294), .ref (gA G 295), .ref (gA G 296), .ref (gA G 297), .ref (gA G 298), .ref (gA G 299), .ref (gA G 300), .ref (gA G 301), .ref (gA G 302), .ref (gA G 303), .int 0, .int 0, .int 0, .int 0, .int 0, .int 0, .ref (gA G 304), .ref (gA G 305), .int 0, .int 0, .int 0, .int 0, .int 0, .ref (gA G 306), .null, .int 0, .null, .int 0, .int 0, .null, .null, .null, .int 0, .int 0, .int 0, .int 0, .int 0, .int 0, .null, .int 0, .int 0, .int 0, .int 0, .int 0, .int 0, .int 0, .int 0, .null]) := by rw [e74]; exact va_up_self _ _ _
  replace hlo : ∀ n, n < 269 → cs74 n = cs n := fun n a => by rw [e74, va_up_ne _ _ (by omega)] <;> exact hlo n a
  clear e74
  refine ry_aload_n 0 dX12_init_296 rfl rfl ?_
  refine ry_bipush (v := 10) dX12_init_297 rfl ?_
  refine ry_newa (κ := 14) (n := 10) (atype := .int) (ty := .int) (t0 := 1) rfl wa_int rfl (fun _ _ => Iff.rfl) rfl (by decide) rfl (by decide) (Nat.le_of_ble_eq_true rfl) (Nat.le_of_ble_eq_true rfl) dX12_init_299 ?_
  refine ry_cs (fun cs75 e75 => ?_)
  replace hc0 : cs75 269 = .inr (12, [.int 0, .ref (gA G 270), .ref (gA G 271), .ref (gA G 272), .ref (gA G 273), .ref (gA G 274), .ref (gA G 275), .ref (gA G 276), .ref (gA G 277), .ref (gA G 278), .int 0, .int 0, .int 0, .int 0, .int 0, .long 0, .int 0, .int 0, .int 0, .ref (gA G 279), .ref (gA G 280), .int 0, .int 0, .int 0, .int 0, .int 0, .int 0, .int 0, .int 0, .int 0, .int 0, .ref (gA G 281), .ref (gA G 282), .ref (gA G 283), .ref (gA G 284), .ref (gA G 285), .ref (gA G 286), .ref (gA G 287), .ref (gA G 288), .ref (gA G 289), .ref (gA G 290), .ref (gA G 291), .ref (gA G 292), .ref (gA G 293), .ref (gA G 294), .ref (gA G 295), .ref (gA G 296), .ref (gA G 297), .ref (gA G 298), .ref (gA G 299), .ref (gA G 300), .ref (gA G 301), .ref (gA G 302), .ref (gA G 303), .int 0, .int 0, .int 0, .int 0, .int 0, .int 0, .ref (gA G 304), .ref (gA G 305), .int 0, .int 0, .int 0, .int 0, .int 0, .ref (gA G 306), .null, .int 0, .null, .int 0, .int 0, .null, .null, .null, .int 0, .int 0, .int 0, .int 0, .int 0, .int 0, .null, .int 0, .int 0, .int 0, .int 0, .int 0, .int 0, .int 0, .int 0, .null]) := by rw [e75, va_up_ne _ _ (by omega)]; exact hc0
  replace hc1 : cs75 270 = .inl (gY G 13, 2400, .inl (fun _ => 0)) := by rw [e75, va_up_ne _ _ (by omega)]; exact hc1
  replace hc2 : cs75 271 = .inl (gY G 14, 4, .inl (fun _ => 0)) := by rw [e75, va_up_ne _ _ (by omega)]; exact hc2
  replace hc3 : cs75 272 = .inl (gY G 14, 4, .inl (fun _ => 0)) := by rw [e75, va_up_ne _ _ (by omega)]; exact hc3
  replace hc4 : cs75 273 = .inl (gY G 14, 4, .inl (fun _ => 0)) := by rw [e75, va_up_ne _ _ (by omega)]; exact hc4
  replace hc5 : cs75 274 = .inl (gY G 14, 16, .inl (fun _ => 0)) := by rw [e75, va_up_ne _ _ (by omega)]; exact hc5
  replace hc6 : cs75 275 = .inl (gY G 14, 104, .inl (fun _ => 0)) := by rw [e75, va_up_ne _ _ (by omega)]; exact hc6
  replace hc7 : cs75 276 = .inl (gY G 14, 1072, .inl (fun _ => 0)) := by rw [e75, va_up_ne _ _ (by omega)]; exact hc7
  replace hc8 : cs75 277 = .inl (gY G 14, 968, .inl (fun _ => 0)) := by rw [e75, va_up_ne _ _ (by omega)]; exact hc8
  replace hc9 : cs75 278 = .inl (gY G 14, 136, .inl (fun _ => 0)) := by rw [e75, va_up_ne _ _ (by omega)]; exact hc9
  replace hc10 : cs75 279 = .inl (gY G 14, 134, .inl (fun _ => 0)) := by rw [e75, va_up_ne _ _ (by omega)]; exact hc10
  replace hc11 : cs75 280 = .inl (gY G 14, 3, .inl (fun _ => 0)) := by rw [e75, va_up_ne _ _ (by omega)]; exact hc11
  replace hc12 : cs75 281 = .inl (gY G 14, 10, .inl (fun _ => 0)) := by rw [e75, va_up_ne _ _ (by omega)]; exact hc12
  replace hc13 : cs75 282 = .inl (gY G 14, 10, .inl (fun _ => 0)) := by rw [e75, va_up_ne _ _ (by omega)]; exact hc13
  replace hc14 : cs75 283 = .inl (gY G 14, 10, .inl (fun _ => 0)) := by rw [e75, va_up_ne _ _ (by omega)]; exact hc14
  replace hc15 : cs75 284 = .inl (gY G 14, 10, .inl (fun _ => 0)) := by rw [e75, va_up_ne _ _ (by omega)]; exact hc15
  replace hc16 : cs75 285 = .inl (gY G 14, 10, .inl (fun _ => 0)) := by rw [e75, va_up_ne _ _ (by omega)]; exact hc16
  replace hc17 : cs75 286 = .inl (gY G 14, 4, .inl (fun _ => 0)) := by rw [e75, va_up_ne _ _ (by omega)]; exact hc17
  replace hc18 : cs75 287 = .inl (gY G 14, 4, .inl (fun _ => 0)) := by rw [e75, va_up_ne _ _ (by omega)]; exact hc18
  replace hc19 : cs75 288 = .inl (gY G 14, 4, .inl (fun _ => 0)) := by rw [e75, va_up_ne _ _ (by omega)]; exact hc19
  replace hc20 : cs75 289 = .inl (gY G 14, 4, .inl (fun _ => 0)) := by rw [e75, va_up_ne _ _ (by omega)]; exact hc20
  replace hc21 : cs75 290 = .inl (gY G 14, 4, .inl (fun _ => 0)) := by rw [e75, va_up_ne _ _ (by omega)]; exact hc21
  replace hc22 : cs75 291 = .inl (gY G 14, 4, .inl (fun _ => 0)) := by rw [e75, va_up_ne _ _ (by omega)]; exact hc22
  replace hc23 : cs75 292 = .inl (gY G 14, 40, .inl (fun _ => 0)) := by rw [e75, va_up_ne _ _ (by omega)]; exact hc23
  replace hc24 : cs75 293 = .inl (gY G 14, 40, .inl (fun _ => 0)) := by rw [e75, va_up_ne _ _ (by omega)]; exact hc24
  replace hc25 : cs75 294 = .inl (gY G 14, 40, .inl (fun _ => 0)) := by rw [e75, va_up_ne _ _ (by omega)]; exact hc25
  replace hc26 : cs75 295 = .inl (gY G 14, 64, .inl (fun _ => 0)) := by rw [e75, va_up_ne _ _ (by omega)]; exact hc26
  replace hc27 : cs75 296 = .inl (gY G 14, 64, .inl (fun _ => 0)) := by rw [e75, va_up_ne _ _ (by omega)]; exact hc27
  replace hc28 : cs75 297 = .inl (gY G 14, 64, .inl (fun _ => 0)) := by rw [e75, va_up_ne _ _ (by omega)]; exact hc28
  replace hc29 : cs75 298 = .inl (gY G 14, 64, .inl (fun _ => 0)) := by rw [e75, va_up_ne _ _ (by omega)]; exact hc29
  replace hc30 : cs75 299 = .inl (gY G 14, 64, .inl (fun _ => 0)) := by rw [e75, va_up_ne _ _ (by omega)]; exact hc30
  replace hc31 : cs75 300 = .inl (gY G 14, 64, .inl (fun _ => 0)) := by rw [e75, va_up_ne _ _ (by omega)]; exact hc31
  replace hc32 : cs75 301 = .inl (gY G 14, 64, .inl (fun _ => 0)) := by rw [e75, va_up_ne _ _ (by omega)]; exact hc32
  replace hc33 : cs75 302 = .inl (gY G 14, 64, .inl (fun _ => 0)) := by rw [e75, va_up_ne _ _ (by omega)]; exact hc33
  replace hc34 : cs75 303 = .inl (gY G 14, 640, .inl (fun _ => 0)) := by rw [e75, va_up_ne _ _ (by omega)]; exact hc34
  replace hc35 : cs75 304 = .inl (gY G 14, 7, .inl (fun _ => 0)) := by rw [e75, va_up_ne _ _ (by omega)]; exact hc35
  replace hc36 : cs75 305 = .inl (gY G 14, 10, .inl (fun _ => 0)) := by rw [e75, va_up_ne _ _ (by omega)]; exact hc36
  replace hc37 : cs75 306 = .inl (gY G 14, 10, .inl (fun _ => 0)) := by rw [e75, va_up_ne _ _ (by omega)]; exact hc37
  have hc38 : cs75 307 = .inl (gY G 14, 10, .inl (fun _ => 0)) := by rw [e75]; exact va_up_self _ _ _
  replace hlo : ∀ n, n < 269 → cs75 n = cs n := fun n a => by rw [e75, va_up_ne _ _ (by omega)] <;> exact hlo n a
  clear e75
  refine ry_putF ff_X12_122 rfl (by omega) hc0 rfl rfl (nlt rfl) dX12_init_301 ?_
  refine ry_cs (fun cs76 e76 => ?_)
  replace hc1 : cs76 270 = .inl (gY G 13, 2400, .inl (fun _ => 0)) := by rw [e76, va_up_ne _ _ (by omega)]; exact hc1
  replace hc2 : cs76 271 = .inl (gY G 14, 4, .inl (fun _ => 0)) := by rw [e76, va_up_ne _ _ (by omega)]; exact hc2
  replace hc3 : cs76 272 = .inl (gY G 14, 4, .inl (fun _ => 0)) := by rw [e76, va_up_ne _ _ (by omega)]; exact hc3
  replace hc4 : cs76 273 = .inl (gY G 14, 4, .inl (fun _ => 0)) := by rw [e76, va_up_ne _ _ (by omega)]; exact hc4
  replace hc5 : cs76 274 = .inl (gY G 14, 16, .inl (fun _ => 0)) := by rw [e76, va_up_ne _ _ (by omega)]; exact hc5
  replace hc6 : cs76 275 = .inl (gY G 14, 104, .inl (fun _ => 0)) := by rw [e76, va_up_ne _ _ (by omega)]; exact hc6
  replace hc7 : cs76 276 = .inl (gY G 14, 1072, .inl (fun _ => 0)) := by rw [e76, va_up_ne _ _ (by omega)]; exact hc7
  replace hc8 : cs76 277 = .inl (gY G 14, 968, .inl (fun _ => 0)) := by rw [e76, va_up_ne _ _ (by omega)]; exact hc8
  replace hc9 : cs76 278 = .inl (gY G 14, 136, .inl (fun _ => 0)) := by rw [e76, va_up_ne _ _ (by omega)]; exact hc9
  replace hc10 : cs76 279 = .inl (gY G 14, 134, .inl (fun _ => 0)) := by rw [e76, va_up_ne _ _ (by omega)]; exact hc10
  replace hc11 : cs76 280 = .inl (gY G 14, 3, .inl (fun _ => 0)) := by rw [e76, va_up_ne _ _ (by omega)]; exact hc11
  replace hc12 : cs76 281 = .inl (gY G 14, 10, .inl (fun _ => 0)) := by rw [e76, va_up_ne _ _ (by omega)]; exact hc12
  replace hc13 : cs76 282 = .inl (gY G 14, 10, .inl (fun _ => 0)) := by rw [e76, va_up_ne _ _ (by omega)]; exact hc13
  replace hc14 : cs76 283 = .inl (gY G 14, 10, .inl (fun _ => 0)) := by rw [e76, va_up_ne _ _ (by omega)]; exact hc14
  replace hc15 : cs76 284 = .inl (gY G 14, 10, .inl (fun _ => 0)) := by rw [e76, va_up_ne _ _ (by omega)]; exact hc15
  replace hc16 : cs76 285 = .inl (gY G 14, 10, .inl (fun _ => 0)) := by rw [e76, va_up_ne _ _ (by omega)]; exact hc16
  replace hc17 : cs76 286 = .inl (gY G 14, 4, .inl (fun _ => 0)) := by rw [e76, va_up_ne _ _ (by omega)]; exact hc17
  replace hc18 : cs76 287 = .inl (gY G 14, 4, .inl (fun _ => 0)) := by rw [e76, va_up_ne _ _ (by omega)]; exact hc18
  replace hc19 : cs76 288 = .inl (gY G 14, 4, .inl (fun _ => 0)) := by rw [e76, va_up_ne _ _ (by omega)]; exact hc19
  replace hc20 : cs76 289 = .inl (gY G 14, 4, .inl (fun _ => 0)) := by rw [e76, va_up_ne _ _ (by omega)]; exact hc20
  replace hc21 : cs76 290 = .inl (gY G 14, 4, .inl (fun _ => 0)) := by rw [e76, va_up_ne _ _ (by omega)]; exact hc21
  replace hc22 : cs76 291 = .inl (gY G 14, 4, .inl (fun _ => 0)) := by rw [e76, va_up_ne _ _ (by omega)]; exact hc22
  replace hc23 : cs76 292 = .inl (gY G 14, 40, .inl (fun _ => 0)) := by rw [e76, va_up_ne _ _ (by omega)]; exact hc23
  replace hc24 : cs76 293 = .inl (gY G 14, 40, .inl (fun _ => 0)) := by rw [e76, va_up_ne _ _ (by omega)]; exact hc24
  replace hc25 : cs76 294 = .inl (gY G 14, 40, .inl (fun _ => 0)) := by rw [e76, va_up_ne _ _ (by omega)]; exact hc25
  replace hc26 : cs76 295 = .inl (gY G 14, 64, .inl (fun _ => 0)) := by rw [e76, va_up_ne _ _ (by omega)]; exact hc26
  replace hc27 : cs76 296 = .inl (gY G 14, 64, .inl (fun _ => 0)) := by rw [e76, va_up_ne _ _ (by omega)]; exact hc27
  replace hc28 : cs76 297 = .inl (gY G 14, 64, .inl (fun _ => 0)) := by rw [e76, va_up_ne _ _ (by omega)]; exact hc28
  replace hc29 : cs76 298 = .inl (gY G 14, 64, .inl (fun _ => 0)) := by rw [e76, va_up_ne _ _ (by omega)]; exact hc29
  replace hc30 : cs76 299 = .inl (gY G 14, 64, .inl (fun _ => 0)) := by rw [e76, va_up_ne _ _ (by omega)]; exact hc30
  replace hc31 : cs76 300 = .inl (gY G 14, 64, .inl (fun _ => 0)) := by rw [e76, va_up_ne _ _ (by omega)]; exact hc31
  replace hc32 : cs76 301 = .inl (gY G 14, 64, .inl (fun _ => 0)) := by rw [e76, va_up_ne _ _ (by omega)]; exact hc32
  replace hc33 : cs76 302 = .inl (gY G 14, 64, .inl (fun _ => 0)) := by rw [e76, va_up_ne _ _ (by omega)]; exact hc33
  replace hc34 : cs76 303 = .inl (gY G 14, 640, .inl (fun _ => 0)) := by rw [e76, va_up_ne _ _ (by omega)]; exact hc34
  replace hc35 : cs76 304 = .inl (gY G 14, 7, .inl (fun _ => 0)) := by rw [e76, va_up_ne _ _ (by omega)]; exact hc35
  replace hc36 : cs76 305 = .inl (gY G 14, 10, .inl (fun _ => 0)) := by rw [e76, va_up_ne _ _ (by omega)]; exact hc36
  replace hc37 : cs76 306 = .inl (gY G 14, 10, .inl (fun _ => 0)) := by rw [e76, va_up_ne _ _ (by omega)]; exact hc37
  replace hc38 : cs76 307 = .inl (gY G 14, 10, .inl (fun _ => 0)) := by rw [e76, va_up_ne _ _ (by omega)]; exact hc38
  replace hc0 : cs76 269 = .inr (12, [.int 0, .ref (gA G 270), .ref (gA G 271), .ref (gA G 272), .ref (gA G 273), .ref (gA G 274), .ref (gA G 275), .ref (gA G 276), .ref (gA G 277), .ref (gA G 278), .int 0, .int 0, .int 0, .int 0, .int 0, .long 0, .int 0, .int 0, .int 0, .ref (gA G 279), .ref (gA G 280), .int 0, .int 0, .int 0, .int 0, .int 0, .int 0, .int 0, .int 0, .int 0, .int 0, .ref (gA G 281), .ref (gA G 282), .ref (gA G 283), .ref (gA G 284), .ref (gA G 285), .ref (gA G 286), .ref (gA G 287), .ref (gA G 288), .ref (gA G 289), .ref (gA G 290), .ref (gA G 291), .ref (gA G 292), .ref (gA G 293), .ref (gA G 294), .ref (gA G 295), .ref (gA G 296), .ref (gA G 297), .ref (gA G 298), .ref (gA G 299), .ref (gA G 300), .ref (gA G 301), .ref (gA G 302), .ref (gA G 303), .int 0, .int 0, .int 0, .int 0, .int 0, .int 0, .ref (gA G 304), .ref (gA G 305), .int 0, .int 0, .int 0, .int 0, .int 0, .ref (gA G 306), .ref (gA G 307), .int 0, .null, .int 0, .int 0, .null, .null, .null, .int 0, .int 0, .int 0, .int 0, .int 0, .int 0, .null, .int 0, .int 0, .int 0, .int 0, .int 0, .int 0, .int 0, .int 0, .null]) := by rw [e76]; exact va_up_self _ _ _
  replace hlo : ∀ n, n < 269 → cs76 n = cs n := fun n a => by rw [e76, va_up_ne _ _ (by omega)] <;> exact hlo n a
  clear e76
  refine ry_aload_n 0 dX12_init_304 rfl rfl ?_
  refine ry_bipush (v := 64) dX12_init_305 rfl ?_
  refine ry_newa (κ := 14) (n := 64) (atype := .int) (ty := .int) (t0 := 1) rfl wa_int rfl (fun _ _ => Iff.rfl) rfl (by decide) rfl (by decide) (Nat.le_of_ble_eq_true rfl) (Nat.le_of_ble_eq_true rfl) dX12_init_307 ?_
  refine ry_cs (fun cs77 e77 => ?_)
  replace hc0 : cs77 269 = .inr (12, [.int 0, .ref (gA G 270), .ref (gA G 271), .ref (gA G 272), .ref (gA G 273), .ref (gA G 274), .ref (gA G 275), .ref (gA G 276), .ref (gA G 277), .ref (gA G 278), .int 0, .int 0, .int 0, .int 0, .int 0, .long 0, .int 0, .int 0, .int 0, .ref (gA G 279), .ref (gA G 280), .int 0, .int 0, .int 0, .int 0, .int 0, .int 0, .int 0, .int 0, .int 0, .int 0, .ref (gA G 281), .ref (gA G 282), .ref (gA G 283), .ref (gA G 284), .ref (gA G 285), .ref (gA G 286), .ref (gA G 287), .ref (gA G 288), .ref (gA G 289), .ref (gA G 290), .ref (gA G 291), .ref (gA G 292), .ref (gA G 293), .ref (gA G 294), .ref (gA G 295), .ref (gA G 296), .ref (gA G 297), .ref (gA G 298), .ref (gA G 299), .ref (gA G 300), .ref (gA G 301), .ref (gA G 302), .ref (gA G 303), .int 0, .int 0, .int 0, .int 0, .int 0, .int 0, .ref (gA G 304), .ref (gA G 305), .int 0, .int 0, .int 0, .int 0, .int 0, .ref (gA G 306), .ref (gA G 307), .int 0, .null, .int 0, .int 0, .null, .null, .null, .int 0, .int 0, .int 0, .int 0, .int 0, .int 0, .null, .int 0, .int 0, .int 0, .int 0, .int 0, .int 0, .int 0, .int 0, .null]) := by rw [e77, va_up_ne _ _ (by omega)]; exact hc0
  replace hc1 : cs77 270 = .inl (gY G 13, 2400, .inl (fun _ => 0)) := by rw [e77, va_up_ne _ _ (by omega)]; exact hc1
  replace hc2 : cs77 271 = .inl (gY G 14, 4, .inl (fun _ => 0)) := by rw [e77, va_up_ne _ _ (by omega)]; exact hc2
  replace hc3 : cs77 272 = .inl (gY G 14, 4, .inl (fun _ => 0)) := by rw [e77, va_up_ne _ _ (by omega)]; exact hc3
  replace hc4 : cs77 273 = .inl (gY G 14, 4, .inl (fun _ => 0)) := by rw [e77, va_up_ne _ _ (by omega)]; exact hc4
  replace hc5 : cs77 274 = .inl (gY G 14, 16, .inl (fun _ => 0)) := by rw [e77, va_up_ne _ _ (by omega)]; exact hc5
  replace hc6 : cs77 275 = .inl (gY G 14, 104, .inl (fun _ => 0)) := by rw [e77, va_up_ne _ _ (by omega)]; exact hc6
  replace hc7 : cs77 276 = .inl (gY G 14, 1072, .inl (fun _ => 0)) := by rw [e77, va_up_ne _ _ (by omega)]; exact hc7
  replace hc8 : cs77 277 = .inl (gY G 14, 968, .inl (fun _ => 0)) := by rw [e77, va_up_ne _ _ (by omega)]; exact hc8
  replace hc9 : cs77 278 = .inl (gY G 14, 136, .inl (fun _ => 0)) := by rw [e77, va_up_ne _ _ (by omega)]; exact hc9
  replace hc10 : cs77 279 = .inl (gY G 14, 134, .inl (fun _ => 0)) := by rw [e77, va_up_ne _ _ (by omega)]; exact hc10
  replace hc11 : cs77 280 = .inl (gY G 14, 3, .inl (fun _ => 0)) := by rw [e77, va_up_ne _ _ (by omega)]; exact hc11
  replace hc12 : cs77 281 = .inl (gY G 14, 10, .inl (fun _ => 0)) := by rw [e77, va_up_ne _ _ (by omega)]; exact hc12
  replace hc13 : cs77 282 = .inl (gY G 14, 10, .inl (fun _ => 0)) := by rw [e77, va_up_ne _ _ (by omega)]; exact hc13
  replace hc14 : cs77 283 = .inl (gY G 14, 10, .inl (fun _ => 0)) := by rw [e77, va_up_ne _ _ (by omega)]; exact hc14
  replace hc15 : cs77 284 = .inl (gY G 14, 10, .inl (fun _ => 0)) := by rw [e77, va_up_ne _ _ (by omega)]; exact hc15
  replace hc16 : cs77 285 = .inl (gY G 14, 10, .inl (fun _ => 0)) := by rw [e77, va_up_ne _ _ (by omega)]; exact hc16
  replace hc17 : cs77 286 = .inl (gY G 14, 4, .inl (fun _ => 0)) := by rw [e77, va_up_ne _ _ (by omega)]; exact hc17
  replace hc18 : cs77 287 = .inl (gY G 14, 4, .inl (fun _ => 0)) := by rw [e77, va_up_ne _ _ (by omega)]; exact hc18
  replace hc19 : cs77 288 = .inl (gY G 14, 4, .inl (fun _ => 0)) := by rw [e77, va_up_ne _ _ (by omega)]; exact hc19
  replace hc20 : cs77 289 = .inl (gY G 14, 4, .inl (fun _ => 0)) := by rw [e77, va_up_ne _ _ (by omega)]; exact hc20
  replace hc21 : cs77 290 = .inl (gY G 14, 4, .inl (fun _ => 0)) := by rw [e77, va_up_ne _ _ (by omega)]; exact hc21
  replace hc22 : cs77 291 = .inl (gY G 14, 4, .inl (fun _ => 0)) := by rw [e77, va_up_ne _ _ (by omega)]; exact hc22
  replace hc23 : cs77 292 = .inl (gY G 14, 40, .inl (fun _ => 0)) := by rw [e77, va_up_ne _ _ (by omega)]; exact hc23
  replace hc24 : cs77 293 = .inl (gY G 14, 40, .inl (fun _ => 0)) := by rw [e77, va_up_ne _ _ (by omega)]; exact hc24
  replace hc25 : cs77 294 = .inl (gY G 14, 40, .inl (fun _ => 0)) := by rw [e77, va_up_ne _ _ (by omega)]; exact hc25
  replace hc26 : cs77 295 = .inl (gY G 14, 64, .inl (fun _ => 0)) := by rw [e77, va_up_ne _ _ (by omega)]; exact hc26
  replace hc27 : cs77 296 = .inl (gY G 14, 64, .inl (fun _ => 0)) := by rw [e77, va_up_ne _ _ (by omega)]; exact hc27
  replace hc28 : cs77 297 = .inl (gY G 14, 64, .inl (fun _ => 0)) := by rw [e77, va_up_ne _ _ (by omega)]; exact hc28
  replace hc29 : cs77 298 = .inl (gY G 14, 64, .inl (fun _ => 0)) := by rw [e77, va_up_ne _ _ (by omega)]; exact hc29
  replace hc30 : cs77 299 = .inl (gY G 14, 64, .inl (fun _ => 0)) := by rw [e77, va_up_ne _ _ (by omega)]; exact hc30
  replace hc31 : cs77 300 = .inl (gY G 14, 64, .inl (fun _ => 0)) := by rw [e77, va_up_ne _ _ (by omega)]; exact hc31
  replace hc32 : cs77 301 = .inl (gY G 14, 64, .inl (fun _ => 0)) := by rw [e77, va_up_ne _ _ (by omega)]; exact hc32
  replace hc33 : cs77 302 = .inl (gY G 14, 64, .inl (fun _ => 0)) := by rw [e77, va_up_ne _ _ (by omega)]; exact hc33
  replace hc34 : cs77 303 = .inl (gY G 14, 640, .inl (fun _ => 0)) := by rw [e77, va_up_ne _ _ (by omega)]; exact hc34
  replace hc35 : cs77 304 = .inl (gY G 14, 7, .inl (fun _ => 0)) := by rw [e77, va_up_ne _ _ (by omega)]; exact hc35
  replace hc36 : cs77 305 = .inl (gY G 14, 10, .inl (fun _ => 0)) := by rw [e77, va_up_ne _ _ (by omega)]; exact hc36
  replace hc37 : cs77 306 = .inl (gY G 14, 10, .inl (fun _ => 0)) := by rw [e77, va_up_ne _ _ (by omega)]; exact hc37
  replace hc38 : cs77 307 = .inl (gY G 14, 10, .inl (fun _ => 0)) := by rw [e77, va_up_ne _ _ (by omega)]; exact hc38
  have hc39 : cs77 308 = .inl (gY G 14, 64, .inl (fun _ => 0)) := by rw [e77]; exact va_up_self _ _ _
  replace hlo : ∀ n, n < 269 → cs77 n = cs n := fun n a => by rw [e77, va_up_ne _ _ (by omega)] <;> exact hlo n a
  clear e77
  refine ry_putF ff_X12_125 rfl (by omega) hc0 rfl rfl (nlt rfl) dX12_init_309 ?_
  refine ry_cs (fun cs78 e78 => ?_)
  replace hc1 : cs78 270 = .inl (gY G 13, 2400, .inl (fun _ => 0)) := by rw [e78, va_up_ne _ _ (by omega)]; exact hc1
  replace hc2 : cs78 271 = .inl (gY G 14, 4, .inl (fun _ => 0)) := by rw [e78, va_up_ne _ _ (by omega)]; exact hc2
  replace hc3 : cs78 272 = .inl (gY G 14, 4, .inl (fun _ => 0)) := by rw [e78, va_up_ne _ _ (by omega)]; exact hc3
  replace hc4 : cs78 273 = .inl (gY G 14, 4, .inl (fun _ => 0)) := by rw [e78, va_up_ne _ _ (by omega)]; exact hc4
  replace hc5 : cs78 274 = .inl (gY G 14, 16, .inl (fun _ => 0)) := by rw [e78, va_up_ne _ _ (by omega)]; exact hc5
  replace hc6 : cs78 275 = .inl (gY G 14, 104, .inl (fun _ => 0)) := by rw [e78, va_up_ne _ _ (by omega)]; exact hc6
  replace hc7 : cs78 276 = .inl (gY G 14, 1072, .inl (fun _ => 0)) := by rw [e78, va_up_ne _ _ (by omega)]; exact hc7
  replace hc8 : cs78 277 = .inl (gY G 14, 968, .inl (fun _ => 0)) := by rw [e78, va_up_ne _ _ (by omega)]; exact hc8
  replace hc9 : cs78 278 = .inl (gY G 14, 136, .inl (fun _ => 0)) := by rw [e78, va_up_ne _ _ (by omega)]; exact hc9
  replace hc10 : cs78 279 = .inl (gY G 14, 134, .inl (fun _ => 0)) := by rw [e78, va_up_ne _ _ (by omega)]; exact hc10
  replace hc11 : cs78 280 = .inl (gY G 14, 3, .inl (fun _ => 0)) := by rw [e78, va_up_ne _ _ (by omega)]; exact hc11
  replace hc12 : cs78 281 = .inl (gY G 14, 10, .inl (fun _ => 0)) := by rw [e78, va_up_ne _ _ (by omega)]; exact hc12
  replace hc13 : cs78 282 = .inl (gY G 14, 10, .inl (fun _ => 0)) := by rw [e78, va_up_ne _ _ (by omega)]; exact hc13
  replace hc14 : cs78 283 = .inl (gY G 14, 10, .inl (fun _ => 0)) := by rw [e78, va_up_ne _ _ (by omega)]; exact hc14
  replace hc15 : cs78 284 = .inl (gY G 14, 10, .inl (fun _ => 0)) := by rw [e78, va_up_ne _ _ (by omega)]; exact hc15
  replace hc16 : cs78 285 = .inl (gY G 14, 10, .inl (fun _ => 0)) := by rw [e78, va_up_ne _ _ (by omega)]; exact hc16
  replace hc17 : cs78 286 = .inl (gY G 14, 4, .inl (fun _ => 0)) := by rw [e78, va_up_ne _ _ (by omega)]; exact hc17
  replace hc18 : cs78 287 = .inl (gY G 14, 4, .inl (fun _ => 0)) := by rw [e78, va_up_ne _ _ (by omega)]; exact hc18
  replace hc19 : cs78 288 = .inl (gY G 14, 4, .inl (fun _ => 0)) := by rw [e78, va_up_ne _ _ (by omega)]; exact hc19
  replace hc20 : cs78 289 = .inl (gY G 14, 4, .inl (fun _ => 0)) := by rw [e78, va_up_ne _ _ (by omega)]; exact hc20
  replace hc21 : cs78 290 = .inl (gY G 14, 4, .inl (fun _ => 0)) := by rw [e78, va_up_ne _ _ (by omega)]; exact hc21
  replace hc22 : cs78 291 = .inl (gY G 14, 4, .inl (fun _ => 0)) := by rw [e78, va_up_ne _ _ (by omega)]; exact hc22
  replace hc23 : cs78 292 = .inl (gY G 14, 40, .inl (fun _ => 0)) := by rw [e78, va_up_ne _ _ (by omega)]; exact hc23
  replace hc24 : cs78 293 = .inl (gY G 14, 40, .inl (fun _ => 0)) := by rw [e78, va_up_ne _ _ (by omega)]; exact hc24
  replace hc25 : cs78 294 = .inl (gY G 14, 40, .inl (fun _ => 0)) := by rw [e78, va_up_ne _ _ (by omega)]; exact hc25
  replace hc26 : cs78 295 = .inl (gY G 14, 64, .inl (fun _ => 0)) := by rw [e78, va_up_ne _ _ (by omega)]; exact hc26
  replace hc27 : cs78 296 = .inl (gY G 14, 64, .inl (fun _ => 0)) := by rw [e78, va_up_ne _ _ (by omega)]; exact hc27
  replace hc28 : cs78 297 = .inl (gY G 14, 64, .inl (fun _ => 0)) := by rw [e78, va_up_ne _ _ (by omega)]; exact hc28
  replace hc29 : cs78 298 = .inl (gY G 14, 64, .inl (fun _ => 0)) := by rw [e78, va_up_ne _ _ (by omega)]; exact hc29
  replace hc30 : cs78 299 = .inl (gY G 14, 64, .inl (fun _ => 0)) := by rw [e78, va_up_ne _ _ (by omega)]; exact hc30
  replace hc31 : cs78 300 = .inl (gY G 14, 64, .inl (fun _ => 0)) := by rw [e78, va_up_ne _ _ (by omega)]; exact hc31
  replace hc32 : cs78 301 = .inl (gY G 14, 64, .inl (fun _ => 0)) := by rw [e78, va_up_ne _ _ (by omega)]; exact hc32
  replace hc33 : cs78 302 = .inl (gY G 14, 64, .inl (fun _ => 0)) := by rw [e78, va_up_ne _ _ (by omega)]; exact hc33
  replace hc34 : cs78 303 = .inl (gY G 14, 640, .inl (fun _ => 0)) := by rw [e78, va_up_ne _ _ (by omega)]; exact hc34
  replace hc35 : cs78 304 = .inl (gY G 14, 7, .inl (fun _ => 0)) := by rw [e78, va_up_ne _ _ (by omega)]; exact hc35
  replace hc36 : cs78 305 = .inl (gY G 14, 10, .inl (fun _ => 0)) := by rw [e78, va_up_ne _ _ (by omega)]; exact hc36
  replace hc37 : cs78 306 = .inl (gY G 14, 10, .inl (fun _ => 0)) := by rw [e78, va_up_ne _ _ (by omega)]; exact hc37
  replace hc38 : cs78 307 = .inl (gY G 14, 10, .inl (fun _ => 0)) := by rw [e78, va_up_ne _ _ (by omega)]; exact hc38
  replace hc39 : cs78 308 = .inl (gY G 14, 64, .inl (fun _ => 0)) := by rw [e78, va_up_ne _ _ (by omega)]; exact hc39
  replace hc0 : cs78 269 = .inr (12, [.int 0, .ref (gA G 270), .ref (gA G 271), .ref (gA G 272), .ref (gA G 273), .ref (gA G 274), .ref (gA G 275), .ref (gA G 276), .ref (gA G 277), .ref (gA G 278), .int 0, .int 0, .int 0, .int 0, .int 0, .long 0, .int 0, .int 0, .int 0, .ref (gA G 279), .ref (gA G 280), .int 0, .int 0, .int 0, .int 0, .int 0, .int 0, .int 0, .int 0, .int 0, .int 0, .ref (gA G 281), .ref (gA G 282), .ref (gA G 283), .ref (gA G 284), .ref (gA G 285), .ref (gA G 286), .ref (gA G 287), .ref (gA G 288), .ref (gA G 289), .ref (gA G 290), .ref (gA G 291), .ref (gA G 292), .ref (gA G 293), .ref (gA G 294), .ref (gA G 295), .ref (gA G 296), .ref (gA G 297), .ref (gA G 298), .ref (gA G 299), .ref (gA G 300), .ref (gA G 301), .ref (gA G 302), .ref (gA G 303), .int 0, .int 0, .int 0, .int 0, .int 0, .int 0, .ref (gA G 304), .ref (gA G 305), .int 0, .int 0, .int 0, .int 0, .int 0, .ref (gA G 306), .ref (gA G 307), .int 0, .ref (gA G 308), .int 0, .int 0, .null, .null, .null, .int 0, .int 0, .int 0, .int 0, .int 0, .int 0, .null, .int 0, .int 0, .int 0, .int 0, .int 0, .int 0, .int 0, .int 0, .null]) := by rw [e78]; exact va_up_self _ _ _
  replace hlo : ∀ n, n < 269 → cs78 n = cs n := fun n a => by rw [e78, va_up_ne _ _ (by omega)] <;> exact hlo n a
  clear e78
  refine ry_aload_n 0 dX12_init_312 rfl rfl ?_
  refine ry_bipush (v := 10) dX12_init_313 rfl ?_
  refine ry_newa (κ := 14) (n := 10) (atype := .int) (ty := .int) (t0 := 1) rfl wa_int rfl (fun _ _ => Iff.rfl) rfl (by decide) rfl (by decide) (Nat.le_of_ble_eq_true rfl) (Nat.le_of_ble_eq_true rfl) dX12_init_315 ?_
  refine ry_cs (fun cs79 e79 => ?_)
  replace hc0 : cs79 269 = .inr (12, [.int 0, .ref (gA G 270), .ref (gA G 271), .ref (gA G 272), .ref (gA G 273), .ref (gA G 274), .ref (gA G 275), .ref (gA G 276), .ref (gA G 277), .ref (gA G 278), .int 0, .int 0, .int 0, .int 0, .int 0, .long 0, .int 0, .int 0, .int 0, .ref (gA G 279), .ref (gA G 280), .int 0, .int 0, .int 0, .int 0, .int 0, .int 0, .int 0, .int 0, .int 0, .int 0, .ref (gA G 281), .ref (gA G 282), .ref (gA G 283), .ref (gA G 284), .ref (gA G 285), .ref (gA G 286), .ref (gA G 287), .ref (gA G 288), .ref (gA G 289), .ref (gA G 290), .ref (gA G 291), .ref (gA G 292), .ref (gA G 293), .ref (gA G 294), .ref (gA G 295), .ref (gA G 296), .ref (gA G 297), .ref (gA G 298), .ref (gA G 299), .ref (gA G 300), .ref (gA G 301), .ref (gA G 302), .ref (gA G 303), .int 0, .int 0, .int 0, .int 0, .int 0, .int 0, .ref (gA G 304), .ref (gA G 305), .int 0, .int 0, .int 0, .int 0, .int 0, .ref (gA G 306), .ref (gA G 307), .int 0, .ref (gA G 308), .int 0, .int 0, .null, .null, .null, .int 0, .int 0, .int 0, .int 0, .int 0, .int 0, .null, .int 0, .int 0, .int 0, .int 0, .int 0, .int 0, .int 0, .int 0, .null]) := by rw [e79, va_up_ne _ _ (by omega)]; exact hc0
  replace hc1 : cs79 270 = .inl (gY G 13, 2400, .inl (fun _ => 0)) := by rw [e79, va_up_ne _ _ (by omega)]; exact hc1
  replace hc2 : cs79 271 = .inl (gY G 14, 4, .inl (fun _ => 0)) := by rw [e79, va_up_ne _ _ (by omega)]; exact hc2
  replace hc3 : cs79 272 = .inl (gY G 14, 4, .inl (fun _ => 0)) := by rw [e79, va_up_ne _ _ (by omega)]; exact hc3
  replace hc4 : cs79 273 = .inl (gY G 14, 4, .inl (fun _ => 0)) := by rw [e79, va_up_ne _ _ (by omega)]; exact hc4
  replace hc5 : cs79 274 = .inl (gY G 14, 16, .inl (fun _ => 0)) := by rw [e79, va_up_ne _ _ (by omega)]; exact hc5
  replace hc6 : cs79 275 = .inl (gY G 14, 104, .inl (fun _ => 0)) := by rw [e79, va_up_ne _ _ (by omega)]; exact hc6
  replace hc7 : cs79 276 = .inl (gY G 14, 1072, .inl (fun _ => 0)) := by rw [e79, va_up_ne _ _ (by omega)]; exact hc7
  replace hc8 : cs79 277 = .inl (gY G 14, 968, .inl (fun _ => 0)) := by rw [e79, va_up_ne _ _ (by omega)]; exact hc8
  replace hc9 : cs79 278 = .inl (gY G 14, 136, .inl (fun _ => 0)) := by rw [e79, va_up_ne _ _ (by omega)]; exact hc9
  replace hc10 : cs79 279 = .inl (gY G 14, 134, .inl (fun _ => 0)) := by rw [e79, va_up_ne _ _ (by omega)]; exact hc10
  replace hc11 : cs79 280 = .inl (gY G 14, 3, .inl (fun _ => 0)) := by rw [e79, va_up_ne _ _ (by omega)]; exact hc11
  replace hc12 : cs79 281 = .inl (gY G 14, 10, .inl (fun _ => 0)) := by rw [e79, va_up_ne _ _ (by omega)]; exact hc12
  replace hc13 : cs79 282 = .inl (gY G 14, 10, .inl (fun _ => 0)) := by rw [e79, va_up_ne _ _ (by omega)]; exact hc13
  replace hc14 : cs79 283 = .inl (gY G 14, 10, .inl (fun _ => 0)) := by rw [e79, va_up_ne _ _ (by omega)]; exact hc14
  replace hc15 : cs79 284 = .inl (gY G 14, 10, .inl (fun _ => 0)) := by rw [e79, va_up_ne _ _ (by omega)]; exact hc15
  replace hc16 : cs79 285 = .inl (gY G 14, 10, .inl (fun _ => 0)) := by rw [e79, va_up_ne _ _ (by omega)]; exact hc16
  replace hc17 : cs79 286 = .inl (gY G 14, 4, .inl (fun _ => 0)) := by rw [e79, va_up_ne _ _ (by omega)]; exact hc17
  replace hc18 : cs79 287 = .inl (gY G 14, 4, .inl (fun _ => 0)) := by rw [e79, va_up_ne _ _ (by omega)]; exact hc18
  replace hc19 : cs79 288 = .inl (gY G 14, 4, .inl (fun _ => 0)) := by rw [e79, va_up_ne _ _ (by omega)]; exact hc19
  replace hc20 : cs79 289 = .inl (gY G 14, 4, .inl (fun _ => 0)) := by rw [e79, va_up_ne _ _ (by omega)]; exact hc20
  replace hc21 : cs79 290 = .inl (gY G 14, 4, .inl (fun _ => 0)) := by rw [e79, va_up_ne _ _ (by omega)]; exact hc21
  replace hc22 : cs79 291 = .inl (gY G 14, 4, .inl (fun _ => 0)) := by rw [e79, va_up_ne _ _ (by omega)]; exact hc22
  replace hc23 : cs79 292 = .inl (gY G 14, 40, .inl (fun _ => 0)) := by rw [e79, va_up_ne _ _ (by omega)]; exact hc23
  replace hc24 : cs79 293 = .inl (gY G 14, 40, .inl (fun _ => 0)) := by rw [e79, va_up_ne _ _ (by omega)]; exact hc24
  replace hc25 : cs79 294 = .inl (gY G 14, 40, .inl (fun _ => 0)) := by rw [e79, va_up_ne _ _ (by omega)]; exact hc25
  replace hc26 : cs79 295 = .inl (gY G 14, 64, .inl (fun _ => 0)) := by rw [e79, va_up_ne _ _ (by omega)]; exact hc26
  replace hc27 : cs79 296 = .inl (gY G 14, 64, .inl (fun _ => 0)) := by rw [e79, va_up_ne _ _ (by omega)]; exact hc27
  replace hc28 : cs79 297 = .inl (gY G 14, 64, .inl (fun _ => 0)) := by rw [e79, va_up_ne _ _ (by omega)]; exact hc28
  replace hc29 : cs79 298 = .inl (gY G 14, 64, .inl (fun _ => 0)) := by rw [e79, va_up_ne _ _ (by omega)]; exact hc29
  replace hc30 : cs79 299 = .inl (gY G 14, 64, .inl (fun _ => 0)) := by rw [e79, va_up_ne _ _ (by omega)]; exact hc30
  replace hc31 : cs79 300 = .inl (gY G 14, 64, .inl (fun _ => 0)) := by rw [e79, va_up_ne _ _ (by omega)]; exact hc31
  replace hc32 : cs79 301 = .inl (gY G 14, 64, .inl (fun _ => 0)) := by rw [e79, va_up_ne _ _ (by omega)]; exact hc32
  replace hc33 : cs79 302 = .inl (gY G 14, 64, .inl (fun _ => 0)) := by rw [e79, va_up_ne _ _ (by omega)]; exact hc33
  replace hc34 : cs79 303 = .inl (gY G 14, 640, .inl (fun _ => 0)) := by rw [e79, va_up_ne _ _ (by omega)]; exact hc34
  replace hc35 : cs79 304 = .inl (gY G 14, 7, .inl (fun _ => 0)) := by rw [e79, va_up_ne _ _ (by omega)]; exact hc35
  replace hc36 : cs79 305 = .inl (gY G 14, 10, .inl (fun _ => 0)) := by rw [e79, va_up_ne _ _ (by omega)]; exact hc36
  replace hc37 : cs79 306 = .inl (gY G 14, 10, .inl (fun _ => 0)) := by rw [e79, va_up_ne _ _ (by omega)]; exact hc37
  replace hc38 : cs79 307 = .inl (gY G 14, 10, .inl (fun _ => 0)) := by rw [e79, va_up_ne _ _ (by omega)]; exact hc38
  replace hc39 : cs79 308 = .inl (gY G 14, 64, .inl (fun _ => 0)) := by rw [e79, va_up_ne _ _ (by omega)]; exact hc39
  have hc40 : cs79 309 = .inl (gY G 14, 10, .inl (fun _ => 0)) := by rw [e79]; exact va_up_self _ _ _
  replace hlo : ∀ n, n < 269 → cs79 n = cs n := fun n a => by rw [e79, va_up_ne _ _ (by omega)] <;> exact hlo n a
  clear e79
  refine ry_putF ff_X12_128 rfl (by omega) hc0 rfl rfl (nlt rfl) dX12_init_317 ?_
  refine ry_cs (fun cs80 e80 => ?_)
  replace hc1 : cs80 270 = .inl (gY G 13, 2400, .inl (fun _ => 0)) := by rw [e80, va_up_ne _ _ (by omega)]; exact hc1
  replace hc2 : cs80 271 = .inl (gY G 14, 4, .inl (fun _ => 0)) := by rw [e80, va_up_ne _ _ (by omega)]; exact hc2
  replace hc3 : cs80 272 = .inl (gY G 14, 4, .inl (fun _ => 0)) := by rw [e80, va_up_ne _ _ (by omega)]; exact hc3
  replace hc4 : cs80 273 = .inl (gY G 14, 4, .inl (fun _ => 0)) := by rw [e80, va_up_ne _ _ (by omega)]; exact hc4
  replace hc5 : cs80 274 = .inl (gY G 14, 16, .inl (fun _ => 0)) := by rw [e80, va_up_ne _ _ (by omega)]; exact hc5
  replace hc6 : cs80 275 = .inl (gY G 14, 104, .inl (fun _ => 0)) := by rw [e80, va_up_ne _ _ (by omega)]; exact hc6
  replace hc7 : cs80 276 = .inl (gY G 14, 1072, .inl (fun _ => 0)) := by rw [e80, va_up_ne _ _ (by omega)]; exact hc7
  replace hc8 : cs80 277 = .inl (gY G 14, 968, .inl (fun _ => 0)) := by rw [e80, va_up_ne _ _ (by omega)]; exact hc8
  replace hc9 : cs80 278 = .inl (gY G 14, 136, .inl (fun _ => 0)) := by rw [e80, va_up_ne _ _ (by omega)]; exact hc9
  replace hc10 : cs80 279 = .inl (gY G 14, 134, .inl (fun _ => 0)) := by rw [e80, va_up_ne _ _ (by omega)]; exact hc10
  replace hc11 : cs80 280 = .inl (gY G 14, 3, .inl (fun _ => 0)) := by rw [e80, va_up_ne _ _ (by omega)]; exact hc11
  replace hc12 : cs80 281 = .inl (gY G 14, 10, .inl (fun _ => 0)) := by rw [e80, va_up_ne _ _ (by omega)]; exact hc12
  replace hc13 : cs80 282 = .inl (gY G 14, 10, .inl (fun _ => 0)) := by rw [e80, va_up_ne _ _ (by omega)]; exact hc13
  replace hc14 : cs80 283 = .inl (gY G 14, 10, .inl (fun _ => 0)) := by rw [e80, va_up_ne _ _ (by omega)]; exact hc14
  replace hc15 : cs80 284 = .inl (gY G 14, 10, .inl (fun _ => 0)) := by rw [e80, va_up_ne _ _ (by omega)]; exact hc15
  replace hc16 : cs80 285 = .inl (gY G 14, 10, .inl (fun _ => 0)) := by rw [e80, va_up_ne _ _ (by omega)]; exact hc16
  replace hc17 : cs80 286 = .inl (gY G 14, 4, .inl (fun _ => 0)) := by rw [e80, va_up_ne _ _ (by omega)]; exact hc17
  replace hc18 : cs80 287 = .inl (gY G 14, 4, .inl (fun _ => 0)) := by rw [e80, va_up_ne _ _ (by omega)]; exact hc18
  replace hc19 : cs80 288 = .inl (gY G 14, 4, .inl (fun _ => 0)) := by rw [e80, va_up_ne _ _ (by omega)]; exact hc19
  replace hc20 : cs80 289 = .inl (gY G 14, 4, .inl (fun _ => 0)) := by rw [e80, va_up_ne _ _ (by omega)]; exact hc20
  replace hc21 : cs80 290 = .inl (gY G 14, 4, .inl (fun _ => 0)) := by rw [e80, va_up_ne _ _ (by omega)]; exact hc21
  replace hc22 : cs80 291 = .inl (gY G 14, 4, .inl (fun _ => 0)) := by rw [e80, va_up_ne _ _ (by omega)]; exact hc22
  replace hc23 : cs80 292 = .inl (gY G 14, 40, .inl (fun _ => 0)) := by rw [e80, va_up_ne _ _ (by omega)]; exact hc23
  replace hc24 : cs80 293 = .inl (gY G 14, 40, .inl (fun _ => 0)) := by rw [e80, va_up_ne _ _ (by omega)]; exact hc24
  replace hc25 : cs80 294 = .inl (gY G 14, 40, .inl (fun _ => 0)) := by rw [e80, va_up_ne _ _ (by omega)]; exact hc25
  replace hc26 : cs80 295 = .inl (gY G 14, 64, .inl (fun _ => 0)) := by rw [e80, va_up_ne _ _ (by omega)]; exact hc26
  replace hc27 : cs80 296 = .inl (gY G 14, 64, .inl (fun _ => 0)) := by rw [e80, va_up_ne _ _ (by omega)]; exact hc27
  replace hc28 : cs80 297 = .inl (gY G 14, 64, .inl (fun _ => 0)) := by rw [e80, va_up_ne _ _ (by omega)]; exact hc28
  replace hc29 : cs80 298 = .inl (gY G 14, 64, .inl (fun _ => 0)) := by rw [e80, va_up_ne _ _ (by omega)]; exact hc29
  replace hc30 : cs80 299 = .inl (gY G 14, 64, .inl (fun _ => 0)) := by rw [e80, va_up_ne _ _ (by omega)]; exact hc30
  replace hc31 : cs80 300 = .inl (gY G 14, 64, .inl (fun _ => 0)) := by rw [e80, va_up_ne _ _ (by omega)]; exact hc31
  replace hc32 : cs80 301 = .inl (gY G 14, 64, .inl (fun _ => 0)) := by rw [e80, va_up_ne _ _ (by omega)]; exact hc32
  replace hc33 : cs80 302 = .inl (gY G 14, 64, .inl (fun _ => 0)) := by rw [e80, va_up_ne _ _ (by omega)]; exact hc33
  replace hc34 : cs80 303 = .inl (gY G 14, 640, .inl (fun _ => 0)) := by rw [e80, va_up_ne _ _ (by omega)]; exact hc34
  replace hc35 : cs80 304 = .inl (gY G 14, 7, .inl (fun _ => 0)) := by rw [e80, va_up_ne _ _ (by omega)]; exact hc35
  replace hc36 : cs80 305 = .inl (gY G 14, 10, .inl (fun _ => 0)) := by rw [e80, va_up_ne _ _ (by omega)]; exact hc36
  replace hc37 : cs80 306 = .inl (gY G 14, 10, .inl (fun _ => 0)) := by rw [e80, va_up_ne _ _ (by omega)]; exact hc37
  replace hc38 : cs80 307 = .inl (gY G 14, 10, .inl (fun _ => 0)) := by rw [e80, va_up_ne _ _ (by omega)]; exact hc38
  replace hc39 : cs80 308 = .inl (gY G 14, 64, .inl (fun _ => 0)) := by rw [e80, va_up_ne _ _ (by omega)]; exact hc39
  replace hc40 : cs80 309 = .inl (gY G 14, 10, .inl (fun _ => 0)) := by rw [e80, va_up_ne _ _ (by omega)]; exact hc40
  replace hc0 : cs80 269 = .inr (12, [.int 0, .ref (gA G 270), .ref (gA G 271), .ref (gA G 272), .ref (gA G 273), .ref (gA G 274), .ref (gA G 275), .ref (gA G 276), .ref (gA G 277), .ref (gA G 278), .int 0, .int 0, .int 0, .int 0, .int 0, .long 0, .int 0, .int 0, .int 0, .ref (gA G 279), .ref (gA G 280), .int 0, .int 0, .int 0, .int 0, .int 0, .int 0, .int 0, .int 0, .int 0, .int 0, .ref (gA G 281), .ref (gA G 282), .ref (gA G 283), .ref (gA G 284), .ref (gA G 285), .ref (gA G 286), .ref (gA G 287), .ref (gA G 288), .ref (gA G 289), .ref (gA G 290), .ref (gA G 291), .ref (gA G 292), .ref (gA G 293), .ref (gA G 294), .ref (gA G 295), .ref (gA G 296), .ref (gA G 297), .ref (gA G 298), .ref (gA G 299), .ref (gA G 300), .ref (gA G 301), .ref (gA G 302), .ref (gA G 303), .int 0, .int 0, .int 0, .int 0, .int 0, .int 0, .ref (gA G 304), .ref (gA G 305), .int 0, .int 0, .int 0, .int 0, .int 0, .ref (gA G 306), .ref (gA G 307), .int 0, .ref (gA G 308), .int 0, .int 0, .ref (gA G 309), .null, .null, .int 0, .int 0, .int 0, .int 0, .int 0, .int 0, .null, .int 0, .int 0, .int 0, .int 0, .int 0, .int 0, .int 0, .int 0, .null]) := by rw [e80]; exact va_up_self _ _ _
  replace hlo : ∀ n, n < 269 → cs80 n = cs n := fun n a => by rw [e80, va_up_ne _ _ (by omega)] <;> exact hlo n a
  clear e80
  refine ry_aload_n 0 dX12_init_320 rfl rfl ?_
  refine ry_bipush (v := 6) dX12_init_321 rfl ?_
  refine ry_newa (κ := 14) (n := 6) (atype := .int) (ty := .int) (t0 := 1) rfl wa_int rfl (fun _ _ => Iff.rfl) rfl (by decide) rfl (by decide) (Nat.le_of_ble_eq_true rfl) (Nat.le_of_ble_eq_true rfl) dX12_init_323 ?_
  refine ry_cs (fun cs81 e81 => ?_)
  replace hc0 : cs81 269 = .inr (12, [.int 0, .ref (gA G 270), .ref (gA G 271), .ref (gA G 272), .ref (gA G 273), .ref (gA G 274), .ref (gA G 275), .ref (gA G 276), .ref (gA G 277), .ref (gA G 278), .int 0, .int 0, .int 0, .int 0, .int 0, .long 0, .int 0, .int 0, .int 0, .ref (gA G 279), .ref (gA G 280), .int 0, .int 0, .int 0, .int 0, .int 0, .int 0, .int 0, .int 0, .int 0, .int 0, .ref (gA G 281), .ref (gA G 282), .ref (gA G 283), .ref (gA G 284), .ref (gA G 285), .ref (gA G 286), .ref (gA G 287), .ref (gA G 288), .ref (gA G 289), .ref (gA G 290), .ref (gA G 291), .ref (gA G 292), .ref (gA G 293), .ref (gA G 294), .ref (gA G 295), .ref (gA G 296), .ref (gA G 297), .ref (gA G 298), .ref (gA G 299), .ref (gA G 300), .ref (gA G 301), .ref (gA G 302), .ref (gA G 303), .int 0, .int 0, .int 0, .int 0, .int 0, .int 0, .ref (gA G 304), .ref (gA G 305), .int 0, .int 0, .int 0, .int 0, .int 0, .ref (gA G 306), .ref (gA G 307), .int 0, .ref (gA G 308), .int 0, .int 0, .ref (gA G 309), .null, .null, .int 0, .int 0, .int 0, .int 0, .int 0, .int 0, .null, .int 0, .int 0, .int 0, .int 0, .int 0, .int 0, .int 0, .int 0, .null]) := by rw [e81, va_up_ne _ _ (by omega)]; exact hc0
  replace hc1 : cs81 270 = .inl (gY G 13, 2400, .inl (fun _ => 0)) := by rw [e81, va_up_ne _ _ (by omega)]; exact hc1
  replace hc2 : cs81 271 = .inl (gY G 14, 4, .inl (fun _ => 0)) := by rw [e81, va_up_ne _ _ (by omega)]; exact hc2
  replace hc3 : cs81 272 = .inl (gY G 14, 4, .inl (fun _ => 0)) := by rw [e81, va_up_ne _ _ (by omega)]; exact hc3
  replace hc4 : cs81 273 = .inl (gY G 14, 4, .inl (fun _ => 0)) := by rw [e81, va_up_ne _ _ (by omega)]; exact hc4
  replace hc5 : cs81 274 = .inl (gY G 14, 16, .inl (fun _ => 0)) := by rw [e81, va_up_ne _ _ (by omega)]; exact hc5
  replace hc6 : cs81 275 = .inl (gY G 14, 104, .inl (fun _ => 0)) := by rw [e81, va_up_ne _ _ (by omega)]; exact hc6
  replace hc7 : cs81 276 = .inl (gY G 14, 1072, .inl (fun _ => 0)) := by rw [e81, va_up_ne _ _ (by omega)]; exact hc7
  replace hc8 : cs81 277 = .inl (gY G 14, 968, .inl (fun _ => 0)) := by rw [e81, va_up_ne _ _ (by omega)]; exact hc8
  replace hc9 : cs81 278 = .inl (gY G 14, 136, .inl (fun _ => 0)) := by rw [e81, va_up_ne _ _ (by omega)]; exact hc9
  replace hc10 : cs81 279 = .inl (gY G 14, 134, .inl (fun _ => 0)) := by rw [e81, va_up_ne _ _ (by omega)]; exact hc10
  replace hc11 : cs81 280 = .inl (gY G 14, 3, .inl (fun _ => 0)) := by rw [e81, va_up_ne _ _ (by omega)]; exact hc11
  replace hc12 : cs81 281 = .inl (gY G 14, 10, .inl (fun _ => 0)) := by rw [e81, va_up_ne _ _ (by omega)]; exact hc12
  replace hc13 : cs81 282 = .inl (gY G 14, 10, .inl (fun _ => 0)) := by rw [e81, va_up_ne _ _ (by omega)]; exact hc13
  replace hc14 : cs81 283 = .inl (gY G 14, 10, .inl (fun _ => 0)) := by rw [e81, va_up_ne _ _ (by omega)]; exact hc14
  replace hc15 : cs81 284 = .inl (gY G 14, 10, .inl (fun _ => 0)) := by rw [e81, va_up_ne _ _ (by omega)]; exact hc15
  replace hc16 : cs81 285 = .inl (gY G 14, 10, .inl (fun _ => 0)) := by rw [e81, va_up_ne _ _ (by omega)]; exact hc16
  replace hc17 : cs81 286 = .inl (gY G 14, 4, .inl (fun _ => 0)) := by rw [e81, va_up_ne _ _ (by omega)]; exact hc17
  replace hc18 : cs81 287 = .inl (gY G 14, 4, .inl (fun _ => 0)) := by rw [e81, va_up_ne _ _ (by omega)]; exact hc18
  replace hc19 : cs81 288 = .inl (gY G 14, 4, .inl (fun _ => 0)) := by rw [e81, va_up_ne _ _ (by omega)]; exact hc19
  replace hc20 : cs81 289 = .inl (gY G 14, 4, .inl (fun _ => 0)) := by rw [e81, va_up_ne _ _ (by omega)]; exact hc20
  replace hc21 : cs81 290 = .inl (gY G 14, 4, .inl (fun _ => 0)) := by rw [e81, va_up_ne _ _ (by omega)]; exact hc21
  replace hc22 : cs81 291 = .inl (gY G 14, 4, .inl (fun _ => 0)) := by rw [e81, va_up_ne _ _ (by omega)]; exact hc22
  replace hc23 : cs81 292 = .inl (gY G 14, 40, .inl (fun _ => 0)) := by rw [e81, va_up_ne _ _ (by omega)]; exact hc23
  replace hc24 : cs81 293 = .inl (gY G 14, 40, .inl (fun _ => 0)) := by rw [e81, va_up_ne _ _ (by omega)]; exact hc24
  replace hc25 : cs81 294 = .inl (gY G 14, 40, .inl (fun _ => 0)) := by rw [e81, va_up_ne _ _ (by omega)]; exact hc25
  replace hc26 : cs81 295 = .inl (gY G 14, 64, .inl (fun _ => 0)) := by rw [e81, va_up_ne _ _ (by omega)]; exact hc26
  replace hc27 : cs81 296 = .inl (gY G 14, 64, .inl (fun _ => 0)) := by rw [e81, va_up_ne _ _ (by omega)]; exact hc27
  replace hc28 : cs81 297 = .inl (gY G 14, 64, .inl (fun _ => 0)) := by rw [e81, va_up_ne _ _ (by omega)]; exact hc28
  replace hc29 : cs81 298 = .inl (gY G 14, 64, .inl (fun _ => 0)) := by rw [e81, va_up_ne _ _ (by omega)]; exact hc29
  replace hc30 : cs81 299 = .inl (gY G 14, 64, .inl (fun _ => 0)) := by rw [e81, va_up_ne _ _ (by omega)]; exact hc30
  replace hc31 : cs81 300 = .inl (gY G 14, 64, .inl (fun _ => 0)) := by rw [e81, va_up_ne _ _ (by omega)]; exact hc31
  replace hc32 : cs81 301 = .inl (gY G 14, 64, .inl (fun _ => 0)) := by rw [e81, va_up_ne _ _ (by omega)]; exact hc32
  replace hc33 : cs81 302 = .inl (gY G 14, 64, .inl (fun _ => 0)) := by rw [e81, va_up_ne _ _ (by omega)]; exact hc33
  replace hc34 : cs81 303 = .inl (gY G 14, 640, .inl (fun _ => 0)) := by rw [e81, va_up_ne _ _ (by omega)]; exact hc34
  replace hc35 : cs81 304 = .inl (gY G 14, 7, .inl (fun _ => 0)) := by rw [e81, va_up_ne _ _ (by omega)]; exact hc35
  replace hc36 : cs81 305 = .inl (gY G 14, 10, .inl (fun _ => 0)) := by rw [e81, va_up_ne _ _ (by omega)]; exact hc36
  replace hc37 : cs81 306 = .inl (gY G 14, 10, .inl (fun _ => 0)) := by rw [e81, va_up_ne _ _ (by omega)]; exact hc37
  replace hc38 : cs81 307 = .inl (gY G 14, 10, .inl (fun _ => 0)) := by rw [e81, va_up_ne _ _ (by omega)]; exact hc38
  replace hc39 : cs81 308 = .inl (gY G 14, 64, .inl (fun _ => 0)) := by rw [e81, va_up_ne _ _ (by omega)]; exact hc39
  replace hc40 : cs81 309 = .inl (gY G 14, 10, .inl (fun _ => 0)) := by rw [e81, va_up_ne _ _ (by omega)]; exact hc40
  have hc41 : cs81 310 = .inl (gY G 14, 6, .inl (fun _ => 0)) := by rw [e81]; exact va_up_self _ _ _
  replace hlo : ∀ n, n < 269 → cs81 n = cs n := fun n a => by rw [e81, va_up_ne _ _ (by omega)] <;> exact hlo n a
  clear e81
  refine ry_putF ff_X12_131 rfl (by omega) hc0 rfl rfl (nlt rfl) dX12_init_325 ?_
  refine ry_cs (fun cs82 e82 => ?_)
  replace hc1 : cs82 270 = .inl (gY G 13, 2400, .inl (fun _ => 0)) := by rw [e82, va_up_ne _ _ (by omega)]; exact hc1
  replace hc2 : cs82 271 = .inl (gY G 14, 4, .inl (fun _ => 0)) := by rw [e82, va_up_ne _ _ (by omega)]; exact hc2
  replace hc3 : cs82 272 = .inl (gY G 14, 4, .inl (fun _ => 0)) := by rw [e82, va_up_ne _ _ (by omega)]; exact hc3
  replace hc4 : cs82 273 = .inl (gY G 14, 4, .inl (fun _ => 0)) := by rw [e82, va_up_ne _ _ (by omega)]; exact hc4
  replace hc5 : cs82 274 = .inl (gY G 14, 16, .inl (fun _ => 0)) := by rw [e82, va_up_ne _ _ (by omega)]; exact hc5
  replace hc6 : cs82 275 = .inl (gY G 14, 104, .inl (fun _ => 0)) := by rw [e82, va_up_ne _ _ (by omega)]; exact hc6
  replace hc7 : cs82 276 = .inl (gY G 14, 1072, .inl (fun _ => 0)) := by rw [e82, va_up_ne _ _ (by omega)]; exact hc7
  replace hc8 : cs82 277 = .inl (gY G 14, 968, .inl (fun _ => 0)) := by rw [e82, va_up_ne _ _ (by omega)]; exact hc8
  replace hc9 : cs82 278 = .inl (gY G 14, 136, .inl (fun _ => 0)) := by rw [e82, va_up_ne _ _ (by omega)]; exact hc9
  replace hc10 : cs82 279 = .inl (gY G 14, 134, .inl (fun _ => 0)) := by rw [e82, va_up_ne _ _ (by omega)]; exact hc10
  replace hc11 : cs82 280 = .inl (gY G 14, 3, .inl (fun _ => 0)) := by rw [e82, va_up_ne _ _ (by omega)]; exact hc11
  replace hc12 : cs82 281 = .inl (gY G 14, 10, .inl (fun _ => 0)) := by rw [e82, va_up_ne _ _ (by omega)]; exact hc12
  replace hc13 : cs82 282 = .inl (gY G 14, 10, .inl (fun _ => 0)) := by rw [e82, va_up_ne _ _ (by omega)]; exact hc13
  replace hc14 : cs82 283 = .inl (gY G 14, 10, .inl (fun _ => 0)) := by rw [e82, va_up_ne _ _ (by omega)]; exact hc14
  replace hc15 : cs82 284 = .inl (gY G 14, 10, .inl (fun _ => 0)) := by rw [e82, va_up_ne _ _ (by omega)]; exact hc15
  replace hc16 : cs82 285 = .inl (gY G 14, 10, .inl (fun _ => 0)) := by rw [e82, va_up_ne _ _ (by omega)]; exact hc16
  replace hc17 : cs82 286 = .inl (gY G 14, 4, .inl (fun _ => 0)) := by rw [e82, va_up_ne _ _ (by omega)]; exact hc17
  replace hc18 : cs82 287 = .inl (gY G 14, 4, .inl (fun _ => 0)) := by rw [e82, va_up_ne _ _ (by omega)]; exact hc18
  replace hc19 : cs82 288 = .inl (gY G 14, 4, .inl (fun _ => 0)) := by rw [e82, va_up_ne _ _ (by omega)]; exact hc19
  replace hc20 : cs82 289 = .inl (gY G 14, 4, .inl (fun _ => 0)) := by rw [e82, va_up_ne _ _ (by omega)]; exact hc20
  replace hc21 : cs82 290 = .inl (gY G 14, 4, .inl (fun _ => 0)) := by rw [e82, va_up_ne _ _ (by omega)]; exact hc21
  replace hc22 : cs82 291 = .inl (gY G 14, 4, .inl (fun _ => 0)) := by rw [e82, va_up_ne _ _ (by omega)]; exact hc22
  replace hc23 : cs82 292 = .inl (gY G 14, 40, .inl (fun _ => 0)) := by rw [e82, va_up_ne _ _ (by omega)]; exact hc23
  replace hc24 : cs82 293 = .inl (gY G 14, 40, .inl (fun _ => 0)) := by rw [e82, va_up_ne _ _ (by omega)]; exact hc24
  replace hc25 : cs82 294 = .inl (gY G 14, 40, .inl (fun _ => 0)) := by rw [e82, va_up_ne _ _ (by omega)]; exact hc25
  replace hc26 : cs82 295 = .inl (gY G 14, 64, .inl (fun _ => 0)) := by rw [e82, va_up_ne _ _ (by omega)]; exact hc26
  replace hc27 : cs82 296 = .inl (gY G 14, 64, .inl (fun _ => 0)) := by rw [e82, va_up_ne _ _ (by omega)]; exact hc27
  replace hc28 : cs82 297 = .inl (gY G 14, 64, .inl (fun _ => 0)) := by rw [e82, va_up_ne _ _ (by omega)]; exact hc28
  replace hc29 : cs82 298 = .inl (gY G 14, 64, .inl (fun _ => 0)) := by rw [e82, va_up_ne _ _ (by omega)]; exact hc29
  replace hc30 : cs82 299 = .inl (gY G 14, 64, .inl (fun _ => 0)) := by rw [e82, va_up_ne _ _ (by omega)]; exact hc30
  replace hc31 : cs82 300 = .inl (gY G 14, 64, .inl (fun _ => 0)) := by rw [e82, va_up_ne _ _ (by omega)]; exact hc31
  replace hc32 : cs82 301 = .inl (gY G 14, 64, .inl (fun _ => 0)) := by rw [e82, va_up_ne _ _ (by omega)]; exact hc32
  replace hc33 : cs82 302 = .inl (gY G 14, 64, .inl (fun _ => 0)) := by rw [e82, va_up_ne _ _ (by omega)]; exact hc33
  replace hc34 : cs82 303 = .inl (gY G 14, 640, .inl (fun _ => 0)) := by rw [e82, va_up_ne _ _ (by omega)]; exact hc34
  replace hc35 : cs82 304 = .inl (gY G 14, 7, .inl (fun _ => 0)) := by rw [e82, va_up_ne _ _ (by omega)]; exact hc35
  replace hc36 : cs82 305 = .inl (gY G 14, 10, .inl (fun _ => 0)) := by rw [e82, va_up_ne _ _ (by omega)]; exact hc36
  replace hc37 : cs82 306 = .inl (gY G 14, 10, .inl (fun _ => 0)) := by rw [e82, va_up_ne _ _ (by omega)]; exact hc37
  replace hc38 : cs82 307 = .inl (gY G 14, 10, .inl (fun _ => 0)) := by rw [e82, va_up_ne _ _ (by omega)]; exact hc38
  replace hc39 : cs82 308 = .inl (gY G 14, 64, .inl (fun _ => 0)) := by rw [e82, va_up_ne _ _ (by omega)]; exact hc39
  replace hc40 : cs82 309 = .inl (gY G 14, 10, .inl (fun _ => 0)) := by rw [e82, va_up_ne _ _ (by omega)]; exact hc40
  replace hc41 : cs82 310 = .inl (gY G 14, 6, .inl (fun _ => 0)) := by rw [e82, va_up_ne _ _ (by omega)]; exact hc41
  replace hc0 : cs82 269 = .inr (12, [.int 0, .ref (gA G 270), .ref (gA G 271), .ref (gA G 272), .ref (gA G 273), .ref (gA G 274), .ref (gA G 275), .ref (gA G 276), .ref (gA G 277), .ref (gA G 278), .int 0, .int 0, .int 0, .int 0, .int 0, .long 0, .int 0, .int 0, .int 0, .ref (gA G 279), .ref (gA G 280), .int 0, .int 0, .int 0, .int 0, .int 0, .int 0, .int 0, .int 0, .int 0, .int 0, .ref (gA G 281), .ref (gA G 282), .ref (gA G 283), .ref (gA G 284), .ref (gA G 285), .ref (gA G 286), .ref (gA G 287), .ref (gA G 288), .ref (gA G 289), .ref (gA G 290), .ref (gA G 291), .ref (gA G 292), .ref (gA G 293), .ref (gA G 294), .ref (gA G 295), .ref (gA G 296), .ref (gA G 297), .ref (gA G 298), .ref (gA G 299), .ref (gA G 300), .ref (gA G 301), .ref (gA G 302), .ref (gA G 303), .int 0, .int 0, .int 0, .int 0, .int 0, .int 0, .ref (gA G 304), .ref (gA G 305), .int 0, .int 0, .int 0, .int 0, .int 0, .ref (gA G 306), .ref (gA G 307), .int 0, .ref (gA G 308), .int 0, .int 0, .ref (gA G 309), .ref (gA G 310), .null, .int 0, .int 0, .int 0, .int 0, .int 0, .int 0, .null, .int 0, .int 0, .int 0, .int 0, .int 0, .int 0, .int 0, .int 0, .null]) := by rw [e82]; exact va_up_self _ _ _
  replace hlo : ∀ n, n < 269 → cs82 n = cs n := fun n a => by rw [e82, va_up_ne _ _ (by omega)] <;> exact hlo n a
  clear e82
  refine ry_aload_n 0 dX12_init_328 rfl rfl ?_
  refine ry_bipush (v := 6) dX12_init_329 rfl ?_
  refine ry_newa (κ := 14) (n := 6) (atype := .int) (ty := .int) (t0 := 1) rfl wa_int rfl (fun _ _ => Iff.rfl) rfl (by decide) rfl (by decide) (Nat.le_of_ble_eq_true rfl) (Nat.le_of_ble_eq_true rfl) dX12_init_331 ?_
  refine ry_cs (fun cs83 e83 => ?_)
  replace hc0 : cs83 269 = .inr (12, [.int 0, .ref (gA G 270), .ref (gA G 271), .ref (gA G 272), .ref (gA G 273), .ref (gA G 274), .ref (gA G 275), .ref (gA G 276), .ref (gA G 277), .ref (gA G 278), .int 0, .int 0, .int 0, .int 0, .int 0, .long 0, .int 0, .int 0, .int 0, .ref (gA G 279), .ref (gA G 280), .int 0, .int 0, .int 0, .int 0, .int 0, .int 0, .int 0, .int 0, .int 0, .int 0, .ref (gA G 281), .ref (gA G 282), .ref (gA G 283), .ref (gA G 284), .ref (gA G 285), .ref (gA G 286), .ref (gA G 287), .ref (gA G 288), .ref (gA G 289), .ref (gA G 290), .ref (gA G 291), .ref (gA G 292), .ref (gA G 293), .ref (gA G 294), .ref (gA G 295), .ref (gA G 296), .ref (gA G 297), .ref (gA G 298), .ref (gA G 299), .ref (gA G 300), .ref (gA G 301), .ref (gA G 302), .ref (gA G 303), .int 0, .int 0, .int 0, .int 0, .int 0, .int 0, .ref (gA G 304), .ref (gA G 305), .int 0, .int 0, .int 0, .int 0, .int 0, .ref (gA G 306), .ref (gA G 307), .int 0, .ref (gA G 308), .int 0, .int 0, .ref (gA G 309), .ref (gA G 310), .null, .int 0, .int 0, .int 0, .int 0, .int 0, .int 0, .null, .int 0, .int 0, .int 0, .int 0, .int 0, .int 0, .int 0, .int 0, .null]) := by rw [e83, va_up_ne _ _ (by omega)]; exact hc0
  replace hc1 : cs83 270 = .inl (gY G 13, 2400, .inl (fun _ => 0)) := by rw [e83, va_up_ne _ _ (by omega)]; exact hc1
  replace hc2 : cs83 271 = .inl (gY G 14, 4, .inl (fun _ => 0)) := by rw [e83, va_up_ne _ _ (by omega)]; exact hc2
  replace hc3 : cs83 272 = .inl (gY G 14, 4, .inl (fun _ => 0)) := by rw [e83, va_up_ne _ _ (by omega)]; exact hc3
  replace hc4 : cs83 273 = .inl (gY G 14, 4, .inl (fun _ => 0)) := by rw [e83, va_up_ne _ _ (by omega)]; exact hc4
  replace hc5 : cs83 274 = .inl (gY G 14, 16, .inl (fun _ => 0)) := by rw [e83, va_up_ne _ _ (by omega)]; exact hc5
  replace hc6 : cs83 275 = .inl (gY G 14, 104, .inl (fun _ => 0)) := by rw [e83, va_up_ne _ _ (by omega)]; exact hc6
  replace hc7 : cs83 276 = .inl (gY G 14, 1072, .inl (fun _ => 0)) := by rw [e83, va_up_ne _ _ (by omega)]; exact hc7
  replace hc8 : cs83 277 = .inl (gY G 14, 968, .inl (fun _ => 0)) := by rw [e83, va_up_ne _ _ (by omega)]; exact hc8
  replace hc9 : cs83 278 = .inl (gY G 14, 136, .inl (fun _ => 0)) := by rw [e83, va_up_ne _ _ (by omega)]; exact hc9
  replace hc10 : cs83 279 = .inl (gY G 14, 134, .inl (fun _ => 0)) := by rw [e83, va_up_ne _ _ (by omega)]; exact hc10
  replace hc11 : cs83 280 = .inl (gY G 14, 3, .inl (fun _ => 0)) := by rw [e83, va_up_ne _ _ (by omega)]; exact hc11
  replace hc12 : cs83 281 = .inl (gY G 14, 10, .inl (fun _ => 0)) := by rw [e83, va_up_ne _ _ (by omega)]; exact hc12
  replace hc13 : cs83 282 = .inl (gY G 14, 10, .inl (fun _ => 0)) := by rw [e83, va_up_ne _ _ (by omega)]; exact hc13
  replace hc14 : cs83 283 = .inl (gY G 14, 10, .inl (fun _ => 0)) := by rw [e83, va_up_ne _ _ (by omega)]; exact hc14
  replace hc15 : cs83 284 = .inl (gY G 14, 10, .inl (fun _ => 0)) := by rw [e83, va_up_ne _ _ (by omega)]; exact hc15
  replace hc16 : cs83 285 = .inl (gY G 14, 10, .inl (fun _ => 0)) := by rw [e83, va_up_ne _ _ (by omega)]; exact hc16
  replace hc17 : cs83 286 = .inl (gY G 14, 4, .inl (fun _ => 0)) := by rw [e83, va_up_ne _ _ (by omega)]; exact hc17
  replace hc18 : cs83 287 = .inl (gY G 14, 4, .inl (fun _ => 0)) := by rw [e83, va_up_ne _ _ (by omega)]; exact hc18
  replace hc19 : cs83 288 = .inl (gY G 14, 4, .inl (fun _ => 0)) := by rw [e83, va_up_ne _ _ (by omega)]; exact hc19
  replace hc20 : cs83 289 = .inl (gY G 14, 4, .inl (fun _ => 0)) := by rw [e83, va_up_ne _ _ (by omega)]; exact hc20
  replace hc21 : cs83 290 = .inl (gY G 14, 4, .inl (fun _ => 0)) := by rw [e83, va_up_ne _ _ (by omega)]; exact hc21
  replace hc22 : cs83 291 = .inl (gY G 14, 4, .inl (fun _ => 0)) := by rw [e83, va_up_ne _ _ (by omega)]; exact hc22
  replace hc23 : cs83 292 = .inl (gY G 14, 40, .inl (fun _ => 0)) := by rw [e83, va_up_ne _ _ (by omega)]; exact hc23
  replace hc24 : cs83 293 = .inl (gY G 14, 40, .inl (fun _ => 0)) := by rw [e83, va_up_ne _ _ (by omega)]; exact hc24
  replace hc25 : cs83 294 = .inl (gY G 14, 40, .inl (fun _ => 0)) := by rw [e83, va_up_ne _ _ (by omega)]; exact hc25
  replace hc26 : cs83 295 = .inl (gY G 14, 64, .inl (fun _ => 0)) := by rw [e83, va_up_ne _ _ (by omega)]; exact hc26
  replace hc27 : cs83 296 = .inl (gY G 14, 64, .inl (fun _ => 0)) := by rw [e83, va_up_ne _ _ (by omega)]; exact hc27
  replace hc28 : cs83 297 = .inl (gY G 14, 64, .inl (fun _ => 0)) := by rw [e83, va_up_ne _ _ (by omega)]; exact hc28
  replace hc29 : cs83 298 = .inl (gY G 14, 64, .inl (fun _ => 0)) := by rw [e83, va_up_ne _ _ (by omega)]; exact hc29
  replace hc30 : cs83 299 = .inl (gY G 14, 64, .inl (fun _ => 0)) := by rw [e83, va_up_ne _ _ (by omega)]; exact hc30
  replace hc31 : cs83 300 = .inl (gY G 14, 64, .inl (fun _ => 0)) := by rw [e83, va_up_ne _ _ (by omega)]; exact hc31
  replace hc32 : cs83 301 = .inl (gY G 14, 64, .inl (fun _ => 0)) := by rw [e83, va_up_ne _ _ (by omega)]; exact hc32
  replace hc33 : cs83 302 = .inl (gY G 14, 64, .inl (fun _ => 0)) := by rw [e83, va_up_ne _ _ (by omega)]; exact hc33
  replace hc34 : cs83 303 = .inl (gY G 14, 640, .inl (fun _ => 0)) := by rw [e83, va_up_ne _ _ (by omega)]; exact hc34
  replace hc35 : cs83 304 = .inl (gY G 14, 7, .inl (fun _ => 0)) := by rw [e83, va_up_ne _ _ (by omega)]; exact hc35
  replace hc36 : cs83 305 = .inl (gY G 14, 10, .inl (fun _ => 0)) := by rw [e83, va_up_ne _ _ (by omega)]; exact hc36
  replace hc37 : cs83 306 = .inl (gY G 14, 10, .inl (fun _ => 0)) := by rw [e83, va_up_ne _ _ (by omega)]; exact hc37
  replace hc38 : cs83 307 = .inl (gY G 14, 10, .inl (fun _ => 0)) := by rw [e83, va_up_ne _ _ (by omega)]; exact hc38
  replace hc39 : cs83 308 = .inl (gY G 14, 64, .inl (fun _ => 0)) := by rw [e83, va_up_ne _ _ (by omega)]; exact hc39
  replace hc40 : cs83 309 = .inl (gY G 14, 10, .inl (fun _ => 0)) := by rw [e83, va_up_ne _ _ (by omega)]; exact hc40
  replace hc41 : cs83 310 = .inl (gY G 14, 6, .inl (fun _ => 0)) := by rw [e83, va_up_ne _ _ (by omega)]; exact hc41
  have hc42 : cs83 311 = .inl (gY G 14, 6, .inl (fun _ => 0)) := by rw [e83]; exact va_up_self _ _ _
  replace hlo : ∀ n, n < 269 → cs83 n = cs n := fun n a => by rw [e83, va_up_ne _ _ (by omega)] <;> exact hlo n a
  clear e83
  refine ry_putF ff_X12_134 rfl (by omega) hc0 rfl rfl (nlt rfl) dX12_init_333 ?_
  refine ry_cs (fun cs84 e84 => ?_)
  replace hc1 : cs84 270 = .inl (gY G 13, 2400, .inl (fun _ => 0)) := by rw [e84, va_up_ne _ _ (by omega)]; exact hc1
  replace hc2 : cs84 271 = .inl (gY G 14, 4, .inl (fun _ => 0)) := by rw [e84, va_up_ne _ _ (by omega)]; exact hc2
  replace hc3 : cs84 272 = .inl (gY G 14, 4, .inl (fun _ => 0)) := by rw [e84, va_up_ne _ _ (by omega)]; exact hc3
  replace hc4 : cs84 273 = .inl (gY G 14, 4, .inl (fun _ => 0)) := by rw [e84, va_up_ne _ _ (by omega)]; exact hc4
  replace hc5 : cs84 274 = .inl (gY G 14, 16, .inl (fun _ => 0)) := by rw [e84, va_up_ne _ _ (by omega)]; exact hc5
  replace hc6 : cs84 275 = .inl (gY G 14, 104, .inl (fun _ => 0)) := by rw [e84, va_up_ne _ _ (by omega)]; exact hc6
  replace hc7 : cs84 276 = .inl (gY G 14, 1072, .inl (fun _ => 0)) := by rw [e84, va_up_ne _ _ (by omega)]; exact hc7
  replace hc8 : cs84 277 = .inl (gY G 14, 968, .inl (fun _ => 0)) := by rw [e84, va_up_ne _ _ (by omega)]; exact hc8
  replace hc9 : cs84 278 = .inl (gY G 14, 136, .inl (fun _ => 0)) := by rw [e84, va_up_ne _ _ (by omega)]; exact hc9
  replace hc10 : cs84 279 = .inl (gY G 14, 134, .inl (fun _ => 0)) := by rw [e84, va_up_ne _ _ (by omega)]; exact hc10
  replace hc11 : cs84 280 = .inl (gY G 14, 3, .inl (fun _ => 0)) := by rw [e84, va_up_ne _ _ (by omega)]; exact hc11
  replace hc12 : cs84 281 = .inl (gY G 14, 10, .inl (fun _ => 0)) := by rw [e84, va_up_ne _ _ (by omega)]; exact hc12
  replace hc13 : cs84 282 = .inl (gY G 14, 10, .inl (fun _ => 0)) := by rw [e84, va_up_ne _ _ (by omega)]; exact hc13
  replace hc14 : cs84 283 = .inl (gY G 14, 10, .inl (fun _ => 0)) := by rw [e84, va_up_ne _ _ (by omega)]; exact hc14
  replace hc15 : cs84 284 = .inl (gY G 14, 10, .inl (fun _ => 0)) := by rw [e84, va_up_ne _ _ (by omega)]; exact hc15
  replace hc16 : cs84 285 = .inl (gY G 14, 10, .inl (fun _ => 0)) := by rw [e84, va_up_ne _ _ (by omega)]; exact hc16
  replace hc17 : cs84 286 = .inl (gY G 14, 4, .inl (fun _ => 0)) := by rw [e84, va_up_ne _ _ (by omega)]; exact hc17
  replace hc18 : cs84 287 = .inl (gY G 14, 4, .inl (fun _ => 0)) := by rw [e84, va_up_ne _ _ (by omega)]; exact hc18
  replace hc19 : cs84 288 = .inl (gY G 14, 4, .inl (fun _ => 0)) := by rw [e84, va_up_ne _ _ (by omega)]; exact hc19
  replace hc20 : cs84 289 = .inl (gY G 14, 4, .inl (fun _ => 0)) := by rw [e84, va_up_ne _ _ (by omega)]; exact hc20
  replace hc21 : cs84 290 = .inl (gY G 14, 4, .inl (fun _ => 0)) := by rw [e84, va_up_ne _ _ (by omega)]; exact hc21
  replace hc22 : cs84 291 = .inl (gY G 14, 4, .inl (fun _ => 0)) := by rw [e84, va_up_ne _ _ (by omega)]; exact hc22
  replace hc23 : cs84 292 = .inl (gY G 14, 40, .inl (fun _ => 0)) := by rw [e84, va_up_ne _ _ (by omega)]; exact hc23
  replace hc24 : cs84 293 = .inl (gY G 14, 40, .inl (fun _ => 0)) := by rw [e84, va_up_ne _ _ (by omega)]; exact hc24
  replace hc25 : cs84 294 = .inl (gY G 14, 40, .inl (fun _ => 0)) := by rw [e84, va_up_ne _ _ (by omega)]; exact hc25
  replace hc26 : cs84 295 = .inl (gY G 14, 64, .inl (fun _ => 0)) := by rw [e84, va_up_ne _ _ (by omega)]; exact hc26
  replace hc27 : cs84 296 = .inl (gY G 14, 64, .inl (fun _ => 0)) := by rw [e84, va_up_ne _ _ (by omega)]; exact hc27
  replace hc28 : cs84 297 = .inl (gY G 14, 64, .inl (fun _ => 0)) := by rw [e84, va_up_ne _ _ (by omega)]; exact hc28
  replace hc29 : cs84 298 = .inl (gY G 14, 64, .inl (fun _ => 0)) := by rw [e84, va_up_ne _ _ (by omega)]; exact hc29
  replace hc30 : cs84 299 = .inl (gY G 14, 64, .inl (fun _ => 0)) := by rw [e84, va_up_ne _ _ (by omega)]; exact hc30
  replace hc31 : cs84 300 = .inl (gY G 14, 64, .inl (fun _ => 0)) := by rw [e84, va_up_ne _ _ (by omega)]; exact hc31
  replace hc32 : cs84 301 = .inl (gY G 14, 64, .inl (fun _ => 0)) := by rw [e84, va_up_ne _ _ (by omega)]; exact hc32
  replace hc33 : cs84 302 = .inl (gY G 14, 64, .inl (fun _ => 0)) := by rw [e84, va_up_ne _ _ (by omega)]; exact hc33
  replace hc34 : cs84 303 = .inl (gY G 14, 640, .inl (fun _ => 0)) := by rw [e84, va_up_ne _ _ (by omega)]; exact hc34
  replace hc35 : cs84 304 = .inl (gY G 14, 7, .inl (fun _ => 0)) := by rw [e84, va_up_ne _ _ (by omega)]; exact hc35
  replace hc36 : cs84 305 = .inl (gY G 14, 10, .inl (fun _ => 0)) := by rw [e84, va_up_ne _ _ (by omega)]; exact hc36
  replace hc37 : cs84 306 = .inl (gY G 14, 10, .inl (fun _ => 0)) := by rw [e84, va_up_ne _ _ (by omega)]; exact hc37
  replace hc38 : cs84 307 = .inl (gY G 14, 10, .inl (fun _ => 0)) := by rw [e84, va_up_ne _ _ (by omega)]; exact hc38
  replace hc39 : cs84 308 = .inl (gY G 14, 64, .inl (fun _ => 0)) := by rw [e84, va_up_ne _ _ (by omega)]; exact hc39
  replace hc40 : cs84 309 = .inl (gY G 14, 10, .inl (fun _ => 0)) := by rw [e84, va_up_ne _ _ (by omega)]; exact hc40
  replace hc41 : cs84 310 = .inl (gY G 14, 6, .inl (fun _ => 0)) := by rw [e84, va_up_ne _ _ (by omega)]; exact hc41
  replace hc42 : cs84 311 = .inl (gY G 14, 6, .inl (fun _ => 0)) := by rw [e84, va_up_ne _ _ (by omega)]; exact hc42
  replace hc0 : cs84 269 = .inr (12, [.int 0, .ref (gA G 270), .ref (gA G 271), .ref (gA G 272), .ref (gA G 273), .ref (gA G 274), .ref (gA G 275), .ref (gA G 276), .ref (gA G 277), .ref (gA G 278), .int 0, .int 0, .int 0, .int 0, .int 0, .long 0, .int 0, .int 0, .int 0, .ref (gA G 279), .ref (gA G 280), .int 0, .int 0, .int 0, .int 0, .int 0, .int 0, .int 0, .int 0, .int 0, .int 0, .ref (gA G 281), .ref (gA G 282), .ref (gA G 283), .ref (gA G 284), .ref (gA G 285), .ref (gA G 286), .ref (gA G 287), .ref (gA G 288), .ref (gA G 289), .ref (gA G 290), .ref (gA G 291), .ref (gA G 292), .ref (gA G 293), .ref (gA G 294), .ref (gA G 295), .ref (gA G 296), .ref (gA G 297), .ref (gA G 298), .ref (gA G 299), .ref (gA G 300), .ref (gA G 301), .ref (gA G 302), .ref (gA G 303), .int 0, .int 0, .int 0, .int 0, .int 0, .int 0, .ref (gA G 304), .ref (gA G 305), .int 0, .int 0, .int 0, .int 0, .int 0, .ref (gA G 306), .ref (gA G 307), .int 0, .ref (gA G 308), .int 0, .int 0, .ref (gA G 309), .ref (gA G 310), .ref (gA G 311), .int 0, .int 0, .int 0, .int 0, .int 0, .int 0, .null, .int 0, .int 0, .int 0, .int 0, .int 0, .int 0, .int 0, .int 0, .null]) := by rw [e84]; exact va_up_self _ _ _
  replace hlo : ∀ n, n < 269 → cs84 n = cs n := fun n a => by rw [e84, va_up_ne _ _ (by omega)] <;> exact hlo n a
  clear e84
  refine ry_aload_n 0 dX12_init_336 rfl rfl ?_
  refine ry_sipush (v := 1010) dX12_init_337 rfl ?_
  refine ry_newa (κ := 14) (n := 1010) (atype := .int) (ty := .int) (t0 := 1) rfl wa_int rfl (fun _ _ => Iff.rfl) rfl (by decide) rfl (by decide) (Nat.le_of_ble_eq_true rfl) (Nat.le_of_ble_eq_true rfl) dX12_init_340 ?_
  refine ry_cs (fun cs85 e85 => ?_)
  replace hc0 : cs85 269 = .inr (12, [.int 0, .ref (gA G 270), .ref (gA G 271), .ref (gA G 272), .ref (gA G 273), .ref (gA G 274), .ref (gA G 275), .ref (gA G 276), .ref (gA G 277), .ref (gA G 278), .int 0, .int 0, .int 0, .int 0, .int 0, .long 0, .int 0, .int 0, .int 0, .ref (gA G 279), .ref (gA G 280), .int 0, .int 0, .int 0, .int 0, .int 0, .int 0, .int 0, .int 0, .int 0, .int 0, .ref (gA G 281), .ref (gA G 282), .ref (gA G 283), .ref (gA G 284), .ref (gA G 285), .ref (gA G 286), .ref (gA G 287), .ref (gA G 288), .ref (gA G 289), .ref (gA G 290), .ref (gA G 291), .ref (gA G 292), .ref (gA G 293), .ref (gA G 294), .ref (gA G 295), .ref (gA G 296), .ref (gA G 297), .ref (gA G 298), .ref (gA G 299), .ref (gA G 300), .ref (gA G 301), .ref (gA G 302), .ref (gA G 303), .int 0, .int 0, .int 0, .int 0, .int 0, .int 0, .ref (gA G 304), .ref (gA G 305), .int 0, .int 0, .int 0, .int 0, .int 0, .ref (gA G 306), .ref (gA G 307), .int 0, .ref (gA G 308), .int 0, .int 0, .ref (gA G 309), .ref (gA G 310), .ref (gA G 311), .int 0, .int 0, .int 0, .int 0, .int 0, .int 0, .null, .int 0, .int 0, .int 0, .int 0, .int 0, .int 0, .int 0, .int 0, .null]) := by rw [e85, va_up_ne _ _ (by omega)]; exact hc0
  replace hc1 : cs85 270 = .inl (gY G 13, 2400, .inl (fun _ => 0)) := by rw [e85, va_up_ne _ _ (by omega)]; exact hc1
  replace hc2 : cs85 271 = .inl (gY G 14, 4, .inl (fun _ => 0)) := by rw [e85, va_up_ne _ _ (by omega)]; exact hc2
  replace hc3 : cs85 272 = .inl (gY G 14, 4, .inl (fun _ => 0)) := by rw [e85, va_up_ne _ _ (by omega)]; exact hc3
  replace hc4 : cs85 273 = .inl (gY G 14, 4, .inl (fun _ => 0)) := by rw [e85, va_up_ne _ _ (by omega)]; exact hc4
  replace hc5 : cs85 274 = .inl (gY G 14, 16, .inl (fun _ => 0)) := by rw [e85, va_up_ne _ _ (by omega)]; exact hc5
  replace hc6 : cs85 275 = .inl (gY G 14, 104, .inl (fun _ => 0)) := by rw [e85, va_up_ne _ _ (by omega)]; exact hc6
  replace hc7 : cs85 276 = .inl (gY G 14, 1072, .inl (fun _ => 0)) := by rw [e85, va_up_ne _ _ (by omega)]; exact hc7
  replace hc8 : cs85 277 = .inl (gY G 14, 968, .inl (fun _ => 0)) := by rw [e85, va_up_ne _ _ (by omega)]; exact hc8
  replace hc9 : cs85 278 = .inl (gY G 14, 136, .inl (fun _ => 0)) := by rw [e85, va_up_ne _ _ (by omega)]; exact hc9
  replace hc10 : cs85 279 = .inl (gY G 14, 134, .inl (fun _ => 0)) := by rw [e85, va_up_ne _ _ (by omega)]; exact hc10
  replace hc11 : cs85 280 = .inl (gY G 14, 3, .inl (fun _ => 0)) := by rw [e85, va_up_ne _ _ (by omega)]; exact hc11
  replace hc12 : cs85 281 = .inl (gY G 14, 10, .inl (fun _ => 0)) := by rw [e85, va_up_ne _ _ (by omega)]; exact hc12
  replace hc13 : cs85 282 = .inl (gY G 14, 10, .inl (fun _ => 0)) := by rw [e85, va_up_ne _ _ (by omega)]; exact hc13
  replace hc14 : cs85 283 = .inl (gY G 14, 10, .inl (fun _ => 0)) := by rw [e85, va_up_ne _ _ (by omega)]; exact hc14
  replace hc15 : cs85 284 = .inl (gY G 14, 10, .inl (fun _ => 0)) := by rw [e85, va_up_ne _ _ (by omega)]; exact hc15
  replace hc16 : cs85 285 = .inl (gY G 14, 10, .inl (fun _ => 0)) := by rw [e85, va_up_ne _ _ (by omega)]; exact hc16
  replace hc17 : cs85 286 = .inl (gY G 14, 4, .inl (fun _ => 0)) := by rw [e85, va_up_ne _ _ (by omega)]; exact hc17
  replace hc18 : cs85 287 = .inl (gY G 14, 4, .inl (fun _ => 0)) := by rw [e85, va_up_ne _ _ (by omega)]; exact hc18
  replace hc19 : cs85 288 = .inl (gY G 14, 4, .inl (fun _ => 0)) := by rw [e85, va_up_ne _ _ (by omega)]; exact hc19
  replace hc20 : cs85 289 = .inl (gY G 14, 4, .inl (fun _ => 0)) := by rw [e85, va_up_ne _ _ (by omega)]; exact hc20
  replace hc21 : cs85 290 = .inl (gY G 14, 4, .inl (fun _ => 0)) := by rw [e85, va_up_ne _ _ (by omega)]; exact hc21
  replace hc22 : cs85 291 = .inl (gY G 14, 4, .inl (fun _ => 0)) := by rw [e85, va_up_ne _ _ (by omega)]; exact hc22
  replace hc23 : cs85 292 = .inl (gY G 14, 40, .inl (fun _ => 0)) := by rw [e85, va_up_ne _ _ (by omega)]; exact hc23
  replace hc24 : cs85 293 = .inl (gY G 14, 40, .inl (fun _ => 0)) := by rw [e85, va_up_ne _ _ (by omega)]; exact hc24
  replace hc25 : cs85 294 = .inl (gY G 14, 40, .inl (fun _ => 0)) := by rw [e85, va_up_ne _ _ (by omega)]; exact hc25
  replace hc26 : cs85 295 = .inl (gY G 14, 64, .inl (fun _ => 0)) := by rw [e85, va_up_ne _ _ (by omega)]; exact hc26
  replace hc27 : cs85 296 = .inl (gY G 14, 64, .inl (fun _ => 0)) := by rw [e85, va_up_ne _ _ (by omega)]; exact hc27
  replace hc28 : cs85 297 = .inl (gY G 14, 64, .inl (fun _ => 0)) := by rw [e85, va_up_ne _ _ (by omega)]; exact hc28
  replace hc29 : cs85 298 = .inl (gY G 14, 64, .inl (fun _ => 0)) := by rw [e85, va_up_ne _ _ (by omega)]; exact hc29
  replace hc30 : cs85 299 = .inl (gY G 14, 64, .inl (fun _ => 0)) := by rw [e85, va_up_ne _ _ (by omega)]; exact hc30
  replace hc31 : cs85 300 = .inl (gY G 14, 64, .inl (fun _ => 0)) := by rw [e85, va_up_ne _ _ (by omega)]; exact hc31
  replace hc32 : cs85 301 = .inl (gY G 14, 64, .inl (fun _ => 0)) := by rw [e85, va_up_ne _ _ (by omega)]; exact hc32
  replace hc33 : cs85 302 = .inl (gY G 14, 64, .inl (fun _ => 0)) := by rw [e85, va_up_ne _ _ (by omega)]; exact hc33
  replace hc34 : cs85 303 = .inl (gY G 14, 640, .inl (fun _ => 0)) := by rw [e85, va_up_ne _ _ (by omega)]; exact hc34
  replace hc35 : cs85 304 = .inl (gY G 14, 7, .inl (fun _ => 0)) := by rw [e85, va_up_ne _ _ (by omega)]; exact hc35
  replace hc36 : cs85 305 = .inl (gY G 14, 10, .inl (fun _ => 0)) := by rw [e85, va_up_ne _ _ (by omega)]; exact hc36
  replace hc37 : cs85 306 = .inl (gY G 14, 10, .inl (fun _ => 0)) := by rw [e85, va_up_ne _ _ (by omega)]; exact hc37
  replace hc38 : cs85 307 = .inl (gY G 14, 10, .inl (fun _ => 0)) := by rw [e85, va_up_ne _ _ (by omega)]; exact hc38
  replace hc39 : cs85 308 = .inl (gY G 14, 64, .inl (fun _ => 0)) := by rw [e85, va_up_ne _ _ (by omega)]; exact hc39
  replace hc40 : cs85 309 = .inl (gY G 14, 10, .inl (fun _ => 0)) := by rw [e85, va_up_ne _ _ (by omega)]; exact hc40
  replace hc41 : cs85 310 = .inl (gY G 14, 6, .inl (fun _ => 0)) := by rw [e85, va_up_ne _ _ (by omega)]; exact hc41
  replace hc42 : cs85 311 = .inl (gY G 14, 6, .inl (fun _ => 0)) := by rw [e85, va_up_ne _ _ (by omega)]; exact hc42
  have hc43 : cs85 312 = .inl (gY G 14, 1010, .inl (fun _ => 0)) := by rw [e85]; exact va_up_self _ _ _
  replace hlo : ∀ n, n < 269 → cs85 n = cs n := fun n a => by rw [e85, va_up_ne _ _ (by omega)] <;> exact hlo n a
  clear e85
  refine ry_putF ff_X12_137 rfl (by omega) hc0 rfl rfl (nlt rfl) dX12_init_342 ?_
  refine ry_cs (fun cs86 e86 => ?_)
  replace hc1 : cs86 270 = .inl (gY G 13, 2400, .inl (fun _ => 0)) := by rw [e86, va_up_ne _ _ (by omega)]; exact hc1
  replace hc2 : cs86 271 = .inl (gY G 14, 4, .inl (fun _ => 0)) := by rw [e86, va_up_ne _ _ (by omega)]; exact hc2
  replace hc3 : cs86 272 = .inl (gY G 14, 4, .inl (fun _ => 0)) := by rw [e86, va_up_ne _ _ (by omega)]; exact hc3
  replace hc4 : cs86 273 = .inl (gY G 14, 4, .inl (fun _ => 0)) := by rw [e86, va_up_ne _ _ (by omega)]; exact hc4
  replace hc5 : cs86 274 = .inl (gY G 14, 16, .inl (fun _ => 0)) := by rw [e86, va_up_ne _ _ (by omega)]; exact hc5
  replace hc6 : cs86 275 = .inl (gY G 14, 104, .inl (fun _ => 0)) := by rw [e86, va_up_ne _ _ (by omega)]; exact hc6
  replace hc7 : cs86 276 = .inl (gY G 14, 1072, .inl (fun _ => 0)) := by rw [e86, va_up_ne _ _ (by omega)]; exact hc7
  replace hc8 : cs86 277 = .inl (gY G 14, 968, .inl (fun _ => 0)) := by rw [e86, va_up_ne _ _ (by omega)]; exact hc8
  replace hc9 : cs86 278 = .inl (gY G 14, 136, .inl (fun _ => 0)) := by rw [e86, va_up_ne _ _ (by omega)]; exact hc9
  replace hc10 : cs86 279 = .inl (gY G 14, 134, .inl (fun _ => 0)) := by rw [e86, va_up_ne _ _ (by omega)]; exact hc10
  replace hc11 : cs86 280 = .inl (gY G 14, 3, .inl (fun _ => 0)) := by rw [e86, va_up_ne _ _ (by omega)]; exact hc11
  replace hc12 : cs86 281 = .inl (gY G 14, 10, .inl (fun _ => 0)) := by rw [e86, va_up_ne _ _ (by omega)]; exact hc12
  replace hc13 : cs86 282 = .inl (gY G 14, 10, .inl (fun _ => 0)) := by rw [e86, va_up_ne _ _ (by omega)]; exact hc13
  replace hc14 : cs86 283 = .inl (gY G 14, 10, .inl (fun _ => 0)) := by rw [e86, va_up_ne _ _ (by omega)]; exact hc14
  replace hc15 : cs86 284 = .inl (gY G 14, 10, .inl (fun _ => 0)) := by rw [e86, va_up_ne _ _ (by omega)]; exact hc15
  replace hc16 : cs86 285 = .inl (gY G 14, 10, .inl (fun _ => 0)) := by rw [e86, va_up_ne _ _ (by omega)]; exact hc16
  replace hc17 : cs86 286 = .inl (gY G 14, 4, .inl (fun _ => 0)) := by rw [e86, va_up_ne _ _ (by omega)]; exact hc17
  replace hc18 : cs86 287 = .inl (gY G 14, 4, .inl (fun _ => 0)) := by rw [e86, va_up_ne _ _ (by omega)]; exact hc18
  replace hc19 : cs86 288 = .inl (gY G 14, 4, .inl (fun _ => 0)) := by rw [e86, va_up_ne _ _ (by omega)]; exact hc19
  replace hc20 : cs86 289 = .inl (gY G 14, 4, .inl (fun _ => 0)) := by rw [e86, va_up_ne _ _ (by omega)]; exact hc20
  replace hc21 : cs86 290 = .inl (gY G 14, 4, .inl (fun _ => 0)) := by rw [e86, va_up_ne _ _ (by omega)]; exact hc21
  replace hc22 : cs86 291 = .inl (gY G 14, 4, .inl (fun _ => 0)) := by rw [e86, va_up_ne _ _ (by omega)]; exact hc22
  replace hc23 : cs86 292 = .inl (gY G 14, 40, .inl (fun _ => 0)) := by rw [e86, va_up_ne _ _ (by omega)]; exact hc23
  replace hc24 : cs86 293 = .inl (gY G 14, 40, .inl (fun _ => 0)) := by rw [e86, va_up_ne _ _ (by omega)]; exact hc24
  replace hc25 : cs86 294 = .inl (gY G 14, 40, .inl (fun _ => 0)) := by rw [e86, va_up_ne _ _ (by omega)]; exact hc25
  replace hc26 : cs86 295 = .inl (gY G 14, 64, .inl (fun _ => 0)) := by rw [e86, va_up_ne _ _ (by omega)]; exact hc26
  replace hc27 : cs86 296 = .inl (gY G 14, 64, .inl (fun _ => 0)) := by rw [e86, va_up_ne _ _ (by omega)]; exact hc27
  replace hc28 : cs86 297 = .inl (gY G 14, 64, .inl (fun _ => 0)) := by rw [e86, va_up_ne _ _ (by omega)]; exact hc28
  replace hc29 : cs86 298 = .inl (gY G 14, 64, .inl (fun _ => 0)) := by rw [e86, va_up_ne _ _ (by omega)]; exact hc29
  replace hc30 : cs86 299 = .inl (gY G 14, 64, .inl (fun _ => 0)) := by rw [e86, va_up_ne _ _ (by omega)]; exact hc30
  replace hc31 : cs86 300 = .inl (gY G 14, 64, .inl (fun _ => 0)) := by rw [e86, va_up_ne _ _ (by omega)]; exact hc31
  replace hc32 : cs86 301 = .inl (gY G 14, 64, .inl (fun _ => 0)) := by rw [e86, va_up_ne _ _ (by omega)]; exact hc32
  replace hc33 : cs86 302 = .inl (gY G 14, 64, .inl (fun _ => 0)) := by rw [e86, va_up_ne _ _ (by omega)]; exact hc33
  replace hc34 : cs86 303 = .inl (gY G 14, 640, .inl (fun _ => 0)) := by rw [e86, va_up_ne _ _ (by omega)]; exact hc34
  replace hc35 : cs86 304 = .inl (gY G 14, 7, .inl (fun _ => 0)) := by rw [e86, va_up_ne _ _ (by omega)]; exact hc35
  replace hc36 : cs86 305 = .inl (gY G 14, 10, .inl (fun _ => 0)) := by rw [e86, va_up_ne _ _ (by omega)]; exact hc36
  replace hc37 : cs86 306 = .inl (gY G 14, 10, .inl (fun _ => 0)) := by rw [e86, va_up_ne _ _ (by omega)]; exact hc37
  replace hc38 : cs86 307 = .inl (gY G 14, 10, .inl (fun _ => 0)) := by rw [e86, va_up_ne _ _ (by omega)]; exact hc38
  replace hc39 : cs86 308 = .inl (gY G 14, 64, .inl (fun _ => 0)) := by rw [e86, va_up_ne _ _ (by omega)]; exact hc39
  replace hc40 : cs86 309 = .inl (gY G 14, 10, .inl (fun _ => 0)) := by rw [e86, va_up_ne _ _ (by omega)]; exact hc40
  replace hc41 : cs86 310 = .inl (gY G 14, 6, .inl (fun _ => 0)) := by rw [e86, va_up_ne _ _ (by omega)]; exact hc41
  replace hc42 : cs86 311 = .inl (gY G 14, 6, .inl (fun _ => 0)) := by rw [e86, va_up_ne _ _ (by omega)]; exact hc42
  replace hc43 : cs86 312 = .inl (gY G 14, 1010, .inl (fun _ => 0)) := by rw [e86, va_up_ne _ _ (by omega)]; exact hc43
  replace hc0 : cs86 269 = .inr (12, [.int 0, .ref (gA G 270), .ref (gA G 271), .ref (gA G 272), .ref (gA G 273), .ref (gA G 274), .ref (gA G 275), .ref (gA G 276), .ref (gA G 277), .ref (gA G 278), .int 0, .int 0, .int 0, .int 0, .int 0, .long 0, .int 0, .int 0, .int 0, .ref (gA G 279), .ref (gA G 280), .int 0, .int 0, .int 0, .int 0, .int 0, .int 0, .int 0, .int 0, .int 0, .int 0, .ref (gA G 281), .ref (gA G 282), .ref (gA G 283), .ref (gA G 284), .ref (gA G 285), .ref (gA G 286), .ref (gA G 287), .ref (gA G 288), .ref (gA G 289), .ref (gA G 290), .ref (gA G 291), .ref (gA G 292), .ref (gA G 293), .ref (gA G 294), .ref (gA G 295), .ref (gA G 296), .ref (gA G 297), .ref (gA G 298), .ref (gA G 299), .ref (gA G 300), .ref (gA G 301), .ref (gA G 302), .ref (gA G 303), .int 0, .int 0, .int 0, .int 0, .int 0, .int 0, .ref (gA G 304), .ref (gA G 305), .int 0, .int 0, .int 0, .int 0, .int 0, .ref (gA G 306), .ref (gA G 307), .int 0, .ref (gA G 308), .int 0, .int 0, .ref (gA G 309), .ref (gA G 310), .ref (gA G 311), .int 0, .int 0, .int 0, .int 0, .int 0, .int 0, .ref (gA G 312), .int 0, .int 0, .int 0, .int 0, .int 0, .int 0, .int 0, .int 0, .null]) := by rw [e86]; exact va_up_self _ _ _
  replace hlo : ∀ n, n < 269 → cs86 n = cs n := fun n a => by rw [e86, va_up_ne _ _ (by omega)] <;> exact hlo n a
  clear e86
  refine ry_aload_n 0 dX12_init_345 rfl rfl ?_
  refine ry_iconst (v := 3) dX12_init_346 rfl ?_
  refine ry_newa (κ := 15) (n := 3) (atype := .boolean) (ty := .boolean) (t0 := 2) rfl wa_boolean rfl (fun _ _ => Iff.rfl) rfl (by decide) rfl (by decide) (Nat.le_of_ble_eq_true rfl) (Nat.le_of_ble_eq_true rfl) dX12_init_347 ?_
  refine ry_cs (fun cs87 e87 => ?_)
  replace hc0 : cs87 269 = .inr (12, [.int 0, .ref (gA G 270), .ref (gA G 271), .ref (gA G 272), .ref (gA G 273), .ref (gA G 274), .ref (gA G 275), .ref (gA G 276), .ref (gA G 277), .ref (gA G 278), .int 0, .int 0, .int 0, .int 0, .int 0, .long 0, .int 0, .int 0, .int 0, .ref (gA G 279), .ref (gA G 280), .int 0, .int 0, .int 0, .int 0, .int 0, .int 0, .int 0, .int 0, .int 0, .int 0, .ref (gA G 281), .ref (gA G 282), .ref (gA G 283), .ref (gA G 284), .ref (gA G 285), .ref (gA G 286), .ref (gA G 287), .ref (gA G 288), .ref (gA G 289), .ref (gA G 290), .ref (gA G 291), .ref (gA G 292), .ref (gA G 293), .ref (gA G 294), .ref (gA G 295), .ref (gA G 296), .ref (gA G 297), .ref (gA G 298), .ref (gA G 299), .ref (gA G 300), .ref (gA G 301), .ref (gA G 302), .ref (gA G 303), .int 0, .int 0, .int 0, .int 0, .int 0, .int 0, .ref (gA G 304), .ref (gA G 305), .int 0, .int 0, .int 0, .int 0, .int 0, .ref (gA G 306), .ref (gA G 307), .int 0, .ref (gA G 308), .int 0, .int 0, .ref (gA G 309), .ref (gA G 310), .ref (gA G 311), .int 0, .int 0, .int 0, .int 0, .int 0, .int 0, .ref (gA G 312), .int 0, .int 0, .int 0, .int 0, .int 0, .int 0, .int 0, .int 0, .null]) := by rw [e87, va_up_ne _ _ (by omega)]; exact hc0
  replace hc1 : cs87 270 = .inl (gY G 13, 2400, .inl (fun _ => 0)) := by rw [e87, va_up_ne _ _ (by omega)]; exact hc1
  replace hc2 : cs87 271 = .inl (gY G 14, 4, .inl (fun _ => 0)) := by rw [e87, va_up_ne _ _ (by omega)]; exact hc2
  replace hc3 : cs87 272 = .inl (gY G 14, 4, .inl (fun _ => 0)) := by rw [e87, va_up_ne _ _ (by omega)]; exact hc3
  replace hc4 : cs87 273 = .inl (gY G 14, 4, .inl (fun _ => 0)) := by rw [e87, va_up_ne _ _ (by omega)]; exact hc4
  replace hc5 : cs87 274 = .inl (gY G 14, 16, .inl (fun _ => 0)) := by rw [e87, va_up_ne _ _ (by omega)]; exact hc5
  replace hc6 : cs87 275 = .inl (gY G 14, 104, .inl (fun _ => 0)) := by rw [e87, va_up_ne _ _ (by omega)]; exact hc6
  replace hc7 : cs87 276 = .inl (gY G 14, 1072, .inl (fun _ => 0)) := by rw [e87, va_up_ne _ _ (by omega)]; exact hc7
  replace hc8 : cs87 277 = .inl (gY G 14, 968, .inl (fun _ => 0)) := by rw [e87, va_up_ne _ _ (by omega)]; exact hc8
  replace hc9 : cs87 278 = .inl (gY G 14, 136, .inl (fun _ => 0)) := by rw [e87, va_up_ne _ _ (by omega)]; exact hc9
  replace hc10 : cs87 279 = .inl (gY G 14, 134, .inl (fun _ => 0)) := by rw [e87, va_up_ne _ _ (by omega)]; exact hc10
  replace hc11 : cs87 280 = .inl (gY G 14, 3, .inl (fun _ => 0)) := by rw [e87, va_up_ne _ _ (by omega)]; exact hc11
  replace hc12 : cs87 281 = .inl (gY G 14, 10, .inl (fun _ => 0)) := by rw [e87, va_up_ne _ _ (by omega)]; exact hc12
  replace hc13 : cs87 282 = .inl (gY G 14, 10, .inl (fun _ => 0)) := by rw [e87, va_up_ne _ _ (by omega)]; exact hc13
  replace hc14 : cs87 283 = .inl (gY G 14, 10, .inl (fun _ => 0)) := by rw [e87, va_up_ne _ _ (by omega)]; exact hc14
  replace hc15 : cs87 284 = .inl (gY G 14, 10, .inl (fun _ => 0)) := by rw [e87, va_up_ne _ _ (by omega)]; exact hc15
  replace hc16 : cs87 285 = .inl (gY G 14, 10, .inl (fun _ => 0)) := by rw [e87, va_up_ne _ _ (by omega)]; exact hc16
  replace hc17 : cs87 286 = .inl (gY G 14, 4, .inl (fun _ => 0)) := by rw [e87, va_up_ne _ _ (by omega)]; exact hc17
  replace hc18 : cs87 287 = .inl (gY G 14, 4, .inl (fun _ => 0)) := by rw [e87, va_up_ne _ _ (by omega)]; exact hc18
  replace hc19 : cs87 288 = .inl (gY G 14, 4, .inl (fun _ => 0)) := by rw [e87, va_up_ne _ _ (by omega)]; exact hc19
  replace hc20 : cs87 289 = .inl (gY G 14, 4, .inl (fun _ => 0)) := by rw [e87, va_up_ne _ _ (by omega)]; exact hc20
  replace hc21 : cs87 290 = .inl (gY G 14, 4, .inl (fun _ => 0)) := by rw [e87, va_up_ne _ _ (by omega)]; exact hc21
  replace hc22 : cs87 291 = .inl (gY G 14, 4, .inl (fun _ => 0)) := by rw [e87, va_up_ne _ _ (by omega)]; exact hc22
  replace hc23 : cs87 292 = .inl (gY G 14, 40, .inl (fun _ => 0)) := by rw [e87, va_up_ne _ _ (by omega)]; exact hc23
  replace hc24 : cs87 293 = .inl (gY G 14, 40, .inl (fun _ => 0)) := by rw [e87, va_up_ne _ _ (by omega)]; exact hc24
  replace hc25 : cs87 294 = .inl (gY G 14, 40, .inl (fun _ => 0)) := by rw [e87, va_up_ne _ _ (by omega)]; exact hc25
  replace hc26 : cs87 295 = .inl (gY G 14, 64, .inl (fun _ => 0)) := by rw [e87, va_up_ne _ _ (by omega)]; exact hc26
  replace hc27 : cs87 296 = .inl (gY G 14, 64, .inl (fun _ => 0)) := by rw [e87, va_up_ne _ _ (by omega)]; exact hc27
  replace hc28 : cs87 297 = .inl (gY G 14, 64, .inl (fun _ => 0)) := by rw [e87, va_up_ne _ _ (by omega)]; exact hc28
  replace hc29 : cs87 298 = .inl (gY G 14, 64, .inl (fun _ => 0)) := by rw [e87, va_up_ne _ _ (by omega)]; exact hc29
  replace hc30 : cs87 299 = .inl (gY G 14, 64, .inl (fun _ => 0)) := by rw [e87, va_up_ne _ _ (by omega)]; exact hc30
  replace hc31 : cs87 300 = .inl (gY G 14, 64, .inl (fun _ => 0)) := by rw [e87, va_up_ne _ _ (by omega)]; exact hc31
  replace hc32 : cs87 301 = .inl (gY G 14, 64, .inl (fun _ => 0)) := by rw [e87, va_up_ne _ _ (by omega)]; exact hc32
  replace hc33 : cs87 302 = .inl (gY G 14, 64, .inl (fun _ => 0)) := by rw [e87, va_up_ne _ _ (by omega)]; exact hc33
  replace hc34 : cs87 303 = .inl (gY G 14, 640, .inl (fun _ => 0)) := by rw [e87, va_up_ne _ _ (by omega)]; exact hc34
  replace hc35 : cs87 304 = .inl (gY G 14, 7, .inl (fun _ => 0)) := by rw [e87, va_up_ne _ _ (by omega)]; exact hc35
  replace hc36 : cs87 305 = .inl (gY G 14, 10, .inl (fun _ => 0)) := by rw [e87, va_up_ne _ _ (by omega)]; exact hc36
  replace hc37 : cs87 306 = .inl (gY G 14, 10, .inl (fun _ => 0)) := by rw [e87, va_up_ne _ _ (by omega)]; exact hc37
  replace hc38 : cs87 307 = .inl (gY G 14, 10, .inl (fun _ => 0)) := by rw [e87, va_up_ne _ _ (by omega)]; exact hc38
  replace hc39 : cs87 308 = .inl (gY G 14, 64, .inl (fun _ => 0)) := by rw [e87, va_up_ne _ _ (by omega)]; exact hc39
  replace hc40 : cs87 309 = .inl (gY G 14, 10, .inl (fun _ => 0)) := by rw [e87, va_up_ne _ _ (by omega)]; exact hc40
  replace hc41 : cs87 310 = .inl (gY G 14, 6, .inl (fun _ => 0)) := by rw [e87, va_up_ne _ _ (by omega)]; exact hc41
  replace hc42 : cs87 311 = .inl (gY G 14, 6, .inl (fun _ => 0)) := by rw [e87, va_up_ne _ _ (by omega)]; exact hc42
  replace hc43 : cs87 312 = .inl (gY G 14, 1010, .inl (fun _ => 0)) := by rw [e87, va_up_ne _ _ (by omega)]; exact hc43
  have hc44 : cs87 313 = .inl (gY G 15, 3, .inl (fun _ => 0)) := by rw [e87]; exact va_up_self _ _ _
  replace hlo : ∀ n, n < 269 → cs87 n = cs n := fun n a => by rw [e87, va_up_ne _ _ (by omega)] <;> exact hlo n a
  clear e87
  refine ry_putF ff_X12_140 rfl (by omega) hc0 rfl rfl (nlt rfl) dX12_init_349 ?_
  refine ry_cs (fun cs88 e88 => ?_)
  replace hc1 : cs88 270 = .inl (gY G 13, 2400, .inl (fun _ => 0)) := by rw [e88, va_up_ne _ _ (by omega)]; exact hc1
  replace hc2 : cs88 271 = .inl (gY G 14, 4, .inl (fun _ => 0)) := by rw [e88, va_up_ne _ _ (by omega)]; exact hc2
  replace hc3 : cs88 272 = .inl (gY G 14, 4, .inl (fun _ => 0)) := by rw [e88, va_up_ne _ _ (by omega)]; exact hc3
  replace hc4 : cs88 273 = .inl (gY G 14, 4, .inl (fun _ => 0)) := by rw [e88, va_up_ne _ _ (by omega)]; exact hc4
  replace hc5 : cs88 274 = .inl (gY G 14, 16, .inl (fun _ => 0)) := by rw [e88, va_up_ne _ _ (by omega)]; exact hc5
  replace hc6 : cs88 275 = .inl (gY G 14, 104, .inl (fun _ => 0)) := by rw [e88, va_up_ne _ _ (by omega)]; exact hc6
  replace hc7 : cs88 276 = .inl (gY G 14, 1072, .inl (fun _ => 0)) := by rw [e88, va_up_ne _ _ (by omega)]; exact hc7
  replace hc8 : cs88 277 = .inl (gY G 14, 968, .inl (fun _ => 0)) := by rw [e88, va_up_ne _ _ (by omega)]; exact hc8
  replace hc9 : cs88 278 = .inl (gY G 14, 136, .inl (fun _ => 0)) := by rw [e88, va_up_ne _ _ (by omega)]; exact hc9
  replace hc10 : cs88 279 = .inl (gY G 14, 134, .inl (fun _ => 0)) := by rw [e88, va_up_ne _ _ (by omega)]; exact hc10
  replace hc11 : cs88 280 = .inl (gY G 14, 3, .inl (fun _ => 0)) := by rw [e88, va_up_ne _ _ (by omega)]; exact hc11
  replace hc12 : cs88 281 = .inl (gY G 14, 10, .inl (fun _ => 0)) := by rw [e88, va_up_ne _ _ (by omega)]; exact hc12
  replace hc13 : cs88 282 = .inl (gY G 14, 10, .inl (fun _ => 0)) := by rw [e88, va_up_ne _ _ (by omega)]; exact hc13
  replace hc14 : cs88 283 = .inl (gY G 14, 10, .inl (fun _ => 0)) := by rw [e88, va_up_ne _ _ (by omega)]; exact hc14
  replace hc15 : cs88 284 = .inl (gY G 14, 10, .inl (fun _ => 0)) := by rw [e88, va_up_ne _ _ (by omega)]; exact hc15
  replace hc16 : cs88 285 = .inl (gY G 14, 10, .inl (fun _ => 0)) := by rw [e88, va_up_ne _ _ (by omega)]; exact hc16
  replace hc17 : cs88 286 = .inl (gY G 14, 4, .inl (fun _ => 0)) := by rw [e88, va_up_ne _ _ (by omega)]; exact hc17
  replace hc18 : cs88 287 = .inl (gY G 14, 4, .inl (fun _ => 0)) := by rw [e88, va_up_ne _ _ (by omega)]; exact hc18
  replace hc19 : cs88 288 = .inl (gY G 14, 4, .inl (fun _ => 0)) := by rw [e88, va_up_ne _ _ (by omega)]; exact hc19
  replace hc20 : cs88 289 = .inl (gY G 14, 4, .inl (fun _ => 0)) := by rw [e88, va_up_ne _ _ (by omega)]; exact hc20
  replace hc21 : cs88 290 = .inl (gY G 14, 4, .inl (fun _ => 0)) := by rw [e88, va_up_ne _ _ (by omega)]; exact hc21
  replace hc22 : cs88 291 = .inl (gY G 14, 4, .inl (fun _ => 0)) := by rw [e88, va_up_ne _ _ (by omega)]; exact hc22
  replace hc23 : cs88 292 = .inl (gY G 14, 40, .inl (fun _ => 0)) := by rw [e88, va_up_ne _ _ (by omega)]; exact hc23
  replace hc24 : cs88 293 = .inl (gY G 14, 40, .inl (fun _ => 0)) := by rw [e88, va_up_ne _ _ (by omega)]; exact hc24
  replace hc25 : cs88 294 = .inl (gY G 14, 40, .inl (fun _ => 0)) := by rw [e88, va_up_ne _ _ (by omega)]; exact hc25
  replace hc26 : cs88 295 = .inl (gY G 14, 64, .inl (fun _ => 0)) := by rw [e88, va_up_ne _ _ (by omega)]; exact hc26
  replace hc27 : cs88 296 = .inl (gY G 14, 64, .inl (fun _ => 0)) := by rw [e88, va_up_ne _ _ (by omega)]; exact hc27
  replace hc28 : cs88 297 = .inl (gY G 14, 64, .inl (fun _ => 0)) := by rw [e88, va_up_ne _ _ (by omega)]; exact hc28
  replace hc29 : cs88 298 = .inl (gY G 14, 64, .inl (fun _ => 0)) := by rw [e88, va_up_ne _ _ (by omega)]; exact hc29
  replace hc30 : cs88 299 = .inl (gY G 14, 64, .inl (fun _ => 0)) := by rw [e88, va_up_ne _ _ (by omega)]; exact hc30
  replace hc31 : cs88 300 = .inl (gY G 14, 64, .inl (fun _ => 0)) := by rw [e88, va_up_ne _ _ (by omega)]; exact hc31
  replace hc32 : cs88 301 = .inl (gY G 14, 64, .inl (fun _ => 0)) := by rw [e88, va_up_ne _ _ (by omega)]; exact hc32
  replace hc33 : cs88 302 = .inl (gY G 14, 64, .inl (fun _ => 0)) := by rw [e88, va_up_ne _ _ (by omega)]; exact hc33
  replace hc34 : cs88 303 = .inl (gY G 14, 640, .inl (fun _ => 0)) := by rw [e88, va_up_ne _ _ (by omega)]; exact hc34
  replace hc35 : cs88 304 = .inl (gY G 14, 7, .inl (fun _ => 0)) := by rw [e88, va_up_ne _ _ (by omega)]; exact hc35
  replace hc36 : cs88 305 = .inl (gY G 14, 10, .inl (fun _ => 0)) := by rw [e88, va_up_ne _ _ (by omega)]; exact hc36
  replace hc37 : cs88 306 = .inl (gY G 14, 10, .inl (fun _ => 0)) := by rw [e88, va_up_ne _ _ (by omega)]; exact hc37
  replace hc38 : cs88 307 = .inl (gY G 14, 10, .inl (fun _ => 0)) := by rw [e88, va_up_ne _ _ (by omega)]; exact hc38
  replace hc39 : cs88 308 = .inl (gY G 14, 64, .inl (fun _ => 0)) := by rw [e88, va_up_ne _ _ (by omega)]; exact hc39
  replace hc40 : cs88 309 = .inl (gY G 14, 10, .inl (fun _ => 0)) := by rw [e88, va_up_ne _ _ (by omega)]; exact hc40
  replace hc41 : cs88 310 = .inl (gY G 14, 6, .inl (fun _ => 0)) := by rw [e88, va_up_ne _ _ (by omega)]; exact hc41
  replace hc42 : cs88 311 = .inl (gY G 14, 6, .inl (fun _ => 0)) := by rw [e88, va_up_ne _ _ (by omega)]; exact hc42
  replace hc43 : cs88 312 = .inl (gY G 14, 1010, .inl (fun _ => 0)) := by rw [e88, va_up_ne _ _ (by omega)]; exact hc43
  replace hc44 : cs88 313 = .inl (gY G 15, 3, .inl (fun _ => 0)) := by rw [e88, va_up_ne _ _ (by omega)]; exact hc44
  replace hc0 : cs88 269 = .inr (12, [.int 0, .ref (gA G 270), .ref (gA G 271), .ref (gA G 272), .ref (gA G 273), .ref (gA G 274), .ref (gA G 275), .ref (gA G 276), .ref (gA G 277), .ref (gA G 278), .int 0, .int 0, .int 0, .int 0, .int 0, .long 0, .int 0, .int 0, .int 0, .ref (gA G 279), .ref (gA G 280), .int 0, .int 0, .int 0, .int 0, .int 0, .int 0, .int 0, .int 0, .int 0, .int 0, .ref (gA G 281), .ref (gA G 282), .ref (gA G 283), .ref (gA G 284), .ref (gA G 285), .ref (gA G 286), .ref (gA G 287), .ref (gA G 288), .ref (gA G 289), .ref (gA G 290), .ref (gA G 291), .ref (gA G 292), .ref (gA G 293), .ref (gA G 294), .ref (gA G 295), .ref (gA G 296), .ref (gA G 297), .ref (gA G 298), .ref (gA G 299), .ref (gA G 300), .ref (gA G 301), .ref (gA G 302), .ref (gA G 303), .int 0, .int 0, .int 0, .int 0, .int 0, .int 0, .ref (gA G 304), .ref (gA G 305), .int 0, .int 0, .int 0, .int 0, .int 0, .ref (gA G 306), .ref (gA G 307), .int 0, .ref (gA G 308), .int 0, .int 0, .ref (gA G 309), .ref (gA G 310), .ref (gA G 311), .int 0, .int 0, .int 0, .int 0, .int 0, .int 0, .ref (gA G 312), .int 0, .int 0, .int 0, .int 0, .int 0, .int 0, .int 0, .int 0, .ref (gA G 313)]) := by rw [e88]; exact va_up_self _ _ _
  replace hlo : ∀ n, n < 269 → cs88 n = cs n := fun n a => by rw [e88, va_up_ne _ _ (by omega)] <;> exact hlo n a
  clear e88
  refine ry_aload_n 0 dX12_init_352 rfl rfl ?_
  refine ry_get fl_X12_20 (by omega) hc0 rfl dX12_init_353 ?_
  refine ry_iconst (v := 0) dX12_init_356 rfl ?_
  refine ry_iconst (v := -1) dX12_init_357 rfl ?_
  refine ry_iast (j := 0) (by omega) hc4 (by decide) rfl dX12_init_358 ?_
  refine ry_cs (fun cs89 e89 => ?_)
  replace hc0 : cs89 269 = .inr (12, [.int 0, .ref (gA G 270), .ref (gA G 271), .ref (gA G 272), .ref (gA G 273), .ref (gA G 274), .ref (gA G 275), .ref (gA G 276), .ref (gA G 277), .ref (gA G 278), .int 0, .int 0, .int 0, .int 0, .int 0, .long 0, .int 0, .int 0, .int 0, .ref (gA G 279), .ref (gA G 280), .int 0, .int 0, .int 0, .int 0, .int 0, .int 0, .int 0, .int 0, .int 0, .int 0, .ref (gA G 281), .ref (gA G 282), .ref (gA G 283), .ref (gA G 284), .ref (gA G 285), .ref (gA G 286), .ref (gA G 287), .ref (gA G 288), .ref (gA G 289), .ref (gA G 290), .ref (gA G 291), .ref (gA G 292), .ref (gA G 293), .ref (gA G 294), .ref (gA G 295), .ref (gA G 296), .ref (gA G 297), .ref (gA G 298), .ref (gA G 299), .ref (gA G 300), .ref (gA G 301), .ref (gA G 302), .ref (gA G 303), .int 0, .int 0, .int 0, .int 0, .int 0, .int 0, .ref (gA G 304), .ref (gA G 305), .int 0, .int 0, .int 0, .int 0, .int 0, .ref (gA G 306), .ref (gA G 307), .int 0, .ref (gA G 308), .int 0, .int 0, .ref (gA G 309), .ref (gA G 310), .ref (gA G 311), .int 0, .int 0, .int 0, .int 0, .int 0, .int 0, .ref (gA G 312), .int 0, .int 0, .int 0, .int 0, .int 0, .int 0, .int 0, .int 0, .ref (gA G 313)]) := by rw [e89, va_up_ne _ _ (by omega)]; exact hc0
  replace hc1 : cs89 270 = .inl (gY G 13, 2400, .inl (fun _ => 0)) := by rw [e89, va_up_ne _ _ (by omega)]; exact hc1
  replace hc2 : cs89 271 = .inl (gY G 14, 4, .inl (fun _ => 0)) := by rw [e89, va_up_ne _ _ (by omega)]; exact hc2
  replace hc3 : cs89 272 = .inl (gY G 14, 4, .inl (fun _ => 0)) := by rw [e89, va_up_ne _ _ (by omega)]; exact hc3
  replace hc5 : cs89 274 = .inl (gY G 14, 16, .inl (fun _ => 0)) := by rw [e89, va_up_ne _ _ (by omega)]; exact hc5
  replace hc6 : cs89 275 = .inl (gY G 14, 104, .inl (fun _ => 0)) := by rw [e89, va_up_ne _ _ (by omega)]; exact hc6
  replace hc7 : cs89 276 = .inl (gY G 14, 1072, .inl (fun _ => 0)) := by rw [e89, va_up_ne _ _ (by omega)]; exact hc7
  replace hc8 : cs89 277 = .inl (gY G 14, 968, .inl (fun _ => 0)) := by rw [e89, va_up_ne _ _ (by omega)]; exact hc8
  replace hc9 : cs89 278 = .inl (gY G 14, 136, .inl (fun _ => 0)) := by rw [e89, va_up_ne _ _ (by omega)]; exact hc9
  replace hc10 : cs89 279 = .inl (gY G 14, 134, .inl (fun _ => 0)) := by rw [e89, va_up_ne _ _ (by omega)]; exact hc10
  replace hc11 : cs89 280 = .inl (gY G 14, 3, .inl (fun _ => 0)) := by rw [e89, va_up_ne _ _ (by omega)]; exact hc11
  replace hc12 : cs89 281 = .inl (gY G 14, 10, .inl (fun _ => 0)) := by rw [e89, va_up_ne _ _ (by omega)]; exact hc12
  replace hc13 : cs89 282 = .inl (gY G 14, 10, .inl (fun _ => 0)) := by rw [e89, va_up_ne _ _ (by omega)]; exact hc13
  replace hc14 : cs89 283 = .inl (gY G 14, 10, .inl (fun _ => 0)) := by rw [e89, va_up_ne _ _ (by omega)]; exact hc14
  replace hc15 : cs89 284 = .inl (gY G 14, 10, .inl (fun _ => 0)) := by rw [e89, va_up_ne _ _ (by omega)]; exact hc15
  replace hc16 : cs89 285 = .inl (gY G 14, 10, .inl (fun _ => 0)) := by rw [e89, va_up_ne _ _ (by omega)]; exact hc16
  replace hc17 : cs89 286 = .inl (gY G 14, 4, .inl (fun _ => 0)) := by rw [e89, va_up_ne _ _ (by omega)]; exact hc17
  replace hc18 : cs89 287 = .inl (gY G 14, 4, .inl (fun _ => 0)) := by rw [e89, va_up_ne _ _ (by omega)]; exact hc18
  replace hc19 : cs89 288 = .inl (gY G 14, 4, .inl (fun _ => 0)) := by rw [e89, va_up_ne _ _ (by omega)]; exact hc19
  replace hc20 : cs89 289 = .inl (gY G 14, 4, .inl (fun _ => 0)) := by rw [e89, va_up_ne _ _ (by omega)]; exact hc20
  replace hc21 : cs89 290 = .inl (gY G 14, 4, .inl (fun _ => 0)) := by rw [e89, va_up_ne _ _ (by omega)]; exact hc21
  replace hc22 : cs89 291 = .inl (gY G 14, 4, .inl (fun _ => 0)) := by rw [e89, va_up_ne _ _ (by omega)]; exact hc22
  replace hc23 : cs89 292 = .inl (gY G 14, 40, .inl (fun _ => 0)) := by rw [e89, va_up_ne _ _ (by omega)]; exact hc23
  replace hc24 : cs89 293 = .inl (gY G 14, 40, .inl (fun _ => 0)) := by rw [e89, va_up_ne _ _ (by omega)]; exact hc24
  replace hc25 : cs89 294 = .inl (gY G 14, 40, .inl (fun _ => 0)) := by rw [e89, va_up_ne _ _ (by omega)]; exact hc25
  replace hc26 : cs89 295 = .inl (gY G 14, 64, .inl (fun _ => 0)) := by rw [e89, va_up_ne _ _ (by omega)]; exact hc26
  replace hc27 : cs89 296 = .inl (gY G 14, 64, .inl (fun _ => 0)) := by rw [e89, va_up_ne _ _ (by omega)]; exact hc27
  replace hc28 : cs89 297 = .inl (gY G 14, 64, .inl (fun _ => 0)) := by rw [e89, va_up_ne _ _ (by omega)]; exact hc28
  replace hc29 : cs89 298 = .inl (gY G 14, 64, .inl (fun _ => 0)) := by rw [e89, va_up_ne _ _ (by omega)]; exact hc29
  replace hc30 : cs89 299 = .inl (gY G 14, 64, .inl (fun _ => 0)) := by rw [e89, va_up_ne _ _ (by omega)]; exact hc30
  replace hc31 : cs89 300 = .inl (gY G 14, 64, .inl (fun _ => 0)) := by rw [e89, va_up_ne _ _ (by omega)]; exact hc31
  replace hc32 : cs89 301 = .inl (gY G 14, 64, .inl (fun _ => 0)) := by rw [e89, va_up_ne _ _ (by omega)]; exact hc32
  replace hc33 : cs89 302 = .inl (gY G 14, 64, .inl (fun _ => 0)) := by rw [e89, va_up_ne _ _ (by omega)]; exact hc33
  replace hc34 : cs89 303 = .inl (gY G 14, 640, .inl (fun _ => 0)) := by rw [e89, va_up_ne _ _ (by omega)]; exact hc34
  replace hc35 : cs89 304 = .inl (gY G 14, 7, .inl (fun _ => 0)) := by rw [e89, va_up_ne _ _ (by omega)]; exact hc35
  replace hc36 : cs89 305 = .inl (gY G 14, 10, .inl (fun _ => 0)) := by rw [e89, va_up_ne _ _ (by omega)]; exact hc36
  replace hc37 : cs89 306 = .inl (gY G 14, 10, .inl (fun _ => 0)) := by rw [e89, va_up_ne _ _ (by omega)]; exact hc37
  replace hc38 : cs89 307 = .inl (gY G 14, 10, .inl (fun _ => 0)) := by rw [e89, va_up_ne _ _ (by omega)]; exact hc38
  replace hc39 : cs89 308 = .inl (gY G 14, 64, .inl (fun _ => 0)) := by rw [e89, va_up_ne _ _ (by omega)]; exact hc39
  replace hc40 : cs89 309 = .inl (gY G 14, 10, .inl (fun _ => 0)) := by rw [e89, va_up_ne _ _ (by omega)]; exact hc40
  replace hc41 : cs89 310 = .inl (gY G 14, 6, .inl (fun _ => 0)) := by rw [e89, va_up_ne _ _ (by omega)]; exact hc41
  replace hc42 : cs89 311 = .inl (gY G 14, 6, .inl (fun _ => 0)) := by rw [e89, va_up_ne _ _ (by omega)]; exact hc42
  replace hc43 : cs89 312 = .inl (gY G 14, 1010, .inl (fun _ => 0)) := by rw [e89, va_up_ne _ _ (by omega)]; exact hc43
  replace hc44 : cs89 313 = .inl (gY G 15, 3, .inl (fun _ => 0)) := by rw [e89, va_up_ne _ _ (by omega)]; exact hc44
  replace hc4 : cs89 273 = .inl (gY G 14, 4, .inl (upd (fun _ => 0) 0 (-1))) := by rw [e89]; exact va_up_self _ _ _
  replace hlo : ∀ n, n < 269 → cs89 n = cs n := fun n a => by rw [e89, va_up_ne _ _ (by omega)] <;> exact hlo n a
  clear e89
  refine ry_ret dX12_init_359 ⟨by omega, hlo, fun n a b => ?_⟩
  rcases (show n = 269 ∨ n = 270 ∨ n = 271 ∨ n = 272 ∨ n = 273 ∨ n = 274 ∨ n = 275 ∨ n = 276 ∨ n = 277 ∨ n = 278 ∨ n = 279 ∨ n = 280 ∨ n = 281 ∨ n = 282 ∨ n = 283 ∨ n = 284 ∨ n = 285 ∨ n = 286 ∨ n = 287 ∨ n = 288 ∨ n = 289 ∨ n = 290 ∨ n = 291 ∨ n = 292 ∨ n = 293 ∨ n = 294 ∨ n = 295 ∨ n = 296 ∨ n = 297 ∨ n = 298 ∨ n = 299 ∨ n = 300 ∨ n = 301 ∨ n = 302 ∨ n = 303 ∨ n = 304 ∨ n = 305 ∨ n = 306 ∨ n = 307 ∨ n = 308 ∨ n = 309 ∨ n = 310 ∨ n = 311 ∨ n = 312 ∨ n = 313 by omega) with rfl | rfl | rfl | rfl | rfl | rfl | rfl | rfl | rfl | rfl | rfl | rfl | rfl | rfl | rfl | rfl | rfl | rfl | rfl | rfl | rfl | rfl | rfl | rfl | rfl | rfl | rfl | rfl | rfl | rfl | rfl | rfl | rfl | rfl | rfl | rfl | rfl | rfl | rfl | rfl | rfl | rfl | rfl | rfl | rfl
  · rw [hc0]; exact (fyj_12_0).symm
  · rw [hc1]; exact (fyj_12_1).symm
  · rw [hc2]; exact (fyj_12_2).symm
  · rw [hc3]; exact (fyj_12_3).symm
  · rw [hc4]; exact (fyj_12_4).symm
  · rw [hc5]; exact (fyj_12_5).symm
  · rw [hc6]; exact (fyj_12_6).symm
  · rw [hc7]; exact (fyj_12_7).symm
  · rw [hc8]; exact (fyj_12_8).symm
  · rw [hc9]; exact (fyj_12_9).symm
  · rw [hc10]; exact (fyj_12_10).symm
  · rw [hc11]; exact (fyj_12_11).symm
  · rw [hc12]; exact (fyj_12_12).symm
  · rw [hc13]; exact (fyj_12_13).symm
  · rw [hc14]; exact (fyj_12_14).symm
  · rw [hc15]; exact (fyj_12_15).symm
  · rw [hc16]; exact (fyj_12_16).symm
  · rw [hc17]; exact (fyj_12_17).symm
  · rw [hc18]; exact (fyj_12_18).symm
  · rw [hc19]; exact (fyj_12_19).symm
  · rw [hc20]; exact (fyj_12_20).symm
  · rw [hc21]; exact (fyj_12_21).symm
  · rw [hc22]; exact (fyj_12_22).symm
  · rw [hc23]; exact (fyj_12_23).symm
  · rw [hc24]; exact (fyj_12_24).symm
  · rw [hc25]; exact (fyj_12_25).symm
  · rw [hc26]; exact (fyj_12_26).symm
  · rw [hc27]; exact (fyj_12_27).symm
  · rw [hc28]; exact (fyj_12_28).symm
  · rw [hc29]; exact (fyj_12_29).symm
  · rw [hc30]; exact (fyj_12_30).symm
  · rw [hc31]; exact (fyj_12_31).symm
  · rw [hc32]; exact (fyj_12_32).symm
  · rw [hc33]; exact (fyj_12_33).symm
  · rw [hc34]; exact (fyj_12_34).symm
  · rw [hc35]; exact (fyj_12_35).symm
  · rw [hc36]; exact (fyj_12_36).symm
  · rw [hc37]; exact (fyj_12_37).symm
  · rw [hc38]; exact (fyj_12_38).symm
  · rw [hc39]; exact (fyj_12_39).symm
  · rw [hc40]; exact (fyj_12_40).symm
  · rw [hc41]; exact (fyj_12_41).symm
  · rw [hc42]; exact (fyj_12_42).symm
  · rw [hc43]; exact (fyj_12_43).symm
  · rw [hc44]; exact (fyj_12_44).symm
