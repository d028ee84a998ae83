/-! ===== the constructors ===== -/
set_option maxRecDepth 20000 in
theorem kX1_init (G : GT) (d : Nat) {t : Nat} (hk : Is t 1) {cs : Nat → va_E} (hc0 : cs t = .inr (1, [.int 0, .null, .null])) : SpecY G yX1_init cX1_init 1 (d + 1) 2 16 [.ref (gA G t)] (t + 1) cs (Kc G t 3 cs) := by
  refine ry_spec (by decide) (Nat.le_of_ble_eq_true rfl) ?_
  have hlo : ∀ n, n < t → cs n = cs n := fun _ _ => rfl
  have htN := hk.1
  show RunY G RX1 "<init>" cX1_init 1 none _ 0 0 0 [(0, .ref (gA G t))] [] (t + 1) cs
  refine ry_aload_n 0 dX1_init_0 rfl rfl ?_
  refine ry_objInit wm_X1_3 w_oi w_oc (show 1 ≤ d + 1 by omega) (show 30 ≤ 30 * (d + 1) by omega) rfl dX1_init_1 ?_
  refine ry_aload_n 0 dX1_init_4 rfl rfl ?_
  refine ry_bipush (v := 8) dX1_init_5 rfl ?_
  refine ry_newa (κ := 14) (n := 8) (atype := .int) (ty := .int) (t0 := 1) rfl wa_int rfl (fun _ _ => Iff.rfl) rfl (by decide) rfl (by decide) (Nat.le_of_ble_eq_true rfl) (Nat.le_of_ble_eq_true rfl) dX1_init_7 ?_
  refine ry_cs (fun cs1 e1 => ?_)
  have hc0 : cs1 t = .inr (1, [.int 0, .null, .null]) := by rw [e1, va_up_ne _ _ (by omega)]; exact hc0
  have hc1 : cs1 (t + 1) = .inl (gY G 14, 8, .inl (fun _ => 0)) := by rw [e1]; exact va_up_self _ _ _
  have hlo : ∀ n, n < t → cs1 n = cs n := fun n a => by rw [e1, va_up_ne _ _ (by omega)] <;> exact hlo n a
  clear e1
  refine ry_putF ff_X1_9 rfl (by omega) hc0 rfl rfl (nlt rfl) dX1_init_9 ?_
  refine ry_cs (fun cs2 e2 => ?_)
  have hc1 : cs2 (t + 1) = .inl (gY G 14, 8, .inl (fun _ => 0)) := by rw [e2, va_up_ne _ _ (by omega)]; exact hc1
  have hc0 : cs2 t = .inr (1, [.int 0, .ref (gA G (t + 1)), .null]) := by rw [e2]; exact va_up_self _ _ _
  have hlo : ∀ n, n < t → cs2 n = cs n := fun n a => by rw [e2, va_up_ne _ _ (by omega)] <;> exact hlo n a
  clear e2
  refine ry_aload_n 0 dX1_init_12 rfl rfl ?_
  refine ry_bipush (v := 8) dX1_init_13 rfl ?_
  refine ry_newa (κ := 14) (n := 8) (atype := .int) (ty := .int) (t0 := 1) rfl wa_int rfl (fun _ _ => Iff.rfl) rfl (by decide) rfl (by decide) (Nat.le_of_ble_eq_true rfl) (Nat.le_of_ble_eq_true rfl) dX1_init_15 ?_
  refine ry_cs (fun cs3 e3 => ?_)
  have hc0 : cs3 t = .inr (1, [.int 0, .ref (gA G (t + 1)), .null]) := by rw [e3, va_up_ne _ _ (by omega)]; exact hc0
  have hc1 : cs3 (t + 1) = .inl (gY G 14, 8, .inl (fun _ => 0)) := by rw [e3, va_up_ne _ _ (by omega)]; exact hc1
  have hc2 : cs3 (t + 2) = .inl (gY G 14, 8, .inl (fun _ => 0)) := by rw [e3]; exact va_up_self _ _ _
  have hlo : ∀ n, n < t → cs3 n = cs n := fun n a => by rw [e3, va_up_ne _ _ (by omega)] <;> exact hlo n a
  clear e3
  refine ry_putF ff_X1_15 rfl (by omega) hc0 rfl rfl (nlt rfl) dX1_init_17 ?_
  refine ry_cs (fun cs4 e4 => ?_)
  have hc1 : cs4 (t + 1) = .inl (gY G 14, 8, .inl (fun _ => 0)) := by rw [e4, va_up_ne _ _ (by omega)]; exact hc1
  have hc2 : cs4 (t + 2) = .inl (gY G 14, 8, .inl (fun _ => 0)) := by rw [e4, va_up_ne _ _ (by omega)]; exact hc2
  have hc0 : cs4 t = .inr (1, [.int 0, .ref (gA G (t + 1)), .ref (gA G (t + 2))]) := by rw [e4]; exact va_up_self _ _ _
  have hlo : ∀ n, n < t → cs4 n = cs n := fun n a => by rw [e4, va_up_ne _ _ (by omega)] <;> exact hlo n a
  clear e4
  refine ry_ret dX1_init_20 ⟨by omega, hlo, fun n a b => ?_⟩
  rcases (show n = t ∨ n = (t + 1) ∨ n = (t + 2) by omega) with rfl | rfl | rfl
  · rw [hc0]; exact (fyj_1_0 hk).symm
  · rw [hc1]; exact (fyj_1_1 hk).symm
  · rw [hc2]; exact (fyj_1_2 hk).symm
set_option maxRecDepth 20000 in
theorem kX2_init (G : GT) (d : Nat) {t : Nat} (hk : Is t 2) {cs : Nat → va_E} (hc0 : cs t = .inr (2, [.int 0, .int 0, .int 0, .int 0, .int 0, .int 0, .int 0, .int 0, .int 0, .int 0, .null])) : SpecY G yX2_init cX2_init 1 (d + 1) 1 10 [.ref (gA G t)] (t + 1) cs (Kc G t 2 cs) := by
  refine ry_spec (by decide) (Nat.le_of_ble_eq_true rfl) ?_
  have hlo : ∀ n, n < t → cs n = cs n := fun _ _ => rfl
  have htN := hk.1
  show RunY G RX2 "<init>" cX2_init 1 none _ 0 0 0 [(0, .ref (gA G t))] [] (t + 1) cs
  refine ry_aload_n 0 dX2_init_0 rfl rfl ?_
  refine ry_objInit wm_X2_3 w_oi w_oc (show 1 ≤ d + 1 by omega) (show 30 ≤ 30 * (d + 1) by omega) rfl dX2_init_1 ?_
  refine ry_aload_n 0 dX2_init_4 rfl rfl ?_
  refine ry_bipush (v := 10) dX2_init_5 rfl ?_
  refine ry_newa (κ := 14) (n := 10) (atype := .int) (ty := .int) (t0 := 1) rfl wa_int rfl (fun _ _ => Iff.rfl) rfl (by decide) rfl (by decide) (Nat.le_of_ble_eq_true rfl) (Nat.le_of_ble_eq_true rfl) dX2_init_7 ?_
  refine ry_cs (fun cs1 e1 => ?_)
  have hc0 : cs1 t = .inr (2, [.int 0, .int 0, .int 0, .int 0, .int 0, .int 0, .int 0, .int 0, .int 0, .int 0, .null]) := by rw [e1, va_up_ne _ _ (by omega)]; exact hc0
  have hc1 : cs1 (t + 1) = .inl (gY G 14, 10, .inl (fun _ => 0)) := by rw [e1]; exact va_up_self _ _ _
  have hlo : ∀ n, n < t → cs1 n = cs n := fun n a => by rw [e1, va_up_ne _ _ (by omega)] <;> exact hlo n a
  clear e1
  refine ry_putF ff_X2_9 rfl (by omega) hc0 rfl rfl (nlt rfl) dX2_init_9 ?_
  refine ry_cs (fun cs2 e2 => ?_)
  have hc1 : cs2 (t + 1) = .inl (gY G 14, 10, .inl (fun _ => 0)) := by rw [e2, va_up_ne _ _ (by omega)]; exact hc1
  have hc0 : cs2 t = .inr (2, [.int 0, .int 0, .int 0, .int 0, .int 0, .int 0, .int 0, .int 0, .int 0, .int 0, .ref (gA G (t + 1))]) := by rw [e2]; exact va_up_self _ _ _
  have hlo : ∀ n, n < t → cs2 n = cs n := fun n a => by rw [e2, va_up_ne _ _ (by omega)] <;> exact hlo n a
  clear e2
  refine ry_ret dX2_init_12 ⟨by omega, hlo, fun n a b => ?_⟩
  rcases (show n = t ∨ n = (t + 1) by omega) with rfl | rfl
  · rw [hc0]; exact (fyj_2_0 hk).symm
  · rw [hc1]; exact (fyj_2_1 hk).symm
set_option maxRecDepth 20000 in
theorem kX4_init (G : GT) (d : Nat) {t : Nat} (hk : Is t 4) {cs : Nat → va_E} (hc0 : cs t = .inr (4, [.int 0, .null, .null, .null])) : SpecY G yX4_init cX4_init 1 (d + 1) 3 120 [.ref (gA G t)] (t + 1) cs (Kc G t 4 cs) := by
  refine ry_spec (by decide) (Nat.le_of_ble_eq_true rfl) ?_
  have hlo : ∀ n, n < t → cs n = cs n := fun _ _ => rfl
  have htN := hk.1
  show RunY G RX4 "<init>" cX4_init 1 none _ 0 0 0 [(0, .ref (gA G t))] [] (t + 1) cs
  refine ry_aload_n 0 dX4_init_0 rfl rfl ?_
  refine ry_objInit wm_X4_3 w_oi w_oc (show 1 ≤ d + 1 by omega) (show 30 ≤ 30 * (d + 1) by omega) rfl dX4_init_1 ?_
  refine ry_aload_n 0 dX4_init_4 rfl rfl ?_
  refine ry_bipush (v := 40) dX4_init_5 rfl ?_
  refine ry_newa (κ := 14) (n := 40) (atype := .int) (ty := .int) (t0 := 1) rfl wa_int rfl (fun _ _ => Iff.rfl) rfl (by decide) rfl (by decide) (Nat.le_of_ble_eq_true rfl) (Nat.le_of_ble_eq_true rfl) dX4_init_7 ?_
  refine ry_cs (fun cs1 e1 => ?_)
  have hc0 : cs1 t = .inr (4, [.int 0, .null, .null, .null]) := by rw [e1, va_up_ne _ _ (by omega)]; exact hc0
  have hc1 : cs1 (t + 1) = .inl (gY G 14, 40, .inl (fun _ => 0)) := by rw [e1]; exact va_up_self _ _ _
  have hlo : ∀ n, n < t → cs1 n = cs n := fun n a => by rw [e1, va_up_ne _ _ (by omega)] <;> exact hlo n a
  clear e1
  refine ry_putF ff_X4_9 rfl (by omega) hc0 rfl rfl (nlt rfl) dX4_init_9 ?_
  refine ry_cs (fun cs2 e2 => ?_)
  have hc1 : cs2 (t + 1) = .inl (gY G 14, 40, .inl (fun _ => 0)) := by rw [e2, va_up_ne _ _ (by omega)]; exact hc1
  have hc0 : cs2 t = .inr (4, [.int 0, .ref (gA G (t + 1)), .null, .null]) := by rw [e2]; exact va_up_self _ _ _
  have hlo : ∀ n, n < t → cs2 n = cs n := fun n a => by rw [e2, va_up_ne _ _ (by omega)] <;> exact hlo n a
  clear e2
  refine ry_aload_n 0 dX4_init_12 rfl rfl ?_
  refine ry_bipush (v := 40) dX4_init_13 rfl ?_
  refine ry_newa (κ := 14) (n := 40) (atype := .int) (ty := .int) (t0 := 1) rfl wa_int rfl (fun _ _ => Iff.rfl) rfl (by decide) rfl (by decide) (Nat.le_of_ble_eq_true rfl) (Nat.le_of_ble_eq_true rfl) dX4_init_15 ?_
  refine ry_cs (fun cs3 e3 => ?_)
  have hc0 : cs3 t = .inr (4, [.int 0, .ref (gA G (t + 1)), .null, .null]) := by rw [e3, va_up_ne _ _ (by omega)]; exact hc0
  have hc1 : cs3 (t + 1) = .inl (gY G 14, 40, .inl (fun _ => 0)) := by rw [e3, va_up_ne _ _ (by omega)]; exact hc1
  have hc2 : cs3 (t + 2) = .inl (gY G 14, 40, .inl (fun _ => 0)) := by rw [e3]; exact va_up_self _ _ _
  have hlo : ∀ n, n < t → cs3 n = cs n := fun n a => by rw [e3, va_up_ne _ _ (by omega)] <;> exact hlo n a
  clear e3
  refine ry_putF ff_X4_15 rfl (by omega) hc0 rfl rfl (nlt rfl) dX4_init_17 ?_
  refine ry_cs (fun cs4 e4 => ?_)
  have hc1 : cs4 (t + 1) = .inl (gY G 14, 40, .inl (fun _ => 0)) := by rw [e4, va_up_ne _ _ (by omega)]; exact hc1
  have hc2 : cs4 (t + 2) = .inl (gY G 14, 40, .inl (fun _ => 0)) := by rw [e4, va_up_ne _ _ (by omega)]; exact hc2
  have hc0 : cs4 t = .inr (4, [.int 0, .ref (gA G (t + 1)), .ref (gA G (t + 2)), .null]) := by rw [e4]; exact va_up_self _ _ _
  have hlo : ∀ n, n < t → cs4 n = cs n := fun n a => by rw [e4, va_up_ne _ _ (by omega)] <;> exact hlo n a
  clear e4
  refine ry_aload_n 0 dX4_init_20 rfl rfl ?_
  refine ry_bipush (v := 40) dX4_init_21 rfl ?_
  refine ry_newa (κ := 14) (n := 40) (atype := .int) (ty := .int) (t0 := 1) rfl wa_int rfl (fun _ _ => Iff.rfl) rfl (by decide) rfl (by decide) (Nat.le_of_ble_eq_true rfl) (Nat.le_of_ble_eq_true rfl) dX4_init_23 ?_
  refine ry_cs (fun cs5 e5 => ?_)
  have hc0 : cs5 t = .inr (4, [.int 0, .ref (gA G (t + 1)), .ref (gA G (t + 2)), .null]) := by rw [e5, va_up_ne _ _ (by omega)]; exact hc0
  have hc1 : cs5 (t + 1) = .inl (gY G 14, 40, .inl (fun _ => 0)) := by rw [e5, va_up_ne _ _ (by omega)]; exact hc1
  have hc2 : cs5 (t + 2) = .inl (gY G 14, 40, .inl (fun _ => 0)) := by rw [e5, va_up_ne _ _ (by omega)]; exact hc2
  have hc3 : cs5 (t + 3) = .inl (gY G 14, 40, .inl (fun _ => 0)) := by rw [e5]; exact va_up_self _ _ _
  have hlo : ∀ n, n < t → cs5 n = cs n := fun n a => by rw [e5, va_up_ne _ _ (by omega)] <;> exact hlo n a
  clear e5
  refine ry_putF ff_X4_18 rfl (by omega) hc0 rfl rfl (nlt rfl) dX4_init_25 ?_
  refine ry_cs (fun cs6 e6 => ?_)
  have hc1 : cs6 (t + 1) = .inl (gY G 14, 40, .inl (fun _ => 0)) := by rw [e6, va_up_ne _ _ (by omega)]; exact hc1
  have hc2 : cs6 (t + 2) = .inl (gY G 14, 40, .inl (fun _ => 0)) := by rw [e6, va_up_ne _ _ (by omega)]; exact hc2
  have hc3 : cs6 (t + 3) = .inl (gY G 14, 40, .inl (fun _ => 0)) := by rw [e6, va_up_ne _ _ (by omega)]; exact hc3
  have hc0 : cs6 t = .inr (4, [.int 0, .ref (gA G (t + 1)), .ref (gA G (t + 2)), .ref (gA G (t + 3))]) := by rw [e6]; exact va_up_self _ _ _
  have hlo : ∀ n, n < t → cs6 n = cs n := fun n a => by rw [e6, va_up_ne _ _ (by omega)] <;> exact hlo n a
  clear e6
  refine ry_ret dX4_init_28 ⟨by omega, hlo, fun n a b => ?_⟩
  rcases (show n = t ∨ n = (t + 1) ∨ n = (t + 2) ∨ n = (t + 3) by omega) with rfl | rfl | rfl | rfl
  · rw [hc0]; exact (fyj_4_0 hk).symm
  · rw [hc1]; exact (fyj_4_1 hk).symm
  · rw [hc2]; exact (fyj_4_2 hk).symm
  · rw [hc3]; exact (fyj_4_3 hk).symm
set_option maxRecDepth 20000 in
theorem kX8_init (G : GT) (d : Nat) {t : Nat} (hk : Is t 8) {cs : Nat → va_E} (hc0 : cs t = .inr (8, [.int 0, .null, .null, .null, .null])) : SpecY G yX8_init cX8_init 1 (d + 1) 4 133 [.ref (gA G t)] (t + 1) cs (Kc G t 5 cs) := by
  refine ry_spec (by decide) (Nat.le_of_ble_eq_true rfl) ?_
  have hlo : ∀ n, n < t → cs n = cs n := fun _ _ => rfl
  have htN := hk.1
  show RunY G RX8 "<init>" cX8_init 1 none _ 0 0 0 [(0, .ref (gA G t))] [] (t + 1) cs
  refine ry_aload_n 0 dX8_init_0 rfl rfl ?_
  refine ry_objInit wm_X8_3 w_oi w_oc (show 1 ≤ d + 1 by omega) (show 30 ≤ 30 * (d + 1) by omega) rfl dX8_init_1 ?_
  refine ry_aload_n 0 dX8_init_4 rfl rfl ?_
  refine ry_bipush (v := 7) dX8_init_5 rfl ?_
  refine ry_newa (κ := 14) (n := 7) (atype := .int) (ty := .int) (t0 := 1) rfl wa_int rfl (fun _ _ => Iff.rfl) rfl (by decide) rfl (by decide) (Nat.le_of_ble_eq_true rfl) (Nat.le_of_ble_eq_true rfl) dX8_init_7 ?_
  refine ry_cs (fun cs1 e1 => ?_)
  have hc0 : cs1 t = .inr (8, [.int 0, .null, .null, .null, .null]) := by rw [e1, va_up_ne _ _ (by omega)]; exact hc0
  have hc1 : cs1 (t + 1) = .inl (gY G 14, 7, .inl (fun _ => 0)) := by rw [e1]; exact va_up_self _ _ _
  have hlo : ∀ n, n < t → cs1 n = cs n := fun n a => by rw [e1, va_up_ne _ _ (by omega)] <;> exact hlo n a
  clear e1
  refine ry_putF ff_X8_9 rfl (by omega) hc0 rfl rfl (nlt rfl) dX8_init_9 ?_
  refine ry_cs (fun cs2 e2 => ?_)
  have hc1 : cs2 (t + 1) = .inl (gY G 14, 7, .inl (fun _ => 0)) := by rw [e2, va_up_ne _ _ (by omega)]; exact hc1
  have hc0 : cs2 t = .inr (8, [.int 0, .ref (gA G (t + 1)), .null, .null, .null]) := by rw [e2]; exact va_up_self _ _ _
  have hlo : ∀ n, n < t → cs2 n = cs n := fun n a => by rw [e2, va_up_ne _ _ (by omega)] <;> exact hlo n a
  clear e2
  refine ry_aload_n 0 dX8_init_12 rfl rfl ?_
  refine ry_bipush (v := 42) dX8_init_13 rfl ?_
  refine ry_newa (κ := 14) (n := 42) (atype := .int) (ty := .int) (t0 := 1) rfl wa_int rfl (fun _ _ => Iff.rfl) rfl (by decide) rfl (by decide) (Nat.le_of_ble_eq_true rfl) (Nat.le_of_ble_eq_true rfl) dX8_init_15 ?_
  refine ry_cs (fun cs3 e3 => ?_)
  have hc0 : cs3 t = .inr (8, [.int 0, .ref (gA G (t + 1)), .null, .null, .null]) := by rw [e3, va_up_ne _ _ (by omega)]; exact hc0
  have hc1 : cs3 (t + 1) = .inl (gY G 14, 7, .inl (fun _ => 0)) := by rw [e3, va_up_ne _ _ (by omega)]; exact hc1
  have hc2 : cs3 (t + 2) = .inl (gY G 14, 42, .inl (fun _ => 0)) := by rw [e3]; exact va_up_self _ _ _
  have hlo : ∀ n, n < t → cs3 n = cs n := fun n a => by rw [e3, va_up_ne _ _ (by omega)] <;> exact hlo n a
  clear e3
  refine ry_putF ff_X8_15 rfl (by omega) hc0 rfl rfl (nlt rfl) dX8_init_17 ?_
  refine ry_cs (fun cs4 e4 => ?_)
  have hc1 : cs4 (t + 1) = .inl (gY G 14, 7, .inl (fun _ => 0)) := by rw [e4, va_up_ne _ _ (by omega)]; exact hc1
  have hc2 : cs4 (t + 2) = .inl (gY G 14, 42, .inl (fun _ => 0)) := by rw [e4, va_up_ne _ _ (by omega)]; exact hc2
  have hc0 : cs4 t = .inr (8, [.int 0, .ref (gA G (t + 1)), .ref (gA G (t + 2)), .null, .null]) := by rw [e4]; exact va_up_self _ _ _
  have hlo : ∀ n, n < t → cs4 n = cs n := fun n a => by rw [e4, va_up_ne _ _ (by omega)] <;> exact hlo n a
  clear e4
  refine ry_aload_n 0 dX8_init_20 rfl rfl ?_
  refine ry_bipush (v := 42) dX8_init_21 rfl ?_
  refine ry_newa (κ := 14) (n := 42) (atype := .int) (ty := .int) (t0 := 1) rfl wa_int rfl (fun _ _ => Iff.rfl) rfl (by decide) rfl (by decide) (Nat.le_of_ble_eq_true rfl) (Nat.le_of_ble_eq_true rfl) dX8_init_23 ?_
  refine ry_cs (fun cs5 e5 => ?_)
  have hc0 : cs5 t = .inr (8, [.int 0, .ref (gA G (t + 1)), .ref (gA G (t + 2)), .null, .null]) := by rw [e5, va_up_ne _ _ (by omega)]; exact hc0
  have hc1 : cs5 (t + 1) = .inl (gY G 14, 7, .inl (fun _ => 0)) := by rw [e5, va_up_ne _ _ (by omega)]; exact hc1
  have hc2 : cs5 (t + 2) = .inl (gY G 14, 42, .inl (fun _ => 0)) := by rw [e5, va_up_ne _ _ (by omega)]; exact hc2
  have hc3 : cs5 (t + 3) = .inl (gY G 14, 42, .inl (fun _ => 0)) := by rw [e5]; exact va_up_self _ _ _
  have hlo : ∀ n, n < t → cs5 n = cs n := fun n a => by rw [e5, va_up_ne _ _ (by omega)] <;> exact hlo n a
  clear e5
  refine ry_putF ff_X8_18 rfl (by omega) hc0 rfl rfl (nlt rfl) dX8_init_25 ?_
  refine ry_cs (fun cs6 e6 => ?_)
  have hc1 : cs6 (t + 1) = .inl (gY G 14, 7, .inl (fun _ => 0)) := by rw [e6, va_up_ne _ _ (by omega)]; exact hc1
  have hc2 : cs6 (t + 2) = .inl (gY G 14, 42, .inl (fun _ => 0)) := by rw [e6, va_up_ne _ _ (by omega)]; exact hc2
  have hc3 : cs6 (t + 3) = .inl (gY G 14, 42, .inl (fun _ => 0)) := by rw [e6, va_up_ne _ _ (by omega)]; exact hc3
  have hc0 : cs6 t = .inr (8, [.int 0, .ref (gA G (t + 1)), .ref (gA G (t + 2)), .ref (gA G (t + 3)), .null]) := by rw [e6]; exact va_up_self _ _ _
  have hlo : ∀ n, n < t → cs6 n = cs n := fun n a => by rw [e6, va_up_ne _ _ (by omega)] <;> exact hlo n a
  clear e6
  refine ry_aload_n 0 dX8_init_28 rfl rfl ?_
  refine ry_bipush (v := 42) dX8_init_29 rfl ?_
  refine ry_newa (κ := 14) (n := 42) (atype := .int) (ty := .int) (t0 := 1) rfl wa_int rfl (fun _ _ => Iff.rfl) rfl (by decide) rfl (by decide) (Nat.le_of_ble_eq_true rfl) (Nat.le_of_ble_eq_true rfl) dX8_init_31 ?_
  refine ry_cs (fun cs7 e7 => ?_)
  have hc0 : cs7 t = .inr (8, [.int 0, .ref (gA G (t + 1)), .ref (gA G (t + 2)), .ref (gA G (t + 3)), .null]) := by rw [e7, va_up_ne _ _ (by omega)]; exact hc0
  have hc1 : cs7 (t + 1) = .inl (gY G 14, 7, .inl (fun _ => 0)) := by rw [e7, va_up_ne _ _ (by omega)]; exact hc1
  have hc2 : cs7 (t + 2) = .inl (gY G 14, 42, .inl (fun _ => 0)) := by rw [e7, va_up_ne _ _ (by omega)]; exact hc2
  have hc3 : cs7 (t + 3) = .inl (gY G 14, 42, .inl (fun _ => 0)) := by rw [e7, va_up_ne _ _ (by omega)]; exact hc3
  have hc4 : cs7 (t + 4) = .inl (gY G 14, 42, .inl (fun _ => 0)) := by rw [e7]; exact va_up_self _ _ _
  have hlo : ∀ n, n < t → cs7 n = cs n := fun n a => by rw [e7, va_up_ne _ _ (by omega)] <;> exact hlo n a
  clear e7
  refine ry_putF ff_X8_21 rfl (by omega) hc0 rfl rfl (nlt rfl) dX8_init_33 ?_
  refine ry_cs (fun cs8 e8 => ?_)
  have hc1 : cs8 (t + 1) = .inl (gY G 14, 7, .inl (fun _ => 0)) := by rw [e8, va_up_ne _ _ (by omega)]; exact hc1
  have hc2 : cs8 (t + 2) = .inl (gY G 14, 42, .inl (fun _ => 0)) := by rw [e8, va_up_ne _ _ (by omega)]; exact hc2
  have hc3 : cs8 (t + 3) = .inl (gY G 14, 42, .inl (fun _ => 0)) := by rw [e8, va_up_ne _ _ (by omega)]; exact hc3
  have hc4 : cs8 (t + 4) = .inl (gY G 14, 42, .inl (fun _ => 0)) := by rw [e8, va_up_ne _ _ (by omega)]; exact hc4
  have hc0 : cs8 t = .inr (8, [.int 0, .ref (gA G (t + 1)), .ref (gA G (t + 2)), .ref (gA G (t + 3)), .ref (gA G (t + 4))]) := by rw [e8]; exact va_up_self _ _ _
  have hlo : ∀ n, n < t → cs8 n = cs n := fun n a => by rw [e8, va_up_ne _ _ (by omega)] <;> exact hlo n a
  clear e8
  refine ry_ret dX8_init_36 ⟨by omega, hlo, fun n a b => ?_⟩
  rcases (show n = t ∨ n = (t + 1) ∨ n = (t + 2) ∨ n = (t + 3) ∨ n = (t + 4) by omega) with rfl | rfl | rfl | rfl | rfl
  · rw [hc0]; exact (fyj_8_0 hk).symm
  · rw [hc1]; exact (fyj_8_1 hk).symm
  · rw [hc2]; exact (fyj_8_2 hk).symm
  · rw [hc3]; exact (fyj_8_3 hk).symm
  · rw [hc4]; exact (fyj_8_4 hk).symm
set_option maxRecDepth 20000 in
theorem kX10_init (G : GT) (d : Nat) {t : Nat} (hk : Is t 10) {cs : Nat → va_E} (hc0 : cs t = .inr (10, [.int 0, .int 0, .int 0, .int 0, .int 0, .int 0, .int 0, .int 0, .int 0, .null, .null, .null])) : SpecY G yX10_init cX10_init 1 (d + 1) 3 30 [.ref (gA G t)] (t + 1) cs (Kc G t 4 cs) := by
  refine ry_spec (by decide) (Nat.le_of_ble_eq_true rfl) ?_
  have hlo : ∀ n, n < t → cs n = cs n := fun _ _ => rfl
  have htN := hk.1
  show RunY G RX10 "<init>" cX10_init 1 none _ 0 0 0 [(0, .ref (gA G t))] [] (t + 1) cs
  refine ry_aload_n 0 dX10_init_0 rfl rfl ?_
  refine ry_objInit wm_X10_3 w_oi w_oc (show 1 ≤ d + 1 by omega) (show 30 ≤ 30 * (d + 1) by omega) rfl dX10_init_1 ?_
  refine ry_aload_n 0 dX10_init_4 rfl rfl ?_
  refine ry_bipush (v := 10) dX10_init_5 rfl ?_
  refine ry_newa (κ := 14) (n := 10) (atype := .int) (ty := .int) (t0 := 1) rfl wa_int rfl (fun _ _ => Iff.rfl) rfl (by decide) rfl (by decide) (Nat.le_of_ble_eq_true rfl) (Nat.le_of_ble_eq_true rfl) dX10_init_7 ?_
  refine ry_cs (fun cs1 e1 => ?_)
  have hc0 : cs1 t = .inr (10, [.int 0, .int 0, .int 0, .int 0, .int 0, .int 0, .int 0, .int 0, .int 0, .null, .null, .null]) := by rw [e1, va_up_ne _ _ (by omega)]; exact hc0
  have hc1 : cs1 (t + 1) = .inl (gY G 14, 10, .inl (fun _ => 0)) := by rw [e1]; exact va_up_self _ _ _
  have hlo : ∀ n, n < t → cs1 n = cs n := fun n a => by rw [e1, va_up_ne _ _ (by omega)] <;> exact hlo n a
  clear e1
  refine ry_putF ff_X10_9 rfl (by omega) hc0 rfl rfl (nlt rfl) dX10_init_9 ?_
  refine ry_cs (fun cs2 e2 => ?_)
  have hc1 : cs2 (t + 1) = .inl (gY G 14, 10, .inl (fun _ => 0)) := by rw [e2, va_up_ne _ _ (by omega)]; exact hc1
  have hc0 : cs2 t = .inr (10, [.int 0, .int 0, .int 0, .int 0, .int 0, .int 0, .int 0, .int 0, .int 0, .ref (gA G (t + 1)), .null, .null]) := by rw [e2]; exact va_up_self _ _ _
  have hlo : ∀ n, n < t → cs2 n = cs n := fun n a => by rw [e2, va_up_ne _ _ (by omega)] <;> exact hlo n a
  clear e2
  refine ry_aload_n 0 dX10_init_12 rfl rfl ?_
  refine ry_bipush (v := 10) dX10_init_13 rfl ?_
  refine ry_newa (κ := 14) (n := 10) (atype := .int) (ty := .int) (t0 := 1) rfl wa_int rfl (fun _ _ => Iff.rfl) rfl (by decide) rfl (by decide) (Nat.le_of_ble_eq_true rfl) (Nat.le_of_ble_eq_true rfl) dX10_init_15 ?_
  refine ry_cs (fun cs3 e3 => ?_)
  have hc0 : cs3 t = .inr (10, [.int 0, .int 0, .int 0, .int 0, .int 0, .int 0, .int 0, .int 0, .int 0, .ref (gA G (t + 1)), .null, .null]) := by rw [e3, va_up_ne _ _ (by omega)]; exact hc0
  have hc1 : cs3 (t + 1) = .inl (gY G 14, 10, .inl (fun _ => 0)) := by rw [e3, va_up_ne _ _ (by omega)]; exact hc1
  have hc2 : cs3 (t + 2) = .inl (gY G 14, 10, .inl (fun _ => 0)) := by rw [e3]; exact va_up_self _ _ _
  have hlo : ∀ n, n < t → cs3 n = cs n := fun n a => by rw [e3, va_up_ne _ _ (by omega)] <;> exact hlo n a
  clear e3
  refine ry_putF ff_X10_15 rfl (by omega) hc0 rfl rfl (nlt rfl) dX10_init_17 ?_
  refine ry_cs (fun cs4 e4 => ?_)
  have hc1 : cs4 (t + 1) = .inl (gY G 14, 10, .inl (fun _ => 0)) := by rw [e4, va_up_ne _ _ (by omega)]; exact hc1
  have hc2 : cs4 (t + 2) = .inl (gY G 14, 10, .inl (fun _ => 0)) := by rw [e4, va_up_ne _ _ (by omega)]; exact hc2
  have hc0 : cs4 t = .inr (10, [.int 0, .int 0, .int 0, .int 0, .int 0, .int 0, .int 0, .int 0, .int 0, .ref (gA G (t + 1)), .ref (gA G (t + 2)), .null]) := by rw [e4]; exact va_up_self _ _ _
  have hlo : ∀ n, n < t → cs4 n = cs n := fun n a => by rw [e4, va_up_ne _ _ (by omega)] <;> exact hlo n a
  clear e4
  refine ry_aload_n 0 dX10_init_20 rfl rfl ?_
  refine ry_bipush (v := 10) dX10_init_21 rfl ?_
  refine ry_newa (κ := 14) (n := 10) (atype := .int) (ty := .int) (t0 := 1) rfl wa_int rfl (fun _ _ => Iff.rfl) rfl (by decide) rfl (by decide) (Nat.le_of_ble_eq_true rfl) (Nat.le_of_ble_eq_true rfl) dX10_init_23 ?_
  refine ry_cs (fun cs5 e5 => ?_)
  have hc0 : cs5 t = .inr (10, [.int 0, .int 0, .int 0, .int 0, .int 0, .int 0, .int 0, .int 0, .int 0, .ref (gA G (t + 1)), .ref (gA G (t + 2)), .null]) := by rw [e5, va_up_ne _ _ (by omega)]; exact hc0
  have hc1 : cs5 (t + 1) = .inl (gY G 14, 10, .inl (fun _ => 0)) := by rw [e5, va_up_ne _ _ (by omega)]; exact hc1
  have hc2 : cs5 (t + 2) = .inl (gY G 14, 10, .inl (fun _ => 0)) := by rw [e5, va_up_ne _ _ (by omega)]; exact hc2
  have hc3 : cs5 (t + 3) = .inl (gY G 14, 10, .inl (fun _ => 0)) := by rw [e5]; exact va_up_self _ _ _
  have hlo : ∀ n, n < t → cs5 n = cs n := fun n a => by rw [e5, va_up_ne _ _ (by omega)] <;> exact hlo n a
  clear e5
  refine ry_putF ff_X10_18 rfl (by omega) hc0 rfl rfl (nlt rfl) dX10_init_25 ?_
  refine ry_cs (fun cs6 e6 => ?_)
  have hc1 : cs6 (t + 1) = .inl (gY G 14, 10, .inl (fun _ => 0)) := by rw [e6, va_up_ne _ _ (by omega)]; exact hc1
  have hc2 : cs6 (t + 2) = .inl (gY G 14, 10, .inl (fun _ => 0)) := by rw [e6, va_up_ne _ _ (by omega)]; exact hc2
  have hc3 : cs6 (t + 3) = .inl (gY G 14, 10, .inl (fun _ => 0)) := by rw [e6, va_up_ne _ _ (by omega)]; exact hc3
  have hc0 : cs6 t = .inr (10, [.int 0, .int 0, .int 0, .int 0, .int 0, .int 0, .int 0, .int 0, .int 0, .ref (gA G (t + 1)), .ref (gA G (t + 2)), .ref (gA G (t + 3))]) := by rw [e6]; exact va_up_self _ _ _
  have hlo : ∀ n, n < t → cs6 n = cs n := fun n a => by rw [e6, va_up_ne _ _ (by omega)] <;> exact hlo n a
  clear e6
  refine ry_ret dX10_init_28 ⟨by omega, hlo, fun n a b => ?_⟩
  rcases (show n = t ∨ n = (t + 1) ∨ n = (t + 2) ∨ n = (t + 3) by omega) with rfl | rfl | rfl | rfl
  · rw [hc0]; exact (fyj_10_0 hk).symm
  · rw [hc1]; exact (fyj_10_1 hk).symm
  · rw [hc2]; exact (fyj_10_2 hk).symm
  · rw [hc3]; exact (fyj_10_3 hk).symm
set_option maxRecDepth 20000 in
theorem kX7_init (G : GT) (d : Nat) {t : Nat} (hk : Is t 7) {cs : Nat → va_E} (hc0 : cs t = .inr (7, [.int 0, .int 0, .null])) : SpecY G yX7_init cX7_init 1 (d + 3) 1 10 [.ref (gA G t)] (t + 1) cs (Kc G t 2 cs) := by
  refine ry_spec (by decide) (Nat.le_of_ble_eq_true rfl) ?_
  have hlo : ∀ n, n < t → cs n = cs n := fun _ _ => rfl
  have htN := hk.1
  show RunY G RX7 "<init>" cX7_init 1 none _ 0 0 0 [(0, .ref (gA G t))] [] (t + 1) cs
  refine ry_aload_n 0 dX7_init_0 rfl rfl ?_
  refine ry_objInit wm_X7_3 w_oi w_oc (show 1 ≤ d + 3 by omega) (show 30 ≤ 30 * (d + 3) by omega) rfl dX7_init_1 ?_
  refine ry_aload_n 0 dX7_init_4 rfl rfl ?_
  refine ry_bipush (v := 10) dX7_init_5 rfl ?_
  refine ry_newa (κ := 14) (n := 10) (atype := .int) (ty := .int) (t0 := 1) rfl wa_int rfl (fun _ _ => Iff.rfl) rfl (by decide) rfl (by decide) (Nat.le_of_ble_eq_true rfl) (Nat.le_of_ble_eq_true rfl) dX7_init_7 ?_
  refine ry_cs (fun cs1 e1 => ?_)
  have hc0 : cs1 t = .inr (7, [.int 0, .int 0, .null]) := by rw [e1, va_up_ne _ _ (by omega)]; exact hc0
  have hc1 : cs1 (t + 1) = .inl (gY G 14, 10, .inl (fun _ => 0)) := by rw [e1]; exact va_up_self _ _ _
  have hlo : ∀ n, n < t → cs1 n = cs n := fun n a => by rw [e1, va_up_ne _ _ (by omega)] <;> exact hlo n a
  clear e1
  refine ry_putF ff_X7_9 rfl (by omega) hc0 rfl rfl (nlt rfl) dX7_init_9 ?_
  refine ry_cs (fun cs2 e2 => ?_)
  have hc1 : cs2 (t + 1) = .inl (gY G 14, 10, .inl (fun _ => 0)) := by rw [e2, va_up_ne _ _ (by omega)]; exact hc1
  have hc0 : cs2 t = .inr (7, [.int 0, .int 0, .ref (gA G (t + 1))]) := by rw [e2]; exact va_up_self _ _ _
  have hlo : ∀ n, n < t → cs2 n = cs n := fun n a => by rw [e2, va_up_ne _ _ (by omega)] <;> exact hlo n a
  clear e2
  refine ry_aload_n 0 dX7_init_12 rfl rfl ?_
  refine ry_callV (As := []) (n := t) (ci := 7) (Kcl G t cs2) (fun _ _ h => h.1) mw_X7_clear mi_X7_clear ml_X7_15 (by omega) hc0 rfl rfl rfl ⟨show d + 2 + 1 ≤ d + 3 by omega, show 30 * (d + 2) + 30 ≤ 30 * (d + 3) by omega, (Nat.le_of_ble_eq_true rfl), (Nat.le_of_ble_eq_true rfl)⟩ (Nat.le_of_ble_eq_true rfl) dX7_init_13 (kX7_clear G d hk hc0 hc1) (fun cs3 hK => ?_) rfl
  obtain ⟨-, hK1, hK2, hK3⟩ := hK
  have hlo : ∀ n, n < t → cs3 n = cs n := fun n a => (hK3 n (by omega) (by omega)).trans (hlo n a)
  have hc0 := hK1
  have hc1 := hK2
  refine ry_ret dX7_init_16 ⟨by omega, hlo, fun n a b => ?_⟩
  rcases (show n = t ∨ n = (t + 1) by omega) with rfl | rfl
  · rw [hc0]; exact (fyj_7_0 hk).symm
  · rw [hc1]; exact (fyj_7_1 hk).symm
set_option maxRecDepth 20000 in
theorem kX5_init (G : GT) (d : Nat) {cs : Nat → va_E} (hc0 : cs 143 = .inr (5, [.null, .int 0, .int 0, .int 0, .int 0, .int 0, .int 0, .int 0, .int 0, .null, .null, .int 0, .int 0, .int 0, .int 0])) : SpecY G yX5_init cX5_init 2 (d + 1) 2 4 [.ref (gA G 143), .ref (gA G 2)] 144 cs (Kc G 143 3 cs) := by
  refine ry_spec (by decide) (Nat.le_of_ble_eq_true rfl) ?_
  have hlo : ∀ n, n < 143 → cs n = cs n := fun _ _ => rfl
  show RunY G RX5 "<init>" cX5_init 2 none _ 0 0 0 [(0, .ref (gA G 143)), (1, .ref (gA G 2))] [] 144 cs
  refine ry_aload_n 0 dX5_init_0 rfl rfl ?_
  refine ry_objInit wm_X5_3 w_oi w_oc (show 1 ≤ d + 1 by omega) (show 30 ≤ 30 * (d + 1) by omega) rfl dX5_init_1 ?_
  refine ry_aload_n 0 dX5_init_4 rfl rfl ?_
  refine ry_iconst (v := 2) dX5_init_5 rfl ?_
  refine ry_newa (κ := 14) (n := 2) (atype := .int) (ty := .int) (t0 := 1) rfl wa_int rfl (fun _ _ => Iff.rfl) rfl (by decide) rfl (by decide) (Nat.le_of_ble_eq_true rfl) (Nat.le_of_ble_eq_true rfl) dX5_init_6 ?_
  refine ry_cs (fun cs1 e1 => ?_)
  have hc0 : cs1 143 = .inr (5, [.null, .int 0, .int 0, .int 0, .int 0, .int 0, .int 0, .int 0, .int 0, .null, .null, .int 0, .int 0, .int 0, .int 0]) := by rw [e1, va_up_ne _ _ (by omega)]; exact hc0
  have hc1 : cs1 144 = .inl (gY G 14, 2, .inl (fun _ => 0)) := by rw [e1]; exact va_up_self _ _ _
  have hlo : ∀ n, n < 143 → cs1 n = cs n := fun n a => by rw [e1, va_up_ne _ _ (by omega)] <;> exact hlo n a
  clear e1
  refine ry_putF ff_X5_9 rfl (by omega) hc0 rfl rfl (nlt rfl) dX5_init_8 ?_
  refine ry_cs (fun cs2 e2 => ?_)
  have hc1 : cs2 144 = .inl (gY G 14, 2, .inl (fun _ => 0)) := by rw [e2, va_up_ne _ _ (by omega)]; exact hc1
  have hc0 : cs2 143 = .inr (5, [.null, .int 0, .int 0, .int 0, .int 0, .int 0, .int 0, .int 0, .int 0, .ref (gA G 144), .null, .int 0, .int 0, .int 0, .int 0]) := by rw [e2]; exact va_up_self _ _ _
  have hlo : ∀ n, n < 143 → cs2 n = cs n := fun n a => by rw [e2, va_up_ne _ _ (by omega)] <;> exact hlo n a
  clear e2
  refine ry_aload_n 0 dX5_init_11 rfl rfl ?_
  refine ry_iconst (v := 2) dX5_init_12 rfl ?_
  refine ry_newa (κ := 14) (n := 2) (atype := .int) (ty := .int) (t0 := 1) rfl wa_int rfl (fun _ _ => Iff.rfl) rfl (by decide) rfl (by decide) (Nat.le_of_ble_eq_true rfl) (Nat.le_of_ble_eq_true rfl) dX5_init_13 ?_
  refine ry_cs (fun cs3 e3 => ?_)
  have hc0 : cs3 143 = .inr (5, [.null, .int 0, .int 0, .int 0, .int 0, .int 0, .int 0, .int 0, .int 0, .ref (gA G 144), .null, .int 0, .int 0, .int 0, .int 0]) := by rw [e3, va_up_ne _ _ (by omega)]; exact hc0
  have hc1 : cs3 144 = .inl (gY G 14, 2, .inl (fun _ => 0)) := by rw [e3, va_up_ne _ _ (by omega)]; exact hc1
  have hc2 : cs3 145 = .inl (gY G 14, 2, .inl (fun _ => 0)) := by rw [e3]; exact va_up_self _ _ _
  have hlo : ∀ n, n < 143 → cs3 n = cs n := fun n a => by rw [e3, va_up_ne _ _ (by omega)] <;> exact hlo n a
  clear e3
  refine ry_putF ff_X5_15 rfl (by omega) hc0 rfl rfl (nlt rfl) dX5_init_15 ?_
  refine ry_cs (fun cs4 e4 => ?_)
  have hc1 : cs4 144 = .inl (gY G 14, 2, .inl (fun _ => 0)) := by rw [e4, va_up_ne _ _ (by omega)]; exact hc1
  have hc2 : cs4 145 = .inl (gY G 14, 2, .inl (fun _ => 0)) := by rw [e4, va_up_ne _ _ (by omega)]; exact hc2
  have hc0 : cs4 143 = .inr (5, [.null, .int 0, .int 0, .int 0, .int 0, .int 0, .int 0, .int 0, .int 0, .ref (gA G 144), .ref (gA G 145), .int 0, .int 0, .int 0, .int 0]) := by rw [e4]; exact va_up_self _ _ _
  have hlo : ∀ n, n < 143 → cs4 n = cs n := fun n a => by rw [e4, va_up_ne _ _ (by omega)] <;> exact hlo n a
  clear e4
  refine ry_aload_n 0 dX5_init_18 rfl rfl ?_
  refine ry_aload_n 1 dX5_init_19 rfl rfl ?_
  refine ry_putF ff_X5_18 rfl (by omega) hc0 rfl rfl (nlt rfl) dX5_init_20 ?_
  refine ry_cs (fun cs5 e5 => ?_)
  have hc1 : cs5 144 = .inl (gY G 14, 2, .inl (fun _ => 0)) := by rw [e5, va_up_ne _ _ (by omega)]; exact hc1
  have hc2 : cs5 145 = .inl (gY G 14, 2, .inl (fun _ => 0)) := by rw [e5, va_up_ne _ _ (by omega)]; exact hc2
  have hc0 : cs5 143 = .inr (5, [.ref (gA G 2), .int 0, .int 0, .int 0, .int 0, .int 0, .int 0, .int 0, .int 0, .ref (gA G 144), .ref (gA G 145), .int 0, .int 0, .int 0, .int 0]) := by rw [e5]; exact va_up_self _ _ _
  have hlo : ∀ n, n < 143 → cs5 n = cs n := fun n a => by rw [e5, va_up_ne _ _ (by omega)] <;> exact hlo n a
  clear e5
  refine ry_ret dX5_init_23 ⟨by omega, hlo, fun n a b => ?_⟩
  rcases (show n = 143 ∨ n = 144 ∨ n = 145 by omega) with rfl | rfl | rfl
  · rw [hc0]; exact (fyj_5_0).symm
  · rw [hc1]; exact (fyj_5_1).symm
  · rw [hc2]; exact (fyj_5_2).symm
set_option maxRecDepth 20000 in
theorem kX0_init (G : GT) (d : Nat) {cs : Nat → va_E} (hc0 : cs 234 = .inr (0, [.null, .int 0, .null, .null, .null, .int 0])) : SpecY G yX0_init cX0_init 1 (d + 1) 11 119 [.ref (gA G 234)] 235 cs (Kc G 234 12 cs) := by
  refine ry_spec (by decide) (Nat.le_of_ble_eq_true rfl) ?_
  have hlo : ∀ n, n < 234 → cs n = cs n := fun _ _ => rfl
  show RunY G RX0 "<init>" cX0_init 1 none _ 0 0 0 [(0, .ref (gA G 234))] [] 235 cs
  refine ry_aload_n 0 dX0_init_0 rfl rfl ?_
  refine ry_objInit wm_X0_3 w_oi w_oc (show 1 ≤ d + 1 by omega) (show 30 ≤ 30 * (d + 1) by omega) rfl dX0_init_1 ?_
  refine ry_aload_n 0 dX0_init_4 rfl rfl ?_
  refine ry_bipush (v := 30) dX0_init_5 rfl ?_
  refine ry_newq (κ := 17) (n := 30) (t0 := 4) wc_X0_9 wo_2 rfl (by decide) rfl (ln_at_0_1) (by decide) (Nat.le_of_ble_eq_true rfl) (Nat.le_of_ble_eq_true rfl) dX0_init_7 ?_
  refine ry_cs (fun cs1 e1 => ?_)
  have hc0 : cs1 234 = .inr (0, [.null, .int 0, .null, .null, .null, .int 0]) := by rw [e1, va_up_ne _ _ (by omega)]; exact hc0
  have hc1 : cs1 235 = refI G 17 235 0 := by rw [e1]; exact va_up_self _ _ _
  have hlo : ∀ n, n < 234 → cs1 n = cs n := fun n a => by rw [e1, va_up_ne _ _ (by omega)] <;> exact hlo n a
  clear e1
  refine ry_putF ff_X0_11 rfl (by omega) hc0 rfl rfl (nlt rfl) dX0_init_10 ?_
  refine ry_cs (fun cs2 e2 => ?_)
  have hc1 : cs2 235 = refI G 17 235 0 := by rw [e2, va_up_ne _ _ (by omega)]; exact hc1
  have hc0 : cs2 234 = .inr (0, [.ref (gA G 235), .int 0, .null, .null, .null, .int 0]) := by rw [e2]; exact va_up_self _ _ _
  have hlo : ∀ n, n < 234 → cs2 n = cs n := fun n a => by rw [e2, va_up_ne _ _ (by omega)] <;> exact hlo n a
  clear e2
  refine ry_aload_n 0 dX0_init_13 rfl rfl ?_
  refine ry_bipush (v := 7) dX0_init_14 rfl ?_
  refine ry_bipush (v := 10) dX0_init_16 rfl ?_
  refine ry_mna (n := 7) (k := 10) wc_X0_17 wo_ai wa_int es23_236 (ln_at_0_2) (by decide) (by decide) rfl rfl (by decide) (by decide) (Nat.le_of_ble_eq_true rfl) (Nat.le_of_ble_eq_true rfl) dX0_init_18 ?_
  refine ry_cs (fun cs3 e3 => ?_)
  have hc0 : cs3 234 = .inr (0, [.ref (gA G 235), .int 0, .null, .null, .null, .int 0]) := by rw [e3]; unfold csM; rw [if_neg (by decide), if_neg (by decide)]; exact hc0
  have hc1 : cs3 235 = refI G 17 235 0 := by rw [e3]; unfold csM; rw [if_neg (by decide), if_neg (by decide)]; exact hc1
  have hc2 : cs3 236 = refI G 23 236 7 := by rw [e3]; unfold csM; rw [if_pos rfl]
  have hr3 : ∀ n, 237 ≤ n → n < 244 → cs3 n = finY G n := fun n a b => by rw [e3]; unfold csM; rw [if_neg (by omega), if_pos ⟨by omega, by omega⟩]; exact (fyA_236 n a b).symm
  have hlo : ∀ n, n < 234 → cs3 n = cs n := fun n a => by rw [e3]; unfold csM; rw [if_neg (by omega), if_neg (by omega)]; exact hlo n a
  refine ry_putF ff_X0_19 rfl (by omega) hc0 rfl rfl (nlt rfl) dX0_init_22 ?_
  refine ry_cs (fun cs4 e4 => ?_)
  have hc1 : cs4 235 = refI G 17 235 0 := by rw [e4, va_up_ne _ _ (by omega)]; exact hc1
  have hc2 : cs4 236 = refI G 23 236 7 := by rw [e4, va_up_ne _ _ (by omega)]; exact hc2
  have hc0 : cs4 234 = .inr (0, [.ref (gA G 235), .int 0, .ref (gA G 236), .null, .null, .int 0]) := by rw [e4]; exact va_up_self _ _ _
  have hr3 : ∀ n, 237 ≤ n → n < 244 → cs4 n = finY G n := fun n a b => by rw [e4, va_up_ne _ _ (by omega)]; exact hr3 n a b
  have hlo : ∀ n, n < 234 → cs4 n = cs n := fun n a => by rw [e4, va_up_ne _ _ (by omega)] <;> exact hlo n a
  clear e4
  refine ry_aload_n 0 dX0_init_25 rfl rfl ?_
  refine ry_bipush (v := 6) dX0_init_26 rfl ?_
  refine ry_newa (κ := 14) (n := 6) (atype := .int) (ty := .int) (t0 := 1) rfl wa_int rfl (fun _ _ => Iff.rfl) rfl (by decide) rfl (by decide) (Nat.le_of_ble_eq_true rfl) (Nat.le_of_ble_eq_true rfl) dX0_init_28 ?_
  refine ry_cs (fun cs5 e5 => ?_)
  have hc0 : cs5 234 = .inr (0, [.ref (gA G 235), .int 0, .ref (gA G 236), .null, .null, .int 0]) := by rw [e5, va_up_ne _ _ (by omega)]; exact hc0
  have hc1 : cs5 235 = refI G 17 235 0 := by rw [e5, va_up_ne _ _ (by omega)]; exact hc1
  have hc2 : cs5 236 = refI G 23 236 7 := by rw [e5, va_up_ne _ _ (by omega)]; exact hc2
  have hc10 : cs5 244 = .inl (gY G 14, 6, .inl (fun _ => 0)) := by rw [e5]; exact va_up_self _ _ _
  have hr3 : ∀ n, 237 ≤ n → n < 244 → cs5 n = finY G n := fun n a b => by rw [e5, va_up_ne _ _ (by omega)]; exact hr3 n a b
  have hlo : ∀ n, n < 234 → cs5 n = cs n := fun n a => by rw [e5, va_up_ne _ _ (by omega)] <;> exact hlo n a
  clear e5
  refine ry_putF ff_X0_22 rfl (by omega) hc0 rfl rfl (nlt rfl) dX0_init_30 ?_
  refine ry_cs (fun cs6 e6 => ?_)
  have hc1 : cs6 235 = refI G 17 235 0 := by rw [e6, va_up_ne _ _ (by omega)]; exact hc1
  have hc2 : cs6 236 = refI G 23 236 7 := by rw [e6, va_up_ne _ _ (by omega)]; exact hc2
  have hc10 : cs6 244 = .inl (gY G 14, 6, .inl (fun _ => 0)) := by rw [e6, va_up_ne _ _ (by omega)]; exact hc10
  have hc0 : cs6 234 = .inr (0, [.ref (gA G 235), .int 0, .ref (gA G 236), .ref (gA G 244), .null, .int 0]) := by rw [e6]; exact va_up_self _ _ _
  have hr3 : ∀ n, 237 ≤ n → n < 244 → cs6 n = finY G n := fun n a b => by rw [e6, va_up_ne _ _ (by omega)]; exact hr3 n a b
  have hlo : ∀ n, n < 234 → cs6 n = cs n := fun n a => by rw [e6, va_up_ne _ _ (by omega)] <;> exact hlo n a
  clear e6
  refine ry_aload_n 0 dX0_init_33 rfl rfl ?_
  refine ry_bipush (v := 6) dX0_init_34 rfl ?_
  refine ry_newa (κ := 14) (n := 6) (atype := .int) (ty := .int) (t0 := 1) rfl wa_int rfl (fun _ _ => Iff.rfl) rfl (by decide) rfl (by decide) (Nat.le_of_ble_eq_true rfl) (Nat.le_of_ble_eq_true rfl) dX0_init_36 ?_
  refine ry_cs (fun cs7 e7 => ?_)
  have hc0 : cs7 234 = .inr (0, [.ref (gA G 235), .int 0, .ref (gA G 236), .ref (gA G 244), .null, .int 0]) := by rw [e7, va_up_ne _ _ (by omega)]; exact hc0
  have hc1 : cs7 235 = refI G 17 235 0 := by rw [e7, va_up_ne _ _ (by omega)]; exact hc1
  have hc2 : cs7 236 = refI G 23 236 7 := by rw [e7, va_up_ne _ _ (by omega)]; exact hc2
  have hc10 : cs7 244 = .inl (gY G 14, 6, .inl (fun _ => 0)) := by rw [e7, va_up_ne _ _ (by omega)]; exact hc10
  have hc11 : cs7 245 = .inl (gY G 14, 6, .inl (fun _ => 0)) := by rw [e7]; exact va_up_self _ _ _
  have hr3 : ∀ n, 237 ≤ n → n < 244 → cs7 n = finY G n := fun n a b => by rw [e7, va_up_ne _ _ (by omega)]; exact hr3 n a b
  have hlo : ∀ n, n < 234 → cs7 n = cs n := fun n a => by rw [e7, va_up_ne _ _ (by omega)] <;> exact hlo n a
  clear e7
  refine ry_putF ff_X0_26 rfl (by omega) hc0 rfl rfl (nlt rfl) dX0_init_38 ?_
  refine ry_cs (fun cs8 e8 => ?_)
  have hc1 : cs8 235 = refI G 17 235 0 := by rw [e8, va_up_ne _ _ (by omega)]; exact hc1
  have hc2 : cs8 236 = refI G 23 236 7 := by rw [e8, va_up_ne _ _ (by omega)]; exact hc2
  have hc10 : cs8 244 = .inl (gY G 14, 6, .inl (fun _ => 0)) := by rw [e8, va_up_ne _ _ (by omega)]; exact hc10
  have hc11 : cs8 245 = .inl (gY G 14, 6, .inl (fun _ => 0)) := by rw [e8, va_up_ne _ _ (by omega)]; exact hc11
  have hc0 : cs8 234 = .inr (0, [.ref (gA G 235), .int 0, .ref (gA G 236), .ref (gA G 244), .ref (gA G 245), .int 0]) := by rw [e8]; exact va_up_self _ _ _
  have hr3 : ∀ n, 237 ≤ n → n < 244 → cs8 n = finY G n := fun n a b => by rw [e8, va_up_ne _ _ (by omega)]; exact hr3 n a b
  have hlo : ∀ n, n < 234 → cs8 n = cs n := fun n a => by rw [e8, va_up_ne _ _ (by omega)] <;> exact hlo n a
  clear e8
  refine ry_ret dX0_init_41 ⟨by omega, hlo, fun n a b => ?_⟩
  rcases (show n = 234 ∨ n = 235 ∨ n = 236 ∨ n = 244 ∨ n = 245 ∨ (237 ≤ n ∧ n < 244) by omega) with rfl | rfl | rfl | rfl | rfl | q
  · rw [hc0]; exact (fyj_0_0).symm
  · rw [hc1]; exact (fyj_0_1).symm
  · rw [hc2]; exact (fyj_0_2).symm
  · rw [hc10]; exact (fyj_0_10).symm
  · rw [hc11]; exact (fyj_0_11).symm
  · exact hr3 n q.1 q.2
set_option maxRecDepth 20000 in
theorem kX6_init (G : GT) (d : Nat) {cs : Nat → va_E} (hc0 : cs 246 = .inr (6, [.null, .null, .null, .int 0])) : SpecY G yX6_init cX6_init 1 (d + 1) 19 202 [.ref (gA G 246)] 247 cs (Kc G 246 20 cs) := by
  refine ry_spec (by decide) (Nat.le_of_ble_eq_true rfl) ?_
  have hlo : ∀ n, n < 246 → cs n = cs n := fun _ _ => rfl
  show RunY G RX6 "<init>" cX6_init 1 none _ 0 0 0 [(0, .ref (gA G 246))] [] 247 cs
  refine ry_aload_n 0 dX6_init_0 rfl rfl ?_
  refine ry_objInit wm_X6_3 w_oi w_oc (show 1 ≤ d + 1 by omega) (show 30 ≤ 30 * (d + 1) by omega) rfl dX6_init_1 ?_
  refine ry_aload_n 0 dX6_init_4 rfl rfl ?_
  refine ry_bipush (v := 16) dX6_init_5 rfl ?_
  refine ry_newa (κ := 14) (n := 16) (atype := .int) (ty := .int) (t0 := 1) rfl wa_int rfl (fun _ _ => Iff.rfl) rfl (by decide) rfl (by decide) (Nat.le_of_ble_eq_true rfl) (Nat.le_of_ble_eq_true rfl) dX6_init_7 ?_
  refine ry_cs (fun cs1 e1 => ?_)
  have hc0 : cs1 246 = .inr (6, [.null, .null, .null, .int 0]) := by rw [e1, va_up_ne _ _ (by omega)]; exact hc0
  have hc1 : cs1 247 = .inl (gY G 14, 16, .inl (fun _ => 0)) := by rw [e1]; exact va_up_self _ _ _
  have hlo : ∀ n, n < 246 → cs1 n = cs n := fun n a => by rw [e1, va_up_ne _ _ (by omega)] <;> exact hlo n a
  clear e1
  refine ry_putF ff_X6_9 rfl (by omega) hc0 rfl rfl (nlt rfl) dX6_init_9 ?_
  refine ry_cs (fun cs2 e2 => ?_)
  have hc1 : cs2 247 = .inl (gY G 14, 16, .inl (fun _ => 0)) := by rw [e2, va_up_ne _ _ (by omega)]; exact hc1
  have hc0 : cs2 246 = .inr (6, [.ref (gA G 247), .null, .null, .int 0]) := by rw [e2]; exact va_up_self _ _ _
  have hlo : ∀ n, n < 246 → cs2 n = cs n := fun n a => by rw [e2, va_up_ne _ _ (by omega)] <;> exact hlo n a
  clear e2
  refine ry_aload_n 0 dX6_init_12 rfl rfl ?_
  refine ry_bipush (v := 16) dX6_init_13 rfl ?_
  refine ry_bipush (v := 10) dX6_init_15 rfl ?_
  refine ry_mna (n := 16) (k := 10) wc_X6_15 wo_ai wa_int es23_248 (ln_at_6_2) (by decide) (by decide) rfl rfl (by decide) (by decide) (Nat.le_of_ble_eq_true rfl) (Nat.le_of_ble_eq_true rfl) dX6_init_17 ?_
  refine ry_cs (fun cs3 e3 => ?_)
  have hc0 : cs3 246 = .inr (6, [.ref (gA G 247), .null, .null, .int 0]) := by rw [e3]; unfold csM; rw [if_neg (by decide), if_neg (by decide)]; exact hc0
  have hc1 : cs3 247 = .inl (gY G 14, 16, .inl (fun _ => 0)) := by rw [e3]; unfold csM; rw [if_neg (by decide), if_neg (by decide)]; exact hc1
  have hc2 : cs3 248 = refI G 23 248 16 := by rw [e3]; unfold csM; rw [if_pos rfl]
  have hr3 : ∀ n, 249 ≤ n → n < 265 → cs3 n = finY G n := fun n a b => by rw [e3]; unfold csM; rw [if_neg (by omega), if_pos ⟨by omega, by omega⟩]; exact (fyA_248 n a b).symm
  have hlo : ∀ n, n < 246 → cs3 n = cs n := fun n a => by rw [e3]; unfold csM; rw [if_neg (by omega), if_neg (by omega)]; exact hlo n a
  refine ry_putF ff_X6_17 rfl (by omega) hc0 rfl rfl (nlt rfl) dX6_init_21 ?_
  refine ry_cs (fun cs4 e4 => ?_)
  have hc1 : cs4 247 = .inl (gY G 14, 16, .inl (fun _ => 0)) := by rw [e4, va_up_ne _ _ (by omega)]; exact hc1
  have hc2 : cs4 248 = refI G 23 248 16 := by rw [e4, va_up_ne _ _ (by omega)]; exact hc2
  have hc0 : cs4 246 = .inr (6, [.ref (gA G 247), .ref (gA G 248), .null, .int 0]) := by rw [e4]; exact va_up_self _ _ _
  have hr3 : ∀ n, 249 ≤ n → n < 265 → cs4 n = finY G n := fun n a b => by rw [e4, va_up_ne _ _ (by omega)]; exact hr3 n a b
  have hlo : ∀ n, n < 246 → cs4 n = cs n := fun n a => by rw [e4, va_up_ne _ _ (by omega)] <;> exact hlo n a
  clear e4
  refine ry_aload_n 0 dX6_init_24 rfl rfl ?_
  refine ry_bipush (v := 10) dX6_init_25 rfl ?_
  refine ry_newa (κ := 14) (n := 10) (atype := .int) (ty := .int) (t0 := 1) rfl wa_int rfl (fun _ _ => Iff.rfl) rfl (by decide) rfl (by decide) (Nat.le_of_ble_eq_true rfl) (Nat.le_of_ble_eq_true rfl) dX6_init_27 ?_
  refine ry_cs (fun cs5 e5 => ?_)
  have hc0 : cs5 246 = .inr (6, [.ref (gA G 247), .ref (gA G 248), .null, .int 0]) := by rw [e5, va_up_ne _ _ (by omega)]; exact hc0
  have hc1 : cs5 247 = .inl (gY G 14, 16, .inl (fun _ => 0)) := by rw [e5, va_up_ne _ _ (by omega)]; exact hc1
  have hc2 : cs5 248 = refI G 23 248 16 := by rw [e5, va_up_ne _ _ (by omega)]; exact hc2
  have hc19 : cs5 265 = .inl (gY G 14, 10, .inl (fun _ => 0)) := by rw [e5]; exact va_up_self _ _ _
  have hr3 : ∀ n, 249 ≤ n → n < 265 → cs5 n = finY G n := fun n a b => by rw [e5, va_up_ne _ _ (by omega)]; exact hr3 n a b
  have hlo : ∀ n, n < 246 → cs5 n = cs n := fun n a => by rw [e5, va_up_ne _ _ (by omega)] <;> exact hlo n a
  clear e5
  refine ry_putF ff_X6_20 rfl (by omega) hc0 rfl rfl (nlt rfl) dX6_init_29 ?_
  refine ry_cs (fun cs6 e6 => ?_)
  have hc1 : cs6 247 = .inl (gY G 14, 16, .inl (fun _ => 0)) := by rw [e6, va_up_ne _ _ (by omega)]; exact hc1
  have hc2 : cs6 248 = refI G 23 248 16 := by rw [e6, va_up_ne _ _ (by omega)]; exact hc2
  have hc19 : cs6 265 = .inl (gY G 14, 10, .inl (fun _ => 0)) := by rw [e6, va_up_ne _ _ (by omega)]; exact hc19
  have hc0 : cs6 246 = .inr (6, [.ref (gA G 247), .ref (gA G 248), .ref (gA G 265), .int 0]) := by rw [e6]; exact va_up_self _ _ _
  have hr3 : ∀ n, 249 ≤ n → n < 265 → cs6 n = finY G n := fun n a b => by rw [e6, va_up_ne _ _ (by omega)]; exact hr3 n a b
  have hlo : ∀ n, n < 246 → cs6 n = cs n := fun n a => by rw [e6, va_up_ne _ _ (by omega)] <;> exact hlo n a
  clear e6
  refine ry_ret dX6_init_32 ⟨by omega, hlo, fun n a b => ?_⟩
  rcases (show n = 246 ∨ n = 247 ∨ n = 248 ∨ n = 265 ∨ (249 ≤ n ∧ n < 265) by omega) with rfl | rfl | rfl | rfl | q
  · rw [hc0]; exact (fyj_6_0).symm
  · rw [hc1]; exact (fyj_6_1).symm
  · rw [hc2]; exact (fyj_6_2).symm
  · rw [hc19]; exact (fyj_6_19).symm
  · exact hr3 n q.1 q.2
