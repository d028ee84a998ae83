/-! ===== the constructors ===== -/
set_option maxRecDepth 20000 in
theorem cX1_init (G : GT) (d : Nat) {t : Nat} (hk : Is t 1) {cs : Nat → va_E} (hc0 : cs t = .inr (1, [.int 0, .null, .null])) : SpecY G yX1_init cX1_init 1 (d + 1) 2 16 [.ref (gA G t)] (t + 1) cs (Kc G t 3 cs) := by
  refine ry_spec (by decide) (Nat.le_of_ble_eq_true rfl) ?_
  have hlo : ∀ n, n < t → cs n = cs n := fun _ _ => rfl
  have htN := hk.1
  show RunY G RX1 "<init>" cX1_init 1 none _ 0 0 0 [(0, .ref (gA G t))] [] (t + 1) cs
  refine ry_aload_n 0 dX1_init_0 rfl rfl ?_
  refine ry_objInit wm_X1_3 w_oi w_oc (show 1 ≤ d + 1 by omega) (show 30 ≤ 30 * (d + 1) by omega) rfl dX1_init_1 ?_
  refine ry_aload_n 0 dX1_init_4 rfl rfl ?_
  refine ry_bipush (v := 8) dX1_init_5 rfl ?_
  refine ry_newa (κ := 14) (n := 8) (atype := .int) (ty := .int) (t0 := 1) rfl wa_int rfl (fun _ _ => Iff.rfl) rfl (by decide) rfl (by decide) (by decide) (by decide) dX1_init_7 ?_
  refine ry_cs (fun cs1 e1 => ?_)
  have hc0 : cs1 t = .inr (1, [.int 0, .null, .null]) := by rw [e1, va_up_ne _ _ (by omega)]; exact hc0
  have hc1 : cs1 (t + 1) = .inl (gY G 14, 8, .inl (fun _ => 0)) := by rw [e1]; exact va_up_self _ _ _
  have hlo : ∀ n, n < t → cs1 n = cs n := fun n a => by rw [e1, va_up_ne _ _ (by omega)]; exact hlo n a
  clear e1
  refine ry_putF ff_X1_9 rfl (by omega) hc0 rfl rfl (by decide) dX1_init_9 ?_
  refine ry_cs (fun cs2 e2 => ?_)
  have hc1 : cs2 (t + 1) = .inl (gY G 14, 8, .inl (fun _ => 0)) := by rw [e2, va_up_ne _ _ (by omega)]; exact hc1
  have hc0 : cs2 t = .inr (1, [.int 0, .ref (gA G (t + 1)), .null]) := by rw [e2]; exact va_up_self _ _ _
  have hlo : ∀ n, n < t → cs2 n = cs n := fun n a => by rw [e2, va_up_ne _ _ (by omega)]; exact hlo n a
  clear e2
  refine ry_aload_n 0 dX1_init_12 rfl rfl ?_
  refine ry_bipush (v := 8) dX1_init_13 rfl ?_
  refine ry_newa (κ := 14) (n := 8) (atype := .int) (ty := .int) (t0 := 1) rfl wa_int rfl (fun _ _ => Iff.rfl) rfl (by decide) rfl (by decide) (by decide) (by decide) dX1_init_15 ?_
  refine ry_cs (fun cs3 e3 => ?_)
  have hc0 : cs3 t = .inr (1, [.int 0, .ref (gA G (t + 1)), .null]) := by rw [e3, va_up_ne _ _ (by omega)]; exact hc0
  have hc1 : cs3 (t + 1) = .inl (gY G 14, 8, .inl (fun _ => 0)) := by rw [e3, va_up_ne _ _ (by omega)]; exact hc1
  have hc2 : cs3 (t + 2) = .inl (gY G 14, 8, .inl (fun _ => 0)) := by rw [e3]; exact va_up_self _ _ _
  have hlo : ∀ n, n < t → cs3 n = cs n := fun n a => by rw [e3, va_up_ne _ _ (by omega)]; exact hlo n a
  clear e3
  refine ry_putF ff_X1_15 rfl (by omega) hc0 rfl rfl (by decide) dX1_init_17 ?_
  refine ry_cs (fun cs4 e4 => ?_)
  have hc1 : cs4 (t + 1) = .inl (gY G 14, 8, .inl (fun _ => 0)) := by rw [e4, va_up_ne _ _ (by omega)]; exact hc1
  have hc2 : cs4 (t + 2) = .inl (gY G 14, 8, .inl (fun _ => 0)) := by rw [e4, va_up_ne _ _ (by omega)]; exact hc2
  have hc0 : cs4 t = .inr (1, [.int 0, .ref (gA G (t + 1)), .ref (gA G (t + 2))]) := by rw [e4]; exact va_up_self _ _ _
  have hlo : ∀ n, n < t → cs4 n = cs n := fun n a => by rw [e4, va_up_ne _ _ (by omega)]; exact hlo n a
  clear e4
  refine ry_ret dX1_init_20 ⟨by omega, hlo, fun n a b => ?_⟩
  rcases (show n = t ∨ n = (t + 1) ∨ n = (t + 2) by omega) with rfl | rfl | rfl
  · rw [hc0]; exact (fyj_1_0 hk).symm
  · rw [hc1]; exact (fyj_1_1 hk).symm
  · rw [hc2]; exact (fyj_1_2 hk).symm
set_option maxRecDepth 20000 in
theorem cX2_init (G : GT) (d : Nat) {t : Nat} (hk : Is t 2) {cs : Nat → va_E} (hc0 : cs t = .inr (2, [.int 0, .int 0, .int 0, .int 0, .int 0, .int 0, .int 0, .int 0, .int 0, .int 0, .null])) : SpecY G yX2_init cX2_init 1 (d + 1) 1 10 [.ref (gA G t)] (t + 1) cs (Kc G t 2 cs) := by
  refine ry_spec (by decide) (Nat.le_of_ble_eq_true rfl) ?_
  have hlo : ∀ n, n < t → cs n = cs n := fun _ _ => rfl
  have htN := hk.1
  show RunY G RX2 "<init>" cX2_init 1 none _ 0 0 0 [(0, .ref (gA G t))] [] (t + 1) cs
  refine ry_aload_n 0 dX2_init_0 rfl rfl ?_
  refine ry_objInit wm_X2_3 w_oi w_oc (show 1 ≤ d + 1 by omega) (show 30 ≤ 30 * (d + 1) by omega) rfl dX2_init_1 ?_
  refine ry_aload_n 0 dX2_init_4 rfl rfl ?_
  refine ry_bipush (v := 10) dX2_init_5 rfl ?_
  refine ry_newa (κ := 14) (n := 10) (atype := .int) (ty := .int) (t0 := 1) rfl wa_int rfl (fun _ _ => Iff.rfl) rfl (by decide) rfl (by decide) (by decide) (by decide) dX2_init_7 ?_
  refine ry_cs (fun cs1 e1 => ?_)
  have hc0 : cs1 t = .inr (2, [.int 0, .int 0, .int 0, .int 0, .int 0, .int 0, .int 0, .int 0, .int 0, .int 0, .null]) := by rw [e1, va_up_ne _ _ (by omega)]; exact hc0
  have hc1 : cs1 (t + 1) = .inl (gY G 14, 10, .inl (fun _ => 0)) := by rw [e1]; exact va_up_self _ _ _
  have hlo : ∀ n, n < t → cs1 n = cs n := fun n a => by rw [e1, va_up_ne _ _ (by omega)]; exact hlo n a
  clear e1
  refine ry_putF ff_X2_9 rfl (by omega) hc0 rfl rfl (by decide) dX2_init_9 ?_
  refine ry_cs (fun cs2 e2 => ?_)
  have hc1 : cs2 (t + 1) = .inl (gY G 14, 10, .inl (fun _ => 0)) := by rw [e2, va_up_ne _ _ (by omega)]; exact hc1
  have hc0 : cs2 t = .inr (2, [.int 0, .int 0, .int 0, .int 0, .int 0, .int 0, .int 0, .int 0, .int 0, .int 0, .ref (gA G (t + 1))]) := by rw [e2]; exact va_up_self _ _ _
  have hlo : ∀ n, n < t → cs2 n = cs n := fun n a => by rw [e2, va_up_ne _ _ (by omega)]; exact hlo n a
  clear e2
  refine ry_ret dX2_init_12 ⟨by omega, hlo, fun n a b => ?_⟩
  rcases (show n = t ∨ n = (t + 1) by omega) with rfl | rfl
  · rw [hc0]; exact (fyj_2_0 hk).symm
  · rw [hc1]; exact (fyj_2_1 hk).symm
set_option maxRecDepth 20000 in
theorem cX4_init (G : GT) (d : Nat) {t : Nat} (hk : Is t 4) {cs : Nat → va_E} (hc0 : cs t = .inr (4, [.int 0, .null, .null, .null])) : SpecY G yX4_init cX4_init 1 (d + 1) 3 120 [.ref (gA G t)] (t + 1) cs (Kc G t 4 cs) := by
  refine ry_spec (by decide) (Nat.le_of_ble_eq_true rfl) ?_
  have hlo : ∀ n, n < t → cs n = cs n := fun _ _ => rfl
  have htN := hk.1
  show RunY G RX4 "<init>" cX4_init 1 none _ 0 0 0 [(0, .ref (gA G t))] [] (t + 1) cs
  refine ry_aload_n 0 dX4_init_0 rfl rfl ?_
  refine ry_objInit wm_X4_3 w_oi w_oc (show 1 ≤ d + 1 by omega) (show 30 ≤ 30 * (d + 1) by omega) rfl dX4_init_1 ?_
  refine ry_aload_n 0 dX4_init_4 rfl rfl ?_
  refine ry_bipush (v := 40) dX4_init_5 rfl ?_
  refine ry_newa (κ := 14) (n := 40) (atype := .int) (ty := .int) (t0 := 1) rfl wa_int rfl (fun _ _ => Iff.rfl) rfl (by decide) rfl (by decide) (by decide) (by decide) dX4_init_7 ?_
  refine ry_cs (fun cs1 e1 => ?_)
  have hc0 : cs1 t = .inr (4, [.int 0, .null, .null, .null]) := by rw [e1, va_up_ne _ _ (by omega)]; exact hc0
  have hc1 : cs1 (t + 1) = .inl (gY G 14, 40, .inl (fun _ => 0)) := by rw [e1]; exact va_up_self _ _ _
  have hlo : ∀ n, n < t → cs1 n = cs n := fun n a => by rw [e1, va_up_ne _ _ (by omega)]; exact hlo n a
  clear e1
  refine ry_putF ff_X4_9 rfl (by omega) hc0 rfl rfl (by decide) dX4_init_9 ?_
  refine ry_cs (fun cs2 e2 => ?_)
  have hc1 : cs2 (t + 1) = .inl (gY G 14, 40, .inl (fun _ => 0)) := by rw [e2, va_up_ne _ _ (by omega)]; exact hc1
  have hc0 : cs2 t = .inr (4, [.int 0, .ref (gA G (t + 1)), .null, .null]) := by rw [e2]; exact va_up_self _ _ _
  have hlo : ∀ n, n < t → cs2 n = cs n := fun n a => by rw [e2, va_up_ne _ _ (by omega)]; exact hlo n a
  clear e2
  refine ry_aload_n 0 dX4_init_12 rfl rfl ?_
  refine ry_bipush (v := 40) dX4_init_13 rfl ?_
  refine ry_newa (κ := 14) (n := 40) (atype := .int) (ty := .int) (t0 := 1) rfl wa_int rfl (fun _ _ => Iff.rfl) rfl (by decide) rfl (by decide) (by decide) (by decide) dX4_init_15 ?_
  refine ry_cs (fun cs3 e3 => ?_)
  have hc0 : cs3 t = .inr (4, [.int 0, .ref (gA G (t + 1)), .null, .null]) := by rw [e3, va_up_ne _ _ (by omega)]; exact hc0
  have hc1 : cs3 (t + 1) = .inl (gY G 14, 40, .inl (fun _ => 0)) := by rw [e3, va_up_ne _ _ (by omega)]; exact hc1
  have hc2 : cs3 (t + 2) = .inl (gY G 14, 40, .inl (fun _ => 0)) := by rw [e3]; exact va_up_self _ _ _
  have hlo : ∀ n, n < t → cs3 n = cs n := fun n a => by rw [e3, va_up_ne _ _ (by omega)]; exact hlo n a
  clear e3
  refine ry_putF ff_X4_15 rfl (by omega) hc0 rfl rfl (by decide) dX4_init_17 ?_
  refine ry_cs (fun cs4 e4 => ?_)
  have hc1 : cs4 (t + 1) = .inl (gY G 14, 40, .inl (fun _ => 0)) := by rw [e4, va_up_ne _ _ (by omega)]; exact hc1
  have hc2 : cs4 (t + 2) = .inl (gY G 14, 40, .inl (fun _ => 0)) := by rw [e4, va_up_ne _ _ (by omega)]; exact hc2
  have hc0 : cs4 t = .inr (4, [.int 0, .ref (gA G (t + 1)), .ref (gA G (t + 2)), .null]) := by rw [e4]; exact va_up_self _ _ _
  have hlo : ∀ n, n < t → cs4 n = cs n := fun n a => by rw [e4, va_up_ne _ _ (by omega)]; exact hlo n a
  clear e4
  refine ry_aload_n 0 dX4_init_20 rfl rfl ?_
  refine ry_bipush (v := 40) dX4_init_21 rfl ?_
  refine ry_newa (κ := 14) (n := 40) (atype := .int) (ty := .int) (t0 := 1) rfl wa_int rfl (fun _ _ => Iff.rfl) rfl (by decide) rfl (by decide) (by decide) (by decide) dX4_init_23 ?_
  refine ry_cs (fun cs5 e5 => ?_)
  have hc0 : cs5 t = .inr (4, [.int 0, .ref (gA G (t + 1)), .ref (gA G (t + 2)), .null]) := by rw [e5, va_up_ne _ _ (by omega)]; exact hc0
  have hc1 : cs5 (t + 1) = .inl (gY G 14, 40, .inl (fun _ => 0)) := by rw [e5, va_up_ne _ _ (by omega)]; exact hc1
  have hc2 : cs5 (t + 2) = .inl (gY G 14, 40, .inl (fun _ => 0)) := by rw [e5, va_up_ne _ _ (by omega)]; exact hc2
  have hc3 : cs5 (t + 3) = .inl (gY G 14, 40, .inl (fun _ => 0)) := by rw [e5]; exact va_up_self _ _ _
  have hlo : ∀ n, n < t → cs5 n = cs n := fun n a => by rw [e5, va_up_ne _ _ (by omega)]; exact hlo n a
  clear e5
  refine ry_putF ff_X4_18 rfl (by omega) hc0 rfl rfl (by decide) dX4_init_25 ?_
  refine ry_cs (fun cs6 e6 => ?_)
  have hc1 : cs6 (t + 1) = .inl (gY G 14, 40, .inl (fun _ => 0)) := by rw [e6, va_up_ne _ _ (by omega)]; exact hc1
  have hc2 : cs6 (t + 2) = .inl (gY G 14, 40, .inl (fun _ => 0)) := by rw [e6, va_up_ne _ _ (by omega)]; exact hc2
  have hc3 : cs6 (t + 3) = .inl (gY G 14, 40, .inl (fun _ => 0)) := by rw [e6, va_up_ne _ _ (by omega)]; exact hc3
  have hc0 : cs6 t = .inr (4, [.int 0, .ref (gA G (t + 1)), .ref (gA G (t + 2)), .ref (gA G (t + 3))]) := by rw [e6]; exact va_up_self _ _ _
  have hlo : ∀ n, n < t → cs6 n = cs n := fun n a => by rw [e6, va_up_ne _ _ (by omega)]; exact hlo n a
  clear e6
  refine ry_ret dX4_init_28 ⟨by omega, hlo, fun n a b => ?_⟩
  rcases (show n = t ∨ n = (t + 1) ∨ n = (t + 2) ∨ n = (t + 3) by omega) with rfl | rfl | rfl | rfl
  · rw [hc0]; exact (fyj_4_0 hk).symm
  · rw [hc1]; exact (fyj_4_1 hk).symm
  · rw [hc2]; exact (fyj_4_2 hk).symm
  · rw [hc3]; exact (fyj_4_3 hk).symm
set_option maxRecDepth 20000 in
theorem cX8_init (G : GT) (d : Nat) {t : Nat} (hk : Is t 8) {cs : Nat → va_E} (hc0 : cs t = .inr (8, [.int 0, .null, .null, .null, .null])) : SpecY G yX8_init cX8_init 1 (d + 1) 4 133 [.ref (gA G t)] (t + 1) cs (Kc G t 5 cs) := by
  refine ry_spec (by decide) (Nat.le_of_ble_eq_true rfl) ?_
  have hlo : ∀ n, n < t → cs n = cs n := fun _ _ => rfl
  have htN := hk.1
  show RunY G RX8 "<init>" cX8_init 1 none _ 0 0 0 [(0, .ref (gA G t))] [] (t + 1) cs
  refine ry_aload_n 0 dX8_init_0 rfl rfl ?_
  refine ry_objInit wm_X8_3 w_oi w_oc (show 1 ≤ d + 1 by omega) (show 30 ≤ 30 * (d + 1) by omega) rfl dX8_init_1 ?_
  refine ry_aload_n 0 dX8_init_4 rfl rfl ?_
  refine ry_bipush (v := 7) dX8_init_5 rfl ?_
  refine ry_newa (κ := 14) (n := 7) (atype := .int) (ty := .int) (t0 := 1) rfl wa_int rfl (fun _ _ => Iff.rfl) rfl (by decide) rfl (by decide) (by decide) (by decide) dX8_init_7 ?_
  refine ry_cs (fun cs1 e1 => ?_)
  have hc0 : cs1 t = .inr (8, [.int 0, .null, .null, .null, .null]) := by rw [e1, va_up_ne _ _ (by omega)]; exact hc0
  have hc1 : cs1 (t + 1) = .inl (gY G 14, 7, .inl (fun _ => 0)) := by rw [e1]; exact va_up_self _ _ _
  have hlo : ∀ n, n < t → cs1 n = cs n := fun n a => by rw [e1, va_up_ne _ _ (by omega)]; exact hlo n a
  clear e1
  refine ry_putF ff_X8_9 rfl (by omega) hc0 rfl rfl (by decide) dX8_init_9 ?_
  refine ry_cs (fun cs2 e2 => ?_)
  have hc1 : cs2 (t + 1) = .inl (gY G 14, 7, .inl (fun _ => 0)) := by rw [e2, va_up_ne _ _ (by omega)]; exact hc1
  have hc0 : cs2 t = .inr (8, [.int 0, .ref (gA G (t + 1)), .null, .null, .null]) := by rw [e2]; exact va_up_self _ _ _
  have hlo : ∀ n, n < t → cs2 n = cs n := fun n a => by rw [e2, va_up_ne _ _ (by omega)]; exact hlo n a
  clear e2
  refine ry_aload_n 0 dX8_init_12 rfl rfl ?_
  refine ry_bipush (v := 42) dX8_init_13 rfl ?_
  refine ry_newa (κ := 14) (n := 42) (atype := .int) (ty := .int) (t0 := 1) rfl wa_int rfl (fun _ _ => Iff.rfl) rfl (by decide) rfl (by decide) (by decide) (by decide) dX8_init_15 ?_
  refine ry_cs (fun cs3 e3 => ?_)
  have hc0 : cs3 t = .inr (8, [.int 0, .ref (gA G (t + 1)), .null, .null, .null]) := by rw [e3, va_up_ne _ _ (by omega)]; exact hc0
  have hc1 : cs3 (t + 1) = .inl (gY G 14, 7, .inl (fun _ => 0)) := by rw [e3, va_up_ne _ _ (by omega)]; exact hc1
  have hc2 : cs3 (t + 2) = .inl (gY G 14, 42, .inl (fun _ => 0)) := by rw [e3]; exact va_up_self _ _ _
  have hlo : ∀ n, n < t → cs3 n = cs n := fun n a => by rw [e3, va_up_ne _ _ (by omega)]; exact hlo n a
  clear e3
  refine ry_putF ff_X8_15 rfl (by omega) hc0 rfl rfl (by decide) dX8_init_17 ?_
  refine ry_cs (fun cs4 e4 => ?_)
  have hc1 : cs4 (t + 1) = .inl (gY G 14, 7, .inl (fun _ => 0)) := by rw [e4, va_up_ne _ _ (by omega)]; exact hc1
  have hc2 : cs4 (t + 2) = .inl (gY G 14, 42, .inl (fun _ => 0)) := by rw [e4, va_up_ne _ _ (by omega)]; exact hc2
  have hc0 : cs4 t = .inr (8, [.int 0, .ref (gA G (t + 1)), .ref (gA G (t + 2)), .null, .null]) := by rw [e4]; exact va_up_self _ _ _
  have hlo : ∀ n, n < t → cs4 n = cs n := fun n a => by rw [e4, va_up_ne _ _ (by omega)]; exact hlo n a
  clear e4
  refine ry_aload_n 0 dX8_init_20 rfl rfl ?_
  refine ry_bipush (v := 42) dX8_init_21 rfl ?_
  refine ry_newa (κ := 14) (n := 42) (atype := .int) (ty := .int) (t0 := 1) rfl wa_int rfl (fun _ _ => Iff.rfl) rfl (by decide) rfl (by decide) (by decide) (by decide) dX8_init_23 ?_
  refine ry_cs (fun cs5 e5 => ?_)
  have hc0 : cs5 t = .inr (8, [.int 0, .ref (gA G (t + 1)), .ref (gA G (t + 2)), .null, .null]) := by rw [e5, va_up_ne _ _ (by omega)]; exact hc0
  have hc1 : cs5 (t + 1) = .inl (gY G 14, 7, .inl (fun _ => 0)) := by rw [e5, va_up_ne _ _ (by omega)]; exact hc1
  have hc2 : cs5 (t + 2) = .inl (gY G 14, 42, .inl (fun _ => 0)) := by rw [e5, va_up_ne _ _ (by omega)]; exact hc2
  have hc3 : cs5 (t + 3) = .inl (gY G 14, 42, .inl (fun _ => 0)) := by rw [e5]; exact va_up_self _ _ _
  have hlo : ∀ n, n < t → cs5 n = cs n := fun n a => by rw [e5, va_up_ne _ _ (by omega)]; exact hlo n a
  clear e5
  refine ry_putF ff_X8_18 rfl (by omega) hc0 rfl rfl (by decide) dX8_init_25 ?_
  refine ry_cs (fun cs6 e6 => ?_)
  have hc1 : cs6 (t + 1) = .inl (gY G 14, 7, .inl (fun _ => 0)) := by rw [e6, va_up_ne _ _ (by omega)]; exact hc1
  have hc2 : cs6 (t + 2) = .inl (gY G 14, 42, .inl (fun _ => 0)) := by rw [e6, va_up_ne _ _ (by omega)]; exact hc2
  have hc3 : cs6 (t + 3) = .inl (gY G 14, 42, .inl (fun _ => 0)) := by rw [e6, va_up_ne _ _ (by omega)]; exact hc3
  have hc0 : cs6 t = .inr (8, [.int 0, .ref (gA G (t + 1)), .ref (gA G (t + 2)), .ref (gA G (t + 3)), .null]) := by rw [e6]; exact va_up_self _ _ _
  have hlo : ∀ n, n < t → cs6 n = cs n := fun n a => by rw [e6, va_up_ne _ _ (by omega)]; exact hlo n a
  clear e6
  refine ry_aload_n 0 dX8_init_28 rfl rfl ?_
  refine ry_bipush (v := 42) dX8_init_29 rfl ?_
  refine ry_newa (κ := 14) (n := 42) (atype := .int) (ty := .int) (t0 := 1) rfl wa_int rfl (fun _ _ => Iff.rfl) rfl (by decide) rfl (by decide) (by decide) (by decide) dX8_init_31 ?_
  refine ry_cs (fun cs7 e7 => ?_)
  have hc0 : cs7 t = .inr (8, [.int 0, .ref (gA G (t + 1)), .ref (gA G (t + 2)), .ref (gA G (t + 3)), .null]) := by rw [e7, va_up_ne _ _ (by omega)]; exact hc0
  have hc1 : cs7 (t + 1) = .inl (gY G 14, 7, .inl (fun _ => 0)) := by rw [e7, va_up_ne _ _ (by omega)]; exact hc1
  have hc2 : cs7 (t + 2) = .inl (gY G 14, 42, .inl (fun _ => 0)) := by rw [e7, va_up_ne _ _ (by omega)]; exact hc2
  have hc3 : cs7 (t + 3) = .inl (gY G 14, 42, .inl (fun _ => 0)) := by rw [e7, va_up_ne _ _ (by omega)]; exact hc3
  have hc4 : cs7 (t + 4) = .inl (gY G 14, 42, .inl (fun _ => 0)) := by rw [e7]; exact va_up_self _ _ _
  have hlo : ∀ n, n < t → cs7 n = cs n := fun n a => by rw [e7, va_up_ne _ _ (by omega)]; exact hlo n a
  clear e7
  refine ry_putF ff_X8_21 rfl (by omega) hc0 rfl rfl (by decide) dX8_init_33 ?_
  refine ry_cs (fun cs8 e8 => ?_)
  have hc1 : cs8 (t + 1) = .inl (gY G 14, 7, .inl (fun _ => 0)) := by rw [e8, va_up_ne _ _ (by omega)]; exact hc1
  have hc2 : cs8 (t + 2) = .inl (gY G 14, 42, .inl (fun _ => 0)) := by rw [e8, va_up_ne _ _ (by omega)]; exact hc2
  have hc3 : cs8 (t + 3) = .inl (gY G 14, 42, .inl (fun _ => 0)) := by rw [e8, va_up_ne _ _ (by omega)]; exact hc3
  have hc4 : cs8 (t + 4) = .inl (gY G 14, 42, .inl (fun _ => 0)) := by rw [e8, va_up_ne _ _ (by omega)]; exact hc4
  have hc0 : cs8 t = .inr (8, [.int 0, .ref (gA G (t + 1)), .ref (gA G (t + 2)), .ref (gA G (t + 3)), .ref (gA G (t + 4))]) := by rw [e8]; exact va_up_self _ _ _
  have hlo : ∀ n, n < t → cs8 n = cs n := fun n a => by rw [e8, va_up_ne _ _ (by omega)]; exact hlo n a
  clear e8
  refine ry_ret dX8_init_36 ⟨by omega, hlo, fun n a b => ?_⟩
  rcases (show n = t ∨ n = (t + 1) ∨ n = (t + 2) ∨ n = (t + 3) ∨ n = (t + 4) by omega) with rfl | rfl | rfl | rfl | rfl
  · rw [hc0]; exact (fyj_8_0 hk).symm
  · rw [hc1]; exact (fyj_8_1 hk).symm
  · rw [hc2]; exact (fyj_8_2 hk).symm
  · rw [hc3]; exact (fyj_8_3 hk).symm
  · rw [hc4]; exact (fyj_8_4 hk).symm
set_option maxRecDepth 20000 in
theorem cX10_init (G : GT) (d : Nat) {t : Nat} (hk : Is t 10) {cs : Nat → va_E} (hc0 : cs t = .inr (10, [.int 0, .int 0, .int 0, .int 0, .int 0, .int 0, .int 0, .int 0, .int 0, .null, .null, .null])) : SpecY G yX10_init cX10_init 1 (d + 1) 3 30 [.ref (gA G t)] (t + 1) cs (Kc G t 4 cs) := by
  refine ry_spec (by decide) (Nat.le_of_ble_eq_true rfl) ?_
  have hlo : ∀ n, n < t → cs n = cs n := fun _ _ => rfl
  have htN := hk.1
  show RunY G RX10 "<init>" cX10_init 1 none _ 0 0 0 [(0, .ref (gA G t))] [] (t + 1) cs
  refine ry_aload_n 0 dX10_init_0 rfl rfl ?_
  refine ry_objInit wm_X10_3 w_oi w_oc (show 1 ≤ d + 1 by omega) (show 30 ≤ 30 * (d + 1) by omega) rfl dX10_init_1 ?_
  refine ry_aload_n 0 dX10_init_4 rfl rfl ?_
  refine ry_bipush (v := 10) dX10_init_5 rfl ?_
  refine ry_newa (κ := 14) (n := 10) (atype := .int) (ty := .int) (t0 := 1) rfl wa_int rfl (fun _ _ => Iff.rfl) rfl (by decide) rfl (by decide) (by decide) (by decide) dX10_init_7 ?_
  refine ry_cs (fun cs1 e1 => ?_)
  have hc0 : cs1 t = .inr (10, [.int 0, .int 0, .int 0, .int 0, .int 0, .int 0, .int 0, .int 0, .int 0, .null, .null, .null]) := by rw [e1, va_up_ne _ _ (by omega)]; exact hc0
  have hc1 : cs1 (t + 1) = .inl (gY G 14, 10, .inl (fun _ => 0)) := by rw [e1]; exact va_up_self _ _ _
  have hlo : ∀ n, n < t → cs1 n = cs n := fun n a => by rw [e1, va_up_ne _ _ (by omega)]; exact hlo n a
  clear e1
  refine ry_putF ff_X10_9 rfl (by omega) hc0 rfl rfl (by decide) dX10_init_9 ?_
  refine ry_cs (fun cs2 e2 => ?_)
  have hc1 : cs2 (t + 1) = .inl (gY G 14, 10, .inl (fun _ => 0)) := by rw [e2, va_up_ne _ _ (by omega)]; exact hc1
  have hc0 : cs2 t = .inr (10, [.int 0, .int 0, .int 0, .int 0, .int 0, .int 0, .int 0, .int 0, .int 0, .ref (gA G (t + 1)), .null, .null]) := by rw [e2]; exact va_up_self _ _ _
  have hlo : ∀ n, n < t → cs2 n = cs n := fun n a => by rw [e2, va_up_ne _ _ (by omega)]; exact hlo n a
  clear e2
  refine ry_aload_n 0 dX10_init_12 rfl rfl ?_
  refine ry_bipush (v := 10) dX10_init_13 rfl ?_
  refine ry_newa (κ := 14) (n := 10) (atype := .int) (ty := .int) (t0 := 1) rfl wa_int rfl (fun _ _ => Iff.rfl) rfl (by decide) rfl (by decide) (by decide) (by decide) dX10_init_15 ?_
  refine ry_cs (fun cs3 e3 => ?_)
  have hc0 : cs3 t = .inr (10, [.int 0, .int 0, .int 0, .int 0, .int 0, .int 0, .int 0, .int 0, .int 0, .ref (gA G (t + 1)), .null, .null]) := by rw [e3, va_up_ne _ _ (by omega)]; exact hc0
  have hc1 : cs3 (t + 1) = .inl (gY G 14, 10, .inl (fun _ => 0)) := by rw [e3, va_up_ne _ _ (by omega)]; exact hc1
  have hc2 : cs3 (t + 2) = .inl (gY G 14, 10, .inl (fun _ => 0)) := by rw [e3]; exact va_up_self _ _ _
  have hlo : ∀ n, n < t → cs3 n = cs n := fun n a => by rw [e3, va_up_ne _ _ (by omega)]; exact hlo n a
  clear e3
  refine ry_putF ff_X10_15 rfl (by omega) hc0 rfl rfl (by decide) dX10_init_17 ?_
  refine ry_cs (fun cs4 e4 => ?_)
  have hc1 : cs4 (t + 1) = .inl (gY G 14, 10, .inl (fun _ => 0)) := by rw [e4, va_up_ne _ _ (by omega)]; exact hc1
  have hc2 : cs4 (t + 2) = .inl (gY G 14, 10, .inl (fun _ => 0)) := by rw [e4, va_up_ne _ _ (by omega)]; exact hc2
  have hc0 : cs4 t = .inr (10, [.int 0, .int 0, .int 0, .int 0, .int 0, .int 0, .int 0, .int 0, .int 0, .ref (gA G (t + 1)), .ref (gA G (t + 2)), .null]) := by rw [e4]; exact va_up_self _ _ _
  have hlo : ∀ n, n < t → cs4 n = cs n := fun n a => by rw [e4, va_up_ne _ _ (by omega)]; exact hlo n a
  clear e4
  refine ry_aload_n 0 dX10_init_20 rfl rfl ?_
  refine ry_bipush (v := 10) dX10_init_21 rfl ?_
  refine ry_newa (κ := 14) (n := 10) (atype := .int) (ty := .int) (t0 := 1) rfl wa_int rfl (fun _ _ => Iff.rfl) rfl (by decide) rfl (by decide) (by decide) (by decide) dX10_init_23 ?_
  refine ry_cs (fun cs5 e5 => ?_)
  have hc0 : cs5 t = .inr (10, [.int 0, .int 0, .int 0, .int 0, .int 0, .int 0, .int 0, .int 0, .int 0, .ref (gA G (t + 1)), .ref (gA G (t + 2)), .null]) := by rw [e5, va_up_ne _ _ (by omega)]; exact hc0
  have hc1 : cs5 (t + 1) = .inl (gY G 14, 10, .inl (fun _ => 0)) := by rw [e5, va_up_ne _ _ (by omega)]; exact hc1
  have hc2 : cs5 (t + 2) = .inl (gY G 14, 10, .inl (fun _ => 0)) := by rw [e5, va_up_ne _ _ (by omega)]; exact hc2
  have hc3 : cs5 (t + 3) = .inl (gY G 14, 10, .inl (fun _ => 0)) := by rw [e5]; exact va_up_self _ _ _
  have hlo : ∀ n, n < t → cs5 n = cs n := fun n a => by rw [e5, va_up_ne _ _ (by omega)]; exact hlo n a
  clear e5
  refine ry_putF ff_X10_18 rfl (by omega) hc0 rfl rfl (by decide) dX10_init_25 ?_
  refine ry_cs (fun cs6 e6 => ?_)
  have hc1 : cs6 (t + 1) = .inl (gY G 14, 10, .inl (fun _ => 0)) := by rw [e6, va_up_ne _ _ (by omega)]; exact hc1
  have hc2 : cs6 (t + 2) = .inl (gY G 14, 10, .inl (fun _ => 0)) := by rw [e6, va_up_ne _ _ (by omega)]; exact hc2
  have hc3 : cs6 (t + 3) = .inl (gY G 14, 10, .inl (fun _ => 0)) := by rw [e6, va_up_ne _ _ (by omega)]; exact hc3
  have hc0 : cs6 t = .inr (10, [.int 0, .int 0, .int 0, .int 0, .int 0, .int 0, .int 0, .int 0, .int 0, .ref (gA G (t + 1)), .ref (gA G (t + 2)), .ref (gA G (t + 3))]) := by rw [e6]; exact va_up_self _ _ _
  have hlo : ∀ n, n < t → cs6 n = cs n := fun n a => by rw [e6, va_up_ne _ _ (by omega)]; exact hlo n a
  clear e6
  refine ry_ret dX10_init_28 ⟨by omega, hlo, fun n a b => ?_⟩
  rcases (show n = t ∨ n = (t + 1) ∨ n = (t + 2) ∨ n = (t + 3) by omega) with rfl | rfl | rfl | rfl
  · rw [hc0]; exact (fyj_10_0 hk).symm
  · rw [hc1]; exact (fyj_10_1 hk).symm
  · rw [hc2]; exact (fyj_10_2 hk).symm
  · rw [hc3]; exact (fyj_10_3 hk).symm
set_option maxRecDepth 20000 in
theorem cX7_init (G : GT) (d : Nat) {t : Nat} (hk : Is t 7) {cs : Nat → va_E} (hc0 : cs t = .inr (7, [.int 0, .int 0, .null])) : SpecY G yX7_init cX7_init 1 (d + 3) 1 10 [.ref (gA G t)] (t + 1) cs (Kc G t 2 cs) := by
  refine ry_spec (by decide) (Nat.le_of_ble_eq_true rfl) ?_
  have hlo : ∀ n, n < t → cs n = cs n := fun _ _ => rfl
  have htN := hk.1
  show RunY G RX7 "<init>" cX7_init 1 none _ 0 0 0 [(0, .ref (gA G t))] [] (t + 1) cs
  refine ry_aload_n 0 dX7_init_0 rfl rfl ?_
  refine ry_objInit wm_X7_3 w_oi w_oc (show 1 ≤ d + 3 by omega) (show 30 ≤ 30 * (d + 3) by omega) rfl dX7_init_1 ?_
  refine ry_aload_n 0 dX7_init_4 rfl rfl ?_
  refine ry_bipush (v := 10) dX7_init_5 rfl ?_
  refine ry_newa (κ := 14) (n := 10) (atype := .int) (ty := .int) (t0 := 1) rfl wa_int rfl (fun _ _ => Iff.rfl) rfl (by decide) rfl (by decide) (by decide) (by decide) dX7_init_7 ?_
  refine ry_cs (fun cs1 e1 => ?_)
  have hc0 : cs1 t = .inr (7, [.int 0, .int 0, .null]) := by rw [e1, va_up_ne _ _ (by omega)]; exact hc0
  have hc1 : cs1 (t + 1) = .inl (gY G 14, 10, .inl (fun _ => 0)) := by rw [e1]; exact va_up_self _ _ _
  have hlo : ∀ n, n < t → cs1 n = cs n := fun n a => by rw [e1, va_up_ne _ _ (by omega)]; exact hlo n a
  clear e1
  refine ry_putF ff_X7_9 rfl (by omega) hc0 rfl rfl (by decide) dX7_init_9 ?_
  refine ry_cs (fun cs2 e2 => ?_)
  have hc1 : cs2 (t + 1) = .inl (gY G 14, 10, .inl (fun _ => 0)) := by rw [e2, va_up_ne _ _ (by omega)]; exact hc1
  have hc0 : cs2 t = .inr (7, [.int 0, .int 0, .ref (gA G (t + 1))]) := by rw [e2]; exact va_up_self _ _ _
  have hlo : ∀ n, n < t → cs2 n = cs n := fun n a => by rw [e2, va_up_ne _ _ (by omega)]; exact hlo n a
  clear e2
  refine ry_aload_n 0 dX7_init_12 rfl rfl ?_
  refine ry_callV (As := []) (n := t) (ci := 7) (Kcl G t cs2) (fun _ _ h => h.1) mw_X7_clear mi_X7_clear ml_X7_15 (by omega) hc0 rfl rfl rfl ⟨show d + 2 + 1 ≤ d + 3 by omega, show 30 * (d + 2) + 30 ≤ 30 * (d + 3) by omega, by decide, by decide⟩ (Nat.le_of_ble_eq_true rfl) dX7_init_13 (cX7_clear G d hk hc0 hc1) (fun cs3 hK => ?_) rfl
  obtain ⟨-, hK1, hK2, hK3⟩ := hK
  have hlo : ∀ n, n < t → cs3 n = cs n := fun n a => (hK3 n (by omega) (by omega)).trans (hlo n a)
  have hc0 := hK1
  have hc1 := hK2
  refine ry_ret dX7_init_16 ⟨by omega, hlo, fun n a b => ?_⟩
  rcases (show n = t ∨ n = (t + 1) by omega) with rfl | rfl
  · rw [hc0]; exact (fyj_7_0 hk).symm
  · rw [hc1]; exact (fyj_7_1 hk).symm
set_option maxRecDepth 20000 in
theorem cX9_init (G : GT) (d : Nat) {t : Nat} (hk : Is t 9) {cs : Nat → va_E} (hc0 : cs t = .inr (9, [.null, .int 0, .int 0, .int 0, .null, .null, .null, .null, .null])) : SpecY G yX9_init cX9_init 2 (d + 4) 34 1200 [.ref (gA G t)] (t + 1) cs (Kc G t 35 cs) := by
  refine ry_spec (by decide) (Nat.le_of_ble_eq_true rfl) ?_
  have hlo : ∀ n, n < t → cs n = cs n := fun _ _ => rfl
  have htN := hk.1
  show RunY G RX9 "<init>" cX9_init 2 none _ 0 0 0 [(0, .ref (gA G t))] [] (t + 1) cs
  refine ry_aload_n 0 dX9_init_0 rfl rfl ?_
  refine ry_objInit wm_X9_3 w_oi w_oc (show 1 ≤ d + 4 by omega) (show 30 ≤ 30 * (d + 4) by omega) rfl dX9_init_1 ?_
  refine ry_aload_n 0 dX9_init_4 rfl rfl ?_
  refine ry_sipush (v := 600) dX9_init_5 rfl ?_
  refine ry_newa (κ := 13) (n := 600) (atype := .byte) (ty := .byte) (t0 := 0) rfl wa_byte rfl (fun _ _ => Iff.rfl) rfl (by decide) rfl (by decide) (by decide) (by decide) dX9_init_8 ?_
  refine ry_cs (fun cs1 e1 => ?_)
  have hc0 : cs1 t = .inr (9, [.null, .int 0, .int 0, .int 0, .null, .null, .null, .null, .null]) := by rw [e1, va_up_ne _ _ (by omega)]; exact hc0
  have hc1 : cs1 (t + 1) = .inl (gY G 13, 600, .inl (fun _ => 0)) := by rw [e1]; exact va_up_self _ _ _
  have hlo : ∀ n, n < t → cs1 n = cs n := fun n a => by rw [e1, va_up_ne _ _ (by omega)]; exact hlo n a
  clear e1
  refine ry_putF ff_X9_9 rfl (by omega) hc0 rfl rfl (by decide) dX9_init_10 ?_
  refine ry_cs (fun cs2 e2 => ?_)
  have hc1 : cs2 (t + 1) = .inl (gY G 13, 600, .inl (fun _ => 0)) := by rw [e2, va_up_ne _ _ (by omega)]; exact hc1
  have hc0 : cs2 t = .inr (9, [.ref (gA G (t + 1)), .int 0, .int 0, .int 0, .null, .null, .null, .null, .null]) := by rw [e2]; exact va_up_self _ _ _
  have hlo : ∀ n, n < t → cs2 n = cs n := fun n a => by rw [e2, va_up_ne _ _ (by omega)]; exact hlo n a
  clear e2
  refine ry_aload_n 0 dX9_init_13 rfl rfl ?_
  refine ry_iconst (v := -1) dX9_init_14 rfl ?_
  refine ry_put fp_X9_15 (by omega) hc0 rfl rfl (by decide) dX9_init_15 ?_
  refine ry_cs (fun cs3 e3 => ?_)
  have hc1 : cs3 (t + 1) = .inl (gY G 13, 600, .inl (fun _ => 0)) := by rw [e3, va_up_ne _ _ (by omega)]; exact hc1
  have hc0 : cs3 t = .inr (9, [.ref (gA G (t + 1)), .int 0, .int 0, .int (-1), .null, .null, .null, .null, .null]) := by rw [e3]; exact va_up_self _ _ _
  have hlo : ∀ n, n < t → cs3 n = cs n := fun n a => by rw [e3, va_up_ne _ _ (by omega)]; exact hlo n a
  clear e3
  refine ry_aload_n 0 dX9_init_18 rfl rfl ?_
  refine ry_iconst (v := 4) dX9_init_19 rfl ?_
  refine ry_newa (κ := 14) (n := 4) (atype := .int) (ty := .int) (t0 := 1) rfl wa_int rfl (fun _ _ => Iff.rfl) rfl (by decide) rfl (by decide) (by decide) (by decide) dX9_init_20 ?_
  refine ry_cs (fun cs4 e4 => ?_)
  have hc0 : cs4 t = .inr (9, [.ref (gA G (t + 1)), .int 0, .int 0, .int (-1), .null, .null, .null, .null, .null]) := by rw [e4, va_up_ne _ _ (by omega)]; exact hc0
  have hc1 : cs4 (t + 1) = .inl (gY G 13, 600, .inl (fun _ => 0)) := by rw [e4, va_up_ne _ _ (by omega)]; exact hc1
  have hc2 : cs4 (t + 2) = .inl (gY G 14, 4, .inl (fun _ => 0)) := by rw [e4]; exact va_up_self _ _ _
  have hlo : ∀ n, n < t → cs4 n = cs n := fun n a => by rw [e4, va_up_ne _ _ (by omega)]; exact hlo n a
  clear e4
  refine ry_putF ff_X9_19 rfl (by omega) hc0 rfl rfl (by decide) dX9_init_22 ?_
  refine ry_cs (fun cs5 e5 => ?_)
  have hc1 : cs5 (t + 1) = .inl (gY G 13, 600, .inl (fun _ => 0)) := by rw [e5, va_up_ne _ _ (by omega)]; exact hc1
  have hc2 : cs5 (t + 2) = .inl (gY G 14, 4, .inl (fun _ => 0)) := by rw [e5, va_up_ne _ _ (by omega)]; exact hc2
  have hc0 : cs5 t = .inr (9, [.ref (gA G (t + 1)), .int 0, .int 0, .int (-1), .ref (gA G (t + 2)), .null, .null, .null, .null]) := by rw [e5]; exact va_up_self _ _ _
  have hlo : ∀ n, n < t → cs5 n = cs n := fun n a => by rw [e5, va_up_ne _ _ (by omega)]; exact hlo n a
  clear e5
  refine ry_aload_n 0 dX9_init_25 rfl rfl ?_
  refine ry_iconst (v := 2) dX9_init_26 rfl ?_
  refine ry_newq (κ := 19) (n := 2) (t0 := 6) wc_X9_23 wo_7 rfl (by decide) rfl (ln_at_9_3 hk) (by decide) (by decide) (by decide) dX9_init_27 ?_
  refine ry_cs (fun cs6 e6 => ?_)
  have hc0 : cs6 t = .inr (9, [.ref (gA G (t + 1)), .int 0, .int 0, .int (-1), .ref (gA G (t + 2)), .null, .null, .null, .null]) := by rw [e6, va_up_ne _ _ (by omega)]; exact hc0
  have hc1 : cs6 (t + 1) = .inl (gY G 13, 600, .inl (fun _ => 0)) := by rw [e6, va_up_ne _ _ (by omega)]; exact hc1
  have hc2 : cs6 (t + 2) = .inl (gY G 14, 4, .inl (fun _ => 0)) := by rw [e6, va_up_ne _ _ (by omega)]; exact hc2
  have hc3 : cs6 (t + 3) = refI G 19 (t + 3) 0 := by rw [e6]; exact va_up_self _ _ _
  have hlo : ∀ n, n < t → cs6 n = cs n := fun n a => by rw [e6, va_up_ne _ _ (by omega)]; exact hlo n a
  clear e6
  refine ry_putF ff_X9_25 rfl (by omega) hc0 rfl rfl (by decide) dX9_init_30 ?_
  refine ry_cs (fun cs7 e7 => ?_)
  have hc1 : cs7 (t + 1) = .inl (gY G 13, 600, .inl (fun _ => 0)) := by rw [e7, va_up_ne _ _ (by omega)]; exact hc1
  have hc2 : cs7 (t + 2) = .inl (gY G 14, 4, .inl (fun _ => 0)) := by rw [e7, va_up_ne _ _ (by omega)]; exact hc2
  have hc3 : cs7 (t + 3) = refI G 19 (t + 3) 0 := by rw [e7, va_up_ne _ _ (by omega)]; exact hc3
  have hc0 : cs7 t = .inr (9, [.ref (gA G (t + 1)), .int 0, .int 0, .int (-1), .ref (gA G (t + 2)), .ref (gA G (t + 3)), .null, .null, .null]) := by rw [e7]; exact va_up_self _ _ _
  have hlo : ∀ n, n < t → cs7 n = cs n := fun n a => by rw [e7, va_up_ne _ _ (by omega)]; exact hlo n a
  clear e7
  refine ry_aload_n 0 dX9_init_33 rfl rfl ?_
  refine ry_iconst (v := 2) dX9_init_34 rfl ?_
  refine ry_newq (κ := 20) (n := 2) (t0 := 7) wc_X9_29 wo_8 rfl (by decide) rfl (ln_at_9_4 hk) (by decide) (by decide) (by decide) dX9_init_35 ?_
  refine ry_cs (fun cs8 e8 => ?_)
  have hc0 : cs8 t = .inr (9, [.ref (gA G (t + 1)), .int 0, .int 0, .int (-1), .ref (gA G (t + 2)), .ref (gA G (t + 3)), .null, .null, .null]) := by rw [e8, va_up_ne _ _ (by omega)]; exact hc0
  have hc1 : cs8 (t + 1) = .inl (gY G 13, 600, .inl (fun _ => 0)) := by rw [e8, va_up_ne _ _ (by omega)]; exact hc1
  have hc2 : cs8 (t + 2) = .inl (gY G 14, 4, .inl (fun _ => 0)) := by rw [e8, va_up_ne _ _ (by omega)]; exact hc2
  have hc3 : cs8 (t + 3) = refI G 19 (t + 3) 0 := by rw [e8, va_up_ne _ _ (by omega)]; exact hc3
  have hc4 : cs8 (t + 4) = refI G 20 (t + 4) 0 := by rw [e8]; exact va_up_self _ _ _
  have hlo : ∀ n, n < t → cs8 n = cs n := fun n a => by rw [e8, va_up_ne _ _ (by omega)]; exact hlo n a
  clear e8
  refine ry_putF ff_X9_31 rfl (by omega) hc0 rfl rfl (by decide) dX9_init_38 ?_
  refine ry_cs (fun cs9 e9 => ?_)
  have hc1 : cs9 (t + 1) = .inl (gY G 13, 600, .inl (fun _ => 0)) := by rw [e9, va_up_ne _ _ (by omega)]; exact hc1
  have hc2 : cs9 (t + 2) = .inl (gY G 14, 4, .inl (fun _ => 0)) := by rw [e9, va_up_ne _ _ (by omega)]; exact hc2
  have hc3 : cs9 (t + 3) = refI G 19 (t + 3) 0 := by rw [e9, va_up_ne _ _ (by omega)]; exact hc3
  have hc4 : cs9 (t + 4) = refI G 20 (t + 4) 0 := by rw [e9, va_up_ne _ _ (by omega)]; exact hc4
  have hc0 : cs9 t = .inr (9, [.ref (gA G (t + 1)), .int 0, .int 0, .int (-1), .ref (gA G (t + 2)), .ref (gA G (t + 3)), .ref (gA G (t + 4)), .null, .null]) := by rw [e9]; exact va_up_self _ _ _
  have hlo : ∀ n, n < t → cs9 n = cs n := fun n a => by rw [e9, va_up_ne _ _ (by omega)]; exact hlo n a
  clear e9
  refine ry_aload_n 0 dX9_init_41 rfl rfl ?_
  refine ry_iconst (v := 2) dX9_init_42 rfl ?_
  refine ry_newq (κ := 18) (n := 2) (t0 := 5) wc_X9_35 wo_4 rfl (by decide) rfl (ln_at_9_5 hk) (by decide) (by decide) (by decide) dX9_init_43 ?_
  refine ry_cs (fun cs10 e10 => ?_)
  have hc0 : cs10 t = .inr (9, [.ref (gA G (t + 1)), .int 0, .int 0, .int (-1), .ref (gA G (t + 2)), .ref (gA G (t + 3)), .ref (gA G (t + 4)), .null, .null]) := by rw [e10, va_up_ne _ _ (by omega)]; exact hc0
  have hc1 : cs10 (t + 1) = .inl (gY G 13, 600, .inl (fun _ => 0)) := by rw [e10, va_up_ne _ _ (by omega)]; exact hc1
  have hc2 : cs10 (t + 2) = .inl (gY G 14, 4, .inl (fun _ => 0)) := by rw [e10, va_up_ne _ _ (by omega)]; exact hc2
  have hc3 : cs10 (t + 3) = refI G 19 (t + 3) 0 := by rw [e10, va_up_ne _ _ (by omega)]; exact hc3
  have hc4 : cs10 (t + 4) = refI G 20 (t + 4) 0 := by rw [e10, va_up_ne _ _ (by omega)]; exact hc4
  have hc5 : cs10 (t + 5) = refI G 18 (t + 5) 0 := by rw [e10]; exact va_up_self _ _ _
  have hlo : ∀ n, n < t → cs10 n = cs n := fun n a => by rw [e10, va_up_ne _ _ (by omega)]; exact hlo n a
  clear e10
  refine ry_putF ff_X9_37 rfl (by omega) hc0 rfl rfl (by decide) dX9_init_46 ?_
  refine ry_cs (fun cs11 e11 => ?_)
  have hc1 : cs11 (t + 1) = .inl (gY G 13, 600, .inl (fun _ => 0)) := by rw [e11, va_up_ne _ _ (by omega)]; exact hc1
  have hc2 : cs11 (t + 2) = .inl (gY G 14, 4, .inl (fun _ => 0)) := by rw [e11, va_up_ne _ _ (by omega)]; exact hc2
  have hc3 : cs11 (t + 3) = refI G 19 (t + 3) 0 := by rw [e11, va_up_ne _ _ (by omega)]; exact hc3
  have hc4 : cs11 (t + 4) = refI G 20 (t + 4) 0 := by rw [e11, va_up_ne _ _ (by omega)]; exact hc4
  have hc5 : cs11 (t + 5) = refI G 18 (t + 5) 0 := by rw [e11, va_up_ne _ _ (by omega)]; exact hc5
  have hc0 : cs11 t = .inr (9, [.ref (gA G (t + 1)), .int 0, .int 0, .int (-1), .ref (gA G (t + 2)), .ref (gA G (t + 3)), .ref (gA G (t + 4)), .ref (gA G (t + 5)), .null]) := by rw [e11]; exact va_up_self _ _ _
  have hlo : ∀ n, n < t → cs11 n = cs n := fun n a => by rw [e11, va_up_ne _ _ (by omega)]; exact hlo n a
  clear e11
  refine ry_aload_n 0 dX9_init_49 rfl rfl ?_
  refine ry_iconst (v := 2) dX9_init_50 rfl ?_
  refine ry_newq (κ := 16) (n := 2) (t0 := 3) wc_X9_41 wo_1 rfl (by decide) rfl (ln_at_9_6 hk) (by decide) (by decide) (by decide) dX9_init_51 ?_
  refine ry_cs (fun cs12 e12 => ?_)
  have hc0 : cs12 t = .inr (9, [.ref (gA G (t + 1)), .int 0, .int 0, .int (-1), .ref (gA G (t + 2)), .ref (gA G (t + 3)), .ref (gA G (t + 4)), .ref (gA G (t + 5)), .null]) := by rw [e12, va_up_ne _ _ (by omega)]; exact hc0
  have hc1 : cs12 (t + 1) = .inl (gY G 13, 600, .inl (fun _ => 0)) := by rw [e12, va_up_ne _ _ (by omega)]; exact hc1
  have hc2 : cs12 (t + 2) = .inl (gY G 14, 4, .inl (fun _ => 0)) := by rw [e12, va_up_ne _ _ (by omega)]; exact hc2
  have hc3 : cs12 (t + 3) = refI G 19 (t + 3) 0 := by rw [e12, va_up_ne _ _ (by omega)]; exact hc3
  have hc4 : cs12 (t + 4) = refI G 20 (t + 4) 0 := by rw [e12, va_up_ne _ _ (by omega)]; exact hc4
  have hc5 : cs12 (t + 5) = refI G 18 (t + 5) 0 := by rw [e12, va_up_ne _ _ (by omega)]; exact hc5
  have hc6 : cs12 (t + 6) = refI G 16 (t + 6) 0 := by rw [e12]; exact va_up_self _ _ _
  have hlo : ∀ n, n < t → cs12 n = cs n := fun n a => by rw [e12, va_up_ne _ _ (by omega)]; exact hlo n a
  clear e12
  refine ry_putF ff_X9_43 rfl (by omega) hc0 rfl rfl (by decide) dX9_init_54 ?_
  refine ry_cs (fun cs13 e13 => ?_)
  have hc1 : cs13 (t + 1) = .inl (gY G 13, 600, .inl (fun _ => 0)) := by rw [e13, va_up_ne _ _ (by omega)]; exact hc1
  have hc2 : cs13 (t + 2) = .inl (gY G 14, 4, .inl (fun _ => 0)) := by rw [e13, va_up_ne _ _ (by omega)]; exact hc2
  have hc3 : cs13 (t + 3) = refI G 19 (t + 3) 0 := by rw [e13, va_up_ne _ _ (by omega)]; exact hc3
  have hc4 : cs13 (t + 4) = refI G 20 (t + 4) 0 := by rw [e13, va_up_ne _ _ (by omega)]; exact hc4
  have hc5 : cs13 (t + 5) = refI G 18 (t + 5) 0 := by rw [e13, va_up_ne _ _ (by omega)]; exact hc5
  have hc6 : cs13 (t + 6) = refI G 16 (t + 6) 0 := by rw [e13, va_up_ne _ _ (by omega)]; exact hc6
  have hc0 : cs13 t = .inr (9, [.ref (gA G (t + 1)), .int 0, .int 0, .int (-1), .ref (gA G (t + 2)), .ref (gA G (t + 3)), .ref (gA G (t + 4)), .ref (gA G (t + 5)), .ref (gA G (t + 6))]) := by rw [e13]; exact va_up_self _ _ _
  have hlo : ∀ n, n < t → cs13 n = cs n := fun n a => by rw [e13, va_up_ne _ _ (by omega)]; exact hlo n a
  clear e13
  refine ry_iconst (v := 0) dX9_init_57 rfl ?_
  refine ry_istore_n [(0, .ref (gA G t)), (1, .int 0)] [1, 0] dX9_init_58 rfl (by decide) rfl ?_
  refine ry_iload_n 1 dX9_init_59 rfl rfl ?_
  refine ry_iconst (v := 2) dX9_init_60 rfl ?_
  refine ry_icmp_ge 122 dX9_init_61 (by decide) (fun q => absurd q (by decide)) (fun _ => ?_)
  refine ry_aload_n 0 dX9_init_64 rfl rfl ?_
  refine ry_get fl_X9_25 (by omega) hc0 rfl dX9_init_65 ?_
  refine ry_iload_n 1 dX9_init_68 rfl rfl ?_
  refine ry_new (ci := 7) (fs := [.int 0, .int 0, .null]) tyX7 tyX7_ok rfl i_X7 wc_X9_23 wi_7 wn_7 bl_7 (by decide) (by decide) dX9_init_69 ?_
  refine ry_cs (fun cs14 e14 => ?_)
  have hc0 : cs14 t = .inr (9, [.ref (gA G (t + 1)), .int 0, .int 0, .int (-1), .ref (gA G (t + 2)), .ref (gA G (t + 3)), .ref (gA G (t + 4)), .ref (gA G (t + 5)), .ref (gA G (t + 6))]) := by rw [e14, va_up_ne _ _ (by omega)]; exact hc0
  have hc1 : cs14 (t + 1) = .inl (gY G 13, 600, .inl (fun _ => 0)) := by rw [e14, va_up_ne _ _ (by omega)]; exact hc1
  have hc2 : cs14 (t + 2) = .inl (gY G 14, 4, .inl (fun _ => 0)) := by rw [e14, va_up_ne _ _ (by omega)]; exact hc2
  have hc3 : cs14 (t + 3) = refI G 19 (t + 3) 0 := by rw [e14, va_up_ne _ _ (by omega)]; exact hc3
  have hc4 : cs14 (t + 4) = refI G 20 (t + 4) 0 := by rw [e14, va_up_ne _ _ (by omega)]; exact hc4
  have hc5 : cs14 (t + 5) = refI G 18 (t + 5) 0 := by rw [e14, va_up_ne _ _ (by omega)]; exact hc5
  have hc6 : cs14 (t + 6) = refI G 16 (t + 6) 0 := by rw [e14, va_up_ne _ _ (by omega)]; exact hc6
  have hc7 : cs14 (t + 7) = .inr (7, [.int 0, .int 0, .null]) := by rw [e14]; exact va_up_self _ _ _
  have hlo : ∀ n, n < t → cs14 n = cs n := fun n a => by rw [e14, va_up_ne _ _ (by omega)]; exact hlo n a
  clear e14
  refine ry_dup dX9_init_72 rfl ?_
  refine ry_callI (As := []) (n := (t + 7)) (mc := 1) (ms := 10) (Kc G (t + 7) 2 _) (fun _ _ h => by have := h.1; omega) mw_X7_init rfl win_X7_init wm_X9_47 rfl ⟨show d + 3 + 1 ≤ d + 4 by omega, show 30 * (d + 3) + 30 ≤ 30 * (d + 4) by omega, by decide, by decide⟩ (Nat.le_of_ble_eq_true rfl) dX9_init_73 (cX7_init G d (isB_9_7 hk) hc7) (fun cs15 hK => ?_) rfl
  obtain ⟨-, hK1, hK2⟩ := hK
  have hc0 : cs15 t = .inr (9, [.ref (gA G (t + 1)), .int 0, .int 0, .int (-1), .ref (gA G (t + 2)), .ref (gA G (t + 3)), .ref (gA G (t + 4)), .ref (gA G (t + 5)), .ref (gA G (t + 6))]) := (hK1 _ (by omega)).trans hc0
  have hc1 : cs15 (t + 1) = .inl (gY G 13, 600, .inl (fun _ => 0)) := (hK1 _ (by omega)).trans hc1
  have hc2 : cs15 (t + 2) = .inl (gY G 14, 4, .inl (fun _ => 0)) := (hK1 _ (by omega)).trans hc2
  have hc3 : cs15 (t + 3) = refI G 19 (t + 3) 0 := (hK1 _ (by omega)).trans hc3
  have hc4 : cs15 (t + 4) = refI G 20 (t + 4) 0 := (hK1 _ (by omega)).trans hc4
  have hc5 : cs15 (t + 5) = refI G 18 (t + 5) 0 := (hK1 _ (by omega)).trans hc5
  have hc6 : cs15 (t + 6) = refI G 16 (t + 6) 0 := (hK1 _ (by omega)).trans hc6
  have hlo : ∀ n, n < t → cs15 n = cs n := fun n a => (hK1 n (by omega)).trans (hlo n a)
  have hr7 : ∀ n, (t + 7) ≤ n → n < (t + 9) → cs15 n = finY G n := fun n a b => hK2 n (by omega) (by omega)
  clear hK1 hK2
  refine ry_aast (κ := 19) (κ' := 7) (t0 := 6) (L := 2) (n := (t + 3)) (v := (t + 7)) (i := 0) (by omega) (by omega) rfl rfl hc3 (ln_at_9_3 hk) ((hr7 (t + 7) (by omega) (by omega)).trans (fyE_7 (isE_9_3_0 hk))) (by decide) rfl (spE_9_3_0 hk) dX9_init_76 ?_
  refine ry_cs (fun cs16 e16 => ?_)
  have hc0 : cs16 t = .inr (9, [.ref (gA G (t + 1)), .int 0, .int 0, .int (-1), .ref (gA G (t + 2)), .ref (gA G (t + 3)), .ref (gA G (t + 4)), .ref (gA G (t + 5)), .ref (gA G (t + 6))]) := by rw [e16, va_up_ne _ _ (by omega)]; exact hc0
  have hc1 : cs16 (t + 1) = .inl (gY G 13, 600, .inl (fun _ => 0)) := by rw [e16, va_up_ne _ _ (by omega)]; exact hc1
  have hc2 : cs16 (t + 2) = .inl (gY G 14, 4, .inl (fun _ => 0)) := by rw [e16, va_up_ne _ _ (by omega)]; exact hc2
  have hc4 : cs16 (t + 4) = refI G 20 (t + 4) 0 := by rw [e16, va_up_ne _ _ (by omega)]; exact hc4
  have hc5 : cs16 (t + 5) = refI G 18 (t + 5) 0 := by rw [e16, va_up_ne _ _ (by omega)]; exact hc5
  have hc6 : cs16 (t + 6) = refI G 16 (t + 6) 0 := by rw [e16, va_up_ne _ _ (by omega)]; exact hc6
  have hc3 : cs16 (t + 3) = refI G 19 (t + 3) 1 := by rw [e16]; exact va_up_self _ _ _
  have hr7 : ∀ n, (t + 7) ≤ n → n < (t + 9) → cs16 n = finY G n := fun n a b => by rw [e16, va_up_ne _ _ (by omega)]; exact hr7 n a b
  have hlo : ∀ n, n < t → cs16 n = cs n := fun n a => by rw [e16, va_up_ne _ _ (by omega)]; exact hlo n a
  clear e16
  refine ry_aload_n 0 dX9_init_77 rfl rfl ?_
  refine ry_get fl_X9_31 (by omega) hc0 rfl dX9_init_78 ?_
  refine ry_iload_n 1 dX9_init_81 rfl rfl ?_
  refine ry_new (ci := 8) (fs := [.int 0, .null, .null, .null, .null]) tyX8 tyX8_ok rfl i_X8 wc_X9_29 wi_8 wn_8 bl_8 (by decide) (by decide) dX9_init_82 ?_
  refine ry_cs (fun cs17 e17 => ?_)
  have hc0 : cs17 t = .inr (9, [.ref (gA G (t + 1)), .int 0, .int 0, .int (-1), .ref (gA G (t + 2)), .ref (gA G (t + 3)), .ref (gA G (t + 4)), .ref (gA G (t + 5)), .ref (gA G (t + 6))]) := by rw [e17, va_up_ne _ _ (by omega)]; exact hc0
  have hc1 : cs17 (t + 1) = .inl (gY G 13, 600, .inl (fun _ => 0)) := by rw [e17, va_up_ne _ _ (by omega)]; exact hc1
  have hc2 : cs17 (t + 2) = .inl (gY G 14, 4, .inl (fun _ => 0)) := by rw [e17, va_up_ne _ _ (by omega)]; exact hc2
  have hc3 : cs17 (t + 3) = refI G 19 (t + 3) 1 := by rw [e17, va_up_ne _ _ (by omega)]; exact hc3
  have hc4 : cs17 (t + 4) = refI G 20 (t + 4) 0 := by rw [e17, va_up_ne _ _ (by omega)]; exact hc4
  have hc5 : cs17 (t + 5) = refI G 18 (t + 5) 0 := by rw [e17, va_up_ne _ _ (by omega)]; exact hc5
  have hc6 : cs17 (t + 6) = refI G 16 (t + 6) 0 := by rw [e17, va_up_ne _ _ (by omega)]; exact hc6
  have hc9 : cs17 (t + 9) = .inr (8, [.int 0, .null, .null, .null, .null]) := by rw [e17]; exact va_up_self _ _ _
  have hr7 : ∀ n, (t + 7) ≤ n → n < (t + 9) → cs17 n = finY G n := fun n a b => by rw [e17, va_up_ne _ _ (by omega)]; exact hr7 n a b
  have hlo : ∀ n, n < t → cs17 n = cs n := fun n a => by rw [e17, va_up_ne _ _ (by omega)]; exact hlo n a
  clear e17
  refine ry_dup dX9_init_85 rfl ?_
  refine ry_callIN (As := []) (n := (t + 9)) (mc := 4) (ms := 133) (Kc G (t + 9) 5 _) (fun _ _ h => by have := h.1; omega) mw_X8_init rfl win_X8_init wm_X9_48 rfl ⟨show (d + 2) + 1 + 1 ≤ d + 4 by omega, show 30 * ((d + 2) + 1) + 30 ≤ 30 * (d + 4) by omega, by decide, by decide⟩ (Nat.le_of_ble_eq_true rfl) dX9_init_86 (cX8_init G (d + 2) (isB_9_9 hk) hc9) (fun cs18 hK => ?_) rfl
  obtain ⟨-, hK1, hK2⟩ := hK
  have hc0 : cs18 t = .inr (9, [.ref (gA G (t + 1)), .int 0, .int 0, .int (-1), .ref (gA G (t + 2)), .ref (gA G (t + 3)), .ref (gA G (t + 4)), .ref (gA G (t + 5)), .ref (gA G (t + 6))]) := (hK1 _ (by omega)).trans hc0
  have hc1 : cs18 (t + 1) = .inl (gY G 13, 600, .inl (fun _ => 0)) := (hK1 _ (by omega)).trans hc1
  have hc2 : cs18 (t + 2) = .inl (gY G 14, 4, .inl (fun _ => 0)) := (hK1 _ (by omega)).trans hc2
  have hc3 : cs18 (t + 3) = refI G 19 (t + 3) 1 := (hK1 _ (by omega)).trans hc3
  have hc4 : cs18 (t + 4) = refI G 20 (t + 4) 0 := (hK1 _ (by omega)).trans hc4
  have hc5 : cs18 (t + 5) = refI G 18 (t + 5) 0 := (hK1 _ (by omega)).trans hc5
  have hc6 : cs18 (t + 6) = refI G 16 (t + 6) 0 := (hK1 _ (by omega)).trans hc6
  have hr7 : ∀ n, (t + 7) ≤ n → n < (t + 9) → cs18 n = finY G n := fun n a b => (hK1 n (by omega)).trans (hr7 n a b)
  have hlo : ∀ n, n < t → cs18 n = cs n := fun n a => (hK1 n (by omega)).trans (hlo n a)
  have hr7 : ∀ n, (t + 7) ≤ n → n < (t + 14) → cs18 n = finY G n := fun n a b => if h : n < (t + 9) then hr7 n a h else hK2 n (by omega) (by omega)
  clear hK1 hK2
  refine ry_aast (κ := 20) (κ' := 8) (t0 := 7) (L := 2) (n := (t + 4)) (v := (t + 9)) (i := 0) (by omega) (by omega) rfl rfl hc4 (ln_at_9_4 hk) ((hr7 (t + 9) (by omega) (by omega)).trans (fyE_8 (isE_9_4_0 hk))) (by decide) rfl (spE_9_4_0 hk) dX9_init_89 ?_
  refine ry_cs (fun cs19 e19 => ?_)
  have hc0 : cs19 t = .inr (9, [.ref (gA G (t + 1)), .int 0, .int 0, .int (-1), .ref (gA G (t + 2)), .ref (gA G (t + 3)), .ref (gA G (t + 4)), .ref (gA G (t + 5)), .ref (gA G (t + 6))]) := by rw [e19, va_up_ne _ _ (by omega)]; exact hc0
  have hc1 : cs19 (t + 1) = .inl (gY G 13, 600, .inl (fun _ => 0)) := by rw [e19, va_up_ne _ _ (by omega)]; exact hc1
  have hc2 : cs19 (t + 2) = .inl (gY G 14, 4, .inl (fun _ => 0)) := by rw [e19, va_up_ne _ _ (by omega)]; exact hc2
  have hc3 : cs19 (t + 3) = refI G 19 (t + 3) 1 := by rw [e19, va_up_ne _ _ (by omega)]; exact hc3
  have hc5 : cs19 (t + 5) = refI G 18 (t + 5) 0 := by rw [e19, va_up_ne _ _ (by omega)]; exact hc5
  have hc6 : cs19 (t + 6) = refI G 16 (t + 6) 0 := by rw [e19, va_up_ne _ _ (by omega)]; exact hc6
  have hc4 : cs19 (t + 4) = refI G 20 (t + 4) 1 := by rw [e19]; exact va_up_self _ _ _
  have hr7 : ∀ n, (t + 7) ≤ n → n < (t + 14) → cs19 n = finY G n := fun n a b => by rw [e19, va_up_ne _ _ (by omega)]; exact hr7 n a b
  have hlo : ∀ n, n < t → cs19 n = cs n := fun n a => by rw [e19, va_up_ne _ _ (by omega)]; exact hlo n a
  clear e19
  refine ry_aload_n 0 dX9_init_90 rfl rfl ?_
  refine ry_get fl_X9_37 (by omega) hc0 rfl dX9_init_91 ?_
  refine ry_iload_n 1 dX9_init_94 rfl rfl ?_
  refine ry_new (ci := 4) (fs := [.int 0, .null, .null, .null]) tyX4 tyX4_ok rfl i_X4 wc_X9_35 wi_4 wn_4 bl_4 (by decide) (by decide) dX9_init_95 ?_
  refine ry_cs (fun cs20 e20 => ?_)
  have hc0 : cs20 t = .inr (9, [.ref (gA G (t + 1)), .int 0, .int 0, .int (-1), .ref (gA G (t + 2)), .ref (gA G (t + 3)), .ref (gA G (t + 4)), .ref (gA G (t + 5)), .ref (gA G (t + 6))]) := by rw [e20, va_up_ne _ _ (by omega)]; exact hc0
  have hc1 : cs20 (t + 1) = .inl (gY G 13, 600, .inl (fun _ => 0)) := by rw [e20, va_up_ne _ _ (by omega)]; exact hc1
  have hc2 : cs20 (t + 2) = .inl (gY G 14, 4, .inl (fun _ => 0)) := by rw [e20, va_up_ne _ _ (by omega)]; exact hc2
  have hc3 : cs20 (t + 3) = refI G 19 (t + 3) 1 := by rw [e20, va_up_ne _ _ (by omega)]; exact hc3
  have hc4 : cs20 (t + 4) = refI G 20 (t + 4) 1 := by rw [e20, va_up_ne _ _ (by omega)]; exact hc4
  have hc5 : cs20 (t + 5) = refI G 18 (t + 5) 0 := by rw [e20, va_up_ne _ _ (by omega)]; exact hc5
  have hc6 : cs20 (t + 6) = refI G 16 (t + 6) 0 := by rw [e20, va_up_ne _ _ (by omega)]; exact hc6
  have hc14 : cs20 (t + 14) = .inr (4, [.int 0, .null, .null, .null]) := by rw [e20]; exact va_up_self _ _ _
  have hr7 : ∀ n, (t + 7) ≤ n → n < (t + 14) → cs20 n = finY G n := fun n a b => by rw [e20, va_up_ne _ _ (by omega)]; exact hr7 n a b
  have hlo : ∀ n, n < t → cs20 n = cs n := fun n a => by rw [e20, va_up_ne _ _ (by omega)]; exact hlo n a
  clear e20
  refine ry_dup dX9_init_98 rfl ?_
  refine ry_callIN (As := []) (n := (t + 14)) (mc := 3) (ms := 120) (Kc G (t + 14) 4 _) (fun _ _ h => by have := h.1; omega) mw_X4_init rfl win_X4_init wm_X9_49 rfl ⟨show (d + 2) + 1 + 1 ≤ d + 4 by omega, show 30 * ((d + 2) + 1) + 30 ≤ 30 * (d + 4) by omega, by decide, by decide⟩ (Nat.le_of_ble_eq_true rfl) dX9_init_99 (cX4_init G (d + 2) (isB_9_14 hk) hc14) (fun cs21 hK => ?_) rfl
  obtain ⟨-, hK1, hK2⟩ := hK
  have hc0 : cs21 t = .inr (9, [.ref (gA G (t + 1)), .int 0, .int 0, .int (-1), .ref (gA G (t + 2)), .ref (gA G (t + 3)), .ref (gA G (t + 4)), .ref (gA G (t + 5)), .ref (gA G (t + 6))]) := (hK1 _ (by omega)).trans hc0
  have hc1 : cs21 (t + 1) = .inl (gY G 13, 600, .inl (fun _ => 0)) := (hK1 _ (by omega)).trans hc1
  have hc2 : cs21 (t + 2) = .inl (gY G 14, 4, .inl (fun _ => 0)) := (hK1 _ (by omega)).trans hc2
  have hc3 : cs21 (t + 3) = refI G 19 (t + 3) 1 := (hK1 _ (by omega)).trans hc3
  have hc4 : cs21 (t + 4) = refI G 20 (t + 4) 1 := (hK1 _ (by omega)).trans hc4
  have hc5 : cs21 (t + 5) = refI G 18 (t + 5) 0 := (hK1 _ (by omega)).trans hc5
  have hc6 : cs21 (t + 6) = refI G 16 (t + 6) 0 := (hK1 _ (by omega)).trans hc6
  have hr7 : ∀ n, (t + 7) ≤ n → n < (t + 14) → cs21 n = finY G n := fun n a b => (hK1 n (by omega)).trans (hr7 n a b)
  have hlo : ∀ n, n < t → cs21 n = cs n := fun n a => (hK1 n (by omega)).trans (hlo n a)
  have hr7 : ∀ n, (t + 7) ≤ n → n < (t + 18) → cs21 n = finY G n := fun n a b => if h : n < (t + 14) then hr7 n a h else hK2 n (by omega) (by omega)
  clear hK1 hK2
  refine ry_aast (κ := 18) (κ' := 4) (t0 := 5) (L := 2) (n := (t + 5)) (v := (t + 14)) (i := 0) (by omega) (by omega) rfl rfl hc5 (ln_at_9_5 hk) ((hr7 (t + 14) (by omega) (by omega)).trans (fyE_4 (isE_9_5_0 hk))) (by decide) rfl (spE_9_5_0 hk) dX9_init_102 ?_
  refine ry_cs (fun cs22 e22 => ?_)
  have hc0 : cs22 t = .inr (9, [.ref (gA G (t + 1)), .int 0, .int 0, .int (-1), .ref (gA G (t + 2)), .ref (gA G (t + 3)), .ref (gA G (t + 4)), .ref (gA G (t + 5)), .ref (gA G (t + 6))]) := by rw [e22, va_up_ne _ _ (by omega)]; exact hc0
  have hc1 : cs22 (t + 1) = .inl (gY G 13, 600, .inl (fun _ => 0)) := by rw [e22, va_up_ne _ _ (by omega)]; exact hc1
  have hc2 : cs22 (t + 2) = .inl (gY G 14, 4, .inl (fun _ => 0)) := by rw [e22, va_up_ne _ _ (by omega)]; exact hc2
  have hc3 : cs22 (t + 3) = refI G 19 (t + 3) 1 := by rw [e22, va_up_ne _ _ (by omega)]; exact hc3
  have hc4 : cs22 (t + 4) = refI G 20 (t + 4) 1 := by rw [e22, va_up_ne _ _ (by omega)]; exact hc4
  have hc6 : cs22 (t + 6) = refI G 16 (t + 6) 0 := by rw [e22, va_up_ne _ _ (by omega)]; exact hc6
  have hc5 : cs22 (t + 5) = refI G 18 (t + 5) 1 := by rw [e22]; exact va_up_self _ _ _
  have hr7 : ∀ n, (t + 7) ≤ n → n < (t + 18) → cs22 n = finY G n := fun n a b => by rw [e22, va_up_ne _ _ (by omega)]; exact hr7 n a b
  have hlo : ∀ n, n < t → cs22 n = cs n := fun n a => by rw [e22, va_up_ne _ _ (by omega)]; exact hlo n a
  clear e22
  refine ry_aload_n 0 dX9_init_103 rfl rfl ?_
  refine ry_get fl_X9_43 (by omega) hc0 rfl dX9_init_104 ?_
  refine ry_iload_n 1 dX9_init_107 rfl rfl ?_
  refine ry_new (ci := 1) (fs := [.int 0, .null, .null]) tyX1 tyX1_ok rfl i_X1 wc_X9_41 wi_1 wn_1 bl_1 (by decide) (by decide) dX9_init_108 ?_
  refine ry_cs (fun cs23 e23 => ?_)
  have hc0 : cs23 t = .inr (9, [.ref (gA G (t + 1)), .int 0, .int 0, .int (-1), .ref (gA G (t + 2)), .ref (gA G (t + 3)), .ref (gA G (t + 4)), .ref (gA G (t + 5)), .ref (gA G (t + 6))]) := by rw [e23, va_up_ne _ _ (by omega)]; exact hc0
  have hc1 : cs23 (t + 1) = .inl (gY G 13, 600, .inl (fun _ => 0)) := by rw [e23, va_up_ne _ _ (by omega)]; exact hc1
  have hc2 : cs23 (t + 2) = .inl (gY G 14, 4, .inl (fun _ => 0)) := by rw [e23, va_up_ne _ _ (by omega)]; exact hc2
  have hc3 : cs23 (t + 3) = refI G 19 (t + 3) 1 := by rw [e23, va_up_ne _ _ (by omega)]; exact hc3
  have hc4 : cs23 (t + 4) = refI G 20 (t + 4) 1 := by rw [e23, va_up_ne _ _ (by omega)]; exact hc4
  have hc5 : cs23 (t + 5) = refI G 18 (t + 5) 1 := by rw [e23, va_up_ne _ _ (by omega)]; exact hc5
  have hc6 : cs23 (t + 6) = refI G 16 (t + 6) 0 := by rw [e23, va_up_ne _ _ (by omega)]; exact hc6
  have hc18 : cs23 (t + 18) = .inr (1, [.int 0, .null, .null]) := by rw [e23]; exact va_up_self _ _ _
  have hr7 : ∀ n, (t + 7) ≤ n → n < (t + 18) → cs23 n = finY G n := fun n a b => by rw [e23, va_up_ne _ _ (by omega)]; exact hr7 n a b
  have hlo : ∀ n, n < t → cs23 n = cs n := fun n a => by rw [e23, va_up_ne _ _ (by omega)]; exact hlo n a
  clear e23
  refine ry_dup dX9_init_111 rfl ?_
  refine ry_callIN (As := []) (n := (t + 18)) (mc := 2) (ms := 16) (Kc G (t + 18) 3 _) (fun _ _ h => by have := h.1; omega) mw_X1_init rfl win_X1_init wm_X9_50 rfl ⟨show (d + 2) + 1 + 1 ≤ d + 4 by omega, show 30 * ((d + 2) + 1) + 30 ≤ 30 * (d + 4) by omega, by decide, by decide⟩ (Nat.le_of_ble_eq_true rfl) dX9_init_112 (cX1_init G (d + 2) (isB_9_18 hk) hc18) (fun cs24 hK => ?_) rfl
  obtain ⟨-, hK1, hK2⟩ := hK
  have hc0 : cs24 t = .inr (9, [.ref (gA G (t + 1)), .int 0, .int 0, .int (-1), .ref (gA G (t + 2)), .ref (gA G (t + 3)), .ref (gA G (t + 4)), .ref (gA G (t + 5)), .ref (gA G (t + 6))]) := (hK1 _ (by omega)).trans hc0
  have hc1 : cs24 (t + 1) = .inl (gY G 13, 600, .inl (fun _ => 0)) := (hK1 _ (by omega)).trans hc1
  have hc2 : cs24 (t + 2) = .inl (gY G 14, 4, .inl (fun _ => 0)) := (hK1 _ (by omega)).trans hc2
  have hc3 : cs24 (t + 3) = refI G 19 (t + 3) 1 := (hK1 _ (by omega)).trans hc3
  have hc4 : cs24 (t + 4) = refI G 20 (t + 4) 1 := (hK1 _ (by omega)).trans hc4
  have hc5 : cs24 (t + 5) = refI G 18 (t + 5) 1 := (hK1 _ (by omega)).trans hc5
  have hc6 : cs24 (t + 6) = refI G 16 (t + 6) 0 := (hK1 _ (by omega)).trans hc6
  have hr7 : ∀ n, (t + 7) ≤ n → n < (t + 18) → cs24 n = finY G n := fun n a b => (hK1 n (by omega)).trans (hr7 n a b)
  have hlo : ∀ n, n < t → cs24 n = cs n := fun n a => (hK1 n (by omega)).trans (hlo n a)
  have hr7 : ∀ n, (t + 7) ≤ n → n < (t + 21) → cs24 n = finY G n := fun n a b => if h : n < (t + 18) then hr7 n a h else hK2 n (by omega) (by omega)
  clear hK1 hK2
  refine ry_aast (κ := 16) (κ' := 1) (t0 := 3) (L := 2) (n := (t + 6)) (v := (t + 18)) (i := 0) (by omega) (by omega) rfl rfl hc6 (ln_at_9_6 hk) ((hr7 (t + 18) (by omega) (by omega)).trans (fyE_1 (isE_9_6_0 hk))) (by decide) rfl (spE_9_6_0 hk) dX9_init_115 ?_
  refine ry_cs (fun cs25 e25 => ?_)
  have hc0 : cs25 t = .inr (9, [.ref (gA G (t + 1)), .int 0, .int 0, .int (-1), .ref (gA G (t + 2)), .ref (gA G (t + 3)), .ref (gA G (t + 4)), .ref (gA G (t + 5)), .ref (gA G (t + 6))]) := by rw [e25, va_up_ne _ _ (by omega)]; exact hc0
  have hc1 : cs25 (t + 1) = .inl (gY G 13, 600, .inl (fun _ => 0)) := by rw [e25, va_up_ne _ _ (by omega)]; exact hc1
  have hc2 : cs25 (t + 2) = .inl (gY G 14, 4, .inl (fun _ => 0)) := by rw [e25, va_up_ne _ _ (by omega)]; exact hc2
  have hc3 : cs25 (t + 3) = refI G 19 (t + 3) 1 := by rw [e25, va_up_ne _ _ (by omega)]; exact hc3
  have hc4 : cs25 (t + 4) = refI G 20 (t + 4) 1 := by rw [e25, va_up_ne _ _ (by omega)]; exact hc4
  have hc5 : cs25 (t + 5) = refI G 18 (t + 5) 1 := by rw [e25, va_up_ne _ _ (by omega)]; exact hc5
  have hc6 : cs25 (t + 6) = refI G 16 (t + 6) 1 := by rw [e25]; exact va_up_self _ _ _
  have hr7 : ∀ n, (t + 7) ≤ n → n < (t + 21) → cs25 n = finY G n := fun n a b => by rw [e25, va_up_ne _ _ (by omega)]; exact hr7 n a b
  have hlo : ∀ n, n < t → cs25 n = cs n := fun n a => by rw [e25, va_up_ne _ _ (by omega)]; exact hlo n a
  clear e25
  refine ry_iinc 1 [(0, .ref (gA G t)), (1, .int 1)] [1, 0] dX9_init_116 rfl rfl (by decide) rfl ?_
  refine ry_goto 59 dX9_init_119 (by decide) ?_
  refine ry_iload_n 1 dX9_init_59 rfl rfl ?_
  refine ry_iconst (v := 2) dX9_init_60 rfl ?_
  refine ry_icmp_ge 122 dX9_init_61 (by decide) (fun q => absurd q (by decide)) (fun _ => ?_)
  refine ry_aload_n 0 dX9_init_64 rfl rfl ?_
  refine ry_get fl_X9_25 (by omega) hc0 rfl dX9_init_65 ?_
  refine ry_iload_n 1 dX9_init_68 rfl rfl ?_
  refine ry_new (ci := 7) (fs := [.int 0, .int 0, .null]) tyX7 tyX7_ok rfl i_X7 wc_X9_23 wi_7 wn_7 bl_7 (by decide) (by decide) dX9_init_69 ?_
  refine ry_cs (fun cs26 e26 => ?_)
  have hc0 : cs26 t = .inr (9, [.ref (gA G (t + 1)), .int 0, .int 0, .int (-1), .ref (gA G (t + 2)), .ref (gA G (t + 3)), .ref (gA G (t + 4)), .ref (gA G (t + 5)), .ref (gA G (t + 6))]) := by rw [e26, va_up_ne _ _ (by omega)]; exact hc0
  have hc1 : cs26 (t + 1) = .inl (gY G 13, 600, .inl (fun _ => 0)) := by rw [e26, va_up_ne _ _ (by omega)]; exact hc1
  have hc2 : cs26 (t + 2) = .inl (gY G 14, 4, .inl (fun _ => 0)) := by rw [e26, va_up_ne _ _ (by omega)]; exact hc2
  have hc3 : cs26 (t + 3) = refI G 19 (t + 3) 1 := by rw [e26, va_up_ne _ _ (by omega)]; exact hc3
  have hc4 : cs26 (t + 4) = refI G 20 (t + 4) 1 := by rw [e26, va_up_ne _ _ (by omega)]; exact hc4
  have hc5 : cs26 (t + 5) = refI G 18 (t + 5) 1 := by rw [e26, va_up_ne _ _ (by omega)]; exact hc5
  have hc6 : cs26 (t + 6) = refI G 16 (t + 6) 1 := by rw [e26, va_up_ne _ _ (by omega)]; exact hc6
  have hc21 : cs26 (t + 21) = .inr (7, [.int 0, .int 0, .null]) := by rw [e26]; exact va_up_self _ _ _
  have hr7 : ∀ n, (t + 7) ≤ n → n < (t + 21) → cs26 n = finY G n := fun n a b => by rw [e26, va_up_ne _ _ (by omega)]; exact hr7 n a b
  have hlo : ∀ n, n < t → cs26 n = cs n := fun n a => by rw [e26, va_up_ne _ _ (by omega)]; exact hlo n a
  clear e26
  refine ry_dup dX9_init_72 rfl ?_
  refine ry_callI (As := []) (n := (t + 21)) (mc := 1) (ms := 10) (Kc G (t + 21) 2 _) (fun _ _ h => by have := h.1; omega) mw_X7_init rfl win_X7_init wm_X9_47 rfl ⟨show d + 3 + 1 ≤ d + 4 by omega, show 30 * (d + 3) + 30 ≤ 30 * (d + 4) by omega, by decide, by decide⟩ (Nat.le_of_ble_eq_true rfl) dX9_init_73 (cX7_init G d (isB_9_21 hk) hc21) (fun cs27 hK => ?_) rfl
  obtain ⟨-, hK1, hK2⟩ := hK
  have hc0 : cs27 t = .inr (9, [.ref (gA G (t + 1)), .int 0, .int 0, .int (-1), .ref (gA G (t + 2)), .ref (gA G (t + 3)), .ref (gA G (t + 4)), .ref (gA G (t + 5)), .ref (gA G (t + 6))]) := (hK1 _ (by omega)).trans hc0
  have hc1 : cs27 (t + 1) = .inl (gY G 13, 600, .inl (fun _ => 0)) := (hK1 _ (by omega)).trans hc1
  have hc2 : cs27 (t + 2) = .inl (gY G 14, 4, .inl (fun _ => 0)) := (hK1 _ (by omega)).trans hc2
  have hc3 : cs27 (t + 3) = refI G 19 (t + 3) 1 := (hK1 _ (by omega)).trans hc3
  have hc4 : cs27 (t + 4) = refI G 20 (t + 4) 1 := (hK1 _ (by omega)).trans hc4
  have hc5 : cs27 (t + 5) = refI G 18 (t + 5) 1 := (hK1 _ (by omega)).trans hc5
  have hc6 : cs27 (t + 6) = refI G 16 (t + 6) 1 := (hK1 _ (by omega)).trans hc6
  have hr7 : ∀ n, (t + 7) ≤ n → n < (t + 21) → cs27 n = finY G n := fun n a b => (hK1 n (by omega)).trans (hr7 n a b)
  have hlo : ∀ n, n < t → cs27 n = cs n := fun n a => (hK1 n (by omega)).trans (hlo n a)
  have hr7 : ∀ n, (t + 7) ≤ n → n < (t + 23) → cs27 n = finY G n := fun n a b => if h : n < (t + 21) then hr7 n a h else hK2 n (by omega) (by omega)
  clear hK1 hK2
  refine ry_aast (κ := 19) (κ' := 7) (t0 := 6) (L := 2) (n := (t + 3)) (v := (t + 21)) (i := 1) (by omega) (by omega) rfl rfl hc3 (ln_at_9_3 hk) ((hr7 (t + 21) (by omega) (by omega)).trans (fyE_7 (isE_9_3_1 hk))) (by decide) rfl (spE_9_3_1 hk) dX9_init_76 ?_
  refine ry_cs (fun cs28 e28 => ?_)
  have hc0 : cs28 t = .inr (9, [.ref (gA G (t + 1)), .int 0, .int 0, .int (-1), .ref (gA G (t + 2)), .ref (gA G (t + 3)), .ref (gA G (t + 4)), .ref (gA G (t + 5)), .ref (gA G (t + 6))]) := by rw [e28, va_up_ne _ _ (by omega)]; exact hc0
  have hc1 : cs28 (t + 1) = .inl (gY G 13, 600, .inl (fun _ => 0)) := by rw [e28, va_up_ne _ _ (by omega)]; exact hc1
  have hc2 : cs28 (t + 2) = .inl (gY G 14, 4, .inl (fun _ => 0)) := by rw [e28, va_up_ne _ _ (by omega)]; exact hc2
  have hc4 : cs28 (t + 4) = refI G 20 (t + 4) 1 := by rw [e28, va_up_ne _ _ (by omega)]; exact hc4
  have hc5 : cs28 (t + 5) = refI G 18 (t + 5) 1 := by rw [e28, va_up_ne _ _ (by omega)]; exact hc5
  have hc6 : cs28 (t + 6) = refI G 16 (t + 6) 1 := by rw [e28, va_up_ne _ _ (by omega)]; exact hc6
  have hc3 : cs28 (t + 3) = refI G 19 (t + 3) 2 := by rw [e28]; exact va_up_self _ _ _
  have hr7 : ∀ n, (t + 7) ≤ n → n < (t + 23) → cs28 n = finY G n := fun n a b => by rw [e28, va_up_ne _ _ (by omega)]; exact hr7 n a b
  have hlo : ∀ n, n < t → cs28 n = cs n := fun n a => by rw [e28, va_up_ne _ _ (by omega)]; exact hlo n a
  clear e28
  refine ry_aload_n 0 dX9_init_77 rfl rfl ?_
  refine ry_get fl_X9_31 (by omega) hc0 rfl dX9_init_78 ?_
  refine ry_iload_n 1 dX9_init_81 rfl rfl ?_
  refine ry_new (ci := 8) (fs := [.int 0, .null, .null, .null, .null]) tyX8 tyX8_ok rfl i_X8 wc_X9_29 wi_8 wn_8 bl_8 (by decide) (by decide) dX9_init_82 ?_
  refine ry_cs (fun cs29 e29 => ?_)
  have hc0 : cs29 t = .inr (9, [.ref (gA G (t + 1)), .int 0, .int 0, .int (-1), .ref (gA G (t + 2)), .ref (gA G (t + 3)), .ref (gA G (t + 4)), .ref (gA G (t + 5)), .ref (gA G (t + 6))]) := by rw [e29, va_up_ne _ _ (by omega)]; exact hc0
  have hc1 : cs29 (t + 1) = .inl (gY G 13, 600, .inl (fun _ => 0)) := by rw [e29, va_up_ne _ _ (by omega)]; exact hc1
  have hc2 : cs29 (t + 2) = .inl (gY G 14, 4, .inl (fun _ => 0)) := by rw [e29, va_up_ne _ _ (by omega)]; exact hc2
  have hc3 : cs29 (t + 3) = refI G 19 (t + 3) 2 := by rw [e29, va_up_ne _ _ (by omega)]; exact hc3
  have hc4 : cs29 (t + 4) = refI G 20 (t + 4) 1 := by rw [e29, va_up_ne _ _ (by omega)]; exact hc4
  have hc5 : cs29 (t + 5) = refI G 18 (t + 5) 1 := by rw [e29, va_up_ne _ _ (by omega)]; exact hc5
  have hc6 : cs29 (t + 6) = refI G 16 (t + 6) 1 := by rw [e29, va_up_ne _ _ (by omega)]; exact hc6
  have hc23 : cs29 (t + 23) = .inr (8, [.int 0, .null, .null, .null, .null]) := by rw [e29]; exact va_up_self _ _ _
  have hr7 : ∀ n, (t + 7) ≤ n → n < (t + 23) → cs29 n = finY G n := fun n a b => by rw [e29, va_up_ne _ _ (by omega)]; exact hr7 n a b
  have hlo : ∀ n, n < t → cs29 n = cs n := fun n a => by rw [e29, va_up_ne _ _ (by omega)]; exact hlo n a
  clear e29
  refine ry_dup dX9_init_85 rfl ?_
  refine ry_callIN (As := []) (n := (t + 23)) (mc := 4) (ms := 133) (Kc G (t + 23) 5 _) (fun _ _ h => by have := h.1; omega) mw_X8_init rfl win_X8_init wm_X9_48 rfl ⟨show (d + 2) + 1 + 1 ≤ d + 4 by omega, show 30 * ((d + 2) + 1) + 30 ≤ 30 * (d + 4) by omega, by decide, by decide⟩ (Nat.le_of_ble_eq_true rfl) dX9_init_86 (cX8_init G (d + 2) (isB_9_23 hk) hc23) (fun cs30 hK => ?_) rfl
  obtain ⟨-, hK1, hK2⟩ := hK
  have hc0 : cs30 t = .inr (9, [.ref (gA G (t + 1)), .int 0, .int 0, .int (-1), .ref (gA G (t + 2)), .ref (gA G (t + 3)), .ref (gA G (t + 4)), .ref (gA G (t + 5)), .ref (gA G (t + 6))]) := (hK1 _ (by omega)).trans hc0
  have hc1 : cs30 (t + 1) = .inl (gY G 13, 600, .inl (fun _ => 0)) := (hK1 _ (by omega)).trans hc1
  have hc2 : cs30 (t + 2) = .inl (gY G 14, 4, .inl (fun _ => 0)) := (hK1 _ (by omega)).trans hc2
  have hc3 : cs30 (t + 3) = refI G 19 (t + 3) 2 := (hK1 _ (by omega)).trans hc3
  have hc4 : cs30 (t + 4) = refI G 20 (t + 4) 1 := (hK1 _ (by omega)).trans hc4
  have hc5 : cs30 (t + 5) = refI G 18 (t + 5) 1 := (hK1 _ (by omega)).trans hc5
  have hc6 : cs30 (t + 6) = refI G 16 (t + 6) 1 := (hK1 _ (by omega)).trans hc6
  have hr7 : ∀ n, (t + 7) ≤ n → n < (t + 23) → cs30 n = finY G n := fun n a b => (hK1 n (by omega)).trans (hr7 n a b)
  have hlo : ∀ n, n < t → cs30 n = cs n := fun n a => (hK1 n (by omega)).trans (hlo n a)
  have hr7 : ∀ n, (t + 7) ≤ n → n < (t + 28) → cs30 n = finY G n := fun n a b => if h : n < (t + 23) then hr7 n a h else hK2 n (by omega) (by omega)
  clear hK1 hK2
  refine ry_aast (κ := 20) (κ' := 8) (t0 := 7) (L := 2) (n := (t + 4)) (v := (t + 23)) (i := 1) (by omega) (by omega) rfl rfl hc4 (ln_at_9_4 hk) ((hr7 (t + 23) (by omega) (by omega)).trans (fyE_8 (isE_9_4_1 hk))) (by decide) rfl (spE_9_4_1 hk) dX9_init_89 ?_
  refine ry_cs (fun cs31 e31 => ?_)
  have hc0 : cs31 t = .inr (9, [.ref (gA G (t + 1)), .int 0, .int 0, .int (-1), .ref (gA G (t + 2)), .ref (gA G (t + 3)), .ref (gA G (t + 4)), .ref (gA G (t + 5)), .ref (gA G (t + 6))]) := by rw [e31, va_up_ne _ _ (by omega)]; exact hc0
  have hc1 : cs31 (t + 1) = .inl (gY G 13, 600, .inl (fun _ => 0)) := by rw [e31, va_up_ne _ _ (by omega)]; exact hc1
  have hc2 : cs31 (t + 2) = .inl (gY G 14, 4, .inl (fun _ => 0)) := by rw [e31, va_up_ne _ _ (by omega)]; exact hc2
  have hc3 : cs31 (t + 3) = refI G 19 (t + 3) 2 := by rw [e31, va_up_ne _ _ (by omega)]; exact hc3
  have hc5 : cs31 (t + 5) = refI G 18 (t + 5) 1 := by rw [e31, va_up_ne _ _ (by omega)]; exact hc5
  have hc6 : cs31 (t + 6) = refI G 16 (t + 6) 1 := by rw [e31, va_up_ne _ _ (by omega)]; exact hc6
  have hc4 : cs31 (t + 4) = refI G 20 (t + 4) 2 := by rw [e31]; exact va_up_self _ _ _
  have hr7 : ∀ n, (t + 7) ≤ n → n < (t + 28) → cs31 n = finY G n := fun n a b => by rw [e31, va_up_ne _ _ (by omega)]; exact hr7 n a b
  have hlo : ∀ n, n < t → cs31 n = cs n := fun n a => by rw [e31, va_up_ne _ _ (by omega)]; exact hlo n a
  clear e31
  refine ry_aload_n 0 dX9_init_90 rfl rfl ?_
  refine ry_get fl_X9_37 (by omega) hc0 rfl dX9_init_91 ?_
  refine ry_iload_n 1 dX9_init_94 rfl rfl ?_
  refine ry_new (ci := 4) (fs := [.int 0, .null, .null, .null]) tyX4 tyX4_ok rfl i_X4 wc_X9_35 wi_4 wn_4 bl_4 (by decide) (by decide) dX9_init_95 ?_
  refine ry_cs (fun cs32 e32 => ?_)
  have hc0 : cs32 t = .inr (9, [.ref (gA G (t + 1)), .int 0, .int 0, .int (-1), .ref (gA G (t + 2)), .ref (gA G (t + 3)), .ref (gA G (t + 4)), .ref (gA G (t + 5)), .ref (gA G (t + 6))]) := by rw [e32, va_up_ne _ _ (by omega)]; exact hc0
  have hc1 : cs32 (t + 1) = .inl (gY G 13, 600, .inl (fun _ => 0)) := by rw [e32, va_up_ne _ _ (by omega)]; exact hc1
  have hc2 : cs32 (t + 2) = .inl (gY G 14, 4, .inl (fun _ => 0)) := by rw [e32, va_up_ne _ _ (by omega)]; exact hc2
  have hc3 : cs32 (t + 3) = refI G 19 (t + 3) 2 := by rw [e32, va_up_ne _ _ (by omega)]; exact hc3
  have hc4 : cs32 (t + 4) = refI G 20 (t + 4) 2 := by rw [e32, va_up_ne _ _ (by omega)]; exact hc4
  have hc5 : cs32 (t + 5) = refI G 18 (t + 5) 1 := by rw [e32, va_up_ne _ _ (by omega)]; exact hc5
  have hc6 : cs32 (t + 6) = refI G 16 (t + 6) 1 := by rw [e32, va_up_ne _ _ (by omega)]; exact hc6
  have hc28 : cs32 (t + 28) = .inr (4, [.int 0, .null, .null, .null]) := by rw [e32]; exact va_up_self _ _ _
  have hr7 : ∀ n, (t + 7) ≤ n → n < (t + 28) → cs32 n = finY G n := fun n a b => by rw [e32, va_up_ne _ _ (by omega)]; exact hr7 n a b
  have hlo : ∀ n, n < t → cs32 n = cs n := fun n a => by rw [e32, va_up_ne _ _ (by omega)]; exact hlo n a
  clear e32
  refine ry_dup dX9_init_98 rfl ?_
  refine ry_callIN (As := []) (n := (t + 28)) (mc := 3) (ms := 120) (Kc G (t + 28) 4 _) (fun _ _ h => by have := h.1; omega) mw_X4_init rfl win_X4_init wm_X9_49 rfl ⟨show (d + 2) + 1 + 1 ≤ d + 4 by omega, show 30 * ((d + 2) + 1) + 30 ≤ 30 * (d + 4) by omega, by decide, by decide⟩ (Nat.le_of_ble_eq_true rfl) dX9_init_99 (cX4_init G (d + 2) (isB_9_28 hk) hc28) (fun cs33 hK => ?_) rfl
  obtain ⟨-, hK1, hK2⟩ := hK
  have hc0 : cs33 t = .inr (9, [.ref (gA G (t + 1)), .int 0, .int 0, .int (-1), .ref (gA G (t + 2)), .ref (gA G (t + 3)), .ref (gA G (t + 4)), .ref (gA G (t + 5)), .ref (gA G (t + 6))]) := (hK1 _ (by omega)).trans hc0
  have hc1 : cs33 (t + 1) = .inl (gY G 13, 600, .inl (fun _ => 0)) := (hK1 _ (by omega)).trans hc1
  have hc2 : cs33 (t + 2) = .inl (gY G 14, 4, .inl (fun _ => 0)) := (hK1 _ (by omega)).trans hc2
  have hc3 : cs33 (t + 3) = refI G 19 (t + 3) 2 := (hK1 _ (by omega)).trans hc3
  have hc4 : cs33 (t + 4) = refI G 20 (t + 4) 2 := (hK1 _ (by omega)).trans hc4
  have hc5 : cs33 (t + 5) = refI G 18 (t + 5) 1 := (hK1 _ (by omega)).trans hc5
  have hc6 : cs33 (t + 6) = refI G 16 (t + 6) 1 := (hK1 _ (by omega)).trans hc6
  have hr7 : ∀ n, (t + 7) ≤ n → n < (t + 28) → cs33 n = finY G n := fun n a b => (hK1 n (by omega)).trans (hr7 n a b)
  have hlo : ∀ n, n < t → cs33 n = cs n := fun n a => (hK1 n (by omega)).trans (hlo n a)
  have hr7 : ∀ n, (t + 7) ≤ n → n < (t + 32) → cs33 n = finY G n := fun n a b => if h : n < (t + 28) then hr7 n a h else hK2 n (by omega) (by omega)
  clear hK1 hK2
  refine ry_aast (κ := 18) (κ' := 4) (t0 := 5) (L := 2) (n := (t + 5)) (v := (t + 28)) (i := 1) (by omega) (by omega) rfl rfl hc5 (ln_at_9_5 hk) ((hr7 (t + 28) (by omega) (by omega)).trans (fyE_4 (isE_9_5_1 hk))) (by decide) rfl (spE_9_5_1 hk) dX9_init_102 ?_
  refine ry_cs (fun cs34 e34 => ?_)
  have hc0 : cs34 t = .inr (9, [.ref (gA G (t + 1)), .int 0, .int 0, .int (-1), .ref (gA G (t + 2)), .ref (gA G (t + 3)), .ref (gA G (t + 4)), .ref (gA G (t + 5)), .ref (gA G (t + 6))]) := by rw [e34, va_up_ne _ _ (by omega)]; exact hc0
  have hc1 : cs34 (t + 1) = .inl (gY G 13, 600, .inl (fun _ => 0)) := by rw [e34, va_up_ne _ _ (by omega)]; exact hc1
  have hc2 : cs34 (t + 2) = .inl (gY G 14, 4, .inl (fun _ => 0)) := by rw [e34, va_up_ne _ _ (by omega)]; exact hc2
  have hc3 : cs34 (t + 3) = refI G 19 (t + 3) 2 := by rw [e34, va_up_ne _ _ (by omega)]; exact hc3
  have hc4 : cs34 (t + 4) = refI G 20 (t + 4) 2 := by rw [e34, va_up_ne _ _ (by omega)]; exact hc4
  have hc6 : cs34 (t + 6) = refI G 16 (t + 6) 1 := by rw [e34, va_up_ne _ _ (by omega)]; exact hc6
  have hc5 : cs34 (t + 5) = refI G 18 (t + 5) 2 := by rw [e34]; exact va_up_self _ _ _
  have hr7 : ∀ n, (t + 7) ≤ n → n < (t + 32) → cs34 n = finY G n := fun n a b => by rw [e34, va_up_ne _ _ (by omega)]; exact hr7 n a b
  have hlo : ∀ n, n < t → cs34 n = cs n := fun n a => by rw [e34, va_up_ne _ _ (by omega)]; exact hlo n a
  clear e34
  refine ry_aload_n 0 dX9_init_103 rfl rfl ?_
  refine ry_get fl_X9_43 (by omega) hc0 rfl dX9_init_104 ?_
  refine ry_iload_n 1 dX9_init_107 rfl rfl ?_
  refine ry_new (ci := 1) (fs := [.int 0, .null, .null]) tyX1 tyX1_ok rfl i_X1 wc_X9_41 wi_1 wn_1 bl_1 (by decide) (by decide) dX9_init_108 ?_
  refine ry_cs (fun cs35 e35 => ?_)
  have hc0 : cs35 t = .inr (9, [.ref (gA G (t + 1)), .int 0, .int 0, .int (-1), .ref (gA G (t + 2)), .ref (gA G (t + 3)), .ref (gA G (t + 4)), .ref (gA G (t + 5)), .ref (gA G (t + 6))]) := by rw [e35, va_up_ne _ _ (by omega)]; exact hc0
  have hc1 : cs35 (t + 1) = .inl (gY G 13, 600, .inl (fun _ => 0)) := by rw [e35, va_up_ne _ _ (by omega)]; exact hc1
  have hc2 : cs35 (t + 2) = .inl (gY G 14, 4, .inl (fun _ => 0)) := by rw [e35, va_up_ne _ _ (by omega)]; exact hc2
  have hc3 : cs35 (t + 3) = refI G 19 (t + 3) 2 := by rw [e35, va_up_ne _ _ (by omega)]; exact hc3
  have hc4 : cs35 (t + 4) = refI G 20 (t + 4) 2 := by rw [e35, va_up_ne _ _ (by omega)]; exact hc4
  have hc5 : cs35 (t + 5) = refI G 18 (t + 5) 2 := by rw [e35, va_up_ne _ _ (by omega)]; exact hc5
  have hc6 : cs35 (t + 6) = refI G 16 (t + 6) 1 := by rw [e35, va_up_ne _ _ (by omega)]; exact hc6
  have hc32 : cs35 (t + 32) = .inr (1, [.int 0, .null, .null]) := by rw [e35]; exact va_up_self _ _ _
  have hr7 : ∀ n, (t + 7) ≤ n → n < (t + 32) → cs35 n = finY G n := fun n a b => by rw [e35, va_up_ne _ _ (by omega)]; exact hr7 n a b
  have hlo : ∀ n, n < t → cs35 n = cs n := fun n a => by rw [e35, va_up_ne _ _ (by omega)]; exact hlo n a
  clear e35
  refine ry_dup dX9_init_111 rfl ?_
  refine ry_callIN (As := []) (n := (t + 32)) (mc := 2) (ms := 16) (Kc G (t + 32) 3 _) (fun _ _ h => by have := h.1; omega) mw_X1_init rfl win_X1_init wm_X9_50 rfl ⟨show (d + 2) + 1 + 1 ≤ d + 4 by omega, show 30 * ((d + 2) + 1) + 30 ≤ 30 * (d + 4) by omega, by decide, by decide⟩ (Nat.le_of_ble_eq_true rfl) dX9_init_112 (cX1_init G (d + 2) (isB_9_32 hk) hc32) (fun cs36 hK => ?_) rfl
  obtain ⟨-, hK1, hK2⟩ := hK
  have hc0 : cs36 t = .inr (9, [.ref (gA G (t + 1)), .int 0, .int 0, .int (-1), .ref (gA G (t + 2)), .ref (gA G (t + 3)), .ref (gA G (t + 4)), .ref (gA G (t + 5)), .ref (gA G (t + 6))]) := (hK1 _ (by omega)).trans hc0
  have hc1 : cs36 (t + 1) = .inl (gY G 13, 600, .inl (fun _ => 0)) := (hK1 _ (by omega)).trans hc1
  have hc2 : cs36 (t + 2) = .inl (gY G 14, 4, .inl (fun _ => 0)) := (hK1 _ (by omega)).trans hc2
  have hc3 : cs36 (t + 3) = refI G 19 (t + 3) 2 := (hK1 _ (by omega)).trans hc3
  have hc4 : cs36 (t + 4) = refI G 20 (t + 4) 2 := (hK1 _ (by omega)).trans hc4
  have hc5 : cs36 (t + 5) = refI G 18 (t + 5) 2 := (hK1 _ (by omega)).trans hc5
  have hc6 : cs36 (t + 6) = refI G 16 (t + 6) 1 := (hK1 _ (by omega)).trans hc6
  have hr7 : ∀ n, (t + 7) ≤ n → n < (t + 32) → cs36 n = finY G n := fun n a b => (hK1 n (by omega)).trans (hr7 n a b)
  have hlo : ∀ n, n < t → cs36 n = cs n := fun n a => (hK1 n (by omega)).trans (hlo n a)
  have hr7 : ∀ n, (t + 7) ≤ n → n < (t + 35) → cs36 n = finY G n := fun n a b => if h : n < (t + 32) then hr7 n a h else hK2 n (by omega) (by omega)
  clear hK1 hK2
  refine ry_aast (κ := 16) (κ' := 1) (t0 := 3) (L := 2) (n := (t + 6)) (v := (t + 32)) (i := 1) (by omega) (by omega) rfl rfl hc6 (ln_at_9_6 hk) ((hr7 (t + 32) (by omega) (by omega)).trans (fyE_1 (isE_9_6_1 hk))) (by decide) rfl (spE_9_6_1 hk) dX9_init_115 ?_
  refine ry_cs (fun cs37 e37 => ?_)
  have hc0 : cs37 t = .inr (9, [.ref (gA G (t + 1)), .int 0, .int 0, .int (-1), .ref (gA G (t + 2)), .ref (gA G (t + 3)), .ref (gA G (t + 4)), .ref (gA G (t + 5)), .ref (gA G (t + 6))]) := by rw [e37, va_up_ne _ _ (by omega)]; exact hc0
  have hc1 : cs37 (t + 1) = .inl (gY G 13, 600, .inl (fun _ => 0)) := by rw [e37, va_up_ne _ _ (by omega)]; exact hc1
  have hc2 : cs37 (t + 2) = .inl (gY G 14, 4, .inl (fun _ => 0)) := by rw [e37, va_up_ne _ _ (by omega)]; exact hc2
  have hc3 : cs37 (t + 3) = refI G 19 (t + 3) 2 := by rw [e37, va_up_ne _ _ (by omega)]; exact hc3
  have hc4 : cs37 (t + 4) = refI G 20 (t + 4) 2 := by rw [e37, va_up_ne _ _ (by omega)]; exact hc4
  have hc5 : cs37 (t + 5) = refI G 18 (t + 5) 2 := by rw [e37, va_up_ne _ _ (by omega)]; exact hc5
  have hc6 : cs37 (t + 6) = refI G 16 (t + 6) 2 := by rw [e37]; exact va_up_self _ _ _
  have hr7 : ∀ n, (t + 7) ≤ n → n < (t + 35) → cs37 n = finY G n := fun n a b => by rw [e37, va_up_ne _ _ (by omega)]; exact hr7 n a b
  have hlo : ∀ n, n < t → cs37 n = cs n := fun n a => by rw [e37, va_up_ne _ _ (by omega)]; exact hlo n a
  clear e37
  refine ry_iinc 1 [(0, .ref (gA G t)), (1, .int 2)] [1, 0] dX9_init_116 rfl rfl (by decide) rfl ?_
  refine ry_goto 59 dX9_init_119 (by decide) ?_
  refine ry_iload_n 1 dX9_init_59 rfl rfl ?_
  refine ry_iconst (v := 2) dX9_init_60 rfl ?_
  refine ry_icmp_ge 122 dX9_init_61 (by decide) (fun _ => ?_) (fun q => absurd (by decide) q)
  refine ry_ret dX9_init_122 ⟨by omega, hlo, fun n a b => ?_⟩
  rcases (show n = t ∨ n = (t + 1) ∨ n = (t + 2) ∨ n = (t + 3) ∨ n = (t + 4) ∨ n = (t + 5) ∨ n = (t + 6) ∨ ((t + 7) ≤ n ∧ n < (t + 35)) by omega) with rfl | rfl | rfl | rfl | rfl | rfl | rfl | q
  · rw [hc0]; exact (fyj_9_0 hk).symm
  · rw [hc1]; exact (fyj_9_1 hk).symm
  · rw [hc2]; exact (fyj_9_2 hk).symm
  · rw [hc3]; exact (fyj_9_3 hk).symm
  · rw [hc4]; exact (fyj_9_4 hk).symm
  · rw [hc5]; exact (fyj_9_5 hk).symm
  · rw [hc6]; exact (fyj_9_6 hk).symm
  · exact hr7 n q.1 q.2
set_option maxRecDepth 20000 in
theorem cX5_init (G : GT) (d : Nat) {cs : Nat → va_E} (hc0 : cs 143 = .inr (5, [.null, .int 0, .int 0, .int 0, .int 0, .int 0, .int 0, .int 0, .int 0, .null, .null, .int 0, .int 0, .int 0, .int 0])) : SpecY G yX5_init cX5_init 2 (d + 1) 2 4 [.ref (gA G 143), .ref (gA G 2)] 144 cs (Kc G 143 3 cs) := by
  refine ry_spec (by decide) (Nat.le_of_ble_eq_true rfl) ?_
  have hlo : ∀ n, n < 143 → cs n = cs n := fun _ _ => rfl
  show RunY G RX5 "<init>" cX5_init 2 none _ 0 0 0 [(0, .ref (gA G 143)), (1, .ref (gA G 2))] [] 144 cs
  refine ry_aload_n 0 dX5_init_0 rfl rfl ?_
  refine ry_objInit wm_X5_3 w_oi w_oc (show 1 ≤ d + 1 by omega) (show 30 ≤ 30 * (d + 1) by omega) rfl dX5_init_1 ?_
  refine ry_aload_n 0 dX5_init_4 rfl rfl ?_
  refine ry_iconst (v := 2) dX5_init_5 rfl ?_
  refine ry_newa (κ := 14) (n := 2) (atype := .int) (ty := .int) (t0 := 1) rfl wa_int rfl (fun _ _ => Iff.rfl) rfl (by decide) rfl (by decide) (by decide) (by decide) dX5_init_6 ?_
  refine ry_cs (fun cs1 e1 => ?_)
  have hc0 : cs1 143 = .inr (5, [.null, .int 0, .int 0, .int 0, .int 0, .int 0, .int 0, .int 0, .int 0, .null, .null, .int 0, .int 0, .int 0, .int 0]) := by rw [e1, va_up_ne _ _ (by omega)]; exact hc0
  have hc1 : cs1 144 = .inl (gY G 14, 2, .inl (fun _ => 0)) := by rw [e1]; exact va_up_self _ _ _
  have hlo : ∀ n, n < 143 → cs1 n = cs n := fun n a => by rw [e1, va_up_ne _ _ (by omega)]; exact hlo n a
  clear e1
  refine ry_putF ff_X5_9 rfl (by omega) hc0 rfl rfl (by decide) dX5_init_8 ?_
  refine ry_cs (fun cs2 e2 => ?_)
  have hc1 : cs2 144 = .inl (gY G 14, 2, .inl (fun _ => 0)) := by rw [e2, va_up_ne _ _ (by omega)]; exact hc1
  have hc0 : cs2 143 = .inr (5, [.null, .int 0, .int 0, .int 0, .int 0, .int 0, .int 0, .int 0, .int 0, .ref (gA G 144), .null, .int 0, .int 0, .int 0, .int 0]) := by rw [e2]; exact va_up_self _ _ _
  have hlo : ∀ n, n < 143 → cs2 n = cs n := fun n a => by rw [e2, va_up_ne _ _ (by omega)]; exact hlo n a
  clear e2
  refine ry_aload_n 0 dX5_init_11 rfl rfl ?_
  refine ry_iconst (v := 2) dX5_init_12 rfl ?_
  refine ry_newa (κ := 14) (n := 2) (atype := .int) (ty := .int) (t0 := 1) rfl wa_int rfl (fun _ _ => Iff.rfl) rfl (by decide) rfl (by decide) (by decide) (by decide) dX5_init_13 ?_
  refine ry_cs (fun cs3 e3 => ?_)
  have hc0 : cs3 143 = .inr (5, [.null, .int 0, .int 0, .int 0, .int 0, .int 0, .int 0, .int 0, .int 0, .ref (gA G 144), .null, .int 0, .int 0, .int 0, .int 0]) := by rw [e3, va_up_ne _ _ (by omega)]; exact hc0
  have hc1 : cs3 144 = .inl (gY G 14, 2, .inl (fun _ => 0)) := by rw [e3, va_up_ne _ _ (by omega)]; exact hc1
  have hc2 : cs3 145 = .inl (gY G 14, 2, .inl (fun _ => 0)) := by rw [e3]; exact va_up_self _ _ _
  have hlo : ∀ n, n < 143 → cs3 n = cs n := fun n a => by rw [e3, va_up_ne _ _ (by omega)]; exact hlo n a
  clear e3
  refine ry_putF ff_X5_15 rfl (by omega) hc0 rfl rfl (by decide) dX5_init_15 ?_
  refine ry_cs (fun cs4 e4 => ?_)
  have hc1 : cs4 144 = .inl (gY G 14, 2, .inl (fun _ => 0)) := by rw [e4, va_up_ne _ _ (by omega)]; exact hc1
  have hc2 : cs4 145 = .inl (gY G 14, 2, .inl (fun _ => 0)) := by rw [e4, va_up_ne _ _ (by omega)]; exact hc2
  have hc0 : cs4 143 = .inr (5, [.null, .int 0, .int 0, .int 0, .int 0, .int 0, .int 0, .int 0, .int 0, .ref (gA G 144), .ref (gA G 145), .int 0, .int 0, .int 0, .int 0]) := by rw [e4]; exact va_up_self _ _ _
  have hlo : ∀ n, n < 143 → cs4 n = cs n := fun n a => by rw [e4, va_up_ne _ _ (by omega)]; exact hlo n a
  clear e4
  refine ry_aload_n 0 dX5_init_18 rfl rfl ?_
  refine ry_aload_n 1 dX5_init_19 rfl rfl ?_
  refine ry_putF ff_X5_18 rfl (by omega) hc0 rfl rfl (by decide) dX5_init_20 ?_
  refine ry_cs (fun cs5 e5 => ?_)
  have hc1 : cs5 144 = .inl (gY G 14, 2, .inl (fun _ => 0)) := by rw [e5, va_up_ne _ _ (by omega)]; exact hc1
  have hc2 : cs5 145 = .inl (gY G 14, 2, .inl (fun _ => 0)) := by rw [e5, va_up_ne _ _ (by omega)]; exact hc2
  have hc0 : cs5 143 = .inr (5, [.ref (gA G 2), .int 0, .int 0, .int 0, .int 0, .int 0, .int 0, .int 0, .int 0, .ref (gA G 144), .ref (gA G 145), .int 0, .int 0, .int 0, .int 0]) := by rw [e5]; exact va_up_self _ _ _
  have hlo : ∀ n, n < 143 → cs5 n = cs n := fun n a => by rw [e5, va_up_ne _ _ (by omega)]; exact hlo n a
  clear e5
  refine ry_ret dX5_init_23 ⟨by omega, hlo, fun n a b => ?_⟩
  rcases (show n = 143 ∨ n = 144 ∨ n = 145 by omega) with rfl | rfl | rfl
  · rw [hc0]; exact (fyj_5_0).symm
  · rw [hc1]; exact (fyj_5_1).symm
  · rw [hc2]; exact (fyj_5_2).symm
set_option maxRecDepth 20000 in
theorem cX3_init (G : GT) (d : Nat) {cs : Nat → va_E} (hc0 : cs 146 = .inr (3, [.null, .null, .int 0, .int 0, .null, .null, .null, .null, .null, .null, .null, .int 0, .int 0, .null, .null, .null, .null, .int 0, .int 0, .int 0])) : SpecY G yX3_init cX3_init 4 (d + 2) 87 1122 [.ref (gA G 146), .ref (gA G 8), .ref (gA G 10)] 147 cs (Kc G 146 88 cs) := by
  refine ry_spec (by decide) (Nat.le_of_ble_eq_true rfl) ?_
  have hlo : ∀ n, n < 146 → cs n = cs n := fun _ _ => rfl
  show RunY G RX3 "<init>" cX3_init 4 none _ 0 0 0 [(0, .ref (gA G 146)), (1, .ref (gA G 8)), (2, .ref (gA G 10))] [] 147 cs
  refine ry_aload_n 0 dX3_init_0 rfl rfl ?_
  refine ry_objInit wm_X3_3 w_oi w_oc (show 1 ≤ d + 2 by omega) (show 30 ≤ 30 * (d + 2) by omega) rfl dX3_init_1 ?_
  refine ry_aload_n 0 dX3_init_4 rfl rfl ?_
  refine ry_bipush (v := 10) dX3_init_5 rfl ?_
  refine ry_newa (κ := 14) (n := 10) (atype := .int) (ty := .int) (t0 := 1) rfl wa_int rfl (fun _ _ => Iff.rfl) rfl (by decide) rfl (by decide) (by decide) (by decide) dX3_init_7 ?_
  refine ry_cs (fun cs1 e1 => ?_)
  have hc0 : cs1 146 = .inr (3, [.null, .null, .int 0, .int 0, .null, .null, .null, .null, .null, .null, .null, .int 0, .int 0, .null, .null, .null, .null, .int 0, .int 0, .int 0]) := by rw [e1, va_up_ne _ _ (by omega)]; exact hc0
  have hc1 : cs1 147 = .inl (gY G 14, 10, .inl (fun _ => 0)) := by rw [e1]; exact va_up_self _ _ _
  have hlo : ∀ n, n < 146 → cs1 n = cs n := fun n a => by rw [e1, va_up_ne _ _ (by omega)]; exact hlo n a
  clear e1
  refine ry_putF ff_X3_9 rfl (by omega) hc0 rfl rfl (by decide) dX3_init_9 ?_
  refine ry_cs (fun cs2 e2 => ?_)
  have hc1 : cs2 147 = .inl (gY G 14, 10, .inl (fun _ => 0)) := by rw [e2, va_up_ne _ _ (by omega)]; exact hc1
  have hc0 : cs2 146 = .inr (3, [.null, .null, .int 0, .int 0, .ref (gA G 147), .null, .null, .null, .null, .null, .null, .int 0, .int 0, .null, .null, .null, .null, .int 0, .int 0, .int 0]) := by rw [e2]; exact va_up_self _ _ _
  have hlo : ∀ n, n < 146 → cs2 n = cs n := fun n a => by rw [e2, va_up_ne _ _ (by omega)]; exact hlo n a
  clear e2
  refine ry_aload_n 0 dX3_init_12 rfl rfl ?_
  refine ry_bipush (v := 10) dX3_init_13 rfl ?_
  refine ry_newa (κ := 14) (n := 10) (atype := .int) (ty := .int) (t0 := 1) rfl wa_int rfl (fun _ _ => Iff.rfl) rfl (by decide) rfl (by decide) (by decide) (by decide) dX3_init_15 ?_
  refine ry_cs (fun cs3 e3 => ?_)
  have hc0 : cs3 146 = .inr (3, [.null, .null, .int 0, .int 0, .ref (gA G 147), .null, .null, .null, .null, .null, .null, .int 0, .int 0, .null, .null, .null, .null, .int 0, .int 0, .int 0]) := by rw [e3, va_up_ne _ _ (by omega)]; exact hc0
  have hc1 : cs3 147 = .inl (gY G 14, 10, .inl (fun _ => 0)) := by rw [e3, va_up_ne _ _ (by omega)]; exact hc1
  have hc2 : cs3 148 = .inl (gY G 14, 10, .inl (fun _ => 0)) := by rw [e3]; exact va_up_self _ _ _
  have hlo : ∀ n, n < 146 → cs3 n = cs n := fun n a => by rw [e3, va_up_ne _ _ (by omega)]; exact hlo n a
  clear e3
  refine ry_putF ff_X3_15 rfl (by omega) hc0 rfl rfl (by decide) dX3_init_17 ?_
  refine ry_cs (fun cs4 e4 => ?_)
  have hc1 : cs4 147 = .inl (gY G 14, 10, .inl (fun _ => 0)) := by rw [e4, va_up_ne _ _ (by omega)]; exact hc1
  have hc2 : cs4 148 = .inl (gY G 14, 10, .inl (fun _ => 0)) := by rw [e4, va_up_ne _ _ (by omega)]; exact hc2
  have hc0 : cs4 146 = .inr (3, [.null, .null, .int 0, .int 0, .ref (gA G 147), .ref (gA G 148), .null, .null, .null, .null, .null, .int 0, .int 0, .null, .null, .null, .null, .int 0, .int 0, .int 0]) := by rw [e4]; exact va_up_self _ _ _
  have hlo : ∀ n, n < 146 → cs4 n = cs n := fun n a => by rw [e4, va_up_ne _ _ (by omega)]; exact hlo n a
  clear e4
  refine ry_aload_n 0 dX3_init_20 rfl rfl ?_
  refine ry_bipush (v := 10) dX3_init_21 rfl ?_
  refine ry_newa (κ := 14) (n := 10) (atype := .int) (ty := .int) (t0 := 1) rfl wa_int rfl (fun _ _ => Iff.rfl) rfl (by decide) rfl (by decide) (by decide) (by decide) dX3_init_23 ?_
  refine ry_cs (fun cs5 e5 => ?_)
  have hc0 : cs5 146 = .inr (3, [.null, .null, .int 0, .int 0, .ref (gA G 147), .ref (gA G 148), .null, .null, .null, .null, .null, .int 0, .int 0, .null, .null, .null, .null, .int 0, .int 0, .int 0]) := by rw [e5, va_up_ne _ _ (by omega)]; exact hc0
  have hc1 : cs5 147 = .inl (gY G 14, 10, .inl (fun _ => 0)) := by rw [e5, va_up_ne _ _ (by omega)]; exact hc1
  have hc2 : cs5 148 = .inl (gY G 14, 10, .inl (fun _ => 0)) := by rw [e5, va_up_ne _ _ (by omega)]; exact hc2
  have hc3 : cs5 149 = .inl (gY G 14, 10, .inl (fun _ => 0)) := by rw [e5]; exact va_up_self _ _ _
  have hlo : ∀ n, n < 146 → cs5 n = cs n := fun n a => by rw [e5, va_up_ne _ _ (by omega)]; exact hlo n a
  clear e5
  refine ry_putF ff_X3_18 rfl (by omega) hc0 rfl rfl (by decide) dX3_init_25 ?_
  refine ry_cs (fun cs6 e6 => ?_)
  have hc1 : cs6 147 = .inl (gY G 14, 10, .inl (fun _ => 0)) := by rw [e6, va_up_ne _ _ (by omega)]; exact hc1
  have hc2 : cs6 148 = .inl (gY G 14, 10, .inl (fun _ => 0)) := by rw [e6, va_up_ne _ _ (by omega)]; exact hc2
  have hc3 : cs6 149 = .inl (gY G 14, 10, .inl (fun _ => 0)) := by rw [e6, va_up_ne _ _ (by omega)]; exact hc3
  have hc0 : cs6 146 = .inr (3, [.null, .null, .int 0, .int 0, .ref (gA G 147), .ref (gA G 148), .ref (gA G 149), .null, .null, .null, .null, .int 0, .int 0, .null, .null, .null, .null, .int 0, .int 0, .int 0]) := by rw [e6]; exact va_up_self _ _ _
  have hlo : ∀ n, n < 146 → cs6 n = cs n := fun n a => by rw [e6, va_up_ne _ _ (by omega)]; exact hlo n a
  clear e6
  refine ry_aload_n 0 dX3_init_28 rfl rfl ?_
  refine ry_bipush (v := 10) dX3_init_29 rfl ?_
  refine ry_newa (κ := 14) (n := 10) (atype := .int) (ty := .int) (t0 := 1) rfl wa_int rfl (fun _ _ => Iff.rfl) rfl (by decide) rfl (by decide) (by decide) (by decide) dX3_init_31 ?_
  refine ry_cs (fun cs7 e7 => ?_)
  have hc0 : cs7 146 = .inr (3, [.null, .null, .int 0, .int 0, .ref (gA G 147), .ref (gA G 148), .ref (gA G 149), .null, .null, .null, .null, .int 0, .int 0, .null, .null, .null, .null, .int 0, .int 0, .int 0]) := by rw [e7, va_up_ne _ _ (by omega)]; exact hc0
  have hc1 : cs7 147 = .inl (gY G 14, 10, .inl (fun _ => 0)) := by rw [e7, va_up_ne _ _ (by omega)]; exact hc1
  have hc2 : cs7 148 = .inl (gY G 14, 10, .inl (fun _ => 0)) := by rw [e7, va_up_ne _ _ (by omega)]; exact hc2
  have hc3 : cs7 149 = .inl (gY G 14, 10, .inl (fun _ => 0)) := by rw [e7, va_up_ne _ _ (by omega)]; exact hc3
  have hc4 : cs7 150 = .inl (gY G 14, 10, .inl (fun _ => 0)) := by rw [e7]; exact va_up_self _ _ _
  have hlo : ∀ n, n < 146 → cs7 n = cs n := fun n a => by rw [e7, va_up_ne _ _ (by omega)]; exact hlo n a
  clear e7
  refine ry_putF ff_X3_21 rfl (by omega) hc0 rfl rfl (by decide) dX3_init_33 ?_
  refine ry_cs (fun cs8 e8 => ?_)
  have hc1 : cs8 147 = .inl (gY G 14, 10, .inl (fun _ => 0)) := by rw [e8, va_up_ne _ _ (by omega)]; exact hc1
  have hc2 : cs8 148 = .inl (gY G 14, 10, .inl (fun _ => 0)) := by rw [e8, va_up_ne _ _ (by omega)]; exact hc2
  have hc3 : cs8 149 = .inl (gY G 14, 10, .inl (fun _ => 0)) := by rw [e8, va_up_ne _ _ (by omega)]; exact hc3
  have hc4 : cs8 150 = .inl (gY G 14, 10, .inl (fun _ => 0)) := by rw [e8, va_up_ne _ _ (by omega)]; exact hc4
  have hc0 : cs8 146 = .inr (3, [.null, .null, .int 0, .int 0, .ref (gA G 147), .ref (gA G 148), .ref (gA G 149), .ref (gA G 150), .null, .null, .null, .int 0, .int 0, .null, .null, .null, .null, .int 0, .int 0, .int 0]) := by rw [e8]; exact va_up_self _ _ _
  have hlo : ∀ n, n < 146 → cs8 n = cs n := fun n a => by rw [e8, va_up_ne _ _ (by omega)]; exact hlo n a
  clear e8
  refine ry_aload_n 0 dX3_init_36 rfl rfl ?_
  refine ry_bipush (v := 10) dX3_init_37 rfl ?_
  refine ry_newa (κ := 14) (n := 10) (atype := .int) (ty := .int) (t0 := 1) rfl wa_int rfl (fun _ _ => Iff.rfl) rfl (by decide) rfl (by decide) (by decide) (by decide) dX3_init_39 ?_
  refine ry_cs (fun cs9 e9 => ?_)
  have hc0 : cs9 146 = .inr (3, [.null, .null, .int 0, .int 0, .ref (gA G 147), .ref (gA G 148), .ref (gA G 149), .ref (gA G 150), .null, .null, .null, .int 0, .int 0, .null, .null, .null, .null, .int 0, .int 0, .int 0]) := by rw [e9, va_up_ne _ _ (by omega)]; exact hc0
  have hc1 : cs9 147 = .inl (gY G 14, 10, .inl (fun _ => 0)) := by rw [e9, va_up_ne _ _ (by omega)]; exact hc1
  have hc2 : cs9 148 = .inl (gY G 14, 10, .inl (fun _ => 0)) := by rw [e9, va_up_ne _ _ (by omega)]; exact hc2
  have hc3 : cs9 149 = .inl (gY G 14, 10, .inl (fun _ => 0)) := by rw [e9, va_up_ne _ _ (by omega)]; exact hc3
  have hc4 : cs9 150 = .inl (gY G 14, 10, .inl (fun _ => 0)) := by rw [e9, va_up_ne _ _ (by omega)]; exact hc4
  have hc5 : cs9 151 = .inl (gY G 14, 10, .inl (fun _ => 0)) := by rw [e9]; exact va_up_self _ _ _
  have hlo : ∀ n, n < 146 → cs9 n = cs n := fun n a => by rw [e9, va_up_ne _ _ (by omega)]; exact hlo n a
  clear e9
  refine ry_putF ff_X3_24 rfl (by omega) hc0 rfl rfl (by decide) dX3_init_41 ?_
  refine ry_cs (fun cs10 e10 => ?_)
  have hc1 : cs10 147 = .inl (gY G 14, 10, .inl (fun _ => 0)) := by rw [e10, va_up_ne _ _ (by omega)]; exact hc1
  have hc2 : cs10 148 = .inl (gY G 14, 10, .inl (fun _ => 0)) := by rw [e10, va_up_ne _ _ (by omega)]; exact hc2
  have hc3 : cs10 149 = .inl (gY G 14, 10, .inl (fun _ => 0)) := by rw [e10, va_up_ne _ _ (by omega)]; exact hc3
  have hc4 : cs10 150 = .inl (gY G 14, 10, .inl (fun _ => 0)) := by rw [e10, va_up_ne _ _ (by omega)]; exact hc4
  have hc5 : cs10 151 = .inl (gY G 14, 10, .inl (fun _ => 0)) := by rw [e10, va_up_ne _ _ (by omega)]; exact hc5
  have hc0 : cs10 146 = .inr (3, [.null, .null, .int 0, .int 0, .ref (gA G 147), .ref (gA G 148), .ref (gA G 149), .ref (gA G 150), .ref (gA G 151), .null, .null, .int 0, .int 0, .null, .null, .null, .null, .int 0, .int 0, .int 0]) := by rw [e10]; exact va_up_self _ _ _
  have hlo : ∀ n, n < 146 → cs10 n = cs n := fun n a => by rw [e10, va_up_ne _ _ (by omega)]; exact hlo n a
  clear e10
  refine ry_aload_n 0 dX3_init_44 rfl rfl ?_
  refine ry_iconst (v := 4) dX3_init_45 rfl ?_
  refine ry_newq (κ := 22) (n := 4) (t0 := 9) wc_X3_27 wo_10 rfl (by decide) rfl (ln_at_3_6) (by decide) (by decide) (by decide) dX3_init_46 ?_
  refine ry_cs (fun cs11 e11 => ?_)
  have hc0 : cs11 146 = .inr (3, [.null, .null, .int 0, .int 0, .ref (gA G 147), .ref (gA G 148), .ref (gA G 149), .ref (gA G 150), .ref (gA G 151), .null, .null, .int 0, .int 0, .null, .null, .null, .null, .int 0, .int 0, .int 0]) := by rw [e11, va_up_ne _ _ (by omega)]; exact hc0
  have hc1 : cs11 147 = .inl (gY G 14, 10, .inl (fun _ => 0)) := by rw [e11, va_up_ne _ _ (by omega)]; exact hc1
  have hc2 : cs11 148 = .inl (gY G 14, 10, .inl (fun _ => 0)) := by rw [e11, va_up_ne _ _ (by omega)]; exact hc2
  have hc3 : cs11 149 = .inl (gY G 14, 10, .inl (fun _ => 0)) := by rw [e11, va_up_ne _ _ (by omega)]; exact hc3
  have hc4 : cs11 150 = .inl (gY G 14, 10, .inl (fun _ => 0)) := by rw [e11, va_up_ne _ _ (by omega)]; exact hc4
  have hc5 : cs11 151 = .inl (gY G 14, 10, .inl (fun _ => 0)) := by rw [e11, va_up_ne _ _ (by omega)]; exact hc5
  have hc6 : cs11 152 = refI G 22 152 0 := by rw [e11]; exact va_up_self _ _ _
  have hlo : ∀ n, n < 146 → cs11 n = cs n := fun n a => by rw [e11, va_up_ne _ _ (by omega)]; exact hlo n a
  clear e11
  refine ry_putF ff_X3_29 rfl (by omega) hc0 rfl rfl (by decide) dX3_init_49 ?_
  refine ry_cs (fun cs12 e12 => ?_)
  have hc1 : cs12 147 = .inl (gY G 14, 10, .inl (fun _ => 0)) := by rw [e12, va_up_ne _ _ (by omega)]; exact hc1
  have hc2 : cs12 148 = .inl (gY G 14, 10, .inl (fun _ => 0)) := by rw [e12, va_up_ne _ _ (by omega)]; exact hc2
  have hc3 : cs12 149 = .inl (gY G 14, 10, .inl (fun _ => 0)) := by rw [e12, va_up_ne _ _ (by omega)]; exact hc3
  have hc4 : cs12 150 = .inl (gY G 14, 10, .inl (fun _ => 0)) := by rw [e12, va_up_ne _ _ (by omega)]; exact hc4
  have hc5 : cs12 151 = .inl (gY G 14, 10, .inl (fun _ => 0)) := by rw [e12, va_up_ne _ _ (by omega)]; exact hc5
  have hc6 : cs12 152 = refI G 22 152 0 := by rw [e12, va_up_ne _ _ (by omega)]; exact hc6
  have hc0 : cs12 146 = .inr (3, [.null, .null, .int 0, .int 0, .ref (gA G 147), .ref (gA G 148), .ref (gA G 149), .ref (gA G 150), .ref (gA G 151), .ref (gA G 152), .null, .int 0, .int 0, .null, .null, .null, .null, .int 0, .int 0, .int 0]) := by rw [e12]; exact va_up_self _ _ _
  have hlo : ∀ n, n < 146 → cs12 n = cs n := fun n a => by rw [e12, va_up_ne _ _ (by omega)]; exact hlo n a
  clear e12
  refine ry_aload_n 0 dX3_init_52 rfl rfl ?_
  refine ry_bipush (v := 30) dX3_init_53 rfl ?_
  refine ry_newq (κ := 17) (n := 30) (t0 := 4) wc_X3_33 wo_2 rfl (by decide) rfl (ln_at_3_7) (by decide) (by decide) (by decide) dX3_init_55 ?_
  refine ry_cs (fun cs13 e13 => ?_)
  have hc0 : cs13 146 = .inr (3, [.null, .null, .int 0, .int 0, .ref (gA G 147), .ref (gA G 148), .ref (gA G 149), .ref (gA G 150), .ref (gA G 151), .ref (gA G 152), .null, .int 0, .int 0, .null, .null, .null, .null, .int 0, .int 0, .int 0]) := by rw [e13, va_up_ne _ _ (by omega)]; exact hc0
  have hc1 : cs13 147 = .inl (gY G 14, 10, .inl (fun _ => 0)) := by rw [e13, va_up_ne _ _ (by omega)]; exact hc1
  have hc2 : cs13 148 = .inl (gY G 14, 10, .inl (fun _ => 0)) := by rw [e13, va_up_ne _ _ (by omega)]; exact hc2
  have hc3 : cs13 149 = .inl (gY G 14, 10, .inl (fun _ => 0)) := by rw [e13, va_up_ne _ _ (by omega)]; exact hc3
  have hc4 : cs13 150 = .inl (gY G 14, 10, .inl (fun _ => 0)) := by rw [e13, va_up_ne _ _ (by omega)]; exact hc4
  have hc5 : cs13 151 = .inl (gY G 14, 10, .inl (fun _ => 0)) := by rw [e13, va_up_ne _ _ (by omega)]; exact hc5
  have hc6 : cs13 152 = refI G 22 152 0 := by rw [e13, va_up_ne _ _ (by omega)]; exact hc6
  have hc7 : cs13 153 = refI G 17 153 0 := by rw [e13]; exact va_up_self _ _ _
  have hlo : ∀ n, n < 146 → cs13 n = cs n := fun n a => by rw [e13, va_up_ne _ _ (by omega)]; exact hlo n a
  clear e13
  refine ry_putF ff_X3_35 rfl (by omega) hc0 rfl rfl (by decide) dX3_init_58 ?_
  refine ry_cs (fun cs14 e14 => ?_)
  have hc1 : cs14 147 = .inl (gY G 14, 10, .inl (fun _ => 0)) := by rw [e14, va_up_ne _ _ (by omega)]; exact hc1
  have hc2 : cs14 148 = .inl (gY G 14, 10, .inl (fun _ => 0)) := by rw [e14, va_up_ne _ _ (by omega)]; exact hc2
  have hc3 : cs14 149 = .inl (gY G 14, 10, .inl (fun _ => 0)) := by rw [e14, va_up_ne _ _ (by omega)]; exact hc3
  have hc4 : cs14 150 = .inl (gY G 14, 10, .inl (fun _ => 0)) := by rw [e14, va_up_ne _ _ (by omega)]; exact hc4
  have hc5 : cs14 151 = .inl (gY G 14, 10, .inl (fun _ => 0)) := by rw [e14, va_up_ne _ _ (by omega)]; exact hc5
  have hc6 : cs14 152 = refI G 22 152 0 := by rw [e14, va_up_ne _ _ (by omega)]; exact hc6
  have hc7 : cs14 153 = refI G 17 153 0 := by rw [e14, va_up_ne _ _ (by omega)]; exact hc7
  have hc0 : cs14 146 = .inr (3, [.null, .null, .int 0, .int 0, .ref (gA G 147), .ref (gA G 148), .ref (gA G 149), .ref (gA G 150), .ref (gA G 151), .ref (gA G 152), .ref (gA G 153), .int 0, .int 0, .null, .null, .null, .null, .int 0, .int 0, .int 0]) := by rw [e14]; exact va_up_self _ _ _
  have hlo : ∀ n, n < 146 → cs14 n = cs n := fun n a => by rw [e14, va_up_ne _ _ (by omega)]; exact hlo n a
  clear e14
  refine ry_aload_n 0 dX3_init_61 rfl rfl ?_
  refine ry_bipush (v := 60) dX3_init_62 rfl ?_
  refine ry_newa (κ := 14) (n := 60) (atype := .int) (ty := .int) (t0 := 1) rfl wa_int rfl (fun _ _ => Iff.rfl) rfl (by decide) rfl (by decide) (by decide) (by decide) dX3_init_64 ?_
  refine ry_cs (fun cs15 e15 => ?_)
  have hc0 : cs15 146 = .inr (3, [.null, .null, .int 0, .int 0, .ref (gA G 147), .ref (gA G 148), .ref (gA G 149), .ref (gA G 150), .ref (gA G 151), .ref (gA G 152), .ref (gA G 153), .int 0, .int 0, .null, .null, .null, .null, .int 0, .int 0, .int 0]) := by rw [e15, va_up_ne _ _ (by omega)]; exact hc0
  have hc1 : cs15 147 = .inl (gY G 14, 10, .inl (fun _ => 0)) := by rw [e15, va_up_ne _ _ (by omega)]; exact hc1
  have hc2 : cs15 148 = .inl (gY G 14, 10, .inl (fun _ => 0)) := by rw [e15, va_up_ne _ _ (by omega)]; exact hc2
  have hc3 : cs15 149 = .inl (gY G 14, 10, .inl (fun _ => 0)) := by rw [e15, va_up_ne _ _ (by omega)]; exact hc3
  have hc4 : cs15 150 = .inl (gY G 14, 10, .inl (fun _ => 0)) := by rw [e15, va_up_ne _ _ (by omega)]; exact hc4
  have hc5 : cs15 151 = .inl (gY G 14, 10, .inl (fun _ => 0)) := by rw [e15, va_up_ne _ _ (by omega)]; exact hc5
  have hc6 : cs15 152 = refI G 22 152 0 := by rw [e15, va_up_ne _ _ (by omega)]; exact hc6
  have hc7 : cs15 153 = refI G 17 153 0 := by rw [e15, va_up_ne _ _ (by omega)]; exact hc7
  have hc8 : cs15 154 = .inl (gY G 14, 60, .inl (fun _ => 0)) := by rw [e15]; exact va_up_self _ _ _
  have hlo : ∀ n, n < 146 → cs15 n = cs n := fun n a => by rw [e15, va_up_ne _ _ (by omega)]; exact hlo n a
  clear e15
  refine ry_putF ff_X3_39 rfl (by omega) hc0 rfl rfl (by decide) dX3_init_66 ?_
  refine ry_cs (fun cs16 e16 => ?_)
  have hc1 : cs16 147 = .inl (gY G 14, 10, .inl (fun _ => 0)) := by rw [e16, va_up_ne _ _ (by omega)]; exact hc1
  have hc2 : cs16 148 = .inl (gY G 14, 10, .inl (fun _ => 0)) := by rw [e16, va_up_ne _ _ (by omega)]; exact hc2
  have hc3 : cs16 149 = .inl (gY G 14, 10, .inl (fun _ => 0)) := by rw [e16, va_up_ne _ _ (by omega)]; exact hc3
  have hc4 : cs16 150 = .inl (gY G 14, 10, .inl (fun _ => 0)) := by rw [e16, va_up_ne _ _ (by omega)]; exact hc4
  have hc5 : cs16 151 = .inl (gY G 14, 10, .inl (fun _ => 0)) := by rw [e16, va_up_ne _ _ (by omega)]; exact hc5
  have hc6 : cs16 152 = refI G 22 152 0 := by rw [e16, va_up_ne _ _ (by omega)]; exact hc6
  have hc7 : cs16 153 = refI G 17 153 0 := by rw [e16, va_up_ne _ _ (by omega)]; exact hc7
  have hc8 : cs16 154 = .inl (gY G 14, 60, .inl (fun _ => 0)) := by rw [e16, va_up_ne _ _ (by omega)]; exact hc8
  have hc0 : cs16 146 = .inr (3, [.null, .null, .int 0, .int 0, .ref (gA G 147), .ref (gA G 148), .ref (gA G 149), .ref (gA G 150), .ref (gA G 151), .ref (gA G 152), .ref (gA G 153), .int 0, .int 0, .ref (gA G 154), .null, .null, .null, .int 0, .int 0, .int 0]) := by rw [e16]; exact va_up_self _ _ _
  have hlo : ∀ n, n < 146 → cs16 n = cs n := fun n a => by rw [e16, va_up_ne _ _ (by omega)]; exact hlo n a
  clear e16
  refine ry_aload_n 0 dX3_init_69 rfl rfl ?_
  refine ry_bipush (v := 60) dX3_init_70 rfl ?_
  refine ry_newa (κ := 14) (n := 60) (atype := .int) (ty := .int) (t0 := 1) rfl wa_int rfl (fun _ _ => Iff.rfl) rfl (by decide) rfl (by decide) (by decide) (by decide) dX3_init_72 ?_
  refine ry_cs (fun cs17 e17 => ?_)
  have hc0 : cs17 146 = .inr (3, [.null, .null, .int 0, .int 0, .ref (gA G 147), .ref (gA G 148), .ref (gA G 149), .ref (gA G 150), .ref (gA G 151), .ref (gA G 152), .ref (gA G 153), .int 0, .int 0, .ref (gA G 154), .null, .null, .null, .int 0, .int 0, .int 0]) := by rw [e17, va_up_ne _ _ (by omega)]; exact hc0
  have hc1 : cs17 147 = .inl (gY G 14, 10, .inl (fun _ => 0)) := by rw [e17, va_up_ne _ _ (by omega)]; exact hc1
  have hc2 : cs17 148 = .inl (gY G 14, 10, .inl (fun _ => 0)) := by rw [e17, va_up_ne _ _ (by omega)]; exact hc2
  have hc3 : cs17 149 = .inl (gY G 14, 10, .inl (fun _ => 0)) := by rw [e17, va_up_ne _ _ (by omega)]; exact hc3
  have hc4 : cs17 150 = .inl (gY G 14, 10, .inl (fun _ => 0)) := by rw [e17, va_up_ne _ _ (by omega)]; exact hc4
  have hc5 : cs17 151 = .inl (gY G 14, 10, .inl (fun _ => 0)) := by rw [e17, va_up_ne _ _ (by omega)]; exact hc5
  have hc6 : cs17 152 = refI G 22 152 0 := by rw [e17, va_up_ne _ _ (by omega)]; exact hc6
  have hc7 : cs17 153 = refI G 17 153 0 := by rw [e17, va_up_ne _ _ (by omega)]; exact hc7
  have hc8 : cs17 154 = .inl (gY G 14, 60, .inl (fun _ => 0)) := by rw [e17, va_up_ne _ _ (by omega)]; exact hc8
  have hc9 : cs17 155 = .inl (gY G 14, 60, .inl (fun _ => 0)) := by rw [e17]; exact va_up_self _ _ _
  have hlo : ∀ n, n < 146 → cs17 n = cs n := fun n a => by rw [e17, va_up_ne _ _ (by omega)]; exact hlo n a
  clear e17
  refine ry_putF ff_X3_42 rfl (by omega) hc0 rfl rfl (by decide) dX3_init_74 ?_
  refine ry_cs (fun cs18 e18 => ?_)
  have hc1 : cs18 147 = .inl (gY G 14, 10, .inl (fun _ => 0)) := by rw [e18, va_up_ne _ _ (by omega)]; exact hc1
  have hc2 : cs18 148 = .inl (gY G 14, 10, .inl (fun _ => 0)) := by rw [e18, va_up_ne _ _ (by omega)]; exact hc2
  have hc3 : cs18 149 = .inl (gY G 14, 10, .inl (fun _ => 0)) := by rw [e18, va_up_ne _ _ (by omega)]; exact hc3
  have hc4 : cs18 150 = .inl (gY G 14, 10, .inl (fun _ => 0)) := by rw [e18, va_up_ne _ _ (by omega)]; exact hc4
  have hc5 : cs18 151 = .inl (gY G 14, 10, .inl (fun _ => 0)) := by rw [e18, va_up_ne _ _ (by omega)]; exact hc5
  have hc6 : cs18 152 = refI G 22 152 0 := by rw [e18, va_up_ne _ _ (by omega)]; exact hc6
  have hc7 : cs18 153 = refI G 17 153 0 := by rw [e18, va_up_ne _ _ (by omega)]; exact hc7
  have hc8 : cs18 154 = .inl (gY G 14, 60, .inl (fun _ => 0)) := by rw [e18, va_up_ne _ _ (by omega)]; exact hc8
  have hc9 : cs18 155 = .inl (gY G 14, 60, .inl (fun _ => 0)) := by rw [e18, va_up_ne _ _ (by omega)]; exact hc9
  have hc0 : cs18 146 = .inr (3, [.null, .null, .int 0, .int 0, .ref (gA G 147), .ref (gA G 148), .ref (gA G 149), .ref (gA G 150), .ref (gA G 151), .ref (gA G 152), .ref (gA G 153), .int 0, .int 0, .ref (gA G 154), .ref (gA G 155), .null, .null, .int 0, .int 0, .int 0]) := by rw [e18]; exact va_up_self _ _ _
  have hlo : ∀ n, n < 146 → cs18 n = cs n := fun n a => by rw [e18, va_up_ne _ _ (by omega)]; exact hlo n a
  clear e18
  refine ry_aload_n 0 dX3_init_77 rfl rfl ?_
  refine ry_bipush (v := 60) dX3_init_78 rfl ?_
  refine ry_newa (κ := 14) (n := 60) (atype := .int) (ty := .int) (t0 := 1) rfl wa_int rfl (fun _ _ => Iff.rfl) rfl (by decide) rfl (by decide) (by decide) (by decide) dX3_init_80 ?_
  refine ry_cs (fun cs19 e19 => ?_)
  have hc0 : cs19 146 = .inr (3, [.null, .null, .int 0, .int 0, .ref (gA G 147), .ref (gA G 148), .ref (gA G 149), .ref (gA G 150), .ref (gA G 151), .ref (gA G 152), .ref (gA G 153), .int 0, .int 0, .ref (gA G 154), .ref (gA G 155), .null, .null, .int 0, .int 0, .int 0]) := by rw [e19, va_up_ne _ _ (by omega)]; exact hc0
  have hc1 : cs19 147 = .inl (gY G 14, 10, .inl (fun _ => 0)) := by rw [e19, va_up_ne _ _ (by omega)]; exact hc1
  have hc2 : cs19 148 = .inl (gY G 14, 10, .inl (fun _ => 0)) := by rw [e19, va_up_ne _ _ (by omega)]; exact hc2
  have hc3 : cs19 149 = .inl (gY G 14, 10, .inl (fun _ => 0)) := by rw [e19, va_up_ne _ _ (by omega)]; exact hc3
  have hc4 : cs19 150 = .inl (gY G 14, 10, .inl (fun _ => 0)) := by rw [e19, va_up_ne _ _ (by omega)]; exact hc4
  have hc5 : cs19 151 = .inl (gY G 14, 10, .inl (fun _ => 0)) := by rw [e19, va_up_ne _ _ (by omega)]; exact hc5
  have hc6 : cs19 152 = refI G 22 152 0 := by rw [e19, va_up_ne _ _ (by omega)]; exact hc6
  have hc7 : cs19 153 = refI G 17 153 0 := by rw [e19, va_up_ne _ _ (by omega)]; exact hc7
  have hc8 : cs19 154 = .inl (gY G 14, 60, .inl (fun _ => 0)) := by rw [e19, va_up_ne _ _ (by omega)]; exact hc8
  have hc9 : cs19 155 = .inl (gY G 14, 60, .inl (fun _ => 0)) := by rw [e19, va_up_ne _ _ (by omega)]; exact hc9
  have hc10 : cs19 156 = .inl (gY G 14, 60, .inl (fun _ => 0)) := by rw [e19]; exact va_up_self _ _ _
  have hlo : ∀ n, n < 146 → cs19 n = cs n := fun n a => by rw [e19, va_up_ne _ _ (by omega)]; exact hlo n a
  clear e19
  refine ry_putF ff_X3_45 rfl (by omega) hc0 rfl rfl (by decide) dX3_init_82 ?_
  refine ry_cs (fun cs20 e20 => ?_)
  have hc1 : cs20 147 = .inl (gY G 14, 10, .inl (fun _ => 0)) := by rw [e20, va_up_ne _ _ (by omega)]; exact hc1
  have hc2 : cs20 148 = .inl (gY G 14, 10, .inl (fun _ => 0)) := by rw [e20, va_up_ne _ _ (by omega)]; exact hc2
  have hc3 : cs20 149 = .inl (gY G 14, 10, .inl (fun _ => 0)) := by rw [e20, va_up_ne _ _ (by omega)]; exact hc3
  have hc4 : cs20 150 = .inl (gY G 14, 10, .inl (fun _ => 0)) := by rw [e20, va_up_ne _ _ (by omega)]; exact hc4
  have hc5 : cs20 151 = .inl (gY G 14, 10, .inl (fun _ => 0)) := by rw [e20, va_up_ne _ _ (by omega)]; exact hc5
  have hc6 : cs20 152 = refI G 22 152 0 := by rw [e20, va_up_ne _ _ (by omega)]; exact hc6
  have hc7 : cs20 153 = refI G 17 153 0 := by rw [e20, va_up_ne _ _ (by omega)]; exact hc7
  have hc8 : cs20 154 = .inl (gY G 14, 60, .inl (fun _ => 0)) := by rw [e20, va_up_ne _ _ (by omega)]; exact hc8
  have hc9 : cs20 155 = .inl (gY G 14, 60, .inl (fun _ => 0)) := by rw [e20, va_up_ne _ _ (by omega)]; exact hc9
  have hc10 : cs20 156 = .inl (gY G 14, 60, .inl (fun _ => 0)) := by rw [e20, va_up_ne _ _ (by omega)]; exact hc10
  have hc0 : cs20 146 = .inr (3, [.null, .null, .int 0, .int 0, .ref (gA G 147), .ref (gA G 148), .ref (gA G 149), .ref (gA G 150), .ref (gA G 151), .ref (gA G 152), .ref (gA G 153), .int 0, .int 0, .ref (gA G 154), .ref (gA G 155), .ref (gA G 156), .null, .int 0, .int 0, .int 0]) := by rw [e20]; exact va_up_self _ _ _
  have hlo : ∀ n, n < 146 → cs20 n = cs n := fun n a => by rw [e20, va_up_ne _ _ (by omega)]; exact hlo n a
  clear e20
  refine ry_aload_n 0 dX3_init_85 rfl rfl ?_
  refine ry_bipush (v := 60) dX3_init_86 rfl ?_
  refine ry_newa (κ := 14) (n := 60) (atype := .int) (ty := .int) (t0 := 1) rfl wa_int rfl (fun _ _ => Iff.rfl) rfl (by decide) rfl (by decide) (by decide) (by decide) dX3_init_88 ?_
  refine ry_cs (fun cs21 e21 => ?_)
  have hc0 : cs21 146 = .inr (3, [.null, .null, .int 0, .int 0, .ref (gA G 147), .ref (gA G 148), .ref (gA G 149), .ref (gA G 150), .ref (gA G 151), .ref (gA G 152), .ref (gA G 153), .int 0, .int 0, .ref (gA G 154), .ref (gA G 155), .ref (gA G 156), .null, .int 0, .int 0, .int 0]) := by rw [e21, va_up_ne _ _ (by omega)]; exact hc0
  have hc1 : cs21 147 = .inl (gY G 14, 10, .inl (fun _ => 0)) := by rw [e21, va_up_ne _ _ (by omega)]; exact hc1
  have hc2 : cs21 148 = .inl (gY G 14, 10, .inl (fun _ => 0)) := by rw [e21, va_up_ne _ _ (by omega)]; exact hc2
  have hc3 : cs21 149 = .inl (gY G 14, 10, .inl (fun _ => 0)) := by rw [e21, va_up_ne _ _ (by omega)]; exact hc3
  have hc4 : cs21 150 = .inl (gY G 14, 10, .inl (fun _ => 0)) := by rw [e21, va_up_ne _ _ (by omega)]; exact hc4
  have hc5 : cs21 151 = .inl (gY G 14, 10, .inl (fun _ => 0)) := by rw [e21, va_up_ne _ _ (by omega)]; exact hc5
  have hc6 : cs21 152 = refI G 22 152 0 := by rw [e21, va_up_ne _ _ (by omega)]; exact hc6
  have hc7 : cs21 153 = refI G 17 153 0 := by rw [e21, va_up_ne _ _ (by omega)]; exact hc7
  have hc8 : cs21 154 = .inl (gY G 14, 60, .inl (fun _ => 0)) := by rw [e21, va_up_ne _ _ (by omega)]; exact hc8
  have hc9 : cs21 155 = .inl (gY G 14, 60, .inl (fun _ => 0)) := by rw [e21, va_up_ne _ _ (by omega)]; exact hc9
  have hc10 : cs21 156 = .inl (gY G 14, 60, .inl (fun _ => 0)) := by rw [e21, va_up_ne _ _ (by omega)]; exact hc10
  have hc11 : cs21 157 = .inl (gY G 14, 60, .inl (fun _ => 0)) := by rw [e21]; exact va_up_self _ _ _
  have hlo : ∀ n, n < 146 → cs21 n = cs n := fun n a => by rw [e21, va_up_ne _ _ (by omega)]; exact hlo n a
  clear e21
  refine ry_putF ff_X3_48 rfl (by omega) hc0 rfl rfl (by decide) dX3_init_90 ?_
  refine ry_cs (fun cs22 e22 => ?_)
  have hc1 : cs22 147 = .inl (gY G 14, 10, .inl (fun _ => 0)) := by rw [e22, va_up_ne _ _ (by omega)]; exact hc1
  have hc2 : cs22 148 = .inl (gY G 14, 10, .inl (fun _ => 0)) := by rw [e22, va_up_ne _ _ (by omega)]; exact hc2
  have hc3 : cs22 149 = .inl (gY G 14, 10, .inl (fun _ => 0)) := by rw [e22, va_up_ne _ _ (by omega)]; exact hc3
  have hc4 : cs22 150 = .inl (gY G 14, 10, .inl (fun _ => 0)) := by rw [e22, va_up_ne _ _ (by omega)]; exact hc4
  have hc5 : cs22 151 = .inl (gY G 14, 10, .inl (fun _ => 0)) := by rw [e22, va_up_ne _ _ (by omega)]; exact hc5
  have hc6 : cs22 152 = refI G 22 152 0 := by rw [e22, va_up_ne _ _ (by omega)]; exact hc6
  have hc7 : cs22 153 = refI G 17 153 0 := by rw [e22, va_up_ne _ _ (by omega)]; exact hc7
  have hc8 : cs22 154 = .inl (gY G 14, 60, .inl (fun _ => 0)) := by rw [e22, va_up_ne _ _ (by omega)]; exact hc8
  have hc9 : cs22 155 = .inl (gY G 14, 60, .inl (fun _ => 0)) := by rw [e22, va_up_ne _ _ (by omega)]; exact hc9
  have hc10 : cs22 156 = .inl (gY G 14, 60, .inl (fun _ => 0)) := by rw [e22, va_up_ne _ _ (by omega)]; exact hc10
  have hc11 : cs22 157 = .inl (gY G 14, 60, .inl (fun _ => 0)) := by rw [e22, va_up_ne _ _ (by omega)]; exact hc11
  have hc0 : cs22 146 = .inr (3, [.null, .null, .int 0, .int 0, .ref (gA G 147), .ref (gA G 148), .ref (gA G 149), .ref (gA G 150), .ref (gA G 151), .ref (gA G 152), .ref (gA G 153), .int 0, .int 0, .ref (gA G 154), .ref (gA G 155), .ref (gA G 156), .ref (gA G 157), .int 0, .int 0, .int 0]) := by rw [e22]; exact va_up_self _ _ _
  have hlo : ∀ n, n < 146 → cs22 n = cs n := fun n a => by rw [e22, va_up_ne _ _ (by omega)]; exact hlo n a
  clear e22
  refine ry_aload_n 0 dX3_init_93 rfl rfl ?_
  refine ry_aload_n 1 dX3_init_94 rfl rfl ?_
  refine ry_put fp_X3_51 (by omega) hc0 rfl rfl (by decide) dX3_init_95 ?_
  refine ry_cs (fun cs23 e23 => ?_)
  have hc1 : cs23 147 = .inl (gY G 14, 10, .inl (fun _ => 0)) := by rw [e23, va_up_ne _ _ (by omega)]; exact hc1
  have hc2 : cs23 148 = .inl (gY G 14, 10, .inl (fun _ => 0)) := by rw [e23, va_up_ne _ _ (by omega)]; exact hc2
  have hc3 : cs23 149 = .inl (gY G 14, 10, .inl (fun _ => 0)) := by rw [e23, va_up_ne _ _ (by omega)]; exact hc3
  have hc4 : cs23 150 = .inl (gY G 14, 10, .inl (fun _ => 0)) := by rw [e23, va_up_ne _ _ (by omega)]; exact hc4
  have hc5 : cs23 151 = .inl (gY G 14, 10, .inl (fun _ => 0)) := by rw [e23, va_up_ne _ _ (by omega)]; exact hc5
  have hc6 : cs23 152 = refI G 22 152 0 := by rw [e23, va_up_ne _ _ (by omega)]; exact hc6
  have hc7 : cs23 153 = refI G 17 153 0 := by rw [e23, va_up_ne _ _ (by omega)]; exact hc7
  have hc8 : cs23 154 = .inl (gY G 14, 60, .inl (fun _ => 0)) := by rw [e23, va_up_ne _ _ (by omega)]; exact hc8
  have hc9 : cs23 155 = .inl (gY G 14, 60, .inl (fun _ => 0)) := by rw [e23, va_up_ne _ _ (by omega)]; exact hc9
  have hc10 : cs23 156 = .inl (gY G 14, 60, .inl (fun _ => 0)) := by rw [e23, va_up_ne _ _ (by omega)]; exact hc10
  have hc11 : cs23 157 = .inl (gY G 14, 60, .inl (fun _ => 0)) := by rw [e23, va_up_ne _ _ (by omega)]; exact hc11
  have hc0 : cs23 146 = .inr (3, [.ref (gA G 8), .null, .int 0, .int 0, .ref (gA G 147), .ref (gA G 148), .ref (gA G 149), .ref (gA G 150), .ref (gA G 151), .ref (gA G 152), .ref (gA G 153), .int 0, .int 0, .ref (gA G 154), .ref (gA G 155), .ref (gA G 156), .ref (gA G 157), .int 0, .int 0, .int 0]) := by rw [e23]; exact va_up_self _ _ _
  have hlo : ∀ n, n < 146 → cs23 n = cs n := fun n a => by rw [e23, va_up_ne _ _ (by omega)]; exact hlo n a
  clear e23
  refine ry_aload_n 0 dX3_init_98 rfl rfl ?_
  refine ry_aload_n 2 dX3_init_99 rfl rfl ?_
  refine ry_put fp_X3_55 (by omega) hc0 rfl rfl (by decide) dX3_init_100 ?_
  refine ry_cs (fun cs24 e24 => ?_)
  have hc1 : cs24 147 = .inl (gY G 14, 10, .inl (fun _ => 0)) := by rw [e24, va_up_ne _ _ (by omega)]; exact hc1
  have hc2 : cs24 148 = .inl (gY G 14, 10, .inl (fun _ => 0)) := by rw [e24, va_up_ne _ _ (by omega)]; exact hc2
  have hc3 : cs24 149 = .inl (gY G 14, 10, .inl (fun _ => 0)) := by rw [e24, va_up_ne _ _ (by omega)]; exact hc3
  have hc4 : cs24 150 = .inl (gY G 14, 10, .inl (fun _ => 0)) := by rw [e24, va_up_ne _ _ (by omega)]; exact hc4
  have hc5 : cs24 151 = .inl (gY G 14, 10, .inl (fun _ => 0)) := by rw [e24, va_up_ne _ _ (by omega)]; exact hc5
  have hc6 : cs24 152 = refI G 22 152 0 := by rw [e24, va_up_ne _ _ (by omega)]; exact hc6
  have hc7 : cs24 153 = refI G 17 153 0 := by rw [e24, va_up_ne _ _ (by omega)]; exact hc7
  have hc8 : cs24 154 = .inl (gY G 14, 60, .inl (fun _ => 0)) := by rw [e24, va_up_ne _ _ (by omega)]; exact hc8
  have hc9 : cs24 155 = .inl (gY G 14, 60, .inl (fun _ => 0)) := by rw [e24, va_up_ne _ _ (by omega)]; exact hc9
  have hc10 : cs24 156 = .inl (gY G 14, 60, .inl (fun _ => 0)) := by rw [e24, va_up_ne _ _ (by omega)]; exact hc10
  have hc11 : cs24 157 = .inl (gY G 14, 60, .inl (fun _ => 0)) := by rw [e24, va_up_ne _ _ (by omega)]; exact hc11
  have hc0 : cs24 146 = .inr (3, [.ref (gA G 8), .ref (gA G 10), .int 0, .int 0, .ref (gA G 147), .ref (gA G 148), .ref (gA G 149), .ref (gA G 150), .ref (gA G 151), .ref (gA G 152), .ref (gA G 153), .int 0, .int 0, .ref (gA G 154), .ref (gA G 155), .ref (gA G 156), .ref (gA G 157), .int 0, .int 0, .int 0]) := by rw [e24]; exact va_up_self _ _ _
  have hlo : ∀ n, n < 146 → cs24 n = cs n := fun n a => by rw [e24, va_up_ne _ _ (by omega)]; exact hlo n a
  clear e24
  refine ry_iconst (v := 0) dX3_init_103 rfl ?_
  refine ry_istore_n [(0, .ref (gA G 146)), (1, .ref (gA G 8)), (2, .ref (gA G 10)), (3, .int 0)] [1, 2, 3, 0] dX3_init_104 rfl (by decide) rfl ?_
  refine ry_iload_n 3 dX3_init_105 rfl rfl ?_
  refine ry_iconst (v := 4) dX3_init_106 rfl ?_
  refine ry_icmp_ge 129 dX3_init_107 (by decide) (fun q => absurd q (by decide)) (fun _ => ?_)
  refine ry_aload_n 0 dX3_init_110 rfl rfl ?_
  refine ry_get fl_X3_29 (by omega) hc0 rfl dX3_init_111 ?_
  refine ry_iload_n 3 dX3_init_114 rfl rfl ?_
  refine ry_new (ci := 10) (fs := [.int 0, .int 0, .int 0, .int 0, .int 0, .int 0, .int 0, .int 0, .int 0, .null, .null, .null]) tyX10 tyX10_ok rfl i_X10 wc_X3_27 wi_10 wn_10 bl_10 (by decide) (by decide) dX3_init_115 ?_
  refine ry_cs (fun cs25 e25 => ?_)
  have hc0 : cs25 146 = .inr (3, [.ref (gA G 8), .ref (gA G 10), .int 0, .int 0, .ref (gA G 147), .ref (gA G 148), .ref (gA G 149), .ref (gA G 150), .ref (gA G 151), .ref (gA G 152), .ref (gA G 153), .int 0, .int 0, .ref (gA G 154), .ref (gA G 155), .ref (gA G 156), .ref (gA G 157), .int 0, .int 0, .int 0]) := by rw [e25, va_up_ne _ _ (by omega)]; exact hc0
  have hc1 : cs25 147 = .inl (gY G 14, 10, .inl (fun _ => 0)) := by rw [e25, va_up_ne _ _ (by omega)]; exact hc1
  have hc2 : cs25 148 = .inl (gY G 14, 10, .inl (fun _ => 0)) := by rw [e25, va_up_ne _ _ (by omega)]; exact hc2
  have hc3 : cs25 149 = .inl (gY G 14, 10, .inl (fun _ => 0)) := by rw [e25, va_up_ne _ _ (by omega)]; exact hc3
  have hc4 : cs25 150 = .inl (gY G 14, 10, .inl (fun _ => 0)) := by rw [e25, va_up_ne _ _ (by omega)]; exact hc4
  have hc5 : cs25 151 = .inl (gY G 14, 10, .inl (fun _ => 0)) := by rw [e25, va_up_ne _ _ (by omega)]; exact hc5
  have hc6 : cs25 152 = refI G 22 152 0 := by rw [e25, va_up_ne _ _ (by omega)]; exact hc6
  have hc7 : cs25 153 = refI G 17 153 0 := by rw [e25, va_up_ne _ _ (by omega)]; exact hc7
  have hc8 : cs25 154 = .inl (gY G 14, 60, .inl (fun _ => 0)) := by rw [e25, va_up_ne _ _ (by omega)]; exact hc8
  have hc9 : cs25 155 = .inl (gY G 14, 60, .inl (fun _ => 0)) := by rw [e25, va_up_ne _ _ (by omega)]; exact hc9
  have hc10 : cs25 156 = .inl (gY G 14, 60, .inl (fun _ => 0)) := by rw [e25, va_up_ne _ _ (by omega)]; exact hc10
  have hc11 : cs25 157 = .inl (gY G 14, 60, .inl (fun _ => 0)) := by rw [e25, va_up_ne _ _ (by omega)]; exact hc11
  have hc12 : cs25 158 = .inr (10, [.int 0, .int 0, .int 0, .int 0, .int 0, .int 0, .int 0, .int 0, .int 0, .null, .null, .null]) := by rw [e25]; exact va_up_self _ _ _
  have hlo : ∀ n, n < 146 → cs25 n = cs n := fun n a => by rw [e25, va_up_ne _ _ (by omega)]; exact hlo n a
  clear e25
  refine ry_dup dX3_init_118 rfl ?_
  refine ry_callIN (As := []) (n := 158) (mc := 3) (ms := 30) (Kc G 158 4 _) (fun _ _ h => by have := h.1; omega) mw_X10_init rfl win_X10_init wm_X3_59 rfl ⟨show d + 1 + 1 ≤ d + 2 by omega, show 30 * (d + 1) + 30 ≤ 30 * (d + 2) by omega, by decide, by decide⟩ (Nat.le_of_ble_eq_true rfl) dX3_init_119 (cX10_init G d (show Is 158 10 by unfold Is; decide +kernel) hc12) (fun cs26 hK => ?_) rfl
  obtain ⟨-, hK1, hK2⟩ := hK
  have hc0 : cs26 146 = .inr (3, [.ref (gA G 8), .ref (gA G 10), .int 0, .int 0, .ref (gA G 147), .ref (gA G 148), .ref (gA G 149), .ref (gA G 150), .ref (gA G 151), .ref (gA G 152), .ref (gA G 153), .int 0, .int 0, .ref (gA G 154), .ref (gA G 155), .ref (gA G 156), .ref (gA G 157), .int 0, .int 0, .int 0]) := (hK1 _ (by omega)).trans hc0
  have hc1 : cs26 147 = .inl (gY G 14, 10, .inl (fun _ => 0)) := (hK1 _ (by omega)).trans hc1
  have hc2 : cs26 148 = .inl (gY G 14, 10, .inl (fun _ => 0)) := (hK1 _ (by omega)).trans hc2
  have hc3 : cs26 149 = .inl (gY G 14, 10, .inl (fun _ => 0)) := (hK1 _ (by omega)).trans hc3
  have hc4 : cs26 150 = .inl (gY G 14, 10, .inl (fun _ => 0)) := (hK1 _ (by omega)).trans hc4
  have hc5 : cs26 151 = .inl (gY G 14, 10, .inl (fun _ => 0)) := (hK1 _ (by omega)).trans hc5
  have hc6 : cs26 152 = refI G 22 152 0 := (hK1 _ (by omega)).trans hc6
  have hc7 : cs26 153 = refI G 17 153 0 := (hK1 _ (by omega)).trans hc7
  have hc8 : cs26 154 = .inl (gY G 14, 60, .inl (fun _ => 0)) := (hK1 _ (by omega)).trans hc8
  have hc9 : cs26 155 = .inl (gY G 14, 60, .inl (fun _ => 0)) := (hK1 _ (by omega)).trans hc9
  have hc10 : cs26 156 = .inl (gY G 14, 60, .inl (fun _ => 0)) := (hK1 _ (by omega)).trans hc10
  have hc11 : cs26 157 = .inl (gY G 14, 60, .inl (fun _ => 0)) := (hK1 _ (by omega)).trans hc11
  have hlo : ∀ n, n < 146 → cs26 n = cs n := fun n a => (hK1 n (by omega)).trans (hlo n a)
  have hr12 : ∀ n, 158 ≤ n → n < 162 → cs26 n = finY G n := fun n a b => hK2 n (by omega) (by omega)
  clear hK1 hK2
  refine ry_aast (κ := 22) (κ' := 10) (t0 := 9) (L := 4) (n := 152) (v := 158) (i := 0) (by omega) (by omega) rfl rfl hc6 (ln_at_3_6) ((hr12 158 (by omega) (by omega)).trans (fyE_10 (show Is 158 10 by unfold Is; decide +kernel))) (by decide) rfl (by decide +kernel) dX3_init_122 ?_
  refine ry_cs (fun cs27 e27 => ?_)
  have hc0 : cs27 146 = .inr (3, [.ref (gA G 8), .ref (gA G 10), .int 0, .int 0, .ref (gA G 147), .ref (gA G 148), .ref (gA G 149), .ref (gA G 150), .ref (gA G 151), .ref (gA G 152), .ref (gA G 153), .int 0, .int 0, .ref (gA G 154), .ref (gA G 155), .ref (gA G 156), .ref (gA G 157), .int 0, .int 0, .int 0]) := by rw [e27, va_up_ne _ _ (by omega)]; exact hc0
  have hc1 : cs27 147 = .inl (gY G 14, 10, .inl (fun _ => 0)) := by rw [e27, va_up_ne _ _ (by omega)]; exact hc1
  have hc2 : cs27 148 = .inl (gY G 14, 10, .inl (fun _ => 0)) := by rw [e27, va_up_ne _ _ (by omega)]; exact hc2
  have hc3 : cs27 149 = .inl (gY G 14, 10, .inl (fun _ => 0)) := by rw [e27, va_up_ne _ _ (by omega)]; exact hc3
  have hc4 : cs27 150 = .inl (gY G 14, 10, .inl (fun _ => 0)) := by rw [e27, va_up_ne _ _ (by omega)]; exact hc4
  have hc5 : cs27 151 = .inl (gY G 14, 10, .inl (fun _ => 0)) := by rw [e27, va_up_ne _ _ (by omega)]; exact hc5
  have hc7 : cs27 153 = refI G 17 153 0 := by rw [e27, va_up_ne _ _ (by omega)]; exact hc7
  have hc8 : cs27 154 = .inl (gY G 14, 60, .inl (fun _ => 0)) := by rw [e27, va_up_ne _ _ (by omega)]; exact hc8
  have hc9 : cs27 155 = .inl (gY G 14, 60, .inl (fun _ => 0)) := by rw [e27, va_up_ne _ _ (by omega)]; exact hc9
  have hc10 : cs27 156 = .inl (gY G 14, 60, .inl (fun _ => 0)) := by rw [e27, va_up_ne _ _ (by omega)]; exact hc10
  have hc11 : cs27 157 = .inl (gY G 14, 60, .inl (fun _ => 0)) := by rw [e27, va_up_ne _ _ (by omega)]; exact hc11
  have hc6 : cs27 152 = refI G 22 152 1 := by rw [e27]; exact va_up_self _ _ _
  have hr12 : ∀ n, 158 ≤ n → n < 162 → cs27 n = finY G n := fun n a b => by rw [e27, va_up_ne _ _ (by omega)]; exact hr12 n a b
  have hlo : ∀ n, n < 146 → cs27 n = cs n := fun n a => by rw [e27, va_up_ne _ _ (by omega)]; exact hlo n a
  clear e27
  refine ry_iinc 3 [(0, .ref (gA G 146)), (1, .ref (gA G 8)), (2, .ref (gA G 10)), (3, .int 1)] [1, 2, 3, 0] dX3_init_123 rfl rfl (by decide) rfl ?_
  refine ry_goto 105 dX3_init_126 (by decide) ?_
  refine ry_iload_n 3 dX3_init_105 rfl rfl ?_
  refine ry_iconst (v := 4) dX3_init_106 rfl ?_
  refine ry_icmp_ge 129 dX3_init_107 (by decide) (fun q => absurd q (by decide)) (fun _ => ?_)
  refine ry_aload_n 0 dX3_init_110 rfl rfl ?_
  refine ry_get fl_X3_29 (by omega) hc0 rfl dX3_init_111 ?_
  refine ry_iload_n 3 dX3_init_114 rfl rfl ?_
  refine ry_new (ci := 10) (fs := [.int 0, .int 0, .int 0, .int 0, .int 0, .int 0, .int 0, .int 0, .int 0, .null, .null, .null]) tyX10 tyX10_ok rfl i_X10 wc_X3_27 wi_10 wn_10 bl_10 (by decide) (by decide) dX3_init_115 ?_
  refine ry_cs (fun cs28 e28 => ?_)
  have hc0 : cs28 146 = .inr (3, [.ref (gA G 8), .ref (gA G 10), .int 0, .int 0, .ref (gA G 147), .ref (gA G 148), .ref (gA G 149), .ref (gA G 150), .ref (gA G 151), .ref (gA G 152), .ref (gA G 153), .int 0, .int 0, .ref (gA G 154), .ref (gA G 155), .ref (gA G 156), .ref (gA G 157), .int 0, .int 0, .int 0]) := by rw [e28, va_up_ne _ _ (by omega)]; exact hc0
  have hc1 : cs28 147 = .inl (gY G 14, 10, .inl (fun _ => 0)) := by rw [e28, va_up_ne _ _ (by omega)]; exact hc1
  have hc2 : cs28 148 = .inl (gY G 14, 10, .inl (fun _ => 0)) := by rw [e28, va_up_ne _ _ (by omega)]; exact hc2
  have hc3 : cs28 149 = .inl (gY G 14, 10, .inl (fun _ => 0)) := by rw [e28, va_up_ne _ _ (by omega)]; exact hc3
  have hc4 : cs28 150 = .inl (gY G 14, 10, .inl (fun _ => 0)) := by rw [e28, va_up_ne _ _ (by omega)]; exact hc4
  have hc5 : cs28 151 = .inl (gY G 14, 10, .inl (fun _ => 0)) := by rw [e28, va_up_ne _ _ (by omega)]; exact hc5
  have hc6 : cs28 152 = refI G 22 152 1 := by rw [e28, va_up_ne _ _ (by omega)]; exact hc6
  have hc7 : cs28 153 = refI G 17 153 0 := by rw [e28, va_up_ne _ _ (by omega)]; exact hc7
  have hc8 : cs28 154 = .inl (gY G 14, 60, .inl (fun _ => 0)) := by rw [e28, va_up_ne _ _ (by omega)]; exact hc8
  have hc9 : cs28 155 = .inl (gY G 14, 60, .inl (fun _ => 0)) := by rw [e28, va_up_ne _ _ (by omega)]; exact hc9
  have hc10 : cs28 156 = .inl (gY G 14, 60, .inl (fun _ => 0)) := by rw [e28, va_up_ne _ _ (by omega)]; exact hc10
  have hc11 : cs28 157 = .inl (gY G 14, 60, .inl (fun _ => 0)) := by rw [e28, va_up_ne _ _ (by omega)]; exact hc11
  have hc16 : cs28 162 = .inr (10, [.int 0, .int 0, .int 0, .int 0, .int 0, .int 0, .int 0, .int 0, .int 0, .null, .null, .null]) := by rw [e28]; exact va_up_self _ _ _
  have hr12 : ∀ n, 158 ≤ n → n < 162 → cs28 n = finY G n := fun n a b => by rw [e28, va_up_ne _ _ (by omega)]; exact hr12 n a b
  have hlo : ∀ n, n < 146 → cs28 n = cs n := fun n a => by rw [e28, va_up_ne _ _ (by omega)]; exact hlo n a
  clear e28
  refine ry_dup dX3_init_118 rfl ?_
  refine ry_callIN (As := []) (n := 162) (mc := 3) (ms := 30) (Kc G 162 4 _) (fun _ _ h => by have := h.1; omega) mw_X10_init rfl win_X10_init wm_X3_59 rfl ⟨show d + 1 + 1 ≤ d + 2 by omega, show 30 * (d + 1) + 30 ≤ 30 * (d + 2) by omega, by decide, by decide⟩ (Nat.le_of_ble_eq_true rfl) dX3_init_119 (cX10_init G d (show Is 162 10 by unfold Is; decide +kernel) hc16) (fun cs29 hK => ?_) rfl
  obtain ⟨-, hK1, hK2⟩ := hK
  have hc0 : cs29 146 = .inr (3, [.ref (gA G 8), .ref (gA G 10), .int 0, .int 0, .ref (gA G 147), .ref (gA G 148), .ref (gA G 149), .ref (gA G 150), .ref (gA G 151), .ref (gA G 152), .ref (gA G 153), .int 0, .int 0, .ref (gA G 154), .ref (gA G 155), .ref (gA G 156), .ref (gA G 157), .int 0, .int 0, .int 0]) := (hK1 _ (by omega)).trans hc0
  have hc1 : cs29 147 = .inl (gY G 14, 10, .inl (fun _ => 0)) := (hK1 _ (by omega)).trans hc1
  have hc2 : cs29 148 = .inl (gY G 14, 10, .inl (fun _ => 0)) := (hK1 _ (by omega)).trans hc2
  have hc3 : cs29 149 = .inl (gY G 14, 10, .inl (fun _ => 0)) := (hK1 _ (by omega)).trans hc3
  have hc4 : cs29 150 = .inl (gY G 14, 10, .inl (fun _ => 0)) := (hK1 _ (by omega)).trans hc4
  have hc5 : cs29 151 = .inl (gY G 14, 10, .inl (fun _ => 0)) := (hK1 _ (by omega)).trans hc5
  have hc6 : cs29 152 = refI G 22 152 1 := (hK1 _ (by omega)).trans hc6
  have hc7 : cs29 153 = refI G 17 153 0 := (hK1 _ (by omega)).trans hc7
  have hc8 : cs29 154 = .inl (gY G 14, 60, .inl (fun _ => 0)) := (hK1 _ (by omega)).trans hc8
  have hc9 : cs29 155 = .inl (gY G 14, 60, .inl (fun _ => 0)) := (hK1 _ (by omega)).trans hc9
  have hc10 : cs29 156 = .inl (gY G 14, 60, .inl (fun _ => 0)) := (hK1 _ (by omega)).trans hc10
  have hc11 : cs29 157 = .inl (gY G 14, 60, .inl (fun _ => 0)) := (hK1 _ (by omega)).trans hc11
  have hr12 : ∀ n, 158 ≤ n → n < 162 → cs29 n = finY G n := fun n a b => (hK1 n (by omega)).trans (hr12 n a b)
  have hlo : ∀ n, n < 146 → cs29 n = cs n := fun n a => (hK1 n (by omega)).trans (hlo n a)
  have hr12 : ∀ n, 158 ≤ n → n < 166 → cs29 n = finY G n := fun n a b => if h : n < 162 then hr12 n a h else hK2 n (by omega) (by omega)
  clear hK1 hK2
  refine ry_aast (κ := 22) (κ' := 10) (t0 := 9) (L := 4) (n := 152) (v := 162) (i := 1) (by omega) (by omega) rfl rfl hc6 (ln_at_3_6) ((hr12 162 (by omega) (by omega)).trans (fyE_10 (show Is 162 10 by unfold Is; decide +kernel))) (by decide) rfl (by decide +kernel) dX3_init_122 ?_
  refine ry_cs (fun cs30 e30 => ?_)
  have hc0 : cs30 146 = .inr (3, [.ref (gA G 8), .ref (gA G 10), .int 0, .int 0, .ref (gA G 147), .ref (gA G 148), .ref (gA G 149), .ref (gA G 150), .ref (gA G 151), .ref (gA G 152), .ref (gA G 153), .int 0, .int 0, .ref (gA G 154), .ref (gA G 155), .ref (gA G 156), .ref (gA G 157), .int 0, .int 0, .int 0]) := by rw [e30, va_up_ne _ _ (by omega)]; exact hc0
  have hc1 : cs30 147 = .inl (gY G 14, 10, .inl (fun _ => 0)) := by rw [e30, va_up_ne _ _ (by omega)]; exact hc1
  have hc2 : cs30 148 = .inl (gY G 14, 10, .inl (fun _ => 0)) := by rw [e30, va_up_ne _ _ (by omega)]; exact hc2
  have hc3 : cs30 149 = .inl (gY G 14, 10, .inl (fun _ => 0)) := by rw [e30, va_up_ne _ _ (by omega)]; exact hc3
  have hc4 : cs30 150 = .inl (gY G 14, 10, .inl (fun _ => 0)) := by rw [e30, va_up_ne _ _ (by omega)]; exact hc4
  have hc5 : cs30 151 = .inl (gY G 14, 10, .inl (fun _ => 0)) := by rw [e30, va_up_ne _ _ (by omega)]; exact hc5
  have hc7 : cs30 153 = refI G 17 153 0 := by rw [e30, va_up_ne _ _ (by omega)]; exact hc7
  have hc8 : cs30 154 = .inl (gY G 14, 60, .inl (fun _ => 0)) := by rw [e30, va_up_ne _ _ (by omega)]; exact hc8
  have hc9 : cs30 155 = .inl (gY G 14, 60, .inl (fun _ => 0)) := by rw [e30, va_up_ne _ _ (by omega)]; exact hc9
  have hc10 : cs30 156 = .inl (gY G 14, 60, .inl (fun _ => 0)) := by rw [e30, va_up_ne _ _ (by omega)]; exact hc10
  have hc11 : cs30 157 = .inl (gY G 14, 60, .inl (fun _ => 0)) := by rw [e30, va_up_ne _ _ (by omega)]; exact hc11
  have hc6 : cs30 152 = refI G 22 152 2 := by rw [e30]; exact va_up_self _ _ _
  have hr12 : ∀ n, 158 ≤ n → n < 166 → cs30 n = finY G n := fun n a b => by rw [e30, va_up_ne _ _ (by omega)]; exact hr12 n a b
  have hlo : ∀ n, n < 146 → cs30 n = cs n := fun n a => by rw [e30, va_up_ne _ _ (by omega)]; exact hlo n a
  clear e30
  refine ry_iinc 3 [(0, .ref (gA G 146)), (1, .ref (gA G 8)), (2, .ref (gA G 10)), (3, .int 2)] [1, 2, 3, 0] dX3_init_123 rfl rfl (by decide) rfl ?_
  refine ry_goto 105 dX3_init_126 (by decide) ?_
  refine ry_iload_n 3 dX3_init_105 rfl rfl ?_
  refine ry_iconst (v := 4) dX3_init_106 rfl ?_
  refine ry_icmp_ge 129 dX3_init_107 (by decide) (fun q => absurd q (by decide)) (fun _ => ?_)
  refine ry_aload_n 0 dX3_init_110 rfl rfl ?_
  refine ry_get fl_X3_29 (by omega) hc0 rfl dX3_init_111 ?_
  refine ry_iload_n 3 dX3_init_114 rfl rfl ?_
  refine ry_new (ci := 10) (fs := [.int 0, .int 0, .int 0, .int 0, .int 0, .int 0, .int 0, .int 0, .int 0, .null, .null, .null]) tyX10 tyX10_ok rfl i_X10 wc_X3_27 wi_10 wn_10 bl_10 (by decide) (by decide) dX3_init_115 ?_
  refine ry_cs (fun cs31 e31 => ?_)
  have hc0 : cs31 146 = .inr (3, [.ref (gA G 8), .ref (gA G 10), .int 0, .int 0, .ref (gA G 147), .ref (gA G 148), .ref (gA G 149), .ref (gA G 150), .ref (gA G 151), .ref (gA G 152), .ref (gA G 153), .int 0, .int 0, .ref (gA G 154), .ref (gA G 155), .ref (gA G 156), .ref (gA G 157), .int 0, .int 0, .int 0]) := by rw [e31, va_up_ne _ _ (by omega)]; exact hc0
  have hc1 : cs31 147 = .inl (gY G 14, 10, .inl (fun _ => 0)) := by rw [e31, va_up_ne _ _ (by omega)]; exact hc1
  have hc2 : cs31 148 = .inl (gY G 14, 10, .inl (fun _ => 0)) := by rw [e31, va_up_ne _ _ (by omega)]; exact hc2
  have hc3 : cs31 149 = .inl (gY G 14, 10, .inl (fun _ => 0)) := by rw [e31, va_up_ne _ _ (by omega)]; exact hc3
  have hc4 : cs31 150 = .inl (gY G 14, 10, .inl (fun _ => 0)) := by rw [e31, va_up_ne _ _ (by omega)]; exact hc4
  have hc5 : cs31 151 = .inl (gY G 14, 10, .inl (fun _ => 0)) := by rw [e31, va_up_ne _ _ (by omega)]; exact hc5
  have hc6 : cs31 152 = refI G 22 152 2 := by rw [e31, va_up_ne _ _ (by omega)]; exact hc6
  have hc7 : cs31 153 = refI G 17 153 0 := by rw [e31, va_up_ne _ _ (by omega)]; exact hc7
  have hc8 : cs31 154 = .inl (gY G 14, 60, .inl (fun _ => 0)) := by rw [e31, va_up_ne _ _ (by omega)]; exact hc8
  have hc9 : cs31 155 = .inl (gY G 14, 60, .inl (fun _ => 0)) := by rw [e31, va_up_ne _ _ (by omega)]; exact hc9
  have hc10 : cs31 156 = .inl (gY G 14, 60, .inl (fun _ => 0)) := by rw [e31, va_up_ne _ _ (by omega)]; exact hc10
  have hc11 : cs31 157 = .inl (gY G 14, 60, .inl (fun _ => 0)) := by rw [e31, va_up_ne _ _ (by omega)]; exact hc11
  have hc20 : cs31 166 = .inr (10, [.int 0, .int 0, .int 0, .int 0, .int 0, .int 0, .int 0, .int 0, .int 0, .null, .null, .null]) := by rw [e31]; exact va_up_self _ _ _
  have hr12 : ∀ n, 158 ≤ n → n < 166 → cs31 n = finY G n := fun n a b => by rw [e31, va_up_ne _ _ (by omega)]; exact hr12 n a b
  have hlo : ∀ n, n < 146 → cs31 n = cs n := fun n a => by rw [e31, va_up_ne _ _ (by omega)]; exact hlo n a
  clear e31
  refine ry_dup dX3_init_118 rfl ?_
  refine ry_callIN (As := []) (n := 166) (mc := 3) (ms := 30) (Kc G 166 4 _) (fun _ _ h => by have := h.1; omega) mw_X10_init rfl win_X10_init wm_X3_59 rfl ⟨show d + 1 + 1 ≤ d + 2 by omega, show 30 * (d + 1) + 30 ≤ 30 * (d + 2) by omega, by decide, by decide⟩ (Nat.le_of_ble_eq_true rfl) dX3_init_119 (cX10_init G d (show Is 166 10 by unfold Is; decide +kernel) hc20) (fun cs32 hK => ?_) rfl
  obtain ⟨-, hK1, hK2⟩ := hK
  have hc0 : cs32 146 = .inr (3, [.ref (gA G 8), .ref (gA G 10), .int 0, .int 0, .ref (gA G 147), .ref (gA G 148), .ref (gA G 149), .ref (gA G 150), .ref (gA G 151), .ref (gA G 152), .ref (gA G 153), .int 0, .int 0, .ref (gA G 154), .ref (gA G 155), .ref (gA G 156), .ref (gA G 157), .int 0, .int 0, .int 0]) := (hK1 _ (by omega)).trans hc0
  have hc1 : cs32 147 = .inl (gY G 14, 10, .inl (fun _ => 0)) := (hK1 _ (by omega)).trans hc1
  have hc2 : cs32 148 = .inl (gY G 14, 10, .inl (fun _ => 0)) := (hK1 _ (by omega)).trans hc2
  have hc3 : cs32 149 = .inl (gY G 14, 10, .inl (fun _ => 0)) := (hK1 _ (by omega)).trans hc3
  have hc4 : cs32 150 = .inl (gY G 14, 10, .inl (fun _ => 0)) := (hK1 _ (by omega)).trans hc4
  have hc5 : cs32 151 = .inl (gY G 14, 10, .inl (fun _ => 0)) := (hK1 _ (by omega)).trans hc5
  have hc6 : cs32 152 = refI G 22 152 2 := (hK1 _ (by omega)).trans hc6
  have hc7 : cs32 153 = refI G 17 153 0 := (hK1 _ (by omega)).trans hc7
  have hc8 : cs32 154 = .inl (gY G 14, 60, .inl (fun _ => 0)) := (hK1 _ (by omega)).trans hc8
  have hc9 : cs32 155 = .inl (gY G 14, 60, .inl (fun _ => 0)) := (hK1 _ (by omega)).trans hc9
  have hc10 : cs32 156 = .inl (gY G 14, 60, .inl (fun _ => 0)) := (hK1 _ (by omega)).trans hc10
  have hc11 : cs32 157 = .inl (gY G 14, 60, .inl (fun _ => 0)) := (hK1 _ (by omega)).trans hc11
  have hr12 : ∀ n, 158 ≤ n → n < 166 → cs32 n = finY G n := fun n a b => (hK1 n (by omega)).trans (hr12 n a b)
  have hlo : ∀ n, n < 146 → cs32 n = cs n := fun n a => (hK1 n (by omega)).trans (hlo n a)
  have hr12 : ∀ n, 158 ≤ n → n < 170 → cs32 n = finY G n := fun n a b => if h : n < 166 then hr12 n a h else hK2 n (by omega) (by omega)
  clear hK1 hK2
  refine ry_aast (κ := 22) (κ' := 10) (t0 := 9) (L := 4) (n := 152) (v := 166) (i := 2) (by omega) (by omega) rfl rfl hc6 (ln_at_3_6) ((hr12 166 (by omega) (by omega)).trans (fyE_10 (show Is 166 10 by unfold Is; decide +kernel))) (by decide) rfl (by decide +kernel) dX3_init_122 ?_
  refine ry_cs (fun cs33 e33 => ?_)
  have hc0 : cs33 146 = .inr (3, [.ref (gA G 8), .ref (gA G 10), .int 0, .int 0, .ref (gA G 147), .ref (gA G 148), .ref (gA G 149), .ref (gA G 150), .ref (gA G 151), .ref (gA G 152), .ref (gA G 153), .int 0, .int 0, .ref (gA G 154), .ref (gA G 155), .ref (gA G 156), .ref (gA G 157), .int 0, .int 0, .int 0]) := by rw [e33, va_up_ne _ _ (by omega)]; exact hc0
  have hc1 : cs33 147 = .inl (gY G 14, 10, .inl (fun _ => 0)) := by rw [e33, va_up_ne _ _ (by omega)]; exact hc1
  have hc2 : cs33 148 = .inl (gY G 14, 10, .inl (fun _ => 0)) := by rw [e33, va_up_ne _ _ (by omega)]; exact hc2
  have hc3 : cs33 149 = .inl (gY G 14, 10, .inl (fun _ => 0)) := by rw [e33, va_up_ne _ _ (by omega)]; exact hc3
  have hc4 : cs33 150 = .inl (gY G 14, 10, .inl (fun _ => 0)) := by rw [e33, va_up_ne _ _ (by omega)]; exact hc4
  have hc5 : cs33 151 = .inl (gY G 14, 10, .inl (fun _ => 0)) := by rw [e33, va_up_ne _ _ (by omega)]; exact hc5
  have hc7 : cs33 153 = refI G 17 153 0 := by rw [e33, va_up_ne _ _ (by omega)]; exact hc7
  have hc8 : cs33 154 = .inl (gY G 14, 60, .inl (fun _ => 0)) := by rw [e33, va_up_ne _ _ (by omega)]; exact hc8
  have hc9 : cs33 155 = .inl (gY G 14, 60, .inl (fun _ => 0)) := by rw [e33, va_up_ne _ _ (by omega)]; exact hc9
  have hc10 : cs33 156 = .inl (gY G 14, 60, .inl (fun _ => 0)) := by rw [e33, va_up_ne _ _ (by omega)]; exact hc10
  have hc11 : cs33 157 = .inl (gY G 14, 60, .inl (fun _ => 0)) := by rw [e33, va_up_ne _ _ (by omega)]; exact hc11
  have hc6 : cs33 152 = refI G 22 152 3 := by rw [e33]; exact va_up_self _ _ _
  have hr12 : ∀ n, 158 ≤ n → n < 170 → cs33 n = finY G n := fun n a b => by rw [e33, va_up_ne _ _ (by omega)]; exact hr12 n a b
  have hlo : ∀ n, n < 146 → cs33 n = cs n := fun n a => by rw [e33, va_up_ne _ _ (by omega)]; exact hlo n a
  clear e33
  refine ry_iinc 3 [(0, .ref (gA G 146)), (1, .ref (gA G 8)), (2, .ref (gA G 10)), (3, .int 3)] [1, 2, 3, 0] dX3_init_123 rfl rfl (by decide) rfl ?_
  refine ry_goto 105 dX3_init_126 (by decide) ?_
  refine ry_iload_n 3 dX3_init_105 rfl rfl ?_
  refine ry_iconst (v := 4) dX3_init_106 rfl ?_
  refine ry_icmp_ge 129 dX3_init_107 (by decide) (fun q => absurd q (by decide)) (fun _ => ?_)
  refine ry_aload_n 0 dX3_init_110 rfl rfl ?_
  refine ry_get fl_X3_29 (by omega) hc0 rfl dX3_init_111 ?_
  refine ry_iload_n 3 dX3_init_114 rfl rfl ?_
  refine ry_new (ci := 10) (fs := [.int 0, .int 0, .int 0, .int 0, .int 0, .int 0, .int 0, .int 0, .int 0, .null, .null, .null]) tyX10 tyX10_ok rfl i_X10 wc_X3_27 wi_10 wn_10 bl_10 (by decide) (by decide) dX3_init_115 ?_
  refine ry_cs (fun cs34 e34 => ?_)
  have hc0 : cs34 146 = .inr (3, [.ref (gA G 8), .ref (gA G 10), .int 0, .int 0, .ref (gA G 147), .ref (gA G 148), .ref (gA G 149), .ref (gA G 150), .ref (gA G 151), .ref (gA G 152), .ref (gA G 153), .int 0, .int 0, .ref (gA G 154), .ref (gA G 155), .ref (gA G 156), .ref (gA G 157), .int 0, .int 0, .int 0]) := by rw [e34, va_up_ne _ _ (by omega)]; exact hc0
  have hc1 : cs34 147 = .inl (gY G 14, 10, .inl (fun _ => 0)) := by rw [e34, va_up_ne _ _ (by omega)]; exact hc1
  have hc2 : cs34 148 = .inl (gY G 14, 10, .inl (fun _ => 0)) := by rw [e34, va_up_ne _ _ (by omega)]; exact hc2
  have hc3 : cs34 149 = .inl (gY G 14, 10, .inl (fun _ => 0)) := by rw [e34, va_up_ne _ _ (by omega)]; exact hc3
  have hc4 : cs34 150 = .inl (gY G 14, 10, .inl (fun _ => 0)) := by rw [e34, va_up_ne _ _ (by omega)]; exact hc4
  have hc5 : cs34 151 = .inl (gY G 14, 10, .inl (fun _ => 0)) := by rw [e34, va_up_ne _ _ (by omega)]; exact hc5
  have hc6 : cs34 152 = refI G 22 152 3 := by rw [e34, va_up_ne _ _ (by omega)]; exact hc6
  have hc7 : cs34 153 = refI G 17 153 0 := by rw [e34, va_up_ne _ _ (by omega)]; exact hc7
  have hc8 : cs34 154 = .inl (gY G 14, 60, .inl (fun _ => 0)) := by rw [e34, va_up_ne _ _ (by omega)]; exact hc8
  have hc9 : cs34 155 = .inl (gY G 14, 60, .inl (fun _ => 0)) := by rw [e34, va_up_ne _ _ (by omega)]; exact hc9
  have hc10 : cs34 156 = .inl (gY G 14, 60, .inl (fun _ => 0)) := by rw [e34, va_up_ne _ _ (by omega)]; exact hc10
  have hc11 : cs34 157 = .inl (gY G 14, 60, .inl (fun _ => 0)) := by rw [e34, va_up_ne _ _ (by omega)]; exact hc11
  have hc24 : cs34 170 = .inr (10, [.int 0, .int 0, .int 0, .int 0, .int 0, .int 0, .int 0, .int 0, .int 0, .null, .null, .null]) := by rw [e34]; exact va_up_self _ _ _
  have hr12 : ∀ n, 158 ≤ n → n < 170 → cs34 n = finY G n := fun n a b => by rw [e34, va_up_ne _ _ (by omega)]; exact hr12 n a b
  have hlo : ∀ n, n < 146 → cs34 n = cs n := fun n a => by rw [e34, va_up_ne _ _ (by omega)]; exact hlo n a
  clear e34
  refine ry_dup dX3_init_118 rfl ?_
  refine ry_callIN (As := []) (n := 170) (mc := 3) (ms := 30) (Kc G 170 4 _) (fun _ _ h => by have := h.1; omega) mw_X10_init rfl win_X10_init wm_X3_59 rfl ⟨show d + 1 + 1 ≤ d + 2 by omega, show 30 * (d + 1) + 30 ≤ 30 * (d + 2) by omega, by decide, by decide⟩ (Nat.le_of_ble_eq_true rfl) dX3_init_119 (cX10_init G d (show Is 170 10 by unfold Is; decide +kernel) hc24) (fun cs35 hK => ?_) rfl
  obtain ⟨-, hK1, hK2⟩ := hK
  have hc0 : cs35 146 = .inr (3, [.ref (gA G 8), .ref (gA G 10), .int 0, .int 0, .ref (gA G 147), .ref (gA G 148), .ref (gA G 149), .ref (gA G 150), .ref (gA G 151), .ref (gA G 152), .ref (gA G 153), .int 0, .int 0, .ref (gA G 154), .ref (gA G 155), .ref (gA G 156), .ref (gA G 157), .int 0, .int 0, .int 0]) := (hK1 _ (by omega)).trans hc0
  have hc1 : cs35 147 = .inl (gY G 14, 10, .inl (fun _ => 0)) := (hK1 _ (by omega)).trans hc1
  have hc2 : cs35 148 = .inl (gY G 14, 10, .inl (fun _ => 0)) := (hK1 _ (by omega)).trans hc2
  have hc3 : cs35 149 = .inl (gY G 14, 10, .inl (fun _ => 0)) := (hK1 _ (by omega)).trans hc3
  have hc4 : cs35 150 = .inl (gY G 14, 10, .inl (fun _ => 0)) := (hK1 _ (by omega)).trans hc4
  have hc5 : cs35 151 = .inl (gY G 14, 10, .inl (fun _ => 0)) := (hK1 _ (by omega)).trans hc5
  have hc6 : cs35 152 = refI G 22 152 3 := (hK1 _ (by omega)).trans hc6
  have hc7 : cs35 153 = refI G 17 153 0 := (hK1 _ (by omega)).trans hc7
  have hc8 : cs35 154 = .inl (gY G 14, 60, .inl (fun _ => 0)) := (hK1 _ (by omega)).trans hc8
  have hc9 : cs35 155 = .inl (gY G 14, 60, .inl (fun _ => 0)) := (hK1 _ (by omega)).trans hc9
  have hc10 : cs35 156 = .inl (gY G 14, 60, .inl (fun _ => 0)) := (hK1 _ (by omega)).trans hc10
  have hc11 : cs35 157 = .inl (gY G 14, 60, .inl (fun _ => 0)) := (hK1 _ (by omega)).trans hc11
  have hr12 : ∀ n, 158 ≤ n → n < 170 → cs35 n = finY G n := fun n a b => (hK1 n (by omega)).trans (hr12 n a b)
  have hlo : ∀ n, n < 146 → cs35 n = cs n := fun n a => (hK1 n (by omega)).trans (hlo n a)
  have hr12 : ∀ n, 158 ≤ n → n < 174 → cs35 n = finY G n := fun n a b => if h : n < 170 then hr12 n a h else hK2 n (by omega) (by omega)
  clear hK1 hK2
  refine ry_aast (κ := 22) (κ' := 10) (t0 := 9) (L := 4) (n := 152) (v := 170) (i := 3) (by omega) (by omega) rfl rfl hc6 (ln_at_3_6) ((hr12 170 (by omega) (by omega)).trans (fyE_10 (show Is 170 10 by unfold Is; decide +kernel))) (by decide) rfl (by decide +kernel) dX3_init_122 ?_
  refine ry_cs (fun cs36 e36 => ?_)
  have hc0 : cs36 146 = .inr (3, [.ref (gA G 8), .ref (gA G 10), .int 0, .int 0, .ref (gA G 147), .ref (gA G 148), .ref (gA G 149), .ref (gA G 150), .ref (gA G 151), .ref (gA G 152), .ref (gA G 153), .int 0, .int 0, .ref (gA G 154), .ref (gA G 155), .ref (gA G 156), .ref (gA G 157), .int 0, .int 0, .int 0]) := by rw [e36, va_up_ne _ _ (by omega)]; exact hc0
  have hc1 : cs36 147 = .inl (gY G 14, 10, .inl (fun _ => 0)) := by rw [e36, va_up_ne _ _ (by omega)]; exact hc1
  have hc2 : cs36 148 = .inl (gY G 14, 10, .inl (fun _ => 0)) := by rw [e36, va_up_ne _ _ (by omega)]; exact hc2
  have hc3 : cs36 149 = .inl (gY G 14, 10, .inl (fun _ => 0)) := by rw [e36, va_up_ne _ _ (by omega)]; exact hc3
  have hc4 : cs36 150 = .inl (gY G 14, 10, .inl (fun _ => 0)) := by rw [e36, va_up_ne _ _ (by omega)]; exact hc4
  have hc5 : cs36 151 = .inl (gY G 14, 10, .inl (fun _ => 0)) := by rw [e36, va_up_ne _ _ (by omega)]; exact hc5
  have hc7 : cs36 153 = refI G 17 153 0 := by rw [e36, va_up_ne _ _ (by omega)]; exact hc7
  have hc8 : cs36 154 = .inl (gY G 14, 60, .inl (fun _ => 0)) := by rw [e36, va_up_ne _ _ (by omega)]; exact hc8
  have hc9 : cs36 155 = .inl (gY G 14, 60, .inl (fun _ => 0)) := by rw [e36, va_up_ne _ _ (by omega)]; exact hc9
  have hc10 : cs36 156 = .inl (gY G 14, 60, .inl (fun _ => 0)) := by rw [e36, va_up_ne _ _ (by omega)]; exact hc10
  have hc11 : cs36 157 = .inl (gY G 14, 60, .inl (fun _ => 0)) := by rw [e36, va_up_ne _ _ (by omega)]; exact hc11
  have hc6 : cs36 152 = refI G 22 152 4 := by rw [e36]; exact va_up_self _ _ _
  have hr12 : ∀ n, 158 ≤ n → n < 174 → cs36 n = finY G n := fun n a b => by rw [e36, va_up_ne _ _ (by omega)]; exact hr12 n a b
  have hlo : ∀ n, n < 146 → cs36 n = cs n := fun n a => by rw [e36, va_up_ne _ _ (by omega)]; exact hlo n a
  clear e36
  refine ry_iinc 3 [(0, .ref (gA G 146)), (1, .ref (gA G 8)), (2, .ref (gA G 10)), (3, .int 4)] [1, 2, 3, 0] dX3_init_123 rfl rfl (by decide) rfl ?_
  refine ry_goto 105 dX3_init_126 (by decide) ?_
  refine ry_iload_n 3 dX3_init_105 rfl rfl ?_
  refine ry_iconst (v := 4) dX3_init_106 rfl ?_
  refine ry_icmp_ge 129 dX3_init_107 (by decide) (fun _ => ?_) (fun q => absurd (by decide) q)
  refine ry_iconst (v := 0) dX3_init_129 rfl ?_
  refine ry_istore_n [(0, .ref (gA G 146)), (1, .ref (gA G 8)), (2, .ref (gA G 10)), (3, .int 0)] [1, 2, 3, 0] dX3_init_130 rfl (by decide) rfl ?_
  refine ry_iload_n 3 dX3_init_131 rfl rfl ?_
  refine ry_bipush (v := 30) dX3_init_132 rfl ?_
  refine ry_icmp_ge 156 dX3_init_134 (by decide) (fun q => absurd q (by decide)) (fun _ => ?_)
  refine ry_aload_n 0 dX3_init_137 rfl rfl ?_
  refine ry_get fl_X3_35 (by omega) hc0 rfl dX3_init_138 ?_
  refine ry_iload_n 3 dX3_init_141 rfl rfl ?_
  refine ry_new (ci := 2) (fs := [.int 0, .int 0, .int 0, .int 0, .int 0, .int 0, .int 0, .int 0, .int 0, .int 0, .null]) tyX2 tyX2_ok rfl i_X2 wc_X3_33 wi_2 wn_2 bl_2 (by decide) (by decide) dX3_init_142 ?_
  refine ry_cs (fun cs37 e37 => ?_)
  have hc0 : cs37 146 = .inr (3, [.ref (gA G 8), .ref (gA G 10), .int 0, .int 0, .ref (gA G 147), .ref (gA G 148), .ref (gA G 149), .ref (gA G 150), .ref (gA G 151), .ref (gA G 152), .ref (gA G 153), .int 0, .int 0, .ref (gA G 154), .ref (gA G 155), .ref (gA G 156), .ref (gA G 157), .int 0, .int 0, .int 0]) := by rw [e37, va_up_ne _ _ (by omega)]; exact hc0
  have hc1 : cs37 147 = .inl (gY G 14, 10, .inl (fun _ => 0)) := by rw [e37, va_up_ne _ _ (by omega)]; exact hc1
  have hc2 : cs37 148 = .inl (gY G 14, 10, .inl (fun _ => 0)) := by rw [e37, va_up_ne _ _ (by omega)]; exact hc2
  have hc3 : cs37 149 = .inl (gY G 14, 10, .inl (fun _ => 0)) := by rw [e37, va_up_ne _ _ (by omega)]; exact hc3
  have hc4 : cs37 150 = .inl (gY G 14, 10, .inl (fun _ => 0)) := by rw [e37, va_up_ne _ _ (by omega)]; exact hc4
  have hc5 : cs37 151 = .inl (gY G 14, 10, .inl (fun _ => 0)) := by rw [e37, va_up_ne _ _ (by omega)]; exact hc5
  have hc6 : cs37 152 = refI G 22 152 4 := by rw [e37, va_up_ne _ _ (by omega)]; exact hc6
  have hc7 : cs37 153 = refI G 17 153 0 := by rw [e37, va_up_ne _ _ (by omega)]; exact hc7
  have hc8 : cs37 154 = .inl (gY G 14, 60, .inl (fun _ => 0)) := by rw [e37, va_up_ne _ _ (by omega)]; exact hc8
  have hc9 : cs37 155 = .inl (gY G 14, 60, .inl (fun _ => 0)) := by rw [e37, va_up_ne _ _ (by omega)]; exact hc9
  have hc10 : cs37 156 = .inl (gY G 14, 60, .inl (fun _ => 0)) := by rw [e37, va_up_ne _ _ (by omega)]; exact hc10
  have hc11 : cs37 157 = .inl (gY G 14, 60, .inl (fun _ => 0)) := by rw [e37, va_up_ne _ _ (by omega)]; exact hc11
  have hc28 : cs37 174 = .inr (2, [.int 0, .int 0, .int 0, .int 0, .int 0, .int 0, .int 0, .int 0, .int 0, .int 0, .null]) := by rw [e37]; exact va_up_self _ _ _
  have hr12 : ∀ n, 158 ≤ n → n < 174 → cs37 n = finY G n := fun n a b => by rw [e37, va_up_ne _ _ (by omega)]; exact hr12 n a b
  have hlo : ∀ n, n < 146 → cs37 n = cs n := fun n a => by rw [e37, va_up_ne _ _ (by omega)]; exact hlo n a
  clear e37
  refine ry_dup dX3_init_145 rfl ?_
  refine ry_callIN (As := []) (n := 174) (mc := 1) (ms := 10) (Kc G 174 2 _) (fun _ _ h => by have := h.1; omega) mw_X2_init rfl win_X2_init wm_X3_60 rfl ⟨show d + 1 + 1 ≤ d + 2 by omega, show 30 * (d + 1) + 30 ≤ 30 * (d + 2) by omega, by decide, by decide⟩ (Nat.le_of_ble_eq_true rfl) dX3_init_146 (cX2_init G d (show Is 174 2 by unfold Is; decide +kernel) hc28) (fun cs38 hK => ?_) rfl
  obtain ⟨-, hK1, hK2⟩ := hK
  have hc0 : cs38 146 = .inr (3, [.ref (gA G 8), .ref (gA G 10), .int 0, .int 0, .ref (gA G 147), .ref (gA G 148), .ref (gA G 149), .ref (gA G 150), .ref (gA G 151), .ref (gA G 152), .ref (gA G 153), .int 0, .int 0, .ref (gA G 154), .ref (gA G 155), .ref (gA G 156), .ref (gA G 157), .int 0, .int 0, .int 0]) := (hK1 _ (by omega)).trans hc0
  have hc1 : cs38 147 = .inl (gY G 14, 10, .inl (fun _ => 0)) := (hK1 _ (by omega)).trans hc1
  have hc2 : cs38 148 = .inl (gY G 14, 10, .inl (fun _ => 0)) := (hK1 _ (by omega)).trans hc2
  have hc3 : cs38 149 = .inl (gY G 14, 10, .inl (fun _ => 0)) := (hK1 _ (by omega)).trans hc3
  have hc4 : cs38 150 = .inl (gY G 14, 10, .inl (fun _ => 0)) := (hK1 _ (by omega)).trans hc4
  have hc5 : cs38 151 = .inl (gY G 14, 10, .inl (fun _ => 0)) := (hK1 _ (by omega)).trans hc5
  have hc6 : cs38 152 = refI G 22 152 4 := (hK1 _ (by omega)).trans hc6
  have hc7 : cs38 153 = refI G 17 153 0 := (hK1 _ (by omega)).trans hc7
  have hc8 : cs38 154 = .inl (gY G 14, 60, .inl (fun _ => 0)) := (hK1 _ (by omega)).trans hc8
  have hc9 : cs38 155 = .inl (gY G 14, 60, .inl (fun _ => 0)) := (hK1 _ (by omega)).trans hc9
  have hc10 : cs38 156 = .inl (gY G 14, 60, .inl (fun _ => 0)) := (hK1 _ (by omega)).trans hc10
  have hc11 : cs38 157 = .inl (gY G 14, 60, .inl (fun _ => 0)) := (hK1 _ (by omega)).trans hc11
  have hr12 : ∀ n, 158 ≤ n → n < 174 → cs38 n = finY G n := fun n a b => (hK1 n (by omega)).trans (hr12 n a b)
  have hlo : ∀ n, n < 146 → cs38 n = cs n := fun n a => (hK1 n (by omega)).trans (hlo n a)
  have hr12 : ∀ n, 158 ≤ n → n < 176 → cs38 n = finY G n := fun n a b => if h : n < 174 then hr12 n a h else hK2 n (by omega) (by omega)
  clear hK1 hK2
  refine ry_aast (κ := 17) (κ' := 2) (t0 := 4) (L := 30) (n := 153) (v := 174) (i := 0) (by omega) (by omega) rfl rfl hc7 (ln_at_3_7) ((hr12 174 (by omega) (by omega)).trans (fyE_2 (show Is 174 2 by unfold Is; decide +kernel))) (by decide) rfl (by decide +kernel) dX3_init_149 ?_
  refine ry_cs (fun cs39 e39 => ?_)
  have hc0 : cs39 146 = .inr (3, [.ref (gA G 8), .ref (gA G 10), .int 0, .int 0, .ref (gA G 147), .ref (gA G 148), .ref (gA G 149), .ref (gA G 150), .ref (gA G 151), .ref (gA G 152), .ref (gA G 153), .int 0, .int 0, .ref (gA G 154), .ref (gA G 155), .ref (gA G 156), .ref (gA G 157), .int 0, .int 0, .int 0]) := by rw [e39, va_up_ne _ _ (by omega)]; exact hc0
  have hc1 : cs39 147 = .inl (gY G 14, 10, .inl (fun _ => 0)) := by rw [e39, va_up_ne _ _ (by omega)]; exact hc1
  have hc2 : cs39 148 = .inl (gY G 14, 10, .inl (fun _ => 0)) := by rw [e39, va_up_ne _ _ (by omega)]; exact hc2
  have hc3 : cs39 149 = .inl (gY G 14, 10, .inl (fun _ => 0)) := by rw [e39, va_up_ne _ _ (by omega)]; exact hc3
  have hc4 : cs39 150 = .inl (gY G 14, 10, .inl (fun _ => 0)) := by rw [e39, va_up_ne _ _ (by omega)]; exact hc4
  have hc5 : cs39 151 = .inl (gY G 14, 10, .inl (fun _ => 0)) := by rw [e39, va_up_ne _ _ (by omega)]; exact hc5
  have hc6 : cs39 152 = refI G 22 152 4 := by rw [e39, va_up_ne _ _ (by omega)]; exact hc6
  have hc8 : cs39 154 = .inl (gY G 14, 60, .inl (fun _ => 0)) := by rw [e39, va_up_ne _ _ (by omega)]; exact hc8
  have hc9 : cs39 155 = .inl (gY G 14, 60, .inl (fun _ => 0)) := by rw [e39, va_up_ne _ _ (by omega)]; exact hc9
  have hc10 : cs39 156 = .inl (gY G 14, 60, .inl (fun _ => 0)) := by rw [e39, va_up_ne _ _ (by omega)]; exact hc10
  have hc11 : cs39 157 = .inl (gY G 14, 60, .inl (fun _ => 0)) := by rw [e39, va_up_ne _ _ (by omega)]; exact hc11
  have hc7 : cs39 153 = refI G 17 153 1 := by rw [e39]; exact va_up_self _ _ _
  have hr12 : ∀ n, 158 ≤ n → n < 176 → cs39 n = finY G n := fun n a b => by rw [e39, va_up_ne _ _ (by omega)]; exact hr12 n a b
  have hlo : ∀ n, n < 146 → cs39 n = cs n := fun n a => by rw [e39, va_up_ne _ _ (by omega)]; exact hlo n a
  clear e39
  refine ry_iinc 3 [(0, .ref (gA G 146)), (1, .ref (gA G 8)), (2, .ref (gA G 10)), (3, .int 1)] [1, 2, 3, 0] dX3_init_150 rfl rfl (by decide) rfl ?_
  refine ry_goto 131 dX3_init_153 (by decide) ?_
  refine ry_iload_n 3 dX3_init_131 rfl rfl ?_
  refine ry_bipush (v := 30) dX3_init_132 rfl ?_
  refine ry_icmp_ge 156 dX3_init_134 (by decide) (fun q => absurd q (by decide)) (fun _ => ?_)
  refine ry_aload_n 0 dX3_init_137 rfl rfl ?_
  refine ry_get fl_X3_35 (by omega) hc0 rfl dX3_init_138 ?_
  refine ry_iload_n 3 dX3_init_141 rfl rfl ?_
  refine ry_new (ci := 2) (fs := [.int 0, .int 0, .int 0, .int 0, .int 0, .int 0, .int 0, .int 0, .int 0, .int 0, .null]) tyX2 tyX2_ok rfl i_X2 wc_X3_33 wi_2 wn_2 bl_2 (by decide) (by decide) dX3_init_142 ?_
  refine ry_cs (fun cs40 e40 => ?_)
  have hc0 : cs40 146 = .inr (3, [.ref (gA G 8), .ref (gA G 10), .int 0, .int 0, .ref (gA G 147), .ref (gA G 148), .ref (gA G 149), .ref (gA G 150), .ref (gA G 151), .ref (gA G 152), .ref (gA G 153), .int 0, .int 0, .ref (gA G 154), .ref (gA G 155), .ref (gA G 156), .ref (gA G 157), .int 0, .int 0, .int 0]) := by rw [e40, va_up_ne _ _ (by omega)]; exact hc0
  have hc1 : cs40 147 = .inl (gY G 14, 10, .inl (fun _ => 0)) := by rw [e40, va_up_ne _ _ (by omega)]; exact hc1
  have hc2 : cs40 148 = .inl (gY G 14, 10, .inl (fun _ => 0)) := by rw [e40, va_up_ne _ _ (by omega)]; exact hc2
  have hc3 : cs40 149 = .inl (gY G 14, 10, .inl (fun _ => 0)) := by rw [e40, va_up_ne _ _ (by omega)]; exact hc3
  have hc4 : cs40 150 = .inl (gY G 14, 10, .inl (fun _ => 0)) := by rw [e40, va_up_ne _ _ (by omega)]; exact hc4
  have hc5 : cs40 151 = .inl (gY G 14, 10, .inl (fun _ => 0)) := by rw [e40, va_up_ne _ _ (by omega)]; exact hc5
  have hc6 : cs40 152 = refI G 22 152 4 := by rw [e40, va_up_ne _ _ (by omega)]; exact hc6
  have hc7 : cs40 153 = refI G 17 153 1 := by rw [e40, va_up_ne _ _ (by omega)]; exact hc7
  have hc8 : cs40 154 = .inl (gY G 14, 60, .inl (fun _ => 0)) := by rw [e40, va_up_ne _ _ (by omega)]; exact hc8
  have hc9 : cs40 155 = .inl (gY G 14, 60, .inl (fun _ => 0)) := by rw [e40, va_up_ne _ _ (by omega)]; exact hc9
  have hc10 : cs40 156 = .inl (gY G 14, 60, .inl (fun _ => 0)) := by rw [e40, va_up_ne _ _ (by omega)]; exact hc10
  have hc11 : cs40 157 = .inl (gY G 14, 60, .inl (fun _ => 0)) := by rw [e40, va_up_ne _ _ (by omega)]; exact hc11
  have hc30 : cs40 176 = .inr (2, [.int 0, .int 0, .int 0, .int 0, .int 0, .int 0, .int 0, .int 0, .int 0, .int 0, .null]) := by rw [e40]; exact va_up_self _ _ _
  have hr12 : ∀ n, 158 ≤ n → n < 176 → cs40 n = finY G n := fun n a b => by rw [e40, va_up_ne _ _ (by omega)]; exact hr12 n a b
  have hlo : ∀ n, n < 146 → cs40 n = cs n := fun n a => by rw [e40, va_up_ne _ _ (by omega)]; exact hlo n a
  clear e40
  refine ry_dup dX3_init_145 rfl ?_
  refine ry_callIN (As := []) (n := 176) (mc := 1) (ms := 10) (Kc G 176 2 _) (fun _ _ h => by have := h.1; omega) mw_X2_init rfl win_X2_init wm_X3_60 rfl ⟨show d + 1 + 1 ≤ d + 2 by omega, show 30 * (d + 1) + 30 ≤ 30 * (d + 2) by omega, by decide, by decide⟩ (Nat.le_of_ble_eq_true rfl) dX3_init_146 (cX2_init G d (show Is 176 2 by unfold Is; decide +kernel) hc30) (fun cs41 hK => ?_) rfl
  obtain ⟨-, hK1, hK2⟩ := hK
  have hc0 : cs41 146 = .inr (3, [.ref (gA G 8), .ref (gA G 10), .int 0, .int 0, .ref (gA G 147), .ref (gA G 148), .ref (gA G 149), .ref (gA G 150), .ref (gA G 151), .ref (gA G 152), .ref (gA G 153), .int 0, .int 0, .ref (gA G 154), .ref (gA G 155), .ref (gA G 156), .ref (gA G 157), .int 0, .int 0, .int 0]) := (hK1 _ (by omega)).trans hc0
  have hc1 : cs41 147 = .inl (gY G 14, 10, .inl (fun _ => 0)) := (hK1 _ (by omega)).trans hc1
  have hc2 : cs41 148 = .inl (gY G 14, 10, .inl (fun _ => 0)) := (hK1 _ (by omega)).trans hc2
  have hc3 : cs41 149 = .inl (gY G 14, 10, .inl (fun _ => 0)) := (hK1 _ (by omega)).trans hc3
  have hc4 : cs41 150 = .inl (gY G 14, 10, .inl (fun _ => 0)) := (hK1 _ (by omega)).trans hc4
  have hc5 : cs41 151 = .inl (gY G 14, 10, .inl (fun _ => 0)) := (hK1 _ (by omega)).trans hc5
  have hc6 : cs41 152 = refI G 22 152 4 := (hK1 _ (by omega)).trans hc6
  have hc7 : cs41 153 = refI G 17 153 1 := (hK1 _ (by omega)).trans hc7
  have hc8 : cs41 154 = .inl (gY G 14, 60, .inl (fun _ => 0)) := (hK1 _ (by omega)).trans hc8
  have hc9 : cs41 155 = .inl (gY G 14, 60, .inl (fun _ => 0)) := (hK1 _ (by omega)).trans hc9
  have hc10 : cs41 156 = .inl (gY G 14, 60, .inl (fun _ => 0)) := (hK1 _ (by omega)).trans hc10
  have hc11 : cs41 157 = .inl (gY G 14, 60, .inl (fun _ => 0)) := (hK1 _ (by omega)).trans hc11
  have hr12 : ∀ n, 158 ≤ n → n < 176 → cs41 n = finY G n := fun n a b => (hK1 n (by omega)).trans (hr12 n a b)
  have hlo : ∀ n, n < 146 → cs41 n = cs n := fun n a => (hK1 n (by omega)).trans (hlo n a)
  have hr12 : ∀ n, 158 ≤ n → n < 178 → cs41 n = finY G n := fun n a b => if h : n < 176 then hr12 n a h else hK2 n (by omega) (by omega)
  clear hK1 hK2
  refine ry_aast (κ := 17) (κ' := 2) (t0 := 4) (L := 30) (n := 153) (v := 176) (i := 1) (by omega) (by omega) rfl rfl hc7 (ln_at_3_7) ((hr12 176 (by omega) (by omega)).trans (fyE_2 (show Is 176 2 by unfold Is; decide +kernel))) (by decide) rfl (by decide +kernel) dX3_init_149 ?_
  refine ry_cs (fun cs42 e42 => ?_)
  have hc0 : cs42 146 = .inr (3, [.ref (gA G 8), .ref (gA G 10), .int 0, .int 0, .ref (gA G 147), .ref (gA G 148), .ref (gA G 149), .ref (gA G 150), .ref (gA G 151), .ref (gA G 152), .ref (gA G 153), .int 0, .int 0, .ref (gA G 154), .ref (gA G 155), .ref (gA G 156), .ref (gA G 157), .int 0, .int 0, .int 0]) := by rw [e42, va_up_ne _ _ (by omega)]; exact hc0
  have hc1 : cs42 147 = .inl (gY G 14, 10, .inl (fun _ => 0)) := by rw [e42, va_up_ne _ _ (by omega)]; exact hc1
  have hc2 : cs42 148 = .inl (gY G 14, 10, .inl (fun _ => 0)) := by rw [e42, va_up_ne _ _ (by omega)]; exact hc2
  have hc3 : cs42 149 = .inl (gY G 14, 10, .inl (fun _ => 0)) := by rw [e42, va_up_ne _ _ (by omega)]; exact hc3
  have hc4 : cs42 150 = .inl (gY G 14, 10, .inl (fun _ => 0)) := by rw [e42, va_up_ne _ _ (by omega)]; exact hc4
  have hc5 : cs42 151 = .inl (gY G 14, 10, .inl (fun _ => 0)) := by rw [e42, va_up_ne _ _ (by omega)]; exact hc5
  have hc6 : cs42 152 = refI G 22 152 4 := by rw [e42, va_up_ne _ _ (by omega)]; exact hc6
  have hc8 : cs42 154 = .inl (gY G 14, 60, .inl (fun _ => 0)) := by rw [e42, va_up_ne _ _ (by omega)]; exact hc8
  have hc9 : cs42 155 = .inl (gY G 14, 60, .inl (fun _ => 0)) := by rw [e42, va_up_ne _ _ (by omega)]; exact hc9
  have hc10 : cs42 156 = .inl (gY G 14, 60, .inl (fun _ => 0)) := by rw [e42, va_up_ne _ _ (by omega)]; exact hc10
  have hc11 : cs42 157 = .inl (gY G 14, 60, .inl (fun _ => 0)) := by rw [e42, va_up_ne _ _ (by omega)]; exact hc11
  have hc7 : cs42 153 = refI G 17 153 2 := by rw [e42]; exact va_up_self _ _ _
  have hr12 : ∀ n, 158 ≤ n → n < 178 → cs42 n = finY G n := fun n a b => by rw [e42, va_up_ne _ _ (by omega)]; exact hr12 n a b
  have hlo : ∀ n, n < 146 → cs42 n = cs n := fun n a => by rw [e42, va_up_ne _ _ (by omega)]; exact hlo n a
  clear e42
  refine ry_iinc 3 [(0, .ref (gA G 146)), (1, .ref (gA G 8)), (2, .ref (gA G 10)), (3, .int 2)] [1, 2, 3, 0] dX3_init_150 rfl rfl (by decide) rfl ?_
  refine ry_goto 131 dX3_init_153 (by decide) ?_
  refine ry_iload_n 3 dX3_init_131 rfl rfl ?_
  refine ry_bipush (v := 30) dX3_init_132 rfl ?_
  refine ry_icmp_ge 156 dX3_init_134 (by decide) (fun q => absurd q (by decide)) (fun _ => ?_)
  refine ry_aload_n 0 dX3_init_137 rfl rfl ?_
  refine ry_get fl_X3_35 (by omega) hc0 rfl dX3_init_138 ?_
  refine ry_iload_n 3 dX3_init_141 rfl rfl ?_
  refine ry_new (ci := 2) (fs := [.int 0, .int 0, .int 0, .int 0, .int 0, .int 0, .int 0, .int 0, .int 0, .int 0, .null]) tyX2 tyX2_ok rfl i_X2 wc_X3_33 wi_2 wn_2 bl_2 (by decide) (by decide) dX3_init_142 ?_
  refine ry_cs (fun cs43 e43 => ?_)
  have hc0 : cs43 146 = .inr (3, [.ref (gA G 8), .ref (gA G 10), .int 0, .int 0, .ref (gA G 147), .ref (gA G 148), .ref (gA G 149), .ref (gA G 150), .ref (gA G 151), .ref (gA G 152), .ref (gA G 153), .int 0, .int 0, .ref (gA G 154), .ref (gA G 155), .ref (gA G 156), .ref (gA G 157), .int 0, .int 0, .int 0]) := by rw [e43, va_up_ne _ _ (by omega)]; exact hc0
  have hc1 : cs43 147 = .inl (gY G 14, 10, .inl (fun _ => 0)) := by rw [e43, va_up_ne _ _ (by omega)]; exact hc1
  have hc2 : cs43 148 = .inl (gY G 14, 10, .inl (fun _ => 0)) := by rw [e43, va_up_ne _ _ (by omega)]; exact hc2
  have hc3 : cs43 149 = .inl (gY G 14, 10, .inl (fun _ => 0)) := by rw [e43, va_up_ne _ _ (by omega)]; exact hc3
  have hc4 : cs43 150 = .inl (gY G 14, 10, .inl (fun _ => 0)) := by rw [e43, va_up_ne _ _ (by omega)]; exact hc4
  have hc5 : cs43 151 = .inl (gY G 14, 10, .inl (fun _ => 0)) := by rw [e43, va_up_ne _ _ (by omega)]; exact hc5
  have hc6 : cs43 152 = refI G 22 152 4 := by rw [e43, va_up_ne _ _ (by omega)]; exact hc6
  have hc7 : cs43 153 = refI G 17 153 2 := by rw [e43, va_up_ne _ _ (by omega)]; exact hc7
  have hc8 : cs43 154 = .inl (gY G 14, 60, .inl (fun _ => 0)) := by rw [e43, va_up_ne _ _ (by omega)]; exact hc8
  have hc9 : cs43 155 = .inl (gY G 14, 60, .inl (fun _ => 0)) := by rw [e43, va_up_ne _ _ (by omega)]; exact hc9
  have hc10 : cs43 156 = .inl (gY G 14, 60, .inl (fun _ => 0)) := by rw [e43, va_up_ne _ _ (by omega)]; exact hc10
  have hc11 : cs43 157 = .inl (gY G 14, 60, .inl (fun _ => 0)) := by rw [e43, va_up_ne _ _ (by omega)]; exact hc11
  have hc32 : cs43 178 = .inr (2, [.int 0, .int 0, .int 0, .int 0, .int 0, .int 0, .int 0, .int 0, .int 0, .int 0, .null]) := by rw [e43]; exact va_up_self _ _ _
  have hr12 : ∀ n, 158 ≤ n → n < 178 → cs43 n = finY G n := fun n a b => by rw [e43, va_up_ne _ _ (by omega)]; exact hr12 n a b
  have hlo : ∀ n, n < 146 → cs43 n = cs n := fun n a => by rw [e43, va_up_ne _ _ (by omega)]; exact hlo n a
  clear e43
  refine ry_dup dX3_init_145 rfl ?_
  refine ry_callIN (As := []) (n := 178) (mc := 1) (ms := 10) (Kc G 178 2 _) (fun _ _ h => by have := h.1; omega) mw_X2_init rfl win_X2_init wm_X3_60 rfl ⟨show d + 1 + 1 ≤ d + 2 by omega, show 30 * (d + 1) + 30 ≤ 30 * (d + 2) by omega, by decide, by decide⟩ (Nat.le_of_ble_eq_true rfl) dX3_init_146 (cX2_init G d (show Is 178 2 by unfold Is; decide +kernel) hc32) (fun cs44 hK => ?_) rfl
  obtain ⟨-, hK1, hK2⟩ := hK
  have hc0 : cs44 146 = .inr (3, [.ref (gA G 8), .ref (gA G 10), .int 0, .int 0, .ref (gA G 147), .ref (gA G 148), .ref (gA G 149), .ref (gA G 150), .ref (gA G 151), .ref (gA G 152), .ref (gA G 153), .int 0, .int 0, .ref (gA G 154), .ref (gA G 155), .ref (gA G 156), .ref (gA G 157), .int 0, .int 0, .int 0]) := (hK1 _ (by omega)).trans hc0
  have hc1 : cs44 147 = .inl (gY G 14, 10, .inl (fun _ => 0)) := (hK1 _ (by omega)).trans hc1
  have hc2 : cs44 148 = .inl (gY G 14, 10, .inl (fun _ => 0)) := (hK1 _ (by omega)).trans hc2
  have hc3 : cs44 149 = .inl (gY G 14, 10, .inl (fun _ => 0)) := (hK1 _ (by omega)).trans hc3
  have hc4 : cs44 150 = .inl (gY G 14, 10, .inl (fun _ => 0)) := (hK1 _ (by omega)).trans hc4
  have hc5 : cs44 151 = .inl (gY G 14, 10, .inl (fun _ => 0)) := (hK1 _ (by omega)).trans hc5
  have hc6 : cs44 152 = refI G 22 152 4 := (hK1 _ (by omega)).trans hc6
  have hc7 : cs44 153 = refI G 17 153 2 := (hK1 _ (by omega)).trans hc7
  have hc8 : cs44 154 = .inl (gY G 14, 60, .inl (fun _ => 0)) := (hK1 _ (by omega)).trans hc8
  have hc9 : cs44 155 = .inl (gY G 14, 60, .inl (fun _ => 0)) := (hK1 _ (by omega)).trans hc9
  have hc10 : cs44 156 = .inl (gY G 14, 60, .inl (fun _ => 0)) := (hK1 _ (by omega)).trans hc10
  have hc11 : cs44 157 = .inl (gY G 14, 60, .inl (fun _ => 0)) := (hK1 _ (by omega)).trans hc11
  have hr12 : ∀ n, 158 ≤ n → n < 178 → cs44 n = finY G n := fun n a b => (hK1 n (by omega)).trans (hr12 n a b)
  have hlo : ∀ n, n < 146 → cs44 n = cs n := fun n a => (hK1 n (by omega)).trans (hlo n a)
  have hr12 : ∀ n, 158 ≤ n → n < 180 → cs44 n = finY G n := fun n a b => if h : n < 178 then hr12 n a h else hK2 n (by omega) (by omega)
  clear hK1 hK2
  refine ry_aast (κ := 17) (κ' := 2) (t0 := 4) (L := 30) (n := 153) (v := 178) (i := 2) (by omega) (by omega) rfl rfl hc7 (ln_at_3_7) ((hr12 178 (by omega) (by omega)).trans (fyE_2 (show Is 178 2 by unfold Is; decide +kernel))) (by decide) rfl (by decide +kernel) dX3_init_149 ?_
  refine ry_cs (fun cs45 e45 => ?_)
  have hc0 : cs45 146 = .inr (3, [.ref (gA G 8), .ref (gA G 10), .int 0, .int 0, .ref (gA G 147), .ref (gA G 148), .ref (gA G 149), .ref (gA G 150), .ref (gA G 151), .ref (gA G 152), .ref (gA G 153), .int 0, .int 0, .ref (gA G 154), .ref (gA G 155), .ref (gA G 156), .ref (gA G 157), .int 0, .int 0, .int 0]) := by rw [e45, va_up_ne _ _ (by omega)]; exact hc0
  have hc1 : cs45 147 = .inl (gY G 14, 10, .inl (fun _ => 0)) := by rw [e45, va_up_ne _ _ (by omega)]; exact hc1
  have hc2 : cs45 148 = .inl (gY G 14, 10, .inl (fun _ => 0)) := by rw [e45, va_up_ne _ _ (by omega)]; exact hc2
  have hc3 : cs45 149 = .inl (gY G 14, 10, .inl (fun _ => 0)) := by rw [e45, va_up_ne _ _ (by omega)]; exact hc3
  have hc4 : cs45 150 = .inl (gY G 14, 10, .inl (fun _ => 0)) := by rw [e45, va_up_ne _ _ (by omega)]; exact hc4
  have hc5 : cs45 151 = .inl (gY G 14, 10, .inl (fun _ => 0)) := by rw [e45, va_up_ne _ _ (by omega)]; exact hc5
  have hc6 : cs45 152 = refI G 22 152 4 := by rw [e45, va_up_ne _ _ (by omega)]; exact hc6
  have hc8 : cs45 154 = .inl (gY G 14, 60, .inl (fun _ => 0)) := by rw [e45, va_up_ne _ _ (by omega)]; exact hc8
  have hc9 : cs45 155 = .inl (gY G 14, 60, .inl (fun _ => 0)) := by rw [e45, va_up_ne _ _ (by omega)]; exact hc9
  have hc10 : cs45 156 = .inl (gY G 14, 60, .inl (fun _ => 0)) := by rw [e45, va_up_ne _ _ (by omega)]; exact hc10
  have hc11 : cs45 157 = .inl (gY G 14, 60, .inl (fun _ => 0)) := by rw [e45, va_up_ne _ _ (by omega)]; exact hc11
  have hc7 : cs45 153 = refI G 17 153 3 := by rw [e45]; exact va_up_self _ _ _
  have hr12 : ∀ n, 158 ≤ n → n < 180 → cs45 n = finY G n := fun n a b => by rw [e45, va_up_ne _ _ (by omega)]; exact hr12 n a b
  have hlo : ∀ n, n < 146 → cs45 n = cs n := fun n a => by rw [e45, va_up_ne _ _ (by omega)]; exact hlo n a
  clear e45
  refine ry_iinc 3 [(0, .ref (gA G 146)), (1, .ref (gA G 8)), (2, .ref (gA G 10)), (3, .int 3)] [1, 2, 3, 0] dX3_init_150 rfl rfl (by decide) rfl ?_
  refine ry_goto 131 dX3_init_153 (by decide) ?_
  refine ry_iload_n 3 dX3_init_131 rfl rfl ?_
  refine ry_bipush (v := 30) dX3_init_132 rfl ?_
  refine ry_icmp_ge 156 dX3_init_134 (by decide) (fun q => absurd q (by decide)) (fun _ => ?_)
  refine ry_aload_n 0 dX3_init_137 rfl rfl ?_
  refine ry_get fl_X3_35 (by omega) hc0 rfl dX3_init_138 ?_
  refine ry_iload_n 3 dX3_init_141 rfl rfl ?_
  refine ry_new (ci := 2) (fs := [.int 0, .int 0, .int 0, .int 0, .int 0, .int 0, .int 0, .int 0, .int 0, .int 0, .null]) tyX2 tyX2_ok rfl i_X2 wc_X3_33 wi_2 wn_2 bl_2 (by decide) (by decide) dX3_init_142 ?_
  refine ry_cs (fun cs46 e46 => ?_)
  have hc0 : cs46 146 = .inr (3, [.ref (gA G 8), .ref (gA G 10), .int 0, .int 0, .ref (gA G 147), .ref (gA G 148), .ref (gA G 149), .ref (gA G 150), .ref (gA G 151), .ref (gA G 152), .ref (gA G 153), .int 0, .int 0, .ref (gA G 154), .ref (gA G 155), .ref (gA G 156), .ref (gA G 157), .int 0, .int 0, .int 0]) := by rw [e46, va_up_ne _ _ (by omega)]; exact hc0
  have hc1 : cs46 147 = .inl (gY G 14, 10, .inl (fun _ => 0)) := by rw [e46, va_up_ne _ _ (by omega)]; exact hc1
  have hc2 : cs46 148 = .inl (gY G 14, 10, .inl (fun _ => 0)) := by rw [e46, va_up_ne _ _ (by omega)]; exact hc2
  have hc3 : cs46 149 = .inl (gY G 14, 10, .inl (fun _ => 0)) := by rw [e46, va_up_ne _ _ (by omega)]; exact hc3
  have hc4 : cs46 150 = .inl (gY G 14, 10, .inl (fun _ => 0)) := by rw [e46, va_up_ne _ _ (by omega)]; exact hc4
  have hc5 : cs46 151 = .inl (gY G 14, 10, .inl (fun _ => 0)) := by rw [e46, va_up_ne _ _ (by omega)]; exact hc5
  have hc6 : cs46 152 = refI G 22 152 4 := by rw [e46, va_up_ne _ _ (by omega)]; exact hc6
  have hc7 : cs46 153 = refI G 17 153 3 := by rw [e46, va_up_ne _ _ (by omega)]; exact hc7
  have hc8 : cs46 154 = .inl (gY G 14, 60, .inl (fun _ => 0)) := by rw [e46, va_up_ne _ _ (by omega)]; exact hc8
  have hc9 : cs46 155 = .inl (gY G 14, 60, .inl (fun _ => 0)) := by rw [e46, va_up_ne _ _ (by omega)]; exact hc9
  have hc10 : cs46 156 = .inl (gY G 14, 60, .inl (fun _ => 0)) := by rw [e46, va_up_ne _ _ (by omega)]; exact hc10
  have hc11 : cs46 157 = .inl (gY G 14, 60, .inl (fun _ => 0)) := by rw [e46, va_up_ne _ _ (by omega)]; exact hc11
  have hc34 : cs46 180 = .inr (2, [.int 0, .int 0, .int 0, .int 0, .int 0, .int 0, .int 0, .int 0, .int 0, .int 0, .null]) := by rw [e46]; exact va_up_self _ _ _
  have hr12 : ∀ n, 158 ≤ n → n < 180 → cs46 n = finY G n := fun n a b => by rw [e46, va_up_ne _ _ (by omega)]; exact hr12 n a b
  have hlo : ∀ n, n < 146 → cs46 n = cs n := fun n a => by rw [e46, va_up_ne _ _ (by omega)]; exact hlo n a
  clear e46
  refine ry_dup dX3_init_145 rfl ?_
  refine ry_callIN (As := []) (n := 180) (mc := 1) (ms := 10) (Kc G 180 2 _) (fun _ _ h => by have := h.1; omega) mw_X2_init rfl win_X2_init wm_X3_60 rfl ⟨show d + 1 + 1 ≤ d + 2 by omega, show 30 * (d + 1) + 30 ≤ 30 * (d + 2) by omega, by decide, by decide⟩ (Nat.le_of_ble_eq_true rfl) dX3_init_146 (cX2_init G d (show Is 180 2 by unfold Is; decide +kernel) hc34) (fun cs47 hK => ?_) rfl
  obtain ⟨-, hK1, hK2⟩ := hK
  have hc0 : cs47 146 = .inr (3, [.ref (gA G 8), .ref (gA G 10), .int 0, .int 0, .ref (gA G 147), .ref (gA G 148), .ref (gA G 149), .ref (gA G 150), .ref (gA G 151), .ref (gA G 152), .ref (gA G 153), .int 0, .int 0, .ref (gA G 154), .ref (gA G 155), .ref (gA G 156), .ref (gA G 157), .int 0, .int 0, .int 0]) := (hK1 _ (by omega)).trans hc0
  have hc1 : cs47 147 = .inl (gY G 14, 10, .inl (fun _ => 0)) := (hK1 _ (by omega)).trans hc1
  have hc2 : cs47 148 = .inl (gY G 14, 10, .inl (fun _ => 0)) := (hK1 _ (by omega)).trans hc2
  have hc3 : cs47 149 = .inl (gY G 14, 10, .inl (fun _ => 0)) := (hK1 _ (by omega)).trans hc3
  have hc4 : cs47 150 = .inl (gY G 14, 10, .inl (fun _ => 0)) := (hK1 _ (by omega)).trans hc4
  have hc5 : cs47 151 = .inl (gY G 14, 10, .inl (fun _ => 0)) := (hK1 _ (by omega)).trans hc5
  have hc6 : cs47 152 = refI G 22 152 4 := (hK1 _ (by omega)).trans hc6
  have hc7 : cs47 153 = refI G 17 153 3 := (hK1 _ (by omega)).trans hc7
  have hc8 : cs47 154 = .inl (gY G 14, 60, .inl (fun _ => 0)) := (hK1 _ (by omega)).trans hc8
  have hc9 : cs47 155 = .inl (gY G 14, 60, .inl (fun _ => 0)) := (hK1 _ (by omega)).trans hc9
  have hc10 : cs47 156 = .inl (gY G 14, 60, .inl (fun _ => 0)) := (hK1 _ (by omega)).trans hc10
  have hc11 : cs47 157 = .inl (gY G 14, 60, .inl (fun _ => 0)) := (hK1 _ (by omega)).trans hc11
  have hr12 : ∀ n, 158 ≤ n → n < 180 → cs47 n = finY G n := fun n a b => (hK1 n (by omega)).trans (hr12 n a b)
  have hlo : ∀ n, n < 146 → cs47 n = cs n := fun n a => (hK1 n (by omega)).trans (hlo n a)
  have hr12 : ∀ n, 158 ≤ n → n < 182 → cs47 n = finY G n := fun n a b => if h : n < 180 then hr12 n a h else hK2 n (by omega) (by omega)
  clear hK1 hK2
  refine ry_aast (κ := 17) (κ' := 2) (t0 := 4) (L := 30) (n := 153) (v := 180) (i := 3) (by omega) (by omega) rfl rfl hc7 (ln_at_3_7) ((hr12 180 (by omega) (by omega)).trans (fyE_2 (show Is 180 2 by unfold Is; decide +kernel))) (by decide) rfl (by decide +kernel) dX3_init_149 ?_
  refine ry_cs (fun cs48 e48 => ?_)
  have hc0 : cs48 146 = .inr (3, [.ref (gA G 8), .ref (gA G 10), .int 0, .int 0, .ref (gA G 147), .ref (gA G 148), .ref (gA G 149), .ref (gA G 150), .ref (gA G 151), .ref (gA G 152), .ref (gA G 153), .int 0, .int 0, .ref (gA G 154), .ref (gA G 155), .ref (gA G 156), .ref (gA G 157), .int 0, .int 0, .int 0]) := by rw [e48, va_up_ne _ _ (by omega)]; exact hc0
  have hc1 : cs48 147 = .inl (gY G 14, 10, .inl (fun _ => 0)) := by rw [e48, va_up_ne _ _ (by omega)]; exact hc1
  have hc2 : cs48 148 = .inl (gY G 14, 10, .inl (fun _ => 0)) := by rw [e48, va_up_ne _ _ (by omega)]; exact hc2
  have hc3 : cs48 149 = .inl (gY G 14, 10, .inl (fun _ => 0)) := by rw [e48, va_up_ne _ _ (by omega)]; exact hc3
  have hc4 : cs48 150 = .inl (gY G 14, 10, .inl (fun _ => 0)) := by rw [e48, va_up_ne _ _ (by omega)]; exact hc4
  have hc5 : cs48 151 = .inl (gY G 14, 10, .inl (fun _ => 0)) := by rw [e48, va_up_ne _ _ (by omega)]; exact hc5
  have hc6 : cs48 152 = refI G 22 152 4 := by rw [e48, va_up_ne _ _ (by omega)]; exact hc6
  have hc8 : cs48 154 = .inl (gY G 14, 60, .inl (fun _ => 0)) := by rw [e48, va_up_ne _ _ (by omega)]; exact hc8
  have hc9 : cs48 155 = .inl (gY G 14, 60, .inl (fun _ => 0)) := by rw [e48, va_up_ne _ _ (by omega)]; exact hc9
  have hc10 : cs48 156 = .inl (gY G 14, 60, .inl (fun _ => 0)) := by rw [e48, va_up_ne _ _ (by omega)]; exact hc10
  have hc11 : cs48 157 = .inl (gY G 14, 60, .inl (fun _ => 0)) := by rw [e48, va_up_ne _ _ (by omega)]; exact hc11
  have hc7 : cs48 153 = refI G 17 153 4 := by rw [e48]; exact va_up_self _ _ _
  have hr12 : ∀ n, 158 ≤ n → n < 182 → cs48 n = finY G n := fun n a b => by rw [e48, va_up_ne _ _ (by omega)]; exact hr12 n a b
  have hlo : ∀ n, n < 146 → cs48 n = cs n := fun n a => by rw [e48, va_up_ne _ _ (by omega)]; exact hlo n a
  clear e48
  refine ry_iinc 3 [(0, .ref (gA G 146)), (1, .ref (gA G 8)), (2, .ref (gA G 10)), (3, .int 4)] [1, 2, 3, 0] dX3_init_150 rfl rfl (by decide) rfl ?_
  refine ry_goto 131 dX3_init_153 (by decide) ?_
  refine ry_iload_n 3 dX3_init_131 rfl rfl ?_
  refine ry_bipush (v := 30) dX3_init_132 rfl ?_
  refine ry_icmp_ge 156 dX3_init_134 (by decide) (fun q => absurd q (by decide)) (fun _ => ?_)
  refine ry_aload_n 0 dX3_init_137 rfl rfl ?_
  refine ry_get fl_X3_35 (by omega) hc0 rfl dX3_init_138 ?_
  refine ry_iload_n 3 dX3_init_141 rfl rfl ?_
  refine ry_new (ci := 2) (fs := [.int 0, .int 0, .int 0, .int 0, .int 0, .int 0, .int 0, .int 0, .int 0, .int 0, .null]) tyX2 tyX2_ok rfl i_X2 wc_X3_33 wi_2 wn_2 bl_2 (by decide) (by decide) dX3_init_142 ?_
  refine ry_cs (fun cs49 e49 => ?_)
  have hc0 : cs49 146 = .inr (3, [.ref (gA G 8), .ref (gA G 10), .int 0, .int 0, .ref (gA G 147), .ref (gA G 148), .ref (gA G 149), .ref (gA G 150), .ref (gA G 151), .ref (gA G 152), .ref (gA G 153), .int 0, .int 0, .ref (gA G 154), .ref (gA G 155), .ref (gA G 156), .ref (gA G 157), .int 0, .int 0, .int 0]) := by rw [e49, va_up_ne _ _ (by omega)]; exact hc0
  have hc1 : cs49 147 = .inl (gY G 14, 10, .inl (fun _ => 0)) := by rw [e49, va_up_ne _ _ (by omega)]; exact hc1
  have hc2 : cs49 148 = .inl (gY G 14, 10, .inl (fun _ => 0)) := by rw [e49, va_up_ne _ _ (by omega)]; exact hc2
  have hc3 : cs49 149 = .inl (gY G 14, 10, .inl (fun _ => 0)) := by rw [e49, va_up_ne _ _ (by omega)]; exact hc3
  have hc4 : cs49 150 = .inl (gY G 14, 10, .inl (fun _ => 0)) := by rw [e49, va_up_ne _ _ (by omega)]; exact hc4
  have hc5 : cs49 151 = .inl (gY G 14, 10, .inl (fun _ => 0)) := by rw [e49, va_up_ne _ _ (by omega)]; exact hc5
  have hc6 : cs49 152 = refI G 22 152 4 := by rw [e49, va_up_ne _ _ (by omega)]; exact hc6
  have hc7 : cs49 153 = refI G 17 153 4 := by rw [e49, va_up_ne _ _ (by omega)]; exact hc7
  have hc8 : cs49 154 = .inl (gY G 14, 60, .inl (fun _ => 0)) := by rw [e49, va_up_ne _ _ (by omega)]; exact hc8
  have hc9 : cs49 155 = .inl (gY G 14, 60, .inl (fun _ => 0)) := by rw [e49, va_up_ne _ _ (by omega)]; exact hc9
  have hc10 : cs49 156 = .inl (gY G 14, 60, .inl (fun _ => 0)) := by rw [e49, va_up_ne _ _ (by omega)]; exact hc10
  have hc11 : cs49 157 = .inl (gY G 14, 60, .inl (fun _ => 0)) := by rw [e49, va_up_ne _ _ (by omega)]; exact hc11
  have hc36 : cs49 182 = .inr (2, [.int 0, .int 0, .int 0, .int 0, .int 0, .int 0, .int 0, .int 0, .int 0, .int 0, .null]) := by rw [e49]; exact va_up_self _ _ _
  have hr12 : ∀ n, 158 ≤ n → n < 182 → cs49 n = finY G n := fun n a b => by rw [e49, va_up_ne _ _ (by omega)]; exact hr12 n a b
  have hlo : ∀ n, n < 146 → cs49 n = cs n := fun n a => by rw [e49, va_up_ne _ _ (by omega)]; exact hlo n a
  clear e49
  refine ry_dup dX3_init_145 rfl ?_
  refine ry_callIN (As := []) (n := 182) (mc := 1) (ms := 10) (Kc G 182 2 _) (fun _ _ h => by have := h.1; omega) mw_X2_init rfl win_X2_init wm_X3_60 rfl ⟨show d + 1 + 1 ≤ d + 2 by omega, show 30 * (d + 1) + 30 ≤ 30 * (d + 2) by omega, by decide, by decide⟩ (Nat.le_of_ble_eq_true rfl) dX3_init_146 (cX2_init G d (show Is 182 2 by unfold Is; decide +kernel) hc36) (fun cs50 hK => ?_) rfl
  obtain ⟨-, hK1, hK2⟩ := hK
  have hc0 : cs50 146 = .inr (3, [.ref (gA G 8), .ref (gA G 10), .int 0, .int 0, .ref (gA G 147), .ref (gA G 148), .ref (gA G 149), .ref (gA G 150), .ref (gA G 151), .ref (gA G 152), .ref (gA G 153), .int 0, .int 0, .ref (gA G 154), .ref (gA G 155), .ref (gA G 156), .ref (gA G 157), .int 0, .int 0, .int 0]) := (hK1 _ (by omega)).trans hc0
  have hc1 : cs50 147 = .inl (gY G 14, 10, .inl (fun _ => 0)) := (hK1 _ (by omega)).trans hc1
  have hc2 : cs50 148 = .inl (gY G 14, 10, .inl (fun _ => 0)) := (hK1 _ (by omega)).trans hc2
  have hc3 : cs50 149 = .inl (gY G 14, 10, .inl (fun _ => 0)) := (hK1 _ (by omega)).trans hc3
  have hc4 : cs50 150 = .inl (gY G 14, 10, .inl (fun _ => 0)) := (hK1 _ (by omega)).trans hc4
  have hc5 : cs50 151 = .inl (gY G 14, 10, .inl (fun _ => 0)) := (hK1 _ (by omega)).trans hc5
  have hc6 : cs50 152 = refI G 22 152 4 := (hK1 _ (by omega)).trans hc6
  have hc7 : cs50 153 = refI G 17 153 4 := (hK1 _ (by omega)).trans hc7
  have hc8 : cs50 154 = .inl (gY G 14, 60, .inl (fun _ => 0)) := (hK1 _ (by omega)).trans hc8
  have hc9 : cs50 155 = .inl (gY G 14, 60, .inl (fun _ => 0)) := (hK1 _ (by omega)).trans hc9
  have hc10 : cs50 156 = .inl (gY G 14, 60, .inl (fun _ => 0)) := (hK1 _ (by omega)).trans hc10
  have hc11 : cs50 157 = .inl (gY G 14, 60, .inl (fun _ => 0)) := (hK1 _ (by omega)).trans hc11
  have hr12 : ∀ n, 158 ≤ n → n < 182 → cs50 n = finY G n := fun n a b => (hK1 n (by omega)).trans (hr12 n a b)
  have hlo : ∀ n, n < 146 → cs50 n = cs n := fun n a => (hK1 n (by omega)).trans (hlo n a)
  have hr12 : ∀ n, 158 ≤ n → n < 184 → cs50 n = finY G n := fun n a b => if h : n < 182 then hr12 n a h else hK2 n (by omega) (by omega)
  clear hK1 hK2
  refine ry_aast (κ := 17) (κ' := 2) (t0 := 4) (L := 30) (n := 153) (v := 182) (i := 4) (by omega) (by omega) rfl rfl hc7 (ln_at_3_7) ((hr12 182 (by omega) (by omega)).trans (fyE_2 (show Is 182 2 by unfold Is; decide +kernel))) (by decide) rfl (by decide +kernel) dX3_init_149 ?_
  refine ry_cs (fun cs51 e51 => ?_)
  have hc0 : cs51 146 = .inr (3, [.ref (gA G 8), .ref (gA G 10), .int 0, .int 0, .ref (gA G 147), .ref (gA G 148), .ref (gA G 149), .ref (gA G 150), .ref (gA G 151), .ref (gA G 152), .ref (gA G 153), .int 0, .int 0, .ref (gA G 154), .ref (gA G 155), .ref (gA G 156), .ref (gA G 157), .int 0, .int 0, .int 0]) := by rw [e51, va_up_ne _ _ (by omega)]; exact hc0
  have hc1 : cs51 147 = .inl (gY G 14, 10, .inl (fun _ => 0)) := by rw [e51, va_up_ne _ _ (by omega)]; exact hc1
  have hc2 : cs51 148 = .inl (gY G 14, 10, .inl (fun _ => 0)) := by rw [e51, va_up_ne _ _ (by omega)]; exact hc2
  have hc3 : cs51 149 = .inl (gY G 14, 10, .inl (fun _ => 0)) := by rw [e51, va_up_ne _ _ (by omega)]; exact hc3
  have hc4 : cs51 150 = .inl (gY G 14, 10, .inl (fun _ => 0)) := by rw [e51, va_up_ne _ _ (by omega)]; exact hc4
  have hc5 : cs51 151 = .inl (gY G 14, 10, .inl (fun _ => 0)) := by rw [e51, va_up_ne _ _ (by omega)]; exact hc5
  have hc6 : cs51 152 = refI G 22 152 4 := by rw [e51, va_up_ne _ _ (by omega)]; exact hc6
  have hc8 : cs51 154 = .inl (gY G 14, 60, .inl (fun _ => 0)) := by rw [e51, va_up_ne _ _ (by omega)]; exact hc8
  have hc9 : cs51 155 = .inl (gY G 14, 60, .inl (fun _ => 0)) := by rw [e51, va_up_ne _ _ (by omega)]; exact hc9
  have hc10 : cs51 156 = .inl (gY G 14, 60, .inl (fun _ => 0)) := by rw [e51, va_up_ne _ _ (by omega)]; exact hc10
  have hc11 : cs51 157 = .inl (gY G 14, 60, .inl (fun _ => 0)) := by rw [e51, va_up_ne _ _ (by omega)]; exact hc11
  have hc7 : cs51 153 = refI G 17 153 5 := by rw [e51]; exact va_up_self _ _ _
  have hr12 : ∀ n, 158 ≤ n → n < 184 → cs51 n = finY G n := fun n a b => by rw [e51, va_up_ne _ _ (by omega)]; exact hr12 n a b
  have hlo : ∀ n, n < 146 → cs51 n = cs n := fun n a => by rw [e51, va_up_ne _ _ (by omega)]; exact hlo n a
  clear e51
  refine ry_iinc 3 [(0, .ref (gA G 146)), (1, .ref (gA G 8)), (2, .ref (gA G 10)), (3, .int 5)] [1, 2, 3, 0] dX3_init_150 rfl rfl (by decide) rfl ?_
  refine ry_goto 131 dX3_init_153 (by decide) ?_
  refine ry_iload_n 3 dX3_init_131 rfl rfl ?_
  refine ry_bipush (v := 30) dX3_init_132 rfl ?_
  refine ry_icmp_ge 156 dX3_init_134 (by decide) (fun q => absurd q (by decide)) (fun _ => ?_)
  refine ry_aload_n 0 dX3_init_137 rfl rfl ?_
  refine ry_get fl_X3_35 (by omega) hc0 rfl dX3_init_138 ?_
  refine ry_iload_n 3 dX3_init_141 rfl rfl ?_
  refine ry_new (ci := 2) (fs := [.int 0, .int 0, .int 0, .int 0, .int 0, .int 0, .int 0, .int 0, .int 0, .int 0, .null]) tyX2 tyX2_ok rfl i_X2 wc_X3_33 wi_2 wn_2 bl_2 (by decide) (by decide) dX3_init_142 ?_
  refine ry_cs (fun cs52 e52 => ?_)
  have hc0 : cs52 146 = .inr (3, [.ref (gA G 8), .ref (gA G 10), .int 0, .int 0, .ref (gA G 147), .ref (gA G 148), .ref (gA G 149), .ref (gA G 150), .ref (gA G 151), .ref (gA G 152), .ref (gA G 153), .int 0, .int 0, .ref (gA G 154), .ref (gA G 155), .ref (gA G 156), .ref (gA G 157), .int 0, .int 0, .int 0]) := by rw [e52, va_up_ne _ _ (by omega)]; exact hc0
  have hc1 : cs52 147 = .inl (gY G 14, 10, .inl (fun _ => 0)) := by rw [e52, va_up_ne _ _ (by omega)]; exact hc1
  have hc2 : cs52 148 = .inl (gY G 14, 10, .inl (fun _ => 0)) := by rw [e52, va_up_ne _ _ (by omega)]; exact hc2
  have hc3 : cs52 149 = .inl (gY G 14, 10, .inl (fun _ => 0)) := by rw [e52, va_up_ne _ _ (by omega)]; exact hc3
  have hc4 : cs52 150 = .inl (gY G 14, 10, .inl (fun _ => 0)) := by rw [e52, va_up_ne _ _ (by omega)]; exact hc4
  have hc5 : cs52 151 = .inl (gY G 14, 10, .inl (fun _ => 0)) := by rw [e52, va_up_ne _ _ (by omega)]; exact hc5
  have hc6 : cs52 152 = refI G 22 152 4 := by rw [e52, va_up_ne _ _ (by omega)]; exact hc6
  have hc7 : cs52 153 = refI G 17 153 5 := by rw [e52, va_up_ne _ _ (by omega)]; exact hc7
  have hc8 : cs52 154 = .inl (gY G 14, 60, .inl (fun _ => 0)) := by rw [e52, va_up_ne _ _ (by omega)]; exact hc8
  have hc9 : cs52 155 = .inl (gY G 14, 60, .inl (fun _ => 0)) := by rw [e52, va_up_ne _ _ (by omega)]; exact hc9
  have hc10 : cs52 156 = .inl (gY G 14, 60, .inl (fun _ => 0)) := by rw [e52, va_up_ne _ _ (by omega)]; exact hc10
  have hc11 : cs52 157 = .inl (gY G 14, 60, .inl (fun _ => 0)) := by rw [e52, va_up_ne _ _ (by omega)]; exact hc11
  have hc38 : cs52 184 = .inr (2, [.int 0, .int 0, .int 0, .int 0, .int 0, .int 0, .int 0, .int 0, .int 0, .int 0, .null]) := by rw [e52]; exact va_up_self _ _ _
  have hr12 : ∀ n, 158 ≤ n → n < 184 → cs52 n = finY G n := fun n a b => by rw [e52, va_up_ne _ _ (by omega)]; exact hr12 n a b
  have hlo : ∀ n, n < 146 → cs52 n = cs n := fun n a => by rw [e52, va_up_ne _ _ (by omega)]; exact hlo n a
  clear e52
  refine ry_dup dX3_init_145 rfl ?_
  refine ry_callIN (As := []) (n := 184) (mc := 1) (ms := 10) (Kc G 184 2 _) (fun _ _ h => by have := h.1; omega) mw_X2_init rfl win_X2_init wm_X3_60 rfl ⟨show d + 1 + 1 ≤ d + 2 by omega, show 30 * (d + 1) + 30 ≤ 30 * (d + 2) by omega, by decide, by decide⟩ (Nat.le_of_ble_eq_true rfl) dX3_init_146 (cX2_init G d (show Is 184 2 by unfold Is; decide +kernel) hc38) (fun cs53 hK => ?_) rfl
  obtain ⟨-, hK1, hK2⟩ := hK
  have hc0 : cs53 146 = .inr (3, [.ref (gA G 8), .ref (gA G 10), .int 0, .int 0, .ref (gA G 147), .ref (gA G 148), .ref (gA G 149), .ref (gA G 150), .ref (gA G 151), .ref (gA G 152), .ref (gA G 153), .int 0, .int 0, .ref (gA G 154), .ref (gA G 155), .ref (gA G 156), .ref (gA G 157), .int 0, .int 0, .int 0]) := (hK1 _ (by omega)).trans hc0
  have hc1 : cs53 147 = .inl (gY G 14, 10, .inl (fun _ => 0)) := (hK1 _ (by omega)).trans hc1
  have hc2 : cs53 148 = .inl (gY G 14, 10, .inl (fun _ => 0)) := (hK1 _ (by omega)).trans hc2
  have hc3 : cs53 149 = .inl (gY G 14, 10, .inl (fun _ => 0)) := (hK1 _ (by omega)).trans hc3
  have hc4 : cs53 150 = .inl (gY G 14, 10, .inl (fun _ => 0)) := (hK1 _ (by omega)).trans hc4
  have hc5 : cs53 151 = .inl (gY G 14, 10, .inl (fun _ => 0)) := (hK1 _ (by omega)).trans hc5
  have hc6 : cs53 152 = refI G 22 152 4 := (hK1 _ (by omega)).trans hc6
  have hc7 : cs53 153 = refI G 17 153 5 := (hK1 _ (by omega)).trans hc7
  have hc8 : cs53 154 = .inl (gY G 14, 60, .inl (fun _ => 0)) := (hK1 _ (by omega)).trans hc8
  have hc9 : cs53 155 = .inl (gY G 14, 60, .inl (fun _ => 0)) := (hK1 _ (by omega)).trans hc9
  have hc10 : cs53 156 = .inl (gY G 14, 60, .inl (fun _ => 0)) := (hK1 _ (by omega)).trans hc10
  have hc11 : cs53 157 = .inl (gY G 14, 60, .inl (fun _ => 0)) := (hK1 _ (by omega)).trans hc11
  have hr12 : ∀ n, 158 ≤ n → n < 184 → cs53 n = finY G n := fun n a b => (hK1 n (by omega)).trans (hr12 n a b)
  have hlo : ∀ n, n < 146 → cs53 n = cs n := fun n a => (hK1 n (by omega)).trans (hlo n a)
  have hr12 : ∀ n, 158 ≤ n → n < 186 → cs53 n = finY G n := fun n a b => if h : n < 184 then hr12 n a h else hK2 n (by omega) (by omega)
  clear hK1 hK2
  refine ry_aast (κ := 17) (κ' := 2) (t0 := 4) (L := 30) (n := 153) (v := 184) (i := 5) (by omega) (by omega) rfl rfl hc7 (ln_at_3_7) ((hr12 184 (by omega) (by omega)).trans (fyE_2 (show Is 184 2 by unfold Is; decide +kernel))) (by decide) rfl (by decide +kernel) dX3_init_149 ?_
  refine ry_cs (fun cs54 e54 => ?_)
  have hc0 : cs54 146 = .inr (3, [.ref (gA G 8), .ref (gA G 10), .int 0, .int 0, .ref (gA G 147), .ref (gA G 148), .ref (gA G 149), .ref (gA G 150), .ref (gA G 151), .ref (gA G 152), .ref (gA G 153), .int 0, .int 0, .ref (gA G 154), .ref (gA G 155), .ref (gA G 156), .ref (gA G 157), .int 0, .int 0, .int 0]) := by rw [e54, va_up_ne _ _ (by omega)]; exact hc0
  have hc1 : cs54 147 = .inl (gY G 14, 10, .inl (fun _ => 0)) := by rw [e54, va_up_ne _ _ (by omega)]; exact hc1
  have hc2 : cs54 148 = .inl (gY G 14, 10, .inl (fun _ => 0)) := by rw [e54, va_up_ne _ _ (by omega)]; exact hc2
  have hc3 : cs54 149 = .inl (gY G 14, 10, .inl (fun _ => 0)) := by rw [e54, va_up_ne _ _ (by omega)]; exact hc3
  have hc4 : cs54 150 = .inl (gY G 14, 10, .inl (fun _ => 0)) := by rw [e54, va_up_ne _ _ (by omega)]; exact hc4
  have hc5 : cs54 151 = .inl (gY G 14, 10, .inl (fun _ => 0)) := by rw [e54, va_up_ne _ _ (by omega)]; exact hc5
  have hc6 : cs54 152 = refI G 22 152 4 := by rw [e54, va_up_ne _ _ (by omega)]; exact hc6
  have hc8 : cs54 154 = .inl (gY G 14, 60, .inl (fun _ => 0)) := by rw [e54, va_up_ne _ _ (by omega)]; exact hc8
  have hc9 : cs54 155 = .inl (gY G 14, 60, .inl (fun _ => 0)) := by rw [e54, va_up_ne _ _ (by omega)]; exact hc9
  have hc10 : cs54 156 = .inl (gY G 14, 60, .inl (fun _ => 0)) := by rw [e54, va_up_ne _ _ (by omega)]; exact hc10
  have hc11 : cs54 157 = .inl (gY G 14, 60, .inl (fun _ => 0)) := by rw [e54, va_up_ne _ _ (by omega)]; exact hc11
  have hc7 : cs54 153 = refI G 17 153 6 := by rw [e54]; exact va_up_self _ _ _
  have hr12 : ∀ n, 158 ≤ n → n < 186 → cs54 n = finY G n := fun n a b => by rw [e54, va_up_ne _ _ (by omega)]; exact hr12 n a b
  have hlo : ∀ n, n < 146 → cs54 n = cs n := fun n a => by rw [e54, va_up_ne _ _ (by omega)]; exact hlo n a
  clear e54
  refine ry_iinc 3 [(0, .ref (gA G 146)), (1, .ref (gA G 8)), (2, .ref (gA G 10)), (3, .int 6)] [1, 2, 3, 0] dX3_init_150 rfl rfl (by decide) rfl ?_
  refine ry_goto 131 dX3_init_153 (by decide) ?_
  refine ry_iload_n 3 dX3_init_131 rfl rfl ?_
  refine ry_bipush (v := 30) dX3_init_132 rfl ?_
  refine ry_icmp_ge 156 dX3_init_134 (by decide) (fun q => absurd q (by decide)) (fun _ => ?_)
  refine ry_aload_n 0 dX3_init_137 rfl rfl ?_
  refine ry_get fl_X3_35 (by omega) hc0 rfl dX3_init_138 ?_
  refine ry_iload_n 3 dX3_init_141 rfl rfl ?_
  refine ry_new (ci := 2) (fs := [.int 0, .int 0, .int 0, .int 0, .int 0, .int 0, .int 0, .int 0, .int 0, .int 0, .null]) tyX2 tyX2_ok rfl i_X2 wc_X3_33 wi_2 wn_2 bl_2 (by decide) (by decide) dX3_init_142 ?_
  refine ry_cs (fun cs55 e55 => ?_)
  have hc0 : cs55 146 = .inr (3, [.ref (gA G 8), .ref (gA G 10), .int 0, .int 0, .ref (gA G 147), .ref (gA G 148), .ref (gA G 149), .ref (gA G 150), .ref (gA G 151), .ref (gA G 152), .ref (gA G 153), .int 0, .int 0, .ref (gA G 154), .ref (gA G 155), .ref (gA G 156), .ref (gA G 157), .int 0, .int 0, .int 0]) := by rw [e55, va_up_ne _ _ (by omega)]; exact hc0
  have hc1 : cs55 147 = .inl (gY G 14, 10, .inl (fun _ => 0)) := by rw [e55, va_up_ne _ _ (by omega)]; exact hc1
  have hc2 : cs55 148 = .inl (gY G 14, 10, .inl (fun _ => 0)) := by rw [e55, va_up_ne _ _ (by omega)]; exact hc2
  have hc3 : cs55 149 = .inl (gY G 14, 10, .inl (fun _ => 0)) := by rw [e55, va_up_ne _ _ (by omega)]; exact hc3
  have hc4 : cs55 150 = .inl (gY G 14, 10, .inl (fun _ => 0)) := by rw [e55, va_up_ne _ _ (by omega)]; exact hc4
  have hc5 : cs55 151 = .inl (gY G 14, 10, .inl (fun _ => 0)) := by rw [e55, va_up_ne _ _ (by omega)]; exact hc5
  have hc6 : cs55 152 = refI G 22 152 4 := by rw [e55, va_up_ne _ _ (by omega)]; exact hc6
  have hc7 : cs55 153 = refI G 17 153 6 := by rw [e55, va_up_ne _ _ (by omega)]; exact hc7
  have hc8 : cs55 154 = .inl (gY G 14, 60, .inl (fun _ => 0)) := by rw [e55, va_up_ne _ _ (by omega)]; exact hc8
  have hc9 : cs55 155 = .inl (gY G 14, 60, .inl (fun _ => 0)) := by rw [e55, va_up_ne _ _ (by omega)]; exact hc9
  have hc10 : cs55 156 = .inl (gY G 14, 60, .inl (fun _ => 0)) := by rw [e55, va_up_ne _ _ (by omega)]; exact hc10
  have hc11 : cs55 157 = .inl (gY G 14, 60, .inl (fun _ => 0)) := by rw [e55, va_up_ne _ _ (by omega)]; exact hc11
  have hc40 : cs55 186 = .inr (2, [.int 0, .int 0, .int 0, .int 0, .int 0, .int 0, .int 0, .int 0, .int 0, .int 0, .null]) := by rw [e55]; exact va_up_self _ _ _
  have hr12 : ∀ n, 158 ≤ n → n < 186 → cs55 n = finY G n := fun n a b => by rw [e55, va_up_ne _ _ (by omega)]; exact hr12 n a b
  have hlo : ∀ n, n < 146 → cs55 n = cs n := fun n a => by rw [e55, va_up_ne _ _ (by omega)]; exact hlo n a
  clear e55
  refine ry_dup dX3_init_145 rfl ?_
  refine ry_callIN (As := []) (n := 186) (mc := 1) (ms := 10) (Kc G 186 2 _) (fun _ _ h => by have := h.1; omega) mw_X2_init rfl win_X2_init wm_X3_60 rfl ⟨show d + 1 + 1 ≤ d + 2 by omega, show 30 * (d + 1) + 30 ≤ 30 * (d + 2) by omega, by decide, by decide⟩ (Nat.le_of_ble_eq_true rfl) dX3_init_146 (cX2_init G d (show Is 186 2 by unfold Is; decide +kernel) hc40) (fun cs56 hK => ?_) rfl
  obtain ⟨-, hK1, hK2⟩ := hK
  have hc0 : cs56 146 = .inr (3, [.ref (gA G 8), .ref (gA G 10), .int 0, .int 0, .ref (gA G 147), .ref (gA G 148), .ref (gA G 149), .ref (gA G 150), .ref (gA G 151), .ref (gA G 152), .ref (gA G 153), .int 0, .int 0, .ref (gA G 154), .ref (gA G 155), .ref (gA G 156), .ref (gA G 157), .int 0, .int 0, .int 0]) := (hK1 _ (by omega)).trans hc0
  have hc1 : cs56 147 = .inl (gY G 14, 10, .inl (fun _ => 0)) := (hK1 _ (by omega)).trans hc1
  have hc2 : cs56 148 = .inl (gY G 14, 10, .inl (fun _ => 0)) := (hK1 _ (by omega)).trans hc2
  have hc3 : cs56 149 = .inl (gY G 14, 10, .inl (fun _ => 0)) := (hK1 _ (by omega)).trans hc3
  have hc4 : cs56 150 = .inl (gY G 14, 10, .inl (fun _ => 0)) := (hK1 _ (by omega)).trans hc4
  have hc5 : cs56 151 = .inl (gY G 14, 10, .inl (fun _ => 0)) := (hK1 _ (by omega)).trans hc5
  have hc6 : cs56 152 = refI G 22 152 4 := (hK1 _ (by omega)).trans hc6
  have hc7 : cs56 153 = refI G 17 153 6 := (hK1 _ (by omega)).trans hc7
  have hc8 : cs56 154 = .inl (gY G 14, 60, .inl (fun _ => 0)) := (hK1 _ (by omega)).trans hc8
  have hc9 : cs56 155 = .inl (gY G 14, 60, .inl (fun _ => 0)) := (hK1 _ (by omega)).trans hc9
  have hc10 : cs56 156 = .inl (gY G 14, 60, .inl (fun _ => 0)) := (hK1 _ (by omega)).trans hc10
  have hc11 : cs56 157 = .inl (gY G 14, 60, .inl (fun _ => 0)) := (hK1 _ (by omega)).trans hc11
  have hr12 : ∀ n, 158 ≤ n → n < 186 → cs56 n = finY G n := fun n a b => (hK1 n (by omega)).trans (hr12 n a b)
  have hlo : ∀ n, n < 146 → cs56 n = cs n := fun n a => (hK1 n (by omega)).trans (hlo n a)
  have hr12 : ∀ n, 158 ≤ n → n < 188 → cs56 n = finY G n := fun n a b => if h : n < 186 then hr12 n a h else hK2 n (by omega) (by omega)
  clear hK1 hK2
  refine ry_aast (κ := 17) (κ' := 2) (t0 := 4) (L := 30) (n := 153) (v := 186) (i := 6) (by omega) (by omega) rfl rfl hc7 (ln_at_3_7) ((hr12 186 (by omega) (by omega)).trans (fyE_2 (show Is 186 2 by unfold Is; decide +kernel))) (by decide) rfl (by decide +kernel) dX3_init_149 ?_
  refine ry_cs (fun cs57 e57 => ?_)
  have hc0 : cs57 146 = .inr (3, [.ref (gA G 8), .ref (gA G 10), .int 0, .int 0, .ref (gA G 147), .ref (gA G 148), .ref (gA G 149), .ref (gA G 150), .ref (gA G 151), .ref (gA G 152), .ref (gA G 153), .int 0, .int 0, .ref (gA G 154), .ref (gA G 155), .ref (gA G 156), .ref (gA G 157), .int 0, .int 0, .int 0]) := by rw [e57, va_up_ne _ _ (by omega)]; exact hc0
  have hc1 : cs57 147 = .inl (gY G 14, 10, .inl (fun _ => 0)) := by rw [e57, va_up_ne _ _ (by omega)]; exact hc1
  have hc2 : cs57 148 = .inl (gY G 14, 10, .inl (fun _ => 0)) := by rw [e57, va_up_ne _ _ (by omega)]; exact hc2
  have hc3 : cs57 149 = .inl (gY G 14, 10, .inl (fun _ => 0)) := by rw [e57, va_up_ne _ _ (by omega)]; exact hc3
  have hc4 : cs57 150 = .inl (gY G 14, 10, .inl (fun _ => 0)) := by rw [e57, va_up_ne _ _ (by omega)]; exact hc4
  have hc5 : cs57 151 = .inl (gY G 14, 10, .inl (fun _ => 0)) := by rw [e57, va_up_ne _ _ (by omega)]; exact hc5
  have hc6 : cs57 152 = refI G 22 152 4 := by rw [e57, va_up_ne _ _ (by omega)]; exact hc6
  have hc8 : cs57 154 = .inl (gY G 14, 60, .inl (fun _ => 0)) := by rw [e57, va_up_ne _ _ (by omega)]; exact hc8
  have hc9 : cs57 155 = .inl (gY G 14, 60, .inl (fun _ => 0)) := by rw [e57, va_up_ne _ _ (by omega)]; exact hc9
  have hc10 : cs57 156 = .inl (gY G 14, 60, .inl (fun _ => 0)) := by rw [e57, va_up_ne _ _ (by omega)]; exact hc10
  have hc11 : cs57 157 = .inl (gY G 14, 60, .inl (fun _ => 0)) := by rw [e57, va_up_ne _ _ (by omega)]; exact hc11
  have hc7 : cs57 153 = refI G 17 153 7 := by rw [e57]; exact va_up_self _ _ _
  have hr12 : ∀ n, 158 ≤ n → n < 188 → cs57 n = finY G n := fun n a b => by rw [e57, va_up_ne _ _ (by omega)]; exact hr12 n a b
  have hlo : ∀ n, n < 146 → cs57 n = cs n := fun n a => by rw [e57, va_up_ne _ _ (by omega)]; exact hlo n a
  clear e57
  refine ry_iinc 3 [(0, .ref (gA G 146)), (1, .ref (gA G 8)), (2, .ref (gA G 10)), (3, .int 7)] [1, 2, 3, 0] dX3_init_150 rfl rfl (by decide) rfl ?_
  refine ry_goto 131 dX3_init_153 (by decide) ?_
  refine ry_iload_n 3 dX3_init_131 rfl rfl ?_
  refine ry_bipush (v := 30) dX3_init_132 rfl ?_
  refine ry_icmp_ge 156 dX3_init_134 (by decide) (fun q => absurd q (by decide)) (fun _ => ?_)
  refine ry_aload_n 0 dX3_init_137 rfl rfl ?_
  refine ry_get fl_X3_35 (by omega) hc0 rfl dX3_init_138 ?_
  refine ry_iload_n 3 dX3_init_141 rfl rfl ?_
  refine ry_new (ci := 2) (fs := [.int 0, .int 0, .int 0, .int 0, .int 0, .int 0, .int 0, .int 0, .int 0, .int 0, .null]) tyX2 tyX2_ok rfl i_X2 wc_X3_33 wi_2 wn_2 bl_2 (by decide) (by decide) dX3_init_142 ?_
  refine ry_cs (fun cs58 e58 => ?_)
  have hc0 : cs58 146 = .inr (3, [.ref (gA G 8), .ref (gA G 10), .int 0, .int 0, .ref (gA G 147), .ref (gA G 148), .ref (gA G 149), .ref (gA G 150), .ref (gA G 151), .ref (gA G 152), .ref (gA G 153), .int 0, .int 0, .ref (gA G 154), .ref (gA G 155), .ref (gA G 156), .ref (gA G 157), .int 0, .int 0, .int 0]) := by rw [e58, va_up_ne _ _ (by omega)]; exact hc0
  have hc1 : cs58 147 = .inl (gY G 14, 10, .inl (fun _ => 0)) := by rw [e58, va_up_ne _ _ (by omega)]; exact hc1
  have hc2 : cs58 148 = .inl (gY G 14, 10, .inl (fun _ => 0)) := by rw [e58, va_up_ne _ _ (by omega)]; exact hc2
  have hc3 : cs58 149 = .inl (gY G 14, 10, .inl (fun _ => 0)) := by rw [e58, va_up_ne _ _ (by omega)]; exact hc3
  have hc4 : cs58 150 = .inl (gY G 14, 10, .inl (fun _ => 0)) := by rw [e58, va_up_ne _ _ (by omega)]; exact hc4
  have hc5 : cs58 151 = .inl (gY G 14, 10, .inl (fun _ => 0)) := by rw [e58, va_up_ne _ _ (by omega)]; exact hc5
  have hc6 : cs58 152 = refI G 22 152 4 := by rw [e58, va_up_ne _ _ (by omega)]; exact hc6
  have hc7 : cs58 153 = refI G 17 153 7 := by rw [e58, va_up_ne _ _ (by omega)]; exact hc7
  have hc8 : cs58 154 = .inl (gY G 14, 60, .inl (fun _ => 0)) := by rw [e58, va_up_ne _ _ (by omega)]; exact hc8
  have hc9 : cs58 155 = .inl (gY G 14, 60, .inl (fun _ => 0)) := by rw [e58, va_up_ne _ _ (by omega)]; exact hc9
  have hc10 : cs58 156 = .inl (gY G 14, 60, .inl (fun _ => 0)) := by rw [e58, va_up_ne _ _ (by omega)]; exact hc10
  have hc11 : cs58 157 = .inl (gY G 14, 60, .inl (fun _ => 0)) := by rw [e58, va_up_ne _ _ (by omega)]; exact hc11
  have hc42 : cs58 188 = .inr (2, [.int 0, .int 0, .int 0, .int 0, .int 0, .int 0, .int 0, .int 0, .int 0, .int 0, .null]) := by rw [e58]; exact va_up_self _ _ _
  have hr12 : ∀ n, 158 ≤ n → n < 188 → cs58 n = finY G n := fun n a b => by rw [e58, va_up_ne _ _ (by omega)]; exact hr12 n a b
  have hlo : ∀ n, n < 146 → cs58 n = cs n := fun n a => by rw [e58, va_up_ne _ _ (by omega)]; exact hlo n a
  clear e58
  refine ry_dup dX3_init_145 rfl ?_
  refine ry_callIN (As := []) (n := 188) (mc := 1) (ms := 10) (Kc G 188 2 _) (fun _ _ h => by have := h.1; omega) mw_X2_init rfl win_X2_init wm_X3_60 rfl ⟨show d + 1 + 1 ≤ d + 2 by omega, show 30 * (d + 1) + 30 ≤ 30 * (d + 2) by omega, by decide, by decide⟩ (Nat.le_of_ble_eq_true rfl) dX3_init_146 (cX2_init G d (show Is 188 2 by unfold Is; decide +kernel) hc42) (fun cs59 hK => ?_) rfl
  obtain ⟨-, hK1, hK2⟩ := hK
  have hc0 : cs59 146 = .inr (3, [.ref (gA G 8), .ref (gA G 10), .int 0, .int 0, .ref (gA G 147), .ref (gA G 148), .ref (gA G 149), .ref (gA G 150), .ref (gA G 151), .ref (gA G 152), .ref (gA G 153), .int 0, .int 0, .ref (gA G 154), .ref (gA G 155), .ref (gA G 156), .ref (gA G 157), .int 0, .int 0, .int 0]) := (hK1 _ (by omega)).trans hc0
  have hc1 : cs59 147 = .inl (gY G 14, 10, .inl (fun _ => 0)) := (hK1 _ (by omega)).trans hc1
  have hc2 : cs59 148 = .inl (gY G 14, 10, .inl (fun _ => 0)) := (hK1 _ (by omega)).trans hc2
  have hc3 : cs59 149 = .inl (gY G 14, 10, .inl (fun _ => 0)) := (hK1 _ (by omega)).trans hc3
  have hc4 : cs59 150 = .inl (gY G 14, 10, .inl (fun _ => 0)) := (hK1 _ (by omega)).trans hc4
  have hc5 : cs59 151 = .inl (gY G 14, 10, .inl (fun _ => 0)) := (hK1 _ (by omega)).trans hc5
  have hc6 : cs59 152 = refI G 22 152 4 := (hK1 _ (by omega)).trans hc6
  have hc7 : cs59 153 = refI G 17 153 7 := (hK1 _ (by omega)).trans hc7
  have hc8 : cs59 154 = .inl (gY G 14, 60, .inl (fun _ => 0)) := (hK1 _ (by omega)).trans hc8
  have hc9 : cs59 155 = .inl (gY G 14, 60, .inl (fun _ => 0)) := (hK1 _ (by omega)).trans hc9
  have hc10 : cs59 156 = .inl (gY G 14, 60, .inl (fun _ => 0)) := (hK1 _ (by omega)).trans hc10
  have hc11 : cs59 157 = .inl (gY G 14, 60, .inl (fun _ => 0)) := (hK1 _ (by omega)).trans hc11
  have hr12 : ∀ n, 158 ≤ n → n < 188 → cs59 n = finY G n := fun n a b => (hK1 n (by omega)).trans (hr12 n a b)
  have hlo : ∀ n, n < 146 → cs59 n = cs n := fun n a => (hK1 n (by omega)).trans (hlo n a)
  have hr12 : ∀ n, 158 ≤ n → n < 190 → cs59 n = finY G n := fun n a b => if h : n < 188 then hr12 n a h else hK2 n (by omega) (by omega)
  clear hK1 hK2
  refine ry_aast (κ := 17) (κ' := 2) (t0 := 4) (L := 30) (n := 153) (v := 188) (i := 7) (by omega) (by omega) rfl rfl hc7 (ln_at_3_7) ((hr12 188 (by omega) (by omega)).trans (fyE_2 (show Is 188 2 by unfold Is; decide +kernel))) (by decide) rfl (by decide +kernel) dX3_init_149 ?_
  refine ry_cs (fun cs60 e60 => ?_)
  have hc0 : cs60 146 = .inr (3, [.ref (gA G 8), .ref (gA G 10), .int 0, .int 0, .ref (gA G 147), .ref (gA G 148), .ref (gA G 149), .ref (gA G 150), .ref (gA G 151), .ref (gA G 152), .ref (gA G 153), .int 0, .int 0, .ref (gA G 154), .ref (gA G 155), .ref (gA G 156), .ref (gA G 157), .int 0, .int 0, .int 0]) := by rw [e60, va_up_ne _ _ (by omega)]; exact hc0
  have hc1 : cs60 147 = .inl (gY G 14, 10, .inl (fun _ => 0)) := by rw [e60, va_up_ne _ _ (by omega)]; exact hc1
  have hc2 : cs60 148 = .inl (gY G 14, 10, .inl (fun _ => 0)) := by rw [e60, va_up_ne _ _ (by omega)]; exact hc2
  have hc3 : cs60 149 = .inl (gY G 14, 10, .inl (fun _ => 0)) := by rw [e60, va_up_ne _ _ (by omega)]; exact hc3
  have hc4 : cs60 150 = .inl (gY G 14, 10, .inl (fun _ => 0)) := by rw [e60, va_up_ne _ _ (by omega)]; exact hc4
  have hc5 : cs60 151 = .inl (gY G 14, 10, .inl (fun _ => 0)) := by rw [e60, va_up_ne _ _ (by omega)]; exact hc5
  have hc6 : cs60 152 = refI G 22 152 4 := by rw [e60, va_up_ne _ _ (by omega)]; exact hc6
  have hc8 : cs60 154 = .inl (gY G 14, 60, .inl (fun _ => 0)) := by rw [e60, va_up_ne _ _ (by omega)]; exact hc8
  have hc9 : cs60 155 = .inl (gY G 14, 60, .inl (fun _ => 0)) := by rw [e60, va_up_ne _ _ (by omega)]; exact hc9
  have hc10 : cs60 156 = .inl (gY G 14, 60, .inl (fun _ => 0)) := by rw [e60, va_up_ne _ _ (by omega)]; exact hc10
  have hc11 : cs60 157 = .inl (gY G 14, 60, .inl (fun _ => 0)) := by rw [e60, va_up_ne _ _ (by omega)]; exact hc11
  have hc7 : cs60 153 = refI G 17 153 8 := by rw [e60]; exact va_up_self _ _ _
  have hr12 : ∀ n, 158 ≤ n → n < 190 → cs60 n = finY G n := fun n a b => by rw [e60, va_up_ne _ _ (by omega)]; exact hr12 n a b
  have hlo : ∀ n, n < 146 → cs60 n = cs n := fun n a => by rw [e60, va_up_ne _ _ (by omega)]; exact hlo n a
  clear e60
  refine ry_iinc 3 [(0, .ref (gA G 146)), (1, .ref (gA G 8)), (2, .ref (gA G 10)), (3, .int 8)] [1, 2, 3, 0] dX3_init_150 rfl rfl (by decide) rfl ?_
  refine ry_goto 131 dX3_init_153 (by decide) ?_
  refine ry_iload_n 3 dX3_init_131 rfl rfl ?_
  refine ry_bipush (v := 30) dX3_init_132 rfl ?_
  refine ry_icmp_ge 156 dX3_init_134 (by decide) (fun q => absurd q (by decide)) (fun _ => ?_)
  refine ry_aload_n 0 dX3_init_137 rfl rfl ?_
  refine ry_get fl_X3_35 (by omega) hc0 rfl dX3_init_138 ?_
  refine ry_iload_n 3 dX3_init_141 rfl rfl ?_
  refine ry_new (ci := 2) (fs := [.int 0, .int 0, .int 0, .int 0, .int 0, .int 0, .int 0, .int 0, .int 0, .int 0, .null]) tyX2 tyX2_ok rfl i_X2 wc_X3_33 wi_2 wn_2 bl_2 (by decide) (by decide) dX3_init_142 ?_
  refine ry_cs (fun cs61 e61 => ?_)
  have hc0 : cs61 146 = .inr (3, [.ref (gA G 8), .ref (gA G 10), .int 0, .int 0, .ref (gA G 147), .ref (gA G 148), .ref (gA G 149), .ref (gA G 150), .ref (gA G 151), .ref (gA G 152), .ref (gA G 153), .int 0, .int 0, .ref (gA G 154), .ref (gA G 155), .ref (gA G 156), .ref (gA G 157), .int 0, .int 0, .int 0]) := by rw [e61, va_up_ne _ _ (by omega)]; exact hc0
  have hc1 : cs61 147 = .inl (gY G 14, 10, .inl (fun _ => 0)) := by rw [e61, va_up_ne _ _ (by omega)]; exact hc1
  have hc2 : cs61 148 = .inl (gY G 14, 10, .inl (fun _ => 0)) := by rw [e61, va_up_ne _ _ (by omega)]; exact hc2
  have hc3 : cs61 149 = .inl (gY G 14, 10, .inl (fun _ => 0)) := by rw [e61, va_up_ne _ _ (by omega)]; exact hc3
  have hc4 : cs61 150 = .inl (gY G 14, 10, .inl (fun _ => 0)) := by rw [e61, va_up_ne _ _ (by omega)]; exact hc4
  have hc5 : cs61 151 = .inl (gY G 14, 10, .inl (fun _ => 0)) := by rw [e61, va_up_ne _ _ (by omega)]; exact hc5
  have hc6 : cs61 152 = refI G 22 152 4 := by rw [e61, va_up_ne _ _ (by omega)]; exact hc6
  have hc7 : cs61 153 = refI G 17 153 8 := by rw [e61, va_up_ne _ _ (by omega)]; exact hc7
  have hc8 : cs61 154 = .inl (gY G 14, 60, .inl (fun _ => 0)) := by rw [e61, va_up_ne _ _ (by omega)]; exact hc8
  have hc9 : cs61 155 = .inl (gY G 14, 60, .inl (fun _ => 0)) := by rw [e61, va_up_ne _ _ (by omega)]; exact hc9
  have hc10 : cs61 156 = .inl (gY G 14, 60, .inl (fun _ => 0)) := by rw [e61, va_up_ne _ _ (by omega)]; exact hc10
  have hc11 : cs61 157 = .inl (gY G 14, 60, .inl (fun _ => 0)) := by rw [e61, va_up_ne _ _ (by omega)]; exact hc11
  have hc44 : cs61 190 = .inr (2, [.int 0, .int 0, .int 0, .int 0, .int 0, .int 0, .int 0, .int 0, .int 0, .int 0, .null]) := by rw [e61]; exact va_up_self _ _ _
  have hr12 : ∀ n, 158 ≤ n → n < 190 → cs61 n = finY G n := fun n a b => by rw [e61, va_up_ne _ _ (by omega)]; exact hr12 n a b
  have hlo : ∀ n, n < 146 → cs61 n = cs n := fun n a => by rw [e61, va_up_ne _ _ (by omega)]; exact hlo n a
  clear e61
  refine ry_dup dX3_init_145 rfl ?_
  refine ry_callIN (As := []) (n := 190) (mc := 1) (ms := 10) (Kc G 190 2 _) (fun _ _ h => by have := h.1; omega) mw_X2_init rfl win_X2_init wm_X3_60 rfl ⟨show d + 1 + 1 ≤ d + 2 by omega, show 30 * (d + 1) + 30 ≤ 30 * (d + 2) by omega, by decide, by decide⟩ (Nat.le_of_ble_eq_true rfl) dX3_init_146 (cX2_init G d (show Is 190 2 by unfold Is; decide +kernel) hc44) (fun cs62 hK => ?_) rfl
  obtain ⟨-, hK1, hK2⟩ := hK
  have hc0 : cs62 146 = .inr (3, [.ref (gA G 8), .ref (gA G 10), .int 0, .int 0, .ref (gA G 147), .ref (gA G 148), .ref (gA G 149), .ref (gA G 150), .ref (gA G 151), .ref (gA G 152), .ref (gA G 153), .int 0, .int 0, .ref (gA G 154), .ref (gA G 155), .ref (gA G 156), .ref (gA G 157), .int 0, .int 0, .int 0]) := (hK1 _ (by omega)).trans hc0
  have hc1 : cs62 147 = .inl (gY G 14, 10, .inl (fun _ => 0)) := (hK1 _ (by omega)).trans hc1
  have hc2 : cs62 148 = .inl (gY G 14, 10, .inl (fun _ => 0)) := (hK1 _ (by omega)).trans hc2
  have hc3 : cs62 149 = .inl (gY G 14, 10, .inl (fun _ => 0)) := (hK1 _ (by omega)).trans hc3
  have hc4 : cs62 150 = .inl (gY G 14, 10, .inl (fun _ => 0)) := (hK1 _ (by omega)).trans hc4
  have hc5 : cs62 151 = .inl (gY G 14, 10, .inl (fun _ => 0)) := (hK1 _ (by omega)).trans hc5
  have hc6 : cs62 152 = refI G 22 152 4 := (hK1 _ (by omega)).trans hc6
  have hc7 : cs62 153 = refI G 17 153 8 := (hK1 _ (by omega)).trans hc7
  have hc8 : cs62 154 = .inl (gY G 14, 60, .inl (fun _ => 0)) := (hK1 _ (by omega)).trans hc8
  have hc9 : cs62 155 = .inl (gY G 14, 60, .inl (fun _ => 0)) := (hK1 _ (by omega)).trans hc9
  have hc10 : cs62 156 = .inl (gY G 14, 60, .inl (fun _ => 0)) := (hK1 _ (by omega)).trans hc10
  have hc11 : cs62 157 = .inl (gY G 14, 60, .inl (fun _ => 0)) := (hK1 _ (by omega)).trans hc11
  have hr12 : ∀ n, 158 ≤ n → n < 190 → cs62 n = finY G n := fun n a b => (hK1 n (by omega)).trans (hr12 n a b)
  have hlo : ∀ n, n < 146 → cs62 n = cs n := fun n a => (hK1 n (by omega)).trans (hlo n a)
  have hr12 : ∀ n, 158 ≤ n → n < 192 → cs62 n = finY G n := fun n a b => if h : n < 190 then hr12 n a h else hK2 n (by omega) (by omega)
  clear hK1 hK2
  refine ry_aast (κ := 17) (κ' := 2) (t0 := 4) (L := 30) (n := 153) (v := 190) (i := 8) (by omega) (by omega) rfl rfl hc7 (ln_at_3_7) ((hr12 190 (by omega) (by omega)).trans (fyE_2 (show Is 190 2 by unfold Is; decide +kernel))) (by decide) rfl (by decide +kernel) dX3_init_149 ?_
  refine ry_cs (fun cs63 e63 => ?_)
  have hc0 : cs63 146 = .inr (3, [.ref (gA G 8), .ref (gA G 10), .int 0, .int 0, .ref (gA G 147), .ref (gA G 148), .ref (gA G 149), .ref (gA G 150), .ref (gA G 151), .ref (gA G 152), .ref (gA G 153), .int 0, .int 0, .ref (gA G 154), .ref (gA G 155), .ref (gA G 156), .ref (gA G 157), .int 0, .int 0, .int 0]) := by rw [e63, va_up_ne _ _ (by omega)]; exact hc0
  have hc1 : cs63 147 = .inl (gY G 14, 10, .inl (fun _ => 0)) := by rw [e63, va_up_ne _ _ (by omega)]; exact hc1
  have hc2 : cs63 148 = .inl (gY G 14, 10, .inl (fun _ => 0)) := by rw [e63, va_up_ne _ _ (by omega)]; exact hc2
  have hc3 : cs63 149 = .inl (gY G 14, 10, .inl (fun _ => 0)) := by rw [e63, va_up_ne _ _ (by omega)]; exact hc3
  have hc4 : cs63 150 = .inl (gY G 14, 10, .inl (fun _ => 0)) := by rw [e63, va_up_ne _ _ (by omega)]; exact hc4
  have hc5 : cs63 151 = .inl (gY G 14, 10, .inl (fun _ => 0)) := by rw [e63, va_up_ne _ _ (by omega)]; exact hc5
  have hc6 : cs63 152 = refI G 22 152 4 := by rw [e63, va_up_ne _ _ (by omega)]; exact hc6
  have hc8 : cs63 154 = .inl (gY G 14, 60, .inl (fun _ => 0)) := by rw [e63, va_up_ne _ _ (by omega)]; exact hc8
  have hc9 : cs63 155 = .inl (gY G 14, 60, .inl (fun _ => 0)) := by rw [e63, va_up_ne _ _ (by omega)]; exact hc9
  have hc10 : cs63 156 = .inl (gY G 14, 60, .inl (fun _ => 0)) := by rw [e63, va_up_ne _ _ (by omega)]; exact hc10
  have hc11 : cs63 157 = .inl (gY G 14, 60, .inl (fun _ => 0)) := by rw [e63, va_up_ne _ _ (by omega)]; exact hc11
  have hc7 : cs63 153 = refI G 17 153 9 := by rw [e63]; exact va_up_self _ _ _
  have hr12 : ∀ n, 158 ≤ n → n < 192 → cs63 n = finY G n := fun n a b => by rw [e63, va_up_ne _ _ (by omega)]; exact hr12 n a b
  have hlo : ∀ n, n < 146 → cs63 n = cs n := fun n a => by rw [e63, va_up_ne _ _ (by omega)]; exact hlo n a
  clear e63
  refine ry_iinc 3 [(0, .ref (gA G 146)), (1, .ref (gA G 8)), (2, .ref (gA G 10)), (3, .int 9)] [1, 2, 3, 0] dX3_init_150 rfl rfl (by decide) rfl ?_
  refine ry_goto 131 dX3_init_153 (by decide) ?_
  refine ry_iload_n 3 dX3_init_131 rfl rfl ?_
  refine ry_bipush (v := 30) dX3_init_132 rfl ?_
  refine ry_icmp_ge 156 dX3_init_134 (by decide) (fun q => absurd q (by decide)) (fun _ => ?_)
  refine ry_aload_n 0 dX3_init_137 rfl rfl ?_
  refine ry_get fl_X3_35 (by omega) hc0 rfl dX3_init_138 ?_
  refine ry_iload_n 3 dX3_init_141 rfl rfl ?_
  refine ry_new (ci := 2) (fs := [.int 0, .int 0, .int 0, .int 0, .int 0, .int 0, .int 0, .int 0, .int 0, .int 0, .null]) tyX2 tyX2_ok rfl i_X2 wc_X3_33 wi_2 wn_2 bl_2 (by decide) (by decide) dX3_init_142 ?_
  refine ry_cs (fun cs64 e64 => ?_)
  have hc0 : cs64 146 = .inr (3, [.ref (gA G 8), .ref (gA G 10), .int 0, .int 0, .ref (gA G 147), .ref (gA G 148), .ref (gA G 149), .ref (gA G 150), .ref (gA G 151), .ref (gA G 152), .ref (gA G 153), .int 0, .int 0, .ref (gA G 154), .ref (gA G 155), .ref (gA G 156), .ref (gA G 157), .int 0, .int 0, .int 0]) := by rw [e64, va_up_ne _ _ (by omega)]; exact hc0
  have hc1 : cs64 147 = .inl (gY G 14, 10, .inl (fun _ => 0)) := by rw [e64, va_up_ne _ _ (by omega)]; exact hc1
  have hc2 : cs64 148 = .inl (gY G 14, 10, .inl (fun _ => 0)) := by rw [e64, va_up_ne _ _ (by omega)]; exact hc2
  have hc3 : cs64 149 = .inl (gY G 14, 10, .inl (fun _ => 0)) := by rw [e64, va_up_ne _ _ (by omega)]; exact hc3
  have hc4 : cs64 150 = .inl (gY G 14, 10, .inl (fun _ => 0)) := by rw [e64, va_up_ne _ _ (by omega)]; exact hc4
  have hc5 : cs64 151 = .inl (gY G 14, 10, .inl (fun _ => 0)) := by rw [e64, va_up_ne _ _ (by omega)]; exact hc5
  have hc6 : cs64 152 = refI G 22 152 4 := by rw [e64, va_up_ne _ _ (by omega)]; exact hc6
  have hc7 : cs64 153 = refI G 17 153 9 := by rw [e64, va_up_ne _ _ (by omega)]; exact hc7
  have hc8 : cs64 154 = .inl (gY G 14, 60, .inl (fun _ => 0)) := by rw [e64, va_up_ne _ _ (by omega)]; exact hc8
  have hc9 : cs64 155 = .inl (gY G 14, 60, .inl (fun _ => 0)) := by rw [e64, va_up_ne _ _ (by omega)]; exact hc9
  have hc10 : cs64 156 = .inl (gY G 14, 60, .inl (fun _ => 0)) := by rw [e64, va_up_ne _ _ (by omega)]; exact hc10
  have hc11 : cs64 157 = .inl (gY G 14, 60, .inl (fun _ => 0)) := by rw [e64, va_up_ne _ _ (by omega)]; exact hc11
  have hc46 : cs64 192 = .inr (2, [.int 0, .int 0, .int 0, .int 0, .int 0, .int 0, .int 0, .int 0, .int 0, .int 0, .null]) := by rw [e64]; exact va_up_self _ _ _
  have hr12 : ∀ n, 158 ≤ n → n < 192 → cs64 n = finY G n := fun n a b => by rw [e64, va_up_ne _ _ (by omega)]; exact hr12 n a b
  have hlo : ∀ n, n < 146 → cs64 n = cs n := fun n a => by rw [e64, va_up_ne _ _ (by omega)]; exact hlo n a
  clear e64
  refine ry_dup dX3_init_145 rfl ?_
  refine ry_callIN (As := []) (n := 192) (mc := 1) (ms := 10) (Kc G 192 2 _) (fun _ _ h => by have := h.1; omega) mw_X2_init rfl win_X2_init wm_X3_60 rfl ⟨show d + 1 + 1 ≤ d + 2 by omega, show 30 * (d + 1) + 30 ≤ 30 * (d + 2) by omega, by decide, by decide⟩ (Nat.le_of_ble_eq_true rfl) dX3_init_146 (cX2_init G d (show Is 192 2 by unfold Is; decide +kernel) hc46) (fun cs65 hK => ?_) rfl
  obtain ⟨-, hK1, hK2⟩ := hK
  have hc0 : cs65 146 = .inr (3, [.ref (gA G 8), .ref (gA G 10), .int 0, .int 0, .ref (gA G 147), .ref (gA G 148), .ref (gA G 149), .ref (gA G 150), .ref (gA G 151), .ref (gA G 152), .ref (gA G 153), .int 0, .int 0, .ref (gA G 154), .ref (gA G 155), .ref (gA G 156), .ref (gA G 157), .int 0, .int 0, .int 0]) := (hK1 _ (by omega)).trans hc0
  have hc1 : cs65 147 = .inl (gY G 14, 10, .inl (fun _ => 0)) := (hK1 _ (by omega)).trans hc1
  have hc2 : cs65 148 = .inl (gY G 14, 10, .inl (fun _ => 0)) := (hK1 _ (by omega)).trans hc2
  have hc3 : cs65 149 = .inl (gY G 14, 10, .inl (fun _ => 0)) := (hK1 _ (by omega)).trans hc3
  have hc4 : cs65 150 = .inl (gY G 14, 10, .inl (fun _ => 0)) := (hK1 _ (by omega)).trans hc4
  have hc5 : cs65 151 = .inl (gY G 14, 10, .inl (fun _ => 0)) := (hK1 _ (by omega)).trans hc5
  have hc6 : cs65 152 = refI G 22 152 4 := (hK1 _ (by omega)).trans hc6
  have hc7 : cs65 153 = refI G 17 153 9 := (hK1 _ (by omega)).trans hc7
  have hc8 : cs65 154 = .inl (gY G 14, 60, .inl (fun _ => 0)) := (hK1 _ (by omega)).trans hc8
  have hc9 : cs65 155 = .inl (gY G 14, 60, .inl (fun _ => 0)) := (hK1 _ (by omega)).trans hc9
  have hc10 : cs65 156 = .inl (gY G 14, 60, .inl (fun _ => 0)) := (hK1 _ (by omega)).trans hc10
  have hc11 : cs65 157 = .inl (gY G 14, 60, .inl (fun _ => 0)) := (hK1 _ (by omega)).trans hc11
  have hr12 : ∀ n, 158 ≤ n → n < 192 → cs65 n = finY G n := fun n a b => (hK1 n (by omega)).trans (hr12 n a b)
  have hlo : ∀ n, n < 146 → cs65 n = cs n := fun n a => (hK1 n (by omega)).trans (hlo n a)
  have hr12 : ∀ n, 158 ≤ n → n < 194 → cs65 n = finY G n := fun n a b => if h : n < 192 then hr12 n a h else hK2 n (by omega) (by omega)
  clear hK1 hK2
  refine ry_aast (κ := 17) (κ' := 2) (t0 := 4) (L := 30) (n := 153) (v := 192) (i := 9) (by omega) (by omega) rfl rfl hc7 (ln_at_3_7) ((hr12 192 (by omega) (by omega)).trans (fyE_2 (show Is 192 2 by unfold Is; decide +kernel))) (by decide) rfl (by decide +kernel) dX3_init_149 ?_
  refine ry_cs (fun cs66 e66 => ?_)
  have hc0 : cs66 146 = .inr (3, [.ref (gA G 8), .ref (gA G 10), .int 0, .int 0, .ref (gA G 147), .ref (gA G 148), .ref (gA G 149), .ref (gA G 150), .ref (gA G 151), .ref (gA G 152), .ref (gA G 153), .int 0, .int 0, .ref (gA G 154), .ref (gA G 155), .ref (gA G 156), .ref (gA G 157), .int 0, .int 0, .int 0]) := by rw [e66, va_up_ne _ _ (by omega)]; exact hc0
  have hc1 : cs66 147 = .inl (gY G 14, 10, .inl (fun _ => 0)) := by rw [e66, va_up_ne _ _ (by omega)]; exact hc1
  have hc2 : cs66 148 = .inl (gY G 14, 10, .inl (fun _ => 0)) := by rw [e66, va_up_ne _ _ (by omega)]; exact hc2
  have hc3 : cs66 149 = .inl (gY G 14, 10, .inl (fun _ => 0)) := by rw [e66, va_up_ne _ _ (by omega)]; exact hc3
  have hc4 : cs66 150 = .inl (gY G 14, 10, .inl (fun _ => 0)) := by rw [e66, va_up_ne _ _ (by omega)]; exact hc4
  have hc5 : cs66 151 = .inl (gY G 14, 10, .inl (fun _ => 0)) := by rw [e66, va_up_ne _ _ (by omega)]; exact hc5
  have hc6 : cs66 152 = refI G 22 152 4 := by rw [e66, va_up_ne _ _ (by omega)]; exact hc6
  have hc8 : cs66 154 = .inl (gY G 14, 60, .inl (fun _ => 0)) := by rw [e66, va_up_ne _ _ (by omega)]; exact hc8
  have hc9 : cs66 155 = .inl (gY G 14, 60, .inl (fun _ => 0)) := by rw [e66, va_up_ne _ _ (by omega)]; exact hc9
  have hc10 : cs66 156 = .inl (gY G 14, 60, .inl (fun _ => 0)) := by rw [e66, va_up_ne _ _ (by omega)]; exact hc10
  have hc11 : cs66 157 = .inl (gY G 14, 60, .inl (fun _ => 0)) := by rw [e66, va_up_ne _ _ (by omega)]; exact hc11
  have hc7 : cs66 153 = refI G 17 153 10 := by rw [e66]; exact va_up_self _ _ _
  have hr12 : ∀ n, 158 ≤ n → n < 194 → cs66 n = finY G n := fun n a b => by rw [e66, va_up_ne _ _ (by omega)]; exact hr12 n a b
  have hlo : ∀ n, n < 146 → cs66 n = cs n := fun n a => by rw [e66, va_up_ne _ _ (by omega)]; exact hlo n a
  clear e66
  refine ry_iinc 3 [(0, .ref (gA G 146)), (1, .ref (gA G 8)), (2, .ref (gA G 10)), (3, .int 10)] [1, 2, 3, 0] dX3_init_150 rfl rfl (by decide) rfl ?_
  refine ry_goto 131 dX3_init_153 (by decide) ?_
  refine ry_iload_n 3 dX3_init_131 rfl rfl ?_
  refine ry_bipush (v := 30) dX3_init_132 rfl ?_
  refine ry_icmp_ge 156 dX3_init_134 (by decide) (fun q => absurd q (by decide)) (fun _ => ?_)
  refine ry_aload_n 0 dX3_init_137 rfl rfl ?_
  refine ry_get fl_X3_35 (by omega) hc0 rfl dX3_init_138 ?_
  refine ry_iload_n 3 dX3_init_141 rfl rfl ?_
  refine ry_new (ci := 2) (fs := [.int 0, .int 0, .int 0, .int 0, .int 0, .int 0, .int 0, .int 0, .int 0, .int 0, .null]) tyX2 tyX2_ok rfl i_X2 wc_X3_33 wi_2 wn_2 bl_2 (by decide) (by decide) dX3_init_142 ?_
  refine ry_cs (fun cs67 e67 => ?_)
  have hc0 : cs67 146 = .inr (3, [.ref (gA G 8), .ref (gA G 10), .int 0, .int 0, .ref (gA G 147), .ref (gA G 148), .ref (gA G 149), .ref (gA G 150), .ref (gA G 151), .ref (gA G 152), .ref (gA G 153), .int 0, .int 0, .ref (gA G 154), .ref (gA G 155), .ref (gA G 156), .ref (gA G 157), .int 0, .int 0, .int 0]) := by rw [e67, va_up_ne _ _ (by omega)]; exact hc0
  have hc1 : cs67 147 = .inl (gY G 14, 10, .inl (fun _ => 0)) := by rw [e67, va_up_ne _ _ (by omega)]; exact hc1
  have hc2 : cs67 148 = .inl (gY G 14, 10, .inl (fun _ => 0)) := by rw [e67, va_up_ne _ _ (by omega)]; exact hc2
  have hc3 : cs67 149 = .inl (gY G 14, 10, .inl (fun _ => 0)) := by rw [e67, va_up_ne _ _ (by omega)]; exact hc3
  have hc4 : cs67 150 = .inl (gY G 14, 10, .inl (fun _ => 0)) := by rw [e67, va_up_ne _ _ (by omega)]; exact hc4
  have hc5 : cs67 151 = .inl (gY G 14, 10, .inl (fun _ => 0)) := by rw [e67, va_up_ne _ _ (by omega)]; exact hc5
  have hc6 : cs67 152 = refI G 22 152 4 := by rw [e67, va_up_ne _ _ (by omega)]; exact hc6
  have hc7 : cs67 153 = refI G 17 153 10 := by rw [e67, va_up_ne _ _ (by omega)]; exact hc7
  have hc8 : cs67 154 = .inl (gY G 14, 60, .inl (fun _ => 0)) := by rw [e67, va_up_ne _ _ (by omega)]; exact hc8
  have hc9 : cs67 155 = .inl (gY G 14, 60, .inl (fun _ => 0)) := by rw [e67, va_up_ne _ _ (by omega)]; exact hc9
  have hc10 : cs67 156 = .inl (gY G 14, 60, .inl (fun _ => 0)) := by rw [e67, va_up_ne _ _ (by omega)]; exact hc10
  have hc11 : cs67 157 = .inl (gY G 14, 60, .inl (fun _ => 0)) := by rw [e67, va_up_ne _ _ (by omega)]; exact hc11
  have hc48 : cs67 194 = .inr (2, [.int 0, .int 0, .int 0, .int 0, .int 0, .int 0, .int 0, .int 0, .int 0, .int 0, .null]) := by rw [e67]; exact va_up_self _ _ _
  have hr12 : ∀ n, 158 ≤ n → n < 194 → cs67 n = finY G n := fun n a b => by rw [e67, va_up_ne _ _ (by omega)]; exact hr12 n a b
  have hlo : ∀ n, n < 146 → cs67 n = cs n := fun n a => by rw [e67, va_up_ne _ _ (by omega)]; exact hlo n a
  clear e67
  refine ry_dup dX3_init_145 rfl ?_
  refine ry_callIN (As := []) (n := 194) (mc := 1) (ms := 10) (Kc G 194 2 _) (fun _ _ h => by have := h.1; omega) mw_X2_init rfl win_X2_init wm_X3_60 rfl ⟨show d + 1 + 1 ≤ d + 2 by omega, show 30 * (d + 1) + 30 ≤ 30 * (d + 2) by omega, by decide, by decide⟩ (Nat.le_of_ble_eq_true rfl) dX3_init_146 (cX2_init G d (show Is 194 2 by unfold Is; decide +kernel) hc48) (fun cs68 hK => ?_) rfl
  obtain ⟨-, hK1, hK2⟩ := hK
  have hc0 : cs68 146 = .inr (3, [.ref (gA G 8), .ref (gA G 10), .int 0, .int 0, .ref (gA G 147), .ref (gA G 148), .ref (gA G 149), .ref (gA G 150), .ref (gA G 151), .ref (gA G 152), .ref (gA G 153), .int 0, .int 0, .ref (gA G 154), .ref (gA G 155), .ref (gA G 156), .ref (gA G 157), .int 0, .int 0, .int 0]) := (hK1 _ (by omega)).trans hc0
  have hc1 : cs68 147 = .inl (gY G 14, 10, .inl (fun _ => 0)) := (hK1 _ (by omega)).trans hc1
  have hc2 : cs68 148 = .inl (gY G 14, 10, .inl (fun _ => 0)) := (hK1 _ (by omega)).trans hc2
  have hc3 : cs68 149 = .inl (gY G 14, 10, .inl (fun _ => 0)) := (hK1 _ (by omega)).trans hc3
  have hc4 : cs68 150 = .inl (gY G 14, 10, .inl (fun _ => 0)) := (hK1 _ (by omega)).trans hc4
  have hc5 : cs68 151 = .inl (gY G 14, 10, .inl (fun _ => 0)) := (hK1 _ (by omega)).trans hc5
  have hc6 : cs68 152 = refI G 22 152 4 := (hK1 _ (by omega)).trans hc6
  have hc7 : cs68 153 = refI G 17 153 10 := (hK1 _ (by omega)).trans hc7
  have hc8 : cs68 154 = .inl (gY G 14, 60, .inl (fun _ => 0)) := (hK1 _ (by omega)).trans hc8
  have hc9 : cs68 155 = .inl (gY G 14, 60, .inl (fun _ => 0)) := (hK1 _ (by omega)).trans hc9
  have hc10 : cs68 156 = .inl (gY G 14, 60, .inl (fun _ => 0)) := (hK1 _ (by omega)).trans hc10
  have hc11 : cs68 157 = .inl (gY G 14, 60, .inl (fun _ => 0)) := (hK1 _ (by omega)).trans hc11
  have hr12 : ∀ n, 158 ≤ n → n < 194 → cs68 n = finY G n := fun n a b => (hK1 n (by omega)).trans (hr12 n a b)
  have hlo : ∀ n, n < 146 → cs68 n = cs n := fun n a => (hK1 n (by omega)).trans (hlo n a)
  have hr12 : ∀ n, 158 ≤ n → n < 196 → cs68 n = finY G n := fun n a b => if h : n < 194 then hr12 n a h else hK2 n (by omega) (by omega)
  clear hK1 hK2
  refine ry_aast (κ := 17) (κ' := 2) (t0 := 4) (L := 30) (n := 153) (v := 194) (i := 10) (by omega) (by omega) rfl rfl hc7 (ln_at_3_7) ((hr12 194 (by omega) (by omega)).trans (fyE_2 (show Is 194 2 by unfold Is; decide +kernel))) (by decide) rfl (by decide +kernel) dX3_init_149 ?_
  refine ry_cs (fun cs69 e69 => ?_)
  have hc0 : cs69 146 = .inr (3, [.ref (gA G 8), .ref (gA G 10), .int 0, .int 0, .ref (gA G 147), .ref (gA G 148), .ref (gA G 149), .ref (gA G 150), .ref (gA G 151), .ref (gA G 152), .ref (gA G 153), .int 0, .int 0, .ref (gA G 154), .ref (gA G 155), .ref (gA G 156), .ref (gA G 157), .int 0, .int 0, .int 0]) := by rw [e69, va_up_ne _ _ (by omega)]; exact hc0
  have hc1 : cs69 147 = .inl (gY G 14, 10, .inl (fun _ => 0)) := by rw [e69, va_up_ne _ _ (by omega)]; exact hc1
  have hc2 : cs69 148 = .inl (gY G 14, 10, .inl (fun _ => 0)) := by rw [e69, va_up_ne _ _ (by omega)]; exact hc2
  have hc3 : cs69 149 = .inl (gY G 14, 10, .inl (fun _ => 0)) := by rw [e69, va_up_ne _ _ (by omega)]; exact hc3
  have hc4 : cs69 150 = .inl (gY G 14, 10, .inl (fun _ => 0)) := by rw [e69, va_up_ne _ _ (by omega)]; exact hc4
  have hc5 : cs69 151 = .inl (gY G 14, 10, .inl (fun _ => 0)) := by rw [e69, va_up_ne _ _ (by omega)]; exact hc5
  have hc6 : cs69 152 = refI G 22 152 4 := by rw [e69, va_up_ne _ _ (by omega)]; exact hc6
  have hc8 : cs69 154 = .inl (gY G 14, 60, .inl (fun _ => 0)) := by rw [e69, va_up_ne _ _ (by omega)]; exact hc8
  have hc9 : cs69 155 = .inl (gY G 14, 60, .inl (fun _ => 0)) := by rw [e69, va_up_ne _ _ (by omega)]; exact hc9
  have hc10 : cs69 156 = .inl (gY G 14, 60, .inl (fun _ => 0)) := by rw [e69, va_up_ne _ _ (by omega)]; exact hc10
  have hc11 : cs69 157 = .inl (gY G 14, 60, .inl (fun _ => 0)) := by rw [e69, va_up_ne _ _ (by omega)]; exact hc11
  have hc7 : cs69 153 = refI G 17 153 11 := by rw [e69]; exact va_up_self _ _ _
  have hr12 : ∀ n, 158 ≤ n → n < 196 → cs69 n = finY G n := fun n a b => by rw [e69, va_up_ne _ _ (by omega)]; exact hr12 n a b
  have hlo : ∀ n, n < 146 → cs69 n = cs n := fun n a => by rw [e69, va_up_ne _ _ (by omega)]; exact hlo n a
  clear e69
  refine ry_iinc 3 [(0, .ref (gA G 146)), (1, .ref (gA G 8)), (2, .ref (gA G 10)), (3, .int 11)] [1, 2, 3, 0] dX3_init_150 rfl rfl (by decide) rfl ?_
  refine ry_goto 131 dX3_init_153 (by decide) ?_
  refine ry_iload_n 3 dX3_init_131 rfl rfl ?_
  refine ry_bipush (v := 30) dX3_init_132 rfl ?_
  refine ry_icmp_ge 156 dX3_init_134 (by decide) (fun q => absurd q (by decide)) (fun _ => ?_)
  refine ry_aload_n 0 dX3_init_137 rfl rfl ?_
  refine ry_get fl_X3_35 (by omega) hc0 rfl dX3_init_138 ?_
  refine ry_iload_n 3 dX3_init_141 rfl rfl ?_
  refine ry_new (ci := 2) (fs := [.int 0, .int 0, .int 0, .int 0, .int 0, .int 0, .int 0, .int 0, .int 0, .int 0, .null]) tyX2 tyX2_ok rfl i_X2 wc_X3_33 wi_2 wn_2 bl_2 (by decide) (by decide) dX3_init_142 ?_
  refine ry_cs (fun cs70 e70 => ?_)
  have hc0 : cs70 146 = .inr (3, [.ref (gA G 8), .ref (gA G 10), .int 0, .int 0, .ref (gA G 147), .ref (gA G 148), .ref (gA G 149), .ref (gA G 150), .ref (gA G 151), .ref (gA G 152), .ref (gA G 153), .int 0, .int 0, .ref (gA G 154), .ref (gA G 155), .ref (gA G 156), .ref (gA G 157), .int 0, .int 0, .int 0]) := by rw [e70, va_up_ne _ _ (by omega)]; exact hc0
  have hc1 : cs70 147 = .inl (gY G 14, 10, .inl (fun _ => 0)) := by rw [e70, va_up_ne _ _ (by omega)]; exact hc1
  have hc2 : cs70 148 = .inl (gY G 14, 10, .inl (fun _ => 0)) := by rw [e70, va_up_ne _ _ (by omega)]; exact hc2
  have hc3 : cs70 149 = .inl (gY G 14, 10, .inl (fun _ => 0)) := by rw [e70, va_up_ne _ _ (by omega)]; exact hc3
  have hc4 : cs70 150 = .inl (gY G 14, 10, .inl (fun _ => 0)) := by rw [e70, va_up_ne _ _ (by omega)]; exact hc4
  have hc5 : cs70 151 = .inl (gY G 14, 10, .inl (fun _ => 0)) := by rw [e70, va_up_ne _ _ (by omega)]; exact hc5
  have hc6 : cs70 152 = refI G 22 152 4 := by rw [e70, va_up_ne _ _ (by omega)]; exact hc6
  have hc7 : cs70 153 = refI G 17 153 11 := by rw [e70, va_up_ne _ _ (by omega)]; exact hc7
  have hc8 : cs70 154 = .inl (gY G 14, 60, .inl (fun _ => 0)) := by rw [e70, va_up_ne _ _ (by omega)]; exact hc8
  have hc9 : cs70 155 = .inl (gY G 14, 60, .inl (fun _ => 0)) := by rw [e70, va_up_ne _ _ (by omega)]; exact hc9
  have hc10 : cs70 156 = .inl (gY G 14, 60, .inl (fun _ => 0)) := by rw [e70, va_up_ne _ _ (by omega)]; exact hc10
  have hc11 : cs70 157 = .inl (gY G 14, 60, .inl (fun _ => 0)) := by rw [e70, va_up_ne _ _ (by omega)]; exact hc11
  have hc50 : cs70 196 = .inr (2, [.int 0, .int 0, .int 0, .int 0, .int 0, .int 0, .int 0, .int 0, .int 0, .int 0, .null]) := by rw [e70]; exact va_up_self _ _ _
  have hr12 : ∀ n, 158 ≤ n → n < 196 → cs70 n = finY G n := fun n a b => by rw [e70, va_up_ne _ _ (by omega)]; exact hr12 n a b
  have hlo : ∀ n, n < 146 → cs70 n = cs n := fun n a => by rw [e70, va_up_ne _ _ (by omega)]; exact hlo n a
  clear e70
  refine ry_dup dX3_init_145 rfl ?_
  refine ry_callIN (As := []) (n := 196) (mc := 1) (ms := 10) (Kc G 196 2 _) (fun _ _ h => by have := h.1; omega) mw_X2_init rfl win_X2_init wm_X3_60 rfl ⟨show d + 1 + 1 ≤ d + 2 by omega, show 30 * (d + 1) + 30 ≤ 30 * (d + 2) by omega, by decide, by decide⟩ (Nat.le_of_ble_eq_true rfl) dX3_init_146 (cX2_init G d (show Is 196 2 by unfold Is; decide +kernel) hc50) (fun cs71 hK => ?_) rfl
  obtain ⟨-, hK1, hK2⟩ := hK
  have hc0 : cs71 146 = .inr (3, [.ref (gA G 8), .ref (gA G 10), .int 0, .int 0, .ref (gA G 147), .ref (gA G 148), .ref (gA G 149), .ref (gA G 150), .ref (gA G 151), .ref (gA G 152), .ref (gA G 153), .int 0, .int 0, .ref (gA G 154), .ref (gA G 155), .ref (gA G 156), .ref (gA G 157), .int 0, .int 0, .int 0]) := (hK1 _ (by omega)).trans hc0
  have hc1 : cs71 147 = .inl (gY G 14, 10, .inl (fun _ => 0)) := (hK1 _ (by omega)).trans hc1
  have hc2 : cs71 148 = .inl (gY G 14, 10, .inl (fun _ => 0)) := (hK1 _ (by omega)).trans hc2
  have hc3 : cs71 149 = .inl (gY G 14, 10, .inl (fun _ => 0)) := (hK1 _ (by omega)).trans hc3
  have hc4 : cs71 150 = .inl (gY G 14, 10, .inl (fun _ => 0)) := (hK1 _ (by omega)).trans hc4
  have hc5 : cs71 151 = .inl (gY G 14, 10, .inl (fun _ => 0)) := (hK1 _ (by omega)).trans hc5
  have hc6 : cs71 152 = refI G 22 152 4 := (hK1 _ (by omega)).trans hc6
  have hc7 : cs71 153 = refI G 17 153 11 := (hK1 _ (by omega)).trans hc7
  have hc8 : cs71 154 = .inl (gY G 14, 60, .inl (fun _ => 0)) := (hK1 _ (by omega)).trans hc8
  have hc9 : cs71 155 = .inl (gY G 14, 60, .inl (fun _ => 0)) := (hK1 _ (by omega)).trans hc9
  have hc10 : cs71 156 = .inl (gY G 14, 60, .inl (fun _ => 0)) := (hK1 _ (by omega)).trans hc10
  have hc11 : cs71 157 = .inl (gY G 14, 60, .inl (fun _ => 0)) := (hK1 _ (by omega)).trans hc11
  have hr12 : ∀ n, 158 ≤ n → n < 196 → cs71 n = finY G n := fun n a b => (hK1 n (by omega)).trans (hr12 n a b)
  have hlo : ∀ n, n < 146 → cs71 n = cs n := fun n a => (hK1 n (by omega)).trans (hlo n a)
  have hr12 : ∀ n, 158 ≤ n → n < 198 → cs71 n = finY G n := fun n a b => if h : n < 196 then hr12 n a h else hK2 n (by omega) (by omega)
  clear hK1 hK2
  refine ry_aast (κ := 17) (κ' := 2) (t0 := 4) (L := 30) (n := 153) (v := 196) (i := 11) (by omega) (by omega) rfl rfl hc7 (ln_at_3_7) ((hr12 196 (by omega) (by omega)).trans (fyE_2 (show Is 196 2 by unfold Is; decide +kernel))) (by decide) rfl (by decide +kernel) dX3_init_149 ?_
  refine ry_cs (fun cs72 e72 => ?_)
  have hc0 : cs72 146 = .inr (3, [.ref (gA G 8), .ref (gA G 10), .int 0, .int 0, .ref (gA G 147), .ref (gA G 148), .ref (gA G 149), .ref (gA G 150), .ref (gA G 151), .ref (gA G 152), .ref (gA G 153), .int 0, .int 0, .ref (gA G 154), .ref (gA G 155), .ref (gA G 156), .ref (gA G 157), .int 0, .int 0, .int 0]) := by rw [e72, va_up_ne _ _ (by omega)]; exact hc0
  have hc1 : cs72 147 = .inl (gY G 14, 10, .inl (fun _ => 0)) := by rw [e72, va_up_ne _ _ (by omega)]; exact hc1
  have hc2 : cs72 148 = .inl (gY G 14, 10, .inl (fun _ => 0)) := by rw [e72, va_up_ne _ _ (by omega)]; exact hc2
  have hc3 : cs72 149 = .inl (gY G 14, 10, .inl (fun _ => 0)) := by rw [e72, va_up_ne _ _ (by omega)]; exact hc3
  have hc4 : cs72 150 = .inl (gY G 14, 10, .inl (fun _ => 0)) := by rw [e72, va_up_ne _ _ (by omega)]; exact hc4
  have hc5 : cs72 151 = .inl (gY G 14, 10, .inl (fun _ => 0)) := by rw [e72, va_up_ne _ _ (by omega)]; exact hc5
  have hc6 : cs72 152 = refI G 22 152 4 := by rw [e72, va_up_ne _ _ (by omega)]; exact hc6
  have hc8 : cs72 154 = .inl (gY G 14, 60, .inl (fun _ => 0)) := by rw [e72, va_up_ne _ _ (by omega)]; exact hc8
  have hc9 : cs72 155 = .inl (gY G 14, 60, .inl (fun _ => 0)) := by rw [e72, va_up_ne _ _ (by omega)]; exact hc9
  have hc10 : cs72 156 = .inl (gY G 14, 60, .inl (fun _ => 0)) := by rw [e72, va_up_ne _ _ (by omega)]; exact hc10
  have hc11 : cs72 157 = .inl (gY G 14, 60, .inl (fun _ => 0)) := by rw [e72, va_up_ne _ _ (by omega)]; exact hc11
  have hc7 : cs72 153 = refI G 17 153 12 := by rw [e72]; exact va_up_self _ _ _
  have hr12 : ∀ n, 158 ≤ n → n < 198 → cs72 n = finY G n := fun n a b => by rw [e72, va_up_ne _ _ (by omega)]; exact hr12 n a b
  have hlo : ∀ n, n < 146 → cs72 n = cs n := fun n a => by rw [e72, va_up_ne _ _ (by omega)]; exact hlo n a
  clear e72
  refine ry_iinc 3 [(0, .ref (gA G 146)), (1, .ref (gA G 8)), (2, .ref (gA G 10)), (3, .int 12)] [1, 2, 3, 0] dX3_init_150 rfl rfl (by decide) rfl ?_
  refine ry_goto 131 dX3_init_153 (by decide) ?_
  refine ry_iload_n 3 dX3_init_131 rfl rfl ?_
  refine ry_bipush (v := 30) dX3_init_132 rfl ?_
  refine ry_icmp_ge 156 dX3_init_134 (by decide) (fun q => absurd q (by decide)) (fun _ => ?_)
  refine ry_aload_n 0 dX3_init_137 rfl rfl ?_
  refine ry_get fl_X3_35 (by omega) hc0 rfl dX3_init_138 ?_
  refine ry_iload_n 3 dX3_init_141 rfl rfl ?_
  refine ry_new (ci := 2) (fs := [.int 0, .int 0, .int 0, .int 0, .int 0, .int 0, .int 0, .int 0, .int 0, .int 0, .null]) tyX2 tyX2_ok rfl i_X2 wc_X3_33 wi_2 wn_2 bl_2 (by decide) (by decide) dX3_init_142 ?_
  refine ry_cs (fun cs73 e73 => ?_)
  have hc0 : cs73 146 = .inr (3, [.ref (gA G 8), .ref (gA G 10), .int 0, .int 0, .ref (gA G 147), .ref (gA G 148), .ref (gA G 149), .ref (gA G 150), .ref (gA G 151), .ref (gA G 152), .ref (gA G 153), .int 0, .int 0, .ref (gA G 154), .ref (gA G 155), .ref (gA G 156), .ref (gA G 157), .int 0, .int 0, .int 0]) := by rw [e73, va_up_ne _ _ (by omega)]; exact hc0
  have hc1 : cs73 147 = .inl (gY G 14, 10, .inl (fun _ => 0)) := by rw [e73, va_up_ne _ _ (by omega)]; exact hc1
  have hc2 : cs73 148 = .inl (gY G 14, 10, .inl (fun _ => 0)) := by rw [e73, va_up_ne _ _ (by omega)]; exact hc2
  have hc3 : cs73 149 = .inl (gY G 14, 10, .inl (fun _ => 0)) := by rw [e73, va_up_ne _ _ (by omega)]; exact hc3
  have hc4 : cs73 150 = .inl (gY G 14, 10, .inl (fun _ => 0)) := by rw [e73, va_up_ne _ _ (by omega)]; exact hc4
  have hc5 : cs73 151 = .inl (gY G 14, 10, .inl (fun _ => 0)) := by rw [e73, va_up_ne _ _ (by omega)]; exact hc5
  have hc6 : cs73 152 = refI G 22 152 4 := by rw [e73, va_up_ne _ _ (by omega)]; exact hc6
  have hc7 : cs73 153 = refI G 17 153 12 := by rw [e73, va_up_ne _ _ (by omega)]; exact hc7
  have hc8 : cs73 154 = .inl (gY G 14, 60, .inl (fun _ => 0)) := by rw [e73, va_up_ne _ _ (by omega)]; exact hc8
  have hc9 : cs73 155 = .inl (gY G 14, 60, .inl (fun _ => 0)) := by rw [e73, va_up_ne _ _ (by omega)]; exact hc9
  have hc10 : cs73 156 = .inl (gY G 14, 60, .inl (fun _ => 0)) := by rw [e73, va_up_ne _ _ (by omega)]; exact hc10
  have hc11 : cs73 157 = .inl (gY G 14, 60, .inl (fun _ => 0)) := by rw [e73, va_up_ne _ _ (by omega)]; exact hc11
  have hc52 : cs73 198 = .inr (2, [.int 0, .int 0, .int 0, .int 0, .int 0, .int 0, .int 0, .int 0, .int 0, .int 0, .null]) := by rw [e73]; exact va_up_self _ _ _
  have hr12 : ∀ n, 158 ≤ n → n < 198 → cs73 n = finY G n := fun n a b => by rw [e73, va_up_ne _ _ (by omega)]; exact hr12 n a b
  have hlo : ∀ n, n < 146 → cs73 n = cs n := fun n a => by rw [e73, va_up_ne _ _ (by omega)]; exact hlo n a
  clear e73
  refine ry_dup dX3_init_145 rfl ?_
  refine ry_callIN (As := []) (n := 198) (mc := 1) (ms := 10) (Kc G 198 2 _) (fun _ _ h => by have := h.1; omega) mw_X2_init rfl win_X2_init wm_X3_60 rfl ⟨show d + 1 + 1 ≤ d + 2 by omega, show 30 * (d + 1) + 30 ≤ 30 * (d + 2) by omega, by decide, by decide⟩ (Nat.le_of_ble_eq_true rfl) dX3_init_146 (cX2_init G d (show Is 198 2 by unfold Is; decide +kernel) hc52) (fun cs74 hK => ?_) rfl
  obtain ⟨-, hK1, hK2⟩ := hK
  have hc0 : cs74 146 = .inr (3, [.ref (gA G 8), .ref (gA G 10), .int 0, .int 0, .ref (gA G 147), .ref (gA G 148), .ref (gA G 149), .ref (gA G 150), .ref (gA G 151), .ref (gA G 152), .ref (gA G 153), .int 0, .int 0, .ref (gA G 154), .ref (gA G 155), .ref (gA G 156), .ref (gA G 157), .int 0, .int 0, .int 0]) := (hK1 _ (by omega)).trans hc0
  have hc1 : cs74 147 = .inl (gY G 14, 10, .inl (fun _ => 0)) := (hK1 _ (by omega)).trans hc1
  have hc2 : cs74 148 = .inl (gY G 14, 10, .inl (fun _ => 0)) := (hK1 _ (by omega)).trans hc2
  have hc3 : cs74 149 = .inl (gY G 14, 10, .inl (fun _ => 0)) := (hK1 _ (by omega)).trans hc3
  have hc4 : cs74 150 = .inl (gY G 14, 10, .inl (fun _ => 0)) := (hK1 _ (by omega)).trans hc4
  have hc5 : cs74 151 = .inl (gY G 14, 10, .inl (fun _ => 0)) := (hK1 _ (by omega)).trans hc5
  have hc6 : cs74 152 = refI G 22 152 4 := (hK1 _ (by omega)).trans hc6
  have hc7 : cs74 153 = refI G 17 153 12 := (hK1 _ (by omega)).trans hc7
  have hc8 : cs74 154 = .inl (gY G 14, 60, .inl (fun _ => 0)) := (hK1 _ (by omega)).trans hc8
  have hc9 : cs74 155 = .inl (gY G 14, 60, .inl (fun _ => 0)) := (hK1 _ (by omega)).trans hc9
  have hc10 : cs74 156 = .inl (gY G 14, 60, .inl (fun _ => 0)) := (hK1 _ (by omega)).trans hc10
  have hc11 : cs74 157 = .inl (gY G 14, 60, .inl (fun _ => 0)) := (hK1 _ (by omega)).trans hc11
  have hr12 : ∀ n, 158 ≤ n → n < 198 → cs74 n = finY G n := fun n a b => (hK1 n (by omega)).trans (hr12 n a b)
  have hlo : ∀ n, n < 146 → cs74 n = cs n := fun n a => (hK1 n (by omega)).trans (hlo n a)
  have hr12 : ∀ n, 158 ≤ n → n < 200 → cs74 n = finY G n := fun n a b => if h : n < 198 then hr12 n a h else hK2 n (by omega) (by omega)
  clear hK1 hK2
  refine ry_aast (κ := 17) (κ' := 2) (t0 := 4) (L := 30) (n := 153) (v := 198) (i := 12) (by omega) (by omega) rfl rfl hc7 (ln_at_3_7) ((hr12 198 (by omega) (by omega)).trans (fyE_2 (show Is 198 2 by unfold Is; decide +kernel))) (by decide) rfl (by decide +kernel) dX3_init_149 ?_
  refine ry_cs (fun cs75 e75 => ?_)
  have hc0 : cs75 146 = .inr (3, [.ref (gA G 8), .ref (gA G 10), .int 0, .int 0, .ref (gA G 147), .ref (gA G 148), .ref (gA G 149), .ref (gA G 150), .ref (gA G 151), .ref (gA G 152), .ref (gA G 153), .int 0, .int 0, .ref (gA G 154), .ref (gA G 155), .ref (gA G 156), .ref (gA G 157), .int 0, .int 0, .int 0]) := by rw [e75, va_up_ne _ _ (by omega)]; exact hc0
  have hc1 : cs75 147 = .inl (gY G 14, 10, .inl (fun _ => 0)) := by rw [e75, va_up_ne _ _ (by omega)]; exact hc1
  have hc2 : cs75 148 = .inl (gY G 14, 10, .inl (fun _ => 0)) := by rw [e75, va_up_ne _ _ (by omega)]; exact hc2
  have hc3 : cs75 149 = .inl (gY G 14, 10, .inl (fun _ => 0)) := by rw [e75, va_up_ne _ _ (by omega)]; exact hc3
  have hc4 : cs75 150 = .inl (gY G 14, 10, .inl (fun _ => 0)) := by rw [e75, va_up_ne _ _ (by omega)]; exact hc4
  have hc5 : cs75 151 = .inl (gY G 14, 10, .inl (fun _ => 0)) := by rw [e75, va_up_ne _ _ (by omega)]; exact hc5
  have hc6 : cs75 152 = refI G 22 152 4 := by rw [e75, va_up_ne _ _ (by omega)]; exact hc6
  have hc8 : cs75 154 = .inl (gY G 14, 60, .inl (fun _ => 0)) := by rw [e75, va_up_ne _ _ (by omega)]; exact hc8
  have hc9 : cs75 155 = .inl (gY G 14, 60, .inl (fun _ => 0)) := by rw [e75, va_up_ne _ _ (by omega)]; exact hc9
  have hc10 : cs75 156 = .inl (gY G 14, 60, .inl (fun _ => 0)) := by rw [e75, va_up_ne _ _ (by omega)]; exact hc10
  have hc11 : cs75 157 = .inl (gY G 14, 60, .inl (fun _ => 0)) := by rw [e75, va_up_ne _ _ (by omega)]; exact hc11
  have hc7 : cs75 153 = refI G 17 153 13 := by rw [e75]; exact va_up_self _ _ _
  have hr12 : ∀ n, 158 ≤ n → n < 200 → cs75 n = finY G n := fun n a b => by rw [e75, va_up_ne _ _ (by omega)]; exact hr12 n a b
  have hlo : ∀ n, n < 146 → cs75 n = cs n := fun n a => by rw [e75, va_up_ne _ _ (by omega)]; exact hlo n a
  clear e75
  refine ry_iinc 3 [(0, .ref (gA G 146)), (1, .ref (gA G 8)), (2, .ref (gA G 10)), (3, .int 13)] [1, 2, 3, 0] dX3_init_150 rfl rfl (by decide) rfl ?_
  refine ry_goto 131 dX3_init_153 (by decide) ?_
  refine ry_iload_n 3 dX3_init_131 rfl rfl ?_
  refine ry_bipush (v := 30) dX3_init_132 rfl ?_
  refine ry_icmp_ge 156 dX3_init_134 (by decide) (fun q => absurd q (by decide)) (fun _ => ?_)
  refine ry_aload_n 0 dX3_init_137 rfl rfl ?_
  refine ry_get fl_X3_35 (by omega) hc0 rfl dX3_init_138 ?_
  refine ry_iload_n 3 dX3_init_141 rfl rfl ?_
  refine ry_new (ci := 2) (fs := [.int 0, .int 0, .int 0, .int 0, .int 0, .int 0, .int 0, .int 0, .int 0, .int 0, .null]) tyX2 tyX2_ok rfl i_X2 wc_X3_33 wi_2 wn_2 bl_2 (by decide) (by decide) dX3_init_142 ?_
  refine ry_cs (fun cs76 e76 => ?_)
  have hc0 : cs76 146 = .inr (3, [.ref (gA G 8), .ref (gA G 10), .int 0, .int 0, .ref (gA G 147), .ref (gA G 148), .ref (gA G 149), .ref (gA G 150), .ref (gA G 151), .ref (gA G 152), .ref (gA G 153), .int 0, .int 0, .ref (gA G 154), .ref (gA G 155), .ref (gA G 156), .ref (gA G 157), .int 0, .int 0, .int 0]) := by rw [e76, va_up_ne _ _ (by omega)]; exact hc0
  have hc1 : cs76 147 = .inl (gY G 14, 10, .inl (fun _ => 0)) := by rw [e76, va_up_ne _ _ (by omega)]; exact hc1
  have hc2 : cs76 148 = .inl (gY G 14, 10, .inl (fun _ => 0)) := by rw [e76, va_up_ne _ _ (by omega)]; exact hc2
  have hc3 : cs76 149 = .inl (gY G 14, 10, .inl (fun _ => 0)) := by rw [e76, va_up_ne _ _ (by omega)]; exact hc3
  have hc4 : cs76 150 = .inl (gY G 14, 10, .inl (fun _ => 0)) := by rw [e76, va_up_ne _ _ (by omega)]; exact hc4
  have hc5 : cs76 151 = .inl (gY G 14, 10, .inl (fun _ => 0)) := by rw [e76, va_up_ne _ _ (by omega)]; exact hc5
  have hc6 : cs76 152 = refI G 22 152 4 := by rw [e76, va_up_ne _ _ (by omega)]; exact hc6
  have hc7 : cs76 153 = refI G 17 153 13 := by rw [e76, va_up_ne _ _ (by omega)]; exact hc7
  have hc8 : cs76 154 = .inl (gY G 14, 60, .inl (fun _ => 0)) := by rw [e76, va_up_ne _ _ (by omega)]; exact hc8
  have hc9 : cs76 155 = .inl (gY G 14, 60, .inl (fun _ => 0)) := by rw [e76, va_up_ne _ _ (by omega)]; exact hc9
  have hc10 : cs76 156 = .inl (gY G 14, 60, .inl (fun _ => 0)) := by rw [e76, va_up_ne _ _ (by omega)]; exact hc10
  have hc11 : cs76 157 = .inl (gY G 14, 60, .inl (fun _ => 0)) := by rw [e76, va_up_ne _ _ (by omega)]; exact hc11
  have hc54 : cs76 200 = .inr (2, [.int 0, .int 0, .int 0, .int 0, .int 0, .int 0, .int 0, .int 0, .int 0, .int 0, .null]) := by rw [e76]; exact va_up_self _ _ _
  have hr12 : ∀ n, 158 ≤ n → n < 200 → cs76 n = finY G n := fun n a b => by rw [e76, va_up_ne _ _ (by omega)]; exact hr12 n a b
  have hlo : ∀ n, n < 146 → cs76 n = cs n := fun n a => by rw [e76, va_up_ne _ _ (by omega)]; exact hlo n a
  clear e76
  refine ry_dup dX3_init_145 rfl ?_
  refine ry_callIN (As := []) (n := 200) (mc := 1) (ms := 10) (Kc G 200 2 _) (fun _ _ h => by have := h.1; omega) mw_X2_init rfl win_X2_init wm_X3_60 rfl ⟨show d + 1 + 1 ≤ d + 2 by omega, show 30 * (d + 1) + 30 ≤ 30 * (d + 2) by omega, by decide, by decide⟩ (Nat.le_of_ble_eq_true rfl) dX3_init_146 (cX2_init G d (show Is 200 2 by unfold Is; decide +kernel) hc54) (fun cs77 hK => ?_) rfl
  obtain ⟨-, hK1, hK2⟩ := hK
  have hc0 : cs77 146 = .inr (3, [.ref (gA G 8), .ref (gA G 10), .int 0, .int 0, .ref (gA G 147), .ref (gA G 148), .ref (gA G 149), .ref (gA G 150), .ref (gA G 151), .ref (gA G 152), .ref (gA G 153), .int 0, .int 0, .ref (gA G 154), .ref (gA G 155), .ref (gA G 156), .ref (gA G 157), .int 0, .int 0, .int 0]) := (hK1 _ (by omega)).trans hc0
  have hc1 : cs77 147 = .inl (gY G 14, 10, .inl (fun _ => 0)) := (hK1 _ (by omega)).trans hc1
  have hc2 : cs77 148 = .inl (gY G 14, 10, .inl (fun _ => 0)) := (hK1 _ (by omega)).trans hc2
  have hc3 : cs77 149 = .inl (gY G 14, 10, .inl (fun _ => 0)) := (hK1 _ (by omega)).trans hc3
  have hc4 : cs77 150 = .inl (gY G 14, 10, .inl (fun _ => 0)) := (hK1 _ (by omega)).trans hc4
  have hc5 : cs77 151 = .inl (gY G 14, 10, .inl (fun _ => 0)) := (hK1 _ (by omega)).trans hc5
  have hc6 : cs77 152 = refI G 22 152 4 := (hK1 _ (by omega)).trans hc6
  have hc7 : cs77 153 = refI G 17 153 13 := (hK1 _ (by omega)).trans hc7
  have hc8 : cs77 154 = .inl (gY G 14, 60, .inl (fun _ => 0)) := (hK1 _ (by omega)).trans hc8
  have hc9 : cs77 155 = .inl (gY G 14, 60, .inl (fun _ => 0)) := (hK1 _ (by omega)).trans hc9
  have hc10 : cs77 156 = .inl (gY G 14, 60, .inl (fun _ => 0)) := (hK1 _ (by omega)).trans hc10
  have hc11 : cs77 157 = .inl (gY G 14, 60, .inl (fun _ => 0)) := (hK1 _ (by omega)).trans hc11
  have hr12 : ∀ n, 158 ≤ n → n < 200 → cs77 n = finY G n := fun n a b => (hK1 n (by omega)).trans (hr12 n a b)
  have hlo : ∀ n, n < 146 → cs77 n = cs n := fun n a => (hK1 n (by omega)).trans (hlo n a)
  have hr12 : ∀ n, 158 ≤ n → n < 202 → cs77 n = finY G n := fun n a b => if h : n < 200 then hr12 n a h else hK2 n (by omega) (by omega)
  clear hK1 hK2
  refine ry_aast (κ := 17) (κ' := 2) (t0 := 4) (L := 30) (n := 153) (v := 200) (i := 13) (by omega) (by omega) rfl rfl hc7 (ln_at_3_7) ((hr12 200 (by omega) (by omega)).trans (fyE_2 (show Is 200 2 by unfold Is; decide +kernel))) (by decide) rfl (by decide +kernel) dX3_init_149 ?_
  refine ry_cs (fun cs78 e78 => ?_)
  have hc0 : cs78 146 = .inr (3, [.ref (gA G 8), .ref (gA G 10), .int 0, .int 0, .ref (gA G 147), .ref (gA G 148), .ref (gA G 149), .ref (gA G 150), .ref (gA G 151), .ref (gA G 152), .ref (gA G 153), .int 0, .int 0, .ref (gA G 154), .ref (gA G 155), .ref (gA G 156), .ref (gA G 157), .int 0, .int 0, .int 0]) := by rw [e78, va_up_ne _ _ (by omega)]; exact hc0
  have hc1 : cs78 147 = .inl (gY G 14, 10, .inl (fun _ => 0)) := by rw [e78, va_up_ne _ _ (by omega)]; exact hc1
  have hc2 : cs78 148 = .inl (gY G 14, 10, .inl (fun _ => 0)) := by rw [e78, va_up_ne _ _ (by omega)]; exact hc2
  have hc3 : cs78 149 = .inl (gY G 14, 10, .inl (fun _ => 0)) := by rw [e78, va_up_ne _ _ (by omega)]; exact hc3
  have hc4 : cs78 150 = .inl (gY G 14, 10, .inl (fun _ => 0)) := by rw [e78, va_up_ne _ _ (by omega)]; exact hc4
  have hc5 : cs78 151 = .inl (gY G 14, 10, .inl (fun _ => 0)) := by rw [e78, va_up_ne _ _ (by omega)]; exact hc5
  have hc6 : cs78 152 = refI G 22 152 4 := by rw [e78, va_up_ne _ _ (by omega)]; exact hc6
  have hc8 : cs78 154 = .inl (gY G 14, 60, .inl (fun _ => 0)) := by rw [e78, va_up_ne _ _ (by omega)]; exact hc8
  have hc9 : cs78 155 = .inl (gY G 14, 60, .inl (fun _ => 0)) := by rw [e78, va_up_ne _ _ (by omega)]; exact hc9
  have hc10 : cs78 156 = .inl (gY G 14, 60, .inl (fun _ => 0)) := by rw [e78, va_up_ne _ _ (by omega)]; exact hc10
  have hc11 : cs78 157 = .inl (gY G 14, 60, .inl (fun _ => 0)) := by rw [e78, va_up_ne _ _ (by omega)]; exact hc11
  have hc7 : cs78 153 = refI G 17 153 14 := by rw [e78]; exact va_up_self _ _ _
  have hr12 : ∀ n, 158 ≤ n → n < 202 → cs78 n = finY G n := fun n a b => by rw [e78, va_up_ne _ _ (by omega)]; exact hr12 n a b
  have hlo : ∀ n, n < 146 → cs78 n = cs n := fun n a => by rw [e78, va_up_ne _ _ (by omega)]; exact hlo n a
  clear e78
  refine ry_iinc 3 [(0, .ref (gA G 146)), (1, .ref (gA G 8)), (2, .ref (gA G 10)), (3, .int 14)] [1, 2, 3, 0] dX3_init_150 rfl rfl (by decide) rfl ?_
  refine ry_goto 131 dX3_init_153 (by decide) ?_
  refine ry_iload_n 3 dX3_init_131 rfl rfl ?_
  refine ry_bipush (v := 30) dX3_init_132 rfl ?_
  refine ry_icmp_ge 156 dX3_init_134 (by decide) (fun q => absurd q (by decide)) (fun _ => ?_)
  refine ry_aload_n 0 dX3_init_137 rfl rfl ?_
  refine ry_get fl_X3_35 (by omega) hc0 rfl dX3_init_138 ?_
  refine ry_iload_n 3 dX3_init_141 rfl rfl ?_
  refine ry_new (ci := 2) (fs := [.int 0, .int 0, .int 0, .int 0, .int 0, .int 0, .int 0, .int 0, .int 0, .int 0, .null]) tyX2 tyX2_ok rfl i_X2 wc_X3_33 wi_2 wn_2 bl_2 (by decide) (by decide) dX3_init_142 ?_
  refine ry_cs (fun cs79 e79 => ?_)
  have hc0 : cs79 146 = .inr (3, [.ref (gA G 8), .ref (gA G 10), .int 0, .int 0, .ref (gA G 147), .ref (gA G 148), .ref (gA G 149), .ref (gA G 150), .ref (gA G 151), .ref (gA G 152), .ref (gA G 153), .int 0, .int 0, .ref (gA G 154), .ref (gA G 155), .ref (gA G 156), .ref (gA G 157), .int 0, .int 0, .int 0]) := by rw [e79, va_up_ne _ _ (by omega)]; exact hc0
  have hc1 : cs79 147 = .inl (gY G 14, 10, .inl (fun _ => 0)) := by rw [e79, va_up_ne _ _ (by omega)]; exact hc1
  have hc2 : cs79 148 = .inl (gY G 14, 10, .inl (fun _ => 0)) := by rw [e79, va_up_ne _ _ (by omega)]; exact hc2
  have hc3 : cs79 149 = .inl (gY G 14, 10, .inl (fun _ => 0)) := by rw [e79, va_up_ne _ _ (by omega)]; exact hc3
  have hc4 : cs79 150 = .inl (gY G 14, 10, .inl (fun _ => 0)) := by rw [e79, va_up_ne _ _ (by omega)]; exact hc4
  have hc5 : cs79 151 = .inl (gY G 14, 10, .inl (fun _ => 0)) := by rw [e79, va_up_ne _ _ (by omega)]; exact hc5
  have hc6 : cs79 152 = refI G 22 152 4 := by rw [e79, va_up_ne _ _ (by omega)]; exact hc6
  have hc7 : cs79 153 = refI G 17 153 14 := by rw [e79, va_up_ne _ _ (by omega)]; exact hc7
  have hc8 : cs79 154 = .inl (gY G 14, 60, .inl (fun _ => 0)) := by rw [e79, va_up_ne _ _ (by omega)]; exact hc8
  have hc9 : cs79 155 = .inl (gY G 14, 60, .inl (fun _ => 0)) := by rw [e79, va_up_ne _ _ (by omega)]; exact hc9
  have hc10 : cs79 156 = .inl (gY G 14, 60, .inl (fun _ => 0)) := by rw [e79, va_up_ne _ _ (by omega)]; exact hc10
  have hc11 : cs79 157 = .inl (gY G 14, 60, .inl (fun _ => 0)) := by rw [e79, va_up_ne _ _ (by omega)]; exact hc11
  have hc56 : cs79 202 = .inr (2, [.int 0, .int 0, .int 0, .int 0, .int 0, .int 0, .int 0, .int 0, .int 0, .int 0, .null]) := by rw [e79]; exact va_up_self _ _ _
  have hr12 : ∀ n, 158 ≤ n → n < 202 → cs79 n = finY G n := fun n a b => by rw [e79, va_up_ne _ _ (by omega)]; exact hr12 n a b
  have hlo : ∀ n, n < 146 → cs79 n = cs n := fun n a => by rw [e79, va_up_ne _ _ (by omega)]; exact hlo n a
  clear e79
  refine ry_dup dX3_init_145 rfl ?_
  refine ry_callIN (As := []) (n := 202) (mc := 1) (ms := 10) (Kc G 202 2 _) (fun _ _ h => by have := h.1; omega) mw_X2_init rfl win_X2_init wm_X3_60 rfl ⟨show d + 1 + 1 ≤ d + 2 by omega, show 30 * (d + 1) + 30 ≤ 30 * (d + 2) by omega, by decide, by decide⟩ (Nat.le_of_ble_eq_true rfl) dX3_init_146 (cX2_init G d (show Is 202 2 by unfold Is; decide +kernel) hc56) (fun cs80 hK => ?_) rfl
  obtain ⟨-, hK1, hK2⟩ := hK
  have hc0 : cs80 146 = .inr (3, [.ref (gA G 8), .ref (gA G 10), .int 0, .int 0, .ref (gA G 147), .ref (gA G 148), .ref (gA G 149), .ref (gA G 150), .ref (gA G 151), .ref (gA G 152), .ref (gA G 153), .int 0, .int 0, .ref (gA G 154), .ref (gA G 155), .ref (gA G 156), .ref (gA G 157), .int 0, .int 0, .int 0]) := (hK1 _ (by omega)).trans hc0
  have hc1 : cs80 147 = .inl (gY G 14, 10, .inl (fun _ => 0)) := (hK1 _ (by omega)).trans hc1
  have hc2 : cs80 148 = .inl (gY G 14, 10, .inl (fun _ => 0)) := (hK1 _ (by omega)).trans hc2
  have hc3 : cs80 149 = .inl (gY G 14, 10, .inl (fun _ => 0)) := (hK1 _ (by omega)).trans hc3
  have hc4 : cs80 150 = .inl (gY G 14, 10, .inl (fun _ => 0)) := (hK1 _ (by omega)).trans hc4
  have hc5 : cs80 151 = .inl (gY G 14, 10, .inl (fun _ => 0)) := (hK1 _ (by omega)).trans hc5
  have hc6 : cs80 152 = refI G 22 152 4 := (hK1 _ (by omega)).trans hc6
  have hc7 : cs80 153 = refI G 17 153 14 := (hK1 _ (by omega)).trans hc7
  have hc8 : cs80 154 = .inl (gY G 14, 60, .inl (fun _ => 0)) := (hK1 _ (by omega)).trans hc8
  have hc9 : cs80 155 = .inl (gY G 14, 60, .inl (fun _ => 0)) := (hK1 _ (by omega)).trans hc9
  have hc10 : cs80 156 = .inl (gY G 14, 60, .inl (fun _ => 0)) := (hK1 _ (by omega)).trans hc10
  have hc11 : cs80 157 = .inl (gY G 14, 60, .inl (fun _ => 0)) := (hK1 _ (by omega)).trans hc11
  have hr12 : ∀ n, 158 ≤ n → n < 202 → cs80 n = finY G n := fun n a b => (hK1 n (by omega)).trans (hr12 n a b)
  have hlo : ∀ n, n < 146 → cs80 n = cs n := fun n a => (hK1 n (by omega)).trans (hlo n a)
  have hr12 : ∀ n, 158 ≤ n → n < 204 → cs80 n = finY G n := fun n a b => if h : n < 202 then hr12 n a h else hK2 n (by omega) (by omega)
  clear hK1 hK2
  refine ry_aast (κ := 17) (κ' := 2) (t0 := 4) (L := 30) (n := 153) (v := 202) (i := 14) (by omega) (by omega) rfl rfl hc7 (ln_at_3_7) ((hr12 202 (by omega) (by omega)).trans (fyE_2 (show Is 202 2 by unfold Is; decide +kernel))) (by decide) rfl (by decide +kernel) dX3_init_149 ?_
  refine ry_cs (fun cs81 e81 => ?_)
  have hc0 : cs81 146 = .inr (3, [.ref (gA G 8), .ref (gA G 10), .int 0, .int 0, .ref (gA G 147), .ref (gA G 148), .ref (gA G 149), .ref (gA G 150), .ref (gA G 151), .ref (gA G 152), .ref (gA G 153), .int 0, .int 0, .ref (gA G 154), .ref (gA G 155), .ref (gA G 156), .ref (gA G 157), .int 0, .int 0, .int 0]) := by rw [e81, va_up_ne _ _ (by omega)]; exact hc0
  have hc1 : cs81 147 = .inl (gY G 14, 10, .inl (fun _ => 0)) := by rw [e81, va_up_ne _ _ (by omega)]; exact hc1
  have hc2 : cs81 148 = .inl (gY G 14, 10, .inl (fun _ => 0)) := by rw [e81, va_up_ne _ _ (by omega)]; exact hc2
  have hc3 : cs81 149 = .inl (gY G 14, 10, .inl (fun _ => 0)) := by rw [e81, va_up_ne _ _ (by omega)]; exact hc3
  have hc4 : cs81 150 = .inl (gY G 14, 10, .inl (fun _ => 0)) := by rw [e81, va_up_ne _ _ (by omega)]; exact hc4
  have hc5 : cs81 151 = .inl (gY G 14, 10, .inl (fun _ => 0)) := by rw [e81, va_up_ne _ _ (by omega)]; exact hc5
  have hc6 : cs81 152 = refI G 22 152 4 := by rw [e81, va_up_ne _ _ (by omega)]; exact hc6
  have hc8 : cs81 154 = .inl (gY G 14, 60, .inl (fun _ => 0)) := by rw [e81, va_up_ne _ _ (by omega)]; exact hc8
  have hc9 : cs81 155 = .inl (gY G 14, 60, .inl (fun _ => 0)) := by rw [e81, va_up_ne _ _ (by omega)]; exact hc9
  have hc10 : cs81 156 = .inl (gY G 14, 60, .inl (fun _ => 0)) := by rw [e81, va_up_ne _ _ (by omega)]; exact hc10
  have hc11 : cs81 157 = .inl (gY G 14, 60, .inl (fun _ => 0)) := by rw [e81, va_up_ne _ _ (by omega)]; exact hc11
  have hc7 : cs81 153 = refI G 17 153 15 := by rw [e81]; exact va_up_self _ _ _
  have hr12 : ∀ n, 158 ≤ n → n < 204 → cs81 n = finY G n := fun n a b => by rw [e81, va_up_ne _ _ (by omega)]; exact hr12 n a b
  have hlo : ∀ n, n < 146 → cs81 n = cs n := fun n a => by rw [e81, va_up_ne _ _ (by omega)]; exact hlo n a
  clear e81
  refine ry_iinc 3 [(0, .ref (gA G 146)), (1, .ref (gA G 8)), (2, .ref (gA G 10)), (3, .int 15)] [1, 2, 3, 0] dX3_init_150 rfl rfl (by decide) rfl ?_
  refine ry_goto 131 dX3_init_153 (by decide) ?_
  refine ry_iload_n 3 dX3_init_131 rfl rfl ?_
  refine ry_bipush (v := 30) dX3_init_132 rfl ?_
  refine ry_icmp_ge 156 dX3_init_134 (by decide) (fun q => absurd q (by decide)) (fun _ => ?_)
  refine ry_aload_n 0 dX3_init_137 rfl rfl ?_
  refine ry_get fl_X3_35 (by omega) hc0 rfl dX3_init_138 ?_
  refine ry_iload_n 3 dX3_init_141 rfl rfl ?_
  refine ry_new (ci := 2) (fs := [.int 0, .int 0, .int 0, .int 0, .int 0, .int 0, .int 0, .int 0, .int 0, .int 0, .null]) tyX2 tyX2_ok rfl i_X2 wc_X3_33 wi_2 wn_2 bl_2 (by decide) (by decide) dX3_init_142 ?_
  refine ry_cs (fun cs82 e82 => ?_)
  have hc0 : cs82 146 = .inr (3, [.ref (gA G 8), .ref (gA G 10), .int 0, .int 0, .ref (gA G 147), .ref (gA G 148), .ref (gA G 149), .ref (gA G 150), .ref (gA G 151), .ref (gA G 152), .ref (gA G 153), .int 0, .int 0, .ref (gA G 154), .ref (gA G 155), .ref (gA G 156), .ref (gA G 157), .int 0, .int 0, .int 0]) := by rw [e82, va_up_ne _ _ (by omega)]; exact hc0
  have hc1 : cs82 147 = .inl (gY G 14, 10, .inl (fun _ => 0)) := by rw [e82, va_up_ne _ _ (by omega)]; exact hc1
  have hc2 : cs82 148 = .inl (gY G 14, 10, .inl (fun _ => 0)) := by rw [e82, va_up_ne _ _ (by omega)]; exact hc2
  have hc3 : cs82 149 = .inl (gY G 14, 10, .inl (fun _ => 0)) := by rw [e82, va_up_ne _ _ (by omega)]; exact hc3
  have hc4 : cs82 150 = .inl (gY G 14, 10, .inl (fun _ => 0)) := by rw [e82, va_up_ne _ _ (by omega)]; exact hc4
  have hc5 : cs82 151 = .inl (gY G 14, 10, .inl (fun _ => 0)) := by rw [e82, va_up_ne _ _ (by omega)]; exact hc5
  have hc6 : cs82 152 = refI G 22 152 4 := by rw [e82, va_up_ne _ _ (by omega)]; exact hc6
  have hc7 : cs82 153 = refI G 17 153 15 := by rw [e82, va_up_ne _ _ (by omega)]; exact hc7
  have hc8 : cs82 154 = .inl (gY G 14, 60, .inl (fun _ => 0)) := by rw [e82, va_up_ne _ _ (by omega)]; exact hc8
  have hc9 : cs82 155 = .inl (gY G 14, 60, .inl (fun _ => 0)) := by rw [e82, va_up_ne _ _ (by omega)]; exact hc9
  have hc10 : cs82 156 = .inl (gY G 14, 60, .inl (fun _ => 0)) := by rw [e82, va_up_ne _ _ (by omega)]; exact hc10
  have hc11 : cs82 157 = .inl (gY G 14, 60, .inl (fun _ => 0)) := by rw [e82, va_up_ne _ _ (by omega)]; exact hc11
  have hc58 : cs82 204 = .inr (2, [.int 0, .int 0, .int 0, .int 0, .int 0, .int 0, .int 0, .int 0, .int 0, .int 0, .null]) := by rw [e82]; exact va_up_self _ _ _
  have hr12 : ∀ n, 158 ≤ n → n < 204 → cs82 n = finY G n := fun n a b => by rw [e82, va_up_ne _ _ (by omega)]; exact hr12 n a b
  have hlo : ∀ n, n < 146 → cs82 n = cs n := fun n a => by rw [e82, va_up_ne _ _ (by omega)]; exact hlo n a
  clear e82
  refine ry_dup dX3_init_145 rfl ?_
  refine ry_callIN (As := []) (n := 204) (mc := 1) (ms := 10) (Kc G 204 2 _) (fun _ _ h => by have := h.1; omega) mw_X2_init rfl win_X2_init wm_X3_60 rfl ⟨show d + 1 + 1 ≤ d + 2 by omega, show 30 * (d + 1) + 30 ≤ 30 * (d + 2) by omega, by decide, by decide⟩ (Nat.le_of_ble_eq_true rfl) dX3_init_146 (cX2_init G d (show Is 204 2 by unfold Is; decide +kernel) hc58) (fun cs83 hK => ?_) rfl
  obtain ⟨-, hK1, hK2⟩ := hK
  have hc0 : cs83 146 = .inr (3, [.ref (gA G 8), .ref (gA G 10), .int 0, .int 0, .ref (gA G 147), .ref (gA G 148), .ref (gA G 149), .ref (gA G 150), .ref (gA G 151), .ref (gA G 152), .ref (gA G 153), .int 0, .int 0, .ref (gA G 154), .ref (gA G 155), .ref (gA G 156), .ref (gA G 157), .int 0, .int 0, .int 0]) := (hK1 _ (by omega)).trans hc0
  have hc1 : cs83 147 = .inl (gY G 14, 10, .inl (fun _ => 0)) := (hK1 _ (by omega)).trans hc1
  have hc2 : cs83 148 = .inl (gY G 14, 10, .inl (fun _ => 0)) := (hK1 _ (by omega)).trans hc2
  have hc3 : cs83 149 = .inl (gY G 14, 10, .inl (fun _ => 0)) := (hK1 _ (by omega)).trans hc3
  have hc4 : cs83 150 = .inl (gY G 14, 10, .inl (fun _ => 0)) := (hK1 _ (by omega)).trans hc4
  have hc5 : cs83 151 = .inl (gY G 14, 10, .inl (fun _ => 0)) := (hK1 _ (by omega)).trans hc5
  have hc6 : cs83 152 = refI G 22 152 4 := (hK1 _ (by omega)).trans hc6
  have hc7 : cs83 153 = refI G 17 153 15 := (hK1 _ (by omega)).trans hc7
  have hc8 : cs83 154 = .inl (gY G 14, 60, .inl (fun _ => 0)) := (hK1 _ (by omega)).trans hc8
  have hc9 : cs83 155 = .inl (gY G 14, 60, .inl (fun _ => 0)) := (hK1 _ (by omega)).trans hc9
  have hc10 : cs83 156 = .inl (gY G 14, 60, .inl (fun _ => 0)) := (hK1 _ (by omega)).trans hc10
  have hc11 : cs83 157 = .inl (gY G 14, 60, .inl (fun _ => 0)) := (hK1 _ (by omega)).trans hc11
  have hr12 : ∀ n, 158 ≤ n → n < 204 → cs83 n = finY G n := fun n a b => (hK1 n (by omega)).trans (hr12 n a b)
  have hlo : ∀ n, n < 146 → cs83 n = cs n := fun n a => (hK1 n (by omega)).trans (hlo n a)
  have hr12 : ∀ n, 158 ≤ n → n < 206 → cs83 n = finY G n := fun n a b => if h : n < 204 then hr12 n a h else hK2 n (by omega) (by omega)
  clear hK1 hK2
  refine ry_aast (κ := 17) (κ' := 2) (t0 := 4) (L := 30) (n := 153) (v := 204) (i := 15) (by omega) (by omega) rfl rfl hc7 (ln_at_3_7) ((hr12 204 (by omega) (by omega)).trans (fyE_2 (show Is 204 2 by unfold Is; decide +kernel))) (by decide) rfl (by decide +kernel) dX3_init_149 ?_
  refine ry_cs (fun cs84 e84 => ?_)
  have hc0 : cs84 146 = .inr (3, [.ref (gA G 8), .ref (gA G 10), .int 0, .int 0, .ref (gA G 147), .ref (gA G 148), .ref (gA G 149), .ref (gA G 150), .ref (gA G 151), .ref (gA G 152), .ref (gA G 153), .int 0, .int 0, .ref (gA G 154), .ref (gA G 155), .ref (gA G 156), .ref (gA G 157), .int 0, .int 0, .int 0]) := by rw [e84, va_up_ne _ _ (by omega)]; exact hc0
  have hc1 : cs84 147 = .inl (gY G 14, 10, .inl (fun _ => 0)) := by rw [e84, va_up_ne _ _ (by omega)]; exact hc1
  have hc2 : cs84 148 = .inl (gY G 14, 10, .inl (fun _ => 0)) := by rw [e84, va_up_ne _ _ (by omega)]; exact hc2
  have hc3 : cs84 149 = .inl (gY G 14, 10, .inl (fun _ => 0)) := by rw [e84, va_up_ne _ _ (by omega)]; exact hc3
  have hc4 : cs84 150 = .inl (gY G 14, 10, .inl (fun _ => 0)) := by rw [e84, va_up_ne _ _ (by omega)]; exact hc4
  have hc5 : cs84 151 = .inl (gY G 14, 10, .inl (fun _ => 0)) := by rw [e84, va_up_ne _ _ (by omega)]; exact hc5
  have hc6 : cs84 152 = refI G 22 152 4 := by rw [e84, va_up_ne _ _ (by omega)]; exact hc6
  have hc8 : cs84 154 = .inl (gY G 14, 60, .inl (fun _ => 0)) := by rw [e84, va_up_ne _ _ (by omega)]; exact hc8
  have hc9 : cs84 155 = .inl (gY G 14, 60, .inl (fun _ => 0)) := by rw [e84, va_up_ne _ _ (by omega)]; exact hc9
  have hc10 : cs84 156 = .inl (gY G 14, 60, .inl (fun _ => 0)) := by rw [e84, va_up_ne _ _ (by omega)]; exact hc10
  have hc11 : cs84 157 = .inl (gY G 14, 60, .inl (fun _ => 0)) := by rw [e84, va_up_ne _ _ (by omega)]; exact hc11
  have hc7 : cs84 153 = refI G 17 153 16 := by rw [e84]; exact va_up_self _ _ _
  have hr12 : ∀ n, 158 ≤ n → n < 206 → cs84 n = finY G n := fun n a b => by rw [e84, va_up_ne _ _ (by omega)]; exact hr12 n a b
  have hlo : ∀ n, n < 146 → cs84 n = cs n := fun n a => by rw [e84, va_up_ne _ _ (by omega)]; exact hlo n a
  clear e84
  refine ry_iinc 3 [(0, .ref (gA G 146)), (1, .ref (gA G 8)), (2, .ref (gA G 10)), (3, .int 16)] [1, 2, 3, 0] dX3_init_150 rfl rfl (by decide) rfl ?_
  refine ry_goto 131 dX3_init_153 (by decide) ?_
  refine ry_iload_n 3 dX3_init_131 rfl rfl ?_
  refine ry_bipush (v := 30) dX3_init_132 rfl ?_
  refine ry_icmp_ge 156 dX3_init_134 (by decide) (fun q => absurd q (by decide)) (fun _ => ?_)
  refine ry_aload_n 0 dX3_init_137 rfl rfl ?_
  refine ry_get fl_X3_35 (by omega) hc0 rfl dX3_init_138 ?_
  refine ry_iload_n 3 dX3_init_141 rfl rfl ?_
  refine ry_new (ci := 2) (fs := [.int 0, .int 0, .int 0, .int 0, .int 0, .int 0, .int 0, .int 0, .int 0, .int 0, .null]) tyX2 tyX2_ok rfl i_X2 wc_X3_33 wi_2 wn_2 bl_2 (by decide) (by decide) dX3_init_142 ?_
  refine ry_cs (fun cs85 e85 => ?_)
  have hc0 : cs85 146 = .inr (3, [.ref (gA G 8), .ref (gA G 10), .int 0, .int 0, .ref (gA G 147), .ref (gA G 148), .ref (gA G 149), .ref (gA G 150), .ref (gA G 151), .ref (gA G 152), .ref (gA G 153), .int 0, .int 0, .ref (gA G 154), .ref (gA G 155), .ref (gA G 156), .ref (gA G 157), .int 0, .int 0, .int 0]) := by rw [e85, va_up_ne _ _ (by omega)]; exact hc0
  have hc1 : cs85 147 = .inl (gY G 14, 10, .inl (fun _ => 0)) := by rw [e85, va_up_ne _ _ (by omega)]; exact hc1
  have hc2 : cs85 148 = .inl (gY G 14, 10, .inl (fun _ => 0)) := by rw [e85, va_up_ne _ _ (by omega)]; exact hc2
  have hc3 : cs85 149 = .inl (gY G 14, 10, .inl (fun _ => 0)) := by rw [e85, va_up_ne _ _ (by omega)]; exact hc3
  have hc4 : cs85 150 = .inl (gY G 14, 10, .inl (fun _ => 0)) := by rw [e85, va_up_ne _ _ (by omega)]; exact hc4
  have hc5 : cs85 151 = .inl (gY G 14, 10, .inl (fun _ => 0)) := by rw [e85, va_up_ne _ _ (by omega)]; exact hc5
  have hc6 : cs85 152 = refI G 22 152 4 := by rw [e85, va_up_ne _ _ (by omega)]; exact hc6
  have hc7 : cs85 153 = refI G 17 153 16 := by rw [e85, va_up_ne _ _ (by omega)]; exact hc7
  have hc8 : cs85 154 = .inl (gY G 14, 60, .inl (fun _ => 0)) := by rw [e85, va_up_ne _ _ (by omega)]; exact hc8
  have hc9 : cs85 155 = .inl (gY G 14, 60, .inl (fun _ => 0)) := by rw [e85, va_up_ne _ _ (by omega)]; exact hc9
  have hc10 : cs85 156 = .inl (gY G 14, 60, .inl (fun _ => 0)) := by rw [e85, va_up_ne _ _ (by omega)]; exact hc10
  have hc11 : cs85 157 = .inl (gY G 14, 60, .inl (fun _ => 0)) := by rw [e85, va_up_ne _ _ (by omega)]; exact hc11
  have hc60 : cs85 206 = .inr (2, [.int 0, .int 0, .int 0, .int 0, .int 0, .int 0, .int 0, .int 0, .int 0, .int 0, .null]) := by rw [e85]; exact va_up_self _ _ _
  have hr12 : ∀ n, 158 ≤ n → n < 206 → cs85 n = finY G n := fun n a b => by rw [e85, va_up_ne _ _ (by omega)]; exact hr12 n a b
  have hlo : ∀ n, n < 146 → cs85 n = cs n := fun n a => by rw [e85, va_up_ne _ _ (by omega)]; exact hlo n a
  clear e85
  refine ry_dup dX3_init_145 rfl ?_
  refine ry_callIN (As := []) (n := 206) (mc := 1) (ms := 10) (Kc G 206 2 _) (fun _ _ h => by have := h.1; omega) mw_X2_init rfl win_X2_init wm_X3_60 rfl ⟨show d + 1 + 1 ≤ d + 2 by omega, show 30 * (d + 1) + 30 ≤ 30 * (d + 2) by omega, by decide, by decide⟩ (Nat.le_of_ble_eq_true rfl) dX3_init_146 (cX2_init G d (show Is 206 2 by unfold Is; decide +kernel) hc60) (fun cs86 hK => ?_) rfl
  obtain ⟨-, hK1, hK2⟩ := hK
  have hc0 : cs86 146 = .inr (3, [.ref (gA G 8), .ref (gA G 10), .int 0, .int 0, .ref (gA G 147), .ref (gA G 148), .ref (gA G 149), .ref (gA G 150), .ref (gA G 151), .ref (gA G 152), .ref (gA G 153), .int 0, .int 0, .ref (gA G 154), .ref (gA G 155), .ref (gA G 156), .ref (gA G 157), .int 0, .int 0, .int 0]) := (hK1 _ (by omega)).trans hc0
  have hc1 : cs86 147 = .inl (gY G 14, 10, .inl (fun _ => 0)) := (hK1 _ (by omega)).trans hc1
  have hc2 : cs86 148 = .inl (gY G 14, 10, .inl (fun _ => 0)) := (hK1 _ (by omega)).trans hc2
  have hc3 : cs86 149 = .inl (gY G 14, 10, .inl (fun _ => 0)) := (hK1 _ (by omega)).trans hc3
  have hc4 : cs86 150 = .inl (gY G 14, 10, .inl (fun _ => 0)) := (hK1 _ (by omega)).trans hc4
  have hc5 : cs86 151 = .inl (gY G 14, 10, .inl (fun _ => 0)) := (hK1 _ (by omega)).trans hc5
  have hc6 : cs86 152 = refI G 22 152 4 := (hK1 _ (by omega)).trans hc6
  have hc7 : cs86 153 = refI G 17 153 16 := (hK1 _ (by omega)).trans hc7
  have hc8 : cs86 154 = .inl (gY G 14, 60, .inl (fun _ => 0)) := (hK1 _ (by omega)).trans hc8
  have hc9 : cs86 155 = .inl (gY G 14, 60, .inl (fun _ => 0)) := (hK1 _ (by omega)).trans hc9
  have hc10 : cs86 156 = .inl (gY G 14, 60, .inl (fun _ => 0)) := (hK1 _ (by omega)).trans hc10
  have hc11 : cs86 157 = .inl (gY G 14, 60, .inl (fun _ => 0)) := (hK1 _ (by omega)).trans hc11
  have hr12 : ∀ n, 158 ≤ n → n < 206 → cs86 n = finY G n := fun n a b => (hK1 n (by omega)).trans (hr12 n a b)
  have hlo : ∀ n, n < 146 → cs86 n = cs n := fun n a => (hK1 n (by omega)).trans (hlo n a)
  have hr12 : ∀ n, 158 ≤ n → n < 208 → cs86 n = finY G n := fun n a b => if h : n < 206 then hr12 n a h else hK2 n (by omega) (by omega)
  clear hK1 hK2
  refine ry_aast (κ := 17) (κ' := 2) (t0 := 4) (L := 30) (n := 153) (v := 206) (i := 16) (by omega) (by omega) rfl rfl hc7 (ln_at_3_7) ((hr12 206 (by omega) (by omega)).trans (fyE_2 (show Is 206 2 by unfold Is; decide +kernel))) (by decide) rfl (by decide +kernel) dX3_init_149 ?_
  refine ry_cs (fun cs87 e87 => ?_)
  have hc0 : cs87 146 = .inr (3, [.ref (gA G 8), .ref (gA G 10), .int 0, .int 0, .ref (gA G 147), .ref (gA G 148), .ref (gA G 149), .ref (gA G 150), .ref (gA G 151), .ref (gA G 152), .ref (gA G 153), .int 0, .int 0, .ref (gA G 154), .ref (gA G 155), .ref (gA G 156), .ref (gA G 157), .int 0, .int 0, .int 0]) := by rw [e87, va_up_ne _ _ (by omega)]; exact hc0
  have hc1 : cs87 147 = .inl (gY G 14, 10, .inl (fun _ => 0)) := by rw [e87, va_up_ne _ _ (by omega)]; exact hc1
  have hc2 : cs87 148 = .inl (gY G 14, 10, .inl (fun _ => 0)) := by rw [e87, va_up_ne _ _ (by omega)]; exact hc2
  have hc3 : cs87 149 = .inl (gY G 14, 10, .inl (fun _ => 0)) := by rw [e87, va_up_ne _ _ (by omega)]; exact hc3
  have hc4 : cs87 150 = .inl (gY G 14, 10, .inl (fun _ => 0)) := by rw [e87, va_up_ne _ _ (by omega)]; exact hc4
  have hc5 : cs87 151 = .inl (gY G 14, 10, .inl (fun _ => 0)) := by rw [e87, va_up_ne _ _ (by omega)]; exact hc5
  have hc6 : cs87 152 = refI G 22 152 4 := by rw [e87, va_up_ne _ _ (by omega)]; exact hc6
  have hc8 : cs87 154 = .inl (gY G 14, 60, .inl (fun _ => 0)) := by rw [e87, va_up_ne _ _ (by omega)]; exact hc8
  have hc9 : cs87 155 = .inl (gY G 14, 60, .inl (fun _ => 0)) := by rw [e87, va_up_ne _ _ (by omega)]; exact hc9
  have hc10 : cs87 156 = .inl (gY G 14, 60, .inl (fun _ => 0)) := by rw [e87, va_up_ne _ _ (by omega)]; exact hc10
  have hc11 : cs87 157 = .inl (gY G 14, 60, .inl (fun _ => 0)) := by rw [e87, va_up_ne _ _ (by omega)]; exact hc11
  have hc7 : cs87 153 = refI G 17 153 17 := by rw [e87]; exact va_up_self _ _ _
  have hr12 : ∀ n, 158 ≤ n → n < 208 → cs87 n = finY G n := fun n a b => by rw [e87, va_up_ne _ _ (by omega)]; exact hr12 n a b
  have hlo : ∀ n, n < 146 → cs87 n = cs n := fun n a => by rw [e87, va_up_ne _ _ (by omega)]; exact hlo n a
  clear e87
  refine ry_iinc 3 [(0, .ref (gA G 146)), (1, .ref (gA G 8)), (2, .ref (gA G 10)), (3, .int 17)] [1, 2, 3, 0] dX3_init_150 rfl rfl (by decide) rfl ?_
  refine ry_goto 131 dX3_init_153 (by decide) ?_
  refine ry_iload_n 3 dX3_init_131 rfl rfl ?_
  refine ry_bipush (v := 30) dX3_init_132 rfl ?_
  refine ry_icmp_ge 156 dX3_init_134 (by decide) (fun q => absurd q (by decide)) (fun _ => ?_)
  refine ry_aload_n 0 dX3_init_137 rfl rfl ?_
  refine ry_get fl_X3_35 (by omega) hc0 rfl dX3_init_138 ?_
  refine ry_iload_n 3 dX3_init_141 rfl rfl ?_
  refine ry_new (ci := 2) (fs := [.int 0, .int 0, .int 0, .int 0, .int 0, .int 0, .int 0, .int 0, .int 0, .int 0, .null]) tyX2 tyX2_ok rfl i_X2 wc_X3_33 wi_2 wn_2 bl_2 (by decide) (by decide) dX3_init_142 ?_
  refine ry_cs (fun cs88 e88 => ?_)
  have hc0 : cs88 146 = .inr (3, [.ref (gA G 8), .ref (gA G 10), .int 0, .int 0, .ref (gA G 147), .ref (gA G 148), .ref (gA G 149), .ref (gA G 150), .ref (gA G 151), .ref (gA G 152), .ref (gA G 153), .int 0, .int 0, .ref (gA G 154), .ref (gA G 155), .ref (gA G 156), .ref (gA G 157), .int 0, .int 0, .int 0]) := by rw [e88, va_up_ne _ _ (by omega)]; exact hc0
  have hc1 : cs88 147 = .inl (gY G 14, 10, .inl (fun _ => 0)) := by rw [e88, va_up_ne _ _ (by omega)]; exact hc1
  have hc2 : cs88 148 = .inl (gY G 14, 10, .inl (fun _ => 0)) := by rw [e88, va_up_ne _ _ (by omega)]; exact hc2
  have hc3 : cs88 149 = .inl (gY G 14, 10, .inl (fun _ => 0)) := by rw [e88, va_up_ne _ _ (by omega)]; exact hc3
  have hc4 : cs88 150 = .inl (gY G 14, 10, .inl (fun _ => 0)) := by rw [e88, va_up_ne _ _ (by omega)]; exact hc4
  have hc5 : cs88 151 = .inl (gY G 14, 10, .inl (fun _ => 0)) := by rw [e88, va_up_ne _ _ (by omega)]; exact hc5
  have hc6 : cs88 152 = refI G 22 152 4 := by rw [e88, va_up_ne _ _ (by omega)]; exact hc6
  have hc7 : cs88 153 = refI G 17 153 17 := by rw [e88, va_up_ne _ _ (by omega)]; exact hc7
  have hc8 : cs88 154 = .inl (gY G 14, 60, .inl (fun _ => 0)) := by rw [e88, va_up_ne _ _ (by omega)]; exact hc8
  have hc9 : cs88 155 = .inl (gY G 14, 60, .inl (fun _ => 0)) := by rw [e88, va_up_ne _ _ (by omega)]; exact hc9
  have hc10 : cs88 156 = .inl (gY G 14, 60, .inl (fun _ => 0)) := by rw [e88, va_up_ne _ _ (by omega)]; exact hc10
  have hc11 : cs88 157 = .inl (gY G 14, 60, .inl (fun _ => 0)) := by rw [e88, va_up_ne _ _ (by omega)]; exact hc11
  have hc62 : cs88 208 = .inr (2, [.int 0, .int 0, .int 0, .int 0, .int 0, .int 0, .int 0, .int 0, .int 0, .int 0, .null]) := by rw [e88]; exact va_up_self _ _ _
  have hr12 : ∀ n, 158 ≤ n → n < 208 → cs88 n = finY G n := fun n a b => by rw [e88, va_up_ne _ _ (by omega)]; exact hr12 n a b
  have hlo : ∀ n, n < 146 → cs88 n = cs n := fun n a => by rw [e88, va_up_ne _ _ (by omega)]; exact hlo n a
  clear e88
  refine ry_dup dX3_init_145 rfl ?_
  refine ry_callIN (As := []) (n := 208) (mc := 1) (ms := 10) (Kc G 208 2 _) (fun _ _ h => by have := h.1; omega) mw_X2_init rfl win_X2_init wm_X3_60 rfl ⟨show d + 1 + 1 ≤ d + 2 by omega, show 30 * (d + 1) + 30 ≤ 30 * (d + 2) by omega, by decide, by decide⟩ (Nat.le_of_ble_eq_true rfl) dX3_init_146 (cX2_init G d (show Is 208 2 by unfold Is; decide +kernel) hc62) (fun cs89 hK => ?_) rfl
  obtain ⟨-, hK1, hK2⟩ := hK
  have hc0 : cs89 146 = .inr (3, [.ref (gA G 8), .ref (gA G 10), .int 0, .int 0, .ref (gA G 147), .ref (gA G 148), .ref (gA G 149), .ref (gA G 150), .ref (gA G 151), .ref (gA G 152), .ref (gA G 153), .int 0, .int 0, .ref (gA G 154), .ref (gA G 155), .ref (gA G 156), .ref (gA G 157), .int 0, .int 0, .int 0]) := (hK1 _ (by omega)).trans hc0
  have hc1 : cs89 147 = .inl (gY G 14, 10, .inl (fun _ => 0)) := (hK1 _ (by omega)).trans hc1
  have hc2 : cs89 148 = .inl (gY G 14, 10, .inl (fun _ => 0)) := (hK1 _ (by omega)).trans hc2
  have hc3 : cs89 149 = .inl (gY G 14, 10, .inl (fun _ => 0)) := (hK1 _ (by omega)).trans hc3
  have hc4 : cs89 150 = .inl (gY G 14, 10, .inl (fun _ => 0)) := (hK1 _ (by omega)).trans hc4
  have hc5 : cs89 151 = .inl (gY G 14, 10, .inl (fun _ => 0)) := (hK1 _ (by omega)).trans hc5
  have hc6 : cs89 152 = refI G 22 152 4 := (hK1 _ (by omega)).trans hc6
  have hc7 : cs89 153 = refI G 17 153 17 := (hK1 _ (by omega)).trans hc7
  have hc8 : cs89 154 = .inl (gY G 14, 60, .inl (fun _ => 0)) := (hK1 _ (by omega)).trans hc8
  have hc9 : cs89 155 = .inl (gY G 14, 60, .inl (fun _ => 0)) := (hK1 _ (by omega)).trans hc9
  have hc10 : cs89 156 = .inl (gY G 14, 60, .inl (fun _ => 0)) := (hK1 _ (by omega)).trans hc10
  have hc11 : cs89 157 = .inl (gY G 14, 60, .inl (fun _ => 0)) := (hK1 _ (by omega)).trans hc11
  have hr12 : ∀ n, 158 ≤ n → n < 208 → cs89 n = finY G n := fun n a b => (hK1 n (by omega)).trans (hr12 n a b)
  have hlo : ∀ n, n < 146 → cs89 n = cs n := fun n a => (hK1 n (by omega)).trans (hlo n a)
  have hr12 : ∀ n, 158 ≤ n → n < 210 → cs89 n = finY G n := fun n a b => if h : n < 208 then hr12 n a h else hK2 n (by omega) (by omega)
  clear hK1 hK2
  refine ry_aast (κ := 17) (κ' := 2) (t0 := 4) (L := 30) (n := 153) (v := 208) (i := 17) (by omega) (by omega) rfl rfl hc7 (ln_at_3_7) ((hr12 208 (by omega) (by omega)).trans (fyE_2 (show Is 208 2 by unfold Is; decide +kernel))) (by decide) rfl (by decide +kernel) dX3_init_149 ?_
  refine ry_cs (fun cs90 e90 => ?_)
  have hc0 : cs90 146 = .inr (3, [.ref (gA G 8), .ref (gA G 10), .int 0, .int 0, .ref (gA G 147), .ref (gA G 148), .ref (gA G 149), .ref (gA G 150), .ref (gA G 151), .ref (gA G 152), .ref (gA G 153), .int 0, .int 0, .ref (gA G 154), .ref (gA G 155), .ref (gA G 156), .ref (gA G 157), .int 0, .int 0, .int 0]) := by rw [e90, va_up_ne _ _ (by omega)]; exact hc0
  have hc1 : cs90 147 = .inl (gY G 14, 10, .inl (fun _ => 0)) := by rw [e90, va_up_ne _ _ (by omega)]; exact hc1
  have hc2 : cs90 148 = .inl (gY G 14, 10, .inl (fun _ => 0)) := by rw [e90, va_up_ne _ _ (by omega)]; exact hc2
  have hc3 : cs90 149 = .inl (gY G 14, 10, .inl (fun _ => 0)) := by rw [e90, va_up_ne _ _ (by omega)]; exact hc3
  have hc4 : cs90 150 = .inl (gY G 14, 10, .inl (fun _ => 0)) := by rw [e90, va_up_ne _ _ (by omega)]; exact hc4
  have hc5 : cs90 151 = .inl (gY G 14, 10, .inl (fun _ => 0)) := by rw [e90, va_up_ne _ _ (by omega)]; exact hc5
  have hc6 : cs90 152 = refI G 22 152 4 := by rw [e90, va_up_ne _ _ (by omega)]; exact hc6
  have hc8 : cs90 154 = .inl (gY G 14, 60, .inl (fun _ => 0)) := by rw [e90, va_up_ne _ _ (by omega)]; exact hc8
  have hc9 : cs90 155 = .inl (gY G 14, 60, .inl (fun _ => 0)) := by rw [e90, va_up_ne _ _ (by omega)]; exact hc9
  have hc10 : cs90 156 = .inl (gY G 14, 60, .inl (fun _ => 0)) := by rw [e90, va_up_ne _ _ (by omega)]; exact hc10
  have hc11 : cs90 157 = .inl (gY G 14, 60, .inl (fun _ => 0)) := by rw [e90, va_up_ne _ _ (by omega)]; exact hc11
  have hc7 : cs90 153 = refI G 17 153 18 := by rw [e90]; exact va_up_self _ _ _
  have hr12 : ∀ n, 158 ≤ n → n < 210 → cs90 n = finY G n := fun n a b => by rw [e90, va_up_ne _ _ (by omega)]; exact hr12 n a b
  have hlo : ∀ n, n < 146 → cs90 n = cs n := fun n a => by rw [e90, va_up_ne _ _ (by omega)]; exact hlo n a
  clear e90
  refine ry_iinc 3 [(0, .ref (gA G 146)), (1, .ref (gA G 8)), (2, .ref (gA G 10)), (3, .int 18)] [1, 2, 3, 0] dX3_init_150 rfl rfl (by decide) rfl ?_
  refine ry_goto 131 dX3_init_153 (by decide) ?_
  refine ry_iload_n 3 dX3_init_131 rfl rfl ?_
  refine ry_bipush (v := 30) dX3_init_132 rfl ?_
  refine ry_icmp_ge 156 dX3_init_134 (by decide) (fun q => absurd q (by decide)) (fun _ => ?_)
  refine ry_aload_n 0 dX3_init_137 rfl rfl ?_
  refine ry_get fl_X3_35 (by omega) hc0 rfl dX3_init_138 ?_
  refine ry_iload_n 3 dX3_init_141 rfl rfl ?_
  refine ry_new (ci := 2) (fs := [.int 0, .int 0, .int 0, .int 0, .int 0, .int 0, .int 0, .int 0, .int 0, .int 0, .null]) tyX2 tyX2_ok rfl i_X2 wc_X3_33 wi_2 wn_2 bl_2 (by decide) (by decide) dX3_init_142 ?_
  refine ry_cs (fun cs91 e91 => ?_)
  have hc0 : cs91 146 = .inr (3, [.ref (gA G 8), .ref (gA G 10), .int 0, .int 0, .ref (gA G 147), .ref (gA G 148), .ref (gA G 149), .ref (gA G 150), .ref (gA G 151), .ref (gA G 152), .ref (gA G 153), .int 0, .int 0, .ref (gA G 154), .ref (gA G 155), .ref (gA G 156), .ref (gA G 157), .int 0, .int 0, .int 0]) := by rw [e91, va_up_ne _ _ (by omega)]; exact hc0
  have hc1 : cs91 147 = .inl (gY G 14, 10, .inl (fun _ => 0)) := by rw [e91, va_up_ne _ _ (by omega)]; exact hc1
  have hc2 : cs91 148 = .inl (gY G 14, 10, .inl (fun _ => 0)) := by rw [e91, va_up_ne _ _ (by omega)]; exact hc2
  have hc3 : cs91 149 = .inl (gY G 14, 10, .inl (fun _ => 0)) := by rw [e91, va_up_ne _ _ (by omega)]; exact hc3
  have hc4 : cs91 150 = .inl (gY G 14, 10, .inl (fun _ => 0)) := by rw [e91, va_up_ne _ _ (by omega)]; exact hc4
  have hc5 : cs91 151 = .inl (gY G 14, 10, .inl (fun _ => 0)) := by rw [e91, va_up_ne _ _ (by omega)]; exact hc5
  have hc6 : cs91 152 = refI G 22 152 4 := by rw [e91, va_up_ne _ _ (by omega)]; exact hc6
  have hc7 : cs91 153 = refI G 17 153 18 := by rw [e91, va_up_ne _ _ (by omega)]; exact hc7
  have hc8 : cs91 154 = .inl (gY G 14, 60, .inl (fun _ => 0)) := by rw [e91, va_up_ne _ _ (by omega)]; exact hc8
  have hc9 : cs91 155 = .inl (gY G 14, 60, .inl (fun _ => 0)) := by rw [e91, va_up_ne _ _ (by omega)]; exact hc9
  have hc10 : cs91 156 = .inl (gY G 14, 60, .inl (fun _ => 0)) := by rw [e91, va_up_ne _ _ (by omega)]; exact hc10
  have hc11 : cs91 157 = .inl (gY G 14, 60, .inl (fun _ => 0)) := by rw [e91, va_up_ne _ _ (by omega)]; exact hc11
  have hc64 : cs91 210 = .inr (2, [.int 0, .int 0, .int 0, .int 0, .int 0, .int 0, .int 0, .int 0, .int 0, .int 0, .null]) := by rw [e91]; exact va_up_self _ _ _
  have hr12 : ∀ n, 158 ≤ n → n < 210 → cs91 n = finY G n := fun n a b => by rw [e91, va_up_ne _ _ (by omega)]; exact hr12 n a b
  have hlo : ∀ n, n < 146 → cs91 n = cs n := fun n a => by rw [e91, va_up_ne _ _ (by omega)]; exact hlo n a
  clear e91
  refine ry_dup dX3_init_145 rfl ?_
  refine ry_callIN (As := []) (n := 210) (mc := 1) (ms := 10) (Kc G 210 2 _) (fun _ _ h => by have := h.1; omega) mw_X2_init rfl win_X2_init wm_X3_60 rfl ⟨show d + 1 + 1 ≤ d + 2 by omega, show 30 * (d + 1) + 30 ≤ 30 * (d + 2) by omega, by decide, by decide⟩ (Nat.le_of_ble_eq_true rfl) dX3_init_146 (cX2_init G d (show Is 210 2 by unfold Is; decide +kernel) hc64) (fun cs92 hK => ?_) rfl
  obtain ⟨-, hK1, hK2⟩ := hK
  have hc0 : cs92 146 = .inr (3, [.ref (gA G 8), .ref (gA G 10), .int 0, .int 0, .ref (gA G 147), .ref (gA G 148), .ref (gA G 149), .ref (gA G 150), .ref (gA G 151), .ref (gA G 152), .ref (gA G 153), .int 0, .int 0, .ref (gA G 154), .ref (gA G 155), .ref (gA G 156), .ref (gA G 157), .int 0, .int 0, .int 0]) := (hK1 _ (by omega)).trans hc0
  have hc1 : cs92 147 = .inl (gY G 14, 10, .inl (fun _ => 0)) := (hK1 _ (by omega)).trans hc1
  have hc2 : cs92 148 = .inl (gY G 14, 10, .inl (fun _ => 0)) := (hK1 _ (by omega)).trans hc2
  have hc3 : cs92 149 = .inl (gY G 14, 10, .inl (fun _ => 0)) := (hK1 _ (by omega)).trans hc3
  have hc4 : cs92 150 = .inl (gY G 14, 10, .inl (fun _ => 0)) := (hK1 _ (by omega)).trans hc4
  have hc5 : cs92 151 = .inl (gY G 14, 10, .inl (fun _ => 0)) := (hK1 _ (by omega)).trans hc5
  have hc6 : cs92 152 = refI G 22 152 4 := (hK1 _ (by omega)).trans hc6
  have hc7 : cs92 153 = refI G 17 153 18 := (hK1 _ (by omega)).trans hc7
  have hc8 : cs92 154 = .inl (gY G 14, 60, .inl (fun _ => 0)) := (hK1 _ (by omega)).trans hc8
  have hc9 : cs92 155 = .inl (gY G 14, 60, .inl (fun _ => 0)) := (hK1 _ (by omega)).trans hc9
  have hc10 : cs92 156 = .inl (gY G 14, 60, .inl (fun _ => 0)) := (hK1 _ (by omega)).trans hc10
  have hc11 : cs92 157 = .inl (gY G 14, 60, .inl (fun _ => 0)) := (hK1 _ (by omega)).trans hc11
  have hr12 : ∀ n, 158 ≤ n → n < 210 → cs92 n = finY G n := fun n a b => (hK1 n (by omega)).trans (hr12 n a b)
  have hlo : ∀ n, n < 146 → cs92 n = cs n := fun n a => (hK1 n (by omega)).trans (hlo n a)
  have hr12 : ∀ n, 158 ≤ n → n < 212 → cs92 n = finY G n := fun n a b => if h : n < 210 then hr12 n a h else hK2 n (by omega) (by omega)
  clear hK1 hK2
  refine ry_aast (κ := 17) (κ' := 2) (t0 := 4) (L := 30) (n := 153) (v := 210) (i := 18) (by omega) (by omega) rfl rfl hc7 (ln_at_3_7) ((hr12 210 (by omega) (by omega)).trans (fyE_2 (show Is 210 2 by unfold Is; decide +kernel))) (by decide) rfl (by decide +kernel) dX3_init_149 ?_
  refine ry_cs (fun cs93 e93 => ?_)
  have hc0 : cs93 146 = .inr (3, [.ref (gA G 8), .ref (gA G 10), .int 0, .int 0, .ref (gA G 147), .ref (gA G 148), .ref (gA G 149), .ref (gA G 150), .ref (gA G 151), .ref (gA G 152), .ref (gA G 153), .int 0, .int 0, .ref (gA G 154), .ref (gA G 155), .ref (gA G 156), .ref (gA G 157), .int 0, .int 0, .int 0]) := by rw [e93, va_up_ne _ _ (by omega)]; exact hc0
  have hc1 : cs93 147 = .inl (gY G 14, 10, .inl (fun _ => 0)) := by rw [e93, va_up_ne _ _ (by omega)]; exact hc1
  have hc2 : cs93 148 = .inl (gY G 14, 10, .inl (fun _ => 0)) := by rw [e93, va_up_ne _ _ (by omega)]; exact hc2
  have hc3 : cs93 149 = .inl (gY G 14, 10, .inl (fun _ => 0)) := by rw [e93, va_up_ne _ _ (by omega)]; exact hc3
  have hc4 : cs93 150 = .inl (gY G 14, 10, .inl (fun _ => 0)) := by rw [e93, va_up_ne _ _ (by omega)]; exact hc4
  have hc5 : cs93 151 = .inl (gY G 14, 10, .inl (fun _ => 0)) := by rw [e93, va_up_ne _ _ (by omega)]; exact hc5
  have hc6 : cs93 152 = refI G 22 152 4 := by rw [e93, va_up_ne _ _ (by omega)]; exact hc6
  have hc8 : cs93 154 = .inl (gY G 14, 60, .inl (fun _ => 0)) := by rw [e93, va_up_ne _ _ (by omega)]; exact hc8
  have hc9 : cs93 155 = .inl (gY G 14, 60, .inl (fun _ => 0)) := by rw [e93, va_up_ne _ _ (by omega)]; exact hc9
  have hc10 : cs93 156 = .inl (gY G 14, 60, .inl (fun _ => 0)) := by rw [e93, va_up_ne _ _ (by omega)]; exact hc10
  have hc11 : cs93 157 = .inl (gY G 14, 60, .inl (fun _ => 0)) := by rw [e93, va_up_ne _ _ (by omega)]; exact hc11
  have hc7 : cs93 153 = refI G 17 153 19 := by rw [e93]; exact va_up_self _ _ _
  have hr12 : ∀ n, 158 ≤ n → n < 212 → cs93 n = finY G n := fun n a b => by rw [e93, va_up_ne _ _ (by omega)]; exact hr12 n a b
  have hlo : ∀ n, n < 146 → cs93 n = cs n := fun n a => by rw [e93, va_up_ne _ _ (by omega)]; exact hlo n a
  clear e93
  refine ry_iinc 3 [(0, .ref (gA G 146)), (1, .ref (gA G 8)), (2, .ref (gA G 10)), (3, .int 19)] [1, 2, 3, 0] dX3_init_150 rfl rfl (by decide) rfl ?_
  refine ry_goto 131 dX3_init_153 (by decide) ?_
  refine ry_iload_n 3 dX3_init_131 rfl rfl ?_
  refine ry_bipush (v := 30) dX3_init_132 rfl ?_
  refine ry_icmp_ge 156 dX3_init_134 (by decide) (fun q => absurd q (by decide)) (fun _ => ?_)
  refine ry_aload_n 0 dX3_init_137 rfl rfl ?_
  refine ry_get fl_X3_35 (by omega) hc0 rfl dX3_init_138 ?_
  refine ry_iload_n 3 dX3_init_141 rfl rfl ?_
  refine ry_new (ci := 2) (fs := [.int 0, .int 0, .int 0, .int 0, .int 0, .int 0, .int 0, .int 0, .int 0, .int 0, .null]) tyX2 tyX2_ok rfl i_X2 wc_X3_33 wi_2 wn_2 bl_2 (by decide) (by decide) dX3_init_142 ?_
  refine ry_cs (fun cs94 e94 => ?_)
  have hc0 : cs94 146 = .inr (3, [.ref (gA G 8), .ref (gA G 10), .int 0, .int 0, .ref (gA G 147), .ref (gA G 148), .ref (gA G 149), .ref (gA G 150), .ref (gA G 151), .ref (gA G 152), .ref (gA G 153), .int 0, .int 0, .ref (gA G 154), .ref (gA G 155), .ref (gA G 156), .ref (gA G 157), .int 0, .int 0, .int 0]) := by rw [e94, va_up_ne _ _ (by omega)]; exact hc0
  have hc1 : cs94 147 = .inl (gY G 14, 10, .inl (fun _ => 0)) := by rw [e94, va_up_ne _ _ (by omega)]; exact hc1
  have hc2 : cs94 148 = .inl (gY G 14, 10, .inl (fun _ => 0)) := by rw [e94, va_up_ne _ _ (by omega)]; exact hc2
  have hc3 : cs94 149 = .inl (gY G 14, 10, .inl (fun _ => 0)) := by rw [e94, va_up_ne _ _ (by omega)]; exact hc3
  have hc4 : cs94 150 = .inl (gY G 14, 10, .inl (fun _ => 0)) := by rw [e94, va_up_ne _ _ (by omega)]; exact hc4
  have hc5 : cs94 151 = .inl (gY G 14, 10, .inl (fun _ => 0)) := by rw [e94, va_up_ne _ _ (by omega)]; exact hc5
  have hc6 : cs94 152 = refI G 22 152 4 := by rw [e94, va_up_ne _ _ (by omega)]; exact hc6
  have hc7 : cs94 153 = refI G 17 153 19 := by rw [e94, va_up_ne _ _ (by omega)]; exact hc7
  have hc8 : cs94 154 = .inl (gY G 14, 60, .inl (fun _ => 0)) := by rw [e94, va_up_ne _ _ (by omega)]; exact hc8
  have hc9 : cs94 155 = .inl (gY G 14, 60, .inl (fun _ => 0)) := by rw [e94, va_up_ne _ _ (by omega)]; exact hc9
  have hc10 : cs94 156 = .inl (gY G 14, 60, .inl (fun _ => 0)) := by rw [e94, va_up_ne _ _ (by omega)]; exact hc10
  have hc11 : cs94 157 = .inl (gY G 14, 60, .inl (fun _ => 0)) := by rw [e94, va_up_ne _ _ (by omega)]; exact hc11
  have hc66 : cs94 212 = .inr (2, [.int 0, .int 0, .int 0, .int 0, .int 0, .int 0, .int 0, .int 0, .int 0, .int 0, .null]) := by rw [e94]; exact va_up_self _ _ _
  have hr12 : ∀ n, 158 ≤ n → n < 212 → cs94 n = finY G n := fun n a b => by rw [e94, va_up_ne _ _ (by omega)]; exact hr12 n a b
  have hlo : ∀ n, n < 146 → cs94 n = cs n := fun n a => by rw [e94, va_up_ne _ _ (by omega)]; exact hlo n a
  clear e94
  refine ry_dup dX3_init_145 rfl ?_
  refine ry_callIN (As := []) (n := 212) (mc := 1) (ms := 10) (Kc G 212 2 _) (fun _ _ h => by have := h.1; omega) mw_X2_init rfl win_X2_init wm_X3_60 rfl ⟨show d + 1 + 1 ≤ d + 2 by omega, show 30 * (d + 1) + 30 ≤ 30 * (d + 2) by omega, by decide, by decide⟩ (Nat.le_of_ble_eq_true rfl) dX3_init_146 (cX2_init G d (show Is 212 2 by unfold Is; decide +kernel) hc66) (fun cs95 hK => ?_) rfl
  obtain ⟨-, hK1, hK2⟩ := hK
  have hc0 : cs95 146 = .inr (3, [.ref (gA G 8), .ref (gA G 10), .int 0, .int 0, .ref (gA G 147), .ref (gA G 148), .ref (gA G 149), .ref (gA G 150), .ref (gA G 151), .ref (gA G 152), .ref (gA G 153), .int 0, .int 0, .ref (gA G 154), .ref (gA G 155), .ref (gA G 156), .ref (gA G 157), .int 0, .int 0, .int 0]) := (hK1 _ (by omega)).trans hc0
  have hc1 : cs95 147 = .inl (gY G 14, 10, .inl (fun _ => 0)) := (hK1 _ (by omega)).trans hc1
  have hc2 : cs95 148 = .inl (gY G 14, 10, .inl (fun _ => 0)) := (hK1 _ (by omega)).trans hc2
  have hc3 : cs95 149 = .inl (gY G 14, 10, .inl (fun _ => 0)) := (hK1 _ (by omega)).trans hc3
  have hc4 : cs95 150 = .inl (gY G 14, 10, .inl (fun _ => 0)) := (hK1 _ (by omega)).trans hc4
  have hc5 : cs95 151 = .inl (gY G 14, 10, .inl (fun _ => 0)) := (hK1 _ (by omega)).trans hc5
  have hc6 : cs95 152 = refI G 22 152 4 := (hK1 _ (by omega)).trans hc6
  have hc7 : cs95 153 = refI G 17 153 19 := (hK1 _ (by omega)).trans hc7
  have hc8 : cs95 154 = .inl (gY G 14, 60, .inl (fun _ => 0)) := (hK1 _ (by omega)).trans hc8
  have hc9 : cs95 155 = .inl (gY G 14, 60, .inl (fun _ => 0)) := (hK1 _ (by omega)).trans hc9
  have hc10 : cs95 156 = .inl (gY G 14, 60, .inl (fun _ => 0)) := (hK1 _ (by omega)).trans hc10
  have hc11 : cs95 157 = .inl (gY G 14, 60, .inl (fun _ => 0)) := (hK1 _ (by omega)).trans hc11
  have hr12 : ∀ n, 158 ≤ n → n < 212 → cs95 n = finY G n := fun n a b => (hK1 n (by omega)).trans (hr12 n a b)
  have hlo : ∀ n, n < 146 → cs95 n = cs n := fun n a => (hK1 n (by omega)).trans (hlo n a)
  have hr12 : ∀ n, 158 ≤ n → n < 214 → cs95 n = finY G n := fun n a b => if h : n < 212 then hr12 n a h else hK2 n (by omega) (by omega)
  clear hK1 hK2
  refine ry_aast (κ := 17) (κ' := 2) (t0 := 4) (L := 30) (n := 153) (v := 212) (i := 19) (by omega) (by omega) rfl rfl hc7 (ln_at_3_7) ((hr12 212 (by omega) (by omega)).trans (fyE_2 (show Is 212 2 by unfold Is; decide +kernel))) (by decide) rfl (by decide +kernel) dX3_init_149 ?_
  refine ry_cs (fun cs96 e96 => ?_)
  have hc0 : cs96 146 = .inr (3, [.ref (gA G 8), .ref (gA G 10), .int 0, .int 0, .ref (gA G 147), .ref (gA G 148), .ref (gA G 149), .ref (gA G 150), .ref (gA G 151), .ref (gA G 152), .ref (gA G 153), .int 0, .int 0, .ref (gA G 154), .ref (gA G 155), .ref (gA G 156), .ref (gA G 157), .int 0, .int 0, .int 0]) := by rw [e96, va_up_ne _ _ (by omega)]; exact hc0
  have hc1 : cs96 147 = .inl (gY G 14, 10, .inl (fun _ => 0)) := by rw [e96, va_up_ne _ _ (by omega)]; exact hc1
  have hc2 : cs96 148 = .inl (gY G 14, 10, .inl (fun _ => 0)) := by rw [e96, va_up_ne _ _ (by omega)]; exact hc2
  have hc3 : cs96 149 = .inl (gY G 14, 10, .inl (fun _ => 0)) := by rw [e96, va_up_ne _ _ (by omega)]; exact hc3
  have hc4 : cs96 150 = .inl (gY G 14, 10, .inl (fun _ => 0)) := by rw [e96, va_up_ne _ _ (by omega)]; exact hc4
  have hc5 : cs96 151 = .inl (gY G 14, 10, .inl (fun _ => 0)) := by rw [e96, va_up_ne _ _ (by omega)]; exact hc5
  have hc6 : cs96 152 = refI G 22 152 4 := by rw [e96, va_up_ne _ _ (by omega)]; exact hc6
  have hc8 : cs96 154 = .inl (gY G 14, 60, .inl (fun _ => 0)) := by rw [e96, va_up_ne _ _ (by omega)]; exact hc8
  have hc9 : cs96 155 = .inl (gY G 14, 60, .inl (fun _ => 0)) := by rw [e96, va_up_ne _ _ (by omega)]; exact hc9
  have hc10 : cs96 156 = .inl (gY G 14, 60, .inl (fun _ => 0)) := by rw [e96, va_up_ne _ _ (by omega)]; exact hc10
  have hc11 : cs96 157 = .inl (gY G 14, 60, .inl (fun _ => 0)) := by rw [e96, va_up_ne _ _ (by omega)]; exact hc11
  have hc7 : cs96 153 = refI G 17 153 20 := by rw [e96]; exact va_up_self _ _ _
  have hr12 : ∀ n, 158 ≤ n → n < 214 → cs96 n = finY G n := fun n a b => by rw [e96, va_up_ne _ _ (by omega)]; exact hr12 n a b
  have hlo : ∀ n, n < 146 → cs96 n = cs n := fun n a => by rw [e96, va_up_ne _ _ (by omega)]; exact hlo n a
  clear e96
  refine ry_iinc 3 [(0, .ref (gA G 146)), (1, .ref (gA G 8)), (2, .ref (gA G 10)), (3, .int 20)] [1, 2, 3, 0] dX3_init_150 rfl rfl (by decide) rfl ?_
  refine ry_goto 131 dX3_init_153 (by decide) ?_
  refine ry_iload_n 3 dX3_init_131 rfl rfl ?_
  refine ry_bipush (v := 30) dX3_init_132 rfl ?_
  refine ry_icmp_ge 156 dX3_init_134 (by decide) (fun q => absurd q (by decide)) (fun _ => ?_)
  refine ry_aload_n 0 dX3_init_137 rfl rfl ?_
  refine ry_get fl_X3_35 (by omega) hc0 rfl dX3_init_138 ?_
  refine ry_iload_n 3 dX3_init_141 rfl rfl ?_
  refine ry_new (ci := 2) (fs := [.int 0, .int 0, .int 0, .int 0, .int 0, .int 0, .int 0, .int 0, .int 0, .int 0, .null]) tyX2 tyX2_ok rfl i_X2 wc_X3_33 wi_2 wn_2 bl_2 (by decide) (by decide) dX3_init_142 ?_
  refine ry_cs (fun cs97 e97 => ?_)
  have hc0 : cs97 146 = .inr (3, [.ref (gA G 8), .ref (gA G 10), .int 0, .int 0, .ref (gA G 147), .ref (gA G 148), .ref (gA G 149), .ref (gA G 150), .ref (gA G 151), .ref (gA G 152), .ref (gA G 153), .int 0, .int 0, .ref (gA G 154), .ref (gA G 155), .ref (gA G 156), .ref (gA G 157), .int 0, .int 0, .int 0]) := by rw [e97, va_up_ne _ _ (by omega)]; exact hc0
  have hc1 : cs97 147 = .inl (gY G 14, 10, .inl (fun _ => 0)) := by rw [e97, va_up_ne _ _ (by omega)]; exact hc1
  have hc2 : cs97 148 = .inl (gY G 14, 10, .inl (fun _ => 0)) := by rw [e97, va_up_ne _ _ (by omega)]; exact hc2
  have hc3 : cs97 149 = .inl (gY G 14, 10, .inl (fun _ => 0)) := by rw [e97, va_up_ne _ _ (by omega)]; exact hc3
  have hc4 : cs97 150 = .inl (gY G 14, 10, .inl (fun _ => 0)) := by rw [e97, va_up_ne _ _ (by omega)]; exact hc4
  have hc5 : cs97 151 = .inl (gY G 14, 10, .inl (fun _ => 0)) := by rw [e97, va_up_ne _ _ (by omega)]; exact hc5
  have hc6 : cs97 152 = refI G 22 152 4 := by rw [e97, va_up_ne _ _ (by omega)]; exact hc6
  have hc7 : cs97 153 = refI G 17 153 20 := by rw [e97, va_up_ne _ _ (by omega)]; exact hc7
  have hc8 : cs97 154 = .inl (gY G 14, 60, .inl (fun _ => 0)) := by rw [e97, va_up_ne _ _ (by omega)]; exact hc8
  have hc9 : cs97 155 = .inl (gY G 14, 60, .inl (fun _ => 0)) := by rw [e97, va_up_ne _ _ (by omega)]; exact hc9
  have hc10 : cs97 156 = .inl (gY G 14, 60, .inl (fun _ => 0)) := by rw [e97, va_up_ne _ _ (by omega)]; exact hc10
  have hc11 : cs97 157 = .inl (gY G 14, 60, .inl (fun _ => 0)) := by rw [e97, va_up_ne _ _ (by omega)]; exact hc11
  have hc68 : cs97 214 = .inr (2, [.int 0, .int 0, .int 0, .int 0, .int 0, .int 0, .int 0, .int 0, .int 0, .int 0, .null]) := by rw [e97]; exact va_up_self _ _ _
  have hr12 : ∀ n, 158 ≤ n → n < 214 → cs97 n = finY G n := fun n a b => by rw [e97, va_up_ne _ _ (by omega)]; exact hr12 n a b
  have hlo : ∀ n, n < 146 → cs97 n = cs n := fun n a => by rw [e97, va_up_ne _ _ (by omega)]; exact hlo n a
  clear e97
  refine ry_dup dX3_init_145 rfl ?_
  refine ry_callIN (As := []) (n := 214) (mc := 1) (ms := 10) (Kc G 214 2 _) (fun _ _ h => by have := h.1; omega) mw_X2_init rfl win_X2_init wm_X3_60 rfl ⟨show d + 1 + 1 ≤ d + 2 by omega, show 30 * (d + 1) + 30 ≤ 30 * (d + 2) by omega, by decide, by decide⟩ (Nat.le_of_ble_eq_true rfl) dX3_init_146 (cX2_init G d (show Is 214 2 by unfold Is; decide +kernel) hc68) (fun cs98 hK => ?_) rfl
  obtain ⟨-, hK1, hK2⟩ := hK
  have hc0 : cs98 146 = .inr (3, [.ref (gA G 8), .ref (gA G 10), .int 0, .int 0, .ref (gA G 147), .ref (gA G 148), .ref (gA G 149), .ref (gA G 150), .ref (gA G 151), .ref (gA G 152), .ref (gA G 153), .int 0, .int 0, .ref (gA G 154), .ref (gA G 155), .ref (gA G 156), .ref (gA G 157), .int 0, .int 0, .int 0]) := (hK1 _ (by omega)).trans hc0
  have hc1 : cs98 147 = .inl (gY G 14, 10, .inl (fun _ => 0)) := (hK1 _ (by omega)).trans hc1
  have hc2 : cs98 148 = .inl (gY G 14, 10, .inl (fun _ => 0)) := (hK1 _ (by omega)).trans hc2
  have hc3 : cs98 149 = .inl (gY G 14, 10, .inl (fun _ => 0)) := (hK1 _ (by omega)).trans hc3
  have hc4 : cs98 150 = .inl (gY G 14, 10, .inl (fun _ => 0)) := (hK1 _ (by omega)).trans hc4
  have hc5 : cs98 151 = .inl (gY G 14, 10, .inl (fun _ => 0)) := (hK1 _ (by omega)).trans hc5
  have hc6 : cs98 152 = refI G 22 152 4 := (hK1 _ (by omega)).trans hc6
  have hc7 : cs98 153 = refI G 17 153 20 := (hK1 _ (by omega)).trans hc7
  have hc8 : cs98 154 = .inl (gY G 14, 60, .inl (fun _ => 0)) := (hK1 _ (by omega)).trans hc8
  have hc9 : cs98 155 = .inl (gY G 14, 60, .inl (fun _ => 0)) := (hK1 _ (by omega)).trans hc9
  have hc10 : cs98 156 = .inl (gY G 14, 60, .inl (fun _ => 0)) := (hK1 _ (by omega)).trans hc10
  have hc11 : cs98 157 = .inl (gY G 14, 60, .inl (fun _ => 0)) := (hK1 _ (by omega)).trans hc11
  have hr12 : ∀ n, 158 ≤ n → n < 214 → cs98 n = finY G n := fun n a b => (hK1 n (by omega)).trans (hr12 n a b)
  have hlo : ∀ n, n < 146 → cs98 n = cs n := fun n a => (hK1 n (by omega)).trans (hlo n a)
  have hr12 : ∀ n, 158 ≤ n → n < 216 → cs98 n = finY G n := fun n a b => if h : n < 214 then hr12 n a h else hK2 n (by omega) (by omega)
  clear hK1 hK2
  refine ry_aast (κ := 17) (κ' := 2) (t0 := 4) (L := 30) (n := 153) (v := 214) (i := 20) (by omega) (by omega) rfl rfl hc7 (ln_at_3_7) ((hr12 214 (by omega) (by omega)).trans (fyE_2 (show Is 214 2 by unfold Is; decide +kernel))) (by decide) rfl (by decide +kernel) dX3_init_149 ?_
  refine ry_cs (fun cs99 e99 => ?_)
  have hc0 : cs99 146 = .inr (3, [.ref (gA G 8), .ref (gA G 10), .int 0, .int 0, .ref (gA G 147), .ref (gA G 148), .ref (gA G 149), .ref (gA G 150), .ref (gA G 151), .ref (gA G 152), .ref (gA G 153), .int 0, .int 0, .ref (gA G 154), .ref (gA G 155), .ref (gA G 156), .ref (gA G 157), .int 0, .int 0, .int 0]) := by rw [e99, va_up_ne _ _ (by omega)]; exact hc0
  have hc1 : cs99 147 = .inl (gY G 14, 10, .inl (fun _ => 0)) := by rw [e99, va_up_ne _ _ (by omega)]; exact hc1
  have hc2 : cs99 148 = .inl (gY G 14, 10, .inl (fun _ => 0)) := by rw [e99, va_up_ne _ _ (by omega)]; exact hc2
  have hc3 : cs99 149 = .inl (gY G 14, 10, .inl (fun _ => 0)) := by rw [e99, va_up_ne _ _ (by omega)]; exact hc3
  have hc4 : cs99 150 = .inl (gY G 14, 10, .inl (fun _ => 0)) := by rw [e99, va_up_ne _ _ (by omega)]; exact hc4
  have hc5 : cs99 151 = .inl (gY G 14, 10, .inl (fun _ => 0)) := by rw [e99, va_up_ne _ _ (by omega)]; exact hc5
  have hc6 : cs99 152 = refI G 22 152 4 := by rw [e99, va_up_ne _ _ (by omega)]; exact hc6
  have hc8 : cs99 154 = .inl (gY G 14, 60, .inl (fun _ => 0)) := by rw [e99, va_up_ne _ _ (by omega)]; exact hc8
  have hc9 : cs99 155 = .inl (gY G 14, 60, .inl (fun _ => 0)) := by rw [e99, va_up_ne _ _ (by omega)]; exact hc9
  have hc10 : cs99 156 = .inl (gY G 14, 60, .inl (fun _ => 0)) := by rw [e99, va_up_ne _ _ (by omega)]; exact hc10
  have hc11 : cs99 157 = .inl (gY G 14, 60, .inl (fun _ => 0)) := by rw [e99, va_up_ne _ _ (by omega)]; exact hc11
  have hc7 : cs99 153 = refI G 17 153 21 := by rw [e99]; exact va_up_self _ _ _
  have hr12 : ∀ n, 158 ≤ n → n < 216 → cs99 n = finY G n := fun n a b => by rw [e99, va_up_ne _ _ (by omega)]; exact hr12 n a b
  have hlo : ∀ n, n < 146 → cs99 n = cs n := fun n a => by rw [e99, va_up_ne _ _ (by omega)]; exact hlo n a
  clear e99
  refine ry_iinc 3 [(0, .ref (gA G 146)), (1, .ref (gA G 8)), (2, .ref (gA G 10)), (3, .int 21)] [1, 2, 3, 0] dX3_init_150 rfl rfl (by decide) rfl ?_
  refine ry_goto 131 dX3_init_153 (by decide) ?_
  refine ry_iload_n 3 dX3_init_131 rfl rfl ?_
  refine ry_bipush (v := 30) dX3_init_132 rfl ?_
  refine ry_icmp_ge 156 dX3_init_134 (by decide) (fun q => absurd q (by decide)) (fun _ => ?_)
  refine ry_aload_n 0 dX3_init_137 rfl rfl ?_
  refine ry_get fl_X3_35 (by omega) hc0 rfl dX3_init_138 ?_
  refine ry_iload_n 3 dX3_init_141 rfl rfl ?_
  refine ry_new (ci := 2) (fs := [.int 0, .int 0, .int 0, .int 0, .int 0, .int 0, .int 0, .int 0, .int 0, .int 0, .null]) tyX2 tyX2_ok rfl i_X2 wc_X3_33 wi_2 wn_2 bl_2 (by decide) (by decide) dX3_init_142 ?_
  refine ry_cs (fun cs100 e100 => ?_)
  have hc0 : cs100 146 = .inr (3, [.ref (gA G 8), .ref (gA G 10), .int 0, .int 0, .ref (gA G 147), .ref (gA G 148), .ref (gA G 149), .ref (gA G 150), .ref (gA G 151), .ref (gA G 152), .ref (gA G 153), .int 0, .int 0, .ref (gA G 154), .ref (gA G 155), .ref (gA G 156), .ref (gA G 157), .int 0, .int 0, .int 0]) := by rw [e100, va_up_ne _ _ (by omega)]; exact hc0
  have hc1 : cs100 147 = .inl (gY G 14, 10, .inl (fun _ => 0)) := by rw [e100, va_up_ne _ _ (by omega)]; exact hc1
  have hc2 : cs100 148 = .inl (gY G 14, 10, .inl (fun _ => 0)) := by rw [e100, va_up_ne _ _ (by omega)]; exact hc2
  have hc3 : cs100 149 = .inl (gY G 14, 10, .inl (fun _ => 0)) := by rw [e100, va_up_ne _ _ (by omega)]; exact hc3
  have hc4 : cs100 150 = .inl (gY G 14, 10, .inl (fun _ => 0)) := by rw [e100, va_up_ne _ _ (by omega)]; exact hc4
  have hc5 : cs100 151 = .inl (gY G 14, 10, .inl (fun _ => 0)) := by rw [e100, va_up_ne _ _ (by omega)]; exact hc5
  have hc6 : cs100 152 = refI G 22 152 4 := by rw [e100, va_up_ne _ _ (by omega)]; exact hc6
  have hc7 : cs100 153 = refI G 17 153 21 := by rw [e100, va_up_ne _ _ (by omega)]; exact hc7
  have hc8 : cs100 154 = .inl (gY G 14, 60, .inl (fun _ => 0)) := by rw [e100, va_up_ne _ _ (by omega)]; exact hc8
  have hc9 : cs100 155 = .inl (gY G 14, 60, .inl (fun _ => 0)) := by rw [e100, va_up_ne _ _ (by omega)]; exact hc9
  have hc10 : cs100 156 = .inl (gY G 14, 60, .inl (fun _ => 0)) := by rw [e100, va_up_ne _ _ (by omega)]; exact hc10
  have hc11 : cs100 157 = .inl (gY G 14, 60, .inl (fun _ => 0)) := by rw [e100, va_up_ne _ _ (by omega)]; exact hc11
  have hc70 : cs100 216 = .inr (2, [.int 0, .int 0, .int 0, .int 0, .int 0, .int 0, .int 0, .int 0, .int 0, .int 0, .null]) := by rw [e100]; exact va_up_self _ _ _
  have hr12 : ∀ n, 158 ≤ n → n < 216 → cs100 n = finY G n := fun n a b => by rw [e100, va_up_ne _ _ (by omega)]; exact hr12 n a b
  have hlo : ∀ n, n < 146 → cs100 n = cs n := fun n a => by rw [e100, va_up_ne _ _ (by omega)]; exact hlo n a
  clear e100
  refine ry_dup dX3_init_145 rfl ?_
  refine ry_callIN (As := []) (n := 216) (mc := 1) (ms := 10) (Kc G 216 2 _) (fun _ _ h => by have := h.1; omega) mw_X2_init rfl win_X2_init wm_X3_60 rfl ⟨show d + 1 + 1 ≤ d + 2 by omega, show 30 * (d + 1) + 30 ≤ 30 * (d + 2) by omega, by decide, by decide⟩ (Nat.le_of_ble_eq_true rfl) dX3_init_146 (cX2_init G d (show Is 216 2 by unfold Is; decide +kernel) hc70) (fun cs101 hK => ?_) rfl
  obtain ⟨-, hK1, hK2⟩ := hK
  have hc0 : cs101 146 = .inr (3, [.ref (gA G 8), .ref (gA G 10), .int 0, .int 0, .ref (gA G 147), .ref (gA G 148), .ref (gA G 149), .ref (gA G 150), .ref (gA G 151), .ref (gA G 152), .ref (gA G 153), .int 0, .int 0, .ref (gA G 154), .ref (gA G 155), .ref (gA G 156), .ref (gA G 157), .int 0, .int 0, .int 0]) := (hK1 _ (by omega)).trans hc0
  have hc1 : cs101 147 = .inl (gY G 14, 10, .inl (fun _ => 0)) := (hK1 _ (by omega)).trans hc1
  have hc2 : cs101 148 = .inl (gY G 14, 10, .inl (fun _ => 0)) := (hK1 _ (by omega)).trans hc2
  have hc3 : cs101 149 = .inl (gY G 14, 10, .inl (fun _ => 0)) := (hK1 _ (by omega)).trans hc3
  have hc4 : cs101 150 = .inl (gY G 14, 10, .inl (fun _ => 0)) := (hK1 _ (by omega)).trans hc4
  have hc5 : cs101 151 = .inl (gY G 14, 10, .inl (fun _ => 0)) := (hK1 _ (by omega)).trans hc5
  have hc6 : cs101 152 = refI G 22 152 4 := (hK1 _ (by omega)).trans hc6
  have hc7 : cs101 153 = refI G 17 153 21 := (hK1 _ (by omega)).trans hc7
  have hc8 : cs101 154 = .inl (gY G 14, 60, .inl (fun _ => 0)) := (hK1 _ (by omega)).trans hc8
  have hc9 : cs101 155 = .inl (gY G 14, 60, .inl (fun _ => 0)) := (hK1 _ (by omega)).trans hc9
  have hc10 : cs101 156 = .inl (gY G 14, 60, .inl (fun _ => 0)) := (hK1 _ (by omega)).trans hc10
  have hc11 : cs101 157 = .inl (gY G 14, 60, .inl (fun _ => 0)) := (hK1 _ (by omega)).trans hc11
  have hr12 : ∀ n, 158 ≤ n → n < 216 → cs101 n = finY G n := fun n a b => (hK1 n (by omega)).trans (hr12 n a b)
  have hlo : ∀ n, n < 146 → cs101 n = cs n := fun n a => (hK1 n (by omega)).trans (hlo n a)
  have hr12 : ∀ n, 158 ≤ n → n < 218 → cs101 n = finY G n := fun n a b => if h : n < 216 then hr12 n a h else hK2 n (by omega) (by omega)
  clear hK1 hK2
  refine ry_aast (κ := 17) (κ' := 2) (t0 := 4) (L := 30) (n := 153) (v := 216) (i := 21) (by omega) (by omega) rfl rfl hc7 (ln_at_3_7) ((hr12 216 (by omega) (by omega)).trans (fyE_2 (show Is 216 2 by unfold Is; decide +kernel))) (by decide) rfl (by decide +kernel) dX3_init_149 ?_
  refine ry_cs (fun cs102 e102 => ?_)
  have hc0 : cs102 146 = .inr (3, [.ref (gA G 8), .ref (gA G 10), .int 0, .int 0, .ref (gA G 147), .ref (gA G 148), .ref (gA G 149), .ref (gA G 150), .ref (gA G 151), .ref (gA G 152), .ref (gA G 153), .int 0, .int 0, .ref (gA G 154), .ref (gA G 155), .ref (gA G 156), .ref (gA G 157), .int 0, .int 0, .int 0]) := by rw [e102, va_up_ne _ _ (by omega)]; exact hc0
  have hc1 : cs102 147 = .inl (gY G 14, 10, .inl (fun _ => 0)) := by rw [e102, va_up_ne _ _ (by omega)]; exact hc1
  have hc2 : cs102 148 = .inl (gY G 14, 10, .inl (fun _ => 0)) := by rw [e102, va_up_ne _ _ (by omega)]; exact hc2
  have hc3 : cs102 149 = .inl (gY G 14, 10, .inl (fun _ => 0)) := by rw [e102, va_up_ne _ _ (by omega)]; exact hc3
  have hc4 : cs102 150 = .inl (gY G 14, 10, .inl (fun _ => 0)) := by rw [e102, va_up_ne _ _ (by omega)]; exact hc4
  have hc5 : cs102 151 = .inl (gY G 14, 10, .inl (fun _ => 0)) := by rw [e102, va_up_ne _ _ (by omega)]; exact hc5
  have hc6 : cs102 152 = refI G 22 152 4 := by rw [e102, va_up_ne _ _ (by omega)]; exact hc6
  have hc8 : cs102 154 = .inl (gY G 14, 60, .inl (fun _ => 0)) := by rw [e102, va_up_ne _ _ (by omega)]; exact hc8
  have hc9 : cs102 155 = .inl (gY G 14, 60, .inl (fun _ => 0)) := by rw [e102, va_up_ne _ _ (by omega)]; exact hc9
  have hc10 : cs102 156 = .inl (gY G 14, 60, .inl (fun _ => 0)) := by rw [e102, va_up_ne _ _ (by omega)]; exact hc10
  have hc11 : cs102 157 = .inl (gY G 14, 60, .inl (fun _ => 0)) := by rw [e102, va_up_ne _ _ (by omega)]; exact hc11
  have hc7 : cs102 153 = refI G 17 153 22 := by rw [e102]; exact va_up_self _ _ _
  have hr12 : ∀ n, 158 ≤ n → n < 218 → cs102 n = finY G n := fun n a b => by rw [e102, va_up_ne _ _ (by omega)]; exact hr12 n a b
  have hlo : ∀ n, n < 146 → cs102 n = cs n := fun n a => by rw [e102, va_up_ne _ _ (by omega)]; exact hlo n a
  clear e102
  refine ry_iinc 3 [(0, .ref (gA G 146)), (1, .ref (gA G 8)), (2, .ref (gA G 10)), (3, .int 22)] [1, 2, 3, 0] dX3_init_150 rfl rfl (by decide) rfl ?_
  refine ry_goto 131 dX3_init_153 (by decide) ?_
  refine ry_iload_n 3 dX3_init_131 rfl rfl ?_
  refine ry_bipush (v := 30) dX3_init_132 rfl ?_
  refine ry_icmp_ge 156 dX3_init_134 (by decide) (fun q => absurd q (by decide)) (fun _ => ?_)
  refine ry_aload_n 0 dX3_init_137 rfl rfl ?_
  refine ry_get fl_X3_35 (by omega) hc0 rfl dX3_init_138 ?_
  refine ry_iload_n 3 dX3_init_141 rfl rfl ?_
  refine ry_new (ci := 2) (fs := [.int 0, .int 0, .int 0, .int 0, .int 0, .int 0, .int 0, .int 0, .int 0, .int 0, .null]) tyX2 tyX2_ok rfl i_X2 wc_X3_33 wi_2 wn_2 bl_2 (by decide) (by decide) dX3_init_142 ?_
  refine ry_cs (fun cs103 e103 => ?_)
  have hc0 : cs103 146 = .inr (3, [.ref (gA G 8), .ref (gA G 10), .int 0, .int 0, .ref (gA G 147), .ref (gA G 148), .ref (gA G 149), .ref (gA G 150), .ref (gA G 151), .ref (gA G 152), .ref (gA G 153), .int 0, .int 0, .ref (gA G 154), .ref (gA G 155), .ref (gA G 156), .ref (gA G 157), .int 0, .int 0, .int 0]) := by rw [e103, va_up_ne _ _ (by omega)]; exact hc0
  have hc1 : cs103 147 = .inl (gY G 14, 10, .inl (fun _ => 0)) := by rw [e103, va_up_ne _ _ (by omega)]; exact hc1
  have hc2 : cs103 148 = .inl (gY G 14, 10, .inl (fun _ => 0)) := by rw [e103, va_up_ne _ _ (by omega)]; exact hc2
  have hc3 : cs103 149 = .inl (gY G 14, 10, .inl (fun _ => 0)) := by rw [e103, va_up_ne _ _ (by omega)]; exact hc3
  have hc4 : cs103 150 = .inl (gY G 14, 10, .inl (fun _ => 0)) := by rw [e103, va_up_ne _ _ (by omega)]; exact hc4
  have hc5 : cs103 151 = .inl (gY G 14, 10, .inl (fun _ => 0)) := by rw [e103, va_up_ne _ _ (by omega)]; exact hc5
  have hc6 : cs103 152 = refI G 22 152 4 := by rw [e103, va_up_ne _ _ (by omega)]; exact hc6
  have hc7 : cs103 153 = refI G 17 153 22 := by rw [e103, va_up_ne _ _ (by omega)]; exact hc7
  have hc8 : cs103 154 = .inl (gY G 14, 60, .inl (fun _ => 0)) := by rw [e103, va_up_ne _ _ (by omega)]; exact hc8
  have hc9 : cs103 155 = .inl (gY G 14, 60, .inl (fun _ => 0)) := by rw [e103, va_up_ne _ _ (by omega)]; exact hc9
  have hc10 : cs103 156 = .inl (gY G 14, 60, .inl (fun _ => 0)) := by rw [e103, va_up_ne _ _ (by omega)]; exact hc10
  have hc11 : cs103 157 = .inl (gY G 14, 60, .inl (fun _ => 0)) := by rw [e103, va_up_ne _ _ (by omega)]; exact hc11
  have hc72 : cs103 218 = .inr (2, [.int 0, .int 0, .int 0, .int 0, .int 0, .int 0, .int 0, .int 0, .int 0, .int 0, .null]) := by rw [e103]; exact va_up_self _ _ _
  have hr12 : ∀ n, 158 ≤ n → n < 218 → cs103 n = finY G n := fun n a b => by rw [e103, va_up_ne _ _ (by omega)]; exact hr12 n a b
  have hlo : ∀ n, n < 146 → cs103 n = cs n := fun n a => by rw [e103, va_up_ne _ _ (by omega)]; exact hlo n a
  clear e103
  refine ry_dup dX3_init_145 rfl ?_
  refine ry_callIN (As := []) (n := 218) (mc := 1) (ms := 10) (Kc G 218 2 _) (fun _ _ h => by have := h.1; omega) mw_X2_init rfl win_X2_init wm_X3_60 rfl ⟨show d + 1 + 1 ≤ d + 2 by omega, show 30 * (d + 1) + 30 ≤ 30 * (d + 2) by omega, by decide, by decide⟩ (Nat.le_of_ble_eq_true rfl) dX3_init_146 (cX2_init G d (show Is 218 2 by unfold Is; decide +kernel) hc72) (fun cs104 hK => ?_) rfl
  obtain ⟨-, hK1, hK2⟩ := hK
  have hc0 : cs104 146 = .inr (3, [.ref (gA G 8), .ref (gA G 10), .int 0, .int 0, .ref (gA G 147), .ref (gA G 148), .ref (gA G 149), .ref (gA G 150), .ref (gA G 151), .ref (gA G 152), .ref (gA G 153), .int 0, .int 0, .ref (gA G 154), .ref (gA G 155), .ref (gA G 156), .ref (gA G 157), .int 0, .int 0, .int 0]) := (hK1 _ (by omega)).trans hc0
  have hc1 : cs104 147 = .inl (gY G 14, 10, .inl (fun _ => 0)) := (hK1 _ (by omega)).trans hc1
  have hc2 : cs104 148 = .inl (gY G 14, 10, .inl (fun _ => 0)) := (hK1 _ (by omega)).trans hc2
  have hc3 : cs104 149 = .inl (gY G 14, 10, .inl (fun _ => 0)) := (hK1 _ (by omega)).trans hc3
  have hc4 : cs104 150 = .inl (gY G 14, 10, .inl (fun _ => 0)) := (hK1 _ (by omega)).trans hc4
  have hc5 : cs104 151 = .inl (gY G 14, 10, .inl (fun _ => 0)) := (hK1 _ (by omega)).trans hc5
  have hc6 : cs104 152 = refI G 22 152 4 := (hK1 _ (by omega)).trans hc6
  have hc7 : cs104 153 = refI G 17 153 22 := (hK1 _ (by omega)).trans hc7
  have hc8 : cs104 154 = .inl (gY G 14, 60, .inl (fun _ => 0)) := (hK1 _ (by omega)).trans hc8
  have hc9 : cs104 155 = .inl (gY G 14, 60, .inl (fun _ => 0)) := (hK1 _ (by omega)).trans hc9
  have hc10 : cs104 156 = .inl (gY G 14, 60, .inl (fun _ => 0)) := (hK1 _ (by omega)).trans hc10
  have hc11 : cs104 157 = .inl (gY G 14, 60, .inl (fun _ => 0)) := (hK1 _ (by omega)).trans hc11
  have hr12 : ∀ n, 158 ≤ n → n < 218 → cs104 n = finY G n := fun n a b => (hK1 n (by omega)).trans (hr12 n a b)
  have hlo : ∀ n, n < 146 → cs104 n = cs n := fun n a => (hK1 n (by omega)).trans (hlo n a)
  have hr12 : ∀ n, 158 ≤ n → n < 220 → cs104 n = finY G n := fun n a b => if h : n < 218 then hr12 n a h else hK2 n (by omega) (by omega)
  clear hK1 hK2
  refine ry_aast (κ := 17) (κ' := 2) (t0 := 4) (L := 30) (n := 153) (v := 218) (i := 22) (by omega) (by omega) rfl rfl hc7 (ln_at_3_7) ((hr12 218 (by omega) (by omega)).trans (fyE_2 (show Is 218 2 by unfold Is; decide +kernel))) (by decide) rfl (by decide +kernel) dX3_init_149 ?_
  refine ry_cs (fun cs105 e105 => ?_)
  have hc0 : cs105 146 = .inr (3, [.ref (gA G 8), .ref (gA G 10), .int 0, .int 0, .ref (gA G 147), .ref (gA G 148), .ref (gA G 149), .ref (gA G 150), .ref (gA G 151), .ref (gA G 152), .ref (gA G 153), .int 0, .int 0, .ref (gA G 154), .ref (gA G 155), .ref (gA G 156), .ref (gA G 157), .int 0, .int 0, .int 0]) := by rw [e105, va_up_ne _ _ (by omega)]; exact hc0
  have hc1 : cs105 147 = .inl (gY G 14, 10, .inl (fun _ => 0)) := by rw [e105, va_up_ne _ _ (by omega)]; exact hc1
  have hc2 : cs105 148 = .inl (gY G 14, 10, .inl (fun _ => 0)) := by rw [e105, va_up_ne _ _ (by omega)]; exact hc2
  have hc3 : cs105 149 = .inl (gY G 14, 10, .inl (fun _ => 0)) := by rw [e105, va_up_ne _ _ (by omega)]; exact hc3
  have hc4 : cs105 150 = .inl (gY G 14, 10, .inl (fun _ => 0)) := by rw [e105, va_up_ne _ _ (by omega)]; exact hc4
  have hc5 : cs105 151 = .inl (gY G 14, 10, .inl (fun _ => 0)) := by rw [e105, va_up_ne _ _ (by omega)]; exact hc5
  have hc6 : cs105 152 = refI G 22 152 4 := by rw [e105, va_up_ne _ _ (by omega)]; exact hc6
  have hc8 : cs105 154 = .inl (gY G 14, 60, .inl (fun _ => 0)) := by rw [e105, va_up_ne _ _ (by omega)]; exact hc8
  have hc9 : cs105 155 = .inl (gY G 14, 60, .inl (fun _ => 0)) := by rw [e105, va_up_ne _ _ (by omega)]; exact hc9
  have hc10 : cs105 156 = .inl (gY G 14, 60, .inl (fun _ => 0)) := by rw [e105, va_up_ne _ _ (by omega)]; exact hc10
  have hc11 : cs105 157 = .inl (gY G 14, 60, .inl (fun _ => 0)) := by rw [e105, va_up_ne _ _ (by omega)]; exact hc11
  have hc7 : cs105 153 = refI G 17 153 23 := by rw [e105]; exact va_up_self _ _ _
  have hr12 : ∀ n, 158 ≤ n → n < 220 → cs105 n = finY G n := fun n a b => by rw [e105, va_up_ne _ _ (by omega)]; exact hr12 n a b
  have hlo : ∀ n, n < 146 → cs105 n = cs n := fun n a => by rw [e105, va_up_ne _ _ (by omega)]; exact hlo n a
  clear e105
  refine ry_iinc 3 [(0, .ref (gA G 146)), (1, .ref (gA G 8)), (2, .ref (gA G 10)), (3, .int 23)] [1, 2, 3, 0] dX3_init_150 rfl rfl (by decide) rfl ?_
  refine ry_goto 131 dX3_init_153 (by decide) ?_
  refine ry_iload_n 3 dX3_init_131 rfl rfl ?_
  refine ry_bipush (v := 30) dX3_init_132 rfl ?_
  refine ry_icmp_ge 156 dX3_init_134 (by decide) (fun q => absurd q (by decide)) (fun _ => ?_)
  refine ry_aload_n 0 dX3_init_137 rfl rfl ?_
  refine ry_get fl_X3_35 (by omega) hc0 rfl dX3_init_138 ?_
  refine ry_iload_n 3 dX3_init_141 rfl rfl ?_
  refine ry_new (ci := 2) (fs := [.int 0, .int 0, .int 0, .int 0, .int 0, .int 0, .int 0, .int 0, .int 0, .int 0, .null]) tyX2 tyX2_ok rfl i_X2 wc_X3_33 wi_2 wn_2 bl_2 (by decide) (by decide) dX3_init_142 ?_
  refine ry_cs (fun cs106 e106 => ?_)
  have hc0 : cs106 146 = .inr (3, [.ref (gA G 8), .ref (gA G 10), .int 0, .int 0, .ref (gA G 147), .ref (gA G 148), .ref (gA G 149), .ref (gA G 150), .ref (gA G 151), .ref (gA G 152), .ref (gA G 153), .int 0, .int 0, .ref (gA G 154), .ref (gA G 155), .ref (gA G 156), .ref (gA G 157), .int 0, .int 0, .int 0]) := by rw [e106, va_up_ne _ _ (by omega)]; exact hc0
  have hc1 : cs106 147 = .inl (gY G 14, 10, .inl (fun _ => 0)) := by rw [e106, va_up_ne _ _ (by omega)]; exact hc1
  have hc2 : cs106 148 = .inl (gY G 14, 10, .inl (fun _ => 0)) := by rw [e106, va_up_ne _ _ (by omega)]; exact hc2
  have hc3 : cs106 149 = .inl (gY G 14, 10, .inl (fun _ => 0)) := by rw [e106, va_up_ne _ _ (by omega)]; exact hc3
  have hc4 : cs106 150 = .inl (gY G 14, 10, .inl (fun _ => 0)) := by rw [e106, va_up_ne _ _ (by omega)]; exact hc4
  have hc5 : cs106 151 = .inl (gY G 14, 10, .inl (fun _ => 0)) := by rw [e106, va_up_ne _ _ (by omega)]; exact hc5
  have hc6 : cs106 152 = refI G 22 152 4 := by rw [e106, va_up_ne _ _ (by omega)]; exact hc6
  have hc7 : cs106 153 = refI G 17 153 23 := by rw [e106, va_up_ne _ _ (by omega)]; exact hc7
  have hc8 : cs106 154 = .inl (gY G 14, 60, .inl (fun _ => 0)) := by rw [e106, va_up_ne _ _ (by omega)]; exact hc8
  have hc9 : cs106 155 = .inl (gY G 14, 60, .inl (fun _ => 0)) := by rw [e106, va_up_ne _ _ (by omega)]; exact hc9
  have hc10 : cs106 156 = .inl (gY G 14, 60, .inl (fun _ => 0)) := by rw [e106, va_up_ne _ _ (by omega)]; exact hc10
  have hc11 : cs106 157 = .inl (gY G 14, 60, .inl (fun _ => 0)) := by rw [e106, va_up_ne _ _ (by omega)]; exact hc11
  have hc74 : cs106 220 = .inr (2, [.int 0, .int 0, .int 0, .int 0, .int 0, .int 0, .int 0, .int 0, .int 0, .int 0, .null]) := by rw [e106]; exact va_up_self _ _ _
  have hr12 : ∀ n, 158 ≤ n → n < 220 → cs106 n = finY G n := fun n a b => by rw [e106, va_up_ne _ _ (by omega)]; exact hr12 n a b
  have hlo : ∀ n, n < 146 → cs106 n = cs n := fun n a => by rw [e106, va_up_ne _ _ (by omega)]; exact hlo n a
  clear e106
  refine ry_dup dX3_init_145 rfl ?_
  refine ry_callIN (As := []) (n := 220) (mc := 1) (ms := 10) (Kc G 220 2 _) (fun _ _ h => by have := h.1; omega) mw_X2_init rfl win_X2_init wm_X3_60 rfl ⟨show d + 1 + 1 ≤ d + 2 by omega, show 30 * (d + 1) + 30 ≤ 30 * (d + 2) by omega, by decide, by decide⟩ (Nat.le_of_ble_eq_true rfl) dX3_init_146 (cX2_init G d (show Is 220 2 by unfold Is; decide +kernel) hc74) (fun cs107 hK => ?_) rfl
  obtain ⟨-, hK1, hK2⟩ := hK
  have hc0 : cs107 146 = .inr (3, [.ref (gA G 8), .ref (gA G 10), .int 0, .int 0, .ref (gA G 147), .ref (gA G 148), .ref (gA G 149), .ref (gA G 150), .ref (gA G 151), .ref (gA G 152), .ref (gA G 153), .int 0, .int 0, .ref (gA G 154), .ref (gA G 155), .ref (gA G 156), .ref (gA G 157), .int 0, .int 0, .int 0]) := (hK1 _ (by omega)).trans hc0
  have hc1 : cs107 147 = .inl (gY G 14, 10, .inl (fun _ => 0)) := (hK1 _ (by omega)).trans hc1
  have hc2 : cs107 148 = .inl (gY G 14, 10, .inl (fun _ => 0)) := (hK1 _ (by omega)).trans hc2
  have hc3 : cs107 149 = .inl (gY G 14, 10, .inl (fun _ => 0)) := (hK1 _ (by omega)).trans hc3
  have hc4 : cs107 150 = .inl (gY G 14, 10, .inl (fun _ => 0)) := (hK1 _ (by omega)).trans hc4
  have hc5 : cs107 151 = .inl (gY G 14, 10, .inl (fun _ => 0)) := (hK1 _ (by omega)).trans hc5
  have hc6 : cs107 152 = refI G 22 152 4 := (hK1 _ (by omega)).trans hc6
  have hc7 : cs107 153 = refI G 17 153 23 := (hK1 _ (by omega)).trans hc7
  have hc8 : cs107 154 = .inl (gY G 14, 60, .inl (fun _ => 0)) := (hK1 _ (by omega)).trans hc8
  have hc9 : cs107 155 = .inl (gY G 14, 60, .inl (fun _ => 0)) := (hK1 _ (by omega)).trans hc9
  have hc10 : cs107 156 = .inl (gY G 14, 60, .inl (fun _ => 0)) := (hK1 _ (by omega)).trans hc10
  have hc11 : cs107 157 = .inl (gY G 14, 60, .inl (fun _ => 0)) := (hK1 _ (by omega)).trans hc11
  have hr12 : ∀ n, 158 ≤ n → n < 220 → cs107 n = finY G n := fun n a b => (hK1 n (by omega)).trans (hr12 n a b)
  have hlo : ∀ n, n < 146 → cs107 n = cs n := fun n a => (hK1 n (by omega)).trans (hlo n a)
  have hr12 : ∀ n, 158 ≤ n → n < 222 → cs107 n = finY G n := fun n a b => if h : n < 220 then hr12 n a h else hK2 n (by omega) (by omega)
  clear hK1 hK2
  refine ry_aast (κ := 17) (κ' := 2) (t0 := 4) (L := 30) (n := 153) (v := 220) (i := 23) (by omega) (by omega) rfl rfl hc7 (ln_at_3_7) ((hr12 220 (by omega) (by omega)).trans (fyE_2 (show Is 220 2 by unfold Is; decide +kernel))) (by decide) rfl (by decide +kernel) dX3_init_149 ?_
  refine ry_cs (fun cs108 e108 => ?_)
  have hc0 : cs108 146 = .inr (3, [.ref (gA G 8), .ref (gA G 10), .int 0, .int 0, .ref (gA G 147), .ref (gA G 148), .ref (gA G 149), .ref (gA G 150), .ref (gA G 151), .ref (gA G 152), .ref (gA G 153), .int 0, .int 0, .ref (gA G 154), .ref (gA G 155), .ref (gA G 156), .ref (gA G 157), .int 0, .int 0, .int 0]) := by rw [e108, va_up_ne _ _ (by omega)]; exact hc0
  have hc1 : cs108 147 = .inl (gY G 14, 10, .inl (fun _ => 0)) := by rw [e108, va_up_ne _ _ (by omega)]; exact hc1
  have hc2 : cs108 148 = .inl (gY G 14, 10, .inl (fun _ => 0)) := by rw [e108, va_up_ne _ _ (by omega)]; exact hc2
  have hc3 : cs108 149 = .inl (gY G 14, 10, .inl (fun _ => 0)) := by rw [e108, va_up_ne _ _ (by omega)]; exact hc3
  have hc4 : cs108 150 = .inl (gY G 14, 10, .inl (fun _ => 0)) := by rw [e108, va_up_ne _ _ (by omega)]; exact hc4
  have hc5 : cs108 151 = .inl (gY G 14, 10, .inl (fun _ => 0)) := by rw [e108, va_up_ne _ _ (by omega)]; exact hc5
  have hc6 : cs108 152 = refI G 22 152 4 := by rw [e108, va_up_ne _ _ (by omega)]; exact hc6
  have hc8 : cs108 154 = .inl (gY G 14, 60, .inl (fun _ => 0)) := by rw [e108, va_up_ne _ _ (by omega)]; exact hc8
  have hc9 : cs108 155 = .inl (gY G 14, 60, .inl (fun _ => 0)) := by rw [e108, va_up_ne _ _ (by omega)]; exact hc9
  have hc10 : cs108 156 = .inl (gY G 14, 60, .inl (fun _ => 0)) := by rw [e108, va_up_ne _ _ (by omega)]; exact hc10
  have hc11 : cs108 157 = .inl (gY G 14, 60, .inl (fun _ => 0)) := by rw [e108, va_up_ne _ _ (by omega)]; exact hc11
  have hc7 : cs108 153 = refI G 17 153 24 := by rw [e108]; exact va_up_self _ _ _
  have hr12 : ∀ n, 158 ≤ n → n < 222 → cs108 n = finY G n := fun n a b => by rw [e108, va_up_ne _ _ (by omega)]; exact hr12 n a b
  have hlo : ∀ n, n < 146 → cs108 n = cs n := fun n a => by rw [e108, va_up_ne _ _ (by omega)]; exact hlo n a
  clear e108
  refine ry_iinc 3 [(0, .ref (gA G 146)), (1, .ref (gA G 8)), (2, .ref (gA G 10)), (3, .int 24)] [1, 2, 3, 0] dX3_init_150 rfl rfl (by decide) rfl ?_
  refine ry_goto 131 dX3_init_153 (by decide) ?_
  refine ry_iload_n 3 dX3_init_131 rfl rfl ?_
  refine ry_bipush (v := 30) dX3_init_132 rfl ?_
  refine ry_icmp_ge 156 dX3_init_134 (by decide) (fun q => absurd q (by decide)) (fun _ => ?_)
  refine ry_aload_n 0 dX3_init_137 rfl rfl ?_
  refine ry_get fl_X3_35 (by omega) hc0 rfl dX3_init_138 ?_
  refine ry_iload_n 3 dX3_init_141 rfl rfl ?_
  refine ry_new (ci := 2) (fs := [.int 0, .int 0, .int 0, .int 0, .int 0, .int 0, .int 0, .int 0, .int 0, .int 0, .null]) tyX2 tyX2_ok rfl i_X2 wc_X3_33 wi_2 wn_2 bl_2 (by decide) (by decide) dX3_init_142 ?_
  refine ry_cs (fun cs109 e109 => ?_)
  have hc0 : cs109 146 = .inr (3, [.ref (gA G 8), .ref (gA G 10), .int 0, .int 0, .ref (gA G 147), .ref (gA G 148), .ref (gA G 149), .ref (gA G 150), .ref (gA G 151), .ref (gA G 152), .ref (gA G 153), .int 0, .int 0, .ref (gA G 154), .ref (gA G 155), .ref (gA G 156), .ref (gA G 157), .int 0, .int 0, .int 0]) := by rw [e109, va_up_ne _ _ (by omega)]; exact hc0
  have hc1 : cs109 147 = .inl (gY G 14, 10, .inl (fun _ => 0)) := by rw [e109, va_up_ne _ _ (by omega)]; exact hc1
  have hc2 : cs109 148 = .inl (gY G 14, 10, .inl (fun _ => 0)) := by rw [e109, va_up_ne _ _ (by omega)]; exact hc2
  have hc3 : cs109 149 = .inl (gY G 14, 10, .inl (fun _ => 0)) := by rw [e109, va_up_ne _ _ (by omega)]; exact hc3
  have hc4 : cs109 150 = .inl (gY G 14, 10, .inl (fun _ => 0)) := by rw [e109, va_up_ne _ _ (by omega)]; exact hc4
  have hc5 : cs109 151 = .inl (gY G 14, 10, .inl (fun _ => 0)) := by rw [e109, va_up_ne _ _ (by omega)]; exact hc5
  have hc6 : cs109 152 = refI G 22 152 4 := by rw [e109, va_up_ne _ _ (by omega)]; exact hc6
  have hc7 : cs109 153 = refI G 17 153 24 := by rw [e109, va_up_ne _ _ (by omega)]; exact hc7
  have hc8 : cs109 154 = .inl (gY G 14, 60, .inl (fun _ => 0)) := by rw [e109, va_up_ne _ _ (by omega)]; exact hc8
  have hc9 : cs109 155 = .inl (gY G 14, 60, .inl (fun _ => 0)) := by rw [e109, va_up_ne _ _ (by omega)]; exact hc9
  have hc10 : cs109 156 = .inl (gY G 14, 60, .inl (fun _ => 0)) := by rw [e109, va_up_ne _ _ (by omega)]; exact hc10
  have hc11 : cs109 157 = .inl (gY G 14, 60, .inl (fun _ => 0)) := by rw [e109, va_up_ne _ _ (by omega)]; exact hc11
  have hc76 : cs109 222 = .inr (2, [.int 0, .int 0, .int 0, .int 0, .int 0, .int 0, .int 0, .int 0, .int 0, .int 0, .null]) := by rw [e109]; exact va_up_self _ _ _
  have hr12 : ∀ n, 158 ≤ n → n < 222 → cs109 n = finY G n := fun n a b => by rw [e109, va_up_ne _ _ (by omega)]; exact hr12 n a b
  have hlo : ∀ n, n < 146 → cs109 n = cs n := fun n a => by rw [e109, va_up_ne _ _ (by omega)]; exact hlo n a
  clear e109
  refine ry_dup dX3_init_145 rfl ?_
  refine ry_callIN (As := []) (n := 222) (mc := 1) (ms := 10) (Kc G 222 2 _) (fun _ _ h => by have := h.1; omega) mw_X2_init rfl win_X2_init wm_X3_60 rfl ⟨show d + 1 + 1 ≤ d + 2 by omega, show 30 * (d + 1) + 30 ≤ 30 * (d + 2) by omega, by decide, by decide⟩ (Nat.le_of_ble_eq_true rfl) dX3_init_146 (cX2_init G d (show Is 222 2 by unfold Is; decide +kernel) hc76) (fun cs110 hK => ?_) rfl
  obtain ⟨-, hK1, hK2⟩ := hK
  have hc0 : cs110 146 = .inr (3, [.ref (gA G 8), .ref (gA G 10), .int 0, .int 0, .ref (gA G 147), .ref (gA G 148), .ref (gA G 149), .ref (gA G 150), .ref (gA G 151), .ref (gA G 152), .ref (gA G 153), .int 0, .int 0, .ref (gA G 154), .ref (gA G 155), .ref (gA G 156), .ref (gA G 157), .int 0, .int 0, .int 0]) := (hK1 _ (by omega)).trans hc0
  have hc1 : cs110 147 = .inl (gY G 14, 10, .inl (fun _ => 0)) := (hK1 _ (by omega)).trans hc1
  have hc2 : cs110 148 = .inl (gY G 14, 10, .inl (fun _ => 0)) := (hK1 _ (by omega)).trans hc2
  have hc3 : cs110 149 = .inl (gY G 14, 10, .inl (fun _ => 0)) := (hK1 _ (by omega)).trans hc3
  have hc4 : cs110 150 = .inl (gY G 14, 10, .inl (fun _ => 0)) := (hK1 _ (by omega)).trans hc4
  have hc5 : cs110 151 = .inl (gY G 14, 10, .inl (fun _ => 0)) := (hK1 _ (by omega)).trans hc5
  have hc6 : cs110 152 = refI G 22 152 4 := (hK1 _ (by omega)).trans hc6
  have hc7 : cs110 153 = refI G 17 153 24 := (hK1 _ (by omega)).trans hc7
  have hc8 : cs110 154 = .inl (gY G 14, 60, .inl (fun _ => 0)) := (hK1 _ (by omega)).trans hc8
  have hc9 : cs110 155 = .inl (gY G 14, 60, .inl (fun _ => 0)) := (hK1 _ (by omega)).trans hc9
  have hc10 : cs110 156 = .inl (gY G 14, 60, .inl (fun _ => 0)) := (hK1 _ (by omega)).trans hc10
  have hc11 : cs110 157 = .inl (gY G 14, 60, .inl (fun _ => 0)) := (hK1 _ (by omega)).trans hc11
  have hr12 : ∀ n, 158 ≤ n → n < 222 → cs110 n = finY G n := fun n a b => (hK1 n (by omega)).trans (hr12 n a b)
  have hlo : ∀ n, n < 146 → cs110 n = cs n := fun n a => (hK1 n (by omega)).trans (hlo n a)
  have hr12 : ∀ n, 158 ≤ n → n < 224 → cs110 n = finY G n := fun n a b => if h : n < 222 then hr12 n a h else hK2 n (by omega) (by omega)
  clear hK1 hK2
  refine ry_aast (κ := 17) (κ' := 2) (t0 := 4) (L := 30) (n := 153) (v := 222) (i := 24) (by omega) (by omega) rfl rfl hc7 (ln_at_3_7) ((hr12 222 (by omega) (by omega)).trans (fyE_2 (show Is 222 2 by unfold Is; decide +kernel))) (by decide) rfl (by decide +kernel) dX3_init_149 ?_
  refine ry_cs (fun cs111 e111 => ?_)
  have hc0 : cs111 146 = .inr (3, [.ref (gA G 8), .ref (gA G 10), .int 0, .int 0, .ref (gA G 147), .ref (gA G 148), .ref (gA G 149), .ref (gA G 150), .ref (gA G 151), .ref (gA G 152), .ref (gA G 153), .int 0, .int 0, .ref (gA G 154), .ref (gA G 155), .ref (gA G 156), .ref (gA G 157), .int 0, .int 0, .int 0]) := by rw [e111, va_up_ne _ _ (by omega)]; exact hc0
  have hc1 : cs111 147 = .inl (gY G 14, 10, .inl (fun _ => 0)) := by rw [e111, va_up_ne _ _ (by omega)]; exact hc1
  have hc2 : cs111 148 = .inl (gY G 14, 10, .inl (fun _ => 0)) := by rw [e111, va_up_ne _ _ (by omega)]; exact hc2
  have hc3 : cs111 149 = .inl (gY G 14, 10, .inl (fun _ => 0)) := by rw [e111, va_up_ne _ _ (by omega)]; exact hc3
  have hc4 : cs111 150 = .inl (gY G 14, 10, .inl (fun _ => 0)) := by rw [e111, va_up_ne _ _ (by omega)]; exact hc4
  have hc5 : cs111 151 = .inl (gY G 14, 10, .inl (fun _ => 0)) := by rw [e111, va_up_ne _ _ (by omega)]; exact hc5
  have hc6 : cs111 152 = refI G 22 152 4 := by rw [e111, va_up_ne _ _ (by omega)]; exact hc6
  have hc8 : cs111 154 = .inl (gY G 14, 60, .inl (fun _ => 0)) := by rw [e111, va_up_ne _ _ (by omega)]; exact hc8
  have hc9 : cs111 155 = .inl (gY G 14, 60, .inl (fun _ => 0)) := by rw [e111, va_up_ne _ _ (by omega)]; exact hc9
  have hc10 : cs111 156 = .inl (gY G 14, 60, .inl (fun _ => 0)) := by rw [e111, va_up_ne _ _ (by omega)]; exact hc10
  have hc11 : cs111 157 = .inl (gY G 14, 60, .inl (fun _ => 0)) := by rw [e111, va_up_ne _ _ (by omega)]; exact hc11
  have hc7 : cs111 153 = refI G 17 153 25 := by rw [e111]; exact va_up_self _ _ _
  have hr12 : ∀ n, 158 ≤ n → n < 224 → cs111 n = finY G n := fun n a b => by rw [e111, va_up_ne _ _ (by omega)]; exact hr12 n a b
  have hlo : ∀ n, n < 146 → cs111 n = cs n := fun n a => by rw [e111, va_up_ne _ _ (by omega)]; exact hlo n a
  clear e111
  refine ry_iinc 3 [(0, .ref (gA G 146)), (1, .ref (gA G 8)), (2, .ref (gA G 10)), (3, .int 25)] [1, 2, 3, 0] dX3_init_150 rfl rfl (by decide) rfl ?_
  refine ry_goto 131 dX3_init_153 (by decide) ?_
  refine ry_iload_n 3 dX3_init_131 rfl rfl ?_
  refine ry_bipush (v := 30) dX3_init_132 rfl ?_
  refine ry_icmp_ge 156 dX3_init_134 (by decide) (fun q => absurd q (by decide)) (fun _ => ?_)
  refine ry_aload_n 0 dX3_init_137 rfl rfl ?_
  refine ry_get fl_X3_35 (by omega) hc0 rfl dX3_init_138 ?_
  refine ry_iload_n 3 dX3_init_141 rfl rfl ?_
  refine ry_new (ci := 2) (fs := [.int 0, .int 0, .int 0, .int 0, .int 0, .int 0, .int 0, .int 0, .int 0, .int 0, .null]) tyX2 tyX2_ok rfl i_X2 wc_X3_33 wi_2 wn_2 bl_2 (by decide) (by decide) dX3_init_142 ?_
  refine ry_cs (fun cs112 e112 => ?_)
  have hc0 : cs112 146 = .inr (3, [.ref (gA G 8), .ref (gA G 10), .int 0, .int 0, .ref (gA G 147), .ref (gA G 148), .ref (gA G 149), .ref (gA G 150), .ref (gA G 151), .ref (gA G 152), .ref (gA G 153), .int 0, .int 0, .ref (gA G 154), .ref (gA G 155), .ref (gA G 156), .ref (gA G 157), .int 0, .int 0, .int 0]) := by rw [e112, va_up_ne _ _ (by omega)]; exact hc0
  have hc1 : cs112 147 = .inl (gY G 14, 10, .inl (fun _ => 0)) := by rw [e112, va_up_ne _ _ (by omega)]; exact hc1
  have hc2 : cs112 148 = .inl (gY G 14, 10, .inl (fun _ => 0)) := by rw [e112, va_up_ne _ _ (by omega)]; exact hc2
  have hc3 : cs112 149 = .inl (gY G 14, 10, .inl (fun _ => 0)) := by rw [e112, va_up_ne _ _ (by omega)]; exact hc3
  have hc4 : cs112 150 = .inl (gY G 14, 10, .inl (fun _ => 0)) := by rw [e112, va_up_ne _ _ (by omega)]; exact hc4
  have hc5 : cs112 151 = .inl (gY G 14, 10, .inl (fun _ => 0)) := by rw [e112, va_up_ne _ _ (by omega)]; exact hc5
  have hc6 : cs112 152 = refI G 22 152 4 := by rw [e112, va_up_ne _ _ (by omega)]; exact hc6
  have hc7 : cs112 153 = refI G 17 153 25 := by rw [e112, va_up_ne _ _ (by omega)]; exact hc7
  have hc8 : cs112 154 = .inl (gY G 14, 60, .inl (fun _ => 0)) := by rw [e112, va_up_ne _ _ (by omega)]; exact hc8
  have hc9 : cs112 155 = .inl (gY G 14, 60, .inl (fun _ => 0)) := by rw [e112, va_up_ne _ _ (by omega)]; exact hc9
  have hc10 : cs112 156 = .inl (gY G 14, 60, .inl (fun _ => 0)) := by rw [e112, va_up_ne _ _ (by omega)]; exact hc10
  have hc11 : cs112 157 = .inl (gY G 14, 60, .inl (fun _ => 0)) := by rw [e112, va_up_ne _ _ (by omega)]; exact hc11
  have hc78 : cs112 224 = .inr (2, [.int 0, .int 0, .int 0, .int 0, .int 0, .int 0, .int 0, .int 0, .int 0, .int 0, .null]) := by rw [e112]; exact va_up_self _ _ _
  have hr12 : ∀ n, 158 ≤ n → n < 224 → cs112 n = finY G n := fun n a b => by rw [e112, va_up_ne _ _ (by omega)]; exact hr12 n a b
  have hlo : ∀ n, n < 146 → cs112 n = cs n := fun n a => by rw [e112, va_up_ne _ _ (by omega)]; exact hlo n a
  clear e112
  refine ry_dup dX3_init_145 rfl ?_
  refine ry_callIN (As := []) (n := 224) (mc := 1) (ms := 10) (Kc G 224 2 _) (fun _ _ h => by have := h.1; omega) mw_X2_init rfl win_X2_init wm_X3_60 rfl ⟨show d + 1 + 1 ≤ d + 2 by omega, show 30 * (d + 1) + 30 ≤ 30 * (d + 2) by omega, by decide, by decide⟩ (Nat.le_of_ble_eq_true rfl) dX3_init_146 (cX2_init G d (show Is 224 2 by unfold Is; decide +kernel) hc78) (fun cs113 hK => ?_) rfl
  obtain ⟨-, hK1, hK2⟩ := hK
  have hc0 : cs113 146 = .inr (3, [.ref (gA G 8), .ref (gA G 10), .int 0, .int 0, .ref (gA G 147), .ref (gA G 148), .ref (gA G 149), .ref (gA G 150), .ref (gA G 151), .ref (gA G 152), .ref (gA G 153), .int 0, .int 0, .ref (gA G 154), .ref (gA G 155), .ref (gA G 156), .ref (gA G 157), .int 0, .int 0, .int 0]) := (hK1 _ (by omega)).trans hc0
  have hc1 : cs113 147 = .inl (gY G 14, 10, .inl (fun _ => 0)) := (hK1 _ (by omega)).trans hc1
  have hc2 : cs113 148 = .inl (gY G 14, 10, .inl (fun _ => 0)) := (hK1 _ (by omega)).trans hc2
  have hc3 : cs113 149 = .inl (gY G 14, 10, .inl (fun _ => 0)) := (hK1 _ (by omega)).trans hc3
  have hc4 : cs113 150 = .inl (gY G 14, 10, .inl (fun _ => 0)) := (hK1 _ (by omega)).trans hc4
  have hc5 : cs113 151 = .inl (gY G 14, 10, .inl (fun _ => 0)) := (hK1 _ (by omega)).trans hc5
  have hc6 : cs113 152 = refI G 22 152 4 := (hK1 _ (by omega)).trans hc6
  have hc7 : cs113 153 = refI G 17 153 25 := (hK1 _ (by omega)).trans hc7
  have hc8 : cs113 154 = .inl (gY G 14, 60, .inl (fun _ => 0)) := (hK1 _ (by omega)).trans hc8
  have hc9 : cs113 155 = .inl (gY G 14, 60, .inl (fun _ => 0)) := (hK1 _ (by omega)).trans hc9
  have hc10 : cs113 156 = .inl (gY G 14, 60, .inl (fun _ => 0)) := (hK1 _ (by omega)).trans hc10
  have hc11 : cs113 157 = .inl (gY G 14, 60, .inl (fun _ => 0)) := (hK1 _ (by omega)).trans hc11
  have hr12 : ∀ n, 158 ≤ n → n < 224 → cs113 n = finY G n := fun n a b => (hK1 n (by omega)).trans (hr12 n a b)
  have hlo : ∀ n, n < 146 → cs113 n = cs n := fun n a => (hK1 n (by omega)).trans (hlo n a)
  have hr12 : ∀ n, 158 ≤ n → n < 226 → cs113 n = finY G n := fun n a b => if h : n < 224 then hr12 n a h else hK2 n (by omega) (by omega)
  clear hK1 hK2
  refine ry_aast (κ := 17) (κ' := 2) (t0 := 4) (L := 30) (n := 153) (v := 224) (i := 25) (by omega) (by omega) rfl rfl hc7 (ln_at_3_7) ((hr12 224 (by omega) (by omega)).trans (fyE_2 (show Is 224 2 by unfold Is; decide +kernel))) (by decide) rfl (by decide +kernel) dX3_init_149 ?_
  refine ry_cs (fun cs114 e114 => ?_)
  have hc0 : cs114 146 = .inr (3, [.ref (gA G 8), .ref (gA G 10), .int 0, .int 0, .ref (gA G 147), .ref (gA G 148), .ref (gA G 149), .ref (gA G 150), .ref (gA G 151), .ref (gA G 152), .ref (gA G 153), .int 0, .int 0, .ref (gA G 154), .ref (gA G 155), .ref (gA G 156), .ref (gA G 157), .int 0, .int 0, .int 0]) := by rw [e114, va_up_ne _ _ (by omega)]; exact hc0
  have hc1 : cs114 147 = .inl (gY G 14, 10, .inl (fun _ => 0)) := by rw [e114, va_up_ne _ _ (by omega)]; exact hc1
  have hc2 : cs114 148 = .inl (gY G 14, 10, .inl (fun _ => 0)) := by rw [e114, va_up_ne _ _ (by omega)]; exact hc2
  have hc3 : cs114 149 = .inl (gY G 14, 10, .inl (fun _ => 0)) := by rw [e114, va_up_ne _ _ (by omega)]; exact hc3
  have hc4 : cs114 150 = .inl (gY G 14, 10, .inl (fun _ => 0)) := by rw [e114, va_up_ne _ _ (by omega)]; exact hc4
  have hc5 : cs114 151 = .inl (gY G 14, 10, .inl (fun _ => 0)) := by rw [e114, va_up_ne _ _ (by omega)]; exact hc5
  have hc6 : cs114 152 = refI G 22 152 4 := by rw [e114, va_up_ne _ _ (by omega)]; exact hc6
  have hc8 : cs114 154 = .inl (gY G 14, 60, .inl (fun _ => 0)) := by rw [e114, va_up_ne _ _ (by omega)]; exact hc8
  have hc9 : cs114 155 = .inl (gY G 14, 60, .inl (fun _ => 0)) := by rw [e114, va_up_ne _ _ (by omega)]; exact hc9
  have hc10 : cs114 156 = .inl (gY G 14, 60, .inl (fun _ => 0)) := by rw [e114, va_up_ne _ _ (by omega)]; exact hc10
  have hc11 : cs114 157 = .inl (gY G 14, 60, .inl (fun _ => 0)) := by rw [e114, va_up_ne _ _ (by omega)]; exact hc11
  have hc7 : cs114 153 = refI G 17 153 26 := by rw [e114]; exact va_up_self _ _ _
  have hr12 : ∀ n, 158 ≤ n → n < 226 → cs114 n = finY G n := fun n a b => by rw [e114, va_up_ne _ _ (by omega)]; exact hr12 n a b
  have hlo : ∀ n, n < 146 → cs114 n = cs n := fun n a => by rw [e114, va_up_ne _ _ (by omega)]; exact hlo n a
  clear e114
  refine ry_iinc 3 [(0, .ref (gA G 146)), (1, .ref (gA G 8)), (2, .ref (gA G 10)), (3, .int 26)] [1, 2, 3, 0] dX3_init_150 rfl rfl (by decide) rfl ?_
  refine ry_goto 131 dX3_init_153 (by decide) ?_
  refine ry_iload_n 3 dX3_init_131 rfl rfl ?_
  refine ry_bipush (v := 30) dX3_init_132 rfl ?_
  refine ry_icmp_ge 156 dX3_init_134 (by decide) (fun q => absurd q (by decide)) (fun _ => ?_)
  refine ry_aload_n 0 dX3_init_137 rfl rfl ?_
  refine ry_get fl_X3_35 (by omega) hc0 rfl dX3_init_138 ?_
  refine ry_iload_n 3 dX3_init_141 rfl rfl ?_
  refine ry_new (ci := 2) (fs := [.int 0, .int 0, .int 0, .int 0, .int 0, .int 0, .int 0, .int 0, .int 0, .int 0, .null]) tyX2 tyX2_ok rfl i_X2 wc_X3_33 wi_2 wn_2 bl_2 (by decide) (by decide) dX3_init_142 ?_
  refine ry_cs (fun cs115 e115 => ?_)
  have hc0 : cs115 146 = .inr (3, [.ref (gA G 8), .ref (gA G 10), .int 0, .int 0, .ref (gA G 147), .ref (gA G 148), .ref (gA G 149), .ref (gA G 150), .ref (gA G 151), .ref (gA G 152), .ref (gA G 153), .int 0, .int 0, .ref (gA G 154), .ref (gA G 155), .ref (gA G 156), .ref (gA G 157), .int 0, .int 0, .int 0]) := by rw [e115, va_up_ne _ _ (by omega)]; exact hc0
  have hc1 : cs115 147 = .inl (gY G 14, 10, .inl (fun _ => 0)) := by rw [e115, va_up_ne _ _ (by omega)]; exact hc1
  have hc2 : cs115 148 = .inl (gY G 14, 10, .inl (fun _ => 0)) := by rw [e115, va_up_ne _ _ (by omega)]; exact hc2
  have hc3 : cs115 149 = .inl (gY G 14, 10, .inl (fun _ => 0)) := by rw [e115, va_up_ne _ _ (by omega)]; exact hc3
  have hc4 : cs115 150 = .inl (gY G 14, 10, .inl (fun _ => 0)) := by rw [e115, va_up_ne _ _ (by omega)]; exact hc4
  have hc5 : cs115 151 = .inl (gY G 14, 10, .inl (fun _ => 0)) := by rw [e115, va_up_ne _ _ (by omega)]; exact hc5
  have hc6 : cs115 152 = refI G 22 152 4 := by rw [e115, va_up_ne _ _ (by omega)]; exact hc6
  have hc7 : cs115 153 = refI G 17 153 26 := by rw [e115, va_up_ne _ _ (by omega)]; exact hc7
  have hc8 : cs115 154 = .inl (gY G 14, 60, .inl (fun _ => 0)) := by rw [e115, va_up_ne _ _ (by omega)]; exact hc8
  have hc9 : cs115 155 = .inl (gY G 14, 60, .inl (fun _ => 0)) := by rw [e115, va_up_ne _ _ (by omega)]; exact hc9
  have hc10 : cs115 156 = .inl (gY G 14, 60, .inl (fun _ => 0)) := by rw [e115, va_up_ne _ _ (by omega)]; exact hc10
  have hc11 : cs115 157 = .inl (gY G 14, 60, .inl (fun _ => 0)) := by rw [e115, va_up_ne _ _ (by omega)]; exact hc11
  have hc80 : cs115 226 = .inr (2, [.int 0, .int 0, .int 0, .int 0, .int 0, .int 0, .int 0, .int 0, .int 0, .int 0, .null]) := by rw [e115]; exact va_up_self _ _ _
  have hr12 : ∀ n, 158 ≤ n → n < 226 → cs115 n = finY G n := fun n a b => by rw [e115, va_up_ne _ _ (by omega)]; exact hr12 n a b
  have hlo : ∀ n, n < 146 → cs115 n = cs n := fun n a => by rw [e115, va_up_ne _ _ (by omega)]; exact hlo n a
  clear e115
  refine ry_dup dX3_init_145 rfl ?_
  refine ry_callIN (As := []) (n := 226) (mc := 1) (ms := 10) (Kc G 226 2 _) (fun _ _ h => by have := h.1; omega) mw_X2_init rfl win_X2_init wm_X3_60 rfl ⟨show d + 1 + 1 ≤ d + 2 by omega, show 30 * (d + 1) + 30 ≤ 30 * (d + 2) by omega, by decide, by decide⟩ (Nat.le_of_ble_eq_true rfl) dX3_init_146 (cX2_init G d (show Is 226 2 by unfold Is; decide +kernel) hc80) (fun cs116 hK => ?_) rfl
  obtain ⟨-, hK1, hK2⟩ := hK
  have hc0 : cs116 146 = .inr (3, [.ref (gA G 8), .ref (gA G 10), .int 0, .int 0, .ref (gA G 147), .ref (gA G 148), .ref (gA G 149), .ref (gA G 150), .ref (gA G 151), .ref (gA G 152), .ref (gA G 153), .int 0, .int 0, .ref (gA G 154), .ref (gA G 155), .ref (gA G 156), .ref (gA G 157), .int 0, .int 0, .int 0]) := (hK1 _ (by omega)).trans hc0
  have hc1 : cs116 147 = .inl (gY G 14, 10, .inl (fun _ => 0)) := (hK1 _ (by omega)).trans hc1
  have hc2 : cs116 148 = .inl (gY G 14, 10, .inl (fun _ => 0)) := (hK1 _ (by omega)).trans hc2
  have hc3 : cs116 149 = .inl (gY G 14, 10, .inl (fun _ => 0)) := (hK1 _ (by omega)).trans hc3
  have hc4 : cs116 150 = .inl (gY G 14, 10, .inl (fun _ => 0)) := (hK1 _ (by omega)).trans hc4
  have hc5 : cs116 151 = .inl (gY G 14, 10, .inl (fun _ => 0)) := (hK1 _ (by omega)).trans hc5
  have hc6 : cs116 152 = refI G 22 152 4 := (hK1 _ (by omega)).trans hc6
  have hc7 : cs116 153 = refI G 17 153 26 := (hK1 _ (by omega)).trans hc7
  have hc8 : cs116 154 = .inl (gY G 14, 60, .inl (fun _ => 0)) := (hK1 _ (by omega)).trans hc8
  have hc9 : cs116 155 = .inl (gY G 14, 60, .inl (fun _ => 0)) := (hK1 _ (by omega)).trans hc9
  have hc10 : cs116 156 = .inl (gY G 14, 60, .inl (fun _ => 0)) := (hK1 _ (by omega)).trans hc10
  have hc11 : cs116 157 = .inl (gY G 14, 60, .inl (fun _ => 0)) := (hK1 _ (by omega)).trans hc11
  have hr12 : ∀ n, 158 ≤ n → n < 226 → cs116 n = finY G n := fun n a b => (hK1 n (by omega)).trans (hr12 n a b)
  have hlo : ∀ n, n < 146 → cs116 n = cs n := fun n a => (hK1 n (by omega)).trans (hlo n a)
  have hr12 : ∀ n, 158 ≤ n → n < 228 → cs116 n = finY G n := fun n a b => if h : n < 226 then hr12 n a h else hK2 n (by omega) (by omega)
  clear hK1 hK2
  refine ry_aast (κ := 17) (κ' := 2) (t0 := 4) (L := 30) (n := 153) (v := 226) (i := 26) (by omega) (by omega) rfl rfl hc7 (ln_at_3_7) ((hr12 226 (by omega) (by omega)).trans (fyE_2 (show Is 226 2 by unfold Is; decide +kernel))) (by decide) rfl (by decide +kernel) dX3_init_149 ?_
  refine ry_cs (fun cs117 e117 => ?_)
  have hc0 : cs117 146 = .inr (3, [.ref (gA G 8), .ref (gA G 10), .int 0, .int 0, .ref (gA G 147), .ref (gA G 148), .ref (gA G 149), .ref (gA G 150), .ref (gA G 151), .ref (gA G 152), .ref (gA G 153), .int 0, .int 0, .ref (gA G 154), .ref (gA G 155), .ref (gA G 156), .ref (gA G 157), .int 0, .int 0, .int 0]) := by rw [e117, va_up_ne _ _ (by omega)]; exact hc0
  have hc1 : cs117 147 = .inl (gY G 14, 10, .inl (fun _ => 0)) := by rw [e117, va_up_ne _ _ (by omega)]; exact hc1
  have hc2 : cs117 148 = .inl (gY G 14, 10, .inl (fun _ => 0)) := by rw [e117, va_up_ne _ _ (by omega)]; exact hc2
  have hc3 : cs117 149 = .inl (gY G 14, 10, .inl (fun _ => 0)) := by rw [e117, va_up_ne _ _ (by omega)]; exact hc3
  have hc4 : cs117 150 = .inl (gY G 14, 10, .inl (fun _ => 0)) := by rw [e117, va_up_ne _ _ (by omega)]; exact hc4
  have hc5 : cs117 151 = .inl (gY G 14, 10, .inl (fun _ => 0)) := by rw [e117, va_up_ne _ _ (by omega)]; exact hc5
  have hc6 : cs117 152 = refI G 22 152 4 := by rw [e117, va_up_ne _ _ (by omega)]; exact hc6
  have hc8 : cs117 154 = .inl (gY G 14, 60, .inl (fun _ => 0)) := by rw [e117, va_up_ne _ _ (by omega)]; exact hc8
  have hc9 : cs117 155 = .inl (gY G 14, 60, .inl (fun _ => 0)) := by rw [e117, va_up_ne _ _ (by omega)]; exact hc9
  have hc10 : cs117 156 = .inl (gY G 14, 60, .inl (fun _ => 0)) := by rw [e117, va_up_ne _ _ (by omega)]; exact hc10
  have hc11 : cs117 157 = .inl (gY G 14, 60, .inl (fun _ => 0)) := by rw [e117, va_up_ne _ _ (by omega)]; exact hc11
  have hc7 : cs117 153 = refI G 17 153 27 := by rw [e117]; exact va_up_self _ _ _
  have hr12 : ∀ n, 158 ≤ n → n < 228 → cs117 n = finY G n := fun n a b => by rw [e117, va_up_ne _ _ (by omega)]; exact hr12 n a b
  have hlo : ∀ n, n < 146 → cs117 n = cs n := fun n a => by rw [e117, va_up_ne _ _ (by omega)]; exact hlo n a
  clear e117
  refine ry_iinc 3 [(0, .ref (gA G 146)), (1, .ref (gA G 8)), (2, .ref (gA G 10)), (3, .int 27)] [1, 2, 3, 0] dX3_init_150 rfl rfl (by decide) rfl ?_
  refine ry_goto 131 dX3_init_153 (by decide) ?_
  refine ry_iload_n 3 dX3_init_131 rfl rfl ?_
  refine ry_bipush (v := 30) dX3_init_132 rfl ?_
  refine ry_icmp_ge 156 dX3_init_134 (by decide) (fun q => absurd q (by decide)) (fun _ => ?_)
  refine ry_aload_n 0 dX3_init_137 rfl rfl ?_
  refine ry_get fl_X3_35 (by omega) hc0 rfl dX3_init_138 ?_
  refine ry_iload_n 3 dX3_init_141 rfl rfl ?_
  refine ry_new (ci := 2) (fs := [.int 0, .int 0, .int 0, .int 0, .int 0, .int 0, .int 0, .int 0, .int 0, .int 0, .null]) tyX2 tyX2_ok rfl i_X2 wc_X3_33 wi_2 wn_2 bl_2 (by decide) (by decide) dX3_init_142 ?_
  refine ry_cs (fun cs118 e118 => ?_)
  have hc0 : cs118 146 = .inr (3, [.ref (gA G 8), .ref (gA G 10), .int 0, .int 0, .ref (gA G 147), .ref (gA G 148), .ref (gA G 149), .ref (gA G 150), .ref (gA G 151), .ref (gA G 152), .ref (gA G 153), .int 0, .int 0, .ref (gA G 154), .ref (gA G 155), .ref (gA G 156), .ref (gA G 157), .int 0, .int 0, .int 0]) := by rw [e118, va_up_ne _ _ (by omega)]; exact hc0
  have hc1 : cs118 147 = .inl (gY G 14, 10, .inl (fun _ => 0)) := by rw [e118, va_up_ne _ _ (by omega)]; exact hc1
  have hc2 : cs118 148 = .inl (gY G 14, 10, .inl (fun _ => 0)) := by rw [e118, va_up_ne _ _ (by omega)]; exact hc2
  have hc3 : cs118 149 = .inl (gY G 14, 10, .inl (fun _ => 0)) := by rw [e118, va_up_ne _ _ (by omega)]; exact hc3
  have hc4 : cs118 150 = .inl (gY G 14, 10, .inl (fun _ => 0)) := by rw [e118, va_up_ne _ _ (by omega)]; exact hc4
  have hc5 : cs118 151 = .inl (gY G 14, 10, .inl (fun _ => 0)) := by rw [e118, va_up_ne _ _ (by omega)]; exact hc5
  have hc6 : cs118 152 = refI G 22 152 4 := by rw [e118, va_up_ne _ _ (by omega)]; exact hc6
  have hc7 : cs118 153 = refI G 17 153 27 := by rw [e118, va_up_ne _ _ (by omega)]; exact hc7
  have hc8 : cs118 154 = .inl (gY G 14, 60, .inl (fun _ => 0)) := by rw [e118, va_up_ne _ _ (by omega)]; exact hc8
  have hc9 : cs118 155 = .inl (gY G 14, 60, .inl (fun _ => 0)) := by rw [e118, va_up_ne _ _ (by omega)]; exact hc9
  have hc10 : cs118 156 = .inl (gY G 14, 60, .inl (fun _ => 0)) := by rw [e118, va_up_ne _ _ (by omega)]; exact hc10
  have hc11 : cs118 157 = .inl (gY G 14, 60, .inl (fun _ => 0)) := by rw [e118, va_up_ne _ _ (by omega)]; exact hc11
  have hc82 : cs118 228 = .inr (2, [.int 0, .int 0, .int 0, .int 0, .int 0, .int 0, .int 0, .int 0, .int 0, .int 0, .null]) := by rw [e118]; exact va_up_self _ _ _
  have hr12 : ∀ n, 158 ≤ n → n < 228 → cs118 n = finY G n := fun n a b => by rw [e118, va_up_ne _ _ (by omega)]; exact hr12 n a b
  have hlo : ∀ n, n < 146 → cs118 n = cs n := fun n a => by rw [e118, va_up_ne _ _ (by omega)]; exact hlo n a
  clear e118
  refine ry_dup dX3_init_145 rfl ?_
  refine ry_callIN (As := []) (n := 228) (mc := 1) (ms := 10) (Kc G 228 2 _) (fun _ _ h => by have := h.1; omega) mw_X2_init rfl win_X2_init wm_X3_60 rfl ⟨show d + 1 + 1 ≤ d + 2 by omega, show 30 * (d + 1) + 30 ≤ 30 * (d + 2) by omega, by decide, by decide⟩ (Nat.le_of_ble_eq_true rfl) dX3_init_146 (cX2_init G d (show Is 228 2 by unfold Is; decide +kernel) hc82) (fun cs119 hK => ?_) rfl
  obtain ⟨-, hK1, hK2⟩ := hK
  have hc0 : cs119 146 = .inr (3, [.ref (gA G 8), .ref (gA G 10), .int 0, .int 0, .ref (gA G 147), .ref (gA G 148), .ref (gA G 149), .ref (gA G 150), .ref (gA G 151), .ref (gA G 152), .ref (gA G 153), .int 0, .int 0, .ref (gA G 154), .ref (gA G 155), .ref (gA G 156), .ref (gA G 157), .int 0, .int 0, .int 0]) := (hK1 _ (by omega)).trans hc0
  have hc1 : cs119 147 = .inl (gY G 14, 10, .inl (fun _ => 0)) := (hK1 _ (by omega)).trans hc1
  have hc2 : cs119 148 = .inl (gY G 14, 10, .inl (fun _ => 0)) := (hK1 _ (by omega)).trans hc2
  have hc3 : cs119 149 = .inl (gY G 14, 10, .inl (fun _ => 0)) := (hK1 _ (by omega)).trans hc3
  have hc4 : cs119 150 = .inl (gY G 14, 10, .inl (fun _ => 0)) := (hK1 _ (by omega)).trans hc4
  have hc5 : cs119 151 = .inl (gY G 14, 10, .inl (fun _ => 0)) := (hK1 _ (by omega)).trans hc5
  have hc6 : cs119 152 = refI G 22 152 4 := (hK1 _ (by omega)).trans hc6
  have hc7 : cs119 153 = refI G 17 153 27 := (hK1 _ (by omega)).trans hc7
  have hc8 : cs119 154 = .inl (gY G 14, 60, .inl (fun _ => 0)) := (hK1 _ (by omega)).trans hc8
  have hc9 : cs119 155 = .inl (gY G 14, 60, .inl (fun _ => 0)) := (hK1 _ (by omega)).trans hc9
  have hc10 : cs119 156 = .inl (gY G 14, 60, .inl (fun _ => 0)) := (hK1 _ (by omega)).trans hc10
  have hc11 : cs119 157 = .inl (gY G 14, 60, .inl (fun _ => 0)) := (hK1 _ (by omega)).trans hc11
  have hr12 : ∀ n, 158 ≤ n → n < 228 → cs119 n = finY G n := fun n a b => (hK1 n (by omega)).trans (hr12 n a b)
  have hlo : ∀ n, n < 146 → cs119 n = cs n := fun n a => (hK1 n (by omega)).trans (hlo n a)
  have hr12 : ∀ n, 158 ≤ n → n < 230 → cs119 n = finY G n := fun n a b => if h : n < 228 then hr12 n a h else hK2 n (by omega) (by omega)
  clear hK1 hK2
  refine ry_aast (κ := 17) (κ' := 2) (t0 := 4) (L := 30) (n := 153) (v := 228) (i := 27) (by omega) (by omega) rfl rfl hc7 (ln_at_3_7) ((hr12 228 (by omega) (by omega)).trans (fyE_2 (show Is 228 2 by unfold Is; decide +kernel))) (by decide) rfl (by decide +kernel) dX3_init_149 ?_
  refine ry_cs (fun cs120 e120 => ?_)
  have hc0 : cs120 146 = .inr (3, [.ref (gA G 8), .ref (gA G 10), .int 0, .int 0, .ref (gA G 147), .ref (gA G 148), .ref (gA G 149), .ref (gA G 150), .ref (gA G 151), .ref (gA G 152), .ref (gA G 153), .int 0, .int 0, .ref (gA G 154), .ref (gA G 155), .ref (gA G 156), .ref (gA G 157), .int 0, .int 0, .int 0]) := by rw [e120, va_up_ne _ _ (by omega)]; exact hc0
  have hc1 : cs120 147 = .inl (gY G 14, 10, .inl (fun _ => 0)) := by rw [e120, va_up_ne _ _ (by omega)]; exact hc1
  have hc2 : cs120 148 = .inl (gY G 14, 10, .inl (fun _ => 0)) := by rw [e120, va_up_ne _ _ (by omega)]; exact hc2
  have hc3 : cs120 149 = .inl (gY G 14, 10, .inl (fun _ => 0)) := by rw [e120, va_up_ne _ _ (by omega)]; exact hc3
  have hc4 : cs120 150 = .inl (gY G 14, 10, .inl (fun _ => 0)) := by rw [e120, va_up_ne _ _ (by omega)]; exact hc4
  have hc5 : cs120 151 = .inl (gY G 14, 10, .inl (fun _ => 0)) := by rw [e120, va_up_ne _ _ (by omega)]; exact hc5
  have hc6 : cs120 152 = refI G 22 152 4 := by rw [e120, va_up_ne _ _ (by omega)]; exact hc6
  have hc8 : cs120 154 = .inl (gY G 14, 60, .inl (fun _ => 0)) := by rw [e120, va_up_ne _ _ (by omega)]; exact hc8
  have hc9 : cs120 155 = .inl (gY G 14, 60, .inl (fun _ => 0)) := by rw [e120, va_up_ne _ _ (by omega)]; exact hc9
  have hc10 : cs120 156 = .inl (gY G 14, 60, .inl (fun _ => 0)) := by rw [e120, va_up_ne _ _ (by omega)]; exact hc10
  have hc11 : cs120 157 = .inl (gY G 14, 60, .inl (fun _ => 0)) := by rw [e120, va_up_ne _ _ (by omega)]; exact hc11
  have hc7 : cs120 153 = refI G 17 153 28 := by rw [e120]; exact va_up_self _ _ _
  have hr12 : ∀ n, 158 ≤ n → n < 230 → cs120 n = finY G n := fun n a b => by rw [e120, va_up_ne _ _ (by omega)]; exact hr12 n a b
  have hlo : ∀ n, n < 146 → cs120 n = cs n := fun n a => by rw [e120, va_up_ne _ _ (by omega)]; exact hlo n a
  clear e120
  refine ry_iinc 3 [(0, .ref (gA G 146)), (1, .ref (gA G 8)), (2, .ref (gA G 10)), (3, .int 28)] [1, 2, 3, 0] dX3_init_150 rfl rfl (by decide) rfl ?_
  refine ry_goto 131 dX3_init_153 (by decide) ?_
  refine ry_iload_n 3 dX3_init_131 rfl rfl ?_
  refine ry_bipush (v := 30) dX3_init_132 rfl ?_
  refine ry_icmp_ge 156 dX3_init_134 (by decide) (fun q => absurd q (by decide)) (fun _ => ?_)
  refine ry_aload_n 0 dX3_init_137 rfl rfl ?_
  refine ry_get fl_X3_35 (by omega) hc0 rfl dX3_init_138 ?_
  refine ry_iload_n 3 dX3_init_141 rfl rfl ?_
  refine ry_new (ci := 2) (fs := [.int 0, .int 0, .int 0, .int 0, .int 0, .int 0, .int 0, .int 0, .int 0, .int 0, .null]) tyX2 tyX2_ok rfl i_X2 wc_X3_33 wi_2 wn_2 bl_2 (by decide) (by decide) dX3_init_142 ?_
  refine ry_cs (fun cs121 e121 => ?_)
  have hc0 : cs121 146 = .inr (3, [.ref (gA G 8), .ref (gA G 10), .int 0, .int 0, .ref (gA G 147), .ref (gA G 148), .ref (gA G 149), .ref (gA G 150), .ref (gA G 151), .ref (gA G 152), .ref (gA G 153), .int 0, .int 0, .ref (gA G 154), .ref (gA G 155), .ref (gA G 156), .ref (gA G 157), .int 0, .int 0, .int 0]) := by rw [e121, va_up_ne _ _ (by omega)]; exact hc0
  have hc1 : cs121 147 = .inl (gY G 14, 10, .inl (fun _ => 0)) := by rw [e121, va_up_ne _ _ (by omega)]; exact hc1
  have hc2 : cs121 148 = .inl (gY G 14, 10, .inl (fun _ => 0)) := by rw [e121, va_up_ne _ _ (by omega)]; exact hc2
  have hc3 : cs121 149 = .inl (gY G 14, 10, .inl (fun _ => 0)) := by rw [e121, va_up_ne _ _ (by omega)]; exact hc3
  have hc4 : cs121 150 = .inl (gY G 14, 10, .inl (fun _ => 0)) := by rw [e121, va_up_ne _ _ (by omega)]; exact hc4
  have hc5 : cs121 151 = .inl (gY G 14, 10, .inl (fun _ => 0)) := by rw [e121, va_up_ne _ _ (by omega)]; exact hc5
  have hc6 : cs121 152 = refI G 22 152 4 := by rw [e121, va_up_ne _ _ (by omega)]; exact hc6
  have hc7 : cs121 153 = refI G 17 153 28 := by rw [e121, va_up_ne _ _ (by omega)]; exact hc7
  have hc8 : cs121 154 = .inl (gY G 14, 60, .inl (fun _ => 0)) := by rw [e121, va_up_ne _ _ (by omega)]; exact hc8
  have hc9 : cs121 155 = .inl (gY G 14, 60, .inl (fun _ => 0)) := by rw [e121, va_up_ne _ _ (by omega)]; exact hc9
  have hc10 : cs121 156 = .inl (gY G 14, 60, .inl (fun _ => 0)) := by rw [e121, va_up_ne _ _ (by omega)]; exact hc10
  have hc11 : cs121 157 = .inl (gY G 14, 60, .inl (fun _ => 0)) := by rw [e121, va_up_ne _ _ (by omega)]; exact hc11
  have hc84 : cs121 230 = .inr (2, [.int 0, .int 0, .int 0, .int 0, .int 0, .int 0, .int 0, .int 0, .int 0, .int 0, .null]) := by rw [e121]; exact va_up_self _ _ _
  have hr12 : ∀ n, 158 ≤ n → n < 230 → cs121 n = finY G n := fun n a b => by rw [e121, va_up_ne _ _ (by omega)]; exact hr12 n a b
  have hlo : ∀ n, n < 146 → cs121 n = cs n := fun n a => by rw [e121, va_up_ne _ _ (by omega)]; exact hlo n a
  clear e121
  refine ry_dup dX3_init_145 rfl ?_
  refine ry_callIN (As := []) (n := 230) (mc := 1) (ms := 10) (Kc G 230 2 _) (fun _ _ h => by have := h.1; omega) mw_X2_init rfl win_X2_init wm_X3_60 rfl ⟨show d + 1 + 1 ≤ d + 2 by omega, show 30 * (d + 1) + 30 ≤ 30 * (d + 2) by omega, by decide, by decide⟩ (Nat.le_of_ble_eq_true rfl) dX3_init_146 (cX2_init G d (show Is 230 2 by unfold Is; decide +kernel) hc84) (fun cs122 hK => ?_) rfl
  obtain ⟨-, hK1, hK2⟩ := hK
  have hc0 : cs122 146 = .inr (3, [.ref (gA G 8), .ref (gA G 10), .int 0, .int 0, .ref (gA G 147), .ref (gA G 148), .ref (gA G 149), .ref (gA G 150), .ref (gA G 151), .ref (gA G 152), .ref (gA G 153), .int 0, .int 0, .ref (gA G 154), .ref (gA G 155), .ref (gA G 156), .ref (gA G 157), .int 0, .int 0, .int 0]) := (hK1 _ (by omega)).trans hc0
  have hc1 : cs122 147 = .inl (gY G 14, 10, .inl (fun _ => 0)) := (hK1 _ (by omega)).trans hc1
  have hc2 : cs122 148 = .inl (gY G 14, 10, .inl (fun _ => 0)) := (hK1 _ (by omega)).trans hc2
  have hc3 : cs122 149 = .inl (gY G 14, 10, .inl (fun _ => 0)) := (hK1 _ (by omega)).trans hc3
  have hc4 : cs122 150 = .inl (gY G 14, 10, .inl (fun _ => 0)) := (hK1 _ (by omega)).trans hc4
  have hc5 : cs122 151 = .inl (gY G 14, 10, .inl (fun _ => 0)) := (hK1 _ (by omega)).trans hc5
  have hc6 : cs122 152 = refI G 22 152 4 := (hK1 _ (by omega)).trans hc6
  have hc7 : cs122 153 = refI G 17 153 28 := (hK1 _ (by omega)).trans hc7
  have hc8 : cs122 154 = .inl (gY G 14, 60, .inl (fun _ => 0)) := (hK1 _ (by omega)).trans hc8
  have hc9 : cs122 155 = .inl (gY G 14, 60, .inl (fun _ => 0)) := (hK1 _ (by omega)).trans hc9
  have hc10 : cs122 156 = .inl (gY G 14, 60, .inl (fun _ => 0)) := (hK1 _ (by omega)).trans hc10
  have hc11 : cs122 157 = .inl (gY G 14, 60, .inl (fun _ => 0)) := (hK1 _ (by omega)).trans hc11
  have hr12 : ∀ n, 158 ≤ n → n < 230 → cs122 n = finY G n := fun n a b => (hK1 n (by omega)).trans (hr12 n a b)
  have hlo : ∀ n, n < 146 → cs122 n = cs n := fun n a => (hK1 n (by omega)).trans (hlo n a)
  have hr12 : ∀ n, 158 ≤ n → n < 232 → cs122 n = finY G n := fun n a b => if h : n < 230 then hr12 n a h else hK2 n (by omega) (by omega)
  clear hK1 hK2
  refine ry_aast (κ := 17) (κ' := 2) (t0 := 4) (L := 30) (n := 153) (v := 230) (i := 28) (by omega) (by omega) rfl rfl hc7 (ln_at_3_7) ((hr12 230 (by omega) (by omega)).trans (fyE_2 (show Is 230 2 by unfold Is; decide +kernel))) (by decide) rfl (by decide +kernel) dX3_init_149 ?_
  refine ry_cs (fun cs123 e123 => ?_)
  have hc0 : cs123 146 = .inr (3, [.ref (gA G 8), .ref (gA G 10), .int 0, .int 0, .ref (gA G 147), .ref (gA G 148), .ref (gA G 149), .ref (gA G 150), .ref (gA G 151), .ref (gA G 152), .ref (gA G 153), .int 0, .int 0, .ref (gA G 154), .ref (gA G 155), .ref (gA G 156), .ref (gA G 157), .int 0, .int 0, .int 0]) := by rw [e123, va_up_ne _ _ (by omega)]; exact hc0
  have hc1 : cs123 147 = .inl (gY G 14, 10, .inl (fun _ => 0)) := by rw [e123, va_up_ne _ _ (by omega)]; exact hc1
  have hc2 : cs123 148 = .inl (gY G 14, 10, .inl (fun _ => 0)) := by rw [e123, va_up_ne _ _ (by omega)]; exact hc2
  have hc3 : cs123 149 = .inl (gY G 14, 10, .inl (fun _ => 0)) := by rw [e123, va_up_ne _ _ (by omega)]; exact hc3
  have hc4 : cs123 150 = .inl (gY G 14, 10, .inl (fun _ => 0)) := by rw [e123, va_up_ne _ _ (by omega)]; exact hc4
  have hc5 : cs123 151 = .inl (gY G 14, 10, .inl (fun _ => 0)) := by rw [e123, va_up_ne _ _ (by omega)]; exact hc5
  have hc6 : cs123 152 = refI G 22 152 4 := by rw [e123, va_up_ne _ _ (by omega)]; exact hc6
  have hc8 : cs123 154 = .inl (gY G 14, 60, .inl (fun _ => 0)) := by rw [e123, va_up_ne _ _ (by omega)]; exact hc8
  have hc9 : cs123 155 = .inl (gY G 14, 60, .inl (fun _ => 0)) := by rw [e123, va_up_ne _ _ (by omega)]; exact hc9
  have hc10 : cs123 156 = .inl (gY G 14, 60, .inl (fun _ => 0)) := by rw [e123, va_up_ne _ _ (by omega)]; exact hc10
  have hc11 : cs123 157 = .inl (gY G 14, 60, .inl (fun _ => 0)) := by rw [e123, va_up_ne _ _ (by omega)]; exact hc11
  have hc7 : cs123 153 = refI G 17 153 29 := by rw [e123]; exact va_up_self _ _ _
  have hr12 : ∀ n, 158 ≤ n → n < 232 → cs123 n = finY G n := fun n a b => by rw [e123, va_up_ne _ _ (by omega)]; exact hr12 n a b
  have hlo : ∀ n, n < 146 → cs123 n = cs n := fun n a => by rw [e123, va_up_ne _ _ (by omega)]; exact hlo n a
  clear e123
  refine ry_iinc 3 [(0, .ref (gA G 146)), (1, .ref (gA G 8)), (2, .ref (gA G 10)), (3, .int 29)] [1, 2, 3, 0] dX3_init_150 rfl rfl (by decide) rfl ?_
  refine ry_goto 131 dX3_init_153 (by decide) ?_
  refine ry_iload_n 3 dX3_init_131 rfl rfl ?_
  refine ry_bipush (v := 30) dX3_init_132 rfl ?_
  refine ry_icmp_ge 156 dX3_init_134 (by decide) (fun q => absurd q (by decide)) (fun _ => ?_)
  refine ry_aload_n 0 dX3_init_137 rfl rfl ?_
  refine ry_get fl_X3_35 (by omega) hc0 rfl dX3_init_138 ?_
  refine ry_iload_n 3 dX3_init_141 rfl rfl ?_
  refine ry_new (ci := 2) (fs := [.int 0, .int 0, .int 0, .int 0, .int 0, .int 0, .int 0, .int 0, .int 0, .int 0, .null]) tyX2 tyX2_ok rfl i_X2 wc_X3_33 wi_2 wn_2 bl_2 (by decide) (by decide) dX3_init_142 ?_
  refine ry_cs (fun cs124 e124 => ?_)
  have hc0 : cs124 146 = .inr (3, [.ref (gA G 8), .ref (gA G 10), .int 0, .int 0, .ref (gA G 147), .ref (gA G 148), .ref (gA G 149), .ref (gA G 150), .ref (gA G 151), .ref (gA G 152), .ref (gA G 153), .int 0, .int 0, .ref (gA G 154), .ref (gA G 155), .ref (gA G 156), .ref (gA G 157), .int 0, .int 0, .int 0]) := by rw [e124, va_up_ne _ _ (by omega)]; exact hc0
  have hc1 : cs124 147 = .inl (gY G 14, 10, .inl (fun _ => 0)) := by rw [e124, va_up_ne _ _ (by omega)]; exact hc1
  have hc2 : cs124 148 = .inl (gY G 14, 10, .inl (fun _ => 0)) := by rw [e124, va_up_ne _ _ (by omega)]; exact hc2
  have hc3 : cs124 149 = .inl (gY G 14, 10, .inl (fun _ => 0)) := by rw [e124, va_up_ne _ _ (by omega)]; exact hc3
  have hc4 : cs124 150 = .inl (gY G 14, 10, .inl (fun _ => 0)) := by rw [e124, va_up_ne _ _ (by omega)]; exact hc4
  have hc5 : cs124 151 = .inl (gY G 14, 10, .inl (fun _ => 0)) := by rw [e124, va_up_ne _ _ (by omega)]; exact hc5
  have hc6 : cs124 152 = refI G 22 152 4 := by rw [e124, va_up_ne _ _ (by omega)]; exact hc6
  have hc7 : cs124 153 = refI G 17 153 29 := by rw [e124, va_up_ne _ _ (by omega)]; exact hc7
  have hc8 : cs124 154 = .inl (gY G 14, 60, .inl (fun _ => 0)) := by rw [e124, va_up_ne _ _ (by omega)]; exact hc8
  have hc9 : cs124 155 = .inl (gY G 14, 60, .inl (fun _ => 0)) := by rw [e124, va_up_ne _ _ (by omega)]; exact hc9
  have hc10 : cs124 156 = .inl (gY G 14, 60, .inl (fun _ => 0)) := by rw [e124, va_up_ne _ _ (by omega)]; exact hc10
  have hc11 : cs124 157 = .inl (gY G 14, 60, .inl (fun _ => 0)) := by rw [e124, va_up_ne _ _ (by omega)]; exact hc11
  have hc86 : cs124 232 = .inr (2, [.int 0, .int 0, .int 0, .int 0, .int 0, .int 0, .int 0, .int 0, .int 0, .int 0, .null]) := by rw [e124]; exact va_up_self _ _ _
  have hr12 : ∀ n, 158 ≤ n → n < 232 → cs124 n = finY G n := fun n a b => by rw [e124, va_up_ne _ _ (by omega)]; exact hr12 n a b
  have hlo : ∀ n, n < 146 → cs124 n = cs n := fun n a => by rw [e124, va_up_ne _ _ (by omega)]; exact hlo n a
  clear e124
  refine ry_dup dX3_init_145 rfl ?_
  refine ry_callIN (As := []) (n := 232) (mc := 1) (ms := 10) (Kc G 232 2 _) (fun _ _ h => by have := h.1; omega) mw_X2_init rfl win_X2_init wm_X3_60 rfl ⟨show d + 1 + 1 ≤ d + 2 by omega, show 30 * (d + 1) + 30 ≤ 30 * (d + 2) by omega, by decide, by decide⟩ (Nat.le_of_ble_eq_true rfl) dX3_init_146 (cX2_init G d (show Is 232 2 by unfold Is; decide +kernel) hc86) (fun cs125 hK => ?_) rfl
  obtain ⟨-, hK1, hK2⟩ := hK
  have hc0 : cs125 146 = .inr (3, [.ref (gA G 8), .ref (gA G 10), .int 0, .int 0, .ref (gA G 147), .ref (gA G 148), .ref (gA G 149), .ref (gA G 150), .ref (gA G 151), .ref (gA G 152), .ref (gA G 153), .int 0, .int 0, .ref (gA G 154), .ref (gA G 155), .ref (gA G 156), .ref (gA G 157), .int 0, .int 0, .int 0]) := (hK1 _ (by omega)).trans hc0
  have hc1 : cs125 147 = .inl (gY G 14, 10, .inl (fun _ => 0)) := (hK1 _ (by omega)).trans hc1
  have hc2 : cs125 148 = .inl (gY G 14, 10, .inl (fun _ => 0)) := (hK1 _ (by omega)).trans hc2
  have hc3 : cs125 149 = .inl (gY G 14, 10, .inl (fun _ => 0)) := (hK1 _ (by omega)).trans hc3
  have hc4 : cs125 150 = .inl (gY G 14, 10, .inl (fun _ => 0)) := (hK1 _ (by omega)).trans hc4
  have hc5 : cs125 151 = .inl (gY G 14, 10, .inl (fun _ => 0)) := (hK1 _ (by omega)).trans hc5
  have hc6 : cs125 152 = refI G 22 152 4 := (hK1 _ (by omega)).trans hc6
  have hc7 : cs125 153 = refI G 17 153 29 := (hK1 _ (by omega)).trans hc7
  have hc8 : cs125 154 = .inl (gY G 14, 60, .inl (fun _ => 0)) := (hK1 _ (by omega)).trans hc8
  have hc9 : cs125 155 = .inl (gY G 14, 60, .inl (fun _ => 0)) := (hK1 _ (by omega)).trans hc9
  have hc10 : cs125 156 = .inl (gY G 14, 60, .inl (fun _ => 0)) := (hK1 _ (by omega)).trans hc10
  have hc11 : cs125 157 = .inl (gY G 14, 60, .inl (fun _ => 0)) := (hK1 _ (by omega)).trans hc11
  have hr12 : ∀ n, 158 ≤ n → n < 232 → cs125 n = finY G n := fun n a b => (hK1 n (by omega)).trans (hr12 n a b)
  have hlo : ∀ n, n < 146 → cs125 n = cs n := fun n a => (hK1 n (by omega)).trans (hlo n a)
  have hr12 : ∀ n, 158 ≤ n → n < 234 → cs125 n = finY G n := fun n a b => if h : n < 232 then hr12 n a h else hK2 n (by omega) (by omega)
  clear hK1 hK2
  refine ry_aast (κ := 17) (κ' := 2) (t0 := 4) (L := 30) (n := 153) (v := 232) (i := 29) (by omega) (by omega) rfl rfl hc7 (ln_at_3_7) ((hr12 232 (by omega) (by omega)).trans (fyE_2 (show Is 232 2 by unfold Is; decide +kernel))) (by decide) rfl (by decide +kernel) dX3_init_149 ?_
  refine ry_cs (fun cs126 e126 => ?_)
  have hc0 : cs126 146 = .inr (3, [.ref (gA G 8), .ref (gA G 10), .int 0, .int 0, .ref (gA G 147), .ref (gA G 148), .ref (gA G 149), .ref (gA G 150), .ref (gA G 151), .ref (gA G 152), .ref (gA G 153), .int 0, .int 0, .ref (gA G 154), .ref (gA G 155), .ref (gA G 156), .ref (gA G 157), .int 0, .int 0, .int 0]) := by rw [e126, va_up_ne _ _ (by omega)]; exact hc0
  have hc1 : cs126 147 = .inl (gY G 14, 10, .inl (fun _ => 0)) := by rw [e126, va_up_ne _ _ (by omega)]; exact hc1
  have hc2 : cs126 148 = .inl (gY G 14, 10, .inl (fun _ => 0)) := by rw [e126, va_up_ne _ _ (by omega)]; exact hc2
  have hc3 : cs126 149 = .inl (gY G 14, 10, .inl (fun _ => 0)) := by rw [e126, va_up_ne _ _ (by omega)]; exact hc3
  have hc4 : cs126 150 = .inl (gY G 14, 10, .inl (fun _ => 0)) := by rw [e126, va_up_ne _ _ (by omega)]; exact hc4
  have hc5 : cs126 151 = .inl (gY G 14, 10, .inl (fun _ => 0)) := by rw [e126, va_up_ne _ _ (by omega)]; exact hc5
  have hc6 : cs126 152 = refI G 22 152 4 := by rw [e126, va_up_ne _ _ (by omega)]; exact hc6
  have hc8 : cs126 154 = .inl (gY G 14, 60, .inl (fun _ => 0)) := by rw [e126, va_up_ne _ _ (by omega)]; exact hc8
  have hc9 : cs126 155 = .inl (gY G 14, 60, .inl (fun _ => 0)) := by rw [e126, va_up_ne _ _ (by omega)]; exact hc9
  have hc10 : cs126 156 = .inl (gY G 14, 60, .inl (fun _ => 0)) := by rw [e126, va_up_ne _ _ (by omega)]; exact hc10
  have hc11 : cs126 157 = .inl (gY G 14, 60, .inl (fun _ => 0)) := by rw [e126, va_up_ne _ _ (by omega)]; exact hc11
  have hc7 : cs126 153 = refI G 17 153 30 := by rw [e126]; exact va_up_self _ _ _
  have hr12 : ∀ n, 158 ≤ n → n < 234 → cs126 n = finY G n := fun n a b => by rw [e126, va_up_ne _ _ (by omega)]; exact hr12 n a b
  have hlo : ∀ n, n < 146 → cs126 n = cs n := fun n a => by rw [e126, va_up_ne _ _ (by omega)]; exact hlo n a
  clear e126
  refine ry_iinc 3 [(0, .ref (gA G 146)), (1, .ref (gA G 8)), (2, .ref (gA G 10)), (3, .int 30)] [1, 2, 3, 0] dX3_init_150 rfl rfl (by decide) rfl ?_
  refine ry_goto 131 dX3_init_153 (by decide) ?_
  refine ry_iload_n 3 dX3_init_131 rfl rfl ?_
  refine ry_bipush (v := 30) dX3_init_132 rfl ?_
  refine ry_icmp_ge 156 dX3_init_134 (by decide) (fun _ => ?_) (fun q => absurd (by decide) q)
  refine ry_ret dX3_init_156 ⟨by omega, hlo, fun n a b => ?_⟩
  rcases (show n = 146 ∨ n = 147 ∨ n = 148 ∨ n = 149 ∨ n = 150 ∨ n = 151 ∨ n = 152 ∨ n = 153 ∨ n = 154 ∨ n = 155 ∨ n = 156 ∨ n = 157 ∨ (158 ≤ n ∧ n < 234) by omega) with rfl | rfl | rfl | rfl | rfl | rfl | rfl | rfl | rfl | rfl | rfl | rfl | q
  · rw [hc0]; exact (fyj_3_0).symm
  · rw [hc1]; exact (fyj_3_1).symm
  · rw [hc2]; exact (fyj_3_2).symm
  · rw [hc3]; exact (fyj_3_3).symm
  · rw [hc4]; exact (fyj_3_4).symm
  · rw [hc5]; exact (fyj_3_5).symm
  · rw [hc6]; exact (fyj_3_6).symm
  · rw [hc7]; exact (fyj_3_7).symm
  · rw [hc8]; exact (fyj_3_8).symm
  · rw [hc9]; exact (fyj_3_9).symm
  · rw [hc10]; exact (fyj_3_10).symm
  · rw [hc11]; exact (fyj_3_11).symm
  · exact hr12 n q.1 q.2
set_option maxRecDepth 20000 in
theorem cX0_init (G : GT) (d : Nat) {cs : Nat → va_E} (hc0 : cs 234 = .inr (0, [.null, .int 0, .null, .null, .null, .int 0])) : SpecY G yX0_init cX0_init 1 (d + 1) 11 119 [.ref (gA G 234)] 235 cs (Kc G 234 12 cs) := by
  refine ry_spec (by decide) (Nat.le_of_ble_eq_true rfl) ?_
  have hlo : ∀ n, n < 234 → cs n = cs n := fun _ _ => rfl
  show RunY G RX0 "<init>" cX0_init 1 none _ 0 0 0 [(0, .ref (gA G 234))] [] 235 cs
  refine ry_aload_n 0 dX0_init_0 rfl rfl ?_
  refine ry_objInit wm_X0_3 w_oi w_oc (show 1 ≤ d + 1 by omega) (show 30 ≤ 30 * (d + 1) by omega) rfl dX0_init_1 ?_
  refine ry_aload_n 0 dX0_init_4 rfl rfl ?_
  refine ry_bipush (v := 30) dX0_init_5 rfl ?_
  refine ry_newq (κ := 17) (n := 30) (t0 := 4) wc_X0_9 wo_2 rfl (by decide) rfl (ln_at_0_1) (by decide) (by decide) (by decide) dX0_init_7 ?_
  refine ry_cs (fun cs1 e1 => ?_)
  have hc0 : cs1 234 = .inr (0, [.null, .int 0, .null, .null, .null, .int 0]) := by rw [e1, va_up_ne _ _ (by omega)]; exact hc0
  have hc1 : cs1 235 = refI G 17 235 0 := by rw [e1]; exact va_up_self _ _ _
  have hlo : ∀ n, n < 234 → cs1 n = cs n := fun n a => by rw [e1, va_up_ne _ _ (by omega)]; exact hlo n a
  clear e1
  refine ry_putF ff_X0_11 rfl (by omega) hc0 rfl rfl (by decide) dX0_init_10 ?_
  refine ry_cs (fun cs2 e2 => ?_)
  have hc1 : cs2 235 = refI G 17 235 0 := by rw [e2, va_up_ne _ _ (by omega)]; exact hc1
  have hc0 : cs2 234 = .inr (0, [.ref (gA G 235), .int 0, .null, .null, .null, .int 0]) := by rw [e2]; exact va_up_self _ _ _
  have hlo : ∀ n, n < 234 → cs2 n = cs n := fun n a => by rw [e2, va_up_ne _ _ (by omega)]; exact hlo n a
  clear e2
  refine ry_aload_n 0 dX0_init_13 rfl rfl ?_
  refine ry_bipush (v := 7) dX0_init_14 rfl ?_
  refine ry_bipush (v := 10) dX0_init_16 rfl ?_
  refine ry_mna (n := 7) (k := 10) wc_X0_17 wo_ai wa_int es23_236 (ln_at_0_2) (by decide) (by decide) rfl rfl (by decide) (by decide) (by decide) (by decide) dX0_init_18 ?_
  refine ry_cs (fun cs3 e3 => ?_)
  have hc0 : cs3 234 = .inr (0, [.ref (gA G 235), .int 0, .null, .null, .null, .int 0]) := by rw [e3]; unfold csM; rw [if_neg (by decide), if_neg (by decide)]; exact hc0
  have hc1 : cs3 235 = refI G 17 235 0 := by rw [e3]; unfold csM; rw [if_neg (by decide), if_neg (by decide)]; exact hc1
  have hc2 : cs3 236 = refI G 23 236 7 := by rw [e3]; unfold csM; rw [if_pos rfl]
  have hr3 : ∀ n, 237 ≤ n → n < 244 → cs3 n = finY G n := fun n a b => by rw [e3]; unfold csM; rw [if_neg (by omega), if_pos ⟨by omega, by omega⟩]; exact (fyA_236 n a b).symm
  have hlo : ∀ n, n < 234 → cs3 n = cs n := fun n a => by rw [e3]; unfold csM; rw [if_neg (by omega), if_neg (by omega)]; exact hlo n a
  refine ry_putF ff_X0_19 rfl (by omega) hc0 rfl rfl (by decide) dX0_init_22 ?_
  refine ry_cs (fun cs4 e4 => ?_)
  have hc1 : cs4 235 = refI G 17 235 0 := by rw [e4, va_up_ne _ _ (by omega)]; exact hc1
  have hc2 : cs4 236 = refI G 23 236 7 := by rw [e4, va_up_ne _ _ (by omega)]; exact hc2
  have hc0 : cs4 234 = .inr (0, [.ref (gA G 235), .int 0, .ref (gA G 236), .null, .null, .int 0]) := by rw [e4]; exact va_up_self _ _ _
  have hr3 : ∀ n, 237 ≤ n → n < 244 → cs4 n = finY G n := fun n a b => by rw [e4, va_up_ne _ _ (by omega)]; exact hr3 n a b
  have hlo : ∀ n, n < 234 → cs4 n = cs n := fun n a => by rw [e4, va_up_ne _ _ (by omega)]; exact hlo n a
  clear e4
  refine ry_aload_n 0 dX0_init_25 rfl rfl ?_
  refine ry_bipush (v := 6) dX0_init_26 rfl ?_
  refine ry_newa (κ := 14) (n := 6) (atype := .int) (ty := .int) (t0 := 1) rfl wa_int rfl (fun _ _ => Iff.rfl) rfl (by decide) rfl (by decide) (by decide) (by decide) dX0_init_28 ?_
  refine ry_cs (fun cs5 e5 => ?_)
  have hc0 : cs5 234 = .inr (0, [.ref (gA G 235), .int 0, .ref (gA G 236), .null, .null, .int 0]) := by rw [e5, va_up_ne _ _ (by omega)]; exact hc0
  have hc1 : cs5 235 = refI G 17 235 0 := by rw [e5, va_up_ne _ _ (by omega)]; exact hc1
  have hc2 : cs5 236 = refI G 23 236 7 := by rw [e5, va_up_ne _ _ (by omega)]; exact hc2
  have hc10 : cs5 244 = .inl (gY G 14, 6, .inl (fun _ => 0)) := by rw [e5]; exact va_up_self _ _ _
  have hr3 : ∀ n, 237 ≤ n → n < 244 → cs5 n = finY G n := fun n a b => by rw [e5, va_up_ne _ _ (by omega)]; exact hr3 n a b
  have hlo : ∀ n, n < 234 → cs5 n = cs n := fun n a => by rw [e5, va_up_ne _ _ (by omega)]; exact hlo n a
  clear e5
  refine ry_putF ff_X0_22 rfl (by omega) hc0 rfl rfl (by decide) dX0_init_30 ?_
  refine ry_cs (fun cs6 e6 => ?_)
  have hc1 : cs6 235 = refI G 17 235 0 := by rw [e6, va_up_ne _ _ (by omega)]; exact hc1
  have hc2 : cs6 236 = refI G 23 236 7 := by rw [e6, va_up_ne _ _ (by omega)]; exact hc2
  have hc10 : cs6 244 = .inl (gY G 14, 6, .inl (fun _ => 0)) := by rw [e6, va_up_ne _ _ (by omega)]; exact hc10
  have hc0 : cs6 234 = .inr (0, [.ref (gA G 235), .int 0, .ref (gA G 236), .ref (gA G 244), .null, .int 0]) := by rw [e6]; exact va_up_self _ _ _
  have hr3 : ∀ n, 237 ≤ n → n < 244 → cs6 n = finY G n := fun n a b => by rw [e6, va_up_ne _ _ (by omega)]; exact hr3 n a b
  have hlo : ∀ n, n < 234 → cs6 n = cs n := fun n a => by rw [e6, va_up_ne _ _ (by omega)]; exact hlo n a
  clear e6
  refine ry_aload_n 0 dX0_init_33 rfl rfl ?_
  refine ry_bipush (v := 6) dX0_init_34 rfl ?_
  refine ry_newa (κ := 14) (n := 6) (atype := .int) (ty := .int) (t0 := 1) rfl wa_int rfl (fun _ _ => Iff.rfl) rfl (by decide) rfl (by decide) (by decide) (by decide) dX0_init_36 ?_
  refine ry_cs (fun cs7 e7 => ?_)
  have hc0 : cs7 234 = .inr (0, [.ref (gA G 235), .int 0, .ref (gA G 236), .ref (gA G 244), .null, .int 0]) := by rw [e7, va_up_ne _ _ (by omega)]; exact hc0
  have hc1 : cs7 235 = refI G 17 235 0 := by rw [e7, va_up_ne _ _ (by omega)]; exact hc1
  have hc2 : cs7 236 = refI G 23 236 7 := by rw [e7, va_up_ne _ _ (by omega)]; exact hc2
  have hc10 : cs7 244 = .inl (gY G 14, 6, .inl (fun _ => 0)) := by rw [e7, va_up_ne _ _ (by omega)]; exact hc10
  have hc11 : cs7 245 = .inl (gY G 14, 6, .inl (fun _ => 0)) := by rw [e7]; exact va_up_self _ _ _
  have hr3 : ∀ n, 237 ≤ n → n < 244 → cs7 n = finY G n := fun n a b => by rw [e7, va_up_ne _ _ (by omega)]; exact hr3 n a b
  have hlo : ∀ n, n < 234 → cs7 n = cs n := fun n a => by rw [e7, va_up_ne _ _ (by omega)]; exact hlo n a
  clear e7
  refine ry_putF ff_X0_26 rfl (by omega) hc0 rfl rfl (by decide) dX0_init_38 ?_
  refine ry_cs (fun cs8 e8 => ?_)
  have hc1 : cs8 235 = refI G 17 235 0 := by rw [e8, va_up_ne _ _ (by omega)]; exact hc1
  have hc2 : cs8 236 = refI G 23 236 7 := by rw [e8, va_up_ne _ _ (by omega)]; exact hc2
  have hc10 : cs8 244 = .inl (gY G 14, 6, .inl (fun _ => 0)) := by rw [e8, va_up_ne _ _ (by omega)]; exact hc10
  have hc11 : cs8 245 = .inl (gY G 14, 6, .inl (fun _ => 0)) := by rw [e8, va_up_ne _ _ (by omega)]; exact hc11
  have hc0 : cs8 234 = .inr (0, [.ref (gA G 235), .int 0, .ref (gA G 236), .ref (gA G 244), .ref (gA G 245), .int 0]) := by rw [e8]; exact va_up_self _ _ _
  have hr3 : ∀ n, 237 ≤ n → n < 244 → cs8 n = finY G n := fun n a b => by rw [e8, va_up_ne _ _ (by omega)]; exact hr3 n a b
  have hlo : ∀ n, n < 234 → cs8 n = cs n := fun n a => by rw [e8, va_up_ne _ _ (by omega)]; exact hlo n a
  clear e8
  refine ry_ret dX0_init_41 ⟨by omega, hlo, fun n a b => ?_⟩
  rcases (show n = 234 ∨ n = 235 ∨ n = 236 ∨ n = 244 ∨ n = 245 ∨ (237 ≤ n ∧ n < 244) by omega) with rfl | rfl | rfl | rfl | rfl | q
  · rw [hc0]; exact (fyj_0_0).symm
  · rw [hc1]; exact (fyj_0_1).symm
  · rw [hc2]; exact (fyj_0_2).symm
  · rw [hc10]; exact (fyj_0_10).symm
  · rw [hc11]; exact (fyj_0_11).symm
  · exact hr3 n q.1 q.2
set_option maxRecDepth 20000 in
theorem cX6_init (G : GT) (d : Nat) {cs : Nat → va_E} (hc0 : cs 246 = .inr (6, [.null, .null, .null, .int 0])) : SpecY G yX6_init cX6_init 1 (d + 1) 19 202 [.ref (gA G 246)] 247 cs (Kc G 246 20 cs) := by
  refine ry_spec (by decide) (Nat.le_of_ble_eq_true rfl) ?_
  have hlo : ∀ n, n < 246 → cs n = cs n := fun _ _ => rfl
  show RunY G RX6 "<init>" cX6_init 1 none _ 0 0 0 [(0, .ref (gA G 246))] [] 247 cs
  refine ry_aload_n 0 dX6_init_0 rfl rfl ?_
  refine ry_objInit wm_X6_3 w_oi w_oc (show 1 ≤ d + 1 by omega) (show 30 ≤ 30 * (d + 1) by omega) rfl dX6_init_1 ?_
  refine ry_aload_n 0 dX6_init_4 rfl rfl ?_
  refine ry_bipush (v := 16) dX6_init_5 rfl ?_
  refine ry_newa (κ := 14) (n := 16) (atype := .int) (ty := .int) (t0 := 1) rfl wa_int rfl (fun _ _ => Iff.rfl) rfl (by decide) rfl (by decide) (by decide) (by decide) dX6_init_7 ?_
  refine ry_cs (fun cs1 e1 => ?_)
  have hc0 : cs1 246 = .inr (6, [.null, .null, .null, .int 0]) := by rw [e1, va_up_ne _ _ (by omega)]; exact hc0
  have hc1 : cs1 247 = .inl (gY G 14, 16, .inl (fun _ => 0)) := by rw [e1]; exact va_up_self _ _ _
  have hlo : ∀ n, n < 246 → cs1 n = cs n := fun n a => by rw [e1, va_up_ne _ _ (by omega)]; exact hlo n a
  clear e1
  refine ry_putF ff_X6_9 rfl (by omega) hc0 rfl rfl (by decide) dX6_init_9 ?_
  refine ry_cs (fun cs2 e2 => ?_)
  have hc1 : cs2 247 = .inl (gY G 14, 16, .inl (fun _ => 0)) := by rw [e2, va_up_ne _ _ (by omega)]; exact hc1
  have hc0 : cs2 246 = .inr (6, [.ref (gA G 247), .null, .null, .int 0]) := by rw [e2]; exact va_up_self _ _ _
  have hlo : ∀ n, n < 246 → cs2 n = cs n := fun n a => by rw [e2, va_up_ne _ _ (by omega)]; exact hlo n a
  clear e2
  refine ry_aload_n 0 dX6_init_12 rfl rfl ?_
  refine ry_bipush (v := 16) dX6_init_13 rfl ?_
  refine ry_bipush (v := 10) dX6_init_15 rfl ?_
  refine ry_mna (n := 16) (k := 10) wc_X6_15 wo_ai wa_int es23_248 (ln_at_6_2) (by decide) (by decide) rfl rfl (by decide) (by decide) (by decide) (by decide) dX6_init_17 ?_
  refine ry_cs (fun cs3 e3 => ?_)
  have hc0 : cs3 246 = .inr (6, [.ref (gA G 247), .null, .null, .int 0]) := by rw [e3]; unfold csM; rw [if_neg (by decide), if_neg (by decide)]; exact hc0
  have hc1 : cs3 247 = .inl (gY G 14, 16, .inl (fun _ => 0)) := by rw [e3]; unfold csM; rw [if_neg (by decide), if_neg (by decide)]; exact hc1
  have hc2 : cs3 248 = refI G 23 248 16 := by rw [e3]; unfold csM; rw [if_pos rfl]
  have hr3 : ∀ n, 249 ≤ n → n < 265 → cs3 n = finY G n := fun n a b => by rw [e3]; unfold csM; rw [if_neg (by omega), if_pos ⟨by omega, by omega⟩]; exact (fyA_248 n a b).symm
  have hlo : ∀ n, n < 246 → cs3 n = cs n := fun n a => by rw [e3]; unfold csM; rw [if_neg (by omega), if_neg (by omega)]; exact hlo n a
  refine ry_putF ff_X6_17 rfl (by omega) hc0 rfl rfl (by decide) dX6_init_21 ?_
  refine ry_cs (fun cs4 e4 => ?_)
  have hc1 : cs4 247 = .inl (gY G 14, 16, .inl (fun _ => 0)) := by rw [e4, va_up_ne _ _ (by omega)]; exact hc1
  have hc2 : cs4 248 = refI G 23 248 16 := by rw [e4, va_up_ne _ _ (by omega)]; exact hc2
  have hc0 : cs4 246 = .inr (6, [.ref (gA G 247), .ref (gA G 248), .null, .int 0]) := by rw [e4]; exact va_up_self _ _ _
  have hr3 : ∀ n, 249 ≤ n → n < 265 → cs4 n = finY G n := fun n a b => by rw [e4, va_up_ne _ _ (by omega)]; exact hr3 n a b
  have hlo : ∀ n, n < 246 → cs4 n = cs n := fun n a => by rw [e4, va_up_ne _ _ (by omega)]; exact hlo n a
  clear e4
  refine ry_aload_n 0 dX6_init_24 rfl rfl ?_
  refine ry_bipush (v := 10) dX6_init_25 rfl ?_
  refine ry_newa (κ := 14) (n := 10) (atype := .int) (ty := .int) (t0 := 1) rfl wa_int rfl (fun _ _ => Iff.rfl) rfl (by decide) rfl (by decide) (by decide) (by decide) dX6_init_27 ?_
  refine ry_cs (fun cs5 e5 => ?_)
  have hc0 : cs5 246 = .inr (6, [.ref (gA G 247), .ref (gA G 248), .null, .int 0]) := by rw [e5, va_up_ne _ _ (by omega)]; exact hc0
  have hc1 : cs5 247 = .inl (gY G 14, 16, .inl (fun _ => 0)) := by rw [e5, va_up_ne _ _ (by omega)]; exact hc1
  have hc2 : cs5 248 = refI G 23 248 16 := by rw [e5, va_up_ne _ _ (by omega)]; exact hc2
  have hc19 : cs5 265 = .inl (gY G 14, 10, .inl (fun _ => 0)) := by rw [e5]; exact va_up_self _ _ _
  have hr3 : ∀ n, 249 ≤ n → n < 265 → cs5 n = finY G n := fun n a b => by rw [e5, va_up_ne _ _ (by omega)]; exact hr3 n a b
  have hlo : ∀ n, n < 246 → cs5 n = cs n := fun n a => by rw [e5, va_up_ne _ _ (by omega)]; exact hlo n a
  clear e5
  refine ry_putF ff_X6_20 rfl (by omega) hc0 rfl rfl (by decide) dX6_init_29 ?_
  refine ry_cs (fun cs6 e6 => ?_)
  have hc1 : cs6 247 = .inl (gY G 14, 16, .inl (fun _ => 0)) := by rw [e6, va_up_ne _ _ (by omega)]; exact hc1
  have hc2 : cs6 248 = refI G 23 248 16 := by rw [e6, va_up_ne _ _ (by omega)]; exact hc2
  have hc19 : cs6 265 = .inl (gY G 14, 10, .inl (fun _ => 0)) := by rw [e6, va_up_ne _ _ (by omega)]; exact hc19
  have hc0 : cs6 246 = .inr (6, [.ref (gA G 247), .ref (gA G 248), .ref (gA G 265), .int 0]) := by rw [e6]; exact va_up_self _ _ _
  have hr3 : ∀ n, 249 ≤ n → n < 265 → cs6 n = finY G n := fun n a b => by rw [e6, va_up_ne _ _ (by omega)]; exact hr3 n a b
  have hlo : ∀ n, n < 246 → cs6 n = cs n := fun n a => by rw [e6, va_up_ne _ _ (by omega)]; exact hlo n a
  clear e6
  refine ry_ret dX6_init_32 ⟨by omega, hlo, fun n a b => ?_⟩
  rcases (show n = 246 ∨ n = 247 ∨ n = 248 ∨ n = 265 ∨ (249 ≤ n ∧ n < 265) by omega) with rfl | rfl | rfl | rfl | q
  · rw [hc0]; exact (fyj_6_0).symm
  · rw [hc1]; exact (fyj_6_1).symm
  · rw [hc2]; exact (fyj_6_2).symm
  · rw [hc19]; exact (fyj_6_19).symm
  · exact hr3 n q.1 q.2
set_option maxRecDepth 20000 in
theorem cX11_init (G : GT) (d : Nat) {cs : Nat → va_E} (hc0 : cs 0 = .inr (11, [.null, .null, .null, .null, .null, .null, .null, .null, .null, .null, .int 0])) : SpecY G yX11_init cX11_init 2 (d + 5) 268 6359 [.ref (gA G 0)] 1 cs (Kc G 0 269 cs) := by
  refine ry_spec (by decide) (Nat.le_of_ble_eq_true rfl) ?_
  have hlo : ∀ n, n < 0 → cs n = cs n := fun _ _ => rfl
  show RunY G RX11 "<init>" cX11_init 2 none _ 0 0 0 [(0, .ref (gA G 0))] [] 1 cs
  refine ry_aload_n 0 dX11_init_0 rfl rfl ?_
  refine ry_objInit wm_X11_1 w_oi w_oc (show 1 ≤ d + 5 by omega) (show 30 ≤ 30 * (d + 5) by omega) rfl dX11_init_1 ?_
  refine ry_aload_n 0 dX11_init_4 rfl rfl ?_
  refine ry_new (ci := 9) (fs := [.null, .int 0, .int 0, .int 0, .null, .null, .null, .null, .null]) tyX9 tyX9_ok rfl i_X9 wc_X11_7 wi_9 wn_9 bl_9 (by decide) (by decide) dX11_init_5 ?_
  refine ry_cs (fun cs1 e1 => ?_)
  have hc0 : cs1 0 = .inr (11, [.null, .null, .null, .null, .null, .null, .null, .null, .null, .null, .int 0]) := by rw [e1, va_up_ne _ _ (by omega)]; exact hc0
  have hc1 : cs1 1 = .inr (9, [.null, .int 0, .int 0, .int 0, .null, .null, .null, .null, .null]) := by rw [e1]; exact va_up_self _ _ _
  have hlo : ∀ n, n < 0 → cs1 n = cs n := fun n a => by rw [e1, va_up_ne _ _ (by omega)]; exact hlo n a
  clear e1
  refine ry_dup dX11_init_8 rfl ?_
  refine ry_callI (As := []) (n := 1) (mc := 34) (ms := 1200) (Kc G 1 35 _) (fun _ _ h => by have := h.1; omega) mw_X9_init rfl win_X9_init wm_X11_9 rfl ⟨show d + 4 + 1 ≤ d + 5 by omega, show 30 * (d + 4) + 30 ≤ 30 * (d + 5) by omega, by decide, by decide⟩ (Nat.le_of_ble_eq_true rfl) dX11_init_9 (cX9_init G d (show Is 1 9 by unfold Is; decide +kernel) hc1) (fun cs2 hK => ?_) rfl
  obtain ⟨-, hK1, hK2⟩ := hK
  have hc0 : cs2 0 = .inr (11, [.null, .null, .null, .null, .null, .null, .null, .null, .null, .null, .int 0]) := (hK1 _ (by omega)).trans hc0
  have hlo : ∀ n, n < 0 → cs2 n = cs n := fun n a => (hK1 n (by omega)).trans (hlo n a)
  have hr1 : ∀ n, 1 ≤ n → n < 36 → cs2 n = finY G n := fun n a b => hK2 n (by omega) (by omega)
  clear hK1 hK2
  refine ry_putF ff_X11_10 rfl (by omega) hc0 rfl rfl (by decide) dX11_init_12 ?_
  refine ry_cs (fun cs3 e3 => ?_)
  have hc0 : cs3 0 = .inr (11, [.ref (gA G 1), .null, .null, .null, .null, .null, .null, .null, .null, .null, .int 0]) := by rw [e3]; exact va_up_self _ _ _
  have hr1 : ∀ n, 1 ≤ n → n < 36 → cs3 n = finY G n := fun n a b => by rw [e3, va_up_ne _ _ (by omega)]; exact hr1 n a b
  have hlo : ∀ n, n < 0 → cs3 n = cs n := fun n a => by rw [e3, va_up_ne _ _ (by omega)]; exact hlo n a
  clear e3
  refine ry_aload_n 0 dX11_init_15 rfl rfl ?_
  refine ry_iconst (v := 3) dX11_init_16 rfl ?_
  refine ry_newq (κ := 21) (n := 3) (t0 := 8) wc_X11_7 wo_9 rfl (by decide) rfl (ln_at_11_36) (by decide) (by decide) (by decide) dX11_init_17 ?_
  refine ry_cs (fun cs4 e4 => ?_)
  have hc0 : cs4 0 = .inr (11, [.ref (gA G 1), .null, .null, .null, .null, .null, .null, .null, .null, .null, .int 0]) := by rw [e4, va_up_ne _ _ (by omega)]; exact hc0
  have hc36 : cs4 36 = refI G 21 36 0 := by rw [e4]; exact va_up_self _ _ _
  have hr1 : ∀ n, 1 ≤ n → n < 36 → cs4 n = finY G n := fun n a b => by rw [e4, va_up_ne _ _ (by omega)]; exact hr1 n a b
  have hlo : ∀ n, n < 0 → cs4 n = cs n := fun n a => by rw [e4, va_up_ne _ _ (by omega)]; exact hlo n a
  clear e4
  refine ry_putF ff_X11_16 rfl (by omega) hc0 rfl rfl (by decide) dX11_init_20 ?_
  refine ry_cs (fun cs5 e5 => ?_)
  have hc36 : cs5 36 = refI G 21 36 0 := by rw [e5, va_up_ne _ _ (by omega)]; exact hc36
  have hc0 : cs5 0 = .inr (11, [.ref (gA G 1), .ref (gA G 36), .null, .null, .null, .null, .null, .null, .null, .null, .int 0]) := by rw [e5]; exact va_up_self _ _ _
  have hr1 : ∀ n, 1 ≤ n → n < 36 → cs5 n = finY G n := fun n a b => by rw [e5, va_up_ne _ _ (by omega)]; exact hr1 n a b
  have hlo : ∀ n, n < 0 → cs5 n = cs n := fun n a => by rw [e5, va_up_ne _ _ (by omega)]; exact hlo n a
  clear e5
  refine ry_iconst (v := 0) dX11_init_23 rfl ?_
  refine ry_istore_n [(0, .ref (gA G 0)), (1, .int 0)] [1, 0] dX11_init_24 rfl (by decide) rfl ?_
  refine ry_iload_n 1 dX11_init_25 rfl rfl ?_
  refine ry_iconst (v := 3) dX11_init_26 rfl ?_
  refine ry_icmp_ge 49 dX11_init_27 (by decide) (fun q => absurd q (by decide)) (fun _ => ?_)
  refine ry_aload_n 0 dX11_init_30 rfl rfl ?_
  refine ry_get fl_X11_16 (by omega) hc0 rfl dX11_init_31 ?_
  refine ry_iload_n 1 dX11_init_34 rfl rfl ?_
  refine ry_new (ci := 9) (fs := [.null, .int 0, .int 0, .int 0, .null, .null, .null, .null, .null]) tyX9 tyX9_ok rfl i_X9 wc_X11_7 wi_9 wn_9 bl_9 (by decide) (by decide) dX11_init_35 ?_
  refine ry_cs (fun cs6 e6 => ?_)
  have hc0 : cs6 0 = .inr (11, [.ref (gA G 1), .ref (gA G 36), .null, .null, .null, .null, .null, .null, .null, .null, .int 0]) := by rw [e6, va_up_ne _ _ (by omega)]; exact hc0
  have hc36 : cs6 36 = refI G 21 36 0 := by rw [e6, va_up_ne _ _ (by omega)]; exact hc36
  have hc37 : cs6 37 = .inr (9, [.null, .int 0, .int 0, .int 0, .null, .null, .null, .null, .null]) := by rw [e6]; exact va_up_self _ _ _
  have hr1 : ∀ n, 1 ≤ n → n < 36 → cs6 n = finY G n := fun n a b => by rw [e6, va_up_ne _ _ (by omega)]; exact hr1 n a b
  have hlo : ∀ n, n < 0 → cs6 n = cs n := fun n a => by rw [e6, va_up_ne _ _ (by omega)]; exact hlo n a
  clear e6
  refine ry_dup dX11_init_38 rfl ?_
  refine ry_callI (As := []) (n := 37) (mc := 34) (ms := 1200) (Kc G 37 35 _) (fun _ _ h => by have := h.1; omega) mw_X9_init rfl win_X9_init wm_X11_9 rfl ⟨show d + 4 + 1 ≤ d + 5 by omega, show 30 * (d + 4) + 30 ≤ 30 * (d + 5) by omega, by decide, by decide⟩ (Nat.le_of_ble_eq_true rfl) dX11_init_39 (cX9_init G d (show Is 37 9 by unfold Is; decide +kernel) hc37) (fun cs7 hK => ?_) rfl
  obtain ⟨-, hK1, hK2⟩ := hK
  have hc0 : cs7 0 = .inr (11, [.ref (gA G 1), .ref (gA G 36), .null, .null, .null, .null, .null, .null, .null, .null, .int 0]) := (hK1 _ (by omega)).trans hc0
  have hc36 : cs7 36 = refI G 21 36 0 := (hK1 _ (by omega)).trans hc36
  have hr1 : ∀ n, 1 ≤ n → n < 36 → cs7 n = finY G n := fun n a b => (hK1 n (by omega)).trans (hr1 n a b)
  have hlo : ∀ n, n < 0 → cs7 n = cs n := fun n a => (hK1 n (by omega)).trans (hlo n a)
  have hr37 : ∀ n, 37 ≤ n → n < 72 → cs7 n = finY G n := fun n a b => hK2 n (by omega) (by omega)
  clear hK1 hK2
  refine ry_aast (κ := 21) (κ' := 9) (t0 := 8) (L := 3) (n := 36) (v := 37) (i := 0) (by omega) (by omega) rfl rfl hc36 (ln_at_11_36) ((hr37 37 (by omega) (by omega)).trans (fyE_9 (show Is 37 9 by unfold Is; decide +kernel))) (by decide) rfl (by decide +kernel) dX11_init_42 ?_
  refine ry_cs (fun cs8 e8 => ?_)
  have hc0 : cs8 0 = .inr (11, [.ref (gA G 1), .ref (gA G 36), .null, .null, .null, .null, .null, .null, .null, .null, .int 0]) := by rw [e8, va_up_ne _ _ (by omega)]; exact hc0
  have hc36 : cs8 36 = refI G 21 36 1 := by rw [e8]; exact va_up_self _ _ _
  have hr1 : ∀ n, 1 ≤ n → n < 36 → cs8 n = finY G n := fun n a b => by rw [e8, va_up_ne _ _ (by omega)]; exact hr1 n a b
  have hr37 : ∀ n, 37 ≤ n → n < 72 → cs8 n = finY G n := fun n a b => by rw [e8, va_up_ne _ _ (by omega)]; exact hr37 n a b
  have hlo : ∀ n, n < 0 → cs8 n = cs n := fun n a => by rw [e8, va_up_ne _ _ (by omega)]; exact hlo n a
  clear e8
  refine ry_iinc 1 [(0, .ref (gA G 0)), (1, .int 1)] [1, 0] dX11_init_43 rfl rfl (by decide) rfl ?_
  refine ry_goto 25 dX11_init_46 (by decide) ?_
  refine ry_iload_n 1 dX11_init_25 rfl rfl ?_
  refine ry_iconst (v := 3) dX11_init_26 rfl ?_
  refine ry_icmp_ge 49 dX11_init_27 (by decide) (fun q => absurd q (by decide)) (fun _ => ?_)
  refine ry_aload_n 0 dX11_init_30 rfl rfl ?_
  refine ry_get fl_X11_16 (by omega) hc0 rfl dX11_init_31 ?_
  refine ry_iload_n 1 dX11_init_34 rfl rfl ?_
  refine ry_new (ci := 9) (fs := [.null, .int 0, .int 0, .int 0, .null, .null, .null, .null, .null]) tyX9 tyX9_ok rfl i_X9 wc_X11_7 wi_9 wn_9 bl_9 (by decide) (by decide) dX11_init_35 ?_
  refine ry_cs (fun cs9 e9 => ?_)
  have hc0 : cs9 0 = .inr (11, [.ref (gA G 1), .ref (gA G 36), .null, .null, .null, .null, .null, .null, .null, .null, .int 0]) := by rw [e9, va_up_ne _ _ (by omega)]; exact hc0
  have hc36 : cs9 36 = refI G 21 36 1 := by rw [e9, va_up_ne _ _ (by omega)]; exact hc36
  have hc72 : cs9 72 = .inr (9, [.null, .int 0, .int 0, .int 0, .null, .null, .null, .null, .null]) := by rw [e9]; exact va_up_self _ _ _
  have hr1 : ∀ n, 1 ≤ n → n < 36 → cs9 n = finY G n := fun n a b => by rw [e9, va_up_ne _ _ (by omega)]; exact hr1 n a b
  have hr37 : ∀ n, 37 ≤ n → n < 72 → cs9 n = finY G n := fun n a b => by rw [e9, va_up_ne _ _ (by omega)]; exact hr37 n a b
  have hlo : ∀ n, n < 0 → cs9 n = cs n := fun n a => by rw [e9, va_up_ne _ _ (by omega)]; exact hlo n a
  clear e9
  refine ry_dup dX11_init_38 rfl ?_
  refine ry_callI (As := []) (n := 72) (mc := 34) (ms := 1200) (Kc G 72 35 _) (fun _ _ h => by have := h.1; omega) mw_X9_init rfl win_X9_init wm_X11_9 rfl ⟨show d + 4 + 1 ≤ d + 5 by omega, show 30 * (d + 4) + 30 ≤ 30 * (d + 5) by omega, by decide, by decide⟩ (Nat.le_of_ble_eq_true rfl) dX11_init_39 (cX9_init G d (show Is 72 9 by unfold Is; decide +kernel) hc72) (fun cs10 hK => ?_) rfl
  obtain ⟨-, hK1, hK2⟩ := hK
  have hc0 : cs10 0 = .inr (11, [.ref (gA G 1), .ref (gA G 36), .null, .null, .null, .null, .null, .null, .null, .null, .int 0]) := (hK1 _ (by omega)).trans hc0
  have hc36 : cs10 36 = refI G 21 36 1 := (hK1 _ (by omega)).trans hc36
  have hr1 : ∀ n, 1 ≤ n → n < 36 → cs10 n = finY G n := fun n a b => (hK1 n (by omega)).trans (hr1 n a b)
  have hr37 : ∀ n, 37 ≤ n → n < 72 → cs10 n = finY G n := fun n a b => (hK1 n (by omega)).trans (hr37 n a b)
  have hlo : ∀ n, n < 0 → cs10 n = cs n := fun n a => (hK1 n (by omega)).trans (hlo n a)
  have hr37 : ∀ n, 37 ≤ n → n < 107 → cs10 n = finY G n := fun n a b => if h : n < 72 then hr37 n a h else hK2 n (by omega) (by omega)
  clear hK1 hK2
  refine ry_aast (κ := 21) (κ' := 9) (t0 := 8) (L := 3) (n := 36) (v := 72) (i := 1) (by omega) (by omega) rfl rfl hc36 (ln_at_11_36) ((hr37 72 (by omega) (by omega)).trans (fyE_9 (show Is 72 9 by unfold Is; decide +kernel))) (by decide) rfl (by decide +kernel) dX11_init_42 ?_
  refine ry_cs (fun cs11 e11 => ?_)
  have hc0 : cs11 0 = .inr (11, [.ref (gA G 1), .ref (gA G 36), .null, .null, .null, .null, .null, .null, .null, .null, .int 0]) := by rw [e11, va_up_ne _ _ (by omega)]; exact hc0
  have hc36 : cs11 36 = refI G 21 36 2 := by rw [e11]; exact va_up_self _ _ _
  have hr1 : ∀ n, 1 ≤ n → n < 36 → cs11 n = finY G n := fun n a b => by rw [e11, va_up_ne _ _ (by omega)]; exact hr1 n a b
  have hr37 : ∀ n, 37 ≤ n → n < 107 → cs11 n = finY G n := fun n a b => by rw [e11, va_up_ne _ _ (by omega)]; exact hr37 n a b
  have hlo : ∀ n, n < 0 → cs11 n = cs n := fun n a => by rw [e11, va_up_ne _ _ (by omega)]; exact hlo n a
  clear e11
  refine ry_iinc 1 [(0, .ref (gA G 0)), (1, .int 2)] [1, 0] dX11_init_43 rfl rfl (by decide) rfl ?_
  refine ry_goto 25 dX11_init_46 (by decide) ?_
  refine ry_iload_n 1 dX11_init_25 rfl rfl ?_
  refine ry_iconst (v := 3) dX11_init_26 rfl ?_
  refine ry_icmp_ge 49 dX11_init_27 (by decide) (fun q => absurd q (by decide)) (fun _ => ?_)
  refine ry_aload_n 0 dX11_init_30 rfl rfl ?_
  refine ry_get fl_X11_16 (by omega) hc0 rfl dX11_init_31 ?_
  refine ry_iload_n 1 dX11_init_34 rfl rfl ?_
  refine ry_new (ci := 9) (fs := [.null, .int 0, .int 0, .int 0, .null, .null, .null, .null, .null]) tyX9 tyX9_ok rfl i_X9 wc_X11_7 wi_9 wn_9 bl_9 (by decide) (by decide) dX11_init_35 ?_
  refine ry_cs (fun cs12 e12 => ?_)
  have hc0 : cs12 0 = .inr (11, [.ref (gA G 1), .ref (gA G 36), .null, .null, .null, .null, .null, .null, .null, .null, .int 0]) := by rw [e12, va_up_ne _ _ (by omega)]; exact hc0
  have hc36 : cs12 36 = refI G 21 36 2 := by rw [e12, va_up_ne _ _ (by omega)]; exact hc36
  have hc107 : cs12 107 = .inr (9, [.null, .int 0, .int 0, .int 0, .null, .null, .null, .null, .null]) := by rw [e12]; exact va_up_self _ _ _
  have hr1 : ∀ n, 1 ≤ n → n < 36 → cs12 n = finY G n := fun n a b => by rw [e12, va_up_ne _ _ (by omega)]; exact hr1 n a b
  have hr37 : ∀ n, 37 ≤ n → n < 107 → cs12 n = finY G n := fun n a b => by rw [e12, va_up_ne _ _ (by omega)]; exact hr37 n a b
  have hlo : ∀ n, n < 0 → cs12 n = cs n := fun n a => by rw [e12, va_up_ne _ _ (by omega)]; exact hlo n a
  clear e12
  refine ry_dup dX11_init_38 rfl ?_
  refine ry_callI (As := []) (n := 107) (mc := 34) (ms := 1200) (Kc G 107 35 _) (fun _ _ h => by have := h.1; omega) mw_X9_init rfl win_X9_init wm_X11_9 rfl ⟨show d + 4 + 1 ≤ d + 5 by omega, show 30 * (d + 4) + 30 ≤ 30 * (d + 5) by omega, by decide, by decide⟩ (Nat.le_of_ble_eq_true rfl) dX11_init_39 (cX9_init G d (show Is 107 9 by unfold Is; decide +kernel) hc107) (fun cs13 hK => ?_) rfl
  obtain ⟨-, hK1, hK2⟩ := hK
  have hc0 : cs13 0 = .inr (11, [.ref (gA G 1), .ref (gA G 36), .null, .null, .null, .null, .null, .null, .null, .null, .int 0]) := (hK1 _ (by omega)).trans hc0
  have hc36 : cs13 36 = refI G 21 36 2 := (hK1 _ (by omega)).trans hc36
  have hr1 : ∀ n, 1 ≤ n → n < 36 → cs13 n = finY G n := fun n a b => (hK1 n (by omega)).trans (hr1 n a b)
  have hr37 : ∀ n, 37 ≤ n → n < 107 → cs13 n = finY G n := fun n a b => (hK1 n (by omega)).trans (hr37 n a b)
  have hlo : ∀ n, n < 0 → cs13 n = cs n := fun n a => (hK1 n (by omega)).trans (hlo n a)
  have hr37 : ∀ n, 37 ≤ n → n < 142 → cs13 n = finY G n := fun n a b => if h : n < 107 then hr37 n a h else hK2 n (by omega) (by omega)
  clear hK1 hK2
  refine ry_aast (κ := 21) (κ' := 9) (t0 := 8) (L := 3) (n := 36) (v := 107) (i := 2) (by omega) (by omega) rfl rfl hc36 (ln_at_11_36) ((hr37 107 (by omega) (by omega)).trans (fyE_9 (show Is 107 9 by unfold Is; decide +kernel))) (by decide) rfl (by decide +kernel) dX11_init_42 ?_
  refine ry_cs (fun cs14 e14 => ?_)
  have hc0 : cs14 0 = .inr (11, [.ref (gA G 1), .ref (gA G 36), .null, .null, .null, .null, .null, .null, .null, .null, .int 0]) := by rw [e14, va_up_ne _ _ (by omega)]; exact hc0
  have hc36 : cs14 36 = refI G 21 36 3 := by rw [e14]; exact va_up_self _ _ _
  have hr1 : ∀ n, 1 ≤ n → n < 36 → cs14 n = finY G n := fun n a b => by rw [e14, va_up_ne _ _ (by omega)]; exact hr1 n a b
  have hr37 : ∀ n, 37 ≤ n → n < 142 → cs14 n = finY G n := fun n a b => by rw [e14, va_up_ne _ _ (by omega)]; exact hr37 n a b
  have hlo : ∀ n, n < 0 → cs14 n = cs n := fun n a => by rw [e14, va_up_ne _ _ (by omega)]; exact hlo n a
  clear e14
  refine ry_iinc 1 [(0, .ref (gA G 0)), (1, .int 3)] [1, 0] dX11_init_43 rfl rfl (by decide) rfl ?_
  refine ry_goto 25 dX11_init_46 (by decide) ?_
  refine ry_iload_n 1 dX11_init_25 rfl rfl ?_
  refine ry_iconst (v := 3) dX11_init_26 rfl ?_
  refine ry_icmp_ge 49 dX11_init_27 (by decide) (fun _ => ?_) (fun q => absurd (by decide) q)
  refine ry_aload_n 0 dX11_init_49 rfl rfl ?_
  refine ry_iconst (v := 3) dX11_init_50 rfl ?_
  refine ry_newa (κ := 15) (n := 3) (atype := .boolean) (ty := .boolean) (t0 := 2) rfl wa_boolean rfl (fun _ _ => Iff.rfl) rfl (by decide) rfl (by decide) (by decide) (by decide) dX11_init_51 ?_
  refine ry_cs (fun cs15 e15 => ?_)
  have hc0 : cs15 0 = .inr (11, [.ref (gA G 1), .ref (gA G 36), .null, .null, .null, .null, .null, .null, .null, .null, .int 0]) := by rw [e15, va_up_ne _ _ (by omega)]; exact hc0
  have hc36 : cs15 36 = refI G 21 36 3 := by rw [e15, va_up_ne _ _ (by omega)]; exact hc36
  have hc142 : cs15 142 = .inl (gY G 15, 3, .inl (fun _ => 0)) := by rw [e15]; exact va_up_self _ _ _
  have hr1 : ∀ n, 1 ≤ n → n < 36 → cs15 n = finY G n := fun n a b => by rw [e15, va_up_ne _ _ (by omega)]; exact hr1 n a b
  have hr37 : ∀ n, 37 ≤ n → n < 142 → cs15 n = finY G n := fun n a b => by rw [e15, va_up_ne _ _ (by omega)]; exact hr37 n a b
  have hlo : ∀ n, n < 0 → cs15 n = cs n := fun n a => by rw [e15, va_up_ne _ _ (by omega)]; exact hlo n a
  clear e15
  refine ry_putF ff_X11_20 rfl (by omega) hc0 rfl rfl (by decide) dX11_init_53 ?_
  refine ry_cs (fun cs16 e16 => ?_)
  have hc36 : cs16 36 = refI G 21 36 3 := by rw [e16, va_up_ne _ _ (by omega)]; exact hc36
  have hc142 : cs16 142 = .inl (gY G 15, 3, .inl (fun _ => 0)) := by rw [e16, va_up_ne _ _ (by omega)]; exact hc142
  have hc0 : cs16 0 = .inr (11, [.ref (gA G 1), .ref (gA G 36), .ref (gA G 142), .null, .null, .null, .null, .null, .null, .null, .int 0]) := by rw [e16]; exact va_up_self _ _ _
  have hr1 : ∀ n, 1 ≤ n → n < 36 → cs16 n = finY G n := fun n a b => by rw [e16, va_up_ne _ _ (by omega)]; exact hr1 n a b
  have hr37 : ∀ n, 37 ≤ n → n < 142 → cs16 n = finY G n := fun n a b => by rw [e16, va_up_ne _ _ (by omega)]; exact hr37 n a b
  have hlo : ∀ n, n < 0 → cs16 n = cs n := fun n a => by rw [e16, va_up_ne _ _ (by omega)]; exact hlo n a
  clear e16
  refine ry_aload_n 0 dX11_init_56 rfl rfl ?_
  refine ry_new (ci := 5) (fs := [.null, .int 0, .int 0, .int 0, .int 0, .int 0, .int 0, .int 0, .int 0, .null, .null, .int 0, .int 0, .int 0, .int 0]) tyX5 tyX5_ok rfl i_X5 wc_X11_24 wi_5 wn_5 bl_5 (by decide) (by decide) dX11_init_57 ?_
  refine ry_cs (fun cs17 e17 => ?_)
  have hc0 : cs17 0 = .inr (11, [.ref (gA G 1), .ref (gA G 36), .ref (gA G 142), .null, .null, .null, .null, .null, .null, .null, .int 0]) := by rw [e17, va_up_ne _ _ (by omega)]; exact hc0
  have hc36 : cs17 36 = refI G 21 36 3 := by rw [e17, va_up_ne _ _ (by omega)]; exact hc36
  have hc142 : cs17 142 = .inl (gY G 15, 3, .inl (fun _ => 0)) := by rw [e17, va_up_ne _ _ (by omega)]; exact hc142
  have hc143 : cs17 143 = .inr (5, [.null, .int 0, .int 0, .int 0, .int 0, .int 0, .int 0, .int 0, .int 0, .null, .null, .int 0, .int 0, .int 0, .int 0]) := by rw [e17]; exact va_up_self _ _ _
  have hr1 : ∀ n, 1 ≤ n → n < 36 → cs17 n = finY G n := fun n a b => by rw [e17, va_up_ne _ _ (by omega)]; exact hr1 n a b
  have hr37 : ∀ n, 37 ≤ n → n < 142 → cs17 n = finY G n := fun n a b => by rw [e17, va_up_ne _ _ (by omega)]; exact hr37 n a b
  have hlo : ∀ n, n < 0 → cs17 n = cs n := fun n a => by rw [e17, va_up_ne _ _ (by omega)]; exact hlo n a
  clear e17
  refine ry_dup dX11_init_60 rfl ?_
  refine ry_aload_n 0 dX11_init_61 rfl rfl ?_
  refine ry_get fl_X11_10 (by omega) hc0 rfl dX11_init_62 ?_
  refine ry_get fl_X11_26 (n := 1) (by omega) ((hr1 1 (by omega) (by omega)).trans fy_1) rfl dX11_init_65 ?_
  refine ry_callI (As := [.ref (gA G 2)]) (n := 143) (mc := 2) (ms := 4) (Kc G 143 3 _) (fun _ _ h => by have := h.1; omega) mw_X5_init rfl win_X5_init wm_X11_30 rfl ⟨show (d + 3) + 1 + 1 ≤ d + 5 by omega, show 30 * ((d + 3) + 1) + 30 ≤ 30 * (d + 5) by omega, by decide, by decide⟩ (Nat.le_of_ble_eq_true rfl) dX11_init_68 (cX5_init G (d + 3) hc143) (fun cs18 hK => ?_) rfl
  obtain ⟨-, hK1, hK2⟩ := hK
  have hc0 : cs18 0 = .inr (11, [.ref (gA G 1), .ref (gA G 36), .ref (gA G 142), .null, .null, .null, .null, .null, .null, .null, .int 0]) := (hK1 _ (by omega)).trans hc0
  have hc36 : cs18 36 = refI G 21 36 3 := (hK1 _ (by omega)).trans hc36
  have hc142 : cs18 142 = .inl (gY G 15, 3, .inl (fun _ => 0)) := (hK1 _ (by omega)).trans hc142
  have hr1 : ∀ n, 1 ≤ n → n < 36 → cs18 n = finY G n := fun n a b => (hK1 n (by omega)).trans (hr1 n a b)
  have hr37 : ∀ n, 37 ≤ n → n < 142 → cs18 n = finY G n := fun n a b => (hK1 n (by omega)).trans (hr37 n a b)
  have hlo : ∀ n, n < 0 → cs18 n = cs n := fun n a => (hK1 n (by omega)).trans (hlo n a)
  have hr143 : ∀ n, 143 ≤ n → n < 146 → cs18 n = finY G n := fun n a b => hK2 n (by omega) (by omega)
  clear hK1 hK2
  refine ry_putF ff_X11_33 rfl (by omega) hc0 rfl rfl (by decide) dX11_init_71 ?_
  refine ry_cs (fun cs19 e19 => ?_)
  have hc36 : cs19 36 = refI G 21 36 3 := by rw [e19, va_up_ne _ _ (by omega)]; exact hc36
  have hc142 : cs19 142 = .inl (gY G 15, 3, .inl (fun _ => 0)) := by rw [e19, va_up_ne _ _ (by omega)]; exact hc142
  have hc0 : cs19 0 = .inr (11, [.ref (gA G 1), .ref (gA G 36), .ref (gA G 142), .ref (gA G 143), .null, .null, .null, .null, .null, .null, .int 0]) := by rw [e19]; exact va_up_self _ _ _
  have hr1 : ∀ n, 1 ≤ n → n < 36 → cs19 n = finY G n := fun n a b => by rw [e19, va_up_ne _ _ (by omega)]; exact hr1 n a b
  have hr37 : ∀ n, 37 ≤ n → n < 142 → cs19 n = finY G n := fun n a b => by rw [e19, va_up_ne _ _ (by omega)]; exact hr37 n a b
  have hr143 : ∀ n, 143 ≤ n → n < 146 → cs19 n = finY G n := fun n a b => by rw [e19, va_up_ne _ _ (by omega)]; exact hr143 n a b
  have hlo : ∀ n, n < 0 → cs19 n = cs n := fun n a => by rw [e19, va_up_ne _ _ (by omega)]; exact hlo n a
  clear e19
  refine ry_aload_n 0 dX11_init_74 rfl rfl ?_
  refine ry_new (ci := 3) (fs := [.null, .null, .int 0, .int 0, .null, .null, .null, .null, .null, .null, .null, .int 0, .int 0, .null, .null, .null, .null, .int 0, .int 0, .int 0]) tyX3 tyX3_ok rfl i_X3 wc_X11_37 wi_3 wn_3 bl_3 (by decide) (by decide) dX11_init_75 ?_
  refine ry_cs (fun cs20 e20 => ?_)
  have hc0 : cs20 0 = .inr (11, [.ref (gA G 1), .ref (gA G 36), .ref (gA G 142), .ref (gA G 143), .null, .null, .null, .null, .null, .null, .int 0]) := by rw [e20, va_up_ne _ _ (by omega)]; exact hc0
  have hc36 : cs20 36 = refI G 21 36 3 := by rw [e20, va_up_ne _ _ (by omega)]; exact hc36
  have hc142 : cs20 142 = .inl (gY G 15, 3, .inl (fun _ => 0)) := by rw [e20, va_up_ne _ _ (by omega)]; exact hc142
  have hc146 : cs20 146 = .inr (3, [.null, .null, .int 0, .int 0, .null, .null, .null, .null, .null, .null, .null, .int 0, .int 0, .null, .null, .null, .null, .int 0, .int 0, .int 0]) := by rw [e20]; exact va_up_self _ _ _
  have hr1 : ∀ n, 1 ≤ n → n < 36 → cs20 n = finY G n := fun n a b => by rw [e20, va_up_ne _ _ (by omega)]; exact hr1 n a b
  have hr37 : ∀ n, 37 ≤ n → n < 142 → cs20 n = finY G n := fun n a b => by rw [e20, va_up_ne _ _ (by omega)]; exact hr37 n a b
  have hr143 : ∀ n, 143 ≤ n → n < 146 → cs20 n = finY G n := fun n a b => by rw [e20, va_up_ne _ _ (by omega)]; exact hr143 n a b
  have hlo : ∀ n, n < 0 → cs20 n = cs n := fun n a => by rw [e20, va_up_ne _ _ (by omega)]; exact hlo n a
  clear e20
  refine ry_dup dX11_init_78 rfl ?_
  refine ry_aload_n 0 dX11_init_79 rfl rfl ?_
  refine ry_get fl_X11_10 (by omega) hc0 rfl dX11_init_80 ?_
  refine ry_get fl_X11_39 (n := 1) (by omega) ((hr1 1 (by omega) (by omega)).trans fy_1) rfl dX11_init_83 ?_
  refine ry_iconst (v := 0) dX11_init_86 rfl ?_
  refine ry_aald (κ := 19) (t0 := 6) (n := 4) (j := 0) (i := 2) (by omega) rfl ((hr1 4 (by omega) (by omega)).trans fy_4) (by decide +kernel) rfl (by decide) dX11_init_87 ?_
  rw [show sp 4 0 = 8 by decide +kernel]
  refine ry_aload_n 0 dX11_init_88 rfl rfl ?_
  refine ry_get fl_X11_10 (by omega) hc0 rfl dX11_init_89 ?_
  refine ry_get fl_X11_43 (n := 1) (by omega) ((hr1 1 (by omega) (by omega)).trans fy_1) rfl dX11_init_92 ?_
  refine ry_iconst (v := 0) dX11_init_95 rfl ?_
  refine ry_aald (κ := 20) (t0 := 7) (n := 5) (j := 0) (i := 2) (by omega) rfl ((hr1 5 (by omega) (by omega)).trans fy_5) (by decide +kernel) rfl (by decide) dX11_init_96 ?_
  rw [show sp 5 0 = 10 by decide +kernel]
  refine ry_callI (As := [.ref (gA G 8), .ref (gA G 10)]) (n := 146) (mc := 87) (ms := 1122) (Kc G 146 88 _) (fun _ _ h => by have := h.1; omega) mw_X3_init rfl win_X3_init wm_X11_47 rfl ⟨show (d + 2) + 2 + 1 ≤ d + 5 by omega, show 30 * ((d + 2) + 2) + 30 ≤ 30 * (d + 5) by omega, by decide, by decide⟩ (Nat.le_of_ble_eq_true rfl) dX11_init_97 (cX3_init G (d + 2) hc146) (fun cs21 hK => ?_) rfl
  obtain ⟨-, hK1, hK2⟩ := hK
  have hc0 : cs21 0 = .inr (11, [.ref (gA G 1), .ref (gA G 36), .ref (gA G 142), .ref (gA G 143), .null, .null, .null, .null, .null, .null, .int 0]) := (hK1 _ (by omega)).trans hc0
  have hc36 : cs21 36 = refI G 21 36 3 := (hK1 _ (by omega)).trans hc36
  have hc142 : cs21 142 = .inl (gY G 15, 3, .inl (fun _ => 0)) := (hK1 _ (by omega)).trans hc142
  have hr1 : ∀ n, 1 ≤ n → n < 36 → cs21 n = finY G n := fun n a b => (hK1 n (by omega)).trans (hr1 n a b)
  have hr37 : ∀ n, 37 ≤ n → n < 142 → cs21 n = finY G n := fun n a b => (hK1 n (by omega)).trans (hr37 n a b)
  have hr143 : ∀ n, 143 ≤ n → n < 146 → cs21 n = finY G n := fun n a b => (hK1 n (by omega)).trans (hr143 n a b)
  have hlo : ∀ n, n < 0 → cs21 n = cs n := fun n a => (hK1 n (by omega)).trans (hlo n a)
  have hr143 : ∀ n, 143 ≤ n → n < 234 → cs21 n = finY G n := fun n a b => if h : n < 146 then hr143 n a h else hK2 n (by omega) (by omega)
  clear hK1 hK2
  refine ry_putF ff_X11_50 rfl (by omega) hc0 rfl rfl (by decide) dX11_init_100 ?_
  refine ry_cs (fun cs22 e22 => ?_)
  have hc36 : cs22 36 = refI G 21 36 3 := by rw [e22, va_up_ne _ _ (by omega)]; exact hc36
  have hc142 : cs22 142 = .inl (gY G 15, 3, .inl (fun _ => 0)) := by rw [e22, va_up_ne _ _ (by omega)]; exact hc142
  have hc0 : cs22 0 = .inr (11, [.ref (gA G 1), .ref (gA G 36), .ref (gA G 142), .ref (gA G 143), .ref (gA G 146), .null, .null, .null, .null, .null, .int 0]) := by rw [e22]; exact va_up_self _ _ _
  have hr1 : ∀ n, 1 ≤ n → n < 36 → cs22 n = finY G n := fun n a b => by rw [e22, va_up_ne _ _ (by omega)]; exact hr1 n a b
  have hr37 : ∀ n, 37 ≤ n → n < 142 → cs22 n = finY G n := fun n a b => by rw [e22, va_up_ne _ _ (by omega)]; exact hr37 n a b
  have hr143 : ∀ n, 143 ≤ n → n < 234 → cs22 n = finY G n := fun n a b => by rw [e22, va_up_ne _ _ (by omega)]; exact hr143 n a b
  have hlo : ∀ n, n < 0 → cs22 n = cs n := fun n a => by rw [e22, va_up_ne _ _ (by omega)]; exact hlo n a
  clear e22
  refine ry_aload_n 0 dX11_init_103 rfl rfl ?_
  refine ry_new (ci := 0) (fs := [.null, .int 0, .null, .null, .null, .int 0]) tyX0 tyX0_ok rfl i_X0 wc_X11_54 wi_0 wn_0 bl_0 (by decide) (by decide) dX11_init_104 ?_
  refine ry_cs (fun cs23 e23 => ?_)
  have hc0 : cs23 0 = .inr (11, [.ref (gA G 1), .ref (gA G 36), .ref (gA G 142), .ref (gA G 143), .ref (gA G 146), .null, .null, .null, .null, .null, .int 0]) := by rw [e23, va_up_ne _ _ (by omega)]; exact hc0
  have hc36 : cs23 36 = refI G 21 36 3 := by rw [e23, va_up_ne _ _ (by omega)]; exact hc36
  have hc142 : cs23 142 = .inl (gY G 15, 3, .inl (fun _ => 0)) := by rw [e23, va_up_ne _ _ (by omega)]; exact hc142
  have hc234 : cs23 234 = .inr (0, [.null, .int 0, .null, .null, .null, .int 0]) := by rw [e23]; exact va_up_self _ _ _
  have hr1 : ∀ n, 1 ≤ n → n < 36 → cs23 n = finY G n := fun n a b => by rw [e23, va_up_ne _ _ (by omega)]; exact hr1 n a b
  have hr37 : ∀ n, 37 ≤ n → n < 142 → cs23 n = finY G n := fun n a b => by rw [e23, va_up_ne _ _ (by omega)]; exact hr37 n a b
  have hr143 : ∀ n, 143 ≤ n → n < 234 → cs23 n = finY G n := fun n a b => by rw [e23, va_up_ne _ _ (by omega)]; exact hr143 n a b
  have hlo : ∀ n, n < 0 → cs23 n = cs n := fun n a => by rw [e23, va_up_ne _ _ (by omega)]; exact hlo n a
  clear e23
  refine ry_dup dX11_init_107 rfl ?_
  refine ry_callIN (As := []) (n := 234) (mc := 11) (ms := 119) (Kc G 234 12 _) (fun _ _ h => by have := h.1; omega) mw_X0_init rfl win_X0_init wm_X11_56 rfl ⟨show (d + 3) + 1 + 1 ≤ d + 5 by omega, show 30 * ((d + 3) + 1) + 30 ≤ 30 * (d + 5) by omega, by decide, by decide⟩ (Nat.le_of_ble_eq_true rfl) dX11_init_108 (cX0_init G (d + 3) hc234) (fun cs24 hK => ?_) rfl
  obtain ⟨-, hK1, hK2⟩ := hK
  have hc0 : cs24 0 = .inr (11, [.ref (gA G 1), .ref (gA G 36), .ref (gA G 142), .ref (gA G 143), .ref (gA G 146), .null, .null, .null, .null, .null, .int 0]) := (hK1 _ (by omega)).trans hc0
  have hc36 : cs24 36 = refI G 21 36 3 := (hK1 _ (by omega)).trans hc36
  have hc142 : cs24 142 = .inl (gY G 15, 3, .inl (fun _ => 0)) := (hK1 _ (by omega)).trans hc142
  have hr1 : ∀ n, 1 ≤ n → n < 36 → cs24 n = finY G n := fun n a b => (hK1 n (by omega)).trans (hr1 n a b)
  have hr37 : ∀ n, 37 ≤ n → n < 142 → cs24 n = finY G n := fun n a b => (hK1 n (by omega)).trans (hr37 n a b)
  have hr143 : ∀ n, 143 ≤ n → n < 234 → cs24 n = finY G n := fun n a b => (hK1 n (by omega)).trans (hr143 n a b)
  have hlo : ∀ n, n < 0 → cs24 n = cs n := fun n a => (hK1 n (by omega)).trans (hlo n a)
  have hr143 : ∀ n, 143 ≤ n → n < 246 → cs24 n = finY G n := fun n a b => if h : n < 234 then hr143 n a h else hK2 n (by omega) (by omega)
  clear hK1 hK2
  refine ry_putF ff_X11_57 rfl (by omega) hc0 rfl rfl (by decide) dX11_init_111 ?_
  refine ry_cs (fun cs25 e25 => ?_)
  have hc36 : cs25 36 = refI G 21 36 3 := by rw [e25, va_up_ne _ _ (by omega)]; exact hc36
  have hc142 : cs25 142 = .inl (gY G 15, 3, .inl (fun _ => 0)) := by rw [e25, va_up_ne _ _ (by omega)]; exact hc142
  have hc0 : cs25 0 = .inr (11, [.ref (gA G 1), .ref (gA G 36), .ref (gA G 142), .ref (gA G 143), .ref (gA G 146), .ref (gA G 234), .null, .null, .null, .null, .int 0]) := by rw [e25]; exact va_up_self _ _ _
  have hr1 : ∀ n, 1 ≤ n → n < 36 → cs25 n = finY G n := fun n a b => by rw [e25, va_up_ne _ _ (by omega)]; exact hr1 n a b
  have hr37 : ∀ n, 37 ≤ n → n < 142 → cs25 n = finY G n := fun n a b => by rw [e25, va_up_ne _ _ (by omega)]; exact hr37 n a b
  have hr143 : ∀ n, 143 ≤ n → n < 246 → cs25 n = finY G n := fun n a b => by rw [e25, va_up_ne _ _ (by omega)]; exact hr143 n a b
  have hlo : ∀ n, n < 0 → cs25 n = cs n := fun n a => by rw [e25, va_up_ne _ _ (by omega)]; exact hlo n a
  clear e25
  refine ry_aload_n 0 dX11_init_114 rfl rfl ?_
  refine ry_new (ci := 6) (fs := [.null, .null, .null, .int 0]) tyX6 tyX6_ok rfl i_X6 wc_X11_61 wi_6 wn_6 bl_6 (by decide) (by decide) dX11_init_115 ?_
  refine ry_cs (fun cs26 e26 => ?_)
  have hc0 : cs26 0 = .inr (11, [.ref (gA G 1), .ref (gA G 36), .ref (gA G 142), .ref (gA G 143), .ref (gA G 146), .ref (gA G 234), .null, .null, .null, .null, .int 0]) := by rw [e26, va_up_ne _ _ (by omega)]; exact hc0
  have hc36 : cs26 36 = refI G 21 36 3 := by rw [e26, va_up_ne _ _ (by omega)]; exact hc36
  have hc142 : cs26 142 = .inl (gY G 15, 3, .inl (fun _ => 0)) := by rw [e26, va_up_ne _ _ (by omega)]; exact hc142
  have hc246 : cs26 246 = .inr (6, [.null, .null, .null, .int 0]) := by rw [e26]; exact va_up_self _ _ _
  have hr1 : ∀ n, 1 ≤ n → n < 36 → cs26 n = finY G n := fun n a b => by rw [e26, va_up_ne _ _ (by omega)]; exact hr1 n a b
  have hr37 : ∀ n, 37 ≤ n → n < 142 → cs26 n = finY G n := fun n a b => by rw [e26, va_up_ne _ _ (by omega)]; exact hr37 n a b
  have hr143 : ∀ n, 143 ≤ n → n < 246 → cs26 n = finY G n := fun n a b => by rw [e26, va_up_ne _ _ (by omega)]; exact hr143 n a b
  have hlo : ∀ n, n < 0 → cs26 n = cs n := fun n a => by rw [e26, va_up_ne _ _ (by omega)]; exact hlo n a
  clear e26
  refine ry_dup dX11_init_118 rfl ?_
  refine ry_callIN (As := []) (n := 246) (mc := 19) (ms := 202) (Kc G 246 20 _) (fun _ _ h => by have := h.1; omega) mw_X6_init rfl win_X6_init wm_X11_63 rfl ⟨show (d + 3) + 1 + 1 ≤ d + 5 by omega, show 30 * ((d + 3) + 1) + 30 ≤ 30 * (d + 5) by omega, by decide, by decide⟩ (Nat.le_of_ble_eq_true rfl) dX11_init_119 (cX6_init G (d + 3) hc246) (fun cs27 hK => ?_) rfl
  obtain ⟨-, hK1, hK2⟩ := hK
  have hc0 : cs27 0 = .inr (11, [.ref (gA G 1), .ref (gA G 36), .ref (gA G 142), .ref (gA G 143), .ref (gA G 146), .ref (gA G 234), .null, .null, .null, .null, .int 0]) := (hK1 _ (by omega)).trans hc0
  have hc36 : cs27 36 = refI G 21 36 3 := (hK1 _ (by omega)).trans hc36
  have hc142 : cs27 142 = .inl (gY G 15, 3, .inl (fun _ => 0)) := (hK1 _ (by omega)).trans hc142
  have hr1 : ∀ n, 1 ≤ n → n < 36 → cs27 n = finY G n := fun n a b => (hK1 n (by omega)).trans (hr1 n a b)
  have hr37 : ∀ n, 37 ≤ n → n < 142 → cs27 n = finY G n := fun n a b => (hK1 n (by omega)).trans (hr37 n a b)
  have hr143 : ∀ n, 143 ≤ n → n < 246 → cs27 n = finY G n := fun n a b => (hK1 n (by omega)).trans (hr143 n a b)
  have hlo : ∀ n, n < 0 → cs27 n = cs n := fun n a => (hK1 n (by omega)).trans (hlo n a)
  have hr143 : ∀ n, 143 ≤ n → n < 266 → cs27 n = finY G n := fun n a b => if h : n < 246 then hr143 n a h else hK2 n (by omega) (by omega)
  clear hK1 hK2
  refine ry_putF ff_X11_64 rfl (by omega) hc0 rfl rfl (by decide) dX11_init_122 ?_
  refine ry_cs (fun cs28 e28 => ?_)
  have hc36 : cs28 36 = refI G 21 36 3 := by rw [e28, va_up_ne _ _ (by omega)]; exact hc36
  have hc142 : cs28 142 = .inl (gY G 15, 3, .inl (fun _ => 0)) := by rw [e28, va_up_ne _ _ (by omega)]; exact hc142
  have hc0 : cs28 0 = .inr (11, [.ref (gA G 1), .ref (gA G 36), .ref (gA G 142), .ref (gA G 143), .ref (gA G 146), .ref (gA G 234), .ref (gA G 246), .null, .null, .null, .int 0]) := by rw [e28]; exact va_up_self _ _ _
  have hr1 : ∀ n, 1 ≤ n → n < 36 → cs28 n = finY G n := fun n a b => by rw [e28, va_up_ne _ _ (by omega)]; exact hr1 n a b
  have hr37 : ∀ n, 37 ≤ n → n < 142 → cs28 n = finY G n := fun n a b => by rw [e28, va_up_ne _ _ (by omega)]; exact hr37 n a b
  have hr143 : ∀ n, 143 ≤ n → n < 266 → cs28 n = finY G n := fun n a b => by rw [e28, va_up_ne _ _ (by omega)]; exact hr143 n a b
  have hlo : ∀ n, n < 0 → cs28 n = cs n := fun n a => by rw [e28, va_up_ne _ _ (by omega)]; exact hlo n a
  clear e28
  refine ry_aload_n 0 dX11_init_125 rfl rfl ?_
  refine ry_iconst (v := 5) dX11_init_126 rfl ?_
  refine ry_newa (κ := 14) (n := 5) (atype := .int) (ty := .int) (t0 := 1) rfl wa_int rfl (fun _ _ => Iff.rfl) rfl (by decide) rfl (by decide) (by decide) (by decide) dX11_init_127 ?_
  refine ry_cs (fun cs29 e29 => ?_)
  have hc0 : cs29 0 = .inr (11, [.ref (gA G 1), .ref (gA G 36), .ref (gA G 142), .ref (gA G 143), .ref (gA G 146), .ref (gA G 234), .ref (gA G 246), .null, .null, .null, .int 0]) := by rw [e29, va_up_ne _ _ (by omega)]; exact hc0
  have hc36 : cs29 36 = refI G 21 36 3 := by rw [e29, va_up_ne _ _ (by omega)]; exact hc36
  have hc142 : cs29 142 = .inl (gY G 15, 3, .inl (fun _ => 0)) := by rw [e29, va_up_ne _ _ (by omega)]; exact hc142
  have hc266 : cs29 266 = .inl (gY G 14, 5, .inl (fun _ => 0)) := by rw [e29]; exact va_up_self _ _ _
  have hr1 : ∀ n, 1 ≤ n → n < 36 → cs29 n = finY G n := fun n a b => by rw [e29, va_up_ne _ _ (by omega)]; exact hr1 n a b
  have hr37 : ∀ n, 37 ≤ n → n < 142 → cs29 n = finY G n := fun n a b => by rw [e29, va_up_ne _ _ (by omega)]; exact hr37 n a b
  have hr143 : ∀ n, 143 ≤ n → n < 266 → cs29 n = finY G n := fun n a b => by rw [e29, va_up_ne _ _ (by omega)]; exact hr143 n a b
  have hlo : ∀ n, n < 0 → cs29 n = cs n := fun n a => by rw [e29, va_up_ne _ _ (by omega)]; exact hlo n a
  clear e29
  refine ry_putF ff_X11_68 rfl (by omega) hc0 rfl rfl (by decide) dX11_init_129 ?_
  refine ry_cs (fun cs30 e30 => ?_)
  have hc36 : cs30 36 = refI G 21 36 3 := by rw [e30, va_up_ne _ _ (by omega)]; exact hc36
  have hc142 : cs30 142 = .inl (gY G 15, 3, .inl (fun _ => 0)) := by rw [e30, va_up_ne _ _ (by omega)]; exact hc142
  have hc266 : cs30 266 = .inl (gY G 14, 5, .inl (fun _ => 0)) := by rw [e30, va_up_ne _ _ (by omega)]; exact hc266
  have hc0 : cs30 0 = .inr (11, [.ref (gA G 1), .ref (gA G 36), .ref (gA G 142), .ref (gA G 143), .ref (gA G 146), .ref (gA G 234), .ref (gA G 246), .ref (gA G 266), .null, .null, .int 0]) := by rw [e30]; exact va_up_self _ _ _
  have hr1 : ∀ n, 1 ≤ n → n < 36 → cs30 n = finY G n := fun n a b => by rw [e30, va_up_ne _ _ (by omega)]; exact hr1 n a b
  have hr37 : ∀ n, 37 ≤ n → n < 142 → cs30 n = finY G n := fun n a b => by rw [e30, va_up_ne _ _ (by omega)]; exact hr37 n a b
  have hr143 : ∀ n, 143 ≤ n → n < 266 → cs30 n = finY G n := fun n a b => by rw [e30, va_up_ne _ _ (by omega)]; exact hr143 n a b
  have hlo : ∀ n, n < 0 → cs30 n = cs n := fun n a => by rw [e30, va_up_ne _ _ (by omega)]; exact hlo n a
  clear e30
  refine ry_aload_n 0 dX11_init_132 rfl rfl ?_
  refine ry_bipush (v := 10) dX11_init_133 rfl ?_
  refine ry_newa (κ := 14) (n := 10) (atype := .int) (ty := .int) (t0 := 1) rfl wa_int rfl (fun _ _ => Iff.rfl) rfl (by decide) rfl (by decide) (by decide) (by decide) dX11_init_135 ?_
  refine ry_cs (fun cs31 e31 => ?_)
  have hc0 : cs31 0 = .inr (11, [.ref (gA G 1), .ref (gA G 36), .ref (gA G 142), .ref (gA G 143), .ref (gA G 146), .ref (gA G 234), .ref (gA G 246), .ref (gA G 266), .null, .null, .int 0]) := by rw [e31, va_up_ne _ _ (by omega)]; exact hc0
  have hc36 : cs31 36 = refI G 21 36 3 := by rw [e31, va_up_ne _ _ (by omega)]; exact hc36
  have hc142 : cs31 142 = .inl (gY G 15, 3, .inl (fun _ => 0)) := by rw [e31, va_up_ne _ _ (by omega)]; exact hc142
  have hc266 : cs31 266 = .inl (gY G 14, 5, .inl (fun _ => 0)) := by rw [e31, va_up_ne _ _ (by omega)]; exact hc266
  have hc267 : cs31 267 = .inl (gY G 14, 10, .inl (fun _ => 0)) := by rw [e31]; exact va_up_self _ _ _
  have hr1 : ∀ n, 1 ≤ n → n < 36 → cs31 n = finY G n := fun n a b => by rw [e31, va_up_ne _ _ (by omega)]; exact hr1 n a b
  have hr37 : ∀ n, 37 ≤ n → n < 142 → cs31 n = finY G n := fun n a b => by rw [e31, va_up_ne _ _ (by omega)]; exact hr37 n a b
  have hr143 : ∀ n, 143 ≤ n → n < 266 → cs31 n = finY G n := fun n a b => by rw [e31, va_up_ne _ _ (by omega)]; exact hr143 n a b
  have hlo : ∀ n, n < 0 → cs31 n = cs n := fun n a => by rw [e31, va_up_ne _ _ (by omega)]; exact hlo n a
  clear e31
  refine ry_putF ff_X11_72 rfl (by omega) hc0 rfl rfl (by decide) dX11_init_137 ?_
  refine ry_cs (fun cs32 e32 => ?_)
  have hc36 : cs32 36 = refI G 21 36 3 := by rw [e32, va_up_ne _ _ (by omega)]; exact hc36
  have hc142 : cs32 142 = .inl (gY G 15, 3, .inl (fun _ => 0)) := by rw [e32, va_up_ne _ _ (by omega)]; exact hc142
  have hc266 : cs32 266 = .inl (gY G 14, 5, .inl (fun _ => 0)) := by rw [e32, va_up_ne _ _ (by omega)]; exact hc266
  have hc267 : cs32 267 = .inl (gY G 14, 10, .inl (fun _ => 0)) := by rw [e32, va_up_ne _ _ (by omega)]; exact hc267
  have hc0 : cs32 0 = .inr (11, [.ref (gA G 1), .ref (gA G 36), .ref (gA G 142), .ref (gA G 143), .ref (gA G 146), .ref (gA G 234), .ref (gA G 246), .ref (gA G 266), .ref (gA G 267), .null, .int 0]) := by rw [e32]; exact va_up_self _ _ _
  have hr1 : ∀ n, 1 ≤ n → n < 36 → cs32 n = finY G n := fun n a b => by rw [e32, va_up_ne _ _ (by omega)]; exact hr1 n a b
  have hr37 : ∀ n, 37 ≤ n → n < 142 → cs32 n = finY G n := fun n a b => by rw [e32, va_up_ne _ _ (by omega)]; exact hr37 n a b
  have hr143 : ∀ n, 143 ≤ n → n < 266 → cs32 n = finY G n := fun n a b => by rw [e32, va_up_ne _ _ (by omega)]; exact hr143 n a b
  have hlo : ∀ n, n < 0 → cs32 n = cs n := fun n a => by rw [e32, va_up_ne _ _ (by omega)]; exact hlo n a
  clear e32
  refine ry_aload_n 0 dX11_init_140 rfl rfl ?_
  refine ry_bipush (v := 10) dX11_init_141 rfl ?_
  refine ry_newa (κ := 14) (n := 10) (atype := .int) (ty := .int) (t0 := 1) rfl wa_int rfl (fun _ _ => Iff.rfl) rfl (by decide) rfl (by decide) (by decide) (by decide) dX11_init_143 ?_
  refine ry_cs (fun cs33 e33 => ?_)
  have hc0 : cs33 0 = .inr (11, [.ref (gA G 1), .ref (gA G 36), .ref (gA G 142), .ref (gA G 143), .ref (gA G 146), .ref (gA G 234), .ref (gA G 246), .ref (gA G 266), .ref (gA G 267), .null, .int 0]) := by rw [e33, va_up_ne _ _ (by omega)]; exact hc0
  have hc36 : cs33 36 = refI G 21 36 3 := by rw [e33, va_up_ne _ _ (by omega)]; exact hc36
  have hc142 : cs33 142 = .inl (gY G 15, 3, .inl (fun _ => 0)) := by rw [e33, va_up_ne _ _ (by omega)]; exact hc142
  have hc266 : cs33 266 = .inl (gY G 14, 5, .inl (fun _ => 0)) := by rw [e33, va_up_ne _ _ (by omega)]; exact hc266
  have hc267 : cs33 267 = .inl (gY G 14, 10, .inl (fun _ => 0)) := by rw [e33, va_up_ne _ _ (by omega)]; exact hc267
  have hc268 : cs33 268 = .inl (gY G 14, 10, .inl (fun _ => 0)) := by rw [e33]; exact va_up_self _ _ _
  have hr1 : ∀ n, 1 ≤ n → n < 36 → cs33 n = finY G n := fun n a b => by rw [e33, va_up_ne _ _ (by omega)]; exact hr1 n a b
  have hr37 : ∀ n, 37 ≤ n → n < 142 → cs33 n = finY G n := fun n a b => by rw [e33, va_up_ne _ _ (by omega)]; exact hr37 n a b
  have hr143 : ∀ n, 143 ≤ n → n < 266 → cs33 n = finY G n := fun n a b => by rw [e33, va_up_ne _ _ (by omega)]; exact hr143 n a b
  have hlo : ∀ n, n < 0 → cs33 n = cs n := fun n a => by rw [e33, va_up_ne _ _ (by omega)]; exact hlo n a
  clear e33
  refine ry_putF ff_X11_75 rfl (by omega) hc0 rfl rfl (by decide) dX11_init_145 ?_
  refine ry_cs (fun cs34 e34 => ?_)
  have hc36 : cs34 36 = refI G 21 36 3 := by rw [e34, va_up_ne _ _ (by omega)]; exact hc36
  have hc142 : cs34 142 = .inl (gY G 15, 3, .inl (fun _ => 0)) := by rw [e34, va_up_ne _ _ (by omega)]; exact hc142
  have hc266 : cs34 266 = .inl (gY G 14, 5, .inl (fun _ => 0)) := by rw [e34, va_up_ne _ _ (by omega)]; exact hc266
  have hc267 : cs34 267 = .inl (gY G 14, 10, .inl (fun _ => 0)) := by rw [e34, va_up_ne _ _ (by omega)]; exact hc267
  have hc268 : cs34 268 = .inl (gY G 14, 10, .inl (fun _ => 0)) := by rw [e34, va_up_ne _ _ (by omega)]; exact hc268
  have hc0 : cs34 0 = .inr (11, [.ref (gA G 1), .ref (gA G 36), .ref (gA G 142), .ref (gA G 143), .ref (gA G 146), .ref (gA G 234), .ref (gA G 246), .ref (gA G 266), .ref (gA G 267), .ref (gA G 268), .int 0]) := by rw [e34]; exact va_up_self _ _ _
  have hr1 : ∀ n, 1 ≤ n → n < 36 → cs34 n = finY G n := fun n a b => by rw [e34, va_up_ne _ _ (by omega)]; exact hr1 n a b
  have hr37 : ∀ n, 37 ≤ n → n < 142 → cs34 n = finY G n := fun n a b => by rw [e34, va_up_ne _ _ (by omega)]; exact hr37 n a b
  have hr143 : ∀ n, 143 ≤ n → n < 266 → cs34 n = finY G n := fun n a b => by rw [e34, va_up_ne _ _ (by omega)]; exact hr143 n a b
  have hlo : ∀ n, n < 0 → cs34 n = cs n := fun n a => by rw [e34, va_up_ne _ _ (by omega)]; exact hlo n a
  clear e34
  refine ry_ret dX11_init_148 ⟨by omega, hlo, fun n a b => ?_⟩
  rcases (show n = 0 ∨ n = 36 ∨ n = 142 ∨ n = 266 ∨ n = 267 ∨ n = 268 ∨ (1 ≤ n ∧ n < 36) ∨ (37 ≤ n ∧ n < 142) ∨ (143 ≤ n ∧ n < 266) by omega) with rfl | rfl | rfl | rfl | rfl | rfl | q | q | q
  · rw [hc0]; exact (fyj_11_0).symm
  · rw [hc36]; exact (fyj_11_36).symm
  · rw [hc142]; exact (fyj_11_142).symm
  · rw [hc266]; exact (fyj_11_266).symm
  · rw [hc267]; exact (fyj_11_267).symm
  · rw [hc268]; exact (fyj_11_268).symm
  · exact hr1 n q.1 q.2
  · exact hr37 n q.1 q.2
  · exact hr143 n q.1 q.2
set_option maxRecDepth 20000 in
theorem cX12_init (G : GT) (d : Nat) {cs : Nat → va_E} (hc0 : cs 269 = .inr (12, [.int 0, .null, .null, .null, .null, .null, .null, .null, .null, .null, .int 0, .int 0, .int 0, .int 0, .int 0, .long 0, .int 0, .int 0, .int 0, .null, .null, .int 0, .int 0, .int 0, .int 0, .int 0, .int 0, .int 0, .int 0, .int 0, .int 0, .null, .null, .null, .null, .null, .null, .null, .null, .null, .null, .null, .null, .null, .null, .null, .null, .null, .null, .null, .null, .null, .null, .null, .int 0, .int 0, .int 0, .int 0, .int 0, .int 0, .null, .null, .int 0, .int 0, .int 0, .int 0, .int 0, .null, .null, .int 0, .null, .int 0, .int 0, .null, .null, .null, .int 0, .int 0, .int 0, .int 0, .int 0, .int 0, .null, .int 0, .int 0, .int 0, .int 0, .int 0, .int 0, .int 0, .int 0, .null])) : SpecY G yX12_init cX12_init 1 (d + 1) 44 7327 [.ref (gA G 269)] 270 cs (Kc G 269 45 cs) := by
  refine ry_spec (by decide) (Nat.le_of_ble_eq_true rfl) ?_
  have hlo : ∀ n, n < 269 → cs n = cs n := fun _ _ => rfl
  show RunY G RX12 "<init>" cX12_init 1 none _ 0 0 0 [(0, .ref (gA G 269))] [] 270 cs
  refine ry_aload_n 0 dX12_init_0 rfl rfl ?_
  refine ry_objInit wm_X12_1 w_oi w_oc (show 1 ≤ d + 1 by omega) (show 30 ≤ 30 * (d + 1) by omega) rfl dX12_init_1 ?_
  refine ry_aload_n 0 dX12_init_4 rfl rfl ?_
  refine ry_sipush (v := 2400) dX12_init_5 rfl ?_
  refine ry_newa (κ := 13) (n := 2400) (atype := .byte) (ty := .byte) (t0 := 0) rfl wa_byte rfl (fun _ _ => Iff.rfl) rfl (by decide) rfl (by decide) (by decide) (by decide) dX12_init_8 ?_
  refine ry_cs (fun cs1 e1 => ?_)
  have hc0 : cs1 269 = .inr (12, [.int 0, .null, .null, .null, .null, .null, .null, .null, .null, .null, .int 0, .int 0, .int 0, .int 0, .int 0, .long 0, .int 0, .int 0, .int 0, .null, .null, .int 0, .int 0, .int 0, .int 0, .int 0, .int 0, .int 0, .int 0, .int 0, .int 0, .null, .null, .null, .null, .null, .null, .null, .null, .null, .null, .null, .null, .null, .null, .null, .null, .null, .null, .null, .null, .null, .null, .null, .int 0, .int 0, .int 0, .int 0, .int 0, .int 0, .null, .null, .int 0, .int 0, .int 0, .int 0, .int 0, .null, .null, .int 0, .null, .int 0, .int 0, .null, .null, .null, .int 0, .int 0, .int 0, .int 0, .int 0, .int 0, .null, .int 0, .int 0, .int 0, .int 0, .int 0, .int 0, .int 0, .int 0, .null]) := by rw [e1, va_up_ne _ _ (by omega)]; exact hc0
  have hc1 : cs1 270 = .inl (gY G 13, 2400, .inl (fun _ => 0)) := by rw [e1]; exact va_up_self _ _ _
  have hlo : ∀ n, n < 269 → cs1 n = cs n := fun n a => by rw [e1, va_up_ne _ _ (by omega)]; exact hlo n a
  clear e1
  refine ry_putF ff_X12_7 rfl (by omega) hc0 rfl rfl (by decide) dX12_init_10 ?_
  refine ry_cs (fun cs2 e2 => ?_)
  have hc1 : cs2 270 = .inl (gY G 13, 2400, .inl (fun _ => 0)) := by rw [e2, va_up_ne _ _ (by omega)]; exact hc1
  have hc0 : cs2 269 = .inr (12, [.int 0, .ref (gA G 270), .null, .null, .null, .null, .null, .null, .null, .null, .int 0, .int 0, .int 0, .int 0, .int 0, .long 0, .int 0, .int 0, .int 0, .null, .null, .int 0, .int 0, .int 0, .int 0, .int 0, .int 0, .int 0, .int 0, .int 0, .int 0, .null, .null, .null, .null, .null, .null, .null, .null, .null, .null, .null, .null, .null, .null, .null, .null, .null, .null, .null, .null, .null, .null, .null, .int 0, .int 0, .int 0, .int 0, .int 0, .int 0, .null, .null, .int 0, .int 0, .int 0, .int 0, .int 0, .null, .null, .int 0, .null, .int 0, .int 0, .null, .null, .null, .int 0, .int 0, .int 0, .int 0, .int 0, .int 0, .null, .int 0, .int 0, .int 0, .int 0, .int 0, .int 0, .int 0, .int 0, .null]) := by rw [e2]; exact va_up_self _ _ _
  have hlo : ∀ n, n < 269 → cs2 n = cs n := fun n a => by rw [e2, va_up_ne _ _ (by omega)]; exact hlo n a
  clear e2
  refine ry_aload_n 0 dX12_init_13 rfl rfl ?_
  refine ry_iconst (v := 4) dX12_init_14 rfl ?_
  refine ry_newa (κ := 14) (n := 4) (atype := .int) (ty := .int) (t0 := 1) rfl wa_int rfl (fun _ _ => Iff.rfl) rfl (by decide) rfl (by decide) (by decide) (by decide) dX12_init_15 ?_
  refine ry_cs (fun cs3 e3 => ?_)
  have hc0 : cs3 269 = .inr (12, [.int 0, .ref (gA G 270), .null, .null, .null, .null, .null, .null, .null, .null, .int 0, .int 0, .int 0, .int 0, .int 0, .long 0, .int 0, .int 0, .int 0, .null, .null, .int 0, .int 0, .int 0, .int 0, .int 0, .int 0, .int 0, .int 0, .int 0, .int 0, .null, .null, .null, .null, .null, .null, .null, .null, .null, .null, .null, .null, .null, .null, .null, .null, .null, .null, .null, .null, .null, .null, .null, .int 0, .int 0, .int 0, .int 0, .int 0, .int 0, .null, .null, .int 0, .int 0, .int 0, .int 0, .int 0, .null, .null, .int 0, .null, .int 0, .int 0, .null, .null, .null, .int 0, .int 0, .int 0, .int 0, .int 0, .int 0, .null, .int 0, .int 0, .int 0, .int 0, .int 0, .int 0, .int 0, .int 0, .null]) := by rw [e3, va_up_ne _ _ (by omega)]; exact hc0
  have hc1 : cs3 270 = .inl (gY G 13, 2400, .inl (fun _ => 0)) := by rw [e3, va_up_ne _ _ (by omega)]; exact hc1
  have hc2 : cs3 271 = .inl (gY G 14, 4, .inl (fun _ => 0)) := by rw [e3]; exact va_up_self _ _ _
  have hlo : ∀ n, n < 269 → cs3 n = cs n := fun n a => by rw [e3, va_up_ne _ _ (by omega)]; exact hlo n a
  clear e3
  refine ry_putF ff_X12_13 rfl (by omega) hc0 rfl rfl (by decide) dX12_init_17 ?_
  refine ry_cs (fun cs4 e4 => ?_)
  have hc1 : cs4 270 = .inl (gY G 13, 2400, .inl (fun _ => 0)) := by rw [e4, va_up_ne _ _ (by omega)]; exact hc1
  have hc2 : cs4 271 = .inl (gY G 14, 4, .inl (fun _ => 0)) := by rw [e4, va_up_ne _ _ (by omega)]; exact hc2
  have hc0 : cs4 269 = .inr (12, [.int 0, .ref (gA G 270), .ref (gA G 271), .null, .null, .null, .null, .null, .null, .null, .int 0, .int 0, .int 0, .int 0, .int 0, .long 0, .int 0, .int 0, .int 0, .null, .null, .int 0, .int 0, .int 0, .int 0, .int 0, .int 0, .int 0, .int 0, .int 0, .int 0, .null, .null, .null, .null, .null, .null, .null, .null, .null, .null, .null, .null, .null, .null, .null, .null, .null, .null, .null, .null, .null, .null, .null, .int 0, .int 0, .int 0, .int 0, .int 0, .int 0, .null, .null, .int 0, .int 0, .int 0, .int 0, .int 0, .null, .null, .int 0, .null, .int 0, .int 0, .null, .null, .null, .int 0, .int 0, .int 0, .int 0, .int 0, .int 0, .null, .int 0, .int 0, .int 0, .int 0, .int 0, .int 0, .int 0, .int 0, .null]) := by rw [e4]; exact va_up_self _ _ _
  have hlo : ∀ n, n < 269 → cs4 n = cs n := fun n a => by rw [e4, va_up_ne _ _ (by omega)]; exact hlo n a
  clear e4
  refine ry_aload_n 0 dX12_init_20 rfl rfl ?_
  refine ry_iconst (v := 4) dX12_init_21 rfl ?_
  refine ry_newa (κ := 14) (n := 4) (atype := .int) (ty := .int) (t0 := 1) rfl wa_int rfl (fun _ _ => Iff.rfl) rfl (by decide) rfl (by decide) (by decide) (by decide) dX12_init_22 ?_
  refine ry_cs (fun cs5 e5 => ?_)
  have hc0 : cs5 269 = .inr (12, [.int 0, .ref (gA G 270), .ref (gA G 271), .null, .null, .null, .null, .null, .null, .null, .int 0, .int 0, .int 0, .int 0, .int 0, .long 0, .int 0, .int 0, .int 0, .null, .null, .int 0, .int 0, .int 0, .int 0, .int 0, .int 0, .int 0, .int 0, .int 0, .int 0, .null, .null, .null, .null, .null, .null, .null, .null, .null, .null, .null, .null, .null, .null, .null, .null, .null, .null, .null, .null, .null, .null, .null, .int 0, .int 0, .int 0, .int 0, .int 0, .int 0, .null, .null, .int 0, .int 0, .int 0, .int 0, .int 0, .null, .null, .int 0, .null, .int 0, .int 0, .null, .null, .null, .int 0, .int 0, .int 0, .int 0, .int 0, .int 0, .null, .int 0, .int 0, .int 0, .int 0, .int 0, .int 0, .int 0, .int 0, .null]) := by rw [e5, va_up_ne _ _ (by omega)]; exact hc0
  have hc1 : cs5 270 = .inl (gY G 13, 2400, .inl (fun _ => 0)) := by rw [e5, va_up_ne _ _ (by omega)]; exact hc1
  have hc2 : cs5 271 = .inl (gY G 14, 4, .inl (fun _ => 0)) := by rw [e5, va_up_ne _ _ (by omega)]; exact hc2
  have hc3 : cs5 272 = .inl (gY G 14, 4, .inl (fun _ => 0)) := by rw [e5]; exact va_up_self _ _ _
  have hlo : ∀ n, n < 269 → cs5 n = cs n := fun n a => by rw [e5, va_up_ne _ _ (by omega)]; exact hlo n a
  clear e5
  refine ry_putF ff_X12_17 rfl (by omega) hc0 rfl rfl (by decide) dX12_init_24 ?_
  refine ry_cs (fun cs6 e6 => ?_)
  have hc1 : cs6 270 = .inl (gY G 13, 2400, .inl (fun _ => 0)) := by rw [e6, va_up_ne _ _ (by omega)]; exact hc1
  have hc2 : cs6 271 = .inl (gY G 14, 4, .inl (fun _ => 0)) := by rw [e6, va_up_ne _ _ (by omega)]; exact hc2
  have hc3 : cs6 272 = .inl (gY G 14, 4, .inl (fun _ => 0)) := by rw [e6, va_up_ne _ _ (by omega)]; exact hc3
  have hc0 : cs6 269 = .inr (12, [.int 0, .ref (gA G 270), .ref (gA G 271), .ref (gA G 272), .null, .null, .null, .null, .null, .null, .int 0, .int 0, .int 0, .int 0, .int 0, .long 0, .int 0, .int 0, .int 0, .null, .null, .int 0, .int 0, .int 0, .int 0, .int 0, .int 0, .int 0, .int 0, .int 0, .int 0, .null, .null, .null, .null, .null, .null, .null, .null, .null, .null, .null, .null, .null, .null, .null, .null, .null, .null, .null, .null, .null, .null, .null, .int 0, .int 0, .int 0, .int 0, .int 0, .int 0, .null, .null, .int 0, .int 0, .int 0, .int 0, .int 0, .null, .null, .int 0, .null, .int 0, .int 0, .null, .null, .null, .int 0, .int 0, .int 0, .int 0, .int 0, .int 0, .null, .int 0, .int 0, .int 0, .int 0, .int 0, .int 0, .int 0, .int 0, .null]) := by rw [e6]; exact va_up_self _ _ _
  have hlo : ∀ n, n < 269 → cs6 n = cs n := fun n a => by rw [e6, va_up_ne _ _ (by omega)]; exact hlo n a
  clear e6
  refine ry_aload_n 0 dX12_init_27 rfl rfl ?_
  refine ry_iconst (v := 4) dX12_init_28 rfl ?_
  refine ry_newa (κ := 14) (n := 4) (atype := .int) (ty := .int) (t0 := 1) rfl wa_int rfl (fun _ _ => Iff.rfl) rfl (by decide) rfl (by decide) (by decide) (by decide) dX12_init_29 ?_
  refine ry_cs (fun cs7 e7 => ?_)
  have hc0 : cs7 269 = .inr (12, [.int 0, .ref (gA G 270), .ref (gA G 271), .ref (gA G 272), .null, .null, .null, .null, .null, .null, .int 0, .int 0, .int 0, .int 0, .int 0, .long 0, .int 0, .int 0, .int 0, .null, .null, .int 0, .int 0, .int 0, .int 0, .int 0, .int 0, .int 0, .int 0, .int 0, .int 0, .null, .null, .null, .null, .null, .null, .null, .null, .null, .null, .null, .null, .null, .null, .null, .null, .null, .null, .null, .null, .null, .null, .null, .int 0, .int 0, .int 0, .int 0, .int 0, .int 0, .null, .null, .int 0, .int 0, .int 0, .int 0, .int 0, .null, .null, .int 0, .null, .int 0, .int 0, .null, .null, .null, .int 0, .int 0, .int 0, .int 0, .int 0, .int 0, .null, .int 0, .int 0, .int 0, .int 0, .int 0, .int 0, .int 0, .int 0, .null]) := by rw [e7, va_up_ne _ _ (by omega)]; exact hc0
  have hc1 : cs7 270 = .inl (gY G 13, 2400, .inl (fun _ => 0)) := by rw [e7, va_up_ne _ _ (by omega)]; exact hc1
  have hc2 : cs7 271 = .inl (gY G 14, 4, .inl (fun _ => 0)) := by rw [e7, va_up_ne _ _ (by omega)]; exact hc2
  have hc3 : cs7 272 = .inl (gY G 14, 4, .inl (fun _ => 0)) := by rw [e7, va_up_ne _ _ (by omega)]; exact hc3
  have hc4 : cs7 273 = .inl (gY G 14, 4, .inl (fun _ => 0)) := by rw [e7]; exact va_up_self _ _ _
  have hlo : ∀ n, n < 269 → cs7 n = cs n := fun n a => by rw [e7, va_up_ne _ _ (by omega)]; exact hlo n a
  clear e7
  refine ry_putF ff_X12_20 rfl (by omega) hc0 rfl rfl (by decide) dX12_init_31 ?_
  refine ry_cs (fun cs8 e8 => ?_)
  have hc1 : cs8 270 = .inl (gY G 13, 2400, .inl (fun _ => 0)) := by rw [e8, va_up_ne _ _ (by omega)]; exact hc1
  have hc2 : cs8 271 = .inl (gY G 14, 4, .inl (fun _ => 0)) := by rw [e8, va_up_ne _ _ (by omega)]; exact hc2
  have hc3 : cs8 272 = .inl (gY G 14, 4, .inl (fun _ => 0)) := by rw [e8, va_up_ne _ _ (by omega)]; exact hc3
  have hc4 : cs8 273 = .inl (gY G 14, 4, .inl (fun _ => 0)) := by rw [e8, va_up_ne _ _ (by omega)]; exact hc4
  have hc0 : cs8 269 = .inr (12, [.int 0, .ref (gA G 270), .ref (gA G 271), .ref (gA G 272), .ref (gA G 273), .null, .null, .null, .null, .null, .int 0, .int 0, .int 0, .int 0, .int 0, .long 0, .int 0, .int 0, .int 0, .null, .null, .int 0, .int 0, .int 0, .int 0, .int 0, .int 0, .int 0, .int 0, .int 0, .int 0, .null, .null, .null, .null, .null, .null, .null, .null, .null, .null, .null, .null, .null, .null, .null, .null, .null, .null, .null, .null, .null, .null, .null, .int 0, .int 0, .int 0, .int 0, .int 0, .int 0, .null, .null, .int 0, .int 0, .int 0, .int 0, .int 0, .null, .null, .int 0, .null, .int 0, .int 0, .null, .null, .null, .int 0, .int 0, .int 0, .int 0, .int 0, .int 0, .null, .int 0, .int 0, .int 0, .int 0, .int 0, .int 0, .int 0, .int 0, .null]) := by rw [e8]; exact va_up_self _ _ _
  have hlo : ∀ n, n < 269 → cs8 n = cs n := fun n a => by rw [e8, va_up_ne _ _ (by omega)]; exact hlo n a
  clear e8
  refine ry_aload_n 0 dX12_init_34 rfl rfl ?_
  refine ry_bipush (v := 16) dX12_init_35 rfl ?_
  refine ry_newa (κ := 14) (n := 16) (atype := .int) (ty := .int) (t0 := 1) rfl wa_int rfl (fun _ _ => Iff.rfl) rfl (by decide) rfl (by decide) (by decide) (by decide) dX12_init_37 ?_
  refine ry_cs (fun cs9 e9 => ?_)
  have hc0 : cs9 269 = .inr (12, [.int 0, .ref (gA G 270), .ref (gA G 271), .ref (gA G 272), .ref (gA G 273), .null, .null, .null, .null, .null, .int 0, .int 0, .int 0, .int 0, .int 0, .long 0, .int 0, .int 0, .int 0, .null, .null, .int 0, .int 0, .int 0, .int 0, .int 0, .int 0, .int 0, .int 0, .int 0, .int 0, .null, .null, .null, .null, .null, .null, .null, .null, .null, .null, .null, .null, .null, .null, .null, .null, .null, .null, .null, .null, .null, .null, .null, .int 0, .int 0, .int 0, .int 0, .int 0, .int 0, .null, .null, .int 0, .int 0, .int 0, .int 0, .int 0, .null, .null, .int 0, .null, .int 0, .int 0, .null, .null, .null, .int 0, .int 0, .int 0, .int 0, .int 0, .int 0, .null, .int 0, .int 0, .int 0, .int 0, .int 0, .int 0, .int 0, .int 0, .null]) := by rw [e9, va_up_ne _ _ (by omega)]; exact hc0
  have hc1 : cs9 270 = .inl (gY G 13, 2400, .inl (fun _ => 0)) := by rw [e9, va_up_ne _ _ (by omega)]; exact hc1
  have hc2 : cs9 271 = .inl (gY G 14, 4, .inl (fun _ => 0)) := by rw [e9, va_up_ne _ _ (by omega)]; exact hc2
  have hc3 : cs9 272 = .inl (gY G 14, 4, .inl (fun _ => 0)) := by rw [e9, va_up_ne _ _ (by omega)]; exact hc3
  have hc4 : cs9 273 = .inl (gY G 14, 4, .inl (fun _ => 0)) := by rw [e9, va_up_ne _ _ (by omega)]; exact hc4
  have hc5 : cs9 274 = .inl (gY G 14, 16, .inl (fun _ => 0)) := by rw [e9]; exact va_up_self _ _ _
  have hlo : ∀ n, n < 269 → cs9 n = cs n := fun n a => by rw [e9, va_up_ne _ _ (by omega)]; exact hlo n a
  clear e9
  refine ry_putF ff_X12_23 rfl (by omega) hc0 rfl rfl (by decide) dX12_init_39 ?_
  refine ry_cs (fun cs10 e10 => ?_)
  have hc1 : cs10 270 = .inl (gY G 13, 2400, .inl (fun _ => 0)) := by rw [e10, va_up_ne _ _ (by omega)]; exact hc1
  have hc2 : cs10 271 = .inl (gY G 14, 4, .inl (fun _ => 0)) := by rw [e10, va_up_ne _ _ (by omega)]; exact hc2
  have hc3 : cs10 272 = .inl (gY G 14, 4, .inl (fun _ => 0)) := by rw [e10, va_up_ne _ _ (by omega)]; exact hc3
  have hc4 : cs10 273 = .inl (gY G 14, 4, .inl (fun _ => 0)) := by rw [e10, va_up_ne _ _ (by omega)]; exact hc4
  have hc5 : cs10 274 = .inl (gY G 14, 16, .inl (fun _ => 0)) := by rw [e10, va_up_ne _ _ (by omega)]; exact hc5
  have hc0 : cs10 269 = .inr (12, [.int 0, .ref (gA G 270), .ref (gA G 271), .ref (gA G 272), .ref (gA G 273), .ref (gA G 274), .null, .null, .null, .null, .int 0, .int 0, .int 0, .int 0, .int 0, .long 0, .int 0, .int 0, .int 0, .null, .null, .int 0, .int 0, .int 0, .int 0, .int 0, .int 0, .int 0, .int 0, .int 0, .int 0, .null, .null, .null, .null, .null, .null, .null, .null, .null, .null, .null, .null, .null, .null, .null, .null, .null, .null, .null, .null, .null, .null, .null, .int 0, .int 0, .int 0, .int 0, .int 0, .int 0, .null, .null, .int 0, .int 0, .int 0, .int 0, .int 0, .null, .null, .int 0, .null, .int 0, .int 0, .null, .null, .null, .int 0, .int 0, .int 0, .int 0, .int 0, .int 0, .null, .int 0, .int 0, .int 0, .int 0, .int 0, .int 0, .int 0, .int 0, .null]) := by rw [e10]; exact va_up_self _ _ _
  have hlo : ∀ n, n < 269 → cs10 n = cs n := fun n a => by rw [e10, va_up_ne _ _ (by omega)]; exact hlo n a
  clear e10
  refine ry_aload_n 0 dX12_init_42 rfl rfl ?_
  refine ry_bipush (v := 104) dX12_init_43 rfl ?_
  refine ry_newa (κ := 14) (n := 104) (atype := .int) (ty := .int) (t0 := 1) rfl wa_int rfl (fun _ _ => Iff.rfl) rfl (by decide) rfl (by decide) (by decide) (by decide) dX12_init_45 ?_
  refine ry_cs (fun cs11 e11 => ?_)
  have hc0 : cs11 269 = .inr (12, [.int 0, .ref (gA G 270), .ref (gA G 271), .ref (gA G 272), .ref (gA G 273), .ref (gA G 274), .null, .null, .null, .null, .int 0, .int 0, .int 0, .int 0, .int 0, .long 0, .int 0, .int 0, .int 0, .null, .null, .int 0, .int 0, .int 0, .int 0, .int 0, .int 0, .int 0, .int 0, .int 0, .int 0, .null, .null, .null, .null, .null, .null, .null, .null, .null, .null, .null, .null, .null, .null, .null, .null, .null, .null, .null, .null, .null, .null, .null, .int 0, .int 0, .int 0, .int 0, .int 0, .int 0, .null, .null, .int 0, .int 0, .int 0, .int 0, .int 0, .null, .null, .int 0, .null, .int 0, .int 0, .null, .null, .null, .int 0, .int 0, .int 0, .int 0, .int 0, .int 0, .null, .int 0, .int 0, .int 0, .int 0, .int 0, .int 0, .int 0, .int 0, .null]) := by rw [e11, va_up_ne _ _ (by omega)]; exact hc0
  have hc1 : cs11 270 = .inl (gY G 13, 2400, .inl (fun _ => 0)) := by rw [e11, va_up_ne _ _ (by omega)]; exact hc1
  have hc2 : cs11 271 = .inl (gY G 14, 4, .inl (fun _ => 0)) := by rw [e11, va_up_ne _ _ (by omega)]; exact hc2
  have hc3 : cs11 272 = .inl (gY G 14, 4, .inl (fun _ => 0)) := by rw [e11, va_up_ne _ _ (by omega)]; exact hc3
  have hc4 : cs11 273 = .inl (gY G 14, 4, .inl (fun _ => 0)) := by rw [e11, va_up_ne _ _ (by omega)]; exact hc4
  have hc5 : cs11 274 = .inl (gY G 14, 16, .inl (fun _ => 0)) := by rw [e11, va_up_ne _ _ (by omega)]; exact hc5
  have hc6 : cs11 275 = .inl (gY G 14, 104, .inl (fun _ => 0)) := by rw [e11]; exact va_up_self _ _ _
  have hlo : ∀ n, n < 269 → cs11 n = cs n := fun n a => by rw [e11, va_up_ne _ _ (by omega)]; exact hlo n a
  clear e11
  refine ry_putF ff_X12_26 rfl (by omega) hc0 rfl rfl (by decide) dX12_init_47 ?_
  refine ry_cs (fun cs12 e12 => ?_)
  have hc1 : cs12 270 = .inl (gY G 13, 2400, .inl (fun _ => 0)) := by rw [e12, va_up_ne _ _ (by omega)]; exact hc1
  have hc2 : cs12 271 = .inl (gY G 14, 4, .inl (fun _ => 0)) := by rw [e12, va_up_ne _ _ (by omega)]; exact hc2
  have hc3 : cs12 272 = .inl (gY G 14, 4, .inl (fun _ => 0)) := by rw [e12, va_up_ne _ _ (by omega)]; exact hc3
  have hc4 : cs12 273 = .inl (gY G 14, 4, .inl (fun _ => 0)) := by rw [e12, va_up_ne _ _ (by omega)]; exact hc4
  have hc5 : cs12 274 = .inl (gY G 14, 16, .inl (fun _ => 0)) := by rw [e12, va_up_ne _ _ (by omega)]; exact hc5
  have hc6 : cs12 275 = .inl (gY G 14, 104, .inl (fun _ => 0)) := by rw [e12, va_up_ne _ _ (by omega)]; exact hc6
  have hc0 : cs12 269 = .inr (12, [.int 0, .ref (gA G 270), .ref (gA G 271), .ref (gA G 272), .ref (gA G 273), .ref (gA G 274), .ref (gA G 275), .null, .null, .null, .int 0, .int 0, .int 0, .int 0, .int 0, .long 0, .int 0, .int 0, .int 0, .null, .null, .int 0, .int 0, .int 0, .int 0, .int 0, .int 0, .int 0, .int 0, .int 0, .int 0, .null, .null, .null, .null, .null, .null, .null, .null, .null, .null, .null, .null, .null, .null, .null, .null, .null, .null, .null, .null, .null, .null, .null, .int 0, .int 0, .int 0, .int 0, .int 0, .int 0, .null, .null, .int 0, .int 0, .int 0, .int 0, .int 0, .null, .null, .int 0, .null, .int 0, .int 0, .null, .null, .null, .int 0, .int 0, .int 0, .int 0, .int 0, .int 0, .null, .int 0, .int 0, .int 0, .int 0, .int 0, .int 0, .int 0, .int 0, .null]) := by rw [e12]; exact va_up_self _ _ _
  have hlo : ∀ n, n < 269 → cs12 n = cs n := fun n a => by rw [e12, va_up_ne _ _ (by omega)]; exact hlo n a
  clear e12
  refine ry_aload_n 0 dX12_init_50 rfl rfl ?_
  refine ry_sipush (v := 1072) dX12_init_51 rfl ?_
  refine ry_newa (κ := 14) (n := 1072) (atype := .int) (ty := .int) (t0 := 1) rfl wa_int rfl (fun _ _ => Iff.rfl) rfl (by decide) rfl (by decide) (by decide) (by decide) dX12_init_54 ?_
  refine ry_cs (fun cs13 e13 => ?_)
  have hc0 : cs13 269 = .inr (12, [.int 0, .ref (gA G 270), .ref (gA G 271), .ref (gA G 272), .ref (gA G 273), .ref (gA G 274), .ref (gA G 275), .null, .null, .null, .int 0, .int 0, .int 0, .int 0, .int 0, .long 0, .int 0, .int 0, .int 0, .null, .null, .int 0, .int 0, .int 0, .int 0, .int 0, .int 0, .int 0, .int 0, .int 0, .int 0, .null, .null, .null, .null, .null, .null, .null, .null, .null, .null, .null, .null, .null, .null, .null, .null, .null, .null, .null, .null, .null, .null, .null, .int 0, .int 0, .int 0, .int 0, .int 0, .int 0, .null, .null, .int 0, .int 0, .int 0, .int 0, .int 0, .null, .null, .int 0, .null, .int 0, .int 0, .null, .null, .null, .int 0, .int 0, .int 0, .int 0, .int 0, .int 0, .null, .int 0, .int 0, .int 0, .int 0, .int 0, .int 0, .int 0, .int 0, .null]) := by rw [e13, va_up_ne _ _ (by omega)]; exact hc0
  have hc1 : cs13 270 = .inl (gY G 13, 2400, .inl (fun _ => 0)) := by rw [e13, va_up_ne _ _ (by omega)]; exact hc1
  have hc2 : cs13 271 = .inl (gY G 14, 4, .inl (fun _ => 0)) := by rw [e13, va_up_ne _ _ (by omega)]; exact hc2
  have hc3 : cs13 272 = .inl (gY G 14, 4, .inl (fun _ => 0)) := by rw [e13, va_up_ne _ _ (by omega)]; exact hc3
  have hc4 : cs13 273 = .inl (gY G 14, 4, .inl (fun _ => 0)) := by rw [e13, va_up_ne _ _ (by omega)]; exact hc4
  have hc5 : cs13 274 = .inl (gY G 14, 16, .inl (fun _ => 0)) := by rw [e13, va_up_ne _ _ (by omega)]; exact hc5
  have hc6 : cs13 275 = .inl (gY G 14, 104, .inl (fun _ => 0)) := by rw [e13, va_up_ne _ _ (by omega)]; exact hc6
  have hc7 : cs13 276 = .inl (gY G 14, 1072, .inl (fun _ => 0)) := by rw [e13]; exact va_up_self _ _ _
  have hlo : ∀ n, n < 269 → cs13 n = cs n := fun n a => by rw [e13, va_up_ne _ _ (by omega)]; exact hlo n a
  clear e13
  refine ry_putF ff_X12_29 rfl (by omega) hc0 rfl rfl (by decide) dX12_init_56 ?_
  refine ry_cs (fun cs14 e14 => ?_)
  have hc1 : cs14 270 = .inl (gY G 13, 2400, .inl (fun _ => 0)) := by rw [e14, va_up_ne _ _ (by omega)]; exact hc1
  have hc2 : cs14 271 = .inl (gY G 14, 4, .inl (fun _ => 0)) := by rw [e14, va_up_ne _ _ (by omega)]; exact hc2
  have hc3 : cs14 272 = .inl (gY G 14, 4, .inl (fun _ => 0)) := by rw [e14, va_up_ne _ _ (by omega)]; exact hc3
  have hc4 : cs14 273 = .inl (gY G 14, 4, .inl (fun _ => 0)) := by rw [e14, va_up_ne _ _ (by omega)]; exact hc4
  have hc5 : cs14 274 = .inl (gY G 14, 16, .inl (fun _ => 0)) := by rw [e14, va_up_ne _ _ (by omega)]; exact hc5
  have hc6 : cs14 275 = .inl (gY G 14, 104, .inl (fun _ => 0)) := by rw [e14, va_up_ne _ _ (by omega)]; exact hc6
  have hc7 : cs14 276 = .inl (gY G 14, 1072, .inl (fun _ => 0)) := by rw [e14, va_up_ne _ _ (by omega)]; exact hc7
  have hc0 : cs14 269 = .inr (12, [.int 0, .ref (gA G 270), .ref (gA G 271), .ref (gA G 272), .ref (gA G 273), .ref (gA G 274), .ref (gA G 275), .ref (gA G 276), .null, .null, .int 0, .int 0, .int 0, .int 0, .int 0, .long 0, .int 0, .int 0, .int 0, .null, .null, .int 0, .int 0, .int 0, .int 0, .int 0, .int 0, .int 0, .int 0, .int 0, .int 0, .null, .null, .null, .null, .null, .null, .null, .null, .null, .null, .null, .null, .null, .null, .null, .null, .null, .null, .null, .null, .null, .null, .null, .int 0, .int 0, .int 0, .int 0, .int 0, .int 0, .null, .null, .int 0, .int 0, .int 0, .int 0, .int 0, .null, .null, .int 0, .null, .int 0, .int 0, .null, .null, .null, .int 0, .int 0, .int 0, .int 0, .int 0, .int 0, .null, .int 0, .int 0, .int 0, .int 0, .int 0, .int 0, .int 0, .int 0, .null]) := by rw [e14]; exact va_up_self _ _ _
  have hlo : ∀ n, n < 269 → cs14 n = cs n := fun n a => by rw [e14, va_up_ne _ _ (by omega)]; exact hlo n a
  clear e14
  refine ry_aload_n 0 dX12_init_59 rfl rfl ?_
  refine ry_sipush (v := 968) dX12_init_60 rfl ?_
  refine ry_newa (κ := 14) (n := 968) (atype := .int) (ty := .int) (t0 := 1) rfl wa_int rfl (fun _ _ => Iff.rfl) rfl (by decide) rfl (by decide) (by decide) (by decide) dX12_init_63 ?_
  refine ry_cs (fun cs15 e15 => ?_)
  have hc0 : cs15 269 = .inr (12, [.int 0, .ref (gA G 270), .ref (gA G 271), .ref (gA G 272), .ref (gA G 273), .ref (gA G 274), .ref (gA G 275), .ref (gA G 276), .null, .null, .int 0, .int 0, .int 0, .int 0, .int 0, .long 0, .int 0, .int 0, .int 0, .null, .null, .int 0, .int 0, .int 0, .int 0, .int 0, .int 0, .int 0, .int 0, .int 0, .int 0, .null, .null, .null, .null, .null, .null, .null, .null, .null, .null, .null, .null, .null, .null, .null, .null, .null, .null, .null, .null, .null, .null, .null, .int 0, .int 0, .int 0, .int 0, .int 0, .int 0, .null, .null, .int 0, .int 0, .int 0, .int 0, .int 0, .null, .null, .int 0, .null, .int 0, .int 0, .null, .null, .null, .int 0, .int 0, .int 0, .int 0, .int 0, .int 0, .null, .int 0, .int 0, .int 0, .int 0, .int 0, .int 0, .int 0, .int 0, .null]) := by rw [e15, va_up_ne _ _ (by omega)]; exact hc0
  have hc1 : cs15 270 = .inl (gY G 13, 2400, .inl (fun _ => 0)) := by rw [e15, va_up_ne _ _ (by omega)]; exact hc1
  have hc2 : cs15 271 = .inl (gY G 14, 4, .inl (fun _ => 0)) := by rw [e15, va_up_ne _ _ (by omega)]; exact hc2
  have hc3 : cs15 272 = .inl (gY G 14, 4, .inl (fun _ => 0)) := by rw [e15, va_up_ne _ _ (by omega)]; exact hc3
  have hc4 : cs15 273 = .inl (gY G 14, 4, .inl (fun _ => 0)) := by rw [e15, va_up_ne _ _ (by omega)]; exact hc4
  have hc5 : cs15 274 = .inl (gY G 14, 16, .inl (fun _ => 0)) := by rw [e15, va_up_ne _ _ (by omega)]; exact hc5
  have hc6 : cs15 275 = .inl (gY G 14, 104, .inl (fun _ => 0)) := by rw [e15, va_up_ne _ _ (by omega)]; exact hc6
  have hc7 : cs15 276 = .inl (gY G 14, 1072, .inl (fun _ => 0)) := by rw [e15, va_up_ne _ _ (by omega)]; exact hc7
  have hc8 : cs15 277 = .inl (gY G 14, 968, .inl (fun _ => 0)) := by rw [e15]; exact va_up_self _ _ _
  have hlo : ∀ n, n < 269 → cs15 n = cs n := fun n a => by rw [e15, va_up_ne _ _ (by omega)]; exact hlo n a
  clear e15
  refine ry_putF ff_X12_32 rfl (by omega) hc0 rfl rfl (by decide) dX12_init_65 ?_
  refine ry_cs (fun cs16 e16 => ?_)
  have hc1 : cs16 270 = .inl (gY G 13, 2400, .inl (fun _ => 0)) := by rw [e16, va_up_ne _ _ (by omega)]; exact hc1
  have hc2 : cs16 271 = .inl (gY G 14, 4, .inl (fun _ => 0)) := by rw [e16, va_up_ne _ _ (by omega)]; exact hc2
  have hc3 : cs16 272 = .inl (gY G 14, 4, .inl (fun _ => 0)) := by rw [e16, va_up_ne _ _ (by omega)]; exact hc3
  have hc4 : cs16 273 = .inl (gY G 14, 4, .inl (fun _ => 0)) := by rw [e16, va_up_ne _ _ (by omega)]; exact hc4
  have hc5 : cs16 274 = .inl (gY G 14, 16, .inl (fun _ => 0)) := by rw [e16, va_up_ne _ _ (by omega)]; exact hc5
  have hc6 : cs16 275 = .inl (gY G 14, 104, .inl (fun _ => 0)) := by rw [e16, va_up_ne _ _ (by omega)]; exact hc6
  have hc7 : cs16 276 = .inl (gY G 14, 1072, .inl (fun _ => 0)) := by rw [e16, va_up_ne _ _ (by omega)]; exact hc7
  have hc8 : cs16 277 = .inl (gY G 14, 968, .inl (fun _ => 0)) := by rw [e16, va_up_ne _ _ (by omega)]; exact hc8
  have hc0 : cs16 269 = .inr (12, [.int 0, .ref (gA G 270), .ref (gA G 271), .ref (gA G 272), .ref (gA G 273), .ref (gA G 274), .ref (gA G 275), .ref (gA G 276), .ref (gA G 277), .null, .int 0, .int 0, .int 0, .int 0, .int 0, .long 0, .int 0, .int 0, .int 0, .null, .null, .int 0, .int 0, .int 0, .int 0, .int 0, .int 0, .int 0, .int 0, .int 0, .int 0, .null, .null, .null, .null, .null, .null, .null, .null, .null, .null, .null, .null, .null, .null, .null, .null, .null, .null, .null, .null, .null, .null, .null, .int 0, .int 0, .int 0, .int 0, .int 0, .int 0, .null, .null, .int 0, .int 0, .int 0, .int 0, .int 0, .null, .null, .int 0, .null, .int 0, .int 0, .null, .null, .null, .int 0, .int 0, .int 0, .int 0, .int 0, .int 0, .null, .int 0, .int 0, .int 0, .int 0, .int 0, .int 0, .int 0, .int 0, .null]) := by rw [e16]; exact va_up_self _ _ _
  have hlo : ∀ n, n < 269 → cs16 n = cs n := fun n a => by rw [e16, va_up_ne _ _ (by omega)]; exact hlo n a
  clear e16
  refine ry_aload_n 0 dX12_init_68 rfl rfl ?_
  refine ry_sipush (v := 136) dX12_init_69 rfl ?_
  refine ry_newa (κ := 14) (n := 136) (atype := .int) (ty := .int) (t0 := 1) rfl wa_int rfl (fun _ _ => Iff.rfl) rfl (by decide) rfl (by decide) (by decide) (by decide) dX12_init_72 ?_
  refine ry_cs (fun cs17 e17 => ?_)
  have hc0 : cs17 269 = .inr (12, [.int 0, .ref (gA G 270), .ref (gA G 271), .ref (gA G 272), .ref (gA G 273), .ref (gA G 274), .ref (gA G 275), .ref (gA G 276), .ref (gA G 277), .null, .int 0, .int 0, .int 0, .int 0, .int 0, .long 0, .int 0, .int 0, .int 0, .null, .null, .int 0, .int 0, .int 0, .int 0, .int 0, .int 0, .int 0, .int 0, .int 0, .int 0, .null, .null, .null, .null, .null, .null, .null, .null, .null, .null, .null, .null, .null, .null, .null, .null, .null, .null, .null, .null, .null, .null, .null, .int 0, .int 0, .int 0, .int 0, .int 0, .int 0, .null, .null, .int 0, .int 0, .int 0, .int 0, .int 0, .null, .null, .int 0, .null, .int 0, .int 0, .null, .null, .null, .int 0, .int 0, .int 0, .int 0, .int 0, .int 0, .null, .int 0, .int 0, .int 0, .int 0, .int 0, .int 0, .int 0, .int 0, .null]) := by rw [e17, va_up_ne _ _ (by omega)]; exact hc0
  have hc1 : cs17 270 = .inl (gY G 13, 2400, .inl (fun _ => 0)) := by rw [e17, va_up_ne _ _ (by omega)]; exact hc1
  have hc2 : cs17 271 = .inl (gY G 14, 4, .inl (fun _ => 0)) := by rw [e17, va_up_ne _ _ (by omega)]; exact hc2
  have hc3 : cs17 272 = .inl (gY G 14, 4, .inl (fun _ => 0)) := by rw [e17, va_up_ne _ _ (by omega)]; exact hc3
  have hc4 : cs17 273 = .inl (gY G 14, 4, .inl (fun _ => 0)) := by rw [e17, va_up_ne _ _ (by omega)]; exact hc4
  have hc5 : cs17 274 = .inl (gY G 14, 16, .inl (fun _ => 0)) := by rw [e17, va_up_ne _ _ (by omega)]; exact hc5
  have hc6 : cs17 275 = .inl (gY G 14, 104, .inl (fun _ => 0)) := by rw [e17, va_up_ne _ _ (by omega)]; exact hc6
  have hc7 : cs17 276 = .inl (gY G 14, 1072, .inl (fun _ => 0)) := by rw [e17, va_up_ne _ _ (by omega)]; exact hc7
  have hc8 : cs17 277 = .inl (gY G 14, 968, .inl (fun _ => 0)) := by rw [e17, va_up_ne _ _ (by omega)]; exact hc8
  have hc9 : cs17 278 = .inl (gY G 14, 136, .inl (fun _ => 0)) := by rw [e17]; exact va_up_self _ _ _
  have hlo : ∀ n, n < 269 → cs17 n = cs n := fun n a => by rw [e17, va_up_ne _ _ (by omega)]; exact hlo n a
  clear e17
  refine ry_putF ff_X12_35 rfl (by omega) hc0 rfl rfl (by decide) dX12_init_74 ?_
  refine ry_cs (fun cs18 e18 => ?_)
  have hc1 : cs18 270 = .inl (gY G 13, 2400, .inl (fun _ => 0)) := by rw [e18, va_up_ne _ _ (by omega)]; exact hc1
  have hc2 : cs18 271 = .inl (gY G 14, 4, .inl (fun _ => 0)) := by rw [e18, va_up_ne _ _ (by omega)]; exact hc2
  have hc3 : cs18 272 = .inl (gY G 14, 4, .inl (fun _ => 0)) := by rw [e18, va_up_ne _ _ (by omega)]; exact hc3
  have hc4 : cs18 273 = .inl (gY G 14, 4, .inl (fun _ => 0)) := by rw [e18, va_up_ne _ _ (by omega)]; exact hc4
  have hc5 : cs18 274 = .inl (gY G 14, 16, .inl (fun _ => 0)) := by rw [e18, va_up_ne _ _ (by omega)]; exact hc5
  have hc6 : cs18 275 = .inl (gY G 14, 104, .inl (fun _ => 0)) := by rw [e18, va_up_ne _ _ (by omega)]; exact hc6
  have hc7 : cs18 276 = .inl (gY G 14, 1072, .inl (fun _ => 0)) := by rw [e18, va_up_ne _ _ (by omega)]; exact hc7
  have hc8 : cs18 277 = .inl (gY G 14, 968, .inl (fun _ => 0)) := by rw [e18, va_up_ne _ _ (by omega)]; exact hc8
  have hc9 : cs18 278 = .inl (gY G 14, 136, .inl (fun _ => 0)) := by rw [e18, va_up_ne _ _ (by omega)]; exact hc9
  have hc0 : cs18 269 = .inr (12, [.int 0, .ref (gA G 270), .ref (gA G 271), .ref (gA G 272), .ref (gA G 273), .ref (gA G 274), .ref (gA G 275), .ref (gA G 276), .ref (gA G 277), .ref (gA G 278), .int 0, .int 0, .int 0, .int 0, .int 0, .long 0, .int 0, .int 0, .int 0, .null, .null, .int 0, .int 0, .int 0, .int 0, .int 0, .int 0, .int 0, .int 0, .int 0, .int 0, .null, .null, .null, .null, .null, .null, .null, .null, .null, .null, .null, .null, .null, .null, .null, .null, .null, .null, .null, .null, .null, .null, .null, .int 0, .int 0, .int 0, .int 0, .int 0, .int 0, .null, .null, .int 0, .int 0, .int 0, .int 0, .int 0, .null, .null, .int 0, .null, .int 0, .int 0, .null, .null, .null, .int 0, .int 0, .int 0, .int 0, .int 0, .int 0, .null, .int 0, .int 0, .int 0, .int 0, .int 0, .int 0, .int 0, .int 0, .null]) := by rw [e18]; exact va_up_self _ _ _
  have hlo : ∀ n, n < 269 → cs18 n = cs n := fun n a => by rw [e18, va_up_ne _ _ (by omega)]; exact hlo n a
  clear e18
  refine ry_aload_n 0 dX12_init_77 rfl rfl ?_
  refine ry_sipush (v := 134) dX12_init_78 rfl ?_
  refine ry_newa (κ := 14) (n := 134) (atype := .int) (ty := .int) (t0 := 1) rfl wa_int rfl (fun _ _ => Iff.rfl) rfl (by decide) rfl (by decide) (by decide) (by decide) dX12_init_81 ?_
  refine ry_cs (fun cs19 e19 => ?_)
  have hc0 : cs19 269 = .inr (12, [.int 0, .ref (gA G 270), .ref (gA G 271), .ref (gA G 272), .ref (gA G 273), .ref (gA G 274), .ref (gA G 275), .ref (gA G 276), .ref (gA G 277), .ref (gA G 278), .int 0, .int 0, .int 0, .int 0, .int 0, .long 0, .int 0, .int 0, .int 0, .null, .null, .int 0, .int 0, .int 0, .int 0, .int 0, .int 0, .int 0, .int 0, .int 0, .int 0, .null, .null, .null, .null, .null, .null, .null, .null, .null, .null, .null, .null, .null, .null, .null, .null, .null, .null, .null, .null, .null, .null, .null, .int 0, .int 0, .int 0, .int 0, .int 0, .int 0, .null, .null, .int 0, .int 0, .int 0, .int 0, .int 0, .null, .null, .int 0, .null, .int 0, .int 0, .null, .null, .null, .int 0, .int 0, .int 0, .int 0, .int 0, .int 0, .null, .int 0, .int 0, .int 0, .int 0, .int 0, .int 0, .int 0, .int 0, .null]) := by rw [e19, va_up_ne _ _ (by omega)]; exact hc0
  have hc1 : cs19 270 = .inl (gY G 13, 2400, .inl (fun _ => 0)) := by rw [e19, va_up_ne _ _ (by omega)]; exact hc1
  have hc2 : cs19 271 = .inl (gY G 14, 4, .inl (fun _ => 0)) := by rw [e19, va_up_ne _ _ (by omega)]; exact hc2
  have hc3 : cs19 272 = .inl (gY G 14, 4, .inl (fun _ => 0)) := by rw [e19, va_up_ne _ _ (by omega)]; exact hc3
  have hc4 : cs19 273 = .inl (gY G 14, 4, .inl (fun _ => 0)) := by rw [e19, va_up_ne _ _ (by omega)]; exact hc4
  have hc5 : cs19 274 = .inl (gY G 14, 16, .inl (fun _ => 0)) := by rw [e19, va_up_ne _ _ (by omega)]; exact hc5
  have hc6 : cs19 275 = .inl (gY G 14, 104, .inl (fun _ => 0)) := by rw [e19, va_up_ne _ _ (by omega)]; exact hc6
  have hc7 : cs19 276 = .inl (gY G 14, 1072, .inl (fun _ => 0)) := by rw [e19, va_up_ne _ _ (by omega)]; exact hc7
  have hc8 : cs19 277 = .inl (gY G 14, 968, .inl (fun _ => 0)) := by rw [e19, va_up_ne _ _ (by omega)]; exact hc8
  have hc9 : cs19 278 = .inl (gY G 14, 136, .inl (fun _ => 0)) := by rw [e19, va_up_ne _ _ (by omega)]; exact hc9
  have hc10 : cs19 279 = .inl (gY G 14, 134, .inl (fun _ => 0)) := by rw [e19]; exact va_up_self _ _ _
  have hlo : ∀ n, n < 269 → cs19 n = cs n := fun n a => by rw [e19, va_up_ne _ _ (by omega)]; exact hlo n a
  clear e19
  refine ry_putF ff_X12_38 rfl (by omega) hc0 rfl rfl (by decide) dX12_init_83 ?_
  refine ry_cs (fun cs20 e20 => ?_)
  have hc1 : cs20 270 = .inl (gY G 13, 2400, .inl (fun _ => 0)) := by rw [e20, va_up_ne _ _ (by omega)]; exact hc1
  have hc2 : cs20 271 = .inl (gY G 14, 4, .inl (fun _ => 0)) := by rw [e20, va_up_ne _ _ (by omega)]; exact hc2
  have hc3 : cs20 272 = .inl (gY G 14, 4, .inl (fun _ => 0)) := by rw [e20, va_up_ne _ _ (by omega)]; exact hc3
  have hc4 : cs20 273 = .inl (gY G 14, 4, .inl (fun _ => 0)) := by rw [e20, va_up_ne _ _ (by omega)]; exact hc4
  have hc5 : cs20 274 = .inl (gY G 14, 16, .inl (fun _ => 0)) := by rw [e20, va_up_ne _ _ (by omega)]; exact hc5
  have hc6 : cs20 275 = .inl (gY G 14, 104, .inl (fun _ => 0)) := by rw [e20, va_up_ne _ _ (by omega)]; exact hc6
  have hc7 : cs20 276 = .inl (gY G 14, 1072, .inl (fun _ => 0)) := by rw [e20, va_up_ne _ _ (by omega)]; exact hc7
  have hc8 : cs20 277 = .inl (gY G 14, 968, .inl (fun _ => 0)) := by rw [e20, va_up_ne _ _ (by omega)]; exact hc8
  have hc9 : cs20 278 = .inl (gY G 14, 136, .inl (fun _ => 0)) := by rw [e20, va_up_ne _ _ (by omega)]; exact hc9
  have hc10 : cs20 279 = .inl (gY G 14, 134, .inl (fun _ => 0)) := by rw [e20, va_up_ne _ _ (by omega)]; exact hc10
  have hc0 : cs20 269 = .inr (12, [.int 0, .ref (gA G 270), .ref (gA G 271), .ref (gA G 272), .ref (gA G 273), .ref (gA G 274), .ref (gA G 275), .ref (gA G 276), .ref (gA G 277), .ref (gA G 278), .int 0, .int 0, .int 0, .int 0, .int 0, .long 0, .int 0, .int 0, .int 0, .ref (gA G 279), .null, .int 0, .int 0, .int 0, .int 0, .int 0, .int 0, .int 0, .int 0, .int 0, .int 0, .null, .null, .null, .null, .null, .null, .null, .null, .null, .null, .null, .null, .null, .null, .null, .null, .null, .null, .null, .null, .null, .null, .null, .int 0, .int 0, .int 0, .int 0, .int 0, .int 0, .null, .null, .int 0, .int 0, .int 0, .int 0, .int 0, .null, .null, .int 0, .null, .int 0, .int 0, .null, .null, .null, .int 0, .int 0, .int 0, .int 0, .int 0, .int 0, .null, .int 0, .int 0, .int 0, .int 0, .int 0, .int 0, .int 0, .int 0, .null]) := by rw [e20]; exact va_up_self _ _ _
  have hlo : ∀ n, n < 269 → cs20 n = cs n := fun n a => by rw [e20, va_up_ne _ _ (by omega)]; exact hlo n a
  clear e20
  refine ry_aload_n 0 dX12_init_86 rfl rfl ?_
  refine ry_iconst (v := 3) dX12_init_87 rfl ?_
  refine ry_newa (κ := 14) (n := 3) (atype := .int) (ty := .int) (t0 := 1) rfl wa_int rfl (fun _ _ => Iff.rfl) rfl (by decide) rfl (by decide) (by decide) (by decide) dX12_init_88 ?_
  refine ry_cs (fun cs21 e21 => ?_)
  have hc0 : cs21 269 = .inr (12, [.int 0, .ref (gA G 270), .ref (gA G 271), .ref (gA G 272), .ref (gA G 273), .ref (gA G 274), .ref (gA G 275), .ref (gA G 276), .ref (gA G 277), .ref (gA G 278), .int 0, .int 0, .int 0, .int 0, .int 0, .long 0, .int 0, .int 0, .int 0, .ref (gA G 279), .null, .int 0, .int 0, .int 0, .int 0, .int 0, .int 0, .int 0, .int 0, .int 0, .int 0, .null, .null, .null, .null, .null, .null, .null, .null, .null, .null, .null, .null, .null, .null, .null, .null, .null, .null, .null, .null, .null, .null, .null, .int 0, .int 0, .int 0, .int 0, .int 0, .int 0, .null, .null, .int 0, .int 0, .int 0, .int 0, .int 0, .null, .null, .int 0, .null, .int 0, .int 0, .null, .null, .null, .int 0, .int 0, .int 0, .int 0, .int 0, .int 0, .null, .int 0, .int 0, .int 0, .int 0, .int 0, .int 0, .int 0, .int 0, .null]) := by rw [e21, va_up_ne _ _ (by omega)]; exact hc0
  have hc1 : cs21 270 = .inl (gY G 13, 2400, .inl (fun _ => 0)) := by rw [e21, va_up_ne _ _ (by omega)]; exact hc1
  have hc2 : cs21 271 = .inl (gY G 14, 4, .inl (fun _ => 0)) := by rw [e21, va_up_ne _ _ (by omega)]; exact hc2
  have hc3 : cs21 272 = .inl (gY G 14, 4, .inl (fun _ => 0)) := by rw [e21, va_up_ne _ _ (by omega)]; exact hc3
  have hc4 : cs21 273 = .inl (gY G 14, 4, .inl (fun _ => 0)) := by rw [e21, va_up_ne _ _ (by omega)]; exact hc4
  have hc5 : cs21 274 = .inl (gY G 14, 16, .inl (fun _ => 0)) := by rw [e21, va_up_ne _ _ (by omega)]; exact hc5
  have hc6 : cs21 275 = .inl (gY G 14, 104, .inl (fun _ => 0)) := by rw [e21, va_up_ne _ _ (by omega)]; exact hc6
  have hc7 : cs21 276 = .inl (gY G 14, 1072, .inl (fun _ => 0)) := by rw [e21, va_up_ne _ _ (by omega)]; exact hc7
  have hc8 : cs21 277 = .inl (gY G 14, 968, .inl (fun _ => 0)) := by rw [e21, va_up_ne _ _ (by omega)]; exact hc8
  have hc9 : cs21 278 = .inl (gY G 14, 136, .inl (fun _ => 0)) := by rw [e21, va_up_ne _ _ (by omega)]; exact hc9
  have hc10 : cs21 279 = .inl (gY G 14, 134, .inl (fun _ => 0)) := by rw [e21, va_up_ne _ _ (by omega)]; exact hc10
  have hc11 : cs21 280 = .inl (gY G 14, 3, .inl (fun _ => 0)) := by rw [e21]; exact va_up_self _ _ _
  have hlo : ∀ n, n < 269 → cs21 n = cs n := fun n a => by rw [e21, va_up_ne _ _ (by omega)]; exact hlo n a
  clear e21
  refine ry_putF ff_X12_41 rfl (by omega) hc0 rfl rfl (by decide) dX12_init_90 ?_
  refine ry_cs (fun cs22 e22 => ?_)
  have hc1 : cs22 270 = .inl (gY G 13, 2400, .inl (fun _ => 0)) := by rw [e22, va_up_ne _ _ (by omega)]; exact hc1
  have hc2 : cs22 271 = .inl (gY G 14, 4, .inl (fun _ => 0)) := by rw [e22, va_up_ne _ _ (by omega)]; exact hc2
  have hc3 : cs22 272 = .inl (gY G 14, 4, .inl (fun _ => 0)) := by rw [e22, va_up_ne _ _ (by omega)]; exact hc3
  have hc4 : cs22 273 = .inl (gY G 14, 4, .inl (fun _ => 0)) := by rw [e22, va_up_ne _ _ (by omega)]; exact hc4
  have hc5 : cs22 274 = .inl (gY G 14, 16, .inl (fun _ => 0)) := by rw [e22, va_up_ne _ _ (by omega)]; exact hc5
  have hc6 : cs22 275 = .inl (gY G 14, 104, .inl (fun _ => 0)) := by rw [e22, va_up_ne _ _ (by omega)]; exact hc6
  have hc7 : cs22 276 = .inl (gY G 14, 1072, .inl (fun _ => 0)) := by rw [e22, va_up_ne _ _ (by omega)]; exact hc7
  have hc8 : cs22 277 = .inl (gY G 14, 968, .inl (fun _ => 0)) := by rw [e22, va_up_ne _ _ (by omega)]; exact hc8
  have hc9 : cs22 278 = .inl (gY G 14, 136, .inl (fun _ => 0)) := by rw [e22, va_up_ne _ _ (by omega)]; exact hc9
  have hc10 : cs22 279 = .inl (gY G 14, 134, .inl (fun _ => 0)) := by rw [e22, va_up_ne _ _ (by omega)]; exact hc10
  have hc11 : cs22 280 = .inl (gY G 14, 3, .inl (fun _ => 0)) := by rw [e22, va_up_ne _ _ (by omega)]; exact hc11
  have hc0 : cs22 269 = .inr (12, [.int 0, .ref (gA G 270), .ref (gA G 271), .ref (gA G 272), .ref (gA G 273), .ref (gA G 274), .ref (gA G 275), .ref (gA G 276), .ref (gA G 277), .ref (gA G 278), .int 0, .int 0, .int 0, .int 0, .int 0, .long 0, .int 0, .int 0, .int 0, .ref (gA G 279), .ref (gA G 280), .int 0, .int 0, .int 0, .int 0, .int 0, .int 0, .int 0, .int 0, .int 0, .int 0, .null, .null, .null, .null, .null, .null, .null, .null, .null, .null, .null, .null, .null, .null, .null, .null, .null, .null, .null, .null, .null, .null, .null, .int 0, .int 0, .int 0, .int 0, .int 0, .int 0, .null, .null, .int 0, .int 0, .int 0, .int 0, .int 0, .null, .null, .int 0, .null, .int 0, .int 0, .null, .null, .null, .int 0, .int 0, .int 0, .int 0, .int 0, .int 0, .null, .int 0, .int 0, .int 0, .int 0, .int 0, .int 0, .int 0, .int 0, .null]) := by rw [e22]; exact va_up_self _ _ _
  have hlo : ∀ n, n < 269 → cs22 n = cs n := fun n a => by rw [e22, va_up_ne _ _ (by omega)]; exact hlo n a
  clear e22
  refine ry_aload_n 0 dX12_init_93 rfl rfl ?_
  refine ry_bipush (v := 10) dX12_init_94 rfl ?_
  refine ry_newa (κ := 14) (n := 10) (atype := .int) (ty := .int) (t0 := 1) rfl wa_int rfl (fun _ _ => Iff.rfl) rfl (by decide) rfl (by decide) (by decide) (by decide) dX12_init_96 ?_
  refine ry_cs (fun cs23 e23 => ?_)
  have hc0 : cs23 269 = .inr (12, [.int 0, .ref (gA G 270), .ref (gA G 271), .ref (gA G 272), .ref (gA G 273), .ref (gA G 274), .ref (gA G 275), .ref (gA G 276), .ref (gA G 277), .ref (gA G 278), .int 0, .int 0, .int 0, .int 0, .int 0, .long 0, .int 0, .int 0, .int 0, .ref (gA G 279), .ref (gA G 280), .int 0, .int 0, .int 0, .int 0, .int 0, .int 0, .int 0, .int 0, .int 0, .int 0, .null, .null, .null, .null, .null, .null, .null, .null, .null, .null, .null, .null, .null, .null, .null, .null, .null, .null, .null, .null, .null, .null, .null, .int 0, .int 0, .int 0, .int 0, .int 0, .int 0, .null, .null, .int 0, .int 0, .int 0, .int 0, .int 0, .null, .null, .int 0, .null, .int 0, .int 0, .null, .null, .null, .int 0, .int 0, .int 0, .int 0, .int 0, .int 0, .null, .int 0, .int 0, .int 0, .int 0, .int 0, .int 0, .int 0, .int 0, .null]) := by rw [e23, va_up_ne _ _ (by omega)]; exact hc0
  have hc1 : cs23 270 = .inl (gY G 13, 2400, .inl (fun _ => 0)) := by rw [e23, va_up_ne _ _ (by omega)]; exact hc1
  have hc2 : cs23 271 = .inl (gY G 14, 4, .inl (fun _ => 0)) := by rw [e23, va_up_ne _ _ (by omega)]; exact hc2
  have hc3 : cs23 272 = .inl (gY G 14, 4, .inl (fun _ => 0)) := by rw [e23, va_up_ne _ _ (by omega)]; exact hc3
  have hc4 : cs23 273 = .inl (gY G 14, 4, .inl (fun _ => 0)) := by rw [e23, va_up_ne _ _ (by omega)]; exact hc4
  have hc5 : cs23 274 = .inl (gY G 14, 16, .inl (fun _ => 0)) := by rw [e23, va_up_ne _ _ (by omega)]; exact hc5
  have hc6 : cs23 275 = .inl (gY G 14, 104, .inl (fun _ => 0)) := by rw [e23, va_up_ne _ _ (by omega)]; exact hc6
  have hc7 : cs23 276 = .inl (gY G 14, 1072, .inl (fun _ => 0)) := by rw [e23, va_up_ne _ _ (by omega)]; exact hc7
  have hc8 : cs23 277 = .inl (gY G 14, 968, .inl (fun _ => 0)) := by rw [e23, va_up_ne _ _ (by omega)]; exact hc8
  have hc9 : cs23 278 = .inl (gY G 14, 136, .inl (fun _ => 0)) := by rw [e23, va_up_ne _ _ (by omega)]; exact hc9
  have hc10 : cs23 279 = .inl (gY G 14, 134, .inl (fun _ => 0)) := by rw [e23, va_up_ne _ _ (by omega)]; exact hc10
  have hc11 : cs23 280 = .inl (gY G 14, 3, .inl (fun _ => 0)) := by rw [e23, va_up_ne _ _ (by omega)]; exact hc11
  have hc12 : cs23 281 = .inl (gY G 14, 10, .inl (fun _ => 0)) := by rw [e23]; exact va_up_self _ _ _
  have hlo : ∀ n, n < 269 → cs23 n = cs n := fun n a => by rw [e23, va_up_ne _ _ (by omega)]; exact hlo n a
  clear e23
  refine ry_putF ff_X12_44 rfl (by omega) hc0 rfl rfl (by decide) dX12_init_98 ?_
  refine ry_cs (fun cs24 e24 => ?_)
  have hc1 : cs24 270 = .inl (gY G 13, 2400, .inl (fun _ => 0)) := by rw [e24, va_up_ne _ _ (by omega)]; exact hc1
  have hc2 : cs24 271 = .inl (gY G 14, 4, .inl (fun _ => 0)) := by rw [e24, va_up_ne _ _ (by omega)]; exact hc2
  have hc3 : cs24 272 = .inl (gY G 14, 4, .inl (fun _ => 0)) := by rw [e24, va_up_ne _ _ (by omega)]; exact hc3
  have hc4 : cs24 273 = .inl (gY G 14, 4, .inl (fun _ => 0)) := by rw [e24, va_up_ne _ _ (by omega)]; exact hc4
  have hc5 : cs24 274 = .inl (gY G 14, 16, .inl (fun _ => 0)) := by rw [e24, va_up_ne _ _ (by omega)]; exact hc5
  have hc6 : cs24 275 = .inl (gY G 14, 104, .inl (fun _ => 0)) := by rw [e24, va_up_ne _ _ (by omega)]; exact hc6
  have hc7 : cs24 276 = .inl (gY G 14, 1072, .inl (fun _ => 0)) := by rw [e24, va_up_ne _ _ (by omega)]; exact hc7
  have hc8 : cs24 277 = .inl (gY G 14, 968, .inl (fun _ => 0)) := by rw [e24, va_up_ne _ _ (by omega)]; exact hc8
  have hc9 : cs24 278 = .inl (gY G 14, 136, .inl (fun _ => 0)) := by rw [e24, va_up_ne _ _ (by omega)]; exact hc9
  have hc10 : cs24 279 = .inl (gY G 14, 134, .inl (fun _ => 0)) := by rw [e24, va_up_ne _ _ (by omega)]; exact hc10
  have hc11 : cs24 280 = .inl (gY G 14, 3, .inl (fun _ => 0)) := by rw [e24, va_up_ne _ _ (by omega)]; exact hc11
  have hc12 : cs24 281 = .inl (gY G 14, 10, .inl (fun _ => 0)) := by rw [e24, va_up_ne _ _ (by omega)]; exact hc12
  have hc0 : cs24 269 = .inr (12, [.int 0, .ref (gA G 270), .ref (gA G 271), .ref (gA G 272), .ref (gA G 273), .ref (gA G 274), .ref (gA G 275), .ref (gA G 276), .ref (gA G 277), .ref (gA G 278), .int 0, .int 0, .int 0, .int 0, .int 0, .long 0, .int 0, .int 0, .int 0, .ref (gA G 279), .ref (gA G 280), .int 0, .int 0, .int 0, .int 0, .int 0, .int 0, .int 0, .int 0, .int 0, .int 0, .ref (gA G 281), .null, .null, .null, .null, .null, .null, .null, .null, .null, .null, .null, .null, .null, .null, .null, .null, .null, .null, .null, .null, .null, .null, .int 0, .int 0, .int 0, .int 0, .int 0, .int 0, .null, .null, .int 0, .int 0, .int 0, .int 0, .int 0, .null, .null, .int 0, .null, .int 0, .int 0, .null, .null, .null, .int 0, .int 0, .int 0, .int 0, .int 0, .int 0, .null, .int 0, .int 0, .int 0, .int 0, .int 0, .int 0, .int 0, .int 0, .null]) := by rw [e24]; exact va_up_self _ _ _
  have hlo : ∀ n, n < 269 → cs24 n = cs n := fun n a => by rw [e24, va_up_ne _ _ (by omega)]; exact hlo n a
  clear e24
  refine ry_aload_n 0 dX12_init_101 rfl rfl ?_
  refine ry_bipush (v := 10) dX12_init_102 rfl ?_
  refine ry_newa (κ := 14) (n := 10) (atype := .int) (ty := .int) (t0 := 1) rfl wa_int rfl (fun _ _ => Iff.rfl) rfl (by decide) rfl (by decide) (by decide) (by decide) dX12_init_104 ?_
  refine ry_cs (fun cs25 e25 => ?_)
  have hc0 : cs25 269 = .inr (12, [.int 0, .ref (gA G 270), .ref (gA G 271), .ref (gA G 272), .ref (gA G 273), .ref (gA G 274), .ref (gA G 275), .ref (gA G 276), .ref (gA G 277), .ref (gA G 278), .int 0, .int 0, .int 0, .int 0, .int 0, .long 0, .int 0, .int 0, .int 0, .ref (gA G 279), .ref (gA G 280), .int 0, .int 0, .int 0, .int 0, .int 0, .int 0, .int 0, .int 0, .int 0, .int 0, .ref (gA G 281), .null, .null, .null, .null, .null, .null, .null, .null, .null, .null, .null, .null, .null, .null, .null, .null, .null, .null, .null, .null, .null, .null, .int 0, .int 0, .int 0, .int 0, .int 0, .int 0, .null, .null, .int 0, .int 0, .int 0, .int 0, .int 0, .null, .null, .int 0, .null, .int 0, .int 0, .null, .null, .null, .int 0, .int 0, .int 0, .int 0, .int 0, .int 0, .null, .int 0, .int 0, .int 0, .int 0, .int 0, .int 0, .int 0, .int 0, .null]) := by rw [e25, va_up_ne _ _ (by omega)]; exact hc0
  have hc1 : cs25 270 = .inl (gY G 13, 2400, .inl (fun _ => 0)) := by rw [e25, va_up_ne _ _ (by omega)]; exact hc1
  have hc2 : cs25 271 = .inl (gY G 14, 4, .inl (fun _ => 0)) := by rw [e25, va_up_ne _ _ (by omega)]; exact hc2
  have hc3 : cs25 272 = .inl (gY G 14, 4, .inl (fun _ => 0)) := by rw [e25, va_up_ne _ _ (by omega)]; exact hc3
  have hc4 : cs25 273 = .inl (gY G 14, 4, .inl (fun _ => 0)) := by rw [e25, va_up_ne _ _ (by omega)]; exact hc4
  have hc5 : cs25 274 = .inl (gY G 14, 16, .inl (fun _ => 0)) := by rw [e25, va_up_ne _ _ (by omega)]; exact hc5
  have hc6 : cs25 275 = .inl (gY G 14, 104, .inl (fun _ => 0)) := by rw [e25, va_up_ne _ _ (by omega)]; exact hc6
  have hc7 : cs25 276 = .inl (gY G 14, 1072, .inl (fun _ => 0)) := by rw [e25, va_up_ne _ _ (by omega)]; exact hc7
  have hc8 : cs25 277 = .inl (gY G 14, 968, .inl (fun _ => 0)) := by rw [e25, va_up_ne _ _ (by omega)]; exact hc8
  have hc9 : cs25 278 = .inl (gY G 14, 136, .inl (fun _ => 0)) := by rw [e25, va_up_ne _ _ (by omega)]; exact hc9
  have hc10 : cs25 279 = .inl (gY G 14, 134, .inl (fun _ => 0)) := by rw [e25, va_up_ne _ _ (by omega)]; exact hc10
  have hc11 : cs25 280 = .inl (gY G 14, 3, .inl (fun _ => 0)) := by rw [e25, va_up_ne _ _ (by omega)]; exact hc11
  have hc12 : cs25 281 = .inl (gY G 14, 10, .inl (fun _ => 0)) := by rw [e25, va_up_ne _ _ (by omega)]; exact hc12
  have hc13 : cs25 282 = .inl (gY G 14, 10, .inl (fun _ => 0)) := by rw [e25]; exact va_up_self _ _ _
  have hlo : ∀ n, n < 269 → cs25 n = cs n := fun n a => by rw [e25, va_up_ne _ _ (by omega)]; exact hlo n a
  clear e25
  refine ry_putF ff_X12_47 rfl (by omega) hc0 rfl rfl (by decide) dX12_init_106 ?_
  refine ry_cs (fun cs26 e26 => ?_)
  have hc1 : cs26 270 = .inl (gY G 13, 2400, .inl (fun _ => 0)) := by rw [e26, va_up_ne _ _ (by omega)]; exact hc1
  have hc2 : cs26 271 = .inl (gY G 14, 4, .inl (fun _ => 0)) := by rw [e26, va_up_ne _ _ (by omega)]; exact hc2
  have hc3 : cs26 272 = .inl (gY G 14, 4, .inl (fun _ => 0)) := by rw [e26, va_up_ne _ _ (by omega)]; exact hc3
  have hc4 : cs26 273 = .inl (gY G 14, 4, .inl (fun _ => 0)) := by rw [e26, va_up_ne _ _ (by omega)]; exact hc4
  have hc5 : cs26 274 = .inl (gY G 14, 16, .inl (fun _ => 0)) := by rw [e26, va_up_ne _ _ (by omega)]; exact hc5
  have hc6 : cs26 275 = .inl (gY G 14, 104, .inl (fun _ => 0)) := by rw [e26, va_up_ne _ _ (by omega)]; exact hc6
  have hc7 : cs26 276 = .inl (gY G 14, 1072, .inl (fun _ => 0)) := by rw [e26, va_up_ne _ _ (by omega)]; exact hc7
  have hc8 : cs26 277 = .inl (gY G 14, 968, .inl (fun _ => 0)) := by rw [e26, va_up_ne _ _ (by omega)]; exact hc8
  have hc9 : cs26 278 = .inl (gY G 14, 136, .inl (fun _ => 0)) := by rw [e26, va_up_ne _ _ (by omega)]; exact hc9
  have hc10 : cs26 279 = .inl (gY G 14, 134, .inl (fun _ => 0)) := by rw [e26, va_up_ne _ _ (by omega)]; exact hc10
  have hc11 : cs26 280 = .inl (gY G 14, 3, .inl (fun _ => 0)) := by rw [e26, va_up_ne _ _ (by omega)]; exact hc11
  have hc12 : cs26 281 = .inl (gY G 14, 10, .inl (fun _ => 0)) := by rw [e26, va_up_ne _ _ (by omega)]; exact hc12
  have hc13 : cs26 282 = .inl (gY G 14, 10, .inl (fun _ => 0)) := by rw [e26, va_up_ne _ _ (by omega)]; exact hc13
  have hc0 : cs26 269 = .inr (12, [.int 0, .ref (gA G 270), .ref (gA G 271), .ref (gA G 272), .ref (gA G 273), .ref (gA G 274), .ref (gA G 275), .ref (gA G 276), .ref (gA G 277), .ref (gA G 278), .int 0, .int 0, .int 0, .int 0, .int 0, .long 0, .int 0, .int 0, .int 0, .ref (gA G 279), .ref (gA G 280), .int 0, .int 0, .int 0, .int 0, .int 0, .int 0, .int 0, .int 0, .int 0, .int 0, .ref (gA G 281), .ref (gA G 282), .null, .null, .null, .null, .null, .null, .null, .null, .null, .null, .null, .null, .null, .null, .null, .null, .null, .null, .null, .null, .null, .int 0, .int 0, .int 0, .int 0, .int 0, .int 0, .null, .null, .int 0, .int 0, .int 0, .int 0, .int 0, .null, .null, .int 0, .null, .int 0, .int 0, .null, .null, .null, .int 0, .int 0, .int 0, .int 0, .int 0, .int 0, .null, .int 0, .int 0, .int 0, .int 0, .int 0, .int 0, .int 0, .int 0, .null]) := by rw [e26]; exact va_up_self _ _ _
  have hlo : ∀ n, n < 269 → cs26 n = cs n := fun n a => by rw [e26, va_up_ne _ _ (by omega)]; exact hlo n a
  clear e26
  refine ry_aload_n 0 dX12_init_109 rfl rfl ?_
  refine ry_bipush (v := 10) dX12_init_110 rfl ?_
  refine ry_newa (κ := 14) (n := 10) (atype := .int) (ty := .int) (t0 := 1) rfl wa_int rfl (fun _ _ => Iff.rfl) rfl (by decide) rfl (by decide) (by decide) (by decide) dX12_init_112 ?_
  refine ry_cs (fun cs27 e27 => ?_)
  have hc0 : cs27 269 = .inr (12, [.int 0, .ref (gA G 270), .ref (gA G 271), .ref (gA G 272), .ref (gA G 273), .ref (gA G 274), .ref (gA G 275), .ref (gA G 276), .ref (gA G 277), .ref (gA G 278), .int 0, .int 0, .int 0, .int 0, .int 0, .long 0, .int 0, .int 0, .int 0, .ref (gA G 279), .ref (gA G 280), .int 0, .int 0, .int 0, .int 0, .int 0, .int 0, .int 0, .int 0, .int 0, .int 0, .ref (gA G 281), .ref (gA G 282), .null, .null, .null, .null, .null, .null, .null, .null, .null, .null, .null, .null, .null, .null, .null, .null, .null, .null, .null, .null, .null, .int 0, .int 0, .int 0, .int 0, .int 0, .int 0, .null, .null, .int 0, .int 0, .int 0, .int 0, .int 0, .null, .null, .int 0, .null, .int 0, .int 0, .null, .null, .null, .int 0, .int 0, .int 0, .int 0, .int 0, .int 0, .null, .int 0, .int 0, .int 0, .int 0, .int 0, .int 0, .int 0, .int 0, .null]) := by rw [e27, va_up_ne _ _ (by omega)]; exact hc0
  have hc1 : cs27 270 = .inl (gY G 13, 2400, .inl (fun _ => 0)) := by rw [e27, va_up_ne _ _ (by omega)]; exact hc1
  have hc2 : cs27 271 = .inl (gY G 14, 4, .inl (fun _ => 0)) := by rw [e27, va_up_ne _ _ (by omega)]; exact hc2
  have hc3 : cs27 272 = .inl (gY G 14, 4, .inl (fun _ => 0)) := by rw [e27, va_up_ne _ _ (by omega)]; exact hc3
  have hc4 : cs27 273 = .inl (gY G 14, 4, .inl (fun _ => 0)) := by rw [e27, va_up_ne _ _ (by omega)]; exact hc4
  have hc5 : cs27 274 = .inl (gY G 14, 16, .inl (fun _ => 0)) := by rw [e27, va_up_ne _ _ (by omega)]; exact hc5
  have hc6 : cs27 275 = .inl (gY G 14, 104, .inl (fun _ => 0)) := by rw [e27, va_up_ne _ _ (by omega)]; exact hc6
  have hc7 : cs27 276 = .inl (gY G 14, 1072, .inl (fun _ => 0)) := by rw [e27, va_up_ne _ _ (by omega)]; exact hc7
  have hc8 : cs27 277 = .inl (gY G 14, 968, .inl (fun _ => 0)) := by rw [e27, va_up_ne _ _ (by omega)]; exact hc8
  have hc9 : cs27 278 = .inl (gY G 14, 136, .inl (fun _ => 0)) := by rw [e27, va_up_ne _ _ (by omega)]; exact hc9
  have hc10 : cs27 279 = .inl (gY G 14, 134, .inl (fun _ => 0)) := by rw [e27, va_up_ne _ _ (by omega)]; exact hc10
  have hc11 : cs27 280 = .inl (gY G 14, 3, .inl (fun _ => 0)) := by rw [e27, va_up_ne _ _ (by omega)]; exact hc11
  have hc12 : cs27 281 = .inl (gY G 14, 10, .inl (fun _ => 0)) := by rw [e27, va_up_ne _ _ (by omega)]; exact hc12
  have hc13 : cs27 282 = .inl (gY G 14, 10, .inl (fun _ => 0)) := by rw [e27, va_up_ne _ _ (by omega)]; exact hc13
  have hc14 : cs27 283 = .inl (gY G 14, 10, .inl (fun _ => 0)) := by rw [e27]; exact va_up_self _ _ _
  have hlo : ∀ n, n < 269 → cs27 n = cs n := fun n a => by rw [e27, va_up_ne _ _ (by omega)]; exact hlo n a
  clear e27
  refine ry_putF ff_X12_50 rfl (by omega) hc0 rfl rfl (by decide) dX12_init_114 ?_
  refine ry_cs (fun cs28 e28 => ?_)
  have hc1 : cs28 270 = .inl (gY G 13, 2400, .inl (fun _ => 0)) := by rw [e28, va_up_ne _ _ (by omega)]; exact hc1
  have hc2 : cs28 271 = .inl (gY G 14, 4, .inl (fun _ => 0)) := by rw [e28, va_up_ne _ _ (by omega)]; exact hc2
  have hc3 : cs28 272 = .inl (gY G 14, 4, .inl (fun _ => 0)) := by rw [e28, va_up_ne _ _ (by omega)]; exact hc3
  have hc4 : cs28 273 = .inl (gY G 14, 4, .inl (fun _ => 0)) := by rw [e28, va_up_ne _ _ (by omega)]; exact hc4
  have hc5 : cs28 274 = .inl (gY G 14, 16, .inl (fun _ => 0)) := by rw [e28, va_up_ne _ _ (by omega)]; exact hc5
  have hc6 : cs28 275 = .inl (gY G 14, 104, .inl (fun _ => 0)) := by rw [e28, va_up_ne _ _ (by omega)]; exact hc6
  have hc7 : cs28 276 = .inl (gY G 14, 1072, .inl (fun _ => 0)) := by rw [e28, va_up_ne _ _ (by omega)]; exact hc7
  have hc8 : cs28 277 = .inl (gY G 14, 968, .inl (fun _ => 0)) := by rw [e28, va_up_ne _ _ (by omega)]; exact hc8
  have hc9 : cs28 278 = .inl (gY G 14, 136, .inl (fun _ => 0)) := by rw [e28, va_up_ne _ _ (by omega)]; exact hc9
  have hc10 : cs28 279 = .inl (gY G 14, 134, .inl (fun _ => 0)) := by rw [e28, va_up_ne _ _ (by omega)]; exact hc10
  have hc11 : cs28 280 = .inl (gY G 14, 3, .inl (fun _ => 0)) := by rw [e28, va_up_ne _ _ (by omega)]; exact hc11
  have hc12 : cs28 281 = .inl (gY G 14, 10, .inl (fun _ => 0)) := by rw [e28, va_up_ne _ _ (by omega)]; exact hc12
  have hc13 : cs28 282 = .inl (gY G 14, 10, .inl (fun _ => 0)) := by rw [e28, va_up_ne _ _ (by omega)]; exact hc13
  have hc14 : cs28 283 = .inl (gY G 14, 10, .inl (fun _ => 0)) := by rw [e28, va_up_ne _ _ (by omega)]; exact hc14
  have hc0 : cs28 269 = .inr (12, [.int 0, .ref (gA G 270), .ref (gA G 271), .ref (gA G 272), .ref (gA G 273), .ref (gA G 274), .ref (gA G 275), .ref (gA G 276), .ref (gA G 277), .ref (gA G 278), .int 0, .int 0, .int 0, .int 0, .int 0, .long 0, .int 0, .int 0, .int 0, .ref (gA G 279), .ref (gA G 280), .int 0, .int 0, .int 0, .int 0, .int 0, .int 0, .int 0, .int 0, .int 0, .int 0, .ref (gA G 281), .ref (gA G 282), .ref (gA G 283), .null, .null, .null, .null, .null, .null, .null, .null, .null, .null, .null, .null, .null, .null, .null, .null, .null, .null, .null, .null, .int 0, .int 0, .int 0, .int 0, .int 0, .int 0, .null, .null, .int 0, .int 0, .int 0, .int 0, .int 0, .null, .null, .int 0, .null, .int 0, .int 0, .null, .null, .null, .int 0, .int 0, .int 0, .int 0, .int 0, .int 0, .null, .int 0, .int 0, .int 0, .int 0, .int 0, .int 0, .int 0, .int 0, .null]) := by rw [e28]; exact va_up_self _ _ _
  have hlo : ∀ n, n < 269 → cs28 n = cs n := fun n a => by rw [e28, va_up_ne _ _ (by omega)]; exact hlo n a
  clear e28
  refine ry_aload_n 0 dX12_init_117 rfl rfl ?_
  refine ry_bipush (v := 10) dX12_init_118 rfl ?_
  refine ry_newa (κ := 14) (n := 10) (atype := .int) (ty := .int) (t0 := 1) rfl wa_int rfl (fun _ _ => Iff.rfl) rfl (by decide) rfl (by decide) (by decide) (by decide) dX12_init_120 ?_
  refine ry_cs (fun cs29 e29 => ?_)
  have hc0 : cs29 269 = .inr (12, [.int 0, .ref (gA G 270), .ref (gA G 271), .ref (gA G 272), .ref (gA G 273), .ref (gA G 274), .ref (gA G 275), .ref (gA G 276), .ref (gA G 277), .ref (gA G 278), .int 0, .int 0, .int 0, .int 0, .int 0, .long 0, .int 0, .int 0, .int 0, .ref (gA G 279), .ref (gA G 280), .int 0, .int 0, .int 0, .int 0, .int 0, .int 0, .int 0, .int 0, .int 0, .int 0, .ref (gA G 281), .ref (gA G 282), .ref (gA G 283), .null, .null, .null, .null, .null, .null, .null, .null, .null, .null, .null, .null, .null, .null, .null, .null, .null, .null, .null, .null, .int 0, .int 0, .int 0, .int 0, .int 0, .int 0, .null, .null, .int 0, .int 0, .int 0, .int 0, .int 0, .null, .null, .int 0, .null, .int 0, .int 0, .null, .null, .null, .int 0, .int 0, .int 0, .int 0, .int 0, .int 0, .null, .int 0, .int 0, .int 0, .int 0, .int 0, .int 0, .int 0, .int 0, .null]) := by rw [e29, va_up_ne _ _ (by omega)]; exact hc0
  have hc1 : cs29 270 = .inl (gY G 13, 2400, .inl (fun _ => 0)) := by rw [e29, va_up_ne _ _ (by omega)]; exact hc1
  have hc2 : cs29 271 = .inl (gY G 14, 4, .inl (fun _ => 0)) := by rw [e29, va_up_ne _ _ (by omega)]; exact hc2
  have hc3 : cs29 272 = .inl (gY G 14, 4, .inl (fun _ => 0)) := by rw [e29, va_up_ne _ _ (by omega)]; exact hc3
  have hc4 : cs29 273 = .inl (gY G 14, 4, .inl (fun _ => 0)) := by rw [e29, va_up_ne _ _ (by omega)]; exact hc4
  have hc5 : cs29 274 = .inl (gY G 14, 16, .inl (fun _ => 0)) := by rw [e29, va_up_ne _ _ (by omega)]; exact hc5
  have hc6 : cs29 275 = .inl (gY G 14, 104, .inl (fun _ => 0)) := by rw [e29, va_up_ne _ _ (by omega)]; exact hc6
  have hc7 : cs29 276 = .inl (gY G 14, 1072, .inl (fun _ => 0)) := by rw [e29, va_up_ne _ _ (by omega)]; exact hc7
  have hc8 : cs29 277 = .inl (gY G 14, 968, .inl (fun _ => 0)) := by rw [e29, va_up_ne _ _ (by omega)]; exact hc8
  have hc9 : cs29 278 = .inl (gY G 14, 136, .inl (fun _ => 0)) := by rw [e29, va_up_ne _ _ (by omega)]; exact hc9
  have hc10 : cs29 279 = .inl (gY G 14, 134, .inl (fun _ => 0)) := by rw [e29, va_up_ne _ _ (by omega)]; exact hc10
  have hc11 : cs29 280 = .inl (gY G 14, 3, .inl (fun _ => 0)) := by rw [e29, va_up_ne _ _ (by omega)]; exact hc11
  have hc12 : cs29 281 = .inl (gY G 14, 10, .inl (fun _ => 0)) := by rw [e29, va_up_ne _ _ (by omega)]; exact hc12
  have hc13 : cs29 282 = .inl (gY G 14, 10, .inl (fun _ => 0)) := by rw [e29, va_up_ne _ _ (by omega)]; exact hc13
  have hc14 : cs29 283 = .inl (gY G 14, 10, .inl (fun _ => 0)) := by rw [e29, va_up_ne _ _ (by omega)]; exact hc14
  have hc15 : cs29 284 = .inl (gY G 14, 10, .inl (fun _ => 0)) := by rw [e29]; exact va_up_self _ _ _
  have hlo : ∀ n, n < 269 → cs29 n = cs n := fun n a => by rw [e29, va_up_ne _ _ (by omega)]; exact hlo n a
  clear e29
  refine ry_putF ff_X12_53 rfl (by omega) hc0 rfl rfl (by decide) dX12_init_122 ?_
  refine ry_cs (fun cs30 e30 => ?_)
  have hc1 : cs30 270 = .inl (gY G 13, 2400, .inl (fun _ => 0)) := by rw [e30, va_up_ne _ _ (by omega)]; exact hc1
  have hc2 : cs30 271 = .inl (gY G 14, 4, .inl (fun _ => 0)) := by rw [e30, va_up_ne _ _ (by omega)]; exact hc2
  have hc3 : cs30 272 = .inl (gY G 14, 4, .inl (fun _ => 0)) := by rw [e30, va_up_ne _ _ (by omega)]; exact hc3
  have hc4 : cs30 273 = .inl (gY G 14, 4, .inl (fun _ => 0)) := by rw [e30, va_up_ne _ _ (by omega)]; exact hc4
  have hc5 : cs30 274 = .inl (gY G 14, 16, .inl (fun _ => 0)) := by rw [e30, va_up_ne _ _ (by omega)]; exact hc5
  have hc6 : cs30 275 = .inl (gY G 14, 104, .inl (fun _ => 0)) := by rw [e30, va_up_ne _ _ (by omega)]; exact hc6
  have hc7 : cs30 276 = .inl (gY G 14, 1072, .inl (fun _ => 0)) := by rw [e30, va_up_ne _ _ (by omega)]; exact hc7
  have hc8 : cs30 277 = .inl (gY G 14, 968, .inl (fun _ => 0)) := by rw [e30, va_up_ne _ _ (by omega)]; exact hc8
  have hc9 : cs30 278 = .inl (gY G 14, 136, .inl (fun _ => 0)) := by rw [e30, va_up_ne _ _ (by omega)]; exact hc9
  have hc10 : cs30 279 = .inl (gY G 14, 134, .inl (fun _ => 0)) := by rw [e30, va_up_ne _ _ (by omega)]; exact hc10
  have hc11 : cs30 280 = .inl (gY G 14, 3, .inl (fun _ => 0)) := by rw [e30, va_up_ne _ _ (by omega)]; exact hc11
  have hc12 : cs30 281 = .inl (gY G 14, 10, .inl (fun _ => 0)) := by rw [e30, va_up_ne _ _ (by omega)]; exact hc12
  have hc13 : cs30 282 = .inl (gY G 14, 10, .inl (fun _ => 0)) := by rw [e30, va_up_ne _ _ (by omega)]; exact hc13
  have hc14 : cs30 283 = .inl (gY G 14, 10, .inl (fun _ => 0)) := by rw [e30, va_up_ne _ _ (by omega)]; exact hc14
  have hc15 : cs30 284 = .inl (gY G 14, 10, .inl (fun _ => 0)) := by rw [e30, va_up_ne _ _ (by omega)]; exact hc15
  have hc0 : cs30 269 = .inr (12, [.int 0, .ref (gA G 270), .ref (gA G 271), .ref (gA G 272), .ref (gA G 273), .ref (gA G 274), .ref (gA G 275), .ref (gA G 276), .ref (gA G 277), .ref (gA G 278), .int 0, .int 0, .int 0, .int 0, .int 0, .long 0, .int 0, .int 0, .int 0, .ref (gA G 279), .ref (gA G 280), .int 0, .int 0, .int 0, .int 0, .int 0, .int 0, .int 0, .int 0, .int 0, .int 0, .ref (gA G 281), .ref (gA G 282), .ref (gA G 283), .ref (gA G 284), .null, .null, .null, .null, .null, .null, .null, .null, .null, .null, .null, .null, .null, .null, .null, .null, .null, .null, .null, .int 0, .int 0, .int 0, .int 0, .int 0, .int 0, .null, .null, .int 0, .int 0, .int 0, .int 0, .int 0, .null, .null, .int 0, .null, .int 0, .int 0, .null, .null, .null, .int 0, .int 0, .int 0, .int 0, .int 0, .int 0, .null, .int 0, .int 0, .int 0, .int 0, .int 0, .int 0, .int 0, .int 0, .null]) := by rw [e30]; exact va_up_self _ _ _
  have hlo : ∀ n, n < 269 → cs30 n = cs n := fun n a => by rw [e30, va_up_ne _ _ (by omega)]; exact hlo n a
  clear e30
  refine ry_aload_n 0 dX12_init_125 rfl rfl ?_
  refine ry_bipush (v := 10) dX12_init_126 rfl ?_
  refine ry_newa (κ := 14) (n := 10) (atype := .int) (ty := .int) (t0 := 1) rfl wa_int rfl (fun _ _ => Iff.rfl) rfl (by decide) rfl (by decide) (by decide) (by decide) dX12_init_128 ?_
  refine ry_cs (fun cs31 e31 => ?_)
  have hc0 : cs31 269 = .inr (12, [.int 0, .ref (gA G 270), .ref (gA G 271), .ref (gA G 272), .ref (gA G 273), .ref (gA G 274), .ref (gA G 275), .ref (gA G 276), .ref (gA G 277), .ref (gA G 278), .int 0, .int 0, .int 0, .int 0, .int 0, .long 0, .int 0, .int 0, .int 0, .ref (gA G 279), .ref (gA G 280), .int 0, .int 0, .int 0, .int 0, .int 0, .int 0, .int 0, .int 0, .int 0, .int 0, .ref (gA G 281), .ref (gA G 282), .ref (gA G 283), .ref (gA G 284), .null, .null, .null, .null, .null, .null, .null, .null, .null, .null, .null, .null, .null, .null, .null, .null, .null, .null, .null, .int 0, .int 0, .int 0, .int 0, .int 0, .int 0, .null, .null, .int 0, .int 0, .int 0, .int 0, .int 0, .null, .null, .int 0, .null, .int 0, .int 0, .null, .null, .null, .int 0, .int 0, .int 0, .int 0, .int 0, .int 0, .null, .int 0, .int 0, .int 0, .int 0, .int 0, .int 0, .int 0, .int 0, .null]) := by rw [e31, va_up_ne _ _ (by omega)]; exact hc0
  have hc1 : cs31 270 = .inl (gY G 13, 2400, .inl (fun _ => 0)) := by rw [e31, va_up_ne _ _ (by omega)]; exact hc1
  have hc2 : cs31 271 = .inl (gY G 14, 4, .inl (fun _ => 0)) := by rw [e31, va_up_ne _ _ (by omega)]; exact hc2
  have hc3 : cs31 272 = .inl (gY G 14, 4, .inl (fun _ => 0)) := by rw [e31, va_up_ne _ _ (by omega)]; exact hc3
  have hc4 : cs31 273 = .inl (gY G 14, 4, .inl (fun _ => 0)) := by rw [e31, va_up_ne _ _ (by omega)]; exact hc4
  have hc5 : cs31 274 = .inl (gY G 14, 16, .inl (fun _ => 0)) := by rw [e31, va_up_ne _ _ (by omega)]; exact hc5
  have hc6 : cs31 275 = .inl (gY G 14, 104, .inl (fun _ => 0)) := by rw [e31, va_up_ne _ _ (by omega)]; exact hc6
  have hc7 : cs31 276 = .inl (gY G 14, 1072, .inl (fun _ => 0)) := by rw [e31, va_up_ne _ _ (by omega)]; exact hc7
  have hc8 : cs31 277 = .inl (gY G 14, 968, .inl (fun _ => 0)) := by rw [e31, va_up_ne _ _ (by omega)]; exact hc8
  have hc9 : cs31 278 = .inl (gY G 14, 136, .inl (fun _ => 0)) := by rw [e31, va_up_ne _ _ (by omega)]; exact hc9
  have hc10 : cs31 279 = .inl (gY G 14, 134, .inl (fun _ => 0)) := by rw [e31, va_up_ne _ _ (by omega)]; exact hc10
  have hc11 : cs31 280 = .inl (gY G 14, 3, .inl (fun _ => 0)) := by rw [e31, va_up_ne _ _ (by omega)]; exact hc11
  have hc12 : cs31 281 = .inl (gY G 14, 10, .inl (fun _ => 0)) := by rw [e31, va_up_ne _ _ (by omega)]; exact hc12
  have hc13 : cs31 282 = .inl (gY G 14, 10, .inl (fun _ => 0)) := by rw [e31, va_up_ne _ _ (by omega)]; exact hc13
  have hc14 : cs31 283 = .inl (gY G 14, 10, .inl (fun _ => 0)) := by rw [e31, va_up_ne _ _ (by omega)]; exact hc14
  have hc15 : cs31 284 = .inl (gY G 14, 10, .inl (fun _ => 0)) := by rw [e31, va_up_ne _ _ (by omega)]; exact hc15
  have hc16 : cs31 285 = .inl (gY G 14, 10, .inl (fun _ => 0)) := by rw [e31]; exact va_up_self _ _ _
  have hlo : ∀ n, n < 269 → cs31 n = cs n := fun n a => by rw [e31, va_up_ne _ _ (by omega)]; exact hlo n a
  clear e31
  refine ry_putF ff_X12_56 rfl (by omega) hc0 rfl rfl (by decide) dX12_init_130 ?_
  refine ry_cs (fun cs32 e32 => ?_)
  have hc1 : cs32 270 = .inl (gY G 13, 2400, .inl (fun _ => 0)) := by rw [e32, va_up_ne _ _ (by omega)]; exact hc1
  have hc2 : cs32 271 = .inl (gY G 14, 4, .inl (fun _ => 0)) := by rw [e32, va_up_ne _ _ (by omega)]; exact hc2
  have hc3 : cs32 272 = .inl (gY G 14, 4, .inl (fun _ => 0)) := by rw [e32, va_up_ne _ _ (by omega)]; exact hc3
  have hc4 : cs32 273 = .inl (gY G 14, 4, .inl (fun _ => 0)) := by rw [e32, va_up_ne _ _ (by omega)]; exact hc4
  have hc5 : cs32 274 = .inl (gY G 14, 16, .inl (fun _ => 0)) := by rw [e32, va_up_ne _ _ (by omega)]; exact hc5
  have hc6 : cs32 275 = .inl (gY G 14, 104, .inl (fun _ => 0)) := by rw [e32, va_up_ne _ _ (by omega)]; exact hc6
  have hc7 : cs32 276 = .inl (gY G 14, 1072, .inl (fun _ => 0)) := by rw [e32, va_up_ne _ _ (by omega)]; exact hc7
  have hc8 : cs32 277 = .inl (gY G 14, 968, .inl (fun _ => 0)) := by rw [e32, va_up_ne _ _ (by omega)]; exact hc8
  have hc9 : cs32 278 = .inl (gY G 14, 136, .inl (fun _ => 0)) := by rw [e32, va_up_ne _ _ (by omega)]; exact hc9
  have hc10 : cs32 279 = .inl (gY G 14, 134, .inl (fun _ => 0)) := by rw [e32, va_up_ne _ _ (by omega)]; exact hc10
  have hc11 : cs32 280 = .inl (gY G 14, 3, .inl (fun _ => 0)) := by rw [e32, va_up_ne _ _ (by omega)]; exact hc11
  have hc12 : cs32 281 = .inl (gY G 14, 10, .inl (fun _ => 0)) := by rw [e32, va_up_ne _ _ (by omega)]; exact hc12
  have hc13 : cs32 282 = .inl (gY G 14, 10, .inl (fun _ => 0)) := by rw [e32, va_up_ne _ _ (by omega)]; exact hc13
  have hc14 : cs32 283 = .inl (gY G 14, 10, .inl (fun _ => 0)) := by rw [e32, va_up_ne _ _ (by omega)]; exact hc14
  have hc15 : cs32 284 = .inl (gY G 14, 10, .inl (fun _ => 0)) := by rw [e32, va_up_ne _ _ (by omega)]; exact hc15
  have hc16 : cs32 285 = .inl (gY G 14, 10, .inl (fun _ => 0)) := by rw [e32, va_up_ne _ _ (by omega)]; exact hc16
  have hc0 : cs32 269 = .inr (12, [.int 0, .ref (gA G 270), .ref (gA G 271), .ref (gA G 272), .ref (gA G 273), .ref (gA G 274), .ref (gA G 275), .ref (gA G 276), .ref (gA G 277), .ref (gA G 278), .int 0, .int 0, .int 0, .int 0, .int 0, .long 0, .int 0, .int 0, .int 0, .ref (gA G 279), .ref (gA G 280), .int 0, .int 0, .int 0, .int 0, .int 0, .int 0, .int 0, .int 0, .int 0, .int 0, .ref (gA G 281), .ref (gA G 282), .ref (gA G 283), .ref (gA G 284), .ref (gA G 285), .null, .null, .null, .null, .null, .null, .null, .null, .null, .null, .null, .null, .null, .null, .null, .null, .null, .null, .int 0, .int 0, .int 0, .int 0, .int 0, .int 0, .null, .null, .int 0, .int 0, .int 0, .int 0, .int 0, .null, .null, .int 0, .null, .int 0, .int 0, .null, .null, .null, .int 0, .int 0, .int 0, .int 0, .int 0, .int 0, .null, .int 0, .int 0, .int 0, .int 0, .int 0, .int 0, .int 0, .int 0, .null]) := by rw [e32]; exact va_up_self _ _ _
  have hlo : ∀ n, n < 269 → cs32 n = cs n := fun n a => by rw [e32, va_up_ne _ _ (by omega)]; exact hlo n a
  clear e32
  refine ry_aload_n 0 dX12_init_133 rfl rfl ?_
  refine ry_iconst (v := 4) dX12_init_134 rfl ?_
  refine ry_newa (κ := 14) (n := 4) (atype := .int) (ty := .int) (t0 := 1) rfl wa_int rfl (fun _ _ => Iff.rfl) rfl (by decide) rfl (by decide) (by decide) (by decide) dX12_init_135 ?_
  refine ry_cs (fun cs33 e33 => ?_)
  have hc0 : cs33 269 = .inr (12, [.int 0, .ref (gA G 270), .ref (gA G 271), .ref (gA G 272), .ref (gA G 273), .ref (gA G 274), .ref (gA G 275), .ref (gA G 276), .ref (gA G 277), .ref (gA G 278), .int 0, .int 0, .int 0, .int 0, .int 0, .long 0, .int 0, .int 0, .int 0, .ref (gA G 279), .ref (gA G 280), .int 0, .int 0, .int 0, .int 0, .int 0, .int 0, .int 0, .int 0, .int 0, .int 0, .ref (gA G 281), .ref (gA G 282), .ref (gA G 283), .ref (gA G 284), .ref (gA G 285), .null, .null, .null, .null, .null, .null, .null, .null, .null, .null, .null, .null, .null, .null, .null, .null, .null, .null, .int 0, .int 0, .int 0, .int 0, .int 0, .int 0, .null, .null, .int 0, .int 0, .int 0, .int 0, .int 0, .null, .null, .int 0, .null, .int 0, .int 0, .null, .null, .null, .int 0, .int 0, .int 0, .int 0, .int 0, .int 0, .null, .int 0, .int 0, .int 0, .int 0, .int 0, .int 0, .int 0, .int 0, .null]) := by rw [e33, va_up_ne _ _ (by omega)]; exact hc0
  have hc1 : cs33 270 = .inl (gY G 13, 2400, .inl (fun _ => 0)) := by rw [e33, va_up_ne _ _ (by omega)]; exact hc1
  have hc2 : cs33 271 = .inl (gY G 14, 4, .inl (fun _ => 0)) := by rw [e33, va_up_ne _ _ (by omega)]; exact hc2
  have hc3 : cs33 272 = .inl (gY G 14, 4, .inl (fun _ => 0)) := by rw [e33, va_up_ne _ _ (by omega)]; exact hc3
  have hc4 : cs33 273 = .inl (gY G 14, 4, .inl (fun _ => 0)) := by rw [e33, va_up_ne _ _ (by omega)]; exact hc4
  have hc5 : cs33 274 = .inl (gY G 14, 16, .inl (fun _ => 0)) := by rw [e33, va_up_ne _ _ (by omega)]; exact hc5
  have hc6 : cs33 275 = .inl (gY G 14, 104, .inl (fun _ => 0)) := by rw [e33, va_up_ne _ _ (by omega)]; exact hc6
  have hc7 : cs33 276 = .inl (gY G 14, 1072, .inl (fun _ => 0)) := by rw [e33, va_up_ne _ _ (by omega)]; exact hc7
  have hc8 : cs33 277 = .inl (gY G 14, 968, .inl (fun _ => 0)) := by rw [e33, va_up_ne _ _ (by omega)]; exact hc8
  have hc9 : cs33 278 = .inl (gY G 14, 136, .inl (fun _ => 0)) := by rw [e33, va_up_ne _ _ (by omega)]; exact hc9
  have hc10 : cs33 279 = .inl (gY G 14, 134, .inl (fun _ => 0)) := by rw [e33, va_up_ne _ _ (by omega)]; exact hc10
  have hc11 : cs33 280 = .inl (gY G 14, 3, .inl (fun _ => 0)) := by rw [e33, va_up_ne _ _ (by omega)]; exact hc11
  have hc12 : cs33 281 = .inl (gY G 14, 10, .inl (fun _ => 0)) := by rw [e33, va_up_ne _ _ (by omega)]; exact hc12
  have hc13 : cs33 282 = .inl (gY G 14, 10, .inl (fun _ => 0)) := by rw [e33, va_up_ne _ _ (by omega)]; exact hc13
  have hc14 : cs33 283 = .inl (gY G 14, 10, .inl (fun _ => 0)) := by rw [e33, va_up_ne _ _ (by omega)]; exact hc14
  have hc15 : cs33 284 = .inl (gY G 14, 10, .inl (fun _ => 0)) := by rw [e33, va_up_ne _ _ (by omega)]; exact hc15
  have hc16 : cs33 285 = .inl (gY G 14, 10, .inl (fun _ => 0)) := by rw [e33, va_up_ne _ _ (by omega)]; exact hc16
  have hc17 : cs33 286 = .inl (gY G 14, 4, .inl (fun _ => 0)) := by rw [e33]; exact va_up_self _ _ _
  have hlo : ∀ n, n < 269 → cs33 n = cs n := fun n a => by rw [e33, va_up_ne _ _ (by omega)]; exact hlo n a
  clear e33
  refine ry_putF ff_X12_59 rfl (by omega) hc0 rfl rfl (by decide) dX12_init_137 ?_
  refine ry_cs (fun cs34 e34 => ?_)
  have hc1 : cs34 270 = .inl (gY G 13, 2400, .inl (fun _ => 0)) := by rw [e34, va_up_ne _ _ (by omega)]; exact hc1
  have hc2 : cs34 271 = .inl (gY G 14, 4, .inl (fun _ => 0)) := by rw [e34, va_up_ne _ _ (by omega)]; exact hc2
  have hc3 : cs34 272 = .inl (gY G 14, 4, .inl (fun _ => 0)) := by rw [e34, va_up_ne _ _ (by omega)]; exact hc3
  have hc4 : cs34 273 = .inl (gY G 14, 4, .inl (fun _ => 0)) := by rw [e34, va_up_ne _ _ (by omega)]; exact hc4
  have hc5 : cs34 274 = .inl (gY G 14, 16, .inl (fun _ => 0)) := by rw [e34, va_up_ne _ _ (by omega)]; exact hc5
  have hc6 : cs34 275 = .inl (gY G 14, 104, .inl (fun _ => 0)) := by rw [e34, va_up_ne _ _ (by omega)]; exact hc6
  have hc7 : cs34 276 = .inl (gY G 14, 1072, .inl (fun _ => 0)) := by rw [e34, va_up_ne _ _ (by omega)]; exact hc7
  have hc8 : cs34 277 = .inl (gY G 14, 968, .inl (fun _ => 0)) := by rw [e34, va_up_ne _ _ (by omega)]; exact hc8
  have hc9 : cs34 278 = .inl (gY G 14, 136, .inl (fun _ => 0)) := by rw [e34, va_up_ne _ _ (by omega)]; exact hc9
  have hc10 : cs34 279 = .inl (gY G 14, 134, .inl (fun _ => 0)) := by rw [e34, va_up_ne _ _ (by omega)]; exact hc10
  have hc11 : cs34 280 = .inl (gY G 14, 3, .inl (fun _ => 0)) := by rw [e34, va_up_ne _ _ (by omega)]; exact hc11
  have hc12 : cs34 281 = .inl (gY G 14, 10, .inl (fun _ => 0)) := by rw [e34, va_up_ne _ _ (by omega)]; exact hc12
  have hc13 : cs34 282 = .inl (gY G 14, 10, .inl (fun _ => 0)) := by rw [e34, va_up_ne _ _ (by omega)]; exact hc13
  have hc14 : cs34 283 = .inl (gY G 14, 10, .inl (fun _ => 0)) := by rw [e34, va_up_ne _ _ (by omega)]; exact hc14
  have hc15 : cs34 284 = .inl (gY G 14, 10, .inl (fun _ => 0)) := by rw [e34, va_up_ne _ _ (by omega)]; exact hc15
  have hc16 : cs34 285 = .inl (gY G 14, 10, .inl (fun _ => 0)) := by rw [e34, va_up_ne _ _ (by omega)]; exact hc16
  have hc17 : cs34 286 = .inl (gY G 14, 4, .inl (fun _ => 0)) := by rw [e34, va_up_ne _ _ (by omega)]; exact hc17
  have hc0 : cs34 269 = .inr (12, [.int 0, .ref (gA G 270), .ref (gA G 271), .ref (gA G 272), .ref (gA G 273), .ref (gA G 274), .ref (gA G 275), .ref (gA G 276), .ref (gA G 277), .ref (gA G 278), .int 0, .int 0, .int 0, .int 0, .int 0, .long 0, .int 0, .int 0, .int 0, .ref (gA G 279), .ref (gA G 280), .int 0, .int 0, .int 0, .int 0, .int 0, .int 0, .int 0, .int 0, .int 0, .int 0, .ref (gA G 281), .ref (gA G 282), .ref (gA G 283), .ref (gA G 284), .ref (gA G 285), .ref (gA G 286), .null, .null, .null, .null, .null, .null, .null, .null, .null, .null, .null, .null, .null, .null, .null, .null, .null, .int 0, .int 0, .int 0, .int 0, .int 0, .int 0, .null, .null, .int 0, .int 0, .int 0, .int 0, .int 0, .null, .null, .int 0, .null, .int 0, .int 0, .null, .null, .null, .int 0, .int 0, .int 0, .int 0, .int 0, .int 0, .null, .int 0, .int 0, .int 0, .int 0, .int 0, .int 0, .int 0, .int 0, .null]) := by rw [e34]; exact va_up_self _ _ _
  have hlo : ∀ n, n < 269 → cs34 n = cs n := fun n a => by rw [e34, va_up_ne _ _ (by omega)]; exact hlo n a
  clear e34
  refine ry_aload_n 0 dX12_init_140 rfl rfl ?_
  refine ry_iconst (v := 4) dX12_init_141 rfl ?_
  refine ry_newa (κ := 14) (n := 4) (atype := .int) (ty := .int) (t0 := 1) rfl wa_int rfl (fun _ _ => Iff.rfl) rfl (by decide) rfl (by decide) (by decide) (by decide) dX12_init_142 ?_
  refine ry_cs (fun cs35 e35 => ?_)
  have hc0 : cs35 269 = .inr (12, [.int 0, .ref (gA G 270), .ref (gA G 271), .ref (gA G 272), .ref (gA G 273), .ref (gA G 274), .ref (gA G 275), .ref (gA G 276), .ref (gA G 277), .ref (gA G 278), .int 0, .int 0, .int 0, .int 0, .int 0, .long 0, .int 0, .int 0, .int 0, .ref (gA G 279), .ref (gA G 280), .int 0, .int 0, .int 0, .int 0, .int 0, .int 0, .int 0, .int 0, .int 0, .int 0, .ref (gA G 281), .ref (gA G 282), .ref (gA G 283), .ref (gA G 284), .ref (gA G 285), .ref (gA G 286), .null, .null, .null, .null, .null, .null, .null, .null, .null, .null, .null, .null, .null, .null, .null, .null, .null, .int 0, .int 0, .int 0, .int 0, .int 0, .int 0, .null, .null, .int 0, .int 0, .int 0, .int 0, .int 0, .null, .null, .int 0, .null, .int 0, .int 0, .null, .null, .null, .int 0, .int 0, .int 0, .int 0, .int 0, .int 0, .null, .int 0, .int 0, .int 0, .int 0, .int 0, .int 0, .int 0, .int 0, .null]) := by rw [e35, va_up_ne _ _ (by omega)]; exact hc0
  have hc1 : cs35 270 = .inl (gY G 13, 2400, .inl (fun _ => 0)) := by rw [e35, va_up_ne _ _ (by omega)]; exact hc1
  have hc2 : cs35 271 = .inl (gY G 14, 4, .inl (fun _ => 0)) := by rw [e35, va_up_ne _ _ (by omega)]; exact hc2
  have hc3 : cs35 272 = .inl (gY G 14, 4, .inl (fun _ => 0)) := by rw [e35, va_up_ne _ _ (by omega)]; exact hc3
  have hc4 : cs35 273 = .inl (gY G 14, 4, .inl (fun _ => 0)) := by rw [e35, va_up_ne _ _ (by omega)]; exact hc4
  have hc5 : cs35 274 = .inl (gY G 14, 16, .inl (fun _ => 0)) := by rw [e35, va_up_ne _ _ (by omega)]; exact hc5
  have hc6 : cs35 275 = .inl (gY G 14, 104, .inl (fun _ => 0)) := by rw [e35, va_up_ne _ _ (by omega)]; exact hc6
  have hc7 : cs35 276 = .inl (gY G 14, 1072, .inl (fun _ => 0)) := by rw [e35, va_up_ne _ _ (by omega)]; exact hc7
  have hc8 : cs35 277 = .inl (gY G 14, 968, .inl (fun _ => 0)) := by rw [e35, va_up_ne _ _ (by omega)]; exact hc8
  have hc9 : cs35 278 = .inl (gY G 14, 136, .inl (fun _ => 0)) := by rw [e35, va_up_ne _ _ (by omega)]; exact hc9
  have hc10 : cs35 279 = .inl (gY G 14, 134, .inl (fun _ => 0)) := by rw [e35, va_up_ne _ _ (by omega)]; exact hc10
  have hc11 : cs35 280 = .inl (gY G 14, 3, .inl (fun _ => 0)) := by rw [e35, va_up_ne _ _ (by omega)]; exact hc11
  have hc12 : cs35 281 = .inl (gY G 14, 10, .inl (fun _ => 0)) := by rw [e35, va_up_ne _ _ (by omega)]; exact hc12
  have hc13 : cs35 282 = .inl (gY G 14, 10, .inl (fun _ => 0)) := by rw [e35, va_up_ne _ _ (by omega)]; exact hc13
  have hc14 : cs35 283 = .inl (gY G 14, 10, .inl (fun _ => 0)) := by rw [e35, va_up_ne _ _ (by omega)]; exact hc14
  have hc15 : cs35 284 = .inl (gY G 14, 10, .inl (fun _ => 0)) := by rw [e35, va_up_ne _ _ (by omega)]; exact hc15
  have hc16 : cs35 285 = .inl (gY G 14, 10, .inl (fun _ => 0)) := by rw [e35, va_up_ne _ _ (by omega)]; exact hc16
  have hc17 : cs35 286 = .inl (gY G 14, 4, .inl (fun _ => 0)) := by rw [e35, va_up_ne _ _ (by omega)]; exact hc17
  have hc18 : cs35 287 = .inl (gY G 14, 4, .inl (fun _ => 0)) := by rw [e35]; exact va_up_self _ _ _
  have hlo : ∀ n, n < 269 → cs35 n = cs n := fun n a => by rw [e35, va_up_ne _ _ (by omega)]; exact hlo n a
  clear e35
  refine ry_putF ff_X12_62 rfl (by omega) hc0 rfl rfl (by decide) dX12_init_144 ?_
  refine ry_cs (fun cs36 e36 => ?_)
  have hc1 : cs36 270 = .inl (gY G 13, 2400, .inl (fun _ => 0)) := by rw [e36, va_up_ne _ _ (by omega)]; exact hc1
  have hc2 : cs36 271 = .inl (gY G 14, 4, .inl (fun _ => 0)) := by rw [e36, va_up_ne _ _ (by omega)]; exact hc2
  have hc3 : cs36 272 = .inl (gY G 14, 4, .inl (fun _ => 0)) := by rw [e36, va_up_ne _ _ (by omega)]; exact hc3
  have hc4 : cs36 273 = .inl (gY G 14, 4, .inl (fun _ => 0)) := by rw [e36, va_up_ne _ _ (by omega)]; exact hc4
  have hc5 : cs36 274 = .inl (gY G 14, 16, .inl (fun _ => 0)) := by rw [e36, va_up_ne _ _ (by omega)]; exact hc5
  have hc6 : cs36 275 = .inl (gY G 14, 104, .inl (fun _ => 0)) := by rw [e36, va_up_ne _ _ (by omega)]; exact hc6
  have hc7 : cs36 276 = .inl (gY G 14, 1072, .inl (fun _ => 0)) := by rw [e36, va_up_ne _ _ (by omega)]; exact hc7
  have hc8 : cs36 277 = .inl (gY G 14, 968, .inl (fun _ => 0)) := by rw [e36, va_up_ne _ _ (by omega)]; exact hc8
  have hc9 : cs36 278 = .inl (gY G 14, 136, .inl (fun _ => 0)) := by rw [e36, va_up_ne _ _ (by omega)]; exact hc9
  have hc10 : cs36 279 = .inl (gY G 14, 134, .inl (fun _ => 0)) := by rw [e36, va_up_ne _ _ (by omega)]; exact hc10
  have hc11 : cs36 280 = .inl (gY G 14, 3, .inl (fun _ => 0)) := by rw [e36, va_up_ne _ _ (by omega)]; exact hc11
  have hc12 : cs36 281 = .inl (gY G 14, 10, .inl (fun _ => 0)) := by rw [e36, va_up_ne _ _ (by omega)]; exact hc12
  have hc13 : cs36 282 = .inl (gY G 14, 10, .inl (fun _ => 0)) := by rw [e36, va_up_ne _ _ (by omega)]; exact hc13
  have hc14 : cs36 283 = .inl (gY G 14, 10, .inl (fun _ => 0)) := by rw [e36, va_up_ne _ _ (by omega)]; exact hc14
  have hc15 : cs36 284 = .inl (gY G 14, 10, .inl (fun _ => 0)) := by rw [e36, va_up_ne _ _ (by omega)]; exact hc15
  have hc16 : cs36 285 = .inl (gY G 14, 10, .inl (fun _ => 0)) := by rw [e36, va_up_ne _ _ (by omega)]; exact hc16
  have hc17 : cs36 286 = .inl (gY G 14, 4, .inl (fun _ => 0)) := by rw [e36, va_up_ne _ _ (by omega)]; exact hc17
  have hc18 : cs36 287 = .inl (gY G 14, 4, .inl (fun _ => 0)) := by rw [e36, va_up_ne _ _ (by omega)]; exact hc18
  have hc0 : cs36 269 = .inr (12, [.int 0, .ref (gA G 270), .ref (gA G 271), .ref (gA G 272), .ref (gA G 273), .ref (gA G 274), .ref (gA G 275), .ref (gA G 276), .ref (gA G 277), .ref (gA G 278), .int 0, .int 0, .int 0, .int 0, .int 0, .long 0, .int 0, .int 0, .int 0, .ref (gA G 279), .ref (gA G 280), .int 0, .int 0, .int 0, .int 0, .int 0, .int 0, .int 0, .int 0, .int 0, .int 0, .ref (gA G 281), .ref (gA G 282), .ref (gA G 283), .ref (gA G 284), .ref (gA G 285), .ref (gA G 286), .ref (gA G 287), .null, .null, .null, .null, .null, .null, .null, .null, .null, .null, .null, .null, .null, .null, .null, .null, .int 0, .int 0, .int 0, .int 0, .int 0, .int 0, .null, .null, .int 0, .int 0, .int 0, .int 0, .int 0, .null, .null, .int 0, .null, .int 0, .int 0, .null, .null, .null, .int 0, .int 0, .int 0, .int 0, .int 0, .int 0, .null, .int 0, .int 0, .int 0, .int 0, .int 0, .int 0, .int 0, .int 0, .null]) := by rw [e36]; exact va_up_self _ _ _
  have hlo : ∀ n, n < 269 → cs36 n = cs n := fun n a => by rw [e36, va_up_ne _ _ (by omega)]; exact hlo n a
  clear e36
  refine ry_aload_n 0 dX12_init_147 rfl rfl ?_
  refine ry_iconst (v := 4) dX12_init_148 rfl ?_
  refine ry_newa (κ := 14) (n := 4) (atype := .int) (ty := .int) (t0 := 1) rfl wa_int rfl (fun _ _ => Iff.rfl) rfl (by decide) rfl (by decide) (by decide) (by decide) dX12_init_149 ?_
  refine ry_cs (fun cs37 e37 => ?_)
  have hc0 : cs37 269 = .inr (12, [.int 0, .ref (gA G 270), .ref (gA G 271), .ref (gA G 272), .ref (gA G 273), .ref (gA G 274), .ref (gA G 275), .ref (gA G 276), .ref (gA G 277), .ref (gA G 278), .int 0, .int 0, .int 0, .int 0, .int 0, .long 0, .int 0, .int 0, .int 0, .ref (gA G 279), .ref (gA G 280), .int 0, .int 0, .int 0, .int 0, .int 0, .int 0, .int 0, .int 0, .int 0, .int 0, .ref (gA G 281), .ref (gA G 282), .ref (gA G 283), .ref (gA G 284), .ref (gA G 285), .ref (gA G 286), .ref (gA G 287), .null, .null, .null, .null, .null, .null, .null, .null, .null, .null, .null, .null, .null, .null, .null, .null, .int 0, .int 0, .int 0, .int 0, .int 0, .int 0, .null, .null, .int 0, .int 0, .int 0, .int 0, .int 0, .null, .null, .int 0, .null, .int 0, .int 0, .null, .null, .null, .int 0, .int 0, .int 0, .int 0, .int 0, .int 0, .null, .int 0, .int 0, .int 0, .int 0, .int 0, .int 0, .int 0, .int 0, .null]) := by rw [e37, va_up_ne _ _ (by omega)]; exact hc0
  have hc1 : cs37 270 = .inl (gY G 13, 2400, .inl (fun _ => 0)) := by rw [e37, va_up_ne _ _ (by omega)]; exact hc1
  have hc2 : cs37 271 = .inl (gY G 14, 4, .inl (fun _ => 0)) := by rw [e37, va_up_ne _ _ (by omega)]; exact hc2
  have hc3 : cs37 272 = .inl (gY G 14, 4, .inl (fun _ => 0)) := by rw [e37, va_up_ne _ _ (by omega)]; exact hc3
  have hc4 : cs37 273 = .inl (gY G 14, 4, .inl (fun _ => 0)) := by rw [e37, va_up_ne _ _ (by omega)]; exact hc4
  have hc5 : cs37 274 = .inl (gY G 14, 16, .inl (fun _ => 0)) := by rw [e37, va_up_ne _ _ (by omega)]; exact hc5
  have hc6 : cs37 275 = .inl (gY G 14, 104, .inl (fun _ => 0)) := by rw [e37, va_up_ne _ _ (by omega)]; exact hc6
  have hc7 : cs37 276 = .inl (gY G 14, 1072, .inl (fun _ => 0)) := by rw [e37, va_up_ne _ _ (by omega)]; exact hc7
  have hc8 : cs37 277 = .inl (gY G 14, 968, .inl (fun _ => 0)) := by rw [e37, va_up_ne _ _ (by omega)]; exact hc8
  have hc9 : cs37 278 = .inl (gY G 14, 136, .inl (fun _ => 0)) := by rw [e37, va_up_ne _ _ (by omega)]; exact hc9
  have hc10 : cs37 279 = .inl (gY G 14, 134, .inl (fun _ => 0)) := by rw [e37, va_up_ne _ _ (by omega)]; exact hc10
  have hc11 : cs37 280 = .inl (gY G 14, 3, .inl (fun _ => 0)) := by rw [e37, va_up_ne _ _ (by omega)]; exact hc11
  have hc12 : cs37 281 = .inl (gY G 14, 10, .inl (fun _ => 0)) := by rw [e37, va_up_ne _ _ (by omega)]; exact hc12
  have hc13 : cs37 282 = .inl (gY G 14, 10, .inl (fun _ => 0)) := by rw [e37, va_up_ne _ _ (by omega)]; exact hc13
  have hc14 : cs37 283 = .inl (gY G 14, 10, .inl (fun _ => 0)) := by rw [e37, va_up_ne _ _ (by omega)]; exact hc14
  have hc15 : cs37 284 = .inl (gY G 14, 10, .inl (fun _ => 0)) := by rw [e37, va_up_ne _ _ (by omega)]; exact hc15
  have hc16 : cs37 285 = .inl (gY G 14, 10, .inl (fun _ => 0)) := by rw [e37, va_up_ne _ _ (by omega)]; exact hc16
  have hc17 : cs37 286 = .inl (gY G 14, 4, .inl (fun _ => 0)) := by rw [e37, va_up_ne _ _ (by omega)]; exact hc17
  have hc18 : cs37 287 = .inl (gY G 14, 4, .inl (fun _ => 0)) := by rw [e37, va_up_ne _ _ (by omega)]; exact hc18
  have hc19 : cs37 288 = .inl (gY G 14, 4, .inl (fun _ => 0)) := by rw [e37]; exact va_up_self _ _ _
  have hlo : ∀ n, n < 269 → cs37 n = cs n := fun n a => by rw [e37, va_up_ne _ _ (by omega)]; exact hlo n a
  clear e37
  refine ry_putF ff_X12_65 rfl (by omega) hc0 rfl rfl (by decide) dX12_init_151 ?_
  refine ry_cs (fun cs38 e38 => ?_)
  have hc1 : cs38 270 = .inl (gY G 13, 2400, .inl (fun _ => 0)) := by rw [e38, va_up_ne _ _ (by omega)]; exact hc1
  have hc2 : cs38 271 = .inl (gY G 14, 4, .inl (fun _ => 0)) := by rw [e38, va_up_ne _ _ (by omega)]; exact hc2
  have hc3 : cs38 272 = .inl (gY G 14, 4, .inl (fun _ => 0)) := by rw [e38, va_up_ne _ _ (by omega)]; exact hc3
  have hc4 : cs38 273 = .inl (gY G 14, 4, .inl (fun _ => 0)) := by rw [e38, va_up_ne _ _ (by omega)]; exact hc4
  have hc5 : cs38 274 = .inl (gY G 14, 16, .inl (fun _ => 0)) := by rw [e38, va_up_ne _ _ (by omega)]; exact hc5
  have hc6 : cs38 275 = .inl (gY G 14, 104, .inl (fun _ => 0)) := by rw [e38, va_up_ne _ _ (by omega)]; exact hc6
  have hc7 : cs38 276 = .inl (gY G 14, 1072, .inl (fun _ => 0)) := by rw [e38, va_up_ne _ _ (by omega)]; exact hc7
  have hc8 : cs38 277 = .inl (gY G 14, 968, .inl (fun _ => 0)) := by rw [e38, va_up_ne _ _ (by omega)]; exact hc8
  have hc9 : cs38 278 = .inl (gY G 14, 136, .inl (fun _ => 0)) := by rw [e38, va_up_ne _ _ (by omega)]; exact hc9
  have hc10 : cs38 279 = .inl (gY G 14, 134, .inl (fun _ => 0)) := by rw [e38, va_up_ne _ _ (by omega)]; exact hc10
  have hc11 : cs38 280 = .inl (gY G 14, 3, .inl (fun _ => 0)) := by rw [e38, va_up_ne _ _ (by omega)]; exact hc11
  have hc12 : cs38 281 = .inl (gY G 14, 10, .inl (fun _ => 0)) := by rw [e38, va_up_ne _ _ (by omega)]; exact hc12
  have hc13 : cs38 282 = .inl (gY G 14, 10, .inl (fun _ => 0)) := by rw [e38, va_up_ne _ _ (by omega)]; exact hc13
  have hc14 : cs38 283 = .inl (gY G 14, 10, .inl (fun _ => 0)) := by rw [e38, va_up_ne _ _ (by omega)]; exact hc14
  have hc15 : cs38 284 = .inl (gY G 14, 10, .inl (fun _ => 0)) := by rw [e38, va_up_ne _ _ (by omega)]; exact hc15
  have hc16 : cs38 285 = .inl (gY G 14, 10, .inl (fun _ => 0)) := by rw [e38, va_up_ne _ _ (by omega)]; exact hc16
  have hc17 : cs38 286 = .inl (gY G 14, 4, .inl (fun _ => 0)) := by rw [e38, va_up_ne _ _ (by omega)]; exact hc17
  have hc18 : cs38 287 = .inl (gY G 14, 4, .inl (fun _ => 0)) := by rw [e38, va_up_ne _ _ (by omega)]; exact hc18
  have hc19 : cs38 288 = .inl (gY G 14, 4, .inl (fun _ => 0)) := by rw [e38, va_up_ne _ _ (by omega)]; exact hc19
  have hc0 : cs38 269 = .inr (12, [.int 0, .ref (gA G 270), .ref (gA G 271), .ref (gA G 272), .ref (gA G 273), .ref (gA G 274), .ref (gA G 275), .ref (gA G 276), .ref (gA G 277), .ref (gA G 278), .int 0, .int 0, .int 0, .int 0, .int 0, .long 0, .int 0, .int 0, .int 0, .ref (gA G 279), .ref (gA G 280), .int 0, .int 0, .int 0, .int 0, .int 0, .int 0, .int 0, .int 0, .int 0, .int 0, .ref (gA G 281), .ref (gA G 282), .ref (gA G 283), .ref (gA G 284), .ref (gA G 285), .ref (gA G 286), .ref (gA G 287), .ref (gA G 288), .null, .null, .null, .null, .null, .null, .null, .null, .null, .null, .null, .null, .null, .null, .null, .int 0, .int 0, .int 0, .int 0, .int 0, .int 0, .null, .null, .int 0, .int 0, .int 0, .int 0, .int 0, .null, .null, .int 0, .null, .int 0, .int 0, .null, .null, .null, .int 0, .int 0, .int 0, .int 0, .int 0, .int 0, .null, .int 0, .int 0, .int 0, .int 0, .int 0, .int 0, .int 0, .int 0, .null]) := by rw [e38]; exact va_up_self _ _ _
  have hlo : ∀ n, n < 269 → cs38 n = cs n := fun n a => by rw [e38, va_up_ne _ _ (by omega)]; exact hlo n a
  clear e38
  refine ry_aload_n 0 dX12_init_154 rfl rfl ?_
  refine ry_iconst (v := 4) dX12_init_155 rfl ?_
  refine ry_newa (κ := 14) (n := 4) (atype := .int) (ty := .int) (t0 := 1) rfl wa_int rfl (fun _ _ => Iff.rfl) rfl (by decide) rfl (by decide) (by decide) (by decide) dX12_init_156 ?_
  refine ry_cs (fun cs39 e39 => ?_)
  have hc0 : cs39 269 = .inr (12, [.int 0, .ref (gA G 270), .ref (gA G 271), .ref (gA G 272), .ref (gA G 273), .ref (gA G 274), .ref (gA G 275), .ref (gA G 276), .ref (gA G 277), .ref (gA G 278), .int 0, .int 0, .int 0, .int 0, .int 0, .long 0, .int 0, .int 0, .int 0, .ref (gA G 279), .ref (gA G 280), .int 0, .int 0, .int 0, .int 0, .int 0, .int 0, .int 0, .int 0, .int 0, .int 0, .ref (gA G 281), .ref (gA G 282), .ref (gA G 283), .ref (gA G 284), .ref (gA G 285), .ref (gA G 286), .ref (gA G 287), .ref (gA G 288), .null, .null, .null, .null, .null, .null, .null, .null, .null, .null, .null, .null, .null, .null, .null, .int 0, .int 0, .int 0, .int 0, .int 0, .int 0, .null, .null, .int 0, .int 0, .int 0, .int 0, .int 0, .null, .null, .int 0, .null, .int 0, .int 0, .null, .null, .null, .int 0, .int 0, .int 0, .int 0, .int 0, .int 0, .null, .int 0, .int 0, .int 0, .int 0, .int 0, .int 0, .int 0, .int 0, .null]) := by rw [e39, va_up_ne _ _ (by omega)]; exact hc0
  have hc1 : cs39 270 = .inl (gY G 13, 2400, .inl (fun _ => 0)) := by rw [e39, va_up_ne _ _ (by omega)]; exact hc1
  have hc2 : cs39 271 = .inl (gY G 14, 4, .inl (fun _ => 0)) := by rw [e39, va_up_ne _ _ (by omega)]; exact hc2
  have hc3 : cs39 272 = .inl (gY G 14, 4, .inl (fun _ => 0)) := by rw [e39, va_up_ne _ _ (by omega)]; exact hc3
  have hc4 : cs39 273 = .inl (gY G 14, 4, .inl (fun _ => 0)) := by rw [e39, va_up_ne _ _ (by omega)]; exact hc4
  have hc5 : cs39 274 = .inl (gY G 14, 16, .inl (fun _ => 0)) := by rw [e39, va_up_ne _ _ (by omega)]; exact hc5
  have hc6 : cs39 275 = .inl (gY G 14, 104, .inl (fun _ => 0)) := by rw [e39, va_up_ne _ _ (by omega)]; exact hc6
  have hc7 : cs39 276 = .inl (gY G 14, 1072, .inl (fun _ => 0)) := by rw [e39, va_up_ne _ _ (by omega)]; exact hc7
  have hc8 : cs39 277 = .inl (gY G 14, 968, .inl (fun _ => 0)) := by rw [e39, va_up_ne _ _ (by omega)]; exact hc8
  have hc9 : cs39 278 = .inl (gY G 14, 136, .inl (fun _ => 0)) := by rw [e39, va_up_ne _ _ (by omega)]; exact hc9
  have hc10 : cs39 279 = .inl (gY G 14, 134, .inl (fun _ => 0)) := by rw [e39, va_up_ne _ _ (by omega)]; exact hc10
  have hc11 : cs39 280 = .inl (gY G 14, 3, .inl (fun _ => 0)) := by rw [e39, va_up_ne _ _ (by omega)]; exact hc11
  have hc12 : cs39 281 = .inl (gY G 14, 10, .inl (fun _ => 0)) := by rw [e39, va_up_ne _ _ (by omega)]; exact hc12
  have hc13 : cs39 282 = .inl (gY G 14, 10, .inl (fun _ => 0)) := by rw [e39, va_up_ne _ _ (by omega)]; exact hc13
  have hc14 : cs39 283 = .inl (gY G 14, 10, .inl (fun _ => 0)) := by rw [e39, va_up_ne _ _ (by omega)]; exact hc14
  have hc15 : cs39 284 = .inl (gY G 14, 10, .inl (fun _ => 0)) := by rw [e39, va_up_ne _ _ (by omega)]; exact hc15
  have hc16 : cs39 285 = .inl (gY G 14, 10, .inl (fun _ => 0)) := by rw [e39, va_up_ne _ _ (by omega)]; exact hc16
  have hc17 : cs39 286 = .inl (gY G 14, 4, .inl (fun _ => 0)) := by rw [e39, va_up_ne _ _ (by omega)]; exact hc17
  have hc18 : cs39 287 = .inl (gY G 14, 4, .inl (fun _ => 0)) := by rw [e39, va_up_ne _ _ (by omega)]; exact hc18
  have hc19 : cs39 288 = .inl (gY G 14, 4, .inl (fun _ => 0)) := by rw [e39, va_up_ne _ _ (by omega)]; exact hc19
  have hc20 : cs39 289 = .inl (gY G 14, 4, .inl (fun _ => 0)) := by rw [e39]; exact va_up_self _ _ _
  have hlo : ∀ n, n < 269 → cs39 n = cs n := fun n a => by rw [e39, va_up_ne _ _ (by omega)]; exact hlo n a
  clear e39
  refine ry_putF ff_X12_68 rfl (by omega) hc0 rfl rfl (by decide) dX12_init_158 ?_
  refine ry_cs (fun cs40 e40 => ?_)
  have hc1 : cs40 270 = .inl (gY G 13, 2400, .inl (fun _ => 0)) := by rw [e40, va_up_ne _ _ (by omega)]; exact hc1
  have hc2 : cs40 271 = .inl (gY G 14, 4, .inl (fun _ => 0)) := by rw [e40, va_up_ne _ _ (by omega)]; exact hc2
  have hc3 : cs40 272 = .inl (gY G 14, 4, .inl (fun _ => 0)) := by rw [e40, va_up_ne _ _ (by omega)]; exact hc3
  have hc4 : cs40 273 = .inl (gY G 14, 4, .inl (fun _ => 0)) := by rw [e40, va_up_ne _ _ (by omega)]; exact hc4
  have hc5 : cs40 274 = .inl (gY G 14, 16, .inl (fun _ => 0)) := by rw [e40, va_up_ne _ _ (by omega)]; exact hc5
  have hc6 : cs40 275 = .inl (gY G 14, 104, .inl (fun _ => 0)) := by rw [e40, va_up_ne _ _ (by omega)]; exact hc6
  have hc7 : cs40 276 = .inl (gY G 14, 1072, .inl (fun _ => 0)) := by rw [e40, va_up_ne _ _ (by omega)]; exact hc7
  have hc8 : cs40 277 = .inl (gY G 14, 968, .inl (fun _ => 0)) := by rw [e40, va_up_ne _ _ (by omega)]; exact hc8
  have hc9 : cs40 278 = .inl (gY G 14, 136, .inl (fun _ => 0)) := by rw [e40, va_up_ne _ _ (by omega)]; exact hc9
  have hc10 : cs40 279 = .inl (gY G 14, 134, .inl (fun _ => 0)) := by rw [e40, va_up_ne _ _ (by omega)]; exact hc10
  have hc11 : cs40 280 = .inl (gY G 14, 3, .inl (fun _ => 0)) := by rw [e40, va_up_ne _ _ (by omega)]; exact hc11
  have hc12 : cs40 281 = .inl (gY G 14, 10, .inl (fun _ => 0)) := by rw [e40, va_up_ne _ _ (by omega)]; exact hc12
  have hc13 : cs40 282 = .inl (gY G 14, 10, .inl (fun _ => 0)) := by rw [e40, va_up_ne _ _ (by omega)]; exact hc13
  have hc14 : cs40 283 = .inl (gY G 14, 10, .inl (fun _ => 0)) := by rw [e40, va_up_ne _ _ (by omega)]; exact hc14
  have hc15 : cs40 284 = .inl (gY G 14, 10, .inl (fun _ => 0)) := by rw [e40, va_up_ne _ _ (by omega)]; exact hc15
  have hc16 : cs40 285 = .inl (gY G 14, 10, .inl (fun _ => 0)) := by rw [e40, va_up_ne _ _ (by omega)]; exact hc16
  have hc17 : cs40 286 = .inl (gY G 14, 4, .inl (fun _ => 0)) := by rw [e40, va_up_ne _ _ (by omega)]; exact hc17
  have hc18 : cs40 287 = .inl (gY G 14, 4, .inl (fun _ => 0)) := by rw [e40, va_up_ne _ _ (by omega)]; exact hc18
  have hc19 : cs40 288 = .inl (gY G 14, 4, .inl (fun _ => 0)) := by rw [e40, va_up_ne _ _ (by omega)]; exact hc19
  have hc20 : cs40 289 = .inl (gY G 14, 4, .inl (fun _ => 0)) := by rw [e40, va_up_ne _ _ (by omega)]; exact hc20
  have hc0 : cs40 269 = .inr (12, [.int 0, .ref (gA G 270), .ref (gA G 271), .ref (gA G 272), .ref (gA G 273), .ref (gA G 274), .ref (gA G 275), .ref (gA G 276), .ref (gA G 277), .ref (gA G 278), .int 0, .int 0, .int 0, .int 0, .int 0, .long 0, .int 0, .int 0, .int 0, .ref (gA G 279), .ref (gA G 280), .int 0, .int 0, .int 0, .int 0, .int 0, .int 0, .int 0, .int 0, .int 0, .int 0, .ref (gA G 281), .ref (gA G 282), .ref (gA G 283), .ref (gA G 284), .ref (gA G 285), .ref (gA G 286), .ref (gA G 287), .ref (gA G 288), .ref (gA G 289), .null, .null, .null, .null, .null, .null, .null, .null, .null, .null, .null, .null, .null, .null, .int 0, .int 0, .int 0, .int 0, .int 0, .int 0, .null, .null, .int 0, .int 0, .int 0, .int 0, .int 0, .null, .null, .int 0, .null, .int 0, .int 0, .null, .null, .null, .int 0, .int 0, .int 0, .int 0, .int 0, .int 0, .null, .int 0, .int 0, .int 0, .int 0, .int 0, .int 0, .int 0, .int 0, .null]) := by rw [e40]; exact va_up_self _ _ _
  have hlo : ∀ n, n < 269 → cs40 n = cs n := fun n a => by rw [e40, va_up_ne _ _ (by omega)]; exact hlo n a
  clear e40
  refine ry_aload_n 0 dX12_init_161 rfl rfl ?_
  refine ry_iconst (v := 4) dX12_init_162 rfl ?_
  refine ry_newa (κ := 14) (n := 4) (atype := .int) (ty := .int) (t0 := 1) rfl wa_int rfl (fun _ _ => Iff.rfl) rfl (by decide) rfl (by decide) (by decide) (by decide) dX12_init_163 ?_
  refine ry_cs (fun cs41 e41 => ?_)
  have hc0 : cs41 269 = .inr (12, [.int 0, .ref (gA G 270), .ref (gA G 271), .ref (gA G 272), .ref (gA G 273), .ref (gA G 274), .ref (gA G 275), .ref (gA G 276), .ref (gA G 277), .ref (gA G 278), .int 0, .int 0, .int 0, .int 0, .int 0, .long 0, .int 0, .int 0, .int 0, .ref (gA G 279), .ref (gA G 280), .int 0, .int 0, .int 0, .int 0, .int 0, .int 0, .int 0, .int 0, .int 0, .int 0, .ref (gA G 281), .ref (gA G 282), .ref (gA G 283), .ref (gA G 284), .ref (gA G 285), .ref (gA G 286), .ref (gA G 287), .ref (gA G 288), .ref (gA G 289), .null, .null, .null, .null, .null, .null, .null, .null, .null, .null, .null, .null, .null, .null, .int 0, .int 0, .int 0, .int 0, .int 0, .int 0, .null, .null, .int 0, .int 0, .int 0, .int 0, .int 0, .null, .null, .int 0, .null, .int 0, .int 0, .null, .null, .null, .int 0, .int 0, .int 0, .int 0, .int 0, .int 0, .null, .int 0, .int 0, .int 0, .int 0, .int 0, .int 0, .int 0, .int 0, .null]) := by rw [e41, va_up_ne _ _ (by omega)]; exact hc0
  have hc1 : cs41 270 = .inl (gY G 13, 2400, .inl (fun _ => 0)) := by rw [e41, va_up_ne _ _ (by omega)]; exact hc1
  have hc2 : cs41 271 = .inl (gY G 14, 4, .inl (fun _ => 0)) := by rw [e41, va_up_ne _ _ (by omega)]; exact hc2
  have hc3 : cs41 272 = .inl (gY G 14, 4, .inl (fun _ => 0)) := by rw [e41, va_up_ne _ _ (by omega)]; exact hc3
  have hc4 : cs41 273 = .inl (gY G 14, 4, .inl (fun _ => 0)) := by rw [e41, va_up_ne _ _ (by omega)]; exact hc4
  have hc5 : cs41 274 = .inl (gY G 14, 16, .inl (fun _ => 0)) := by rw [e41, va_up_ne _ _ (by omega)]; exact hc5
  have hc6 : cs41 275 = .inl (gY G 14, 104, .inl (fun _ => 0)) := by rw [e41, va_up_ne _ _ (by omega)]; exact hc6
  have hc7 : cs41 276 = .inl (gY G 14, 1072, .inl (fun _ => 0)) := by rw [e41, va_up_ne _ _ (by omega)]; exact hc7
  have hc8 : cs41 277 = .inl (gY G 14, 968, .inl (fun _ => 0)) := by rw [e41, va_up_ne _ _ (by omega)]; exact hc8
  have hc9 : cs41 278 = .inl (gY G 14, 136, .inl (fun _ => 0)) := by rw [e41, va_up_ne _ _ (by omega)]; exact hc9
  have hc10 : cs41 279 = .inl (gY G 14, 134, .inl (fun _ => 0)) := by rw [e41, va_up_ne _ _ (by omega)]; exact hc10
  have hc11 : cs41 280 = .inl (gY G 14, 3, .inl (fun _ => 0)) := by rw [e41, va_up_ne _ _ (by omega)]; exact hc11
  have hc12 : cs41 281 = .inl (gY G 14, 10, .inl (fun _ => 0)) := by rw [e41, va_up_ne _ _ (by omega)]; exact hc12
  have hc13 : cs41 282 = .inl (gY G 14, 10, .inl (fun _ => 0)) := by rw [e41, va_up_ne _ _ (by omega)]; exact hc13
  have hc14 : cs41 283 = .inl (gY G 14, 10, .inl (fun _ => 0)) := by rw [e41, va_up_ne _ _ (by omega)]; exact hc14
  have hc15 : cs41 284 = .inl (gY G 14, 10, .inl (fun _ => 0)) := by rw [e41, va_up_ne _ _ (by omega)]; exact hc15
  have hc16 : cs41 285 = .inl (gY G 14, 10, .inl (fun _ => 0)) := by rw [e41, va_up_ne _ _ (by omega)]; exact hc16
  have hc17 : cs41 286 = .inl (gY G 14, 4, .inl (fun _ => 0)) := by rw [e41, va_up_ne _ _ (by omega)]; exact hc17
  have hc18 : cs41 287 = .inl (gY G 14, 4, .inl (fun _ => 0)) := by rw [e41, va_up_ne _ _ (by omega)]; exact hc18
  have hc19 : cs41 288 = .inl (gY G 14, 4, .inl (fun _ => 0)) := by rw [e41, va_up_ne _ _ (by omega)]; exact hc19
  have hc20 : cs41 289 = .inl (gY G 14, 4, .inl (fun _ => 0)) := by rw [e41, va_up_ne _ _ (by omega)]; exact hc20
  have hc21 : cs41 290 = .inl (gY G 14, 4, .inl (fun _ => 0)) := by rw [e41]; exact va_up_self _ _ _
  have hlo : ∀ n, n < 269 → cs41 n = cs n := fun n a => by rw [e41, va_up_ne _ _ (by omega)]; exact hlo n a
  clear e41
  refine ry_putF ff_X12_71 rfl (by omega) hc0 rfl rfl (by decide) dX12_init_165 ?_
  refine ry_cs (fun cs42 e42 => ?_)
  have hc1 : cs42 270 = .inl (gY G 13, 2400, .inl (fun _ => 0)) := by rw [e42, va_up_ne _ _ (by omega)]; exact hc1
  have hc2 : cs42 271 = .inl (gY G 14, 4, .inl (fun _ => 0)) := by rw [e42, va_up_ne _ _ (by omega)]; exact hc2
  have hc3 : cs42 272 = .inl (gY G 14, 4, .inl (fun _ => 0)) := by rw [e42, va_up_ne _ _ (by omega)]; exact hc3
  have hc4 : cs42 273 = .inl (gY G 14, 4, .inl (fun _ => 0)) := by rw [e42, va_up_ne _ _ (by omega)]; exact hc4
  have hc5 : cs42 274 = .inl (gY G 14, 16, .inl (fun _ => 0)) := by rw [e42, va_up_ne _ _ (by omega)]; exact hc5
  have hc6 : cs42 275 = .inl (gY G 14, 104, .inl (fun _ => 0)) := by rw [e42, va_up_ne _ _ (by omega)]; exact hc6
  have hc7 : cs42 276 = .inl (gY G 14, 1072, .inl (fun _ => 0)) := by rw [e42, va_up_ne _ _ (by omega)]; exact hc7
  have hc8 : cs42 277 = .inl (gY G 14, 968, .inl (fun _ => 0)) := by rw [e42, va_up_ne _ _ (by omega)]; exact hc8
  have hc9 : cs42 278 = .inl (gY G 14, 136, .inl (fun _ => 0)) := by rw [e42, va_up_ne _ _ (by omega)]; exact hc9
  have hc10 : cs42 279 = .inl (gY G 14, 134, .inl (fun _ => 0)) := by rw [e42, va_up_ne _ _ (by omega)]; exact hc10
  have hc11 : cs42 280 = .inl (gY G 14, 3, .inl (fun _ => 0)) := by rw [e42, va_up_ne _ _ (by omega)]; exact hc11
  have hc12 : cs42 281 = .inl (gY G 14, 10, .inl (fun _ => 0)) := by rw [e42, va_up_ne _ _ (by omega)]; exact hc12
  have hc13 : cs42 282 = .inl (gY G 14, 10, .inl (fun _ => 0)) := by rw [e42, va_up_ne _ _ (by omega)]; exact hc13
  have hc14 : cs42 283 = .inl (gY G 14, 10, .inl (fun _ => 0)) := by rw [e42, va_up_ne _ _ (by omega)]; exact hc14
  have hc15 : cs42 284 = .inl (gY G 14, 10, .inl (fun _ => 0)) := by rw [e42, va_up_ne _ _ (by omega)]; exact hc15
  have hc16 : cs42 285 = .inl (gY G 14, 10, .inl (fun _ => 0)) := by rw [e42, va_up_ne _ _ (by omega)]; exact hc16
  have hc17 : cs42 286 = .inl (gY G 14, 4, .inl (fun _ => 0)) := by rw [e42, va_up_ne _ _ (by omega)]; exact hc17
  have hc18 : cs42 287 = .inl (gY G 14, 4, .inl (fun _ => 0)) := by rw [e42, va_up_ne _ _ (by omega)]; exact hc18
  have hc19 : cs42 288 = .inl (gY G 14, 4, .inl (fun _ => 0)) := by rw [e42, va_up_ne _ _ (by omega)]; exact hc19
  have hc20 : cs42 289 = .inl (gY G 14, 4, .inl (fun _ => 0)) := by rw [e42, va_up_ne _ _ (by omega)]; exact hc20
  have hc21 : cs42 290 = .inl (gY G 14, 4, .inl (fun _ => 0)) := by rw [e42, va_up_ne _ _ (by omega)]; exact hc21
  have hc0 : cs42 269 = .inr (12, [.int 0, .ref (gA G 270), .ref (gA G 271), .ref (gA G 272), .ref (gA G 273), .ref (gA G 274), .ref (gA G 275), .ref (gA G 276), .ref (gA G 277), .ref (gA G 278), .int 0, .int 0, .int 0, .int 0, .int 0, .long 0, .int 0, .int 0, .int 0, .ref (gA G 279), .ref (gA G 280), .int 0, .int 0, .int 0, .int 0, .int 0, .int 0, .int 0, .int 0, .int 0, .int 0, .ref (gA G 281), .ref (gA G 282), .ref (gA G 283), .ref (gA G 284), .ref (gA G 285), .ref (gA G 286), .ref (gA G 287), .ref (gA G 288), .ref (gA G 289), .ref (gA G 290), .null, .null, .null, .null, .null, .null, .null, .null, .null, .null, .null, .null, .null, .int 0, .int 0, .int 0, .int 0, .int 0, .int 0, .null, .null, .int 0, .int 0, .int 0, .int 0, .int 0, .null, .null, .int 0, .null, .int 0, .int 0, .null, .null, .null, .int 0, .int 0, .int 0, .int 0, .int 0, .int 0, .null, .int 0, .int 0, .int 0, .int 0, .int 0, .int 0, .int 0, .int 0, .null]) := by rw [e42]; exact va_up_self _ _ _
  have hlo : ∀ n, n < 269 → cs42 n = cs n := fun n a => by rw [e42, va_up_ne _ _ (by omega)]; exact hlo n a
  clear e42
  refine ry_aload_n 0 dX12_init_168 rfl rfl ?_
  refine ry_iconst (v := 4) dX12_init_169 rfl ?_
  refine ry_newa (κ := 14) (n := 4) (atype := .int) (ty := .int) (t0 := 1) rfl wa_int rfl (fun _ _ => Iff.rfl) rfl (by decide) rfl (by decide) (by decide) (by decide) dX12_init_170 ?_
  refine ry_cs (fun cs43 e43 => ?_)
  have hc0 : cs43 269 = .inr (12, [.int 0, .ref (gA G 270), .ref (gA G 271), .ref (gA G 272), .ref (gA G 273), .ref (gA G 274), .ref (gA G 275), .ref (gA G 276), .ref (gA G 277), .ref (gA G 278), .int 0, .int 0, .int 0, .int 0, .int 0, .long 0, .int 0, .int 0, .int 0, .ref (gA G 279), .ref (gA G 280), .int 0, .int 0, .int 0, .int 0, .int 0, .int 0, .int 0, .int 0, .int 0, .int 0, .ref (gA G 281), .ref (gA G 282), .ref (gA G 283), .ref (gA G 284), .ref (gA G 285), .ref (gA G 286), .ref (gA G 287), .ref (gA G 288), .ref (gA G 289), .ref (gA G 290), .null, .null, .null, .null, .null, .null, .null, .null, .null, .null, .null, .null, .null, .int 0, .int 0, .int 0, .int 0, .int 0, .int 0, .null, .null, .int 0, .int 0, .int 0, .int 0, .int 0, .null, .null, .int 0, .null, .int 0, .int 0, .null, .null, .null, .int 0, .int 0, .int 0, .int 0, .int 0, .int 0, .null, .int 0, .int 0, .int 0, .int 0, .int 0, .int 0, .int 0, .int 0, .null]) := by rw [e43, va_up_ne _ _ (by omega)]; exact hc0
  have hc1 : cs43 270 = .inl (gY G 13, 2400, .inl (fun _ => 0)) := by rw [e43, va_up_ne _ _ (by omega)]; exact hc1
  have hc2 : cs43 271 = .inl (gY G 14, 4, .inl (fun _ => 0)) := by rw [e43, va_up_ne _ _ (by omega)]; exact hc2
  have hc3 : cs43 272 = .inl (gY G 14, 4, .inl (fun _ => 0)) := by rw [e43, va_up_ne _ _ (by omega)]; exact hc3
  have hc4 : cs43 273 = .inl (gY G 14, 4, .inl (fun _ => 0)) := by rw [e43, va_up_ne _ _ (by omega)]; exact hc4
  have hc5 : cs43 274 = .inl (gY G 14, 16, .inl (fun _ => 0)) := by rw [e43, va_up_ne _ _ (by omega)]; exact hc5
  have hc6 : cs43 275 = .inl (gY G 14, 104, .inl (fun _ => 0)) := by rw [e43, va_up_ne _ _ (by omega)]; exact hc6
  have hc7 : cs43 276 = .inl (gY G 14, 1072, .inl (fun _ => 0)) := by rw [e43, va_up_ne _ _ (by omega)]; exact hc7
  have hc8 : cs43 277 = .inl (gY G 14, 968, .inl (fun _ => 0)) := by rw [e43, va_up_ne _ _ (by omega)]; exact hc8
  have hc9 : cs43 278 = .inl (gY G 14, 136, .inl (fun _ => 0)) := by rw [e43, va_up_ne _ _ (by omega)]; exact hc9
  have hc10 : cs43 279 = .inl (gY G 14, 134, .inl (fun _ => 0)) := by rw [e43, va_up_ne _ _ (by omega)]; exact hc10
  have hc11 : cs43 280 = .inl (gY G 14, 3, .inl (fun _ => 0)) := by rw [e43, va_up_ne _ _ (by omega)]; exact hc11
  have hc12 : cs43 281 = .inl (gY G 14, 10, .inl (fun _ => 0)) := by rw [e43, va_up_ne _ _ (by omega)]; exact hc12
  have hc13 : cs43 282 = .inl (gY G 14, 10, .inl (fun _ => 0)) := by rw [e43, va_up_ne _ _ (by omega)]; exact hc13
  have hc14 : cs43 283 = .inl (gY G 14, 10, .inl (fun _ => 0)) := by rw [e43, va_up_ne _ _ (by omega)]; exact hc14
  have hc15 : cs43 284 = .inl (gY G 14, 10, .inl (fun _ => 0)) := by rw [e43, va_up_ne _ _ (by omega)]; exact hc15
  have hc16 : cs43 285 = .inl (gY G 14, 10, .inl (fun _ => 0)) := by rw [e43, va_up_ne _ _ (by omega)]; exact hc16
  have hc17 : cs43 286 = .inl (gY G 14, 4, .inl (fun _ => 0)) := by rw [e43, va_up_ne _ _ (by omega)]; exact hc17
  have hc18 : cs43 287 = .inl (gY G 14, 4, .inl (fun _ => 0)) := by rw [e43, va_up_ne _ _ (by omega)]; exact hc18
  have hc19 : cs43 288 = .inl (gY G 14, 4, .inl (fun _ => 0)) := by rw [e43, va_up_ne _ _ (by omega)]; exact hc19
  have hc20 : cs43 289 = .inl (gY G 14, 4, .inl (fun _ => 0)) := by rw [e43, va_up_ne _ _ (by omega)]; exact hc20
  have hc21 : cs43 290 = .inl (gY G 14, 4, .inl (fun _ => 0)) := by rw [e43, va_up_ne _ _ (by omega)]; exact hc21
  have hc22 : cs43 291 = .inl (gY G 14, 4, .inl (fun _ => 0)) := by rw [e43]; exact va_up_self _ _ _
  have hlo : ∀ n, n < 269 → cs43 n = cs n := fun n a => by rw [e43, va_up_ne _ _ (by omega)]; exact hlo n a
  clear e43
  refine ry_putF ff_X12_74 rfl (by omega) hc0 rfl rfl (by decide) dX12_init_172 ?_
  refine ry_cs (fun cs44 e44 => ?_)
  have hc1 : cs44 270 = .inl (gY G 13, 2400, .inl (fun _ => 0)) := by rw [e44, va_up_ne _ _ (by omega)]; exact hc1
  have hc2 : cs44 271 = .inl (gY G 14, 4, .inl (fun _ => 0)) := by rw [e44, va_up_ne _ _ (by omega)]; exact hc2
  have hc3 : cs44 272 = .inl (gY G 14, 4, .inl (fun _ => 0)) := by rw [e44, va_up_ne _ _ (by omega)]; exact hc3
  have hc4 : cs44 273 = .inl (gY G 14, 4, .inl (fun _ => 0)) := by rw [e44, va_up_ne _ _ (by omega)]; exact hc4
  have hc5 : cs44 274 = .inl (gY G 14, 16, .inl (fun _ => 0)) := by rw [e44, va_up_ne _ _ (by omega)]; exact hc5
  have hc6 : cs44 275 = .inl (gY G 14, 104, .inl (fun _ => 0)) := by rw [e44, va_up_ne _ _ (by omega)]; exact hc6
  have hc7 : cs44 276 = .inl (gY G 14, 1072, .inl (fun _ => 0)) := by rw [e44, va_up_ne _ _ (by omega)]; exact hc7
  have hc8 : cs44 277 = .inl (gY G 14, 968, .inl (fun _ => 0)) := by rw [e44, va_up_ne _ _ (by omega)]; exact hc8
  have hc9 : cs44 278 = .inl (gY G 14, 136, .inl (fun _ => 0)) := by rw [e44, va_up_ne _ _ (by omega)]; exact hc9
  have hc10 : cs44 279 = .inl (gY G 14, 134, .inl (fun _ => 0)) := by rw [e44, va_up_ne _ _ (by omega)]; exact hc10
  have hc11 : cs44 280 = .inl (gY G 14, 3, .inl (fun _ => 0)) := by rw [e44, va_up_ne _ _ (by omega)]; exact hc11
  have hc12 : cs44 281 = .inl (gY G 14, 10, .inl (fun _ => 0)) := by rw [e44, va_up_ne _ _ (by omega)]; exact hc12
  have hc13 : cs44 282 = .inl (gY G 14, 10, .inl (fun _ => 0)) := by rw [e44, va_up_ne _ _ (by omega)]; exact hc13
  have hc14 : cs44 283 = .inl (gY G 14, 10, .inl (fun _ => 0)) := by rw [e44, va_up_ne _ _ (by omega)]; exact hc14
  have hc15 : cs44 284 = .inl (gY G 14, 10, .inl (fun _ => 0)) := by rw [e44, va_up_ne _ _ (by omega)]; exact hc15
  have hc16 : cs44 285 = .inl (gY G 14, 10, .inl (fun _ => 0)) := by rw [e44, va_up_ne _ _ (by omega)]; exact hc16
  have hc17 : cs44 286 = .inl (gY G 14, 4, .inl (fun _ => 0)) := by rw [e44, va_up_ne _ _ (by omega)]; exact hc17
  have hc18 : cs44 287 = .inl (gY G 14, 4, .inl (fun _ => 0)) := by rw [e44, va_up_ne _ _ (by omega)]; exact hc18
  have hc19 : cs44 288 = .inl (gY G 14, 4, .inl (fun _ => 0)) := by rw [e44, va_up_ne _ _ (by omega)]; exact hc19
  have hc20 : cs44 289 = .inl (gY G 14, 4, .inl (fun _ => 0)) := by rw [e44, va_up_ne _ _ (by omega)]; exact hc20
  have hc21 : cs44 290 = .inl (gY G 14, 4, .inl (fun _ => 0)) := by rw [e44, va_up_ne _ _ (by omega)]; exact hc21
  have hc22 : cs44 291 = .inl (gY G 14, 4, .inl (fun _ => 0)) := by rw [e44, va_up_ne _ _ (by omega)]; exact hc22
  have hc0 : cs44 269 = .inr (12, [.int 0, .ref (gA G 270), .ref (gA G 271), .ref (gA G 272), .ref (gA G 273), .ref (gA G 274), .ref (gA G 275), .ref (gA G 276), .ref (gA G 277), .ref (gA G 278), .int 0, .int 0, .int 0, .int 0, .int 0, .long 0, .int 0, .int 0, .int 0, .ref (gA G 279), .ref (gA G 280), .int 0, .int 0, .int 0, .int 0, .int 0, .int 0, .int 0, .int 0, .int 0, .int 0, .ref (gA G 281), .ref (gA G 282), .ref (gA G 283), .ref (gA G 284), .ref (gA G 285), .ref (gA G 286), .ref (gA G 287), .ref (gA G 288), .ref (gA G 289), .ref (gA G 290), .ref (gA G 291), .null, .null, .null, .null, .null, .null, .null, .null, .null, .null, .null, .null, .int 0, .int 0, .int 0, .int 0, .int 0, .int 0, .null, .null, .int 0, .int 0, .int 0, .int 0, .int 0, .null, .null, .int 0, .null, .int 0, .int 0, .null, .null, .null, .int 0, .int 0, .int 0, .int 0, .int 0, .int 0, .null, .int 0, .int 0, .int 0, .int 0, .int 0, .int 0, .int 0, .int 0, .null]) := by rw [e44]; exact va_up_self _ _ _
  have hlo : ∀ n, n < 269 → cs44 n = cs n := fun n a => by rw [e44, va_up_ne _ _ (by omega)]; exact hlo n a
  clear e44
  refine ry_aload_n 0 dX12_init_175 rfl rfl ?_
  refine ry_bipush (v := 40) dX12_init_176 rfl ?_
  refine ry_newa (κ := 14) (n := 40) (atype := .int) (ty := .int) (t0 := 1) rfl wa_int rfl (fun _ _ => Iff.rfl) rfl (by decide) rfl (by decide) (by decide) (by decide) dX12_init_178 ?_
  refine ry_cs (fun cs45 e45 => ?_)
  have hc0 : cs45 269 = .inr (12, [.int 0, .ref (gA G 270), .ref (gA G 271), .ref (gA G 272), .ref (gA G 273), .ref (gA G 274), .ref (gA G 275), .ref (gA G 276), .ref (gA G 277), .ref (gA G 278), .int 0, .int 0, .int 0, .int 0, .int 0, .long 0, .int 0, .int 0, .int 0, .ref (gA G 279), .ref (gA G 280), .int 0, .int 0, .int 0, .int 0, .int 0, .int 0, .int 0, .int 0, .int 0, .int 0, .ref (gA G 281), .ref (gA G 282), .ref (gA G 283), .ref (gA G 284), .ref (gA G 285), .ref (gA G 286), .ref (gA G 287), .ref (gA G 288), .ref (gA G 289), .ref (gA G 290), .ref (gA G 291), .null, .null, .null, .null, .null, .null, .null, .null, .null, .null, .null, .null, .int 0, .int 0, .int 0, .int 0, .int 0, .int 0, .null, .null, .int 0, .int 0, .int 0, .int 0, .int 0, .null, .null, .int 0, .null, .int 0, .int 0, .null, .null, .null, .int 0, .int 0, .int 0, .int 0, .int 0, .int 0, .null, .int 0, .int 0, .int 0, .int 0, .int 0, .int 0, .int 0, .int 0, .null]) := by rw [e45, va_up_ne _ _ (by omega)]; exact hc0
  have hc1 : cs45 270 = .inl (gY G 13, 2400, .inl (fun _ => 0)) := by rw [e45, va_up_ne _ _ (by omega)]; exact hc1
  have hc2 : cs45 271 = .inl (gY G 14, 4, .inl (fun _ => 0)) := by rw [e45, va_up_ne _ _ (by omega)]; exact hc2
  have hc3 : cs45 272 = .inl (gY G 14, 4, .inl (fun _ => 0)) := by rw [e45, va_up_ne _ _ (by omega)]; exact hc3
  have hc4 : cs45 273 = .inl (gY G 14, 4, .inl (fun _ => 0)) := by rw [e45, va_up_ne _ _ (by omega)]; exact hc4
  have hc5 : cs45 274 = .inl (gY G 14, 16, .inl (fun _ => 0)) := by rw [e45, va_up_ne _ _ (by omega)]; exact hc5
  have hc6 : cs45 275 = .inl (gY G 14, 104, .inl (fun _ => 0)) := by rw [e45, va_up_ne _ _ (by omega)]; exact hc6
  have hc7 : cs45 276 = .inl (gY G 14, 1072, .inl (fun _ => 0)) := by rw [e45, va_up_ne _ _ (by omega)]; exact hc7
  have hc8 : cs45 277 = .inl (gY G 14, 968, .inl (fun _ => 0)) := by rw [e45, va_up_ne _ _ (by omega)]; exact hc8
  have hc9 : cs45 278 = .inl (gY G 14, 136, .inl (fun _ => 0)) := by rw [e45, va_up_ne _ _ (by omega)]; exact hc9
  have hc10 : cs45 279 = .inl (gY G 14, 134, .inl (fun _ => 0)) := by rw [e45, va_up_ne _ _ (by omega)]; exact hc10
  have hc11 : cs45 280 = .inl (gY G 14, 3, .inl (fun _ => 0)) := by rw [e45, va_up_ne _ _ (by omega)]; exact hc11
  have hc12 : cs45 281 = .inl (gY G 14, 10, .inl (fun _ => 0)) := by rw [e45, va_up_ne _ _ (by omega)]; exact hc12
  have hc13 : cs45 282 = .inl (gY G 14, 10, .inl (fun _ => 0)) := by rw [e45, va_up_ne _ _ (by omega)]; exact hc13
  have hc14 : cs45 283 = .inl (gY G 14, 10, .inl (fun _ => 0)) := by rw [e45, va_up_ne _ _ (by omega)]; exact hc14
  have hc15 : cs45 284 = .inl (gY G 14, 10, .inl (fun _ => 0)) := by rw [e45, va_up_ne _ _ (by omega)]; exact hc15
  have hc16 : cs45 285 = .inl (gY G 14, 10, .inl (fun _ => 0)) := by rw [e45, va_up_ne _ _ (by omega)]; exact hc16
  have hc17 : cs45 286 = .inl (gY G 14, 4, .inl (fun _ => 0)) := by rw [e45, va_up_ne _ _ (by omega)]; exact hc17
  have hc18 : cs45 287 = .inl (gY G 14, 4, .inl (fun _ => 0)) := by rw [e45, va_up_ne _ _ (by omega)]; exact hc18
  have hc19 : cs45 288 = .inl (gY G 14, 4, .inl (fun _ => 0)) := by rw [e45, va_up_ne _ _ (by omega)]; exact hc19
  have hc20 : cs45 289 = .inl (gY G 14, 4, .inl (fun _ => 0)) := by rw [e45, va_up_ne _ _ (by omega)]; exact hc20
  have hc21 : cs45 290 = .inl (gY G 14, 4, .inl (fun _ => 0)) := by rw [e45, va_up_ne _ _ (by omega)]; exact hc21
  have hc22 : cs45 291 = .inl (gY G 14, 4, .inl (fun _ => 0)) := by rw [e45, va_up_ne _ _ (by omega)]; exact hc22
  have hc23 : cs45 292 = .inl (gY G 14, 40, .inl (fun _ => 0)) := by rw [e45]; exact va_up_self _ _ _
  have hlo : ∀ n, n < 269 → cs45 n = cs n := fun n a => by rw [e45, va_up_ne _ _ (by omega)]; exact hlo n a
  clear e45
  refine ry_putF ff_X12_77 rfl (by omega) hc0 rfl rfl (by decide) dX12_init_180 ?_
  refine ry_cs (fun cs46 e46 => ?_)
  have hc1 : cs46 270 = .inl (gY G 13, 2400, .inl (fun _ => 0)) := by rw [e46, va_up_ne _ _ (by omega)]; exact hc1
  have hc2 : cs46 271 = .inl (gY G 14, 4, .inl (fun _ => 0)) := by rw [e46, va_up_ne _ _ (by omega)]; exact hc2
  have hc3 : cs46 272 = .inl (gY G 14, 4, .inl (fun _ => 0)) := by rw [e46, va_up_ne _ _ (by omega)]; exact hc3
  have hc4 : cs46 273 = .inl (gY G 14, 4, .inl (fun _ => 0)) := by rw [e46, va_up_ne _ _ (by omega)]; exact hc4
  have hc5 : cs46 274 = .inl (gY G 14, 16, .inl (fun _ => 0)) := by rw [e46, va_up_ne _ _ (by omega)]; exact hc5
  have hc6 : cs46 275 = .inl (gY G 14, 104, .inl (fun _ => 0)) := by rw [e46, va_up_ne _ _ (by omega)]; exact hc6
  have hc7 : cs46 276 = .inl (gY G 14, 1072, .inl (fun _ => 0)) := by rw [e46, va_up_ne _ _ (by omega)]; exact hc7
  have hc8 : cs46 277 = .inl (gY G 14, 968, .inl (fun _ => 0)) := by rw [e46, va_up_ne _ _ (by omega)]; exact hc8
  have hc9 : cs46 278 = .inl (gY G 14, 136, .inl (fun _ => 0)) := by rw [e46, va_up_ne _ _ (by omega)]; exact hc9
  have hc10 : cs46 279 = .inl (gY G 14, 134, .inl (fun _ => 0)) := by rw [e46, va_up_ne _ _ (by omega)]; exact hc10
  have hc11 : cs46 280 = .inl (gY G 14, 3, .inl (fun _ => 0)) := by rw [e46, va_up_ne _ _ (by omega)]; exact hc11
  have hc12 : cs46 281 = .inl (gY G 14, 10, .inl (fun _ => 0)) := by rw [e46, va_up_ne _ _ (by omega)]; exact hc12
  have hc13 : cs46 282 = .inl (gY G 14, 10, .inl (fun _ => 0)) := by rw [e46, va_up_ne _ _ (by omega)]; exact hc13
  have hc14 : cs46 283 = .inl (gY G 14, 10, .inl (fun _ => 0)) := by rw [e46, va_up_ne _ _ (by omega)]; exact hc14
  have hc15 : cs46 284 = .inl (gY G 14, 10, .inl (fun _ => 0)) := by rw [e46, va_up_ne _ _ (by omega)]; exact hc15
  have hc16 : cs46 285 = .inl (gY G 14, 10, .inl (fun _ => 0)) := by rw [e46, va_up_ne _ _ (by omega)]; exact hc16
  have hc17 : cs46 286 = .inl (gY G 14, 4, .inl (fun _ => 0)) := by rw [e46, va_up_ne _ _ (by omega)]; exact hc17
  have hc18 : cs46 287 = .inl (gY G 14, 4, .inl (fun _ => 0)) := by rw [e46, va_up_ne _ _ (by omega)]; exact hc18
  have hc19 : cs46 288 = .inl (gY G 14, 4, .inl (fun _ => 0)) := by rw [e46, va_up_ne _ _ (by omega)]; exact hc19
  have hc20 : cs46 289 = .inl (gY G 14, 4, .inl (fun _ => 0)) := by rw [e46, va_up_ne _ _ (by omega)]; exact hc20
  have hc21 : cs46 290 = .inl (gY G 14, 4, .inl (fun _ => 0)) := by rw [e46, va_up_ne _ _ (by omega)]; exact hc21
  have hc22 : cs46 291 = .inl (gY G 14, 4, .inl (fun _ => 0)) := by rw [e46, va_up_ne _ _ (by omega)]; exact hc22
  have hc23 : cs46 292 = .inl (gY G 14, 40, .inl (fun _ => 0)) := by rw [e46, va_up_ne _ _ (by omega)]; exact hc23
  have hc0 : cs46 269 = .inr (12, [.int 0, .ref (gA G 270), .ref (gA G 271), .ref (gA G 272), .ref (gA G 273), .ref (gA G 274), .ref (gA G 275), .ref (gA G 276), .ref (gA G 277), .ref (gA G 278), .int 0, .int 0, .int 0, .int 0, .int 0, .long 0, .int 0, .int 0, .int 0, .ref (gA G 279), .ref (gA G 280), .int 0, .int 0, .int 0, .int 0, .int 0, .int 0, .int 0, .int 0, .int 0, .int 0, .ref (gA G 281), .ref (gA G 282), .ref (gA G 283), .ref (gA G 284), .ref (gA G 285), .ref (gA G 286), .ref (gA G 287), .ref (gA G 288), .ref (gA G 289), .ref (gA G 290), .ref (gA G 291), .ref (gA G 292), .null, .null, .null, .null, .null, .null, .null, .null, .null, .null, .null, .int 0, .int 0, .int 0, .int 0, .int 0, .int 0, .null, .null, .int 0, .int 0, .int 0, .int 0, .int 0, .null, .null, .int 0, .null, .int 0, .int 0, .null, .null, .null, .int 0, .int 0, .int 0, .int 0, .int 0, .int 0, .null, .int 0, .int 0, .int 0, .int 0, .int 0, .int 0, .int 0, .int 0, .null]) := by rw [e46]; exact va_up_self _ _ _
  have hlo : ∀ n, n < 269 → cs46 n = cs n := fun n a => by rw [e46, va_up_ne _ _ (by omega)]; exact hlo n a
  clear e46
  refine ry_aload_n 0 dX12_init_183 rfl rfl ?_
  refine ry_bipush (v := 40) dX12_init_184 rfl ?_
  refine ry_newa (κ := 14) (n := 40) (atype := .int) (ty := .int) (t0 := 1) rfl wa_int rfl (fun _ _ => Iff.rfl) rfl (by decide) rfl (by decide) (by decide) (by decide) dX12_init_186 ?_
  refine ry_cs (fun cs47 e47 => ?_)
  have hc0 : cs47 269 = .inr (12, [.int 0, .ref (gA G 270), .ref (gA G 271), .ref (gA G 272), .ref (gA G 273), .ref (gA G 274), .ref (gA G 275), .ref (gA G 276), .ref (gA G 277), .ref (gA G 278), .int 0, .int 0, .int 0, .int 0, .int 0, .long 0, .int 0, .int 0, .int 0, .ref (gA G 279), .ref (gA G 280), .int 0, .int 0, .int 0, .int 0, .int 0, .int 0, .int 0, .int 0, .int 0, .int 0, .ref (gA G 281), .ref (gA G 282), .ref (gA G 283), .ref (gA G 284), .ref (gA G 285), .ref (gA G 286), .ref (gA G 287), .ref (gA G 288), .ref (gA G 289), .ref (gA G 290), .ref (gA G 291), .ref (gA G 292), .null, .null, .null, .null, .null, .null, .null, .null, .null, .null, .null, .int 0, .int 0, .int 0, .int 0, .int 0, .int 0, .null, .null, .int 0, .int 0, .int 0, .int 0, .int 0, .null, .null, .int 0, .null, .int 0, .int 0, .null, .null, .null, .int 0, .int 0, .int 0, .int 0, .int 0, .int 0, .null, .int 0, .int 0, .int 0, .int 0, .int 0, .int 0, .int 0, .int 0, .null]) := by rw [e47, va_up_ne _ _ (by omega)]; exact hc0
  have hc1 : cs47 270 = .inl (gY G 13, 2400, .inl (fun _ => 0)) := by rw [e47, va_up_ne _ _ (by omega)]; exact hc1
  have hc2 : cs47 271 = .inl (gY G 14, 4, .inl (fun _ => 0)) := by rw [e47, va_up_ne _ _ (by omega)]; exact hc2
  have hc3 : cs47 272 = .inl (gY G 14, 4, .inl (fun _ => 0)) := by rw [e47, va_up_ne _ _ (by omega)]; exact hc3
  have hc4 : cs47 273 = .inl (gY G 14, 4, .inl (fun _ => 0)) := by rw [e47, va_up_ne _ _ (by omega)]; exact hc4
  have hc5 : cs47 274 = .inl (gY G 14, 16, .inl (fun _ => 0)) := by rw [e47, va_up_ne _ _ (by omega)]; exact hc5
  have hc6 : cs47 275 = .inl (gY G 14, 104, .inl (fun _ => 0)) := by rw [e47, va_up_ne _ _ (by omega)]; exact hc6
  have hc7 : cs47 276 = .inl (gY G 14, 1072, .inl (fun _ => 0)) := by rw [e47, va_up_ne _ _ (by omega)]; exact hc7
  have hc8 : cs47 277 = .inl (gY G 14, 968, .inl (fun _ => 0)) := by rw [e47, va_up_ne _ _ (by omega)]; exact hc8
  have hc9 : cs47 278 = .inl (gY G 14, 136, .inl (fun _ => 0)) := by rw [e47, va_up_ne _ _ (by omega)]; exact hc9
  have hc10 : cs47 279 = .inl (gY G 14, 134, .inl (fun _ => 0)) := by rw [e47, va_up_ne _ _ (by omega)]; exact hc10
  have hc11 : cs47 280 = .inl (gY G 14, 3, .inl (fun _ => 0)) := by rw [e47, va_up_ne _ _ (by omega)]; exact hc11
  have hc12 : cs47 281 = .inl (gY G 14, 10, .inl (fun _ => 0)) := by rw [e47, va_up_ne _ _ (by omega)]; exact hc12
  have hc13 : cs47 282 = .inl (gY G 14, 10, .inl (fun _ => 0)) := by rw [e47, va_up_ne _ _ (by omega)]; exact hc13
  have hc14 : cs47 283 = .inl (gY G 14, 10, .inl (fun _ => 0)) := by rw [e47, va_up_ne _ _ (by omega)]; exact hc14
  have hc15 : cs47 284 = .inl (gY G 14, 10, .inl (fun _ => 0)) := by rw [e47, va_up_ne _ _ (by omega)]; exact hc15
  have hc16 : cs47 285 = .inl (gY G 14, 10, .inl (fun _ => 0)) := by rw [e47, va_up_ne _ _ (by omega)]; exact hc16
  have hc17 : cs47 286 = .inl (gY G 14, 4, .inl (fun _ => 0)) := by rw [e47, va_up_ne _ _ (by omega)]; exact hc17
  have hc18 : cs47 287 = .inl (gY G 14, 4, .inl (fun _ => 0)) := by rw [e47, va_up_ne _ _ (by omega)]; exact hc18
  have hc19 : cs47 288 = .inl (gY G 14, 4, .inl (fun _ => 0)) := by rw [e47, va_up_ne _ _ (by omega)]; exact hc19
  have hc20 : cs47 289 = .inl (gY G 14, 4, .inl (fun _ => 0)) := by rw [e47, va_up_ne _ _ (by omega)]; exact hc20
  have hc21 : cs47 290 = .inl (gY G 14, 4, .inl (fun _ => 0)) := by rw [e47, va_up_ne _ _ (by omega)]; exact hc21
  have hc22 : cs47 291 = .inl (gY G 14, 4, .inl (fun _ => 0)) := by rw [e47, va_up_ne _ _ (by omega)]; exact hc22
  have hc23 : cs47 292 = .inl (gY G 14, 40, .inl (fun _ => 0)) := by rw [e47, va_up_ne _ _ (by omega)]; exact hc23
  have hc24 : cs47 293 = .inl (gY G 14, 40, .inl (fun _ => 0)) := by rw [e47]; exact va_up_self _ _ _
  have hlo : ∀ n, n < 269 → cs47 n = cs n := fun n a => by rw [e47, va_up_ne _ _ (by omega)]; exact hlo n a
  clear e47
  refine ry_putF ff_X12_80 rfl (by omega) hc0 rfl rfl (by decide) dX12_init_188 ?_
  refine ry_cs (fun cs48 e48 => ?_)
  have hc1 : cs48 270 = .inl (gY G 13, 2400, .inl (fun _ => 0)) := by rw [e48, va_up_ne _ _ (by omega)]; exact hc1
  have hc2 : cs48 271 = .inl (gY G 14, 4, .inl (fun _ => 0)) := by rw [e48, va_up_ne _ _ (by omega)]; exact hc2
  have hc3 : cs48 272 = .inl (gY G 14, 4, .inl (fun _ => 0)) := by rw [e48, va_up_ne _ _ (by omega)]; exact hc3
  have hc4 : cs48 273 = .inl (gY G 14, 4, .inl (fun _ => 0)) := by rw [e48, va_up_ne _ _ (by omega)]; exact hc4
  have hc5 : cs48 274 = .inl (gY G 14, 16, .inl (fun _ => 0)) := by rw [e48, va_up_ne _ _ (by omega)]; exact hc5
  have hc6 : cs48 275 = .inl (gY G 14, 104, .inl (fun _ => 0)) := by rw [e48, va_up_ne _ _ (by omega)]; exact hc6
  have hc7 : cs48 276 = .inl (gY G 14, 1072, .inl (fun _ => 0)) := by rw [e48, va_up_ne _ _ (by omega)]; exact hc7
  have hc8 : cs48 277 = .inl (gY G 14, 968, .inl (fun _ => 0)) := by rw [e48, va_up_ne _ _ (by omega)]; exact hc8
  have hc9 : cs48 278 = .inl (gY G 14, 136, .inl (fun _ => 0)) := by rw [e48, va_up_ne _ _ (by omega)]; exact hc9
  have hc10 : cs48 279 = .inl (gY G 14, 134, .inl (fun _ => 0)) := by rw [e48, va_up_ne _ _ (by omega)]; exact hc10
  have hc11 : cs48 280 = .inl (gY G 14, 3, .inl (fun _ => 0)) := by rw [e48, va_up_ne _ _ (by omega)]; exact hc11
  have hc12 : cs48 281 = .inl (gY G 14, 10, .inl (fun _ => 0)) := by rw [e48, va_up_ne _ _ (by omega)]; exact hc12
  have hc13 : cs48 282 = .inl (gY G 14, 10, .inl (fun _ => 0)) := by rw [e48, va_up_ne _ _ (by omega)]; exact hc13
  have hc14 : cs48 283 = .inl (gY G 14, 10, .inl (fun _ => 0)) := by rw [e48, va_up_ne _ _ (by omega)]; exact hc14
  have hc15 : cs48 284 = .inl (gY G 14, 10, .inl (fun _ => 0)) := by rw [e48, va_up_ne _ _ (by omega)]; exact hc15
  have hc16 : cs48 285 = .inl (gY G 14, 10, .inl (fun _ => 0)) := by rw [e48, va_up_ne _ _ (by omega)]; exact hc16
  have hc17 : cs48 286 = .inl (gY G 14, 4, .inl (fun _ => 0)) := by rw [e48, va_up_ne _ _ (by omega)]; exact hc17
  have hc18 : cs48 287 = .inl (gY G 14, 4, .inl (fun _ => 0)) := by rw [e48, va_up_ne _ _ (by omega)]; exact hc18
  have hc19 : cs48 288 = .inl (gY G 14, 4, .inl (fun _ => 0)) := by rw [e48, va_up_ne _ _ (by omega)]; exact hc19
  have hc20 : cs48 289 = .inl (gY G 14, 4, .inl (fun _ => 0)) := by rw [e48, va_up_ne _ _ (by omega)]; exact hc20
  have hc21 : cs48 290 = .inl (gY G 14, 4, .inl (fun _ => 0)) := by rw [e48, va_up_ne _ _ (by omega)]; exact hc21
  have hc22 : cs48 291 = .inl (gY G 14, 4, .inl (fun _ => 0)) := by rw [e48, va_up_ne _ _ (by omega)]; exact hc22
  have hc23 : cs48 292 = .inl (gY G 14, 40, .inl (fun _ => 0)) := by rw [e48, va_up_ne _ _ (by omega)]; exact hc23
  have hc24 : cs48 293 = .inl (gY G 14, 40, .inl (fun _ => 0)) := by rw [e48, va_up_ne _ _ (by omega)]; exact hc24
  have hc0 : cs48 269 = .inr (12, [.int 0, .ref (gA G 270), .ref (gA G 271), .ref (gA G 272), .ref (gA G 273), .ref (gA G 274), .ref (gA G 275), .ref (gA G 276), .ref (gA G 277), .ref (gA G 278), .int 0, .int 0, .int 0, .int 0, .int 0, .long 0, .int 0, .int 0, .int 0, .ref (gA G 279), .ref (gA G 280), .int 0, .int 0, .int 0, .int 0, .int 0, .int 0, .int 0, .int 0, .int 0, .int 0, .ref (gA G 281), .ref (gA G 282), .ref (gA G 283), .ref (gA G 284), .ref (gA G 285), .ref (gA G 286), .ref (gA G 287), .ref (gA G 288), .ref (gA G 289), .ref (gA G 290), .ref (gA G 291), .ref (gA G 292), .ref (gA G 293), .null, .null, .null, .null, .null, .null, .null, .null, .null, .null, .int 0, .int 0, .int 0, .int 0, .int 0, .int 0, .null, .null, .int 0, .int 0, .int 0, .int 0, .int 0, .null, .null, .int 0, .null, .int 0, .int 0, .null, .null, .null, .int 0, .int 0, .int 0, .int 0, .int 0, .int 0, .null, .int 0, .int 0, .int 0, .int 0, .int 0, .int 0, .int 0, .int 0, .null]) := by rw [e48]; exact va_up_self _ _ _
  have hlo : ∀ n, n < 269 → cs48 n = cs n := fun n a => by rw [e48, va_up_ne _ _ (by omega)]; exact hlo n a
  clear e48
  refine ry_aload_n 0 dX12_init_191 rfl rfl ?_
  refine ry_bipush (v := 40) dX12_init_192 rfl ?_
  refine ry_newa (κ := 14) (n := 40) (atype := .int) (ty := .int) (t0 := 1) rfl wa_int rfl (fun _ _ => Iff.rfl) rfl (by decide) rfl (by decide) (by decide) (by decide) dX12_init_194 ?_
  refine ry_cs (fun cs49 e49 => ?_)
  have hc0 : cs49 269 = .inr (12, [.int 0, .ref (gA G 270), .ref (gA G 271), .ref (gA G 272), .ref (gA G 273), .ref (gA G 274), .ref (gA G 275), .ref (gA G 276), .ref (gA G 277), .ref (gA G 278), .int 0, .int 0, .int 0, .int 0, .int 0, .long 0, .int 0, .int 0, .int 0, .ref (gA G 279), .ref (gA G 280), .int 0, .int 0, .int 0, .int 0, .int 0, .int 0, .int 0, .int 0, .int 0, .int 0, .ref (gA G 281), .ref (gA G 282), .ref (gA G 283), .ref (gA G 284), .ref (gA G 285), .ref (gA G 286), .ref (gA G 287), .ref (gA G 288), .ref (gA G 289), .ref (gA G 290), .ref (gA G 291), .ref (gA G 292), .ref (gA G 293), .null, .null, .null, .null, .null, .null, .null, .null, .null, .null, .int 0, .int 0, .int 0, .int 0, .int 0, .int 0, .null, .null, .int 0, .int 0, .int 0, .int 0, .int 0, .null, .null, .int 0, .null, .int 0, .int 0, .null, .null, .null, .int 0, .int 0, .int 0, .int 0, .int 0, .int 0, .null, .int 0, .int 0, .int 0, .int 0, .int 0, .int 0, .int 0, .int 0, .null]) := by rw [e49, va_up_ne _ _ (by omega)]; exact hc0
  have hc1 : cs49 270 = .inl (gY G 13, 2400, .inl (fun _ => 0)) := by rw [e49, va_up_ne _ _ (by omega)]; exact hc1
  have hc2 : cs49 271 = .inl (gY G 14, 4, .inl (fun _ => 0)) := by rw [e49, va_up_ne _ _ (by omega)]; exact hc2
  have hc3 : cs49 272 = .inl (gY G 14, 4, .inl (fun _ => 0)) := by rw [e49, va_up_ne _ _ (by omega)]; exact hc3
  have hc4 : cs49 273 = .inl (gY G 14, 4, .inl (fun _ => 0)) := by rw [e49, va_up_ne _ _ (by omega)]; exact hc4
  have hc5 : cs49 274 = .inl (gY G 14, 16, .inl (fun _ => 0)) := by rw [e49, va_up_ne _ _ (by omega)]; exact hc5
  have hc6 : cs49 275 = .inl (gY G 14, 104, .inl (fun _ => 0)) := by rw [e49, va_up_ne _ _ (by omega)]; exact hc6
  have hc7 : cs49 276 = .inl (gY G 14, 1072, .inl (fun _ => 0)) := by rw [e49, va_up_ne _ _ (by omega)]; exact hc7
  have hc8 : cs49 277 = .inl (gY G 14, 968, .inl (fun _ => 0)) := by rw [e49, va_up_ne _ _ (by omega)]; exact hc8
  have hc9 : cs49 278 = .inl (gY G 14, 136, .inl (fun _ => 0)) := by rw [e49, va_up_ne _ _ (by omega)]; exact hc9
  have hc10 : cs49 279 = .inl (gY G 14, 134, .inl (fun _ => 0)) := by rw [e49, va_up_ne _ _ (by omega)]; exact hc10
  have hc11 : cs49 280 = .inl (gY G 14, 3, .inl (fun _ => 0)) := by rw [e49, va_up_ne _ _ (by omega)]; exact hc11
  have hc12 : cs49 281 = .inl (gY G 14, 10, .inl (fun _ => 0)) := by rw [e49, va_up_ne _ _ (by omega)]; exact hc12
  have hc13 : cs49 282 = .inl (gY G 14, 10, .inl (fun _ => 0)) := by rw [e49, va_up_ne _ _ (by omega)]; exact hc13
  have hc14 : cs49 283 = .inl (gY G 14, 10, .inl (fun _ => 0)) := by rw [e49, va_up_ne _ _ (by omega)]; exact hc14
  have hc15 : cs49 284 = .inl (gY G 14, 10, .inl (fun _ => 0)) := by rw [e49, va_up_ne _ _ (by omega)]; exact hc15
  have hc16 : cs49 285 = .inl (gY G 14, 10, .inl (fun _ => 0)) := by rw [e49, va_up_ne _ _ (by omega)]; exact hc16
  have hc17 : cs49 286 = .inl (gY G 14, 4, .inl (fun _ => 0)) := by rw [e49, va_up_ne _ _ (by omega)]; exact hc17
  have hc18 : cs49 287 = .inl (gY G 14, 4, .inl (fun _ => 0)) := by rw [e49, va_up_ne _ _ (by omega)]; exact hc18
  have hc19 : cs49 288 = .inl (gY G 14, 4, .inl (fun _ => 0)) := by rw [e49, va_up_ne _ _ (by omega)]; exact hc19
  have hc20 : cs49 289 = .inl (gY G 14, 4, .inl (fun _ => 0)) := by rw [e49, va_up_ne _ _ (by omega)]; exact hc20
  have hc21 : cs49 290 = .inl (gY G 14, 4, .inl (fun _ => 0)) := by rw [e49, va_up_ne _ _ (by omega)]; exact hc21
  have hc22 : cs49 291 = .inl (gY G 14, 4, .inl (fun _ => 0)) := by rw [e49, va_up_ne _ _ (by omega)]; exact hc22
  have hc23 : cs49 292 = .inl (gY G 14, 40, .inl (fun _ => 0)) := by rw [e49, va_up_ne _ _ (by omega)]; exact hc23
  have hc24 : cs49 293 = .inl (gY G 14, 40, .inl (fun _ => 0)) := by rw [e49, va_up_ne _ _ (by omega)]; exact hc24
  have hc25 : cs49 294 = .inl (gY G 14, 40, .inl (fun _ => 0)) := by rw [e49]; exact va_up_self _ _ _
  have hlo : ∀ n, n < 269 → cs49 n = cs n := fun n a => by rw [e49, va_up_ne _ _ (by omega)]; exact hlo n a
  clear e49
  refine ry_putF ff_X12_83 rfl (by omega) hc0 rfl rfl (by decide) dX12_init_196 ?_
  refine ry_cs (fun cs50 e50 => ?_)
  have hc1 : cs50 270 = .inl (gY G 13, 2400, .inl (fun _ => 0)) := by rw [e50, va_up_ne _ _ (by omega)]; exact hc1
  have hc2 : cs50 271 = .inl (gY G 14, 4, .inl (fun _ => 0)) := by rw [e50, va_up_ne _ _ (by omega)]; exact hc2
  have hc3 : cs50 272 = .inl (gY G 14, 4, .inl (fun _ => 0)) := by rw [e50, va_up_ne _ _ (by omega)]; exact hc3
  have hc4 : cs50 273 = .inl (gY G 14, 4, .inl (fun _ => 0)) := by rw [e50, va_up_ne _ _ (by omega)]; exact hc4
  have hc5 : cs50 274 = .inl (gY G 14, 16, .inl (fun _ => 0)) := by rw [e50, va_up_ne _ _ (by omega)]; exact hc5
  have hc6 : cs50 275 = .inl (gY G 14, 104, .inl (fun _ => 0)) := by rw [e50, va_up_ne _ _ (by omega)]; exact hc6
  have hc7 : cs50 276 = .inl (gY G 14, 1072, .inl (fun _ => 0)) := by rw [e50, va_up_ne _ _ (by omega)]; exact hc7
  have hc8 : cs50 277 = .inl (gY G 14, 968, .inl (fun _ => 0)) := by rw [e50, va_up_ne _ _ (by omega)]; exact hc8
  have hc9 : cs50 278 = .inl (gY G 14, 136, .inl (fun _ => 0)) := by rw [e50, va_up_ne _ _ (by omega)]; exact hc9
  have hc10 : cs50 279 = .inl (gY G 14, 134, .inl (fun _ => 0)) := by rw [e50, va_up_ne _ _ (by omega)]; exact hc10
  have hc11 : cs50 280 = .inl (gY G 14, 3, .inl (fun _ => 0)) := by rw [e50, va_up_ne _ _ (by omega)]; exact hc11
  have hc12 : cs50 281 = .inl (gY G 14, 10, .inl (fun _ => 0)) := by rw [e50, va_up_ne _ _ (by omega)]; exact hc12
  have hc13 : cs50 282 = .inl (gY G 14, 10, .inl (fun _ => 0)) := by rw [e50, va_up_ne _ _ (by omega)]; exact hc13
  have hc14 : cs50 283 = .inl (gY G 14, 10, .inl (fun _ => 0)) := by rw [e50, va_up_ne _ _ (by omega)]; exact hc14
  have hc15 : cs50 284 = .inl (gY G 14, 10, .inl (fun _ => 0)) := by rw [e50, va_up_ne _ _ (by omega)]; exact hc15
  have hc16 : cs50 285 = .inl (gY G 14, 10, .inl (fun _ => 0)) := by rw [e50, va_up_ne _ _ (by omega)]; exact hc16
  have hc17 : cs50 286 = .inl (gY G 14, 4, .inl (fun _ => 0)) := by rw [e50, va_up_ne _ _ (by omega)]; exact hc17
  have hc18 : cs50 287 = .inl (gY G 14, 4, .inl (fun _ => 0)) := by rw [e50, va_up_ne _ _ (by omega)]; exact hc18
  have hc19 : cs50 288 = .inl (gY G 14, 4, .inl (fun _ => 0)) := by rw [e50, va_up_ne _ _ (by omega)]; exact hc19
  have hc20 : cs50 289 = .inl (gY G 14, 4, .inl (fun _ => 0)) := by rw [e50, va_up_ne _ _ (by omega)]; exact hc20
  have hc21 : cs50 290 = .inl (gY G 14, 4, .inl (fun _ => 0)) := by rw [e50, va_up_ne _ _ (by omega)]; exact hc21
  have hc22 : cs50 291 = .inl (gY G 14, 4, .inl (fun _ => 0)) := by rw [e50, va_up_ne _ _ (by omega)]; exact hc22
  have hc23 : cs50 292 = .inl (gY G 14, 40, .inl (fun _ => 0)) := by rw [e50, va_up_ne _ _ (by omega)]; exact hc23
  have hc24 : cs50 293 = .inl (gY G 14, 40, .inl (fun _ => 0)) := by rw [e50, va_up_ne _ _ (by omega)]; exact hc24
  have hc25 : cs50 294 = .inl (gY G 14, 40, .inl (fun _ => 0)) := by rw [e50, va_up_ne _ _ (by omega)]; exact hc25
  have hc0 : cs50 269 = .inr (12, [.int 0, .ref (gA G 270), .ref (gA G 271), .ref (gA G 272), .ref (gA G 273), .ref (gA G 274), .ref (gA G 275), .ref (gA G 276), .ref (gA G 277), .ref (gA G 278), .int 0, .int 0, .int 0, .int 0, .int 0, .long 0, .int 0, .int 0, .int 0, .ref (gA G 279), .ref (gA G 280), .int 0, .int 0, .int 0, .int 0, .int 0, .int 0, .int 0, .int 0, .int 0, .int 0, .ref (gA G 281), .ref (gA G 282), .ref (gA G 283), .ref (gA G 284), .ref (gA G 285), .ref (gA G 286), .ref (gA G 287), .ref (gA G 288), .ref (gA G 289), .ref (gA G 290), .ref (gA G 291), .ref (gA G 292), .ref (gA G 293), .ref (gA G 294), .null, .null, .null, .null, .null, .null, .null, .null, .null, .int 0, .int 0, .int 0, .int 0, .int 0, .int 0, .null, .null, .int 0, .int 0, .int 0, .int 0, .int 0, .null, .null, .int 0, .null, .int 0, .int 0, .null, .null, .null, .int 0, .int 0, .int 0, .int 0, .int 0, .int 0, .null, .int 0, .int 0, .int 0, .int 0, .int 0, .int 0, .int 0, .int 0, .null]) := by rw [e50]; exact va_up_self _ _ _
  have hlo : ∀ n, n < 269 → cs50 n = cs n := fun n a => by rw [e50, va_up_ne _ _ (by omega)]; exact hlo n a
  clear e50
  refine ry_aload_n 0 dX12_init_199 rfl rfl ?_
  refine ry_bipush (v := 64) dX12_init_200 rfl ?_
  refine ry_newa (κ := 14) (n := 64) (atype := .int) (ty := .int) (t0 := 1) rfl wa_int rfl (fun _ _ => Iff.rfl) rfl (by decide) rfl (by decide) (by decide) (by decide) dX12_init_202 ?_
  refine ry_cs (fun cs51 e51 => ?_)
  have hc0 : cs51 269 = .inr (12, [.int 0, .ref (gA G 270), .ref (gA G 271), .ref (gA G 272), .ref (gA G 273), .ref (gA G 274), .ref (gA G 275), .ref (gA G 276), .ref (gA G 277), .ref (gA G 278), .int 0, .int 0, .int 0, .int 0, .int 0, .long 0, .int 0, .int 0, .int 0, .ref (gA G 279), .ref (gA G 280), .int 0, .int 0, .int 0, .int 0, .int 0, .int 0, .int 0, .int 0, .int 0, .int 0, .ref (gA G 281), .ref (gA G 282), .ref (gA G 283), .ref (gA G 284), .ref (gA G 285), .ref (gA G 286), .ref (gA G 287), .ref (gA G 288), .ref (gA G 289), .ref (gA G 290), .ref (gA G 291), .ref (gA G 292), .ref (gA G 293), .ref (gA G 294), .null, .null, .null, .null, .null, .null, .null, .null, .null, .int 0, .int 0, .int 0, .int 0, .int 0, .int 0, .null, .null, .int 0, .int 0, .int 0, .int 0, .int 0, .null, .null, .int 0, .null, .int 0, .int 0, .null, .null, .null, .int 0, .int 0, .int 0, .int 0, .int 0, .int 0, .null, .int 0, .int 0, .int 0, .int 0, .int 0, .int 0, .int 0, .int 0, .null]) := by rw [e51, va_up_ne _ _ (by omega)]; exact hc0
  have hc1 : cs51 270 = .inl (gY G 13, 2400, .inl (fun _ => 0)) := by rw [e51, va_up_ne _ _ (by omega)]; exact hc1
  have hc2 : cs51 271 = .inl (gY G 14, 4, .inl (fun _ => 0)) := by rw [e51, va_up_ne _ _ (by omega)]; exact hc2
  have hc3 : cs51 272 = .inl (gY G 14, 4, .inl (fun _ => 0)) := by rw [e51, va_up_ne _ _ (by omega)]; exact hc3
  have hc4 : cs51 273 = .inl (gY G 14, 4, .inl (fun _ => 0)) := by rw [e51, va_up_ne _ _ (by omega)]; exact hc4
  have hc5 : cs51 274 = .inl (gY G 14, 16, .inl (fun _ => 0)) := by rw [e51, va_up_ne _ _ (by omega)]; exact hc5
  have hc6 : cs51 275 = .inl (gY G 14, 104, .inl (fun _ => 0)) := by rw [e51, va_up_ne _ _ (by omega)]; exact hc6
  have hc7 : cs51 276 = .inl (gY G 14, 1072, .inl (fun _ => 0)) := by rw [e51, va_up_ne _ _ (by omega)]; exact hc7
  have hc8 : cs51 277 = .inl (gY G 14, 968, .inl (fun _ => 0)) := by rw [e51, va_up_ne _ _ (by omega)]; exact hc8
  have hc9 : cs51 278 = .inl (gY G 14, 136, .inl (fun _ => 0)) := by rw [e51, va_up_ne _ _ (by omega)]; exact hc9
  have hc10 : cs51 279 = .inl (gY G 14, 134, .inl (fun _ => 0)) := by rw [e51, va_up_ne _ _ (by omega)]; exact hc10
  have hc11 : cs51 280 = .inl (gY G 14, 3, .inl (fun _ => 0)) := by rw [e51, va_up_ne _ _ (by omega)]; exact hc11
  have hc12 : cs51 281 = .inl (gY G 14, 10, .inl (fun _ => 0)) := by rw [e51, va_up_ne _ _ (by omega)]; exact hc12
  have hc13 : cs51 282 = .inl (gY G 14, 10, .inl (fun _ => 0)) := by rw [e51, va_up_ne _ _ (by omega)]; exact hc13
  have hc14 : cs51 283 = .inl (gY G 14, 10, .inl (fun _ => 0)) := by rw [e51, va_up_ne _ _ (by omega)]; exact hc14
  have hc15 : cs51 284 = .inl (gY G 14, 10, .inl (fun _ => 0)) := by rw [e51, va_up_ne _ _ (by omega)]; exact hc15
  have hc16 : cs51 285 = .inl (gY G 14, 10, .inl (fun _ => 0)) := by rw [e51, va_up_ne _ _ (by omega)]; exact hc16
  have hc17 : cs51 286 = .inl (gY G 14, 4, .inl (fun _ => 0)) := by rw [e51, va_up_ne _ _ (by omega)]; exact hc17
  have hc18 : cs51 287 = .inl (gY G 14, 4, .inl (fun _ => 0)) := by rw [e51, va_up_ne _ _ (by omega)]; exact hc18
  have hc19 : cs51 288 = .inl (gY G 14, 4, .inl (fun _ => 0)) := by rw [e51, va_up_ne _ _ (by omega)]; exact hc19
  have hc20 : cs51 289 = .inl (gY G 14, 4, .inl (fun _ => 0)) := by rw [e51, va_up_ne _ _ (by omega)]; exact hc20
  have hc21 : cs51 290 = .inl (gY G 14, 4, .inl (fun _ => 0)) := by rw [e51, va_up_ne _ _ (by omega)]; exact hc21
  have hc22 : cs51 291 = .inl (gY G 14, 4, .inl (fun _ => 0)) := by rw [e51, va_up_ne _ _ (by omega)]; exact hc22
  have hc23 : cs51 292 = .inl (gY G 14, 40, .inl (fun _ => 0)) := by rw [e51, va_up_ne _ _ (by omega)]; exact hc23
  have hc24 : cs51 293 = .inl (gY G 14, 40, .inl (fun _ => 0)) := by rw [e51, va_up_ne _ _ (by omega)]; exact hc24
  have hc25 : cs51 294 = .inl (gY G 14, 40, .inl (fun _ => 0)) := by rw [e51, va_up_ne _ _ (by omega)]; exact hc25
  have hc26 : cs51 295 = .inl (gY G 14, 64, .inl (fun _ => 0)) := by rw [e51]; exact va_up_self _ _ _
  have hlo : ∀ n, n < 269 → cs51 n = cs n := fun n a => by rw [e51, va_up_ne _ _ (by omega)]; exact hlo n a
  clear e51
  refine ry_putF ff_X12_86 rfl (by omega) hc0 rfl rfl (by decide) dX12_init_204 ?_
  refine ry_cs (fun cs52 e52 => ?_)
  have hc1 : cs52 270 = .inl (gY G 13, 2400, .inl (fun _ => 0)) := by rw [e52, va_up_ne _ _ (by omega)]; exact hc1
  have hc2 : cs52 271 = .inl (gY G 14, 4, .inl (fun _ => 0)) := by rw [e52, va_up_ne _ _ (by omega)]; exact hc2
  have hc3 : cs52 272 = .inl (gY G 14, 4, .inl (fun _ => 0)) := by rw [e52, va_up_ne _ _ (by omega)]; exact hc3
  have hc4 : cs52 273 = .inl (gY G 14, 4, .inl (fun _ => 0)) := by rw [e52, va_up_ne _ _ (by omega)]; exact hc4
  have hc5 : cs52 274 = .inl (gY G 14, 16, .inl (fun _ => 0)) := by rw [e52, va_up_ne _ _ (by omega)]; exact hc5
  have hc6 : cs52 275 = .inl (gY G 14, 104, .inl (fun _ => 0)) := by rw [e52, va_up_ne _ _ (by omega)]; exact hc6
  have hc7 : cs52 276 = .inl (gY G 14, 1072, .inl (fun _ => 0)) := by rw [e52, va_up_ne _ _ (by omega)]; exact hc7
  have hc8 : cs52 277 = .inl (gY G 14, 968, .inl (fun _ => 0)) := by rw [e52, va_up_ne _ _ (by omega)]; exact hc8
  have hc9 : cs52 278 = .inl (gY G 14, 136, .inl (fun _ => 0)) := by rw [e52, va_up_ne _ _ (by omega)]; exact hc9
  have hc10 : cs52 279 = .inl (gY G 14, 134, .inl (fun _ => 0)) := by rw [e52, va_up_ne _ _ (by omega)]; exact hc10
  have hc11 : cs52 280 = .inl (gY G 14, 3, .inl (fun _ => 0)) := by rw [e52, va_up_ne _ _ (by omega)]; exact hc11
  have hc12 : cs52 281 = .inl (gY G 14, 10, .inl (fun _ => 0)) := by rw [e52, va_up_ne _ _ (by omega)]; exact hc12
  have hc13 : cs52 282 = .inl (gY G 14, 10, .inl (fun _ => 0)) := by rw [e52, va_up_ne _ _ (by omega)]; exact hc13
  have hc14 : cs52 283 = .inl (gY G 14, 10, .inl (fun _ => 0)) := by rw [e52, va_up_ne _ _ (by omega)]; exact hc14
  have hc15 : cs52 284 = .inl (gY G 14, 10, .inl (fun _ => 0)) := by rw [e52, va_up_ne _ _ (by omega)]; exact hc15
  have hc16 : cs52 285 = .inl (gY G 14, 10, .inl (fun _ => 0)) := by rw [e52, va_up_ne _ _ (by omega)]; exact hc16
  have hc17 : cs52 286 = .inl (gY G 14, 4, .inl (fun _ => 0)) := by rw [e52, va_up_ne _ _ (by omega)]; exact hc17
  have hc18 : cs52 287 = .inl (gY G 14, 4, .inl (fun _ => 0)) := by rw [e52, va_up_ne _ _ (by omega)]; exact hc18
  have hc19 : cs52 288 = .inl (gY G 14, 4, .inl (fun _ => 0)) := by rw [e52, va_up_ne _ _ (by omega)]; exact hc19
  have hc20 : cs52 289 = .inl (gY G 14, 4, .inl (fun _ => 0)) := by rw [e52, va_up_ne _ _ (by omega)]; exact hc20
  have hc21 : cs52 290 = .inl (gY G 14, 4, .inl (fun _ => 0)) := by rw [e52, va_up_ne _ _ (by omega)]; exact hc21
  have hc22 : cs52 291 = .inl (gY G 14, 4, .inl (fun _ => 0)) := by rw [e52, va_up_ne _ _ (by omega)]; exact hc22
  have hc23 : cs52 292 = .inl (gY G 14, 40, .inl (fun _ => 0)) := by rw [e52, va_up_ne _ _ (by omega)]; exact hc23
  have hc24 : cs52 293 = .inl (gY G 14, 40, .inl (fun _ => 0)) := by rw [e52, va_up_ne _ _ (by omega)]; exact hc24
  have hc25 : cs52 294 = .inl (gY G 14, 40, .inl (fun _ => 0)) := by rw [e52, va_up_ne _ _ (by omega)]; exact hc25
  have hc26 : cs52 295 = .inl (gY G 14, 64, .inl (fun _ => 0)) := by rw [e52, va_up_ne _ _ (by omega)]; exact hc26
  have hc0 : cs52 269 = .inr (12, [.int 0, .ref (gA G 270), .ref (gA G 271), .ref (gA G 272), .ref (gA G 273), .ref (gA G 274), .ref (gA G 275), .ref (gA G 276), .ref (gA G 277), .ref (gA G 278), .int 0, .int 0, .int 0, .int 0, .int 0, .long 0, .int 0, .int 0, .int 0, .ref (gA G 279), .ref (gA G 280), .int 0, .int 0, .int 0, .int 0, .int 0, .int 0, .int 0, .int 0, .int 0, .int 0, .ref (gA G 281), .ref (gA G 282), .ref (gA G 283), .ref (gA G 284), .ref (gA G 285), .ref (gA G 286), .ref (gA G 287), .ref (gA G 288), .ref (gA G 289), .ref (gA G 290), .ref (gA G 291), .ref (gA G 292), .ref (gA G 293), .ref (gA G 294), .ref (gA G 295), .null, .null, .null, .null, .null, .null, .null, .null, .int 0, .int 0, .int 0, .int 0, .int 0, .int 0, .null, .null, .int 0, .int 0, .int 0, .int 0, .int 0, .null, .null, .int 0, .null, .int 0, .int 0, .null, .null, .null, .int 0, .int 0, .int 0, .int 0, .int 0, .int 0, .null, .int 0, .int 0, .int 0, .int 0, .int 0, .int 0, .int 0, .int 0, .null]) := by rw [e52]; exact va_up_self _ _ _
  have hlo : ∀ n, n < 269 → cs52 n = cs n := fun n a => by rw [e52, va_up_ne _ _ (by omega)]; exact hlo n a
  clear e52
  refine ry_aload_n 0 dX12_init_207 rfl rfl ?_
  refine ry_bipush (v := 64) dX12_init_208 rfl ?_
  refine ry_newa (κ := 14) (n := 64) (atype := .int) (ty := .int) (t0 := 1) rfl wa_int rfl (fun _ _ => Iff.rfl) rfl (by decide) rfl (by decide) (by decide) (by decide) dX12_init_210 ?_
  refine ry_cs (fun cs53 e53 => ?_)
  have hc0 : cs53 269 = .inr (12, [.int 0, .ref (gA G 270), .ref (gA G 271), .ref (gA G 272), .ref (gA G 273), .ref (gA G 274), .ref (gA G 275), .ref (gA G 276), .ref (gA G 277), .ref (gA G 278), .int 0, .int 0, .int 0, .int 0, .int 0, .long 0, .int 0, .int 0, .int 0, .ref (gA G 279), .ref (gA G 280), .int 0, .int 0, .int 0, .int 0, .int 0, .int 0, .int 0, .int 0, .int 0, .int 0, .ref (gA G 281), .ref (gA G 282), .ref (gA G 283), .ref (gA G 284), .ref (gA G 285), .ref (gA G 286), .ref (gA G 287), .ref (gA G 288), .ref (gA G 289), .ref (gA G 290), .ref (gA G 291), .ref (gA G 292), .ref (gA G 293), .ref (gA G 294), .ref (gA G 295), .null, .null, .null, .null, .null, .null, .null, .null, .int 0, .int 0, .int 0, .int 0, .int 0, .int 0, .null, .null, .int 0, .int 0, .int 0, .int 0, .int 0, .null, .null, .int 0, .null, .int 0, .int 0, .null, .null, .null, .int 0, .int 0, .int 0, .int 0, .int 0, .int 0, .null, .int 0, .int 0, .int 0, .int 0, .int 0, .int 0, .int 0, .int 0, .null]) := by rw [e53, va_up_ne _ _ (by omega)]; exact hc0
  have hc1 : cs53 270 = .inl (gY G 13, 2400, .inl (fun _ => 0)) := by rw [e53, va_up_ne _ _ (by omega)]; exact hc1
  have hc2 : cs53 271 = .inl (gY G 14, 4, .inl (fun _ => 0)) := by rw [e53, va_up_ne _ _ (by omega)]; exact hc2
  have hc3 : cs53 272 = .inl (gY G 14, 4, .inl (fun _ => 0)) := by rw [e53, va_up_ne _ _ (by omega)]; exact hc3
  have hc4 : cs53 273 = .inl (gY G 14, 4, .inl (fun _ => 0)) := by rw [e53, va_up_ne _ _ (by omega)]; exact hc4
  have hc5 : cs53 274 = .inl (gY G 14, 16, .inl (fun _ => 0)) := by rw [e53, va_up_ne _ _ (by omega)]; exact hc5
  have hc6 : cs53 275 = .inl (gY G 14, 104, .inl (fun _ => 0)) := by rw [e53, va_up_ne _ _ (by omega)]; exact hc6
  have hc7 : cs53 276 = .inl (gY G 14, 1072, .inl (fun _ => 0)) := by rw [e53, va_up_ne _ _ (by omega)]; exact hc7
  have hc8 : cs53 277 = .inl (gY G 14, 968, .inl (fun _ => 0)) := by rw [e53, va_up_ne _ _ (by omega)]; exact hc8
  have hc9 : cs53 278 = .inl (gY G 14, 136, .inl (fun _ => 0)) := by rw [e53, va_up_ne _ _ (by omega)]; exact hc9
  have hc10 : cs53 279 = .inl (gY G 14, 134, .inl (fun _ => 0)) := by rw [e53, va_up_ne _ _ (by omega)]; exact hc10
  have hc11 : cs53 280 = .inl (gY G 14, 3, .inl (fun _ => 0)) := by rw [e53, va_up_ne _ _ (by omega)]; exact hc11
  have hc12 : cs53 281 = .inl (gY G 14, 10, .inl (fun _ => 0)) := by rw [e53, va_up_ne _ _ (by omega)]; exact hc12
  have hc13 : cs53 282 = .inl (gY G 14, 10, .inl (fun _ => 0)) := by rw [e53, va_up_ne _ _ (by omega)]; exact hc13
  have hc14 : cs53 283 = .inl (gY G 14, 10, .inl (fun _ => 0)) := by rw [e53, va_up_ne _ _ (by omega)]; exact hc14
  have hc15 : cs53 284 = .inl (gY G 14, 10, .inl (fun _ => 0)) := by rw [e53, va_up_ne _ _ (by omega)]; exact hc15
  have hc16 : cs53 285 = .inl (gY G 14, 10, .inl (fun _ => 0)) := by rw [e53, va_up_ne _ _ (by omega)]; exact hc16
  have hc17 : cs53 286 = .inl (gY G 14, 4, .inl (fun _ => 0)) := by rw [e53, va_up_ne _ _ (by omega)]; exact hc17
  have hc18 : cs53 287 = .inl (gY G 14, 4, .inl (fun _ => 0)) := by rw [e53, va_up_ne _ _ (by omega)]; exact hc18
  have hc19 : cs53 288 = .inl (gY G 14, 4, .inl (fun _ => 0)) := by rw [e53, va_up_ne _ _ (by omega)]; exact hc19
  have hc20 : cs53 289 = .inl (gY G 14, 4, .inl (fun _ => 0)) := by rw [e53, va_up_ne _ _ (by omega)]; exact hc20
  have hc21 : cs53 290 = .inl (gY G 14, 4, .inl (fun _ => 0)) := by rw [e53, va_up_ne _ _ (by omega)]; exact hc21
  have hc22 : cs53 291 = .inl (gY G 14, 4, .inl (fun _ => 0)) := by rw [e53, va_up_ne _ _ (by omega)]; exact hc22
  have hc23 : cs53 292 = .inl (gY G 14, 40, .inl (fun _ => 0)) := by rw [e53, va_up_ne _ _ (by omega)]; exact hc23
  have hc24 : cs53 293 = .inl (gY G 14, 40, .inl (fun _ => 0)) := by rw [e53, va_up_ne _ _ (by omega)]; exact hc24
  have hc25 : cs53 294 = .inl (gY G 14, 40, .inl (fun _ => 0)) := by rw [e53, va_up_ne _ _ (by omega)]; exact hc25
  have hc26 : cs53 295 = .inl (gY G 14, 64, .inl (fun _ => 0)) := by rw [e53, va_up_ne _ _ (by omega)]; exact hc26
  have hc27 : cs53 296 = .inl (gY G 14, 64, .inl (fun _ => 0)) := by rw [e53]; exact va_up_self _ _ _
  have hlo : ∀ n, n < 269 → cs53 n = cs n := fun n a => by rw [e53, va_up_ne _ _ (by omega)]; exact hlo n a
  clear e53
  refine ry_putF ff_X12_89 rfl (by omega) hc0 rfl rfl (by decide) dX12_init_212 ?_
  refine ry_cs (fun cs54 e54 => ?_)
  have hc1 : cs54 270 = .inl (gY G 13, 2400, .inl (fun _ => 0)) := by rw [e54, va_up_ne _ _ (by omega)]; exact hc1
  have hc2 : cs54 271 = .inl (gY G 14, 4, .inl (fun _ => 0)) := by rw [e54, va_up_ne _ _ (by omega)]; exact hc2
  have hc3 : cs54 272 = .inl (gY G 14, 4, .inl (fun _ => 0)) := by rw [e54, va_up_ne _ _ (by omega)]; exact hc3
  have hc4 : cs54 273 = .inl (gY G 14, 4, .inl (fun _ => 0)) := by rw [e54, va_up_ne _ _ (by omega)]; exact hc4
  have hc5 : cs54 274 = .inl (gY G 14, 16, .inl (fun _ => 0)) := by rw [e54, va_up_ne _ _ (by omega)]; exact hc5
  have hc6 : cs54 275 = .inl (gY G 14, 104, .inl (fun _ => 0)) := by rw [e54, va_up_ne _ _ (by omega)]; exact hc6
  have hc7 : cs54 276 = .inl (gY G 14, 1072, .inl (fun _ => 0)) := by rw [e54, va_up_ne _ _ (by omega)]; exact hc7
  have hc8 : cs54 277 = .inl (gY G 14, 968, .inl (fun _ => 0)) := by rw [e54, va_up_ne _ _ (by omega)]; exact hc8
  have hc9 : cs54 278 = .inl (gY G 14, 136, .inl (fun _ => 0)) := by rw [e54, va_up_ne _ _ (by omega)]; exact hc9
  have hc10 : cs54 279 = .inl (gY G 14, 134, .inl (fun _ => 0)) := by rw [e54, va_up_ne _ _ (by omega)]; exact hc10
  have hc11 : cs54 280 = .inl (gY G 14, 3, .inl (fun _ => 0)) := by rw [e54, va_up_ne _ _ (by omega)]; exact hc11
  have hc12 : cs54 281 = .inl (gY G 14, 10, .inl (fun _ => 0)) := by rw [e54, va_up_ne _ _ (by omega)]; exact hc12
  have hc13 : cs54 282 = .inl (gY G 14, 10, .inl (fun _ => 0)) := by rw [e54, va_up_ne _ _ (by omega)]; exact hc13
  have hc14 : cs54 283 = .inl (gY G 14, 10, .inl (fun _ => 0)) := by rw [e54, va_up_ne _ _ (by omega)]; exact hc14
  have hc15 : cs54 284 = .inl (gY G 14, 10, .inl (fun _ => 0)) := by rw [e54, va_up_ne _ _ (by omega)]; exact hc15
  have hc16 : cs54 285 = .inl (gY G 14, 10, .inl (fun _ => 0)) := by rw [e54, va_up_ne _ _ (by omega)]; exact hc16
  have hc17 : cs54 286 = .inl (gY G 14, 4, .inl (fun _ => 0)) := by rw [e54, va_up_ne _ _ (by omega)]; exact hc17
  have hc18 : cs54 287 = .inl (gY G 14, 4, .inl (fun _ => 0)) := by rw [e54, va_up_ne _ _ (by omega)]; exact hc18
  have hc19 : cs54 288 = .inl (gY G 14, 4, .inl (fun _ => 0)) := by rw [e54, va_up_ne _ _ (by omega)]; exact hc19
  have hc20 : cs54 289 = .inl (gY G 14, 4, .inl (fun _ => 0)) := by rw [e54, va_up_ne _ _ (by omega)]; exact hc20
  have hc21 : cs54 290 = .inl (gY G 14, 4, .inl (fun _ => 0)) := by rw [e54, va_up_ne _ _ (by omega)]; exact hc21
  have hc22 : cs54 291 = .inl (gY G 14, 4, .inl (fun _ => 0)) := by rw [e54, va_up_ne _ _ (by omega)]; exact hc22
  have hc23 : cs54 292 = .inl (gY G 14, 40, .inl (fun _ => 0)) := by rw [e54, va_up_ne _ _ (by omega)]; exact hc23
  have hc24 : cs54 293 = .inl (gY G 14, 40, .inl (fun _ => 0)) := by rw [e54, va_up_ne _ _ (by omega)]; exact hc24
  have hc25 : cs54 294 = .inl (gY G 14, 40, .inl (fun _ => 0)) := by rw [e54, va_up_ne _ _ (by omega)]; exact hc25
  have hc26 : cs54 295 = .inl (gY G 14, 64, .inl (fun _ => 0)) := by rw [e54, va_up_ne _ _ (by omega)]; exact hc26
  have hc27 : cs54 296 = .inl (gY G 14, 64, .inl (fun _ => 0)) := by rw [e54, va_up_ne _ _ (by omega)]; exact hc27
  have hc0 : cs54 269 = .inr (12, [.int 0, .ref (gA G 270), .ref (gA G 271), .ref (gA G 272), .ref (gA G 273), .ref (gA G 274), .ref (gA G 275), .ref (gA G 276), .ref (gA G 277), .ref (gA G 278), .int 0, .int 0, .int 0, .int 0, .int 0, .long 0, .int 0, .int 0, .int 0, .ref (gA G 279), .ref (gA G 280), .int 0, .int 0, .int 0, .int 0, .int 0, .int 0, .int 0, .int 0, .int 0, .int 0, .ref (gA G 281), .ref (gA G 282), .ref (gA G 283), .ref (gA G 284), .ref (gA G 285), .ref (gA G 286), .ref (gA G 287), .ref (gA G 288), .ref (gA G 289), .ref (gA G 290), .ref (gA G 291), .ref (gA G 292), .ref (gA G 293), .ref (gA G 294), .ref (gA G 295), .ref (gA G 296), .null, .null, .null, .null, .null, .null, .null, .int 0, .int 0, .int 0, .int 0, .int 0, .int 0, .null, .null, .int 0, .int 0, .int 0, .int 0, .int 0, .null, .null, .int 0, .null, .int 0, .int 0, .null, .null, .null, .int 0, .int 0, .int 0, .int 0, .int 0, .int 0, .null, .int 0, .int 0, .int 0, .int 0, .int 0, .int 0, .int 0, .int 0, .null]) := by rw [e54]; exact va_up_self _ _ _
  have hlo : ∀ n, n < 269 → cs54 n = cs n := fun n a => by rw [e54, va_up_ne _ _ (by omega)]; exact hlo n a
  clear e54
  refine ry_aload_n 0 dX12_init_215 rfl rfl ?_
  refine ry_bipush (v := 64) dX12_init_216 rfl ?_
  refine ry_newa (κ := 14) (n := 64) (atype := .int) (ty := .int) (t0 := 1) rfl wa_int rfl (fun _ _ => Iff.rfl) rfl (by decide) rfl (by decide) (by decide) (by decide) dX12_init_218 ?_
  refine ry_cs (fun cs55 e55 => ?_)
  have hc0 : cs55 269 = .inr (12, [.int 0, .ref (gA G 270), .ref (gA G 271), .ref (gA G 272), .ref (gA G 273), .ref (gA G 274), .ref (gA G 275), .ref (gA G 276), .ref (gA G 277), .ref (gA G 278), .int 0, .int 0, .int 0, .int 0, .int 0, .long 0, .int 0, .int 0, .int 0, .ref (gA G 279), .ref (gA G 280), .int 0, .int 0, .int 0, .int 0, .int 0, .int 0, .int 0, .int 0, .int 0, .int 0, .ref (gA G 281), .ref (gA G 282), .ref (gA G 283), .ref (gA G 284), .ref (gA G 285), .ref (gA G 286), .ref (gA G 287), .ref (gA G 288), .ref (gA G 289), .ref (gA G 290), .ref (gA G 291), .ref (gA G 292), .ref (gA G 293), .ref (gA G 294), .ref (gA G 295), .ref (gA G 296), .null, .null, .null, .null, .null, .null, .null, .int 0, .int 0, .int 0, .int 0, .int 0, .int 0, .null, .null, .int 0, .int 0, .int 0, .int 0, .int 0, .null, .null, .int 0, .null, .int 0, .int 0, .null, .null, .null, .int 0, .int 0, .int 0, .int 0, .int 0, .int 0, .null, .int 0, .int 0, .int 0, .int 0, .int 0, .int 0, .int 0, .int 0, .null]) := by rw [e55, va_up_ne _ _ (by omega)]; exact hc0
  have hc1 : cs55 270 = .inl (gY G 13, 2400, .inl (fun _ => 0)) := by rw [e55, va_up_ne _ _ (by omega)]; exact hc1
  have hc2 : cs55 271 = .inl (gY G 14, 4, .inl (fun _ => 0)) := by rw [e55, va_up_ne _ _ (by omega)]; exact hc2
  have hc3 : cs55 272 = .inl (gY G 14, 4, .inl (fun _ => 0)) := by rw [e55, va_up_ne _ _ (by omega)]; exact hc3
  have hc4 : cs55 273 = .inl (gY G 14, 4, .inl (fun _ => 0)) := by rw [e55, va_up_ne _ _ (by omega)]; exact hc4
  have hc5 : cs55 274 = .inl (gY G 14, 16, .inl (fun _ => 0)) := by rw [e55, va_up_ne _ _ (by omega)]; exact hc5
  have hc6 : cs55 275 = .inl (gY G 14, 104, .inl (fun _ => 0)) := by rw [e55, va_up_ne _ _ (by omega)]; exact hc6
  have hc7 : cs55 276 = .inl (gY G 14, 1072, .inl (fun _ => 0)) := by rw [e55, va_up_ne _ _ (by omega)]; exact hc7
  have hc8 : cs55 277 = .inl (gY G 14, 968, .inl (fun _ => 0)) := by rw [e55, va_up_ne _ _ (by omega)]; exact hc8
  have hc9 : cs55 278 = .inl (gY G 14, 136, .inl (fun _ => 0)) := by rw [e55, va_up_ne _ _ (by omega)]; exact hc9
  have hc10 : cs55 279 = .inl (gY G 14, 134, .inl (fun _ => 0)) := by rw [e55, va_up_ne _ _ (by omega)]; exact hc10
  have hc11 : cs55 280 = .inl (gY G 14, 3, .inl (fun _ => 0)) := by rw [e55, va_up_ne _ _ (by omega)]; exact hc11
  have hc12 : cs55 281 = .inl (gY G 14, 10, .inl (fun _ => 0)) := by rw [e55, va_up_ne _ _ (by omega)]; exact hc12
  have hc13 : cs55 282 = .inl (gY G 14, 10, .inl (fun _ => 0)) := by rw [e55, va_up_ne _ _ (by omega)]; exact hc13
  have hc14 : cs55 283 = .inl (gY G 14, 10, .inl (fun _ => 0)) := by rw [e55, va_up_ne _ _ (by omega)]; exact hc14
  have hc15 : cs55 284 = .inl (gY G 14, 10, .inl (fun _ => 0)) := by rw [e55, va_up_ne _ _ (by omega)]; exact hc15
  have hc16 : cs55 285 = .inl (gY G 14, 10, .inl (fun _ => 0)) := by rw [e55, va_up_ne _ _ (by omega)]; exact hc16
  have hc17 : cs55 286 = .inl (gY G 14, 4, .inl (fun _ => 0)) := by rw [e55, va_up_ne _ _ (by omega)]; exact hc17
  have hc18 : cs55 287 = .inl (gY G 14, 4, .inl (fun _ => 0)) := by rw [e55, va_up_ne _ _ (by omega)]; exact hc18
  have hc19 : cs55 288 = .inl (gY G 14, 4, .inl (fun _ => 0)) := by rw [e55, va_up_ne _ _ (by omega)]; exact hc19
  have hc20 : cs55 289 = .inl (gY G 14, 4, .inl (fun _ => 0)) := by rw [e55, va_up_ne _ _ (by omega)]; exact hc20
  have hc21 : cs55 290 = .inl (gY G 14, 4, .inl (fun _ => 0)) := by rw [e55, va_up_ne _ _ (by omega)]; exact hc21
  have hc22 : cs55 291 = .inl (gY G 14, 4, .inl (fun _ => 0)) := by rw [e55, va_up_ne _ _ (by omega)]; exact hc22
  have hc23 : cs55 292 = .inl (gY G 14, 40, .inl (fun _ => 0)) := by rw [e55, va_up_ne _ _ (by omega)]; exact hc23
  have hc24 : cs55 293 = .inl (gY G 14, 40, .inl (fun _ => 0)) := by rw [e55, va_up_ne _ _ (by omega)]; exact hc24
  have hc25 : cs55 294 = .inl (gY G 14, 40, .inl (fun _ => 0)) := by rw [e55, va_up_ne _ _ (by omega)]; exact hc25
  have hc26 : cs55 295 = .inl (gY G 14, 64, .inl (fun _ => 0)) := by rw [e55, va_up_ne _ _ (by omega)]; exact hc26
  have hc27 : cs55 296 = .inl (gY G 14, 64, .inl (fun _ => 0)) := by rw [e55, va_up_ne _ _ (by omega)]; exact hc27
  have hc28 : cs55 297 = .inl (gY G 14, 64, .inl (fun _ => 0)) := by rw [e55]; exact va_up_self _ _ _
  have hlo : ∀ n, n < 269 → cs55 n = cs n := fun n a => by rw [e55, va_up_ne _ _ (by omega)]; exact hlo n a
  clear e55
  refine ry_putF ff_X12_92 rfl (by omega) hc0 rfl rfl (by decide) dX12_init_220 ?_
  refine ry_cs (fun cs56 e56 => ?_)
  have hc1 : cs56 270 = .inl (gY G 13, 2400, .inl (fun _ => 0)) := by rw [e56, va_up_ne _ _ (by omega)]; exact hc1
  have hc2 : cs56 271 = .inl (gY G 14, 4, .inl (fun _ => 0)) := by rw [e56, va_up_ne _ _ (by omega)]; exact hc2
  have hc3 : cs56 272 = .inl (gY G 14, 4, .inl (fun _ => 0)) := by rw [e56, va_up_ne _ _ (by omega)]; exact hc3
  have hc4 : cs56 273 = .inl (gY G 14, 4, .inl (fun _ => 0)) := by rw [e56, va_up_ne _ _ (by omega)]; exact hc4
  have hc5 : cs56 274 = .inl (gY G 14, 16, .inl (fun _ => 0)) := by rw [e56, va_up_ne _ _ (by omega)]; exact hc5
  have hc6 : cs56 275 = .inl (gY G 14, 104, .inl (fun _ => 0)) := by rw [e56, va_up_ne _ _ (by omega)]; exact hc6
  have hc7 : cs56 276 = .inl (gY G 14, 1072, .inl (fun _ => 0)) := by rw [e56, va_up_ne _ _ (by omega)]; exact hc7
  have hc8 : cs56 277 = .inl (gY G 14, 968, .inl (fun _ => 0)) := by rw [e56, va_up_ne _ _ (by omega)]; exact hc8
  have hc9 : cs56 278 = .inl (gY G 14, 136, .inl (fun _ => 0)) := by rw [e56, va_up_ne _ _ (by omega)]; exact hc9
  have hc10 : cs56 279 = .inl (gY G 14, 134, .inl (fun _ => 0)) := by rw [e56, va_up_ne _ _ (by omega)]; exact hc10
  have hc11 : cs56 280 = .inl (gY G 14, 3, .inl (fun _ => 0)) := by rw [e56, va_up_ne _ _ (by omega)]; exact hc11
  have hc12 : cs56 281 = .inl (gY G 14, 10, .inl (fun _ => 0)) := by rw [e56, va_up_ne _ _ (by omega)]; exact hc12
  have hc13 : cs56 282 = .inl (gY G 14, 10, .inl (fun _ => 0)) := by rw [e56, va_up_ne _ _ (by omega)]; exact hc13
  have hc14 : cs56 283 = .inl (gY G 14, 10, .inl (fun _ => 0)) := by rw [e56, va_up_ne _ _ (by omega)]; exact hc14
  have hc15 : cs56 284 = .inl (gY G 14, 10, .inl (fun _ => 0)) := by rw [e56, va_up_ne _ _ (by omega)]; exact hc15
  have hc16 : cs56 285 = .inl (gY G 14, 10, .inl (fun _ => 0)) := by rw [e56, va_up_ne _ _ (by omega)]; exact hc16
  have hc17 : cs56 286 = .inl (gY G 14, 4, .inl (fun _ => 0)) := by rw [e56, va_up_ne _ _ (by omega)]; exact hc17
  have hc18 : cs56 287 = .inl (gY G 14, 4, .inl (fun _ => 0)) := by rw [e56, va_up_ne _ _ (by omega)]; exact hc18
  have hc19 : cs56 288 = .inl (gY G 14, 4, .inl (fun _ => 0)) := by rw [e56, va_up_ne _ _ (by omega)]; exact hc19
  have hc20 : cs56 289 = .inl (gY G 14, 4, .inl (fun _ => 0)) := by rw [e56, va_up_ne _ _ (by omega)]; exact hc20
  have hc21 : cs56 290 = .inl (gY G 14, 4, .inl (fun _ => 0)) := by rw [e56, va_up_ne _ _ (by omega)]; exact hc21
  have hc22 : cs56 291 = .inl (gY G 14, 4, .inl (fun _ => 0)) := by rw [e56, va_up_ne _ _ (by omega)]; exact hc22
  have hc23 : cs56 292 = .inl (gY G 14, 40, .inl (fun _ => 0)) := by rw [e56, va_up_ne _ _ (by omega)]; exact hc23
  have hc24 : cs56 293 = .inl (gY G 14, 40, .inl (fun _ => 0)) := by rw [e56, va_up_ne _ _ (by omega)]; exact hc24
  have hc25 : cs56 294 = .inl (gY G 14, 40, .inl (fun _ => 0)) := by rw [e56, va_up_ne _ _ (by omega)]; exact hc25
  have hc26 : cs56 295 = .inl (gY G 14, 64, .inl (fun _ => 0)) := by rw [e56, va_up_ne _ _ (by omega)]; exact hc26
  have hc27 : cs56 296 = .inl (gY G 14, 64, .inl (fun _ => 0)) := by rw [e56, va_up_ne _ _ (by omega)]; exact hc27
  have hc28 : cs56 297 = .inl (gY G 14, 64, .inl (fun _ => 0)) := by rw [e56, va_up_ne _ _ (by omega)]; exact hc28
  have hc0 : cs56 269 = .inr (12, [.int 0, .ref (gA G 270), .ref (gA G 271), .ref (gA G 272), .ref (gA G 273), .ref (gA G 274), .ref (gA G 275), .ref (gA G 276), .ref (gA G 277), .ref (gA G 278), .int 0, .int 0, .int 0, .int 0, .int 0, .long 0, .int 0, .int 0, .int 0, .ref (gA G 279), .ref (gA G 280), .int 0, .int 0, .int 0, .int 0, .int 0, .int 0, .int 0, .int 0, .int 0, .int 0, .ref (gA G 281), .ref (gA G 282), .ref (gA G 283), .ref (gA G 284), .ref (gA G 285), .ref (gA G 286), .ref (gA G 287), .ref (gA G 288), .ref (gA G 289), .ref (gA G 290), .ref (gA G 291), .ref (gA G 292), .ref (gA G 293), .ref (gA G 294), .ref (gA G 295), .ref (gA G 296), .ref (gA G 297), .null, .null, .null, .null, .null, .null, .int 0, .int 0, .int 0, .int 0, .int 0, .int 0, .null, .null, .int 0, .int 0, .int 0, .int 0, .int 0, .null, .null, .int 0, .null, .int 0, .int 0, .null, .null, .null, .int 0, .int 0, .int 0, .int 0, .int 0, .int 0, .null, .int 0, .int 0, .int 0, .int 0, .int 0, .int 0, .int 0, .int 0, .null]) := by rw [e56]; exact va_up_self _ _ _
  have hlo : ∀ n, n < 269 → cs56 n = cs n := fun n a => by rw [e56, va_up_ne _ _ (by omega)]; exact hlo n a
  clear e56
  refine ry_aload_n 0 dX12_init_223 rfl rfl ?_
  refine ry_bipush (v := 64) dX12_init_224 rfl ?_
  refine ry_newa (κ := 14) (n := 64) (atype := .int) (ty := .int) (t0 := 1) rfl wa_int rfl (fun _ _ => Iff.rfl) rfl (by decide) rfl (by decide) (by decide) (by decide) dX12_init_226 ?_
  refine ry_cs (fun cs57 e57 => ?_)
  have hc0 : cs57 269 = .inr (12, [.int 0, .ref (gA G 270), .ref (gA G 271), .ref (gA G 272), .ref (gA G 273), .ref (gA G 274), .ref (gA G 275), .ref (gA G 276), .ref (gA G 277), .ref (gA G 278), .int 0, .int 0, .int 0, .int 0, .int 0, .long 0, .int 0, .int 0, .int 0, .ref (gA G 279), .ref (gA G 280), .int 0, .int 0, .int 0, .int 0, .int 0, .int 0, .int 0, .int 0, .int 0, .int 0, .ref (gA G 281), .ref (gA G 282), .ref (gA G 283), .ref (gA G 284), .ref (gA G 285), .ref (gA G 286), .ref (gA G 287), .ref (gA G 288), .ref (gA G 289), .ref (gA G 290), .ref (gA G 291), .ref (gA G 292), .ref (gA G 293), .ref (gA G 294), .ref (gA G 295), .ref (gA G 296), .ref (gA G 297), .null, .null, .null, .null, .null, .null, .int 0, .int 0, .int 0, .int 0, .int 0, .int 0, .null, .null, .int 0, .int 0, .int 0, .int 0, .int 0, .null, .null, .int 0, .null, .int 0, .int 0, .null, .null, .null, .int 0, .int 0, .int 0, .int 0, .int 0, .int 0, .null, .int 0, .int 0, .int 0, .int 0, .int 0, .int 0, .int 0, .int 0, .null]) := by rw [e57, va_up_ne _ _ (by omega)]; exact hc0
  have hc1 : cs57 270 = .inl (gY G 13, 2400, .inl (fun _ => 0)) := by rw [e57, va_up_ne _ _ (by omega)]; exact hc1
  have hc2 : cs57 271 = .inl (gY G 14, 4, .inl (fun _ => 0)) := by rw [e57, va_up_ne _ _ (by omega)]; exact hc2
  have hc3 : cs57 272 = .inl (gY G 14, 4, .inl (fun _ => 0)) := by rw [e57, va_up_ne _ _ (by omega)]; exact hc3
  have hc4 : cs57 273 = .inl (gY G 14, 4, .inl (fun _ => 0)) := by rw [e57, va_up_ne _ _ (by omega)]; exact hc4
  have hc5 : cs57 274 = .inl (gY G 14, 16, .inl (fun _ => 0)) := by rw [e57, va_up_ne _ _ (by omega)]; exact hc5
  have hc6 : cs57 275 = .inl (gY G 14, 104, .inl (fun _ => 0)) := by rw [e57, va_up_ne _ _ (by omega)]; exact hc6
  have hc7 : cs57 276 = .inl (gY G 14, 1072, .inl (fun _ => 0)) := by rw [e57, va_up_ne _ _ (by omega)]; exact hc7
  have hc8 : cs57 277 = .inl (gY G 14, 968, .inl (fun _ => 0)) := by rw [e57, va_up_ne _ _ (by omega)]; exact hc8
  have hc9 : cs57 278 = .inl (gY G 14, 136, .inl (fun _ => 0)) := by rw [e57, va_up_ne _ _ (by omega)]; exact hc9
  have hc10 : cs57 279 = .inl (gY G 14, 134, .inl (fun _ => 0)) := by rw [e57, va_up_ne _ _ (by omega)]; exact hc10
  have hc11 : cs57 280 = .inl (gY G 14, 3, .inl (fun _ => 0)) := by rw [e57, va_up_ne _ _ (by omega)]; exact hc11
  have hc12 : cs57 281 = .inl (gY G 14, 10, .inl (fun _ => 0)) := by rw [e57, va_up_ne _ _ (by omega)]; exact hc12
  have hc13 : cs57 282 = .inl (gY G 14, 10, .inl (fun _ => 0)) := by rw [e57, va_up_ne _ _ (by omega)]; exact hc13
  have hc14 : cs57 283 = .inl (gY G 14, 10, .inl (fun _ => 0)) := by rw [e57, va_up_ne _ _ (by omega)]; exact hc14
  have hc15 : cs57 284 = .inl (gY G 14, 10, .inl (fun _ => 0)) := by rw [e57, va_up_ne _ _ (by omega)]; exact hc15
  have hc16 : cs57 285 = .inl (gY G 14, 10, .inl (fun _ => 0)) := by rw [e57, va_up_ne _ _ (by omega)]; exact hc16
  have hc17 : cs57 286 = .inl (gY G 14, 4, .inl (fun _ => 0)) := by rw [e57, va_up_ne _ _ (by omega)]; exact hc17
  have hc18 : cs57 287 = .inl (gY G 14, 4, .inl (fun _ => 0)) := by rw [e57, va_up_ne _ _ (by omega)]; exact hc18
  have hc19 : cs57 288 = .inl (gY G 14, 4, .inl (fun _ => 0)) := by rw [e57, va_up_ne _ _ (by omega)]; exact hc19
  have hc20 : cs57 289 = .inl (gY G 14, 4, .inl (fun _ => 0)) := by rw [e57, va_up_ne _ _ (by omega)]; exact hc20
  have hc21 : cs57 290 = .inl (gY G 14, 4, .inl (fun _ => 0)) := by rw [e57, va_up_ne _ _ (by omega)]; exact hc21
  have hc22 : cs57 291 = .inl (gY G 14, 4, .inl (fun _ => 0)) := by rw [e57, va_up_ne _ _ (by omega)]; exact hc22
  have hc23 : cs57 292 = .inl (gY G 14, 40, .inl (fun _ => 0)) := by rw [e57, va_up_ne _ _ (by omega)]; exact hc23
  have hc24 : cs57 293 = .inl (gY G 14, 40, .inl (fun _ => 0)) := by rw [e57, va_up_ne _ _ (by omega)]; exact hc24
  have hc25 : cs57 294 = .inl (gY G 14, 40, .inl (fun _ => 0)) := by rw [e57, va_up_ne _ _ (by omega)]; exact hc25
  have hc26 : cs57 295 = .inl (gY G 14, 64, .inl (fun _ => 0)) := by rw [e57, va_up_ne _ _ (by omega)]; exact hc26
  have hc27 : cs57 296 = .inl (gY G 14, 64, .inl (fun _ => 0)) := by rw [e57, va_up_ne _ _ (by omega)]; exact hc27
  have hc28 : cs57 297 = .inl (gY G 14, 64, .inl (fun _ => 0)) := by rw [e57, va_up_ne _ _ (by omega)]; exact hc28
  have hc29 : cs57 298 = .inl (gY G 14, 64, .inl (fun _ => 0)) := by rw [e57]; exact va_up_self _ _ _
  have hlo : ∀ n, n < 269 → cs57 n = cs n := fun n a => by rw [e57, va_up_ne _ _ (by omega)]; exact hlo n a
  clear e57
  refine ry_putF ff_X12_95 rfl (by omega) hc0 rfl rfl (by decide) dX12_init_228 ?_
  refine ry_cs (fun cs58 e58 => ?_)
  have hc1 : cs58 270 = .inl (gY G 13, 2400, .inl (fun _ => 0)) := by rw [e58, va_up_ne _ _ (by omega)]; exact hc1
  have hc2 : cs58 271 = .inl (gY G 14, 4, .inl (fun _ => 0)) := by rw [e58, va_up_ne _ _ (by omega)]; exact hc2
  have hc3 : cs58 272 = .inl (gY G 14, 4, .inl (fun _ => 0)) := by rw [e58, va_up_ne _ _ (by omega)]; exact hc3
  have hc4 : cs58 273 = .inl (gY G 14, 4, .inl (fun _ => 0)) := by rw [e58, va_up_ne _ _ (by omega)]; exact hc4
  have hc5 : cs58 274 = .inl (gY G 14, 16, .inl (fun _ => 0)) := by rw [e58, va_up_ne _ _ (by omega)]; exact hc5
  have hc6 : cs58 275 = .inl (gY G 14, 104, .inl (fun _ => 0)) := by rw [e58, va_up_ne _ _ (by omega)]; exact hc6
  have hc7 : cs58 276 = .inl (gY G 14, 1072, .inl (fun _ => 0)) := by rw [e58, va_up_ne _ _ (by omega)]; exact hc7
  have hc8 : cs58 277 = .inl (gY G 14, 968, .inl (fun _ => 0)) := by rw [e58, va_up_ne _ _ (by omega)]; exact hc8
  have hc9 : cs58 278 = .inl (gY G 14, 136, .inl (fun _ => 0)) := by rw [e58, va_up_ne _ _ (by omega)]; exact hc9
  have hc10 : cs58 279 = .inl (gY G 14, 134, .inl (fun _ => 0)) := by rw [e58, va_up_ne _ _ (by omega)]; exact hc10
  have hc11 : cs58 280 = .inl (gY G 14, 3, .inl (fun _ => 0)) := by rw [e58, va_up_ne _ _ (by omega)]; exact hc11
  have hc12 : cs58 281 = .inl (gY G 14, 10, .inl (fun _ => 0)) := by rw [e58, va_up_ne _ _ (by omega)]; exact hc12
  have hc13 : cs58 282 = .inl (gY G 14, 10, .inl (fun _ => 0)) := by rw [e58, va_up_ne _ _ (by omega)]; exact hc13
  have hc14 : cs58 283 = .inl (gY G 14, 10, .inl (fun _ => 0)) := by rw [e58, va_up_ne _ _ (by omega)]; exact hc14
  have hc15 : cs58 284 = .inl (gY G 14, 10, .inl (fun _ => 0)) := by rw [e58, va_up_ne _ _ (by omega)]; exact hc15
  have hc16 : cs58 285 = .inl (gY G 14, 10, .inl (fun _ => 0)) := by rw [e58, va_up_ne _ _ (by omega)]; exact hc16
  have hc17 : cs58 286 = .inl (gY G 14, 4, .inl (fun _ => 0)) := by rw [e58, va_up_ne _ _ (by omega)]; exact hc17
  have hc18 : cs58 287 = .inl (gY G 14, 4, .inl (fun _ => 0)) := by rw [e58, va_up_ne _ _ (by omega)]; exact hc18
  have hc19 : cs58 288 = .inl (gY G 14, 4, .inl (fun _ => 0)) := by rw [e58, va_up_ne _ _ (by omega)]; exact hc19
  have hc20 : cs58 289 = .inl (gY G 14, 4, .inl (fun _ => 0)) := by rw [e58, va_up_ne _ _ (by omega)]; exact hc20
  have hc21 : cs58 290 = .inl (gY G 14, 4, .inl (fun _ => 0)) := by rw [e58, va_up_ne _ _ (by omega)]; exact hc21
  have hc22 : cs58 291 = .inl (gY G 14, 4, .inl (fun _ => 0)) := by rw [e58, va_up_ne _ _ (by omega)]; exact hc22
  have hc23 : cs58 292 = .inl (gY G 14, 40, .inl (fun _ => 0)) := by rw [e58, va_up_ne _ _ (by omega)]; exact hc23
  have hc24 : cs58 293 = .inl (gY G 14, 40, .inl (fun _ => 0)) := by rw [e58, va_up_ne _ _ (by omega)]; exact hc24
  have hc25 : cs58 294 = .inl (gY G 14, 40, .inl (fun _ => 0)) := by rw [e58, va_up_ne _ _ (by omega)]; exact hc25
  have hc26 : cs58 295 = .inl (gY G 14, 64, .inl (fun _ => 0)) := by rw [e58, va_up_ne _ _ (by omega)]; exact hc26
  have hc27 : cs58 296 = .inl (gY G 14, 64, .inl (fun _ => 0)) := by rw [e58, va_up_ne _ _ (by omega)]; exact hc27
  have hc28 : cs58 297 = .inl (gY G 14, 64, .inl (fun _ => 0)) := by rw [e58, va_up_ne _ _ (by omega)]; exact hc28
  have hc29 : cs58 298 = .inl (gY G 14, 64, .inl (fun _ => 0)) := by rw [e58, va_up_ne _ _ (by omega)]; exact hc29
  have hc0 : cs58 269 = .inr (12, [.int 0, .ref (gA G 270), .ref (gA G 271), .ref (gA G 272), .ref (gA G 273), .ref (gA G 274), .ref (gA G 275), .ref (gA G 276), .ref (gA G 277), .ref (gA G 278), .int 0, .int 0, .int 0, .int 0, .int 0, .long 0, .int 0, .int 0, .int 0, .ref (gA G 279), .ref (gA G 280), .int 0, .int 0, .int 0, .int 0, .int 0, .int 0, .int 0, .int 0, .int 0, .int 0, .ref (gA G 281), .ref (gA G 282), .ref (gA G 283), .ref (gA G 284), .ref (gA G 285), .ref (gA G 286), .ref (gA G 287), .ref (gA G 288), .ref (gA G 289), .ref (gA G 290), .ref (gA G 291), .ref (gA G 292), .ref (gA G 293), .ref (gA G 294), .ref (gA G 295), .ref (gA G 296), .ref (gA G 297), .ref (gA G 298), .null, .null, .null, .null, .null, .int 0, .int 0, .int 0, .int 0, .int 0, .int 0, .null, .null, .int 0, .int 0, .int 0, .int 0, .int 0, .null, .null, .int 0, .null, .int 0, .int 0, .null, .null, .null, .int 0, .int 0, .int 0, .int 0, .int 0, .int 0, .null, .int 0, .int 0, .int 0, .int 0, .int 0, .int 0, .int 0, .int 0, .null]) := by rw [e58]; exact va_up_self _ _ _
  have hlo : ∀ n, n < 269 → cs58 n = cs n := fun n a => by rw [e58, va_up_ne _ _ (by omega)]; exact hlo n a
  clear e58
  refine ry_aload_n 0 dX12_init_231 rfl rfl ?_
  refine ry_bipush (v := 64) dX12_init_232 rfl ?_
  refine ry_newa (κ := 14) (n := 64) (atype := .int) (ty := .int) (t0 := 1) rfl wa_int rfl (fun _ _ => Iff.rfl) rfl (by decide) rfl (by decide) (by decide) (by decide) dX12_init_234 ?_
  refine ry_cs (fun cs59 e59 => ?_)
  have hc0 : cs59 269 = .inr (12, [.int 0, .ref (gA G 270), .ref (gA G 271), .ref (gA G 272), .ref (gA G 273), .ref (gA G 274), .ref (gA G 275), .ref (gA G 276), .ref (gA G 277), .ref (gA G 278), .int 0, .int 0, .int 0, .int 0, .int 0, .long 0, .int 0, .int 0, .int 0, .ref (gA G 279), .ref (gA G 280), .int 0, .int 0, .int 0, .int 0, .int 0, .int 0, .int 0, .int 0, .int 0, .int 0, .ref (gA G 281), .ref (gA G 282), .ref (gA G 283), .ref (gA G 284), .ref (gA G 285), .ref (gA G 286), .ref (gA G 287), .ref (gA G 288), .ref (gA G 289), .ref (gA G 290), .ref (gA G 291), .ref (gA G 292), .ref (gA G 293), .ref (gA G 294), .ref (gA G 295), .ref (gA G 296), .ref (gA G 297), .ref (gA G 298), .null, .null, .null, .null, .null, .int 0, .int 0, .int 0, .int 0, .int 0, .int 0, .null, .null, .int 0, .int 0, .int 0, .int 0, .int 0, .null, .null, .int 0, .null, .int 0, .int 0, .null, .null, .null, .int 0, .int 0, .int 0, .int 0, .int 0, .int 0, .null, .int 0, .int 0, .int 0, .int 0, .int 0, .int 0, .int 0, .int 0, .null]) := by rw [e59, va_up_ne _ _ (by omega)]; exact hc0
  have hc1 : cs59 270 = .inl (gY G 13, 2400, .inl (fun _ => 0)) := by rw [e59, va_up_ne _ _ (by omega)]; exact hc1
  have hc2 : cs59 271 = .inl (gY G 14, 4, .inl (fun _ => 0)) := by rw [e59, va_up_ne _ _ (by omega)]; exact hc2
  have hc3 : cs59 272 = .inl (gY G 14, 4, .inl (fun _ => 0)) := by rw [e59, va_up_ne _ _ (by omega)]; exact hc3
  have hc4 : cs59 273 = .inl (gY G 14, 4, .inl (fun _ => 0)) := by rw [e59, va_up_ne _ _ (by omega)]; exact hc4
  have hc5 : cs59 274 = .inl (gY G 14, 16, .inl (fun _ => 0)) := by rw [e59, va_up_ne _ _ (by omega)]; exact hc5
  have hc6 : cs59 275 = .inl (gY G 14, 104, .inl (fun _ => 0)) := by rw [e59, va_up_ne _ _ (by omega)]; exact hc6
  have hc7 : cs59 276 = .inl (gY G 14, 1072, .inl (fun _ => 0)) := by rw [e59, va_up_ne _ _ (by omega)]; exact hc7
  have hc8 : cs59 277 = .inl (gY G 14, 968, .inl (fun _ => 0)) := by rw [e59, va_up_ne _ _ (by omega)]; exact hc8
  have hc9 : cs59 278 = .inl (gY G 14, 136, .inl (fun _ => 0)) := by rw [e59, va_up_ne _ _ (by omega)]; exact hc9
  have hc10 : cs59 279 = .inl (gY G 14, 134, .inl (fun _ => 0)) := by rw [e59, va_up_ne _ _ (by omega)]; exact hc10
  have hc11 : cs59 280 = .inl (gY G 14, 3, .inl (fun _ => 0)) := by rw [e59, va_up_ne _ _ (by omega)]; exact hc11
  have hc12 : cs59 281 = .inl (gY G 14, 10, .inl (fun _ => 0)) := by rw [e59, va_up_ne _ _ (by omega)]; exact hc12
  have hc13 : cs59 282 = .inl (gY G 14, 10, .inl (fun _ => 0)) := by rw [e59, va_up_ne _ _ (by omega)]; exact hc13
  have hc14 : cs59 283 = .inl (gY G 14, 10, .inl (fun _ => 0)) := by rw [e59, va_up_ne _ _ (by omega)]; exact hc14
  have hc15 : cs59 284 = .inl (gY G 14, 10, .inl (fun _ => 0)) := by rw [e59, va_up_ne _ _ (by omega)]; exact hc15
  have hc16 : cs59 285 = .inl (gY G 14, 10, .inl (fun _ => 0)) := by rw [e59, va_up_ne _ _ (by omega)]; exact hc16
  have hc17 : cs59 286 = .inl (gY G 14, 4, .inl (fun _ => 0)) := by rw [e59, va_up_ne _ _ (by omega)]; exact hc17
  have hc18 : cs59 287 = .inl (gY G 14, 4, .inl (fun _ => 0)) := by rw [e59, va_up_ne _ _ (by omega)]; exact hc18
  have hc19 : cs59 288 = .inl (gY G 14, 4, .inl (fun _ => 0)) := by rw [e59, va_up_ne _ _ (by omega)]; exact hc19
  have hc20 : cs59 289 = .inl (gY G 14, 4, .inl (fun _ => 0)) := by rw [e59, va_up_ne _ _ (by omega)]; exact hc20
  have hc21 : cs59 290 = .inl (gY G 14, 4, .inl (fun _ => 0)) := by rw [e59, va_up_ne _ _ (by omega)]; exact hc21
  have hc22 : cs59 291 = .inl (gY G 14, 4, .inl (fun _ => 0)) := by rw [e59, va_up_ne _ _ (by omega)]; exact hc22
  have hc23 : cs59 292 = .inl (gY G 14, 40, .inl (fun _ => 0)) := by rw [e59, va_up_ne _ _ (by omega)]; exact hc23
  have hc24 : cs59 293 = .inl (gY G 14, 40, .inl (fun _ => 0)) := by rw [e59, va_up_ne _ _ (by omega)]; exact hc24
  have hc25 : cs59 294 = .inl (gY G 14, 40, .inl (fun _ => 0)) := by rw [e59, va_up_ne _ _ (by omega)]; exact hc25
  have hc26 : cs59 295 = .inl (gY G 14, 64, .inl (fun _ => 0)) := by rw [e59, va_up_ne _ _ (by omega)]; exact hc26
  have hc27 : cs59 296 = .inl (gY G 14, 64, .inl (fun _ => 0)) := by rw [e59, va_up_ne _ _ (by omega)]; exact hc27
  have hc28 : cs59 297 = .inl (gY G 14, 64, .inl (fun _ => 0)) := by rw [e59, va_up_ne _ _ (by omega)]; exact hc28
  have hc29 : cs59 298 = .inl (gY G 14, 64, .inl (fun _ => 0)) := by rw [e59, va_up_ne _ _ (by omega)]; exact hc29
  have hc30 : cs59 299 = .inl (gY G 14, 64, .inl (fun _ => 0)) := by rw [e59]; exact va_up_self _ _ _
  have hlo : ∀ n, n < 269 → cs59 n = cs n := fun n a => by rw [e59, va_up_ne _ _ (by omega)]; exact hlo n a
  clear e59
  refine ry_putF ff_X12_98 rfl (by omega) hc0 rfl rfl (by decide) dX12_init_236 ?_
  refine ry_cs (fun cs60 e60 => ?_)
  have hc1 : cs60 270 = .inl (gY G 13, 2400, .inl (fun _ => 0)) := by rw [e60, va_up_ne _ _ (by omega)]; exact hc1
  have hc2 : cs60 271 = .inl (gY G 14, 4, .inl (fun _ => 0)) := by rw [e60, va_up_ne _ _ (by omega)]; exact hc2
  have hc3 : cs60 272 = .inl (gY G 14, 4, .inl (fun _ => 0)) := by rw [e60, va_up_ne _ _ (by omega)]; exact hc3
  have hc4 : cs60 273 = .inl (gY G 14, 4, .inl (fun _ => 0)) := by rw [e60, va_up_ne _ _ (by omega)]; exact hc4
  have hc5 : cs60 274 = .inl (gY G 14, 16, .inl (fun _ => 0)) := by rw [e60, va_up_ne _ _ (by omega)]; exact hc5
  have hc6 : cs60 275 = .inl (gY G 14, 104, .inl (fun _ => 0)) := by rw [e60, va_up_ne _ _ (by omega)]; exact hc6
  have hc7 : cs60 276 = .inl (gY G 14, 1072, .inl (fun _ => 0)) := by rw [e60, va_up_ne _ _ (by omega)]; exact hc7
  have hc8 : cs60 277 = .inl (gY G 14, 968, .inl (fun _ => 0)) := by rw [e60, va_up_ne _ _ (by omega)]; exact hc8
  have hc9 : cs60 278 = .inl (gY G 14, 136, .inl (fun _ => 0)) := by rw [e60, va_up_ne _ _ (by omega)]; exact hc9
  have hc10 : cs60 279 = .inl (gY G 14, 134, .inl (fun _ => 0)) := by rw [e60, va_up_ne _ _ (by omega)]; exact hc10
  have hc11 : cs60 280 = .inl (gY G 14, 3, .inl (fun _ => 0)) := by rw [e60, va_up_ne _ _ (by omega)]; exact hc11
  have hc12 : cs60 281 = .inl (gY G 14, 10, .inl (fun _ => 0)) := by rw [e60, va_up_ne _ _ (by omega)]; exact hc12
  have hc13 : cs60 282 = .inl (gY G 14, 10, .inl (fun _ => 0)) := by rw [e60, va_up_ne _ _ (by omega)]; exact hc13
  have hc14 : cs60 283 = .inl (gY G 14, 10, .inl (fun _ => 0)) := by rw [e60, va_up_ne _ _ (by omega)]; exact hc14
  have hc15 : cs60 284 = .inl (gY G 14, 10, .inl (fun _ => 0)) := by rw [e60, va_up_ne _ _ (by omega)]; exact hc15
  have hc16 : cs60 285 = .inl (gY G 14, 10, .inl (fun _ => 0)) := by rw [e60, va_up_ne _ _ (by omega)]; exact hc16
  have hc17 : cs60 286 = .inl (gY G 14, 4, .inl (fun _ => 0)) := by rw [e60, va_up_ne _ _ (by omega)]; exact hc17
  have hc18 : cs60 287 = .inl (gY G 14, 4, .inl (fun _ => 0)) := by rw [e60, va_up_ne _ _ (by omega)]; exact hc18
  have hc19 : cs60 288 = .inl (gY G 14, 4, .inl (fun _ => 0)) := by rw [e60, va_up_ne _ _ (by omega)]; exact hc19
  have hc20 : cs60 289 = .inl (gY G 14, 4, .inl (fun _ => 0)) := by rw [e60, va_up_ne _ _ (by omega)]; exact hc20
  have hc21 : cs60 290 = .inl (gY G 14, 4, .inl (fun _ => 0)) := by rw [e60, va_up_ne _ _ (by omega)]; exact hc21
  have hc22 : cs60 291 = .inl (gY G 14, 4, .inl (fun _ => 0)) := by rw [e60, va_up_ne _ _ (by omega)]; exact hc22
  have hc23 : cs60 292 = .inl (gY G 14, 40, .inl (fun _ => 0)) := by rw [e60, va_up_ne _ _ (by omega)]; exact hc23
  have hc24 : cs60 293 = .inl (gY G 14, 40, .inl (fun _ => 0)) := by rw [e60, va_up_ne _ _ (by omega)]; exact hc24
  have hc25 : cs60 294 = .inl (gY G 14, 40, .inl (fun _ => 0)) := by rw [e60, va_up_ne _ _ (by omega)]; exact hc25
  have hc26 : cs60 295 = .inl (gY G 14, 64, .inl (fun _ => 0)) := by rw [e60, va_up_ne _ _ (by omega)]; exact hc26
  have hc27 : cs60 296 = .inl (gY G 14, 64, .inl (fun _ => 0)) := by rw [e60, va_up_ne _ _ (by omega)]; exact hc27
  have hc28 : cs60 297 = .inl (gY G 14, 64, .inl (fun _ => 0)) := by rw [e60, va_up_ne _ _ (by omega)]; exact hc28
  have hc29 : cs60 298 = .inl (gY G 14, 64, .inl (fun _ => 0)) := by rw [e60, va_up_ne _ _ (by omega)]; exact hc29
  have hc30 : cs60 299 = .inl (gY G 14, 64, .inl (fun _ => 0)) := by rw [e60, va_up_ne _ _ (by omega)]; exact hc30
  have hc0 : cs60 269 = .inr (12, [.int 0, .ref (gA G 270), .ref (gA G 271), .ref (gA G 272), .ref (gA G 273), .ref (gA G 274), .ref (gA G 275), .ref (gA G 276), .ref (gA G 277), .ref (gA G 278), .int 0, .int 0, .int 0, .int 0, .int 0, .long 0, .int 0, .int 0, .int 0, .ref (gA G 279), .ref (gA G 280), .int 0, .int 0, .int 0, .int 0, .int 0, .int 0, .int 0, .int 0, .int 0, .int 0, .ref (gA G 281), .ref (gA G 282), .ref (gA G 283), .ref (gA G 284), .ref (gA G 285), .ref (gA G 286), .ref (gA G 287), .ref (gA G 288), .ref (gA G 289), .ref (gA G 290), .ref (gA G 291), .ref (gA G 292), .ref (gA G 293), .ref (gA G 294), .ref (gA G 295), .ref (gA G 296), .ref (gA G 297), .ref (gA G 298), .ref (gA G 299), .null, .null, .null, .null, .int 0, .int 0, .int 0, .int 0, .int 0, .int 0, .null, .null, .int 0, .int 0, .int 0, .int 0, .int 0, .null, .null, .int 0, .null, .int 0, .int 0, .null, .null, .null, .int 0, .int 0, .int 0, .int 0, .int 0, .int 0, .null, .int 0, .int 0, .int 0, .int 0, .int 0, .int 0, .int 0, .int 0, .null]) := by rw [e60]; exact va_up_self _ _ _
  have hlo : ∀ n, n < 269 → cs60 n = cs n := fun n a => by rw [e60, va_up_ne _ _ (by omega)]; exact hlo n a
  clear e60
  refine ry_aload_n 0 dX12_init_239 rfl rfl ?_
  refine ry_bipush (v := 64) dX12_init_240 rfl ?_
  refine ry_newa (κ := 14) (n := 64) (atype := .int) (ty := .int) (t0 := 1) rfl wa_int rfl (fun _ _ => Iff.rfl) rfl (by decide) rfl (by decide) (by decide) (by decide) dX12_init_242 ?_
  refine ry_cs (fun cs61 e61 => ?_)
  have hc0 : cs61 269 = .inr (12, [.int 0, .ref (gA G 270), .ref (gA G 271), .ref (gA G 272), .ref (gA G 273), .ref (gA G 274), .ref (gA G 275), .ref (gA G 276), .ref (gA G 277), .ref (gA G 278), .int 0, .int 0, .int 0, .int 0, .int 0, .long 0, .int 0, .int 0, .int 0, .ref (gA G 279), .ref (gA G 280), .int 0, .int 0, .int 0, .int 0, .int 0, .int 0, .int 0, .int 0, .int 0, .int 0, .ref (gA G 281), .ref (gA G 282), .ref (gA G 283), .ref (gA G 284), .ref (gA G 285), .ref (gA G 286), .ref (gA G 287), .ref (gA G 288), .ref (gA G 289), .ref (gA G 290), .ref (gA G 291), .ref (gA G 292), .ref (gA G 293), .ref (gA G 294), .ref (gA G 295), .ref (gA G 296), .ref (gA G 297), .ref (gA G 298), .ref (gA G 299), .null, .null, .null, .null, .int 0, .int 0, .int 0, .int 0, .int 0, .int 0, .null, .null, .int 0, .int 0, .int 0, .int 0, .int 0, .null, .null, .int 0, .null, .int 0, .int 0, .null, .null, .null, .int 0, .int 0, .int 0, .int 0, .int 0, .int 0, .null, .int 0, .int 0, .int 0, .int 0, .int 0, .int 0, .int 0, .int 0, .null]) := by rw [e61, va_up_ne _ _ (by omega)]; exact hc0
  have hc1 : cs61 270 = .inl (gY G 13, 2400, .inl (fun _ => 0)) := by rw [e61, va_up_ne _ _ (by omega)]; exact hc1
  have hc2 : cs61 271 = .inl (gY G 14, 4, .inl (fun _ => 0)) := by rw [e61, va_up_ne _ _ (by omega)]; exact hc2
  have hc3 : cs61 272 = .inl (gY G 14, 4, .inl (fun _ => 0)) := by rw [e61, va_up_ne _ _ (by omega)]; exact hc3
  have hc4 : cs61 273 = .inl (gY G 14, 4, .inl (fun _ => 0)) := by rw [e61, va_up_ne _ _ (by omega)]; exact hc4
  have hc5 : cs61 274 = .inl (gY G 14, 16, .inl (fun _ => 0)) := by rw [e61, va_up_ne _ _ (by omega)]; exact hc5
  have hc6 : cs61 275 = .inl (gY G 14, 104, .inl (fun _ => 0)) := by rw [e61, va_up_ne _ _ (by omega)]; exact hc6
  have hc7 : cs61 276 = .inl (gY G 14, 1072, .inl (fun _ => 0)) := by rw [e61, va_up_ne _ _ (by omega)]; exact hc7
  have hc8 : cs61 277 = .inl (gY G 14, 968, .inl (fun _ => 0)) := by rw [e61, va_up_ne _ _ (by omega)]; exact hc8
  have hc9 : cs61 278 = .inl (gY G 14, 136, .inl (fun _ => 0)) := by rw [e61, va_up_ne _ _ (by omega)]; exact hc9
  have hc10 : cs61 279 = .inl (gY G 14, 134, .inl (fun _ => 0)) := by rw [e61, va_up_ne _ _ (by omega)]; exact hc10
  have hc11 : cs61 280 = .inl (gY G 14, 3, .inl (fun _ => 0)) := by rw [e61, va_up_ne _ _ (by omega)]; exact hc11
  have hc12 : cs61 281 = .inl (gY G 14, 10, .inl (fun _ => 0)) := by rw [e61, va_up_ne _ _ (by omega)]; exact hc12
  have hc13 : cs61 282 = .inl (gY G 14, 10, .inl (fun _ => 0)) := by rw [e61, va_up_ne _ _ (by omega)]; exact hc13
  have hc14 : cs61 283 = .inl (gY G 14, 10, .inl (fun _ => 0)) := by rw [e61, va_up_ne _ _ (by omega)]; exact hc14
  have hc15 : cs61 284 = .inl (gY G 14, 10, .inl (fun _ => 0)) := by rw [e61, va_up_ne _ _ (by omega)]; exact hc15
  have hc16 : cs61 285 = .inl (gY G 14, 10, .inl (fun _ => 0)) := by rw [e61, va_up_ne _ _ (by omega)]; exact hc16
  have hc17 : cs61 286 = .inl (gY G 14, 4, .inl (fun _ => 0)) := by rw [e61, va_up_ne _ _ (by omega)]; exact hc17
  have hc18 : cs61 287 = .inl (gY G 14, 4, .inl (fun _ => 0)) := by rw [e61, va_up_ne _ _ (by omega)]; exact hc18
  have hc19 : cs61 288 = .inl (gY G 14, 4, .inl (fun _ => 0)) := by rw [e61, va_up_ne _ _ (by omega)]; exact hc19
  have hc20 : cs61 289 = .inl (gY G 14, 4, .inl (fun _ => 0)) := by rw [e61, va_up_ne _ _ (by omega)]; exact hc20
  have hc21 : cs61 290 = .inl (gY G 14, 4, .inl (fun _ => 0)) := by rw [e61, va_up_ne _ _ (by omega)]; exact hc21
  have hc22 : cs61 291 = .inl (gY G 14, 4, .inl (fun _ => 0)) := by rw [e61, va_up_ne _ _ (by omega)]; exact hc22
  have hc23 : cs61 292 = .inl (gY G 14, 40, .inl (fun _ => 0)) := by rw [e61, va_up_ne _ _ (by omega)]; exact hc23
  have hc24 : cs61 293 = .inl (gY G 14, 40, .inl (fun _ => 0)) := by rw [e61, va_up_ne _ _ (by omega)]; exact hc24
  have hc25 : cs61 294 = .inl (gY G 14, 40, .inl (fun _ => 0)) := by rw [e61, va_up_ne _ _ (by omega)]; exact hc25
  have hc26 : cs61 295 = .inl (gY G 14, 64, .inl (fun _ => 0)) := by rw [e61, va_up_ne _ _ (by omega)]; exact hc26
  have hc27 : cs61 296 = .inl (gY G 14, 64, .inl (fun _ => 0)) := by rw [e61, va_up_ne _ _ (by omega)]; exact hc27
  have hc28 : cs61 297 = .inl (gY G 14, 64, .inl (fun _ => 0)) := by rw [e61, va_up_ne _ _ (by omega)]; exact hc28
  have hc29 : cs61 298 = .inl (gY G 14, 64, .inl (fun _ => 0)) := by rw [e61, va_up_ne _ _ (by omega)]; exact hc29
  have hc30 : cs61 299 = .inl (gY G 14, 64, .inl (fun _ => 0)) := by rw [e61, va_up_ne _ _ (by omega)]; exact hc30
  have hc31 : cs61 300 = .inl (gY G 14, 64, .inl (fun _ => 0)) := by rw [e61]; exact va_up_self _ _ _
  have hlo : ∀ n, n < 269 → cs61 n = cs n := fun n a => by rw [e61, va_up_ne _ _ (by omega)]; exact hlo n a
  clear e61
  refine ry_putF ff_X12_101 rfl (by omega) hc0 rfl rfl (by decide) dX12_init_244 ?_
  refine ry_cs (fun cs62 e62 => ?_)
  have hc1 : cs62 270 = .inl (gY G 13, 2400, .inl (fun _ => 0)) := by rw [e62, va_up_ne _ _ (by omega)]; exact hc1
  have hc2 : cs62 271 = .inl (gY G 14, 4, .inl (fun _ => 0)) := by rw [e62, va_up_ne _ _ (by omega)]; exact hc2
  have hc3 : cs62 272 = .inl (gY G 14, 4, .inl (fun _ => 0)) := by rw [e62, va_up_ne _ _ (by omega)]; exact hc3
  have hc4 : cs62 273 = .inl (gY G 14, 4, .inl (fun _ => 0)) := by rw [e62, va_up_ne _ _ (by omega)]; exact hc4
  have hc5 : cs62 274 = .inl (gY G 14, 16, .inl (fun _ => 0)) := by rw [e62, va_up_ne _ _ (by omega)]; exact hc5
  have hc6 : cs62 275 = .inl (gY G 14, 104, .inl (fun _ => 0)) := by rw [e62, va_up_ne _ _ (by omega)]; exact hc6
  have hc7 : cs62 276 = .inl (gY G 14, 1072, .inl (fun _ => 0)) := by rw [e62, va_up_ne _ _ (by omega)]; exact hc7
  have hc8 : cs62 277 = .inl (gY G 14, 968, .inl (fun _ => 0)) := by rw [e62, va_up_ne _ _ (by omega)]; exact hc8
  have hc9 : cs62 278 = .inl (gY G 14, 136, .inl (fun _ => 0)) := by rw [e62, va_up_ne _ _ (by omega)]; exact hc9
  have hc10 : cs62 279 = .inl (gY G 14, 134, .inl (fun _ => 0)) := by rw [e62, va_up_ne _ _ (by omega)]; exact hc10
  have hc11 : cs62 280 = .inl (gY G 14, 3, .inl (fun _ => 0)) := by rw [e62, va_up_ne _ _ (by omega)]; exact hc11
  have hc12 : cs62 281 = .inl (gY G 14, 10, .inl (fun _ => 0)) := by rw [e62, va_up_ne _ _ (by omega)]; exact hc12
  have hc13 : cs62 282 = .inl (gY G 14, 10, .inl (fun _ => 0)) := by rw [e62, va_up_ne _ _ (by omega)]; exact hc13
  have hc14 : cs62 283 = .inl (gY G 14, 10, .inl (fun _ => 0)) := by rw [e62, va_up_ne _ _ (by omega)]; exact hc14
  have hc15 : cs62 284 = .inl (gY G 14, 10, .inl (fun _ => 0)) := by rw [e62, va_up_ne _ _ (by omega)]; exact hc15
  have hc16 : cs62 285 = .inl (gY G 14, 10, .inl (fun _ => 0)) := by rw [e62, va_up_ne _ _ (by omega)]; exact hc16
  have hc17 : cs62 286 = .inl (gY G 14, 4, .inl (fun _ => 0)) := by rw [e62, va_up_ne _ _ (by omega)]; exact hc17
  have hc18 : cs62 287 = .inl (gY G 14, 4, .inl (fun _ => 0)) := by rw [e62, va_up_ne _ _ (by omega)]; exact hc18
  have hc19 : cs62 288 = .inl (gY G 14, 4, .inl (fun _ => 0)) := by rw [e62, va_up_ne _ _ (by omega)]; exact hc19
  have hc20 : cs62 289 = .inl (gY G 14, 4, .inl (fun _ => 0)) := by rw [e62, va_up_ne _ _ (by omega)]; exact hc20
  have hc21 : cs62 290 = .inl (gY G 14, 4, .inl (fun _ => 0)) := by rw [e62, va_up_ne _ _ (by omega)]; exact hc21
  have hc22 : cs62 291 = .inl (gY G 14, 4, .inl (fun _ => 0)) := by rw [e62, va_up_ne _ _ (by omega)]; exact hc22
  have hc23 : cs62 292 = .inl (gY G 14, 40, .inl (fun _ => 0)) := by rw [e62, va_up_ne _ _ (by omega)]; exact hc23
  have hc24 : cs62 293 = .inl (gY G 14, 40, .inl (fun _ => 0)) := by rw [e62, va_up_ne _ _ (by omega)]; exact hc24
  have hc25 : cs62 294 = .inl (gY G 14, 40, .inl (fun _ => 0)) := by rw [e62, va_up_ne _ _ (by omega)]; exact hc25
  have hc26 : cs62 295 = .inl (gY G 14, 64, .inl (fun _ => 0)) := by rw [e62, va_up_ne _ _ (by omega)]; exact hc26
  have hc27 : cs62 296 = .inl (gY G 14, 64, .inl (fun _ => 0)) := by rw [e62, va_up_ne _ _ (by omega)]; exact hc27
  have hc28 : cs62 297 = .inl (gY G 14, 64, .inl (fun _ => 0)) := by rw [e62, va_up_ne _ _ (by omega)]; exact hc28
  have hc29 : cs62 298 = .inl (gY G 14, 64, .inl (fun _ => 0)) := by rw [e62, va_up_ne _ _ (by omega)]; exact hc29
  have hc30 : cs62 299 = .inl (gY G 14, 64, .inl (fun _ => 0)) := by rw [e62, va_up_ne _ _ (by omega)]; exact hc30
  have hc31 : cs62 300 = .inl (gY G 14, 64, .inl (fun _ => 0)) := by rw [e62, va_up_ne _ _ (by omega)]; exact hc31
  have hc0 : cs62 269 = .inr (12, [.int 0, .ref (gA G 270), .ref (gA G 271), .ref (gA G 272), .ref (gA G 273), .ref (gA G 274), .ref (gA G 275), .ref (gA G 276), .ref (gA G 277), .ref (gA G 278), .int 0, .int 0, .int 0, .int 0, .int 0, .long 0, .int 0, .int 0, .int 0, .ref (gA G 279), .ref (gA G 280), .int 0, .int 0, .int 0, .int 0, .int 0, .int 0, .int 0, .int 0, .int 0, .int 0, .ref (gA G 281), .ref (gA G 282), .ref (gA G 283), .ref (gA G 284), .ref (gA G 285), .ref (gA G 286), .ref (gA G 287), .ref (gA G 288), .ref (gA G 289), .ref (gA G 290), .ref (gA G 291), .ref (gA G 292), .ref (gA G 293), .ref (gA G 294), .ref (gA G 295), .ref (gA G 296), .ref (gA G 297), .ref (gA G 298), .ref (gA G 299), .ref (gA G 300), .null, .null, .null, .int 0, .int 0, .int 0, .int 0, .int 0, .int 0, .null, .null, .int 0, .int 0, .int 0, .int 0, .int 0, .null, .null, .int 0, .null, .int 0, .int 0, .null, .null, .null, .int 0, .int 0, .int 0, .int 0, .int 0, .int 0, .null, .int 0, .int 0, .int 0, .int 0, .int 0, .int 0, .int 0, .int 0, .null]) := by rw [e62]; exact va_up_self _ _ _
  have hlo : ∀ n, n < 269 → cs62 n = cs n := fun n a => by rw [e62, va_up_ne _ _ (by omega)]; exact hlo n a
  clear e62
  refine ry_aload_n 0 dX12_init_247 rfl rfl ?_
  refine ry_bipush (v := 64) dX12_init_248 rfl ?_
  refine ry_newa (κ := 14) (n := 64) (atype := .int) (ty := .int) (t0 := 1) rfl wa_int rfl (fun _ _ => Iff.rfl) rfl (by decide) rfl (by decide) (by decide) (by decide) dX12_init_250 ?_
  refine ry_cs (fun cs63 e63 => ?_)
  have hc0 : cs63 269 = .inr (12, [.int 0, .ref (gA G 270), .ref (gA G 271), .ref (gA G 272), .ref (gA G 273), .ref (gA G 274), .ref (gA G 275), .ref (gA G 276), .ref (gA G 277), .ref (gA G 278), .int 0, .int 0, .int 0, .int 0, .int 0, .long 0, .int 0, .int 0, .int 0, .ref (gA G 279), .ref (gA G 280), .int 0, .int 0, .int 0, .int 0, .int 0, .int 0, .int 0, .int 0, .int 0, .int 0, .ref (gA G 281), .ref (gA G 282), .ref (gA G 283), .ref (gA G 284), .ref (gA G 285), .ref (gA G 286), .ref (gA G 287), .ref (gA G 288), .ref (gA G 289), .ref (gA G 290), .ref (gA G 291), .ref (gA G 292), .ref (gA G 293), .ref (gA G 294), .ref (gA G 295), .ref (gA G 296), .ref (gA G 297), .ref (gA G 298), .ref (gA G 299), .ref (gA G 300), .null, .null, .null, .int 0, .int 0, .int 0, .int 0, .int 0, .int 0, .null, .null, .int 0, .int 0, .int 0, .int 0, .int 0, .null, .null, .int 0, .null, .int 0, .int 0, .null, .null, .null, .int 0, .int 0, .int 0, .int 0, .int 0, .int 0, .null, .int 0, .int 0, .int 0, .int 0, .int 0, .int 0, .int 0, .int 0, .null]) := by rw [e63, va_up_ne _ _ (by omega)]; exact hc0
  have hc1 : cs63 270 = .inl (gY G 13, 2400, .inl (fun _ => 0)) := by rw [e63, va_up_ne _ _ (by omega)]; exact hc1
  have hc2 : cs63 271 = .inl (gY G 14, 4, .inl (fun _ => 0)) := by rw [e63, va_up_ne _ _ (by omega)]; exact hc2
  have hc3 : cs63 272 = .inl (gY G 14, 4, .inl (fun _ => 0)) := by rw [e63, va_up_ne _ _ (by omega)]; exact hc3
  have hc4 : cs63 273 = .inl (gY G 14, 4, .inl (fun _ => 0)) := by rw [e63, va_up_ne _ _ (by omega)]; exact hc4
  have hc5 : cs63 274 = .inl (gY G 14, 16, .inl (fun _ => 0)) := by rw [e63, va_up_ne _ _ (by omega)]; exact hc5
  have hc6 : cs63 275 = .inl (gY G 14, 104, .inl (fun _ => 0)) := by rw [e63, va_up_ne _ _ (by omega)]; exact hc6
  have hc7 : cs63 276 = .inl (gY G 14, 1072, .inl (fun _ => 0)) := by rw [e63, va_up_ne _ _ (by omega)]; exact hc7
  have hc8 : cs63 277 = .inl (gY G 14, 968, .inl (fun _ => 0)) := by rw [e63, va_up_ne _ _ (by omega)]; exact hc8
  have hc9 : cs63 278 = .inl (gY G 14, 136, .inl (fun _ => 0)) := by rw [e63, va_up_ne _ _ (by omega)]; exact hc9
  have hc10 : cs63 279 = .inl (gY G 14, 134, .inl (fun _ => 0)) := by rw [e63, va_up_ne _ _ (by omega)]; exact hc10
  have hc11 : cs63 280 = .inl (gY G 14, 3, .inl (fun _ => 0)) := by rw [e63, va_up_ne _ _ (by omega)]; exact hc11
  have hc12 : cs63 281 = .inl (gY G 14, 10, .inl (fun _ => 0)) := by rw [e63, va_up_ne _ _ (by omega)]; exact hc12
  have hc13 : cs63 282 = .inl (gY G 14, 10, .inl (fun _ => 0)) := by rw [e63, va_up_ne _ _ (by omega)]; exact hc13
  have hc14 : cs63 283 = .inl (gY G 14, 10, .inl (fun _ => 0)) := by rw [e63, va_up_ne _ _ (by omega)]; exact hc14
  have hc15 : cs63 284 = .inl (gY G 14, 10, .inl (fun _ => 0)) := by rw [e63, va_up_ne _ _ (by omega)]; exact hc15
  have hc16 : cs63 285 = .inl (gY G 14, 10, .inl (fun _ => 0)) := by rw [e63, va_up_ne _ _ (by omega)]; exact hc16
  have hc17 : cs63 286 = .inl (gY G 14, 4, .inl (fun _ => 0)) := by rw [e63, va_up_ne _ _ (by omega)]; exact hc17
  have hc18 : cs63 287 = .inl (gY G 14, 4, .inl (fun _ => 0)) := by rw [e63, va_up_ne _ _ (by omega)]; exact hc18
  have hc19 : cs63 288 = .inl (gY G 14, 4, .inl (fun _ => 0)) := by rw [e63, va_up_ne _ _ (by omega)]; exact hc19
  have hc20 : cs63 289 = .inl (gY G 14, 4, .inl (fun _ => 0)) := by rw [e63, va_up_ne _ _ (by omega)]; exact hc20
  have hc21 : cs63 290 = .inl (gY G 14, 4, .inl (fun _ => 0)) := by rw [e63, va_up_ne _ _ (by omega)]; exact hc21
  have hc22 : cs63 291 = .inl (gY G 14, 4, .inl (fun _ => 0)) := by rw [e63, va_up_ne _ _ (by omega)]; exact hc22
  have hc23 : cs63 292 = .inl (gY G 14, 40, .inl (fun _ => 0)) := by rw [e63, va_up_ne _ _ (by omega)]; exact hc23
  have hc24 : cs63 293 = .inl (gY G 14, 40, .inl (fun _ => 0)) := by rw [e63, va_up_ne _ _ (by omega)]; exact hc24
  have hc25 : cs63 294 = .inl (gY G 14, 40, .inl (fun _ => 0)) := by rw [e63, va_up_ne _ _ (by omega)]; exact hc25
  have hc26 : cs63 295 = .inl (gY G 14, 64, .inl (fun _ => 0)) := by rw [e63, va_up_ne _ _ (by omega)]; exact hc26
  have hc27 : cs63 296 = .inl (gY G 14, 64, .inl (fun _ => 0)) := by rw [e63, va_up_ne _ _ (by omega)]; exact hc27
  have hc28 : cs63 297 = .inl (gY G 14, 64, .inl (fun _ => 0)) := by rw [e63, va_up_ne _ _ (by omega)]; exact hc28
  have hc29 : cs63 298 = .inl (gY G 14, 64, .inl (fun _ => 0)) := by rw [e63, va_up_ne _ _ (by omega)]; exact hc29
  have hc30 : cs63 299 = .inl (gY G 14, 64, .inl (fun _ => 0)) := by rw [e63, va_up_ne _ _ (by omega)]; exact hc30
  have hc31 : cs63 300 = .inl (gY G 14, 64, .inl (fun _ => 0)) := by rw [e63, va_up_ne _ _ (by omega)]; exact hc31
  have hc32 : cs63 301 = .inl (gY G 14, 64, .inl (fun _ => 0)) := by rw [e63]; exact va_up_self _ _ _
  have hlo : ∀ n, n < 269 → cs63 n = cs n := fun n a => by rw [e63, va_up_ne _ _ (by omega)]; exact hlo n a
  clear e63
  refine ry_putF ff_X12_104 rfl (by omega) hc0 rfl rfl (by decide) dX12_init_252 ?_
  refine ry_cs (fun cs64 e64 => ?_)
  have hc1 : cs64 270 = .inl (gY G 13, 2400, .inl (fun _ => 0)) := by rw [e64, va_up_ne _ _ (by omega)]; exact hc1
  have hc2 : cs64 271 = .inl (gY G 14, 4, .inl (fun _ => 0)) := by rw [e64, va_up_ne _ _ (by omega)]; exact hc2
  have hc3 : cs64 272 = .inl (gY G 14, 4, .inl (fun _ => 0)) := by rw [e64, va_up_ne _ _ (by omega)]; exact hc3
  have hc4 : cs64 273 = .inl (gY G 14, 4, .inl (fun _ => 0)) := by rw [e64, va_up_ne _ _ (by omega)]; exact hc4
  have hc5 : cs64 274 = .inl (gY G 14, 16, .inl (fun _ => 0)) := by rw [e64, va_up_ne _ _ (by omega)]; exact hc5
  have hc6 : cs64 275 = .inl (gY G 14, 104, .inl (fun _ => 0)) := by rw [e64, va_up_ne _ _ (by omega)]; exact hc6
  have hc7 : cs64 276 = .inl (gY G 14, 1072, .inl (fun _ => 0)) := by rw [e64, va_up_ne _ _ (by omega)]; exact hc7
  have hc8 : cs64 277 = .inl (gY G 14, 968, .inl (fun _ => 0)) := by rw [e64, va_up_ne _ _ (by omega)]; exact hc8
  have hc9 : cs64 278 = .inl (gY G 14, 136, .inl (fun _ => 0)) := by rw [e64, va_up_ne _ _ (by omega)]; exact hc9
  have hc10 : cs64 279 = .inl (gY G 14, 134, .inl (fun _ => 0)) := by rw [e64, va_up_ne _ _ (by omega)]; exact hc10
  have hc11 : cs64 280 = .inl (gY G 14, 3, .inl (fun _ => 0)) := by rw [e64, va_up_ne _ _ (by omega)]; exact hc11
  have hc12 : cs64 281 = .inl (gY G 14, 10, .inl (fun _ => 0)) := by rw [e64, va_up_ne _ _ (by omega)]; exact hc12
  have hc13 : cs64 282 = .inl (gY G 14, 10, .inl (fun _ => 0)) := by rw [e64, va_up_ne _ _ (by omega)]; exact hc13
  have hc14 : cs64 283 = .inl (gY G 14, 10, .inl (fun _ => 0)) := by rw [e64, va_up_ne _ _ (by omega)]; exact hc14
  have hc15 : cs64 284 = .inl (gY G 14, 10, .inl (fun _ => 0)) := by rw [e64, va_up_ne _ _ (by omega)]; exact hc15
  have hc16 : cs64 285 = .inl (gY G 14, 10, .inl (fun _ => 0)) := by rw [e64, va_up_ne _ _ (by omega)]; exact hc16
  have hc17 : cs64 286 = .inl (gY G 14, 4, .inl (fun _ => 0)) := by rw [e64, va_up_ne _ _ (by omega)]; exact hc17
  have hc18 : cs64 287 = .inl (gY G 14, 4, .inl (fun _ => 0)) := by rw [e64, va_up_ne _ _ (by omega)]; exact hc18
  have hc19 : cs64 288 = .inl (gY G 14, 4, .inl (fun _ => 0)) := by rw [e64, va_up_ne _ _ (by omega)]; exact hc19
  have hc20 : cs64 289 = .inl (gY G 14, 4, .inl (fun _ => 0)) := by rw [e64, va_up_ne _ _ (by omega)]; exact hc20
  have hc21 : cs64 290 = .inl (gY G 14, 4, .inl (fun _ => 0)) := by rw [e64, va_up_ne _ _ (by omega)]; exact hc21
  have hc22 : cs64 291 = .inl (gY G 14, 4, .inl (fun _ => 0)) := by rw [e64, va_up_ne _ _ (by omega)]; exact hc22
  have hc23 : cs64 292 = .inl (gY G 14, 40, .inl (fun _ => 0)) := by rw [e64, va_up_ne _ _ (by omega)]; exact hc23
  have hc24 : cs64 293 = .inl (gY G 14, 40, .inl (fun _ => 0)) := by rw [e64, va_up_ne _ _ (by omega)]; exact hc24
  have hc25 : cs64 294 = .inl (gY G 14, 40, .inl (fun _ => 0)) := by rw [e64, va_up_ne _ _ (by omega)]; exact hc25
  have hc26 : cs64 295 = .inl (gY G 14, 64, .inl (fun _ => 0)) := by rw [e64, va_up_ne _ _ (by omega)]; exact hc26
  have hc27 : cs64 296 = .inl (gY G 14, 64, .inl (fun _ => 0)) := by rw [e64, va_up_ne _ _ (by omega)]; exact hc27
  have hc28 : cs64 297 = .inl (gY G 14, 64, .inl (fun _ => 0)) := by rw [e64, va_up_ne _ _ (by omega)]; exact hc28
  have hc29 : cs64 298 = .inl (gY G 14, 64, .inl (fun _ => 0)) := by rw [e64, va_up_ne _ _ (by omega)]; exact hc29
  have hc30 : cs64 299 = .inl (gY G 14, 64, .inl (fun _ => 0)) := by rw [e64, va_up_ne _ _ (by omega)]; exact hc30
  have hc31 : cs64 300 = .inl (gY G 14, 64, .inl (fun _ => 0)) := by rw [e64, va_up_ne _ _ (by omega)]; exact hc31
  have hc32 : cs64 301 = .inl (gY G 14, 64, .inl (fun _ => 0)) := by rw [e64, va_up_ne _ _ (by omega)]; exact hc32
  have hc0 : cs64 269 = .inr (12, [.int 0, .ref (gA G 270), .ref (gA G 271), .ref (gA G 272), .ref (gA G 273), .ref (gA G 274), .ref (gA G 275), .ref (gA G 276), .ref (gA G 277), .ref (gA G 278), .int 0, .int 0, .int 0, .int 0, .int 0, .long 0, .int 0, .int 0, .int 0, .ref (gA G 279), .ref (gA G 280), .int 0, .int 0, .int 0, .int 0, .int 0, .int 0, .int 0, .int 0, .int 0, .int 0, .ref (gA G 281), .ref (gA G 282), .ref (gA G 283), .ref (gA G 284), .ref (gA G 285), .ref (gA G 286), .ref (gA G 287), .ref (gA G 288), .ref (gA G 289), .ref (gA G 290), .ref (gA G 291), .ref (gA G 292), .ref (gA G 293), .ref (gA G 294), .ref (gA G 295), .ref (gA G 296), .ref (gA G 297), .ref (gA G 298), .ref (gA G 299), .ref (gA G 300), .ref (gA G 301), .null, .null, .int 0, .int 0, .int 0, .int 0, .int 0, .int 0, .null, .null, .int 0, .int 0, .int 0, .int 0, .int 0, .null, .null, .int 0, .null, .int 0, .int 0, .null, .null, .null, .int 0, .int 0, .int 0, .int 0, .int 0, .int 0, .null, .int 0, .int 0, .int 0, .int 0, .int 0, .int 0, .int 0, .int 0, .null]) := by rw [e64]; exact va_up_self _ _ _
  have hlo : ∀ n, n < 269 → cs64 n = cs n := fun n a => by rw [e64, va_up_ne _ _ (by omega)]; exact hlo n a
  clear e64
  refine ry_aload_n 0 dX12_init_255 rfl rfl ?_
  refine ry_bipush (v := 64) dX12_init_256 rfl ?_
  refine ry_newa (κ := 14) (n := 64) (atype := .int) (ty := .int) (t0 := 1) rfl wa_int rfl (fun _ _ => Iff.rfl) rfl (by decide) rfl (by decide) (by decide) (by decide) dX12_init_258 ?_
  refine ry_cs (fun cs65 e65 => ?_)
  have hc0 : cs65 269 = .inr (12, [.int 0, .ref (gA G 270), .ref (gA G 271), .ref (gA G 272), .ref (gA G 273), .ref (gA G 274), .ref (gA G 275), .ref (gA G 276), .ref (gA G 277), .ref (gA G 278), .int 0, .int 0, .int 0, .int 0, .int 0, .long 0, .int 0, .int 0, .int 0, .ref (gA G 279), .ref (gA G 280), .int 0, .int 0, .int 0, .int 0, .int 0, .int 0, .int 0, .int 0, .int 0, .int 0, .ref (gA G 281), .ref (gA G 282), .ref (gA G 283), .ref (gA G 284), .ref (gA G 285), .ref (gA G 286), .ref (gA G 287), .ref (gA G 288), .ref (gA G 289), .ref (gA G 290), .ref (gA G 291), .ref (gA G 292), .ref (gA G 293), .ref (gA G 294), .ref (gA G 295), .ref (gA G 296), .ref (gA G 297), .ref (gA G 298), .ref (gA G 299), .ref (gA G 300), .ref (gA G 301), .null, .null, .int 0, .int 0, .int 0, .int 0, .int 0, .int 0, .null, .null, .int 0, .int 0, .int 0, .int 0, .int 0, .null, .null, .int 0, .null, .int 0, .int 0, .null, .null, .null, .int 0, .int 0, .int 0, .int 0, .int 0, .int 0, .null, .int 0, .int 0, .int 0, .int 0, .int 0, .int 0, .int 0, .int 0, .null]) := by rw [e65, va_up_ne _ _ (by omega)]; exact hc0
  have hc1 : cs65 270 = .inl (gY G 13, 2400, .inl (fun _ => 0)) := by rw [e65, va_up_ne _ _ (by omega)]; exact hc1
  have hc2 : cs65 271 = .inl (gY G 14, 4, .inl (fun _ => 0)) := by rw [e65, va_up_ne _ _ (by omega)]; exact hc2
  have hc3 : cs65 272 = .inl (gY G 14, 4, .inl (fun _ => 0)) := by rw [e65, va_up_ne _ _ (by omega)]; exact hc3
  have hc4 : cs65 273 = .inl (gY G 14, 4, .inl (fun _ => 0)) := by rw [e65, va_up_ne _ _ (by omega)]; exact hc4
  have hc5 : cs65 274 = .inl (gY G 14, 16, .inl (fun _ => 0)) := by rw [e65, va_up_ne _ _ (by omega)]; exact hc5
  have hc6 : cs65 275 = .inl (gY G 14, 104, .inl (fun _ => 0)) := by rw [e65, va_up_ne _ _ (by omega)]; exact hc6
  have hc7 : cs65 276 = .inl (gY G 14, 1072, .inl (fun _ => 0)) := by rw [e65, va_up_ne _ _ (by omega)]; exact hc7
  have hc8 : cs65 277 = .inl (gY G 14, 968, .inl (fun _ => 0)) := by rw [e65, va_up_ne _ _ (by omega)]; exact hc8
  have hc9 : cs65 278 = .inl (gY G 14, 136, .inl (fun _ => 0)) := by rw [e65, va_up_ne _ _ (by omega)]; exact hc9
  have hc10 : cs65 279 = .inl (gY G 14, 134, .inl (fun _ => 0)) := by rw [e65, va_up_ne _ _ (by omega)]; exact hc10
  have hc11 : cs65 280 = .inl (gY G 14, 3, .inl (fun _ => 0)) := by rw [e65, va_up_ne _ _ (by omega)]; exact hc11
  have hc12 : cs65 281 = .inl (gY G 14, 10, .inl (fun _ => 0)) := by rw [e65, va_up_ne _ _ (by omega)]; exact hc12
  have hc13 : cs65 282 = .inl (gY G 14, 10, .inl (fun _ => 0)) := by rw [e65, va_up_ne _ _ (by omega)]; exact hc13
  have hc14 : cs65 283 = .inl (gY G 14, 10, .inl (fun _ => 0)) := by rw [e65, va_up_ne _ _ (by omega)]; exact hc14
  have hc15 : cs65 284 = .inl (gY G 14, 10, .inl (fun _ => 0)) := by rw [e65, va_up_ne _ _ (by omega)]; exact hc15
  have hc16 : cs65 285 = .inl (gY G 14, 10, .inl (fun _ => 0)) := by rw [e65, va_up_ne _ _ (by omega)]; exact hc16
  have hc17 : cs65 286 = .inl (gY G 14, 4, .inl (fun _ => 0)) := by rw [e65, va_up_ne _ _ (by omega)]; exact hc17
  have hc18 : cs65 287 = .inl (gY G 14, 4, .inl (fun _ => 0)) := by rw [e65, va_up_ne _ _ (by omega)]; exact hc18
  have hc19 : cs65 288 = .inl (gY G 14, 4, .inl (fun _ => 0)) := by rw [e65, va_up_ne _ _ (by omega)]; exact hc19
  have hc20 : cs65 289 = .inl (gY G 14, 4, .inl (fun _ => 0)) := by rw [e65, va_up_ne _ _ (by omega)]; exact hc20
  have hc21 : cs65 290 = .inl (gY G 14, 4, .inl (fun _ => 0)) := by rw [e65, va_up_ne _ _ (by omega)]; exact hc21
  have hc22 : cs65 291 = .inl (gY G 14, 4, .inl (fun _ => 0)) := by rw [e65, va_up_ne _ _ (by omega)]; exact hc22
  have hc23 : cs65 292 = .inl (gY G 14, 40, .inl (fun _ => 0)) := by rw [e65, va_up_ne _ _ (by omega)]; exact hc23
  have hc24 : cs65 293 = .inl (gY G 14, 40, .inl (fun _ => 0)) := by rw [e65, va_up_ne _ _ (by omega)]; exact hc24
  have hc25 : cs65 294 = .inl (gY G 14, 40, .inl (fun _ => 0)) := by rw [e65, va_up_ne _ _ (by omega)]; exact hc25
  have hc26 : cs65 295 = .inl (gY G 14, 64, .inl (fun _ => 0)) := by rw [e65, va_up_ne _ _ (by omega)]; exact hc26
  have hc27 : cs65 296 = .inl (gY G 14, 64, .inl (fun _ => 0)) := by rw [e65, va_up_ne _ _ (by omega)]; exact hc27
  have hc28 : cs65 297 = .inl (gY G 14, 64, .inl (fun _ => 0)) := by rw [e65, va_up_ne _ _ (by omega)]; exact hc28
  have hc29 : cs65 298 = .inl (gY G 14, 64, .inl (fun _ => 0)) := by rw [e65, va_up_ne _ _ (by omega)]; exact hc29
  have hc30 : cs65 299 = .inl (gY G 14, 64, .inl (fun _ => 0)) := by rw [e65, va_up_ne _ _ (by omega)]; exact hc30
  have hc31 : cs65 300 = .inl (gY G 14, 64, .inl (fun _ => 0)) := by rw [e65, va_up_ne _ _ (by omega)]; exact hc31
  have hc32 : cs65 301 = .inl (gY G 14, 64, .inl (fun _ => 0)) := by rw [e65, va_up_ne _ _ (by omega)]; exact hc32
  have hc33 : cs65 302 = .inl (gY G 14, 64, .inl (fun _ => 0)) := by rw [e65]; exact va_up_self _ _ _
  have hlo : ∀ n, n < 269 → cs65 n = cs n := fun n a => by rw [e65, va_up_ne _ _ (by omega)]; exact hlo n a
  clear e65
  refine ry_putF ff_X12_107 rfl (by omega) hc0 rfl rfl (by decide) dX12_init_260 ?_
  refine ry_cs (fun cs66 e66 => ?_)
  have hc1 : cs66 270 = .inl (gY G 13, 2400, .inl (fun _ => 0)) := by rw [e66, va_up_ne _ _ (by omega)]; exact hc1
  have hc2 : cs66 271 = .inl (gY G 14, 4, .inl (fun _ => 0)) := by rw [e66, va_up_ne _ _ (by omega)]; exact hc2
  have hc3 : cs66 272 = .inl (gY G 14, 4, .inl (fun _ => 0)) := by rw [e66, va_up_ne _ _ (by omega)]; exact hc3
  have hc4 : cs66 273 = .inl (gY G 14, 4, .inl (fun _ => 0)) := by rw [e66, va_up_ne _ _ (by omega)]; exact hc4
  have hc5 : cs66 274 = .inl (gY G 14, 16, .inl (fun _ => 0)) := by rw [e66, va_up_ne _ _ (by omega)]; exact hc5
  have hc6 : cs66 275 = .inl (gY G 14, 104, .inl (fun _ => 0)) := by rw [e66, va_up_ne _ _ (by omega)]; exact hc6
  have hc7 : cs66 276 = .inl (gY G 14, 1072, .inl (fun _ => 0)) := by rw [e66, va_up_ne _ _ (by omega)]; exact hc7
  have hc8 : cs66 277 = .inl (gY G 14, 968, .inl (fun _ => 0)) := by rw [e66, va_up_ne _ _ (by omega)]; exact hc8
  have hc9 : cs66 278 = .inl (gY G 14, 136, .inl (fun _ => 0)) := by rw [e66, va_up_ne _ _ (by omega)]; exact hc9
  have hc10 : cs66 279 = .inl (gY G 14, 134, .inl (fun _ => 0)) := by rw [e66, va_up_ne _ _ (by omega)]; exact hc10
  have hc11 : cs66 280 = .inl (gY G 14, 3, .inl (fun _ => 0)) := by rw [e66, va_up_ne _ _ (by omega)]; exact hc11
  have hc12 : cs66 281 = .inl (gY G 14, 10, .inl (fun _ => 0)) := by rw [e66, va_up_ne _ _ (by omega)]; exact hc12
  have hc13 : cs66 282 = .inl (gY G 14, 10, .inl (fun _ => 0)) := by rw [e66, va_up_ne _ _ (by omega)]; exact hc13
  have hc14 : cs66 283 = .inl (gY G 14, 10, .inl (fun _ => 0)) := by rw [e66, va_up_ne _ _ (by omega)]; exact hc14
  have hc15 : cs66 284 = .inl (gY G 14, 10, .inl (fun _ => 0)) := by rw [e66, va_up_ne _ _ (by omega)]; exact hc15
  have hc16 : cs66 285 = .inl (gY G 14, 10, .inl (fun _ => 0)) := by rw [e66, va_up_ne _ _ (by omega)]; exact hc16
  have hc17 : cs66 286 = .inl (gY G 14, 4, .inl (fun _ => 0)) := by rw [e66, va_up_ne _ _ (by omega)]; exact hc17
  have hc18 : cs66 287 = .inl (gY G 14, 4, .inl (fun _ => 0)) := by rw [e66, va_up_ne _ _ (by omega)]; exact hc18
  have hc19 : cs66 288 = .inl (gY G 14, 4, .inl (fun _ => 0)) := by rw [e66, va_up_ne _ _ (by omega)]; exact hc19
  have hc20 : cs66 289 = .inl (gY G 14, 4, .inl (fun _ => 0)) := by rw [e66, va_up_ne _ _ (by omega)]; exact hc20
  have hc21 : cs66 290 = .inl (gY G 14, 4, .inl (fun _ => 0)) := by rw [e66, va_up_ne _ _ (by omega)]; exact hc21
  have hc22 : cs66 291 = .inl (gY G 14, 4, .inl (fun _ => 0)) := by rw [e66, va_up_ne _ _ (by omega)]; exact hc22
  have hc23 : cs66 292 = .inl (gY G 14, 40, .inl (fun _ => 0)) := by rw [e66, va_up_ne _ _ (by omega)]; exact hc23
  have hc24 : cs66 293 = .inl (gY G 14, 40, .inl (fun _ => 0)) := by rw [e66, va_up_ne _ _ (by omega)]; exact hc24
  have hc25 : cs66 294 = .inl (gY G 14, 40, .inl (fun _ => 0)) := by rw [e66, va_up_ne _ _ (by omega)]; exact hc25
  have hc26 : cs66 295 = .inl (gY G 14, 64, .inl (fun _ => 0)) := by rw [e66, va_up_ne _ _ (by omega)]; exact hc26
  have hc27 : cs66 296 = .inl (gY G 14, 64, .inl (fun _ => 0)) := by rw [e66, va_up_ne _ _ (by omega)]; exact hc27
  have hc28 : cs66 297 = .inl (gY G 14, 64, .inl (fun _ => 0)) := by rw [e66, va_up_ne _ _ (by omega)]; exact hc28
  have hc29 : cs66 298 = .inl (gY G 14, 64, .inl (fun _ => 0)) := by rw [e66, va_up_ne _ _ (by omega)]; exact hc29
  have hc30 : cs66 299 = .inl (gY G 14, 64, .inl (fun _ => 0)) := by rw [e66, va_up_ne _ _ (by omega)]; exact hc30
  have hc31 : cs66 300 = .inl (gY G 14, 64, .inl (fun _ => 0)) := by rw [e66, va_up_ne _ _ (by omega)]; exact hc31
  have hc32 : cs66 301 = .inl (gY G 14, 64, .inl (fun _ => 0)) := by rw [e66, va_up_ne _ _ (by omega)]; exact hc32
  have hc33 : cs66 302 = .inl (gY G 14, 64, .inl (fun _ => 0)) := by rw [e66, va_up_ne _ _ (by omega)]; exact hc33
  have hc0 : cs66 269 = .inr (12, [.int 0, .ref (gA G 270), .ref (gA G 271), .ref (gA G 272), .ref (gA G 273), .ref (gA G 274), .ref (gA G 275), .ref (gA G 276), .ref (gA G 277), .ref (gA G 278), .int 0, .int 0, .int 0, .int 0, .int 0, .long 0, .int 0, .int 0, .int 0, .ref (gA G 279), .ref (gA G 280), .int 0, .int 0, .int 0, .int 0, .int 0, .int 0, .int 0, .int 0, .int 0, .int 0, .ref (gA G 281), .ref (gA G 282), .ref (gA G 283), .ref (gA G 284), .ref (gA G 285), .ref (gA G 286), .ref (gA G 287), .ref (gA G 288), .ref (gA G 289), .ref (gA G 290), .ref (gA G 291), .ref (gA G 292), .ref (gA G 293), .ref (gA G 294), .ref (gA G 295), .ref (gA G 296), .ref (gA G 297), .ref (gA G 298), .ref (gA G 299), .ref (gA G 300), .ref (gA G 301), .ref (gA G 302), .null, .int 0, .int 0, .int 0, .int 0, .int 0, .int 0, .null, .null, .int 0, .int 0, .int 0, .int 0, .int 0, .null, .null, .int 0, .null, .int 0, .int 0, .null, .null, .null, .int 0, .int 0, .int 0, .int 0, .int 0, .int 0, .null, .int 0, .int 0, .int 0, .int 0, .int 0, .int 0, .int 0, .int 0, .null]) := by rw [e66]; exact va_up_self _ _ _
  have hlo : ∀ n, n < 269 → cs66 n = cs n := fun n a => by rw [e66, va_up_ne _ _ (by omega)]; exact hlo n a
  clear e66
  refine ry_aload_n 0 dX12_init_263 rfl rfl ?_
  refine ry_sipush (v := 640) dX12_init_264 rfl ?_
  refine ry_newa (κ := 14) (n := 640) (atype := .int) (ty := .int) (t0 := 1) rfl wa_int rfl (fun _ _ => Iff.rfl) rfl (by decide) rfl (by decide) (by decide) (by decide) dX12_init_267 ?_
  refine ry_cs (fun cs67 e67 => ?_)
  have hc0 : cs67 269 = .inr (12, [.int 0, .ref (gA G 270), .ref (gA G 271), .ref (gA G 272), .ref (gA G 273), .ref (gA G 274), .ref (gA G 275), .ref (gA G 276), .ref (gA G 277), .ref (gA G 278), .int 0, .int 0, .int 0, .int 0, .int 0, .long 0, .int 0, .int 0, .int 0, .ref (gA G 279), .ref (gA G 280), .int 0, .int 0, .int 0, .int 0, .int 0, .int 0, .int 0, .int 0, .int 0, .int 0, .ref (gA G 281), .ref (gA G 282), .ref (gA G 283), .ref (gA G 284), .ref (gA G 285), .ref (gA G 286), .ref (gA G 287), .ref (gA G 288), .ref (gA G 289), .ref (gA G 290), .ref (gA G 291), .ref (gA G 292), .ref (gA G 293), .ref (gA G 294), .ref (gA G 295), .ref (gA G 296), .ref (gA G 297), .ref (gA G 298), .ref (gA G 299), .ref (gA G 300), .ref (gA G 301), .ref (gA G 302), .null, .int 0, .int 0, .int 0, .int 0, .int 0, .int 0, .null, .null, .int 0, .int 0, .int 0, .int 0, .int 0, .null, .null, .int 0, .null, .int 0, .int 0, .null, .null, .null, .int 0, .int 0, .int 0, .int 0, .int 0, .int 0, .null, .int 0, .int 0, .int 0, .int 0, .int 0, .int 0, .int 0, .int 0, .null]) := by rw [e67, va_up_ne _ _ (by omega)]; exact hc0
  have hc1 : cs67 270 = .inl (gY G 13, 2400, .inl (fun _ => 0)) := by rw [e67, va_up_ne _ _ (by omega)]; exact hc1
  have hc2 : cs67 271 = .inl (gY G 14, 4, .inl (fun _ => 0)) := by rw [e67, va_up_ne _ _ (by omega)]; exact hc2
  have hc3 : cs67 272 = .inl (gY G 14, 4, .inl (fun _ => 0)) := by rw [e67, va_up_ne _ _ (by omega)]; exact hc3
  have hc4 : cs67 273 = .inl (gY G 14, 4, .inl (fun _ => 0)) := by rw [e67, va_up_ne _ _ (by omega)]; exact hc4
  have hc5 : cs67 274 = .inl (gY G 14, 16, .inl (fun _ => 0)) := by rw [e67, va_up_ne _ _ (by omega)]; exact hc5
  have hc6 : cs67 275 = .inl (gY G 14, 104, .inl (fun _ => 0)) := by rw [e67, va_up_ne _ _ (by omega)]; exact hc6
  have hc7 : cs67 276 = .inl (gY G 14, 1072, .inl (fun _ => 0)) := by rw [e67, va_up_ne _ _ (by omega)]; exact hc7
  have hc8 : cs67 277 = .inl (gY G 14, 968, .inl (fun _ => 0)) := by rw [e67, va_up_ne _ _ (by omega)]; exact hc8
  have hc9 : cs67 278 = .inl (gY G 14, 136, .inl (fun _ => 0)) := by rw [e67, va_up_ne _ _ (by omega)]; exact hc9
  have hc10 : cs67 279 = .inl (gY G 14, 134, .inl (fun _ => 0)) := by rw [e67, va_up_ne _ _ (by omega)]; exact hc10
  have hc11 : cs67 280 = .inl (gY G 14, 3, .inl (fun _ => 0)) := by rw [e67, va_up_ne _ _ (by omega)]; exact hc11
  have hc12 : cs67 281 = .inl (gY G 14, 10, .inl (fun _ => 0)) := by rw [e67, va_up_ne _ _ (by omega)]; exact hc12
  have hc13 : cs67 282 = .inl (gY G 14, 10, .inl (fun _ => 0)) := by rw [e67, va_up_ne _ _ (by omega)]; exact hc13
  have hc14 : cs67 283 = .inl (gY G 14, 10, .inl (fun _ => 0)) := by rw [e67, va_up_ne _ _ (by omega)]; exact hc14
  have hc15 : cs67 284 = .inl (gY G 14, 10, .inl (fun _ => 0)) := by rw [e67, va_up_ne _ _ (by omega)]; exact hc15
  have hc16 : cs67 285 = .inl (gY G 14, 10, .inl (fun _ => 0)) := by rw [e67, va_up_ne _ _ (by omega)]; exact hc16
  have hc17 : cs67 286 = .inl (gY G 14, 4, .inl (fun _ => 0)) := by rw [e67, va_up_ne _ _ (by omega)]; exact hc17
  have hc18 : cs67 287 = .inl (gY G 14, 4, .inl (fun _ => 0)) := by rw [e67, va_up_ne _ _ (by omega)]; exact hc18
  have hc19 : cs67 288 = .inl (gY G 14, 4, .inl (fun _ => 0)) := by rw [e67, va_up_ne _ _ (by omega)]; exact hc19
  have hc20 : cs67 289 = .inl (gY G 14, 4, .inl (fun _ => 0)) := by rw [e67, va_up_ne _ _ (by omega)]; exact hc20
  have hc21 : cs67 290 = .inl (gY G 14, 4, .inl (fun _ => 0)) := by rw [e67, va_up_ne _ _ (by omega)]; exact hc21
  have hc22 : cs67 291 = .inl (gY G 14, 4, .inl (fun _ => 0)) := by rw [e67, va_up_ne _ _ (by omega)]; exact hc22
  have hc23 : cs67 292 = .inl (gY G 14, 40, .inl (fun _ => 0)) := by rw [e67, va_up_ne _ _ (by omega)]; exact hc23
  have hc24 : cs67 293 = .inl (gY G 14, 40, .inl (fun _ => 0)) := by rw [e67, va_up_ne _ _ (by omega)]; exact hc24
  have hc25 : cs67 294 = .inl (gY G 14, 40, .inl (fun _ => 0)) := by rw [e67, va_up_ne _ _ (by omega)]; exact hc25
  have hc26 : cs67 295 = .inl (gY G 14, 64, .inl (fun _ => 0)) := by rw [e67, va_up_ne _ _ (by omega)]; exact hc26
  have hc27 : cs67 296 = .inl (gY G 14, 64, .inl (fun _ => 0)) := by rw [e67, va_up_ne _ _ (by omega)]; exact hc27
  have hc28 : cs67 297 = .inl (gY G 14, 64, .inl (fun _ => 0)) := by rw [e67, va_up_ne _ _ (by omega)]; exact hc28
  have hc29 : cs67 298 = .inl (gY G 14, 64, .inl (fun _ => 0)) := by rw [e67, va_up_ne _ _ (by omega)]; exact hc29
  have hc30 : cs67 299 = .inl (gY G 14, 64, .inl (fun _ => 0)) := by rw [e67, va_up_ne _ _ (by omega)]; exact hc30
  have hc31 : cs67 300 = .inl (gY G 14, 64, .inl (fun _ => 0)) := by rw [e67, va_up_ne _ _ (by omega)]; exact hc31
  have hc32 : cs67 301 = .inl (gY G 14, 64, .inl (fun _ => 0)) := by rw [e67, va_up_ne _ _ (by omega)]; exact hc32
  have hc33 : cs67 302 = .inl (gY G 14, 64, .inl (fun _ => 0)) := by rw [e67, va_up_ne _ _ (by omega)]; exact hc33
  have hc34 : cs67 303 = .inl (gY G 14, 640, .inl (fun _ => 0)) := by rw [e67]; exact va_up_self _ _ _
  have hlo : ∀ n, n < 269 → cs67 n = cs n := fun n a => by rw [e67, va_up_ne _ _ (by omega)]; exact hlo n a
  clear e67
  refine ry_putF ff_X12_110 rfl (by omega) hc0 rfl rfl (by decide) dX12_init_269 ?_
  refine ry_cs (fun cs68 e68 => ?_)
  have hc1 : cs68 270 = .inl (gY G 13, 2400, .inl (fun _ => 0)) := by rw [e68, va_up_ne _ _ (by omega)]; exact hc1
  have hc2 : cs68 271 = .inl (gY G 14, 4, .inl (fun _ => 0)) := by rw [e68, va_up_ne _ _ (by omega)]; exact hc2
  have hc3 : cs68 272 = .inl (gY G 14, 4, .inl (fun _ => 0)) := by rw [e68, va_up_ne _ _ (by omega)]; exact hc3
  have hc4 : cs68 273 = .inl (gY G 14, 4, .inl (fun _ => 0)) := by rw [e68, va_up_ne _ _ (by omega)]; exact hc4
  have hc5 : cs68 274 = .inl (gY G 14, 16, .inl (fun _ => 0)) := by rw [e68, va_up_ne _ _ (by omega)]; exact hc5
  have hc6 : cs68 275 = .inl (gY G 14, 104, .inl (fun _ => 0)) := by rw [e68, va_up_ne _ _ (by omega)]; exact hc6
  have hc7 : cs68 276 = .inl (gY G 14, 1072, .inl (fun _ => 0)) := by rw [e68, va_up_ne _ _ (by omega)]; exact hc7
  have hc8 : cs68 277 = .inl (gY G 14, 968, .inl (fun _ => 0)) := by rw [e68, va_up_ne _ _ (by omega)]; exact hc8
  have hc9 : cs68 278 = .inl (gY G 14, 136, .inl (fun _ => 0)) := by rw [e68, va_up_ne _ _ (by omega)]; exact hc9
  have hc10 : cs68 279 = .inl (gY G 14, 134, .inl (fun _ => 0)) := by rw [e68, va_up_ne _ _ (by omega)]; exact hc10
  have hc11 : cs68 280 = .inl (gY G 14, 3, .inl (fun _ => 0)) := by rw [e68, va_up_ne _ _ (by omega)]; exact hc11
  have hc12 : cs68 281 = .inl (gY G 14, 10, .inl (fun _ => 0)) := by rw [e68, va_up_ne _ _ (by omega)]; exact hc12
  have hc13 : cs68 282 = .inl (gY G 14, 10, .inl (fun _ => 0)) := by rw [e68, va_up_ne _ _ (by omega)]; exact hc13
  have hc14 : cs68 283 = .inl (gY G 14, 10, .inl (fun _ => 0)) := by rw [e68, va_up_ne _ _ (by omega)]; exact hc14
  have hc15 : cs68 284 = .inl (gY G 14, 10, .inl (fun _ => 0)) := by rw [e68, va_up_ne _ _ (by omega)]; exact hc15
  have hc16 : cs68 285 = .inl (gY G 14, 10, .inl (fun _ => 0)) := by rw [e68, va_up_ne _ _ (by omega)]; exact hc16
  have hc17 : cs68 286 = .inl (gY G 14, 4, .inl (fun _ => 0)) := by rw [e68, va_up_ne _ _ (by omega)]; exact hc17
  have hc18 : cs68 287 = .inl (gY G 14, 4, .inl (fun _ => 0)) := by rw [e68, va_up_ne _ _ (by omega)]; exact hc18
  have hc19 : cs68 288 = .inl (gY G 14, 4, .inl (fun _ => 0)) := by rw [e68, va_up_ne _ _ (by omega)]; exact hc19
  have hc20 : cs68 289 = .inl (gY G 14, 4, .inl (fun _ => 0)) := by rw [e68, va_up_ne _ _ (by omega)]; exact hc20
  have hc21 : cs68 290 = .inl (gY G 14, 4, .inl (fun _ => 0)) := by rw [e68, va_up_ne _ _ (by omega)]; exact hc21
  have hc22 : cs68 291 = .inl (gY G 14, 4, .inl (fun _ => 0)) := by rw [e68, va_up_ne _ _ (by omega)]; exact hc22
  have hc23 : cs68 292 = .inl (gY G 14, 40, .inl (fun _ => 0)) := by rw [e68, va_up_ne _ _ (by omega)]; exact hc23
  have hc24 : cs68 293 = .inl (gY G 14, 40, .inl (fun _ => 0)) := by rw [e68, va_up_ne _ _ (by omega)]; exact hc24
  have hc25 : cs68 294 = .inl (gY G 14, 40, .inl (fun _ => 0)) := by rw [e68, va_up_ne _ _ (by omega)]; exact hc25
  have hc26 : cs68 295 = .inl (gY G 14, 64, .inl (fun _ => 0)) := by rw [e68, va_up_ne _ _ (by omega)]; exact hc26
  have hc27 : cs68 296 = .inl (gY G 14, 64, .inl (fun _ => 0)) := by rw [e68, va_up_ne _ _ (by omega)]; exact hc27
  have hc28 : cs68 297 = .inl (gY G 14, 64, .inl (fun _ => 0)) := by rw [e68, va_up_ne _ _ (by omega)]; exact hc28
  have hc29 : cs68 298 = .inl (gY G 14, 64, .inl (fun _ => 0)) := by rw [e68, va_up_ne _ _ (by omega)]; exact hc29
  have hc30 : cs68 299 = .inl (gY G 14, 64, .inl (fun _ => 0)) := by rw [e68, va_up_ne _ _ (by omega)]; exact hc30
  have hc31 : cs68 300 = .inl (gY G 14, 64, .inl (fun _ => 0)) := by rw [e68, va_up_ne _ _ (by omega)]; exact hc31
  have hc32 : cs68 301 = .inl (gY G 14, 64, .inl (fun _ => 0)) := by rw [e68, va_up_ne _ _ (by omega)]; exact hc32
  have hc33 : cs68 302 = .inl (gY G 14, 64, .inl (fun _ => 0)) := by rw [e68, va_up_ne _ _ (by omega)]; exact hc33
  have hc34 : cs68 303 = .inl (gY G 14, 640, .inl (fun _ => 0)) := by rw [e68, va_up_ne _ _ (by omega)]; exact hc34
  have hc0 : cs68 269 = .inr (12, [.int 0, .ref (gA G 270), .ref (gA G 271), .ref (gA G 272), .ref (gA G 273), .ref (gA G 274), .ref (gA G 275), .ref (gA G 276), .ref (gA G 277), .ref (gA G 278), .int 0, .int 0, .int 0, .int 0, .int 0, .long 0, .int 0, .int 0, .int 0, .ref (gA G 279), .ref (gA G 280), .int 0, .int 0, .int 0, .int 0, .int 0, .int 0, .int 0, .int 0, .int 0, .int 0, .ref (gA G 281), .ref (gA G 282), .ref (gA G 283), .ref (gA G 284), .ref (gA G 285), .ref (gA G 286), .ref (gA G 287), .ref (gA G 288), .ref (gA G 289), .ref (gA G 290), .ref (gA G 291), .ref (gA G 292), .ref (gA G 293), .ref (gA G 294), .ref (gA G 295), .ref (gA G 296), .ref (gA G 297), .ref (gA G 298), .ref (gA G 299), .ref (gA G 300), .ref (gA G 301), .ref (gA G 302), .ref (gA G 303), .int 0, .int 0, .int 0, .int 0, .int 0, .int 0, .null, .null, .int 0, .int 0, .int 0, .int 0, .int 0, .null, .null, .int 0, .null, .int 0, .int 0, .null, .null, .null, .int 0, .int 0, .int 0, .int 0, .int 0, .int 0, .null, .int 0, .int 0, .int 0, .int 0, .int 0, .int 0, .int 0, .int 0, .null]) := by rw [e68]; exact va_up_self _ _ _
  have hlo : ∀ n, n < 269 → cs68 n = cs n := fun n a => by rw [e68, va_up_ne _ _ (by omega)]; exact hlo n a
  clear e68
  refine ry_aload_n 0 dX12_init_272 rfl rfl ?_
  refine ry_bipush (v := 7) dX12_init_273 rfl ?_
  refine ry_newa (κ := 14) (n := 7) (atype := .int) (ty := .int) (t0 := 1) rfl wa_int rfl (fun _ _ => Iff.rfl) rfl (by decide) rfl (by decide) (by decide) (by decide) dX12_init_275 ?_
  refine ry_cs (fun cs69 e69 => ?_)
  have hc0 : cs69 269 = .inr (12, [.int 0, .ref (gA G 270), .ref (gA G 271), .ref (gA G 272), .ref (gA G 273), .ref (gA G 274), .ref (gA G 275), .ref (gA G 276), .ref (gA G 277), .ref (gA G 278), .int 0, .int 0, .int 0, .int 0, .int 0, .long 0, .int 0, .int 0, .int 0, .ref (gA G 279), .ref (gA G 280), .int 0, .int 0, .int 0, .int 0, .int 0, .int 0, .int 0, .int 0, .int 0, .int 0, .ref (gA G 281), .ref (gA G 282), .ref (gA G 283), .ref (gA G 284), .ref (gA G 285), .ref (gA G 286), .ref (gA G 287), .ref (gA G 288), .ref (gA G 289), .ref (gA G 290), .ref (gA G 291), .ref (gA G 292), .ref (gA G 293), .ref (gA G 294), .ref (gA G 295), .ref (gA G 296), .ref (gA G 297), .ref (gA G 298), .ref (gA G 299), .ref (gA G 300), .ref (gA G 301), .ref (gA G 302), .ref (gA G 303), .int 0, .int 0, .int 0, .int 0, .int 0, .int 0, .null, .null, .int 0, .int 0, .int 0, .int 0, .int 0, .null, .null, .int 0, .null, .int 0, .int 0, .null, .null, .null, .int 0, .int 0, .int 0, .int 0, .int 0, .int 0, .null, .int 0, .int 0, .int 0, .int 0, .int 0, .int 0, .int 0, .int 0, .null]) := by rw [e69, va_up_ne _ _ (by omega)]; exact hc0
  have hc1 : cs69 270 = .inl (gY G 13, 2400, .inl (fun _ => 0)) := by rw [e69, va_up_ne _ _ (by omega)]; exact hc1
  have hc2 : cs69 271 = .inl (gY G 14, 4, .inl (fun _ => 0)) := by rw [e69, va_up_ne _ _ (by omega)]; exact hc2
  have hc3 : cs69 272 = .inl (gY G 14, 4, .inl (fun _ => 0)) := by rw [e69, va_up_ne _ _ (by omega)]; exact hc3
  have hc4 : cs69 273 = .inl (gY G 14, 4, .inl (fun _ => 0)) := by rw [e69, va_up_ne _ _ (by omega)]; exact hc4
  have hc5 : cs69 274 = .inl (gY G 14, 16, .inl (fun _ => 0)) := by rw [e69, va_up_ne _ _ (by omega)]; exact hc5
  have hc6 : cs69 275 = .inl (gY G 14, 104, .inl (fun _ => 0)) := by rw [e69, va_up_ne _ _ (by omega)]; exact hc6
  have hc7 : cs69 276 = .inl (gY G 14, 1072, .inl (fun _ => 0)) := by rw [e69, va_up_ne _ _ (by omega)]; exact hc7
  have hc8 : cs69 277 = .inl (gY G 14, 968, .inl (fun _ => 0)) := by rw [e69, va_up_ne _ _ (by omega)]; exact hc8
  have hc9 : cs69 278 = .inl (gY G 14, 136, .inl (fun _ => 0)) := by rw [e69, va_up_ne _ _ (by omega)]; exact hc9
  have hc10 : cs69 279 = .inl (gY G 14, 134, .inl (fun _ => 0)) := by rw [e69, va_up_ne _ _ (by omega)]; exact hc10
  have hc11 : cs69 280 = .inl (gY G 14, 3, .inl (fun _ => 0)) := by rw [e69, va_up_ne _ _ (by omega)]; exact hc11
  have hc12 : cs69 281 = .inl (gY G 14, 10, .inl (fun _ => 0)) := by rw [e69, va_up_ne _ _ (by omega)]; exact hc12
  have hc13 : cs69 282 = .inl (gY G 14, 10, .inl (fun _ => 0)) := by rw [e69, va_up_ne _ _ (by omega)]; exact hc13
  have hc14 : cs69 283 = .inl (gY G 14, 10, .inl (fun _ => 0)) := by rw [e69, va_up_ne _ _ (by omega)]; exact hc14
  have hc15 : cs69 284 = .inl (gY G 14, 10, .inl (fun _ => 0)) := by rw [e69, va_up_ne _ _ (by omega)]; exact hc15
  have hc16 : cs69 285 = .inl (gY G 14, 10, .inl (fun _ => 0)) := by rw [e69, va_up_ne _ _ (by omega)]; exact hc16
  have hc17 : cs69 286 = .inl (gY G 14, 4, .inl (fun _ => 0)) := by rw [e69, va_up_ne _ _ (by omega)]; exact hc17
  have hc18 : cs69 287 = .inl (gY G 14, 4, .inl (fun _ => 0)) := by rw [e69, va_up_ne _ _ (by omega)]; exact hc18
  have hc19 : cs69 288 = .inl (gY G 14, 4, .inl (fun _ => 0)) := by rw [e69, va_up_ne _ _ (by omega)]; exact hc19
  have hc20 : cs69 289 = .inl (gY G 14, 4, .inl (fun _ => 0)) := by rw [e69, va_up_ne _ _ (by omega)]; exact hc20
  have hc21 : cs69 290 = .inl (gY G 14, 4, .inl (fun _ => 0)) := by rw [e69, va_up_ne _ _ (by omega)]; exact hc21
  have hc22 : cs69 291 = .inl (gY G 14, 4, .inl (fun _ => 0)) := by rw [e69, va_up_ne _ _ (by omega)]; exact hc22
  have hc23 : cs69 292 = .inl (gY G 14, 40, .inl (fun _ => 0)) := by rw [e69, va_up_ne _ _ (by omega)]; exact hc23
  have hc24 : cs69 293 = .inl (gY G 14, 40, .inl (fun _ => 0)) := by rw [e69, va_up_ne _ _ (by omega)]; exact hc24
  have hc25 : cs69 294 = .inl (gY G 14, 40, .inl (fun _ => 0)) := by rw [e69, va_up_ne _ _ (by omega)]; exact hc25
  have hc26 : cs69 295 = .inl (gY G 14, 64, .inl (fun _ => 0)) := by rw [e69, va_up_ne _ _ (by omega)]; exact hc26
  have hc27 : cs69 296 = .inl (gY G 14, 64, .inl (fun _ => 0)) := by rw [e69, va_up_ne _ _ (by omega)]; exact hc27
  have hc28 : cs69 297 = .inl (gY G 14, 64, .inl (fun _ => 0)) := by rw [e69, va_up_ne _ _ (by omega)]; exact hc28
  have hc29 : cs69 298 = .inl (gY G 14, 64, .inl (fun _ => 0)) := by rw [e69, va_up_ne _ _ (by omega)]; exact hc29
  have hc30 : cs69 299 = .inl (gY G 14, 64, .inl (fun _ => 0)) := by rw [e69, va_up_ne _ _ (by omega)]; exact hc30
  have hc31 : cs69 300 = .inl (gY G 14, 64, .inl (fun _ => 0)) := by rw [e69, va_up_ne _ _ (by omega)]; exact hc31
  have hc32 : cs69 301 = .inl (gY G 14, 64, .inl (fun _ => 0)) := by rw [e69, va_up_ne _ _ (by omega)]; exact hc32
  have hc33 : cs69 302 = .inl (gY G 14, 64, .inl (fun _ => 0)) := by rw [e69, va_up_ne _ _ (by omega)]; exact hc33
  have hc34 : cs69 303 = .inl (gY G 14, 640, .inl (fun _ => 0)) := by rw [e69, va_up_ne _ _ (by omega)]; exact hc34
  have hc35 : cs69 304 = .inl (gY G 14, 7, .inl (fun _ => 0)) := by rw [e69]; exact va_up_self _ _ _
  have hlo : ∀ n, n < 269 → cs69 n = cs n := fun n a => by rw [e69, va_up_ne _ _ (by omega)]; exact hlo n a
  clear e69
  refine ry_putF ff_X12_113 rfl (by omega) hc0 rfl rfl (by decide) dX12_init_277 ?_
  refine ry_cs (fun cs70 e70 => ?_)
  have hc1 : cs70 270 = .inl (gY G 13, 2400, .inl (fun _ => 0)) := by rw [e70, va_up_ne _ _ (by omega)]; exact hc1
  have hc2 : cs70 271 = .inl (gY G 14, 4, .inl (fun _ => 0)) := by rw [e70, va_up_ne _ _ (by omega)]; exact hc2
  have hc3 : cs70 272 = .inl (gY G 14, 4, .inl (fun _ => 0)) := by rw [e70, va_up_ne _ _ (by omega)]; exact hc3
  have hc4 : cs70 273 = .inl (gY G 14, 4, .inl (fun _ => 0)) := by rw [e70, va_up_ne _ _ (by omega)]; exact hc4
  have hc5 : cs70 274 = .inl (gY G 14, 16, .inl (fun _ => 0)) := by rw [e70, va_up_ne _ _ (by omega)]; exact hc5
  have hc6 : cs70 275 = .inl (gY G 14, 104, .inl (fun _ => 0)) := by rw [e70, va_up_ne _ _ (by omega)]; exact hc6
  have hc7 : cs70 276 = .inl (gY G 14, 1072, .inl (fun _ => 0)) := by rw [e70, va_up_ne _ _ (by omega)]; exact hc7
  have hc8 : cs70 277 = .inl (gY G 14, 968, .inl (fun _ => 0)) := by rw [e70, va_up_ne _ _ (by omega)]; exact hc8
  have hc9 : cs70 278 = .inl (gY G 14, 136, .inl (fun _ => 0)) := by rw [e70, va_up_ne _ _ (by omega)]; exact hc9
  have hc10 : cs70 279 = .inl (gY G 14, 134, .inl (fun _ => 0)) := by rw [e70, va_up_ne _ _ (by omega)]; exact hc10
  have hc11 : cs70 280 = .inl (gY G 14, 3, .inl (fun _ => 0)) := by rw [e70, va_up_ne _ _ (by omega)]; exact hc11
  have hc12 : cs70 281 = .inl (gY G 14, 10, .inl (fun _ => 0)) := by rw [e70, va_up_ne _ _ (by omega)]; exact hc12
  have hc13 : cs70 282 = .inl (gY G 14, 10, .inl (fun _ => 0)) := by rw [e70, va_up_ne _ _ (by omega)]; exact hc13
  have hc14 : cs70 283 = .inl (gY G 14, 10, .inl (fun _ => 0)) := by rw [e70, va_up_ne _ _ (by omega)]; exact hc14
  have hc15 : cs70 284 = .inl (gY G 14, 10, .inl (fun _ => 0)) := by rw [e70, va_up_ne _ _ (by omega)]; exact hc15
  have hc16 : cs70 285 = .inl (gY G 14, 10, .inl (fun _ => 0)) := by rw [e70, va_up_ne _ _ (by omega)]; exact hc16
  have hc17 : cs70 286 = .inl (gY G 14, 4, .inl (fun _ => 0)) := by rw [e70, va_up_ne _ _ (by omega)]; exact hc17
  have hc18 : cs70 287 = .inl (gY G 14, 4, .inl (fun _ => 0)) := by rw [e70, va_up_ne _ _ (by omega)]; exact hc18
  have hc19 : cs70 288 = .inl (gY G 14, 4, .inl (fun _ => 0)) := by rw [e70, va_up_ne _ _ (by omega)]; exact hc19
  have hc20 : cs70 289 = .inl (gY G 14, 4, .inl (fun _ => 0)) := by rw [e70, va_up_ne _ _ (by omega)]; exact hc20
  have hc21 : cs70 290 = .inl (gY G 14, 4, .inl (fun _ => 0)) := by rw [e70, va_up_ne _ _ (by omega)]; exact hc21
  have hc22 : cs70 291 = .inl (gY G 14, 4, .inl (fun _ => 0)) := by rw [e70, va_up_ne _ _ (by omega)]; exact hc22
  have hc23 : cs70 292 = .inl (gY G 14, 40, .inl (fun _ => 0)) := by rw [e70, va_up_ne _ _ (by omega)]; exact hc23
  have hc24 : cs70 293 = .inl (gY G 14, 40, .inl (fun _ => 0)) := by rw [e70, va_up_ne _ _ (by omega)]; exact hc24
  have hc25 : cs70 294 = .inl (gY G 14, 40, .inl (fun _ => 0)) := by rw [e70, va_up_ne _ _ (by omega)]; exact hc25
  have hc26 : cs70 295 = .inl (gY G 14, 64, .inl (fun _ => 0)) := by rw [e70, va_up_ne _ _ (by omega)]; exact hc26
  have hc27 : cs70 296 = .inl (gY G 14, 64, .inl (fun _ => 0)) := by rw [e70, va_up_ne _ _ (by omega)]; exact hc27
  have hc28 : cs70 297 = .inl (gY G 14, 64, .inl (fun _ => 0)) := by rw [e70, va_up_ne _ _ (by omega)]; exact hc28
  have hc29 : cs70 298 = .inl (gY G 14, 64, .inl (fun _ => 0)) := by rw [e70, va_up_ne _ _ (by omega)]; exact hc29
  have hc30 : cs70 299 = .inl (gY G 14, 64, .inl (fun _ => 0)) := by rw [e70, va_up_ne _ _ (by omega)]; exact hc30
  have hc31 : cs70 300 = .inl (gY G 14, 64, .inl (fun _ => 0)) := by rw [e70, va_up_ne _ _ (by omega)]; exact hc31
  have hc32 : cs70 301 = .inl (gY G 14, 64, .inl (fun _ => 0)) := by rw [e70, va_up_ne _ _ (by omega)]; exact hc32
  have hc33 : cs70 302 = .inl (gY G 14, 64, .inl (fun _ => 0)) := by rw [e70, va_up_ne _ _ (by omega)]; exact hc33
  have hc34 : cs70 303 = .inl (gY G 14, 640, .inl (fun _ => 0)) := by rw [e70, va_up_ne _ _ (by omega)]; exact hc34
  have hc35 : cs70 304 = .inl (gY G 14, 7, .inl (fun _ => 0)) := by rw [e70, va_up_ne _ _ (by omega)]; exact hc35
  have hc0 : cs70 269 = .inr (12, [.int 0, .ref (gA G 270), .ref (gA G 271), .ref (gA G 272), .ref (gA G 273), .ref (gA G 274), .ref (gA G 275), .ref (gA G 276), .ref (gA G 277), .ref (gA G 278), .int 0, .int 0, .int 0, .int 0, .int 0, .long 0, .int 0, .int 0, .int 0, .ref (gA G 279), .ref (gA G 280), .int 0, .int 0, .int 0, .int 0, .int 0, .int 0, .int 0, .int 0, .int 0, .int 0, .ref (gA G 281), .ref (gA G 282), .ref (gA G 283), .ref (gA G 284), .ref (gA G 285), .ref (gA G 286), .ref (gA G 287), .ref (gA G 288), .ref (gA G 289), .ref (gA G 290), .ref (gA G 291), .ref (gA G 292), .ref (gA G 293), .ref (gA G 294), .ref (gA G 295), .ref (gA G 296), .ref (gA G 297), .ref (gA G 298), .ref (gA G 299), .ref (gA G 300), .ref (gA G 301), .ref (gA G 302), .ref (gA G 303), .int 0, .int 0, .int 0, .int 0, .int 0, .int 0, .ref (gA G 304), .null, .int 0, .int 0, .int 0, .int 0, .int 0, .null, .null, .int 0, .null, .int 0, .int 0, .null, .null, .null, .int 0, .int 0, .int 0, .int 0, .int 0, .int 0, .null, .int 0, .int 0, .int 0, .int 0, .int 0, .int 0, .int 0, .int 0, .null]) := by rw [e70]; exact va_up_self _ _ _
  have hlo : ∀ n, n < 269 → cs70 n = cs n := fun n a => by rw [e70, va_up_ne _ _ (by omega)]; exact hlo n a
  clear e70
  refine ry_aload_n 0 dX12_init_280 rfl rfl ?_
  refine ry_bipush (v := 10) dX12_init_281 rfl ?_
  refine ry_newa (κ := 14) (n := 10) (atype := .int) (ty := .int) (t0 := 1) rfl wa_int rfl (fun _ _ => Iff.rfl) rfl (by decide) rfl (by decide) (by decide) (by decide) dX12_init_283 ?_
  refine ry_cs (fun cs71 e71 => ?_)
  have hc0 : cs71 269 = .inr (12, [.int 0, .ref (gA G 270), .ref (gA G 271), .ref (gA G 272), .ref (gA G 273), .ref (gA G 274), .ref (gA G 275), .ref (gA G 276), .ref (gA G 277), .ref (gA G 278), .int 0, .int 0, .int 0, .int 0, .int 0, .long 0, .int 0, .int 0, .int 0, .ref (gA G 279), .ref (gA G 280), .int 0, .int 0, .int 0, .int 0, .int 0, .int 0, .int 0, .int 0, .int 0, .int 0, .ref (gA G 281), .ref (gA G 282), .ref (gA G 283), .ref (gA G 284), .ref (gA G 285), .ref (gA G 286), .ref (gA G 287), .ref (gA G 288), .ref (gA G 289), .ref (gA G 290), .ref (gA G 291), .ref (gA G 292), .ref (gA G 293), .ref (gA G 294), .ref (gA G 295), .ref (gA G 296), .ref (gA G 297), .ref (gA G 298), .ref (gA G 299), .ref (gA G 300), .ref (gA G 301), .ref (gA G 302), .ref (gA G 303), .int 0, .int 0, .int 0, .int 0, .int 0, .int 0, .ref (gA G 304), .null, .int 0, .int 0, .int 0, .int 0, .int 0, .null, .null, .int 0, .null, .int 0, .int 0, .null, .null, .null, .int 0, .int 0, .int 0, .int 0, .int 0, .int 0, .null, .int 0, .int 0, .int 0, .int 0, .int 0, .int 0, .int 0, .int 0, .null]) := by rw [e71, va_up_ne _ _ (by omega)]; exact hc0
  have hc1 : cs71 270 = .inl (gY G 13, 2400, .inl (fun _ => 0)) := by rw [e71, va_up_ne _ _ (by omega)]; exact hc1
  have hc2 : cs71 271 = .inl (gY G 14, 4, .inl (fun _ => 0)) := by rw [e71, va_up_ne _ _ (by omega)]; exact hc2
  have hc3 : cs71 272 = .inl (gY G 14, 4, .inl (fun _ => 0)) := by rw [e71, va_up_ne _ _ (by omega)]; exact hc3
  have hc4 : cs71 273 = .inl (gY G 14, 4, .inl (fun _ => 0)) := by rw [e71, va_up_ne _ _ (by omega)]; exact hc4
  have hc5 : cs71 274 = .inl (gY G 14, 16, .inl (fun _ => 0)) := by rw [e71, va_up_ne _ _ (by omega)]; exact hc5
  have hc6 : cs71 275 = .inl (gY G 14, 104, .inl (fun _ => 0)) := by rw [e71, va_up_ne _ _ (by omega)]; exact hc6
  have hc7 : cs71 276 = .inl (gY G 14, 1072, .inl (fun _ => 0)) := by rw [e71, va_up_ne _ _ (by omega)]; exact hc7
  have hc8 : cs71 277 = .inl (gY G 14, 968, .inl (fun _ => 0)) := by rw [e71, va_up_ne _ _ (by omega)]; exact hc8
  have hc9 : cs71 278 = .inl (gY G 14, 136, .inl (fun _ => 0)) := by rw [e71, va_up_ne _ _ (by omega)]; exact hc9
  have hc10 : cs71 279 = .inl (gY G 14, 134, .inl (fun _ => 0)) := by rw [e71, va_up_ne _ _ (by omega)]; exact hc10
  have hc11 : cs71 280 = .inl (gY G 14, 3, .inl (fun _ => 0)) := by rw [e71, va_up_ne _ _ (by omega)]; exact hc11
  have hc12 : cs71 281 = .inl (gY G 14, 10, .inl (fun _ => 0)) := by rw [e71, va_up_ne _ _ (by omega)]; exact hc12
  have hc13 : cs71 282 = .inl (gY G 14, 10, .inl (fun _ => 0)) := by rw [e71, va_up_ne _ _ (by omega)]; exact hc13
  have hc14 : cs71 283 = .inl (gY G 14, 10, .inl (fun _ => 0)) := by rw [e71, va_up_ne _ _ (by omega)]; exact hc14
  have hc15 : cs71 284 = .inl (gY G 14, 10, .inl (fun _ => 0)) := by rw [e71, va_up_ne _ _ (by omega)]; exact hc15
  have hc16 : cs71 285 = .inl (gY G 14, 10, .inl (fun _ => 0)) := by rw [e71, va_up_ne _ _ (by omega)]; exact hc16
  have hc17 : cs71 286 = .inl (gY G 14, 4, .inl (fun _ => 0)) := by rw [e71, va_up_ne _ _ (by omega)]; exact hc17
  have hc18 : cs71 287 = .inl (gY G 14, 4, .inl (fun _ => 0)) := by rw [e71, va_up_ne _ _ (by omega)]; exact hc18
  have hc19 : cs71 288 = .inl (gY G 14, 4, .inl (fun _ => 0)) := by rw [e71, va_up_ne _ _ (by omega)]; exact hc19
  have hc20 : cs71 289 = .inl (gY G 14, 4, .inl (fun _ => 0)) := by rw [e71, va_up_ne _ _ (by omega)]; exact hc20
  have hc21 : cs71 290 = .inl (gY G 14, 4, .inl (fun _ => 0)) := by rw [e71, va_up_ne _ _ (by omega)]; exact hc21
  have hc22 : cs71 291 = .inl (gY G 14, 4, .inl (fun _ => 0)) := by rw [e71, va_up_ne _ _ (by omega)]; exact hc22
  have hc23 : cs71 292 = .inl (gY G 14, 40, .inl (fun _ => 0)) := by rw [e71, va_up_ne _ _ (by omega)]; exact hc23
  have hc24 : cs71 293 = .inl (gY G 14, 40, .inl (fun _ => 0)) := by rw [e71, va_up_ne _ _ (by omega)]; exact hc24
  have hc25 : cs71 294 = .inl (gY G 14, 40, .inl (fun _ => 0)) := by rw [e71, va_up_ne _ _ (by omega)]; exact hc25
  have hc26 : cs71 295 = .inl (gY G 14, 64, .inl (fun _ => 0)) := by rw [e71, va_up_ne _ _ (by omega)]; exact hc26
  have hc27 : cs71 296 = .inl (gY G 14, 64, .inl (fun _ => 0)) := by rw [e71, va_up_ne _ _ (by omega)]; exact hc27
  have hc28 : cs71 297 = .inl (gY G 14, 64, .inl (fun _ => 0)) := by rw [e71, va_up_ne _ _ (by omega)]; exact hc28
  have hc29 : cs71 298 = .inl (gY G 14, 64, .inl (fun _ => 0)) := by rw [e71, va_up_ne _ _ (by omega)]; exact hc29
  have hc30 : cs71 299 = .inl (gY G 14, 64, .inl (fun _ => 0)) := by rw [e71, va_up_ne _ _ (by omega)]; exact hc30
  have hc31 : cs71 300 = .inl (gY G 14, 64, .inl (fun _ => 0)) := by rw [e71, va_up_ne _ _ (by omega)]; exact hc31
  have hc32 : cs71 301 = .inl (gY G 14, 64, .inl (fun _ => 0)) := by rw [e71, va_up_ne _ _ (by omega)]; exact hc32
  have hc33 : cs71 302 = .inl (gY G 14, 64, .inl (fun _ => 0)) := by rw [e71, va_up_ne _ _ (by omega)]; exact hc33
  have hc34 : cs71 303 = .inl (gY G 14, 640, .inl (fun _ => 0)) := by rw [e71, va_up_ne _ _ (by omega)]; exact hc34
  have hc35 : cs71 304 = .inl (gY G 14, 7, .inl (fun _ => 0)) := by rw [e71, va_up_ne _ _ (by omega)]; exact hc35
  have hc36 : cs71 305 = .inl (gY G 14, 10, .inl (fun _ => 0)) := by rw [e71]; exact va_up_self _ _ _
  have hlo : ∀ n, n < 269 → cs71 n = cs n := fun n a => by rw [e71, va_up_ne _ _ (by omega)]; exact hlo n a
  clear e71
  refine ry_putF ff_X12_116 rfl (by omega) hc0 rfl rfl (by decide) dX12_init_285 ?_
  refine ry_cs (fun cs72 e72 => ?_)
  have hc1 : cs72 270 = .inl (gY G 13, 2400, .inl (fun _ => 0)) := by rw [e72, va_up_ne _ _ (by omega)]; exact hc1
  have hc2 : cs72 271 = .inl (gY G 14, 4, .inl (fun _ => 0)) := by rw [e72, va_up_ne _ _ (by omega)]; exact hc2
  have hc3 : cs72 272 = .inl (gY G 14, 4, .inl (fun _ => 0)) := by rw [e72, va_up_ne _ _ (by omega)]; exact hc3
  have hc4 : cs72 273 = .inl (gY G 14, 4, .inl (fun _ => 0)) := by rw [e72, va_up_ne _ _ (by omega)]; exact hc4
  have hc5 : cs72 274 = .inl (gY G 14, 16, .inl (fun _ => 0)) := by rw [e72, va_up_ne _ _ (by omega)]; exact hc5
  have hc6 : cs72 275 = .inl (gY G 14, 104, .inl (fun _ => 0)) := by rw [e72, va_up_ne _ _ (by omega)]; exact hc6
  have hc7 : cs72 276 = .inl (gY G 14, 1072, .inl (fun _ => 0)) := by rw [e72, va_up_ne _ _ (by omega)]; exact hc7
  have hc8 : cs72 277 = .inl (gY G 14, 968, .inl (fun _ => 0)) := by rw [e72, va_up_ne _ _ (by omega)]; exact hc8
  have hc9 : cs72 278 = .inl (gY G 14, 136, .inl (fun _ => 0)) := by rw [e72, va_up_ne _ _ (by omega)]; exact hc9
  have hc10 : cs72 279 = .inl (gY G 14, 134, .inl (fun _ => 0)) := by rw [e72, va_up_ne _ _ (by omega)]; exact hc10
  have hc11 : cs72 280 = .inl (gY G 14, 3, .inl (fun _ => 0)) := by rw [e72, va_up_ne _ _ (by omega)]; exact hc11
  have hc12 : cs72 281 = .inl (gY G 14, 10, .inl (fun _ => 0)) := by rw [e72, va_up_ne _ _ (by omega)]; exact hc12
  have hc13 : cs72 282 = .inl (gY G 14, 10, .inl (fun _ => 0)) := by rw [e72, va_up_ne _ _ (by omega)]; exact hc13
  have hc14 : cs72 283 = .inl (gY G 14, 10, .inl (fun _ => 0)) := by rw [e72, va_up_ne _ _ (by omega)]; exact hc14
  have hc15 : cs72 284 = .inl (gY G 14, 10, .inl (fun _ => 0)) := by rw [e72, va_up_ne _ _ (by omega)]; exact hc15
  have hc16 : cs72 285 = .inl (gY G 14, 10, .inl (fun _ => 0)) := by rw [e72, va_up_ne _ _ (by omega)]; exact hc16
  have hc17 : cs72 286 = .inl (gY G 14, 4, .inl (fun _ => 0)) := by rw [e72, va_up_ne _ _ (by omega)]; exact hc17
  have hc18 : cs72 287 = .inl (gY G 14, 4, .inl (fun _ => 0)) := by rw [e72, va_up_ne _ _ (by omega)]; exact hc18
  have hc19 : cs72 288 = .inl (gY G 14, 4, .inl (fun _ => 0)) := by rw [e72, va_up_ne _ _ (by omega)]; exact hc19
  have hc20 : cs72 289 = .inl (gY G 14, 4, .inl (fun _ => 0)) := by rw [e72, va_up_ne _ _ (by omega)]; exact hc20
  have hc21 : cs72 290 = .inl (gY G 14, 4, .inl (fun _ => 0)) := by rw [e72, va_up_ne _ _ (by omega)]; exact hc21
  have hc22 : cs72 291 = .inl (gY G 14, 4, .inl (fun _ => 0)) := by rw [e72, va_up_ne _ _ (by omega)]; exact hc22
  have hc23 : cs72 292 = .inl (gY G 14, 40, .inl (fun _ => 0)) := by rw [e72, va_up_ne _ _ (by omega)]; exact hc23
  have hc24 : cs72 293 = .inl (gY G 14, 40, .inl (fun _ => 0)) := by rw [e72, va_up_ne _ _ (by omega)]; exact hc24
  have hc25 : cs72 294 = .inl (gY G 14, 40, .inl (fun _ => 0)) := by rw [e72, va_up_ne _ _ (by omega)]; exact hc25
  have hc26 : cs72 295 = .inl (gY G 14, 64, .inl (fun _ => 0)) := by rw [e72, va_up_ne _ _ (by omega)]; exact hc26
  have hc27 : cs72 296 = .inl (gY G 14, 64, .inl (fun _ => 0)) := by rw [e72, va_up_ne _ _ (by omega)]; exact hc27
  have hc28 : cs72 297 = .inl (gY G 14, 64, .inl (fun _ => 0)) := by rw [e72, va_up_ne _ _ (by omega)]; exact hc28
  have hc29 : cs72 298 = .inl (gY G 14, 64, .inl (fun _ => 0)) := by rw [e72, va_up_ne _ _ (by omega)]; exact hc29
  have hc30 : cs72 299 = .inl (gY G 14, 64, .inl (fun _ => 0)) := by rw [e72, va_up_ne _ _ (by omega)]; exact hc30
  have hc31 : cs72 300 = .inl (gY G 14, 64, .inl (fun _ => 0)) := by rw [e72, va_up_ne _ _ (by omega)]; exact hc31
  have hc32 : cs72 301 = .inl (gY G 14, 64, .inl (fun _ => 0)) := by rw [e72, va_up_ne _ _ (by omega)]; exact hc32
  have hc33 : cs72 302 = .inl (gY G 14, 64, .inl (fun _ => 0)) := by rw [e72, va_up_ne _ _ (by omega)]; exact hc33
  have hc34 : cs72 303 = .inl (gY G 14, 640, .inl (fun _ => 0)) := by rw [e72, va_up_ne _ _ (by omega)]; exact hc34
  have hc35 : cs72 304 = .inl (gY G 14, 7, .inl (fun _ => 0)) := by rw [e72, va_up_ne _ _ (by omega)]; exact hc35
  have hc36 : cs72 305 = .inl (gY G 14, 10, .inl (fun _ => 0)) := by rw [e72, va_up_ne _ _ (by omega)]; exact hc36
  have hc0 : cs72 269 = .inr (12, [.int 0, .ref (gA G 270), .ref (gA G 271), .ref (gA G 272), .ref (gA G 273), .ref (gA G 274), .ref (gA G 275), .ref (gA G 276), .ref (gA G 277), .ref (gA G 278), .int 0, .int 0, .int 0, .int 0, .int 0, .long 0, .int 0, .int 0, .int 0, .ref (gA G 279), .ref (gA G 280), .int 0, .int 0, .int 0, .int 0, .int 0, .int 0, .int 0, .int 0, .int 0, .int 0, .ref (gA G 281), .ref (gA G 282), .ref (gA G 283), .ref (gA G 284), .ref (gA G 285), .ref (gA G 286), .ref (gA G 287), .ref (gA G 288), .ref (gA G 289), .ref (gA G 290), .ref (gA G 291), .ref (gA G 292), .ref (gA G 293), .ref (gA G 294), .ref (gA G 295), .ref (gA G 296), .ref (gA G 297), .ref (gA G 298), .ref (gA G 299), .ref (gA G 300), .ref (gA G 301), .ref (gA G 302), .ref (gA G 303), .int 0, .int 0, .int 0, .int 0, .int 0, .int 0, .ref (gA G 304), .ref (gA G 305), .int 0, .int 0, .int 0, .int 0, .int 0, .null, .null, .int 0, .null, .int 0, .int 0, .null, .null, .null, .int 0, .int 0, .int 0, .int 0, .int 0, .int 0, .null, .int 0, .int 0, .int 0, .int 0, .int 0, .int 0, .int 0, .int 0, .null]) := by rw [e72]; exact va_up_self _ _ _
  have hlo : ∀ n, n < 269 → cs72 n = cs n := fun n a => by rw [e72, va_up_ne _ _ (by omega)]; exact hlo n a
  clear e72
  refine ry_aload_n 0 dX12_init_288 rfl rfl ?_
  refine ry_bipush (v := 10) dX12_init_289 rfl ?_
  refine ry_newa (κ := 14) (n := 10) (atype := .int) (ty := .int) (t0 := 1) rfl wa_int rfl (fun _ _ => Iff.rfl) rfl (by decide) rfl (by decide) (by decide) (by decide) dX12_init_291 ?_
  refine ry_cs (fun cs73 e73 => ?_)
  have hc0 : cs73 269 = .inr (12, [.int 0, .ref (gA G 270), .ref (gA G 271), .ref (gA G 272), .ref (gA G 273), .ref (gA G 274), .ref (gA G 275), .ref (gA G 276), .ref (gA G 277), .ref (gA G 278), .int 0, .int 0, .int 0, .int 0, .int 0, .long 0, .int 0, .int 0, .int 0, .ref (gA G 279), .ref (gA G 280), .int 0, .int 0, .int 0, .int 0, .int 0, .int 0, .int 0, .int 0, .int 0, .int 0, .ref (gA G 281), .ref (gA G 282), .ref (gA G 283), .ref (gA G 284), .ref (gA G 285), .ref (gA G 286), .ref (gA G 287), .ref (gA G 288), .ref (gA G 289), .ref (gA G 290), .ref (gA G 291), .ref (gA G 292), .ref (gA G 293), .ref (gA G 294), .ref (gA G 295), .ref (gA G 296), .ref (gA G 297), .ref (gA G 298), .ref (gA G 299), .ref (gA G 300), .ref (gA G 301), .ref (gA G 302), .ref (gA G 303), .int 0, .int 0, .int 0, .int 0, .int 0, .int 0, .ref (gA G 304), .ref (gA G 305), .int 0, .int 0, .int 0, .int 0, .int 0, .null, .null, .int 0, .null, .int 0, .int 0, .null, .null, .null, .int 0, .int 0, .int 0, .int 0, .int 0, .int 0, .null, .int 0, .int 0, .int 0, .int 0, .int 0, .int 0, .int 0, .int 0, .null]) := by rw [e73, va_up_ne _ _ (by omega)]; exact hc0
  have hc1 : cs73 270 = .inl (gY G 13, 2400, .inl (fun _ => 0)) := by rw [e73, va_up_ne _ _ (by omega)]; exact hc1
  have hc2 : cs73 271 = .inl (gY G 14, 4, .inl (fun _ => 0)) := by rw [e73, va_up_ne _ _ (by omega)]; exact hc2
  have hc3 : cs73 272 = .inl (gY G 14, 4, .inl (fun _ => 0)) := by rw [e73, va_up_ne _ _ (by omega)]; exact hc3
  have hc4 : cs73 273 = .inl (gY G 14, 4, .inl (fun _ => 0)) := by rw [e73, va_up_ne _ _ (by omega)]; exact hc4
  have hc5 : cs73 274 = .inl (gY G 14, 16, .inl (fun _ => 0)) := by rw [e73, va_up_ne _ _ (by omega)]; exact hc5
  have hc6 : cs73 275 = .inl (gY G 14, 104, .inl (fun _ => 0)) := by rw [e73, va_up_ne _ _ (by omega)]; exact hc6
  have hc7 : cs73 276 = .inl (gY G 14, 1072, .inl (fun _ => 0)) := by rw [e73, va_up_ne _ _ (by omega)]; exact hc7
  have hc8 : cs73 277 = .inl (gY G 14, 968, .inl (fun _ => 0)) := by rw [e73, va_up_ne _ _ (by omega)]; exact hc8
  have hc9 : cs73 278 = .inl (gY G 14, 136, .inl (fun _ => 0)) := by rw [e73, va_up_ne _ _ (by omega)]; exact hc9
  have hc10 : cs73 279 = .inl (gY G 14, 134, .inl (fun _ => 0)) := by rw [e73, va_up_ne _ _ (by omega)]; exact hc10
  have hc11 : cs73 280 = .inl (gY G 14, 3, .inl (fun _ => 0)) := by rw [e73, va_up_ne _ _ (by omega)]; exact hc11
  have hc12 : cs73 281 = .inl (gY G 14, 10, .inl (fun _ => 0)) := by rw [e73, va_up_ne _ _ (by omega)]; exact hc12
  have hc13 : cs73 282 = .inl (gY G 14, 10, .inl (fun _ => 0)) := by rw [e73, va_up_ne _ _ (by omega)]; exact hc13
  have hc14 : cs73 283 = .inl (gY G 14, 10, .inl (fun _ => 0)) := by rw [e73, va_up_ne _ _ (by omega)]; exact hc14
  have hc15 : cs73 284 = .inl (gY G 14, 10, .inl (fun _ => 0)) := by rw [e73, va_up_ne _ _ (by omega)]; exact hc15
  have hc16 : cs73 285 = .inl (gY G 14, 10, .inl (fun _ => 0)) := by rw [e73, va_up_ne _ _ (by omega)]; exact hc16
  have hc17 : cs73 286 = .inl (gY G 14, 4, .inl (fun _ => 0)) := by rw [e73, va_up_ne _ _ (by omega)]; exact hc17
  have hc18 : cs73 287 = .inl (gY G 14, 4, .inl (fun _ => 0)) := by rw [e73, va_up_ne _ _ (by omega)]; exact hc18
  have hc19 : cs73 288 = .inl (gY G 14, 4, .inl (fun _ => 0)) := by rw [e73, va_up_ne _ _ (by omega)]; exact hc19
  have hc20 : cs73 289 = .inl (gY G 14, 4, .inl (fun _ => 0)) := by rw [e73, va_up_ne _ _ (by omega)]; exact hc20
  have hc21 : cs73 290 = .inl (gY G 14, 4, .inl (fun _ => 0)) := by rw [e73, va_up_ne _ _ (by omega)]; exact hc21
  have hc22 : cs73 291 = .inl (gY G 14, 4, .inl (fun _ => 0)) := by rw [e73, va_up_ne _ _ (by omega)]; exact hc22
  have hc23 : cs73 292 = .inl (gY G 14, 40, .inl (fun _ => 0)) := by rw [e73, va_up_ne _ _ (by omega)]; exact hc23
  have hc24 : cs73 293 = .inl (gY G 14, 40, .inl (fun _ => 0)) := by rw [e73, va_up_ne _ _ (by omega)]; exact hc24
  have hc25 : cs73 294 = .inl (gY G 14, 40, .inl (fun _ => 0)) := by rw [e73, va_up_ne _ _ (by omega)]; exact hc25
  have hc26 : cs73 295 = .inl (gY G 14, 64, .inl (fun _ => 0)) := by rw [e73, va_up_ne _ _ (by omega)]; exact hc26
  have hc27 : cs73 296 = .inl (gY G 14, 64, .inl (fun _ => 0)) := by rw [e73, va_up_ne _ _ (by omega)]; exact hc27
  have hc28 : cs73 297 = .inl (gY G 14, 64, .inl (fun _ => 0)) := by rw [e73, va_up_ne _ _ (by omega)]; exact hc28
  have hc29 : cs73 298 = .inl (gY G 14, 64, .inl (fun _ => 0)) := by rw [e73, va_up_ne _ _ (by omega)]; exact hc29
  have hc30 : cs73 299 = .inl (gY G 14, 64, .inl (fun _ => 0)) := by rw [e73, va_up_ne _ _ (by omega)]; exact hc30
  have hc31 : cs73 300 = .inl (gY G 14, 64, .inl (fun _ => 0)) := by rw [e73, va_up_ne _ _ (by omega)]; exact hc31
  have hc32 : cs73 301 = .inl (gY G 14, 64, .inl (fun _ => 0)) := by rw [e73, va_up_ne _ _ (by omega)]; exact hc32
  have hc33 : cs73 302 = .inl (gY G 14, 64, .inl (fun _ => 0)) := by rw [e73, va_up_ne _ _ (by omega)]; exact hc33
  have hc34 : cs73 303 = .inl (gY G 14, 640, .inl (fun _ => 0)) := by rw [e73, va_up_ne _ _ (by omega)]; exact hc34
  have hc35 : cs73 304 = .inl (gY G 14, 7, .inl (fun _ => 0)) := by rw [e73, va_up_ne _ _ (by omega)]; exact hc35
  have hc36 : cs73 305 = .inl (gY G 14, 10, .inl (fun _ => 0)) := by rw [e73, va_up_ne _ _ (by omega)]; exact hc36
  have hc37 : cs73 306 = .inl (gY G 14, 10, .inl (fun _ => 0)) := by rw [e73]; exact va_up_self _ _ _
  have hlo : ∀ n, n < 269 → cs73 n = cs n := fun n a => by rw [e73, va_up_ne _ _ (by omega)]; exact hlo n a
  clear e73
  refine ry_putF ff_X12_119 rfl (by omega) hc0 rfl rfl (by decide) dX12_init_293 ?_
  refine ry_cs (fun cs74 e74 => ?_)
  have hc1 : cs74 270 = .inl (gY G 13, 2400, .inl (fun _ => 0)) := by rw [e74, va_up_ne _ _ (by omega)]; exact hc1
  have hc2 : cs74 271 = .inl (gY G 14, 4, .inl (fun _ => 0)) := by rw [e74, va_up_ne _ _ (by omega)]; exact hc2
  have hc3 : cs74 272 = .inl (gY G 14, 4, .inl (fun _ => 0)) := by rw [e74, va_up_ne _ _ (by omega)]; exact hc3
  have hc4 : cs74 273 = .inl (gY G 14, 4, .inl (fun _ => 0)) := by rw [e74, va_up_ne _ _ (by omega)]; exact hc4
  have hc5 : cs74 274 = .inl (gY G 14, 16, .inl (fun _ => 0)) := by rw [e74, va_up_ne _ _ (by omega)]; exact hc5
  have hc6 : cs74 275 = .inl (gY G 14, 104, .inl (fun _ => 0)) := by rw [e74, va_up_ne _ _ (by omega)]; exact hc6
  have hc7 : cs74 276 = .inl (gY G 14, 1072, .inl (fun _ => 0)) := by rw [e74, va_up_ne _ _ (by omega)]; exact hc7
  have hc8 : cs74 277 = .inl (gY G 14, 968, .inl (fun _ => 0)) := by rw [e74, va_up_ne _ _ (by omega)]; exact hc8
  have hc9 : cs74 278 = .inl (gY G 14, 136, .inl (fun _ => 0)) := by rw [e74, va_up_ne _ _ (by omega)]; exact hc9
  have hc10 : cs74 279 = .inl (gY G 14, 134, .inl (fun _ => 0)) := by rw [e74, va_up_ne _ _ (by omega)]; exact hc10
  have hc11 : cs74 280 = .inl (gY G 14, 3, .inl (fun _ => 0)) := by rw [e74, va_up_ne _ _ (by omega)]; exact hc11
  have hc12 : cs74 281 = .inl (gY G 14, 10, .inl (fun _ => 0)) := by rw [e74, va_up_ne _ _ (by omega)]; exact hc12
  have hc13 : cs74 282 = .inl (gY G 14, 10, .inl (fun _ => 0)) := by rw [e74, va_up_ne _ _ (by omega)]; exact hc13
  have hc14 : cs74 283 = .inl (gY G 14, 10, .inl (fun _ => 0)) := by rw [e74, va_up_ne _ _ (by omega)]; exact hc14
  have hc15 : cs74 284 = .inl (gY G 14, 10, .inl (fun _ => 0)) := by rw [e74, va_up_ne _ _ (by omega)]; exact hc15
  have hc16 : cs74 285 = .inl (gY G 14, 10, .inl (fun _ => 0)) := by rw [e74, va_up_ne _ _ (by omega)]; exact hc16
  have hc17 : cs74 286 = .inl (gY G 14, 4, .inl (fun _ => 0)) := by rw [e74, va_up_ne _ _ (by omega)]; exact hc17
  have hc18 : cs74 287 = .inl (gY G 14, 4, .inl (fun _ => 0)) := by rw [e74, va_up_ne _ _ (by omega)]; exact hc18
  have hc19 : cs74 288 = .inl (gY G 14, 4, .inl (fun _ => 0)) := by rw [e74, va_up_ne _ _ (by omega)]; exact hc19
  have hc20 : cs74 289 = .inl (gY G 14, 4, .inl (fun _ => 0)) := by rw [e74, va_up_ne _ _ (by omega)]; exact hc20
  have hc21 : cs74 290 = .inl (gY G 14, 4, .inl (fun _ => 0)) := by rw [e74, va_up_ne _ _ (by omega)]; exact hc21
  have hc22 : cs74 291 = .inl (gY G 14, 4, .inl (fun _ => 0)) := by rw [e74, va_up_ne _ _ (by omega)]; exact hc22
  have hc23 : cs74 292 = .inl (gY G 14, 40, .inl (fun _ => 0)) := by rw [e74, va_up_ne _ _ (by omega)]; exact hc23
  have hc24 : cs74 293 = .inl (gY G 14, 40, .inl (fun _ => 0)) := by rw [e74, va_up_ne _ _ (by omega)]; exact hc24
  have hc25 : cs74 294 = .inl (gY G 14, 40, .inl (fun _ => 0)) := by rw [e74, va_up_ne _ _ (by omega)]; exact hc25
  have hc26 : cs74 295 = .inl (gY G 14, 64, .inl (fun _ => 0)) := by rw [e74, va_up_ne _ _ (by omega)]; exact hc26
  have hc27 : cs74 296 = .inl (gY G 14, 64, .inl (fun _ => 0)) := by rw [e74, va_up_ne _ _ (by omega)]; exact hc27
  have hc28 : cs74 297 = .inl (gY G 14, 64, .inl (fun _ => 0)) := by rw [e74, va_up_ne _ _ (by omega)]; exact hc28
  have hc29 : cs74 298 = .inl (gY G 14, 64, .inl (fun _ => 0)) := by rw [e74, va_up_ne _ _ (by omega)]; exact hc29
  have hc30 : cs74 299 = .inl (gY G 14, 64, .inl (fun _ => 0)) := by rw [e74, va_up_ne _ _ (by omega)]; exact hc30
  have hc31 : cs74 300 = .inl (gY G 14, 64, .inl (fun _ => 0)) := by rw [e74, va_up_ne _ _ (by omega)]; exact hc31
  have hc32 : cs74 301 = .inl (gY G 14, 64, .inl (fun _ => 0)) := by rw [e74, va_up_ne _ _ (by omega)]; exact hc32
  have hc33 : cs74 302 = .inl (gY G 14, 64, .inl (fun _ => 0)) := by rw [e74, va_up_ne _ _ (by omega)]; exact hc33
  have hc34 : cs74 303 = .inl (gY G 14, 640, .inl (fun _ => 0)) := by rw [e74, va_up_ne _ _ (by omega)]; exact hc34
  have hc35 : cs74 304 = .inl (gY G 14, 7, .inl (fun _ => 0)) := by rw [e74, va_up_ne _ _ (by omega)]; exact hc35
  have hc36 : cs74 305 = .inl (gY G 14, 10, .inl (fun _ => 0)) := by rw [e74, va_up_ne _ _ (by omega)]; exact hc36
  have hc37 : cs74 306 = .inl (gY G 14, 10, .inl (fun _ => 0)) := by rw [e74, va_up_ne _ _ (by omega)]; exact hc37
  have hc0 : cs74 269 = .inr (12, [.int 0, .ref (gA G 270), .ref (gA G 271), .ref (gA G 272), .ref (gA G 273), .ref (gA G 274), .ref (gA G 275), .ref (gA G 276), .ref (gA G 277), .ref (gA G 278), .int 0, .int 0, .int 0, .int 0, .int 0, .long 0, .int 0, .int 0, .int 0, .ref (gA G 279), .ref (gA G 280), .int 0, .int 0, .int 0, .int 0, .int 0, .int 0, .int 0, .int 0, .int 0, .int 0, .ref (gA G 281), .ref (gA G 282), .ref (gA G 283), .ref (gA G 284), .ref (gA G 285), .ref (gA G 286), .ref (gA G 287), .ref (gA G 288), .ref (gA G 289), .ref (gA G 290), .ref (gA G 291), .ref (gA G 292), .ref (gA G 293), .ref (gA G 294), .ref (gA G 295), .ref (gA G 296), .ref (gA G 297), .ref (gA G 298), .ref (gA G 299), .ref (gA G 300), .ref (gA G 301), .ref (gA G 302), .ref (gA G 303), .int 0, .int 0, .int 0, .int 0, .int 0, .int 0, .ref (gA G 304), .ref (gA G 305), .int 0, .int 0, .int 0, .int 0, .int 0, .ref (gA G 306), .null, .int 0, .null, .int 0, .int 0, .null, .null, .null, .int 0, .int 0, .int 0, .int 0, .int 0, .int 0, .null, .int 0, .int 0, .int 0, .int 0, .int 0, .int 0, .int 0, .int 0, .null]) := by rw [e74]; exact va_up_self _ _ _
  have hlo : ∀ n, n < 269 → cs74 n = cs n := fun n a => by rw [e74, va_up_ne _ _ (by omega)]; exact hlo n a
  clear e74
  refine ry_aload_n 0 dX12_init_296 rfl rfl ?_
  refine ry_bipush (v := 10) dX12_init_297 rfl ?_
  refine ry_newa (κ := 14) (n := 10) (atype := .int) (ty := .int) (t0 := 1) rfl wa_int rfl (fun _ _ => Iff.rfl) rfl (by decide) rfl (by decide) (by decide) (by decide) dX12_init_299 ?_
  refine ry_cs (fun cs75 e75 => ?_)
  have hc0 : cs75 269 = .inr (12, [.int 0, .ref (gA G 270), .ref (gA G 271), .ref (gA G 272), .ref (gA G 273), .ref (gA G 274), .ref (gA G 275), .ref (gA G 276), .ref (gA G 277), .ref (gA G 278), .int 0, .int 0, .int 0, .int 0, .int 0, .long 0, .int 0, .int 0, .int 0, .ref (gA G 279), .ref (gA G 280), .int 0, .int 0, .int 0, .int 0, .int 0, .int 0, .int 0, .int 0, .int 0, .int 0, .ref (gA G 281), .ref (gA G 282), .ref (gA G 283), .ref (gA G 284), .ref (gA G 285), .ref (gA G 286), .ref (gA G 287), .ref (gA G 288), .ref (gA G 289), .ref (gA G 290), .ref (gA G 291), .ref (gA G 292), .ref (gA G 293), .ref (gA G 294), .ref (gA G 295), .ref (gA G 296), .ref (gA G 297), .ref (gA G 298), .ref (gA G 299), .ref (gA G 300), .ref (gA G 301), .ref (gA G 302), .ref (gA G 303), .int 0, .int 0, .int 0, .int 0, .int 0, .int 0, .ref (gA G 304), .ref (gA G 305), .int 0, .int 0, .int 0, .int 0, .int 0, .ref (gA G 306), .null, .int 0, .null, .int 0, .int 0, .null, .null, .null, .int 0, .int 0, .int 0, .int 0, .int 0, .int 0, .null, .int 0, .int 0, .int 0, .int 0, .int 0, .int 0, .int 0, .int 0, .null]) := by rw [e75, va_up_ne _ _ (by omega)]; exact hc0
  have hc1 : cs75 270 = .inl (gY G 13, 2400, .inl (fun _ => 0)) := by rw [e75, va_up_ne _ _ (by omega)]; exact hc1
  have hc2 : cs75 271 = .inl (gY G 14, 4, .inl (fun _ => 0)) := by rw [e75, va_up_ne _ _ (by omega)]; exact hc2
  have hc3 : cs75 272 = .inl (gY G 14, 4, .inl (fun _ => 0)) := by rw [e75, va_up_ne _ _ (by omega)]; exact hc3
  have hc4 : cs75 273 = .inl (gY G 14, 4, .inl (fun _ => 0)) := by rw [e75, va_up_ne _ _ (by omega)]; exact hc4
  have hc5 : cs75 274 = .inl (gY G 14, 16, .inl (fun _ => 0)) := by rw [e75, va_up_ne _ _ (by omega)]; exact hc5
  have hc6 : cs75 275 = .inl (gY G 14, 104, .inl (fun _ => 0)) := by rw [e75, va_up_ne _ _ (by omega)]; exact hc6
  have hc7 : cs75 276 = .inl (gY G 14, 1072, .inl (fun _ => 0)) := by rw [e75, va_up_ne _ _ (by omega)]; exact hc7
  have hc8 : cs75 277 = .inl (gY G 14, 968, .inl (fun _ => 0)) := by rw [e75, va_up_ne _ _ (by omega)]; exact hc8
  have hc9 : cs75 278 = .inl (gY G 14, 136, .inl (fun _ => 0)) := by rw [e75, va_up_ne _ _ (by omega)]; exact hc9
  have hc10 : cs75 279 = .inl (gY G 14, 134, .inl (fun _ => 0)) := by rw [e75, va_up_ne _ _ (by omega)]; exact hc10
  have hc11 : cs75 280 = .inl (gY G 14, 3, .inl (fun _ => 0)) := by rw [e75, va_up_ne _ _ (by omega)]; exact hc11
  have hc12 : cs75 281 = .inl (gY G 14, 10, .inl (fun _ => 0)) := by rw [e75, va_up_ne _ _ (by omega)]; exact hc12
  have hc13 : cs75 282 = .inl (gY G 14, 10, .inl (fun _ => 0)) := by rw [e75, va_up_ne _ _ (by omega)]; exact hc13
  have hc14 : cs75 283 = .inl (gY G 14, 10, .inl (fun _ => 0)) := by rw [e75, va_up_ne _ _ (by omega)]; exact hc14
  have hc15 : cs75 284 = .inl (gY G 14, 10, .inl (fun _ => 0)) := by rw [e75, va_up_ne _ _ (by omega)]; exact hc15
  have hc16 : cs75 285 = .inl (gY G 14, 10, .inl (fun _ => 0)) := by rw [e75, va_up_ne _ _ (by omega)]; exact hc16
  have hc17 : cs75 286 = .inl (gY G 14, 4, .inl (fun _ => 0)) := by rw [e75, va_up_ne _ _ (by omega)]; exact hc17
  have hc18 : cs75 287 = .inl (gY G 14, 4, .inl (fun _ => 0)) := by rw [e75, va_up_ne _ _ (by omega)]; exact hc18
  have hc19 : cs75 288 = .inl (gY G 14, 4, .inl (fun _ => 0)) := by rw [e75, va_up_ne _ _ (by omega)]; exact hc19
  have hc20 : cs75 289 = .inl (gY G 14, 4, .inl (fun _ => 0)) := by rw [e75, va_up_ne _ _ (by omega)]; exact hc20
  have hc21 : cs75 290 = .inl (gY G 14, 4, .inl (fun _ => 0)) := by rw [e75, va_up_ne _ _ (by omega)]; exact hc21
  have hc22 : cs75 291 = .inl (gY G 14, 4, .inl (fun _ => 0)) := by rw [e75, va_up_ne _ _ (by omega)]; exact hc22
  have hc23 : cs75 292 = .inl (gY G 14, 40, .inl (fun _ => 0)) := by rw [e75, va_up_ne _ _ (by omega)]; exact hc23
  have hc24 : cs75 293 = .inl (gY G 14, 40, .inl (fun _ => 0)) := by rw [e75, va_up_ne _ _ (by omega)]; exact hc24
  have hc25 : cs75 294 = .inl (gY G 14, 40, .inl (fun _ => 0)) := by rw [e75, va_up_ne _ _ (by omega)]; exact hc25
  have hc26 : cs75 295 = .inl (gY G 14, 64, .inl (fun _ => 0)) := by rw [e75, va_up_ne _ _ (by omega)]; exact hc26
  have hc27 : cs75 296 = .inl (gY G 14, 64, .inl (fun _ => 0)) := by rw [e75, va_up_ne _ _ (by omega)]; exact hc27
  have hc28 : cs75 297 = .inl (gY G 14, 64, .inl (fun _ => 0)) := by rw [e75, va_up_ne _ _ (by omega)]; exact hc28
  have hc29 : cs75 298 = .inl (gY G 14, 64, .inl (fun _ => 0)) := by rw [e75, va_up_ne _ _ (by omega)]; exact hc29
  have hc30 : cs75 299 = .inl (gY G 14, 64, .inl (fun _ => 0)) := by rw [e75, va_up_ne _ _ (by omega)]; exact hc30
  have hc31 : cs75 300 = .inl (gY G 14, 64, .inl (fun _ => 0)) := by rw [e75, va_up_ne _ _ (by omega)]; exact hc31
  have hc32 : cs75 301 = .inl (gY G 14, 64, .inl (fun _ => 0)) := by rw [e75, va_up_ne _ _ (by omega)]; exact hc32
  have hc33 : cs75 302 = .inl (gY G 14, 64, .inl (fun _ => 0)) := by rw [e75, va_up_ne _ _ (by omega)]; exact hc33
  have hc34 : cs75 303 = .inl (gY G 14, 640, .inl (fun _ => 0)) := by rw [e75, va_up_ne _ _ (by omega)]; exact hc34
  have hc35 : cs75 304 = .inl (gY G 14, 7, .inl (fun _ => 0)) := by rw [e75, va_up_ne _ _ (by omega)]; exact hc35
  have hc36 : cs75 305 = .inl (gY G 14, 10, .inl (fun _ => 0)) := by rw [e75, va_up_ne _ _ (by omega)]; exact hc36
  have hc37 : cs75 306 = .inl (gY G 14, 10, .inl (fun _ => 0)) := by rw [e75, va_up_ne _ _ (by omega)]; exact hc37
  have hc38 : cs75 307 = .inl (gY G 14, 10, .inl (fun _ => 0)) := by rw [e75]; exact va_up_self _ _ _
  have hlo : ∀ n, n < 269 → cs75 n = cs n := fun n a => by rw [e75, va_up_ne _ _ (by omega)]; exact hlo n a
  clear e75
  refine ry_putF ff_X12_122 rfl (by omega) hc0 rfl rfl (by decide) dX12_init_301 ?_
  refine ry_cs (fun cs76 e76 => ?_)
  have hc1 : cs76 270 = .inl (gY G 13, 2400, .inl (fun _ => 0)) := by rw [e76, va_up_ne _ _ (by omega)]; exact hc1
  have hc2 : cs76 271 = .inl (gY G 14, 4, .inl (fun _ => 0)) := by rw [e76, va_up_ne _ _ (by omega)]; exact hc2
  have hc3 : cs76 272 = .inl (gY G 14, 4, .inl (fun _ => 0)) := by rw [e76, va_up_ne _ _ (by omega)]; exact hc3
  have hc4 : cs76 273 = .inl (gY G 14, 4, .inl (fun _ => 0)) := by rw [e76, va_up_ne _ _ (by omega)]; exact hc4
  have hc5 : cs76 274 = .inl (gY G 14, 16, .inl (fun _ => 0)) := by rw [e76, va_up_ne _ _ (by omega)]; exact hc5
  have hc6 : cs76 275 = .inl (gY G 14, 104, .inl (fun _ => 0)) := by rw [e76, va_up_ne _ _ (by omega)]; exact hc6
  have hc7 : cs76 276 = .inl (gY G 14, 1072, .inl (fun _ => 0)) := by rw [e76, va_up_ne _ _ (by omega)]; exact hc7
  have hc8 : cs76 277 = .inl (gY G 14, 968, .inl (fun _ => 0)) := by rw [e76, va_up_ne _ _ (by omega)]; exact hc8
  have hc9 : cs76 278 = .inl (gY G 14, 136, .inl (fun _ => 0)) := by rw [e76, va_up_ne _ _ (by omega)]; exact hc9
  have hc10 : cs76 279 = .inl (gY G 14, 134, .inl (fun _ => 0)) := by rw [e76, va_up_ne _ _ (by omega)]; exact hc10
  have hc11 : cs76 280 = .inl (gY G 14, 3, .inl (fun _ => 0)) := by rw [e76, va_up_ne _ _ (by omega)]; exact hc11
  have hc12 : cs76 281 = .inl (gY G 14, 10, .inl (fun _ => 0)) := by rw [e76, va_up_ne _ _ (by omega)]; exact hc12
  have hc13 : cs76 282 = .inl (gY G 14, 10, .inl (fun _ => 0)) := by rw [e76, va_up_ne _ _ (by omega)]; exact hc13
  have hc14 : cs76 283 = .inl (gY G 14, 10, .inl (fun _ => 0)) := by rw [e76, va_up_ne _ _ (by omega)]; exact hc14
  have hc15 : cs76 284 = .inl (gY G 14, 10, .inl (fun _ => 0)) := by rw [e76, va_up_ne _ _ (by omega)]; exact hc15
  have hc16 : cs76 285 = .inl (gY G 14, 10, .inl (fun _ => 0)) := by rw [e76, va_up_ne _ _ (by omega)]; exact hc16
  have hc17 : cs76 286 = .inl (gY G 14, 4, .inl (fun _ => 0)) := by rw [e76, va_up_ne _ _ (by omega)]; exact hc17
  have hc18 : cs76 287 = .inl (gY G 14, 4, .inl (fun _ => 0)) := by rw [e76, va_up_ne _ _ (by omega)]; exact hc18
  have hc19 : cs76 288 = .inl (gY G 14, 4, .inl (fun _ => 0)) := by rw [e76, va_up_ne _ _ (by omega)]; exact hc19
  have hc20 : cs76 289 = .inl (gY G 14, 4, .inl (fun _ => 0)) := by rw [e76, va_up_ne _ _ (by omega)]; exact hc20
  have hc21 : cs76 290 = .inl (gY G 14, 4, .inl (fun _ => 0)) := by rw [e76, va_up_ne _ _ (by omega)]; exact hc21
  have hc22 : cs76 291 = .inl (gY G 14, 4, .inl (fun _ => 0)) := by rw [e76, va_up_ne _ _ (by omega)]; exact hc22
  have hc23 : cs76 292 = .inl (gY G 14, 40, .inl (fun _ => 0)) := by rw [e76, va_up_ne _ _ (by omega)]; exact hc23
  have hc24 : cs76 293 = .inl (gY G 14, 40, .inl (fun _ => 0)) := by rw [e76, va_up_ne _ _ (by omega)]; exact hc24
  have hc25 : cs76 294 = .inl (gY G 14, 40, .inl (fun _ => 0)) := by rw [e76, va_up_ne _ _ (by omega)]; exact hc25
  have hc26 : cs76 295 = .inl (gY G 14, 64, .inl (fun _ => 0)) := by rw [e76, va_up_ne _ _ (by omega)]; exact hc26
  have hc27 : cs76 296 = .inl (gY G 14, 64, .inl (fun _ => 0)) := by rw [e76, va_up_ne _ _ (by omega)]; exact hc27
  have hc28 : cs76 297 = .inl (gY G 14, 64, .inl (fun _ => 0)) := by rw [e76, va_up_ne _ _ (by omega)]; exact hc28
  have hc29 : cs76 298 = .inl (gY G 14, 64, .inl (fun _ => 0)) := by rw [e76, va_up_ne _ _ (by omega)]; exact hc29
  have hc30 : cs76 299 = .inl (gY G 14, 64, .inl (fun _ => 0)) := by rw [e76, va_up_ne _ _ (by omega)]; exact hc30
  have hc31 : cs76 300 = .inl (gY G 14, 64, .inl (fun _ => 0)) := by rw [e76, va_up_ne _ _ (by omega)]; exact hc31
  have hc32 : cs76 301 = .inl (gY G 14, 64, .inl (fun _ => 0)) := by rw [e76, va_up_ne _ _ (by omega)]; exact hc32
  have hc33 : cs76 302 = .inl (gY G 14, 64, .inl (fun _ => 0)) := by rw [e76, va_up_ne _ _ (by omega)]; exact hc33
  have hc34 : cs76 303 = .inl (gY G 14, 640, .inl (fun _ => 0)) := by rw [e76, va_up_ne _ _ (by omega)]; exact hc34
  have hc35 : cs76 304 = .inl (gY G 14, 7, .inl (fun _ => 0)) := by rw [e76, va_up_ne _ _ (by omega)]; exact hc35
  have hc36 : cs76 305 = .inl (gY G 14, 10, .inl (fun _ => 0)) := by rw [e76, va_up_ne _ _ (by omega)]; exact hc36
  have hc37 : cs76 306 = .inl (gY G 14, 10, .inl (fun _ => 0)) := by rw [e76, va_up_ne _ _ (by omega)]; exact hc37
  have hc38 : cs76 307 = .inl (gY G 14, 10, .inl (fun _ => 0)) := by rw [e76, va_up_ne _ _ (by omega)]; exact hc38
  have hc0 : cs76 269 = .inr (12, [.int 0, .ref (gA G 270), .ref (gA G 271), .ref (gA G 272), .ref (gA G 273), .ref (gA G 274), .ref (gA G 275), .ref (gA G 276), .ref (gA G 277), .ref (gA G 278), .int 0, .int 0, .int 0, .int 0, .int 0, .long 0, .int 0, .int 0, .int 0, .ref (gA G 279), .ref (gA G 280), .int 0, .int 0, .int 0, .int 0, .int 0, .int 0, .int 0, .int 0, .int 0, .int 0, .ref (gA G 281), .ref (gA G 282), .ref (gA G 283), .ref (gA G 284), .ref (gA G 285), .ref (gA G 286), .ref (gA G 287), .ref (gA G 288), .ref (gA G 289), .ref (gA G 290), .ref (gA G 291), .ref (gA G 292), .ref (gA G 293), .ref (gA G 294), .ref (gA G 295), .ref (gA G 296), .ref (gA G 297), .ref (gA G 298), .ref (gA G 299), .ref (gA G 300), .ref (gA G 301), .ref (gA G 302), .ref (gA G 303), .int 0, .int 0, .int 0, .int 0, .int 0, .int 0, .ref (gA G 304), .ref (gA G 305), .int 0, .int 0, .int 0, .int 0, .int 0, .ref (gA G 306), .ref (gA G 307), .int 0, .null, .int 0, .int 0, .null, .null, .null, .int 0, .int 0, .int 0, .int 0, .int 0, .int 0, .null, .int 0, .int 0, .int 0, .int 0, .int 0, .int 0, .int 0, .int 0, .null]) := by rw [e76]; exact va_up_self _ _ _
  have hlo : ∀ n, n < 269 → cs76 n = cs n := fun n a => by rw [e76, va_up_ne _ _ (by omega)]; exact hlo n a
  clear e76
  refine ry_aload_n 0 dX12_init_304 rfl rfl ?_
  refine ry_bipush (v := 64) dX12_init_305 rfl ?_
  refine ry_newa (κ := 14) (n := 64) (atype := .int) (ty := .int) (t0 := 1) rfl wa_int rfl (fun _ _ => Iff.rfl) rfl (by decide) rfl (by decide) (by decide) (by decide) dX12_init_307 ?_
  refine ry_cs (fun cs77 e77 => ?_)
  have hc0 : cs77 269 = .inr (12, [.int 0, .ref (gA G 270), .ref (gA G 271), .ref (gA G 272), .ref (gA G 273), .ref (gA G 274), .ref (gA G 275), .ref (gA G 276), .ref (gA G 277), .ref (gA G 278), .int 0, .int 0, .int 0, .int 0, .int 0, .long 0, .int 0, .int 0, .int 0, .ref (gA G 279), .ref (gA G 280), .int 0, .int 0, .int 0, .int 0, .int 0, .int 0, .int 0, .int 0, .int 0, .int 0, .ref (gA G 281), .ref (gA G 282), .ref (gA G 283), .ref (gA G 284), .ref (gA G 285), .ref (gA G 286), .ref (gA G 287), .ref (gA G 288), .ref (gA G 289), .ref (gA G 290), .ref (gA G 291), .ref (gA G 292), .ref (gA G 293), .ref (gA G 294), .ref (gA G 295), .ref (gA G 296), .ref (gA G 297), .ref (gA G 298), .ref (gA G 299), .ref (gA G 300), .ref (gA G 301), .ref (gA G 302), .ref (gA G 303), .int 0, .int 0, .int 0, .int 0, .int 0, .int 0, .ref (gA G 304), .ref (gA G 305), .int 0, .int 0, .int 0, .int 0, .int 0, .ref (gA G 306), .ref (gA G 307), .int 0, .null, .int 0, .int 0, .null, .null, .null, .int 0, .int 0, .int 0, .int 0, .int 0, .int 0, .null, .int 0, .int 0, .int 0, .int 0, .int 0, .int 0, .int 0, .int 0, .null]) := by rw [e77, va_up_ne _ _ (by omega)]; exact hc0
  have hc1 : cs77 270 = .inl (gY G 13, 2400, .inl (fun _ => 0)) := by rw [e77, va_up_ne _ _ (by omega)]; exact hc1
  have hc2 : cs77 271 = .inl (gY G 14, 4, .inl (fun _ => 0)) := by rw [e77, va_up_ne _ _ (by omega)]; exact hc2
  have hc3 : cs77 272 = .inl (gY G 14, 4, .inl (fun _ => 0)) := by rw [e77, va_up_ne _ _ (by omega)]; exact hc3
  have hc4 : cs77 273 = .inl (gY G 14, 4, .inl (fun _ => 0)) := by rw [e77, va_up_ne _ _ (by omega)]; exact hc4
  have hc5 : cs77 274 = .inl (gY G 14, 16, .inl (fun _ => 0)) := by rw [e77, va_up_ne _ _ (by omega)]; exact hc5
  have hc6 : cs77 275 = .inl (gY G 14, 104, .inl (fun _ => 0)) := by rw [e77, va_up_ne _ _ (by omega)]; exact hc6
  have hc7 : cs77 276 = .inl (gY G 14, 1072, .inl (fun _ => 0)) := by rw [e77, va_up_ne _ _ (by omega)]; exact hc7
  have hc8 : cs77 277 = .inl (gY G 14, 968, .inl (fun _ => 0)) := by rw [e77, va_up_ne _ _ (by omega)]; exact hc8
  have hc9 : cs77 278 = .inl (gY G 14, 136, .inl (fun _ => 0)) := by rw [e77, va_up_ne _ _ (by omega)]; exact hc9
  have hc10 : cs77 279 = .inl (gY G 14, 134, .inl (fun _ => 0)) := by rw [e77, va_up_ne _ _ (by omega)]; exact hc10
  have hc11 : cs77 280 = .inl (gY G 14, 3, .inl (fun _ => 0)) := by rw [e77, va_up_ne _ _ (by omega)]; exact hc11
  have hc12 : cs77 281 = .inl (gY G 14, 10, .inl (fun _ => 0)) := by rw [e77, va_up_ne _ _ (by omega)]; exact hc12
  have hc13 : cs77 282 = .inl (gY G 14, 10, .inl (fun _ => 0)) := by rw [e77, va_up_ne _ _ (by omega)]; exact hc13
  have hc14 : cs77 283 = .inl (gY G 14, 10, .inl (fun _ => 0)) := by rw [e77, va_up_ne _ _ (by omega)]; exact hc14
  have hc15 : cs77 284 = .inl (gY G 14, 10, .inl (fun _ => 0)) := by rw [e77, va_up_ne _ _ (by omega)]; exact hc15
  have hc16 : cs77 285 = .inl (gY G 14, 10, .inl (fun _ => 0)) := by rw [e77, va_up_ne _ _ (by omega)]; exact hc16
  have hc17 : cs77 286 = .inl (gY G 14, 4, .inl (fun _ => 0)) := by rw [e77, va_up_ne _ _ (by omega)]; exact hc17
  have hc18 : cs77 287 = .inl (gY G 14, 4, .inl (fun _ => 0)) := by rw [e77, va_up_ne _ _ (by omega)]; exact hc18
  have hc19 : cs77 288 = .inl (gY G 14, 4, .inl (fun _ => 0)) := by rw [e77, va_up_ne _ _ (by omega)]; exact hc19
  have hc20 : cs77 289 = .inl (gY G 14, 4, .inl (fun _ => 0)) := by rw [e77, va_up_ne _ _ (by omega)]; exact hc20
  have hc21 : cs77 290 = .inl (gY G 14, 4, .inl (fun _ => 0)) := by rw [e77, va_up_ne _ _ (by omega)]; exact hc21
  have hc22 : cs77 291 = .inl (gY G 14, 4, .inl (fun _ => 0)) := by rw [e77, va_up_ne _ _ (by omega)]; exact hc22
  have hc23 : cs77 292 = .inl (gY G 14, 40, .inl (fun _ => 0)) := by rw [e77, va_up_ne _ _ (by omega)]; exact hc23
  have hc24 : cs77 293 = .inl (gY G 14, 40, .inl (fun _ => 0)) := by rw [e77, va_up_ne _ _ (by omega)]; exact hc24
  have hc25 : cs77 294 = .inl (gY G 14, 40, .inl (fun _ => 0)) := by rw [e77, va_up_ne _ _ (by omega)]; exact hc25
  have hc26 : cs77 295 = .inl (gY G 14, 64, .inl (fun _ => 0)) := by rw [e77, va_up_ne _ _ (by omega)]; exact hc26
  have hc27 : cs77 296 = .inl (gY G 14, 64, .inl (fun _ => 0)) := by rw [e77, va_up_ne _ _ (by omega)]; exact hc27
  have hc28 : cs77 297 = .inl (gY G 14, 64, .inl (fun _ => 0)) := by rw [e77, va_up_ne _ _ (by omega)]; exact hc28
  have hc29 : cs77 298 = .inl (gY G 14, 64, .inl (fun _ => 0)) := by rw [e77, va_up_ne _ _ (by omega)]; exact hc29
  have hc30 : cs77 299 = .inl (gY G 14, 64, .inl (fun _ => 0)) := by rw [e77, va_up_ne _ _ (by omega)]; exact hc30
  have hc31 : cs77 300 = .inl (gY G 14, 64, .inl (fun _ => 0)) := by rw [e77, va_up_ne _ _ (by omega)]; exact hc31
  have hc32 : cs77 301 = .inl (gY G 14, 64, .inl (fun _ => 0)) := by rw [e77, va_up_ne _ _ (by omega)]; exact hc32
  have hc33 : cs77 302 = .inl (gY G 14, 64, .inl (fun _ => 0)) := by rw [e77, va_up_ne _ _ (by omega)]; exact hc33
  have hc34 : cs77 303 = .inl (gY G 14, 640, .inl (fun _ => 0)) := by rw [e77, va_up_ne _ _ (by omega)]; exact hc34
  have hc35 : cs77 304 = .inl (gY G 14, 7, .inl (fun _ => 0)) := by rw [e77, va_up_ne _ _ (by omega)]; exact hc35
  have hc36 : cs77 305 = .inl (gY G 14, 10, .inl (fun _ => 0)) := by rw [e77, va_up_ne _ _ (by omega)]; exact hc36
  have hc37 : cs77 306 = .inl (gY G 14, 10, .inl (fun _ => 0)) := by rw [e77, va_up_ne _ _ (by omega)]; exact hc37
  have hc38 : cs77 307 = .inl (gY G 14, 10, .inl (fun _ => 0)) := by rw [e77, va_up_ne _ _ (by omega)]; exact hc38
  have hc39 : cs77 308 = .inl (gY G 14, 64, .inl (fun _ => 0)) := by rw [e77]; exact va_up_self _ _ _
  have hlo : ∀ n, n < 269 → cs77 n = cs n := fun n a => by rw [e77, va_up_ne _ _ (by omega)]; exact hlo n a
  clear e77
  refine ry_putF ff_X12_125 rfl (by omega) hc0 rfl rfl (by decide) dX12_init_309 ?_
  refine ry_cs (fun cs78 e78 => ?_)
  have hc1 : cs78 270 = .inl (gY G 13, 2400, .inl (fun _ => 0)) := by rw [e78, va_up_ne _ _ (by omega)]; exact hc1
  have hc2 : cs78 271 = .inl (gY G 14, 4, .inl (fun _ => 0)) := by rw [e78, va_up_ne _ _ (by omega)]; exact hc2
  have hc3 : cs78 272 = .inl (gY G 14, 4, .inl (fun _ => 0)) := by rw [e78, va_up_ne _ _ (by omega)]; exact hc3
  have hc4 : cs78 273 = .inl (gY G 14, 4, .inl (fun _ => 0)) := by rw [e78, va_up_ne _ _ (by omega)]; exact hc4
  have hc5 : cs78 274 = .inl (gY G 14, 16, .inl (fun _ => 0)) := by rw [e78, va_up_ne _ _ (by omega)]; exact hc5
  have hc6 : cs78 275 = .inl (gY G 14, 104, .inl (fun _ => 0)) := by rw [e78, va_up_ne _ _ (by omega)]; exact hc6
  have hc7 : cs78 276 = .inl (gY G 14, 1072, .inl (fun _ => 0)) := by rw [e78, va_up_ne _ _ (by omega)]; exact hc7
  have hc8 : cs78 277 = .inl (gY G 14, 968, .inl (fun _ => 0)) := by rw [e78, va_up_ne _ _ (by omega)]; exact hc8
  have hc9 : cs78 278 = .inl (gY G 14, 136, .inl (fun _ => 0)) := by rw [e78, va_up_ne _ _ (by omega)]; exact hc9
  have hc10 : cs78 279 = .inl (gY G 14, 134, .inl (fun _ => 0)) := by rw [e78, va_up_ne _ _ (by omega)]; exact hc10
  have hc11 : cs78 280 = .inl (gY G 14, 3, .inl (fun _ => 0)) := by rw [e78, va_up_ne _ _ (by omega)]; exact hc11
  have hc12 : cs78 281 = .inl (gY G 14, 10, .inl (fun _ => 0)) := by rw [e78, va_up_ne _ _ (by omega)]; exact hc12
  have hc13 : cs78 282 = .inl (gY G 14, 10, .inl (fun _ => 0)) := by rw [e78, va_up_ne _ _ (by omega)]; exact hc13
  have hc14 : cs78 283 = .inl (gY G 14, 10, .inl (fun _ => 0)) := by rw [e78, va_up_ne _ _ (by omega)]; exact hc14
  have hc15 : cs78 284 = .inl (gY G 14, 10, .inl (fun _ => 0)) := by rw [e78, va_up_ne _ _ (by omega)]; exact hc15
  have hc16 : cs78 285 = .inl (gY G 14, 10, .inl (fun _ => 0)) := by rw [e78, va_up_ne _ _ (by omega)]; exact hc16
  have hc17 : cs78 286 = .inl (gY G 14, 4, .inl (fun _ => 0)) := by rw [e78, va_up_ne _ _ (by omega)]; exact hc17
  have hc18 : cs78 287 = .inl (gY G 14, 4, .inl (fun _ => 0)) := by rw [e78, va_up_ne _ _ (by omega)]; exact hc18
  have hc19 : cs78 288 = .inl (gY G 14, 4, .inl (fun _ => 0)) := by rw [e78, va_up_ne _ _ (by omega)]; exact hc19
  have hc20 : cs78 289 = .inl (gY G 14, 4, .inl (fun _ => 0)) := by rw [e78, va_up_ne _ _ (by omega)]; exact hc20
  have hc21 : cs78 290 = .inl (gY G 14, 4, .inl (fun _ => 0)) := by rw [e78, va_up_ne _ _ (by omega)]; exact hc21
  have hc22 : cs78 291 = .inl (gY G 14, 4, .inl (fun _ => 0)) := by rw [e78, va_up_ne _ _ (by omega)]; exact hc22
  have hc23 : cs78 292 = .inl (gY G 14, 40, .inl (fun _ => 0)) := by rw [e78, va_up_ne _ _ (by omega)]; exact hc23
  have hc24 : cs78 293 = .inl (gY G 14, 40, .inl (fun _ => 0)) := by rw [e78, va_up_ne _ _ (by omega)]; exact hc24
  have hc25 : cs78 294 = .inl (gY G 14, 40, .inl (fun _ => 0)) := by rw [e78, va_up_ne _ _ (by omega)]; exact hc25
  have hc26 : cs78 295 = .inl (gY G 14, 64, .inl (fun _ => 0)) := by rw [e78, va_up_ne _ _ (by omega)]; exact hc26
  have hc27 : cs78 296 = .inl (gY G 14, 64, .inl (fun _ => 0)) := by rw [e78, va_up_ne _ _ (by omega)]; exact hc27
  have hc28 : cs78 297 = .inl (gY G 14, 64, .inl (fun _ => 0)) := by rw [e78, va_up_ne _ _ (by omega)]; exact hc28
  have hc29 : cs78 298 = .inl (gY G 14, 64, .inl (fun _ => 0)) := by rw [e78, va_up_ne _ _ (by omega)]; exact hc29
  have hc30 : cs78 299 = .inl (gY G 14, 64, .inl (fun _ => 0)) := by rw [e78, va_up_ne _ _ (by omega)]; exact hc30
  have hc31 : cs78 300 = .inl (gY G 14, 64, .inl (fun _ => 0)) := by rw [e78, va_up_ne _ _ (by omega)]; exact hc31
  have hc32 : cs78 301 = .inl (gY G 14, 64, .inl (fun _ => 0)) := by rw [e78, va_up_ne _ _ (by omega)]; exact hc32
  have hc33 : cs78 302 = .inl (gY G 14, 64, .inl (fun _ => 0)) := by rw [e78, va_up_ne _ _ (by omega)]; exact hc33
  have hc34 : cs78 303 = .inl (gY G 14, 640, .inl (fun _ => 0)) := by rw [e78, va_up_ne _ _ (by omega)]; exact hc34
  have hc35 : cs78 304 = .inl (gY G 14, 7, .inl (fun _ => 0)) := by rw [e78, va_up_ne _ _ (by omega)]; exact hc35
  have hc36 : cs78 305 = .inl (gY G 14, 10, .inl (fun _ => 0)) := by rw [e78, va_up_ne _ _ (by omega)]; exact hc36
  have hc37 : cs78 306 = .inl (gY G 14, 10, .inl (fun _ => 0)) := by rw [e78, va_up_ne _ _ (by omega)]; exact hc37
  have hc38 : cs78 307 = .inl (gY G 14, 10, .inl (fun _ => 0)) := by rw [e78, va_up_ne _ _ (by omega)]; exact hc38
  have hc39 : cs78 308 = .inl (gY G 14, 64, .inl (fun _ => 0)) := by rw [e78, va_up_ne _ _ (by omega)]; exact hc39
  have hc0 : cs78 269 = .inr (12, [.int 0, .ref (gA G 270), .ref (gA G 271), .ref (gA G 272), .ref (gA G 273), .ref (gA G 274), .ref (gA G 275), .ref (gA G 276), .ref (gA G 277), .ref (gA G 278), .int 0, .int 0, .int 0, .int 0, .int 0, .long 0, .int 0, .int 0, .int 0, .ref (gA G 279), .ref (gA G 280), .int 0, .int 0, .int 0, .int 0, .int 0, .int 0, .int 0, .int 0, .int 0, .int 0, .ref (gA G 281), .ref (gA G 282), .ref (gA G 283), .ref (gA G 284), .ref (gA G 285), .ref (gA G 286), .ref (gA G 287), .ref (gA G 288), .ref (gA G 289), .ref (gA G 290), .ref (gA G 291), .ref (gA G 292), .ref (gA G 293), .ref (gA G 294), .ref (gA G 295), .ref (gA G 296), .ref (gA G 297), .ref (gA G 298), .ref (gA G 299), .ref (gA G 300), .ref (gA G 301), .ref (gA G 302), .ref (gA G 303), .int 0, .int 0, .int 0, .int 0, .int 0, .int 0, .ref (gA G 304), .ref (gA G 305), .int 0, .int 0, .int 0, .int 0, .int 0, .ref (gA G 306), .ref (gA G 307), .int 0, .ref (gA G 308), .int 0, .int 0, .null, .null, .null, .int 0, .int 0, .int 0, .int 0, .int 0, .int 0, .null, .int 0, .int 0, .int 0, .int 0, .int 0, .int 0, .int 0, .int 0, .null]) := by rw [e78]; exact va_up_self _ _ _
  have hlo : ∀ n, n < 269 → cs78 n = cs n := fun n a => by rw [e78, va_up_ne _ _ (by omega)]; exact hlo n a
  clear e78
  refine ry_aload_n 0 dX12_init_312 rfl rfl ?_
  refine ry_bipush (v := 10) dX12_init_313 rfl ?_
  refine ry_newa (κ := 14) (n := 10) (atype := .int) (ty := .int) (t0 := 1) rfl wa_int rfl (fun _ _ => Iff.rfl) rfl (by decide) rfl (by decide) (by decide) (by decide) dX12_init_315 ?_
  refine ry_cs (fun cs79 e79 => ?_)
  have hc0 : cs79 269 = .inr (12, [.int 0, .ref (gA G 270), .ref (gA G 271), .ref (gA G 272), .ref (gA G 273), .ref (gA G 274), .ref (gA G 275), .ref (gA G 276), .ref (gA G 277), .ref (gA G 278), .int 0, .int 0, .int 0, .int 0, .int 0, .long 0, .int 0, .int 0, .int 0, .ref (gA G 279), .ref (gA G 280), .int 0, .int 0, .int 0, .int 0, .int 0, .int 0, .int 0, .int 0, .int 0, .int 0, .ref (gA G 281), .ref (gA G 282), .ref (gA G 283), .ref (gA G 284), .ref (gA G 285), .ref (gA G 286), .ref (gA G 287), .ref (gA G 288), .ref (gA G 289), .ref (gA G 290), .ref (gA G 291), .ref (gA G 292), .ref (gA G 293), .ref (gA G 294), .ref (gA G 295), .ref (gA G 296), .ref (gA G 297), .ref (gA G 298), .ref (gA G 299), .ref (gA G 300), .ref (gA G 301), .ref (gA G 302), .ref (gA G 303), .int 0, .int 0, .int 0, .int 0, .int 0, .int 0, .ref (gA G 304), .ref (gA G 305), .int 0, .int 0, .int 0, .int 0, .int 0, .ref (gA G 306), .ref (gA G 307), .int 0, .ref (gA G 308), .int 0, .int 0, .null, .null, .null, .int 0, .int 0, .int 0, .int 0, .int 0, .int 0, .null, .int 0, .int 0, .int 0, .int 0, .int 0, .int 0, .int 0, .int 0, .null]) := by rw [e79, va_up_ne _ _ (by omega)]; exact hc0
  have hc1 : cs79 270 = .inl (gY G 13, 2400, .inl (fun _ => 0)) := by rw [e79, va_up_ne _ _ (by omega)]; exact hc1
  have hc2 : cs79 271 = .inl (gY G 14, 4, .inl (fun _ => 0)) := by rw [e79, va_up_ne _ _ (by omega)]; exact hc2
  have hc3 : cs79 272 = .inl (gY G 14, 4, .inl (fun _ => 0)) := by rw [e79, va_up_ne _ _ (by omega)]; exact hc3
  have hc4 : cs79 273 = .inl (gY G 14, 4, .inl (fun _ => 0)) := by rw [e79, va_up_ne _ _ (by omega)]; exact hc4
  have hc5 : cs79 274 = .inl (gY G 14, 16, .inl (fun _ => 0)) := by rw [e79, va_up_ne _ _ (by omega)]; exact hc5
  have hc6 : cs79 275 = .inl (gY G 14, 104, .inl (fun _ => 0)) := by rw [e79, va_up_ne _ _ (by omega)]; exact hc6
  have hc7 : cs79 276 = .inl (gY G 14, 1072, .inl (fun _ => 0)) := by rw [e79, va_up_ne _ _ (by omega)]; exact hc7
  have hc8 : cs79 277 = .inl (gY G 14, 968, .inl (fun _ => 0)) := by rw [e79, va_up_ne _ _ (by omega)]; exact hc8
  have hc9 : cs79 278 = .inl (gY G 14, 136, .inl (fun _ => 0)) := by rw [e79, va_up_ne _ _ (by omega)]; exact hc9
  have hc10 : cs79 279 = .inl (gY G 14, 134, .inl (fun _ => 0)) := by rw [e79, va_up_ne _ _ (by omega)]; exact hc10
  have hc11 : cs79 280 = .inl (gY G 14, 3, .inl (fun _ => 0)) := by rw [e79, va_up_ne _ _ (by omega)]; exact hc11
  have hc12 : cs79 281 = .inl (gY G 14, 10, .inl (fun _ => 0)) := by rw [e79, va_up_ne _ _ (by omega)]; exact hc12
  have hc13 : cs79 282 = .inl (gY G 14, 10, .inl (fun _ => 0)) := by rw [e79, va_up_ne _ _ (by omega)]; exact hc13
  have hc14 : cs79 283 = .inl (gY G 14, 10, .inl (fun _ => 0)) := by rw [e79, va_up_ne _ _ (by omega)]; exact hc14
  have hc15 : cs79 284 = .inl (gY G 14, 10, .inl (fun _ => 0)) := by rw [e79, va_up_ne _ _ (by omega)]; exact hc15
  have hc16 : cs79 285 = .inl (gY G 14, 10, .inl (fun _ => 0)) := by rw [e79, va_up_ne _ _ (by omega)]; exact hc16
  have hc17 : cs79 286 = .inl (gY G 14, 4, .inl (fun _ => 0)) := by rw [e79, va_up_ne _ _ (by omega)]; exact hc17
  have hc18 : cs79 287 = .inl (gY G 14, 4, .inl (fun _ => 0)) := by rw [e79, va_up_ne _ _ (by omega)]; exact hc18
  have hc19 : cs79 288 = .inl (gY G 14, 4, .inl (fun _ => 0)) := by rw [e79, va_up_ne _ _ (by omega)]; exact hc19
  have hc20 : cs79 289 = .inl (gY G 14, 4, .inl (fun _ => 0)) := by rw [e79, va_up_ne _ _ (by omega)]; exact hc20
  have hc21 : cs79 290 = .inl (gY G 14, 4, .inl (fun _ => 0)) := by rw [e79, va_up_ne _ _ (by omega)]; exact hc21
  have hc22 : cs79 291 = .inl (gY G 14, 4, .inl (fun _ => 0)) := by rw [e79, va_up_ne _ _ (by omega)]; exact hc22
  have hc23 : cs79 292 = .inl (gY G 14, 40, .inl (fun _ => 0)) := by rw [e79, va_up_ne _ _ (by omega)]; exact hc23
  have hc24 : cs79 293 = .inl (gY G 14, 40, .inl (fun _ => 0)) := by rw [e79, va_up_ne _ _ (by omega)]; exact hc24
  have hc25 : cs79 294 = .inl (gY G 14, 40, .inl (fun _ => 0)) := by rw [e79, va_up_ne _ _ (by omega)]; exact hc25
  have hc26 : cs79 295 = .inl (gY G 14, 64, .inl (fun _ => 0)) := by rw [e79, va_up_ne _ _ (by omega)]; exact hc26
  have hc27 : cs79 296 = .inl (gY G 14, 64, .inl (fun _ => 0)) := by rw [e79, va_up_ne _ _ (by omega)]; exact hc27
  have hc28 : cs79 297 = .inl (gY G 14, 64, .inl (fun _ => 0)) := by rw [e79, va_up_ne _ _ (by omega)]; exact hc28
  have hc29 : cs79 298 = .inl (gY G 14, 64, .inl (fun _ => 0)) := by rw [e79, va_up_ne _ _ (by omega)]; exact hc29
  have hc30 : cs79 299 = .inl (gY G 14, 64, .inl (fun _ => 0)) := by rw [e79, va_up_ne _ _ (by omega)]; exact hc30
  have hc31 : cs79 300 = .inl (gY G 14, 64, .inl (fun _ => 0)) := by rw [e79, va_up_ne _ _ (by omega)]; exact hc31
  have hc32 : cs79 301 = .inl (gY G 14, 64, .inl (fun _ => 0)) := by rw [e79, va_up_ne _ _ (by omega)]; exact hc32
  have hc33 : cs79 302 = .inl (gY G 14, 64, .inl (fun _ => 0)) := by rw [e79, va_up_ne _ _ (by omega)]; exact hc33
  have hc34 : cs79 303 = .inl (gY G 14, 640, .inl (fun _ => 0)) := by rw [e79, va_up_ne _ _ (by omega)]; exact hc34
  have hc35 : cs79 304 = .inl (gY G 14, 7, .inl (fun _ => 0)) := by rw [e79, va_up_ne _ _ (by omega)]; exact hc35
  have hc36 : cs79 305 = .inl (gY G 14, 10, .inl (fun _ => 0)) := by rw [e79, va_up_ne _ _ (by omega)]; exact hc36
  have hc37 : cs79 306 = .inl (gY G 14, 10, .inl (fun _ => 0)) := by rw [e79, va_up_ne _ _ (by omega)]; exact hc37
  have hc38 : cs79 307 = .inl (gY G 14, 10, .inl (fun _ => 0)) := by rw [e79, va_up_ne _ _ (by omega)]; exact hc38
  have hc39 : cs79 308 = .inl (gY G 14, 64, .inl (fun _ => 0)) := by rw [e79, va_up_ne _ _ (by omega)]; exact hc39
  have hc40 : cs79 309 = .inl (gY G 14, 10, .inl (fun _ => 0)) := by rw [e79]; exact va_up_self _ _ _
  have hlo : ∀ n, n < 269 → cs79 n = cs n := fun n a => by rw [e79, va_up_ne _ _ (by omega)]; exact hlo n a
  clear e79
  refine ry_putF ff_X12_128 rfl (by omega) hc0 rfl rfl (by decide) dX12_init_317 ?_
  refine ry_cs (fun cs80 e80 => ?_)
  have hc1 : cs80 270 = .inl (gY G 13, 2400, .inl (fun _ => 0)) := by rw [e80, va_up_ne _ _ (by omega)]; exact hc1
  have hc2 : cs80 271 = .inl (gY G 14, 4, .inl (fun _ => 0)) := by rw [e80, va_up_ne _ _ (by omega)]; exact hc2
  have hc3 : cs80 272 = .inl (gY G 14, 4, .inl (fun _ => 0)) := by rw [e80, va_up_ne _ _ (by omega)]; exact hc3
  have hc4 : cs80 273 = .inl (gY G 14, 4, .inl (fun _ => 0)) := by rw [e80, va_up_ne _ _ (by omega)]; exact hc4
  have hc5 : cs80 274 = .inl (gY G 14, 16, .inl (fun _ => 0)) := by rw [e80, va_up_ne _ _ (by omega)]; exact hc5
  have hc6 : cs80 275 = .inl (gY G 14, 104, .inl (fun _ => 0)) := by rw [e80, va_up_ne _ _ (by omega)]; exact hc6
  have hc7 : cs80 276 = .inl (gY G 14, 1072, .inl (fun _ => 0)) := by rw [e80, va_up_ne _ _ (by omega)]; exact hc7
  have hc8 : cs80 277 = .inl (gY G 14, 968, .inl (fun _ => 0)) := by rw [e80, va_up_ne _ _ (by omega)]; exact hc8
  have hc9 : cs80 278 = .inl (gY G 14, 136, .inl (fun _ => 0)) := by rw [e80, va_up_ne _ _ (by omega)]; exact hc9
  have hc10 : cs80 279 = .inl (gY G 14, 134, .inl (fun _ => 0)) := by rw [e80, va_up_ne _ _ (by omega)]; exact hc10
  have hc11 : cs80 280 = .inl (gY G 14, 3, .inl (fun _ => 0)) := by rw [e80, va_up_ne _ _ (by omega)]; exact hc11
  have hc12 : cs80 281 = .inl (gY G 14, 10, .inl (fun _ => 0)) := by rw [e80, va_up_ne _ _ (by omega)]; exact hc12
  have hc13 : cs80 282 = .inl (gY G 14, 10, .inl (fun _ => 0)) := by rw [e80, va_up_ne _ _ (by omega)]; exact hc13
  have hc14 : cs80 283 = .inl (gY G 14, 10, .inl (fun _ => 0)) := by rw [e80, va_up_ne _ _ (by omega)]; exact hc14
  have hc15 : cs80 284 = .inl (gY G 14, 10, .inl (fun _ => 0)) := by rw [e80, va_up_ne _ _ (by omega)]; exact hc15
  have hc16 : cs80 285 = .inl (gY G 14, 10, .inl (fun _ => 0)) := by rw [e80, va_up_ne _ _ (by omega)]; exact hc16
  have hc17 : cs80 286 = .inl (gY G 14, 4, .inl (fun _ => 0)) := by rw [e80, va_up_ne _ _ (by omega)]; exact hc17
  have hc18 : cs80 287 = .inl (gY G 14, 4, .inl (fun _ => 0)) := by rw [e80, va_up_ne _ _ (by omega)]; exact hc18
  have hc19 : cs80 288 = .inl (gY G 14, 4, .inl (fun _ => 0)) := by rw [e80, va_up_ne _ _ (by omega)]; exact hc19
  have hc20 : cs80 289 = .inl (gY G 14, 4, .inl (fun _ => 0)) := by rw [e80, va_up_ne _ _ (by omega)]; exact hc20
  have hc21 : cs80 290 = .inl (gY G 14, 4, .inl (fun _ => 0)) := by rw [e80, va_up_ne _ _ (by omega)]; exact hc21
  have hc22 : cs80 291 = .inl (gY G 14, 4, .inl (fun _ => 0)) := by rw [e80, va_up_ne _ _ (by omega)]; exact hc22
  have hc23 : cs80 292 = .inl (gY G 14, 40, .inl (fun _ => 0)) := by rw [e80, va_up_ne _ _ (by omega)]; exact hc23
  have hc24 : cs80 293 = .inl (gY G 14, 40, .inl (fun _ => 0)) := by rw [e80, va_up_ne _ _ (by omega)]; exact hc24
  have hc25 : cs80 294 = .inl (gY G 14, 40, .inl (fun _ => 0)) := by rw [e80, va_up_ne _ _ (by omega)]; exact hc25
  have hc26 : cs80 295 = .inl (gY G 14, 64, .inl (fun _ => 0)) := by rw [e80, va_up_ne _ _ (by omega)]; exact hc26
  have hc27 : cs80 296 = .inl (gY G 14, 64, .inl (fun _ => 0)) := by rw [e80, va_up_ne _ _ (by omega)]; exact hc27
  have hc28 : cs80 297 = .inl (gY G 14, 64, .inl (fun _ => 0)) := by rw [e80, va_up_ne _ _ (by omega)]; exact hc28
  have hc29 : cs80 298 = .inl (gY G 14, 64, .inl (fun _ => 0)) := by rw [e80, va_up_ne _ _ (by omega)]; exact hc29
  have hc30 : cs80 299 = .inl (gY G 14, 64, .inl (fun _ => 0)) := by rw [e80, va_up_ne _ _ (by omega)]; exact hc30
  have hc31 : cs80 300 = .inl (gY G 14, 64, .inl (fun _ => 0)) := by rw [e80, va_up_ne _ _ (by omega)]; exact hc31
  have hc32 : cs80 301 = .inl (gY G 14, 64, .inl (fun _ => 0)) := by rw [e80, va_up_ne _ _ (by omega)]; exact hc32
  have hc33 : cs80 302 = .inl (gY G 14, 64, .inl (fun _ => 0)) := by rw [e80, va_up_ne _ _ (by omega)]; exact hc33
  have hc34 : cs80 303 = .inl (gY G 14, 640, .inl (fun _ => 0)) := by rw [e80, va_up_ne _ _ (by omega)]; exact hc34
  have hc35 : cs80 304 = .inl (gY G 14, 7, .inl (fun _ => 0)) := by rw [e80, va_up_ne _ _ (by omega)]; exact hc35
  have hc36 : cs80 305 = .inl (gY G 14, 10, .inl (fun _ => 0)) := by rw [e80, va_up_ne _ _ (by omega)]; exact hc36
  have hc37 : cs80 306 = .inl (gY G 14, 10, .inl (fun _ => 0)) := by rw [e80, va_up_ne _ _ (by omega)]; exact hc37
  have hc38 : cs80 307 = .inl (gY G 14, 10, .inl (fun _ => 0)) := by rw [e80, va_up_ne _ _ (by omega)]; exact hc38
  have hc39 : cs80 308 = .inl (gY G 14, 64, .inl (fun _ => 0)) := by rw [e80, va_up_ne _ _ (by omega)]; exact hc39
  have hc40 : cs80 309 = .inl (gY G 14, 10, .inl (fun _ => 0)) := by rw [e80, va_up_ne _ _ (by omega)]; exact hc40
  have hc0 : cs80 269 = .inr (12, [.int 0, .ref (gA G 270), .ref (gA G 271), .ref (gA G 272), .ref (gA G 273), .ref (gA G 274), .ref (gA G 275), .ref (gA G 276), .ref (gA G 277), .ref (gA G 278), .int 0, .int 0, .int 0, .int 0, .int 0, .long 0, .int 0, .int 0, .int 0, .ref (gA G 279), .ref (gA G 280), .int 0, .int 0, .int 0, .int 0, .int 0, .int 0, .int 0, .int 0, .int 0, .int 0, .ref (gA G 281), .ref (gA G 282), .ref (gA G 283), .ref (gA G 284), .ref (gA G 285), .ref (gA G 286), .ref (gA G 287), .ref (gA G 288), .ref (gA G 289), .ref (gA G 290), .ref (gA G 291), .ref (gA G 292), .ref (gA G 293), .ref (gA G 294), .ref (gA G 295), .ref (gA G 296), .ref (gA G 297), .ref (gA G 298), .ref (gA G 299), .ref (gA G 300), .ref (gA G 301), .ref (gA G 302), .ref (gA G 303), .int 0, .int 0, .int 0, .int 0, .int 0, .int 0, .ref (gA G 304), .ref (gA G 305), .int 0, .int 0, .int 0, .int 0, .int 0, .ref (gA G 306), .ref (gA G 307), .int 0, .ref (gA G 308), .int 0, .int 0, .ref (gA G 309), .null, .null, .int 0, .int 0, .int 0, .int 0, .int 0, .int 0, .null, .int 0, .int 0, .int 0, .int 0, .int 0, .int 0, .int 0, .int 0, .null]) := by rw [e80]; exact va_up_self _ _ _
  have hlo : ∀ n, n < 269 → cs80 n = cs n := fun n a => by rw [e80, va_up_ne _ _ (by omega)]; exact hlo n a
  clear e80
  refine ry_aload_n 0 dX12_init_320 rfl rfl ?_
  refine ry_bipush (v := 6) dX12_init_321 rfl ?_
  refine ry_newa (κ := 14) (n := 6) (atype := .int) (ty := .int) (t0 := 1) rfl wa_int rfl (fun _ _ => Iff.rfl) rfl (by decide) rfl (by decide) (by decide) (by decide) dX12_init_323 ?_
  refine ry_cs (fun cs81 e81 => ?_)
  have hc0 : cs81 269 = .inr (12, [.int 0, .ref (gA G 270), .ref (gA G 271), .ref (gA G 272), .ref (gA G 273), .ref (gA G 274), .ref (gA G 275), .ref (gA G 276), .ref (gA G 277), .ref (gA G 278), .int 0, .int 0, .int 0, .int 0, .int 0, .long 0, .int 0, .int 0, .int 0, .ref (gA G 279), .ref (gA G 280), .int 0, .int 0, .int 0, .int 0, .int 0, .int 0, .int 0, .int 0, .int 0, .int 0, .ref (gA G 281), .ref (gA G 282), .ref (gA G 283), .ref (gA G 284), .ref (gA G 285), .ref (gA G 286), .ref (gA G 287), .ref (gA G 288), .ref (gA G 289), .ref (gA G 290), .ref (gA G 291), .ref (gA G 292), .ref (gA G 293), .ref (gA G 294), .ref (gA G 295), .ref (gA G 296), .ref (gA G 297), .ref (gA G 298), .ref (gA G 299), .ref (gA G 300), .ref (gA G 301), .ref (gA G 302), .ref (gA G 303), .int 0, .int 0, .int 0, .int 0, .int 0, .int 0, .ref (gA G 304), .ref (gA G 305), .int 0, .int 0, .int 0, .int 0, .int 0, .ref (gA G 306), .ref (gA G 307), .int 0, .ref (gA G 308), .int 0, .int 0, .ref (gA G 309), .null, .null, .int 0, .int 0, .int 0, .int 0, .int 0, .int 0, .null, .int 0, .int 0, .int 0, .int 0, .int 0, .int 0, .int 0, .int 0, .null]) := by rw [e81, va_up_ne _ _ (by omega)]; exact hc0
  have hc1 : cs81 270 = .inl (gY G 13, 2400, .inl (fun _ => 0)) := by rw [e81, va_up_ne _ _ (by omega)]; exact hc1
  have hc2 : cs81 271 = .inl (gY G 14, 4, .inl (fun _ => 0)) := by rw [e81, va_up_ne _ _ (by omega)]; exact hc2
  have hc3 : cs81 272 = .inl (gY G 14, 4, .inl (fun _ => 0)) := by rw [e81, va_up_ne _ _ (by omega)]; exact hc3
  have hc4 : cs81 273 = .inl (gY G 14, 4, .inl (fun _ => 0)) := by rw [e81, va_up_ne _ _ (by omega)]; exact hc4
  have hc5 : cs81 274 = .inl (gY G 14, 16, .inl (fun _ => 0)) := by rw [e81, va_up_ne _ _ (by omega)]; exact hc5
  have hc6 : cs81 275 = .inl (gY G 14, 104, .inl (fun _ => 0)) := by rw [e81, va_up_ne _ _ (by omega)]; exact hc6
  have hc7 : cs81 276 = .inl (gY G 14, 1072, .inl (fun _ => 0)) := by rw [e81, va_up_ne _ _ (by omega)]; exact hc7
  have hc8 : cs81 277 = .inl (gY G 14, 968, .inl (fun _ => 0)) := by rw [e81, va_up_ne _ _ (by omega)]; exact hc8
  have hc9 : cs81 278 = .inl (gY G 14, 136, .inl (fun _ => 0)) := by rw [e81, va_up_ne _ _ (by omega)]; exact hc9
  have hc10 : cs81 279 = .inl (gY G 14, 134, .inl (fun _ => 0)) := by rw [e81, va_up_ne _ _ (by omega)]; exact hc10
  have hc11 : cs81 280 = .inl (gY G 14, 3, .inl (fun _ => 0)) := by rw [e81, va_up_ne _ _ (by omega)]; exact hc11
  have hc12 : cs81 281 = .inl (gY G 14, 10, .inl (fun _ => 0)) := by rw [e81, va_up_ne _ _ (by omega)]; exact hc12
  have hc13 : cs81 282 = .inl (gY G 14, 10, .inl (fun _ => 0)) := by rw [e81, va_up_ne _ _ (by omega)]; exact hc13
  have hc14 : cs81 283 = .inl (gY G 14, 10, .inl (fun _ => 0)) := by rw [e81, va_up_ne _ _ (by omega)]; exact hc14
  have hc15 : cs81 284 = .inl (gY G 14, 10, .inl (fun _ => 0)) := by rw [e81, va_up_ne _ _ (by omega)]; exact hc15
  have hc16 : cs81 285 = .inl (gY G 14, 10, .inl (fun _ => 0)) := by rw [e81, va_up_ne _ _ (by omega)]; exact hc16
  have hc17 : cs81 286 = .inl (gY G 14, 4, .inl (fun _ => 0)) := by rw [e81, va_up_ne _ _ (by omega)]; exact hc17
  have hc18 : cs81 287 = .inl (gY G 14, 4, .inl (fun _ => 0)) := by rw [e81, va_up_ne _ _ (by omega)]; exact hc18
  have hc19 : cs81 288 = .inl (gY G 14, 4, .inl (fun _ => 0)) := by rw [e81, va_up_ne _ _ (by omega)]; exact hc19
  have hc20 : cs81 289 = .inl (gY G 14, 4, .inl (fun _ => 0)) := by rw [e81, va_up_ne _ _ (by omega)]; exact hc20
  have hc21 : cs81 290 = .inl (gY G 14, 4, .inl (fun _ => 0)) := by rw [e81, va_up_ne _ _ (by omega)]; exact hc21
  have hc22 : cs81 291 = .inl (gY G 14, 4, .inl (fun _ => 0)) := by rw [e81, va_up_ne _ _ (by omega)]; exact hc22
  have hc23 : cs81 292 = .inl (gY G 14, 40, .inl (fun _ => 0)) := by rw [e81, va_up_ne _ _ (by omega)]; exact hc23
  have hc24 : cs81 293 = .inl (gY G 14, 40, .inl (fun _ => 0)) := by rw [e81, va_up_ne _ _ (by omega)]; exact hc24
  have hc25 : cs81 294 = .inl (gY G 14, 40, .inl (fun _ => 0)) := by rw [e81, va_up_ne _ _ (by omega)]; exact hc25
  have hc26 : cs81 295 = .inl (gY G 14, 64, .inl (fun _ => 0)) := by rw [e81, va_up_ne _ _ (by omega)]; exact hc26
  have hc27 : cs81 296 = .inl (gY G 14, 64, .inl (fun _ => 0)) := by rw [e81, va_up_ne _ _ (by omega)]; exact hc27
  have hc28 : cs81 297 = .inl (gY G 14, 64, .inl (fun _ => 0)) := by rw [e81, va_up_ne _ _ (by omega)]; exact hc28
  have hc29 : cs81 298 = .inl (gY G 14, 64, .inl (fun _ => 0)) := by rw [e81, va_up_ne _ _ (by omega)]; exact hc29
  have hc30 : cs81 299 = .inl (gY G 14, 64, .inl (fun _ => 0)) := by rw [e81, va_up_ne _ _ (by omega)]; exact hc30
  have hc31 : cs81 300 = .inl (gY G 14, 64, .inl (fun _ => 0)) := by rw [e81, va_up_ne _ _ (by omega)]; exact hc31
  have hc32 : cs81 301 = .inl (gY G 14, 64, .inl (fun _ => 0)) := by rw [e81, va_up_ne _ _ (by omega)]; exact hc32
  have hc33 : cs81 302 = .inl (gY G 14, 64, .inl (fun _ => 0)) := by rw [e81, va_up_ne _ _ (by omega)]; exact hc33
  have hc34 : cs81 303 = .inl (gY G 14, 640, .inl (fun _ => 0)) := by rw [e81, va_up_ne _ _ (by omega)]; exact hc34
  have hc35 : cs81 304 = .inl (gY G 14, 7, .inl (fun _ => 0)) := by rw [e81, va_up_ne _ _ (by omega)]; exact hc35
  have hc36 : cs81 305 = .inl (gY G 14, 10, .inl (fun _ => 0)) := by rw [e81, va_up_ne _ _ (by omega)]; exact hc36
  have hc37 : cs81 306 = .inl (gY G 14, 10, .inl (fun _ => 0)) := by rw [e81, va_up_ne _ _ (by omega)]; exact hc37
  have hc38 : cs81 307 = .inl (gY G 14, 10, .inl (fun _ => 0)) := by rw [e81, va_up_ne _ _ (by omega)]; exact hc38
  have hc39 : cs81 308 = .inl (gY G 14, 64, .inl (fun _ => 0)) := by rw [e81, va_up_ne _ _ (by omega)]; exact hc39
  have hc40 : cs81 309 = .inl (gY G 14, 10, .inl (fun _ => 0)) := by rw [e81, va_up_ne _ _ (by omega)]; exact hc40
  have hc41 : cs81 310 = .inl (gY G 14, 6, .inl (fun _ => 0)) := by rw [e81]; exact va_up_self _ _ _
  have hlo : ∀ n, n < 269 → cs81 n = cs n := fun n a => by rw [e81, va_up_ne _ _ (by omega)]; exact hlo n a
  clear e81
  refine ry_putF ff_X12_131 rfl (by omega) hc0 rfl rfl (by decide) dX12_init_325 ?_
  refine ry_cs (fun cs82 e82 => ?_)
  have hc1 : cs82 270 = .inl (gY G 13, 2400, .inl (fun _ => 0)) := by rw [e82, va_up_ne _ _ (by omega)]; exact hc1
  have hc2 : cs82 271 = .inl (gY G 14, 4, .inl (fun _ => 0)) := by rw [e82, va_up_ne _ _ (by omega)]; exact hc2
  have hc3 : cs82 272 = .inl (gY G 14, 4, .inl (fun _ => 0)) := by rw [e82, va_up_ne _ _ (by omega)]; exact hc3
  have hc4 : cs82 273 = .inl (gY G 14, 4, .inl (fun _ => 0)) := by rw [e82, va_up_ne _ _ (by omega)]; exact hc4
  have hc5 : cs82 274 = .inl (gY G 14, 16, .inl (fun _ => 0)) := by rw [e82, va_up_ne _ _ (by omega)]; exact hc5
  have hc6 : cs82 275 = .inl (gY G 14, 104, .inl (fun _ => 0)) := by rw [e82, va_up_ne _ _ (by omega)]; exact hc6
  have hc7 : cs82 276 = .inl (gY G 14, 1072, .inl (fun _ => 0)) := by rw [e82, va_up_ne _ _ (by omega)]; exact hc7
  have hc8 : cs82 277 = .inl (gY G 14, 968, .inl (fun _ => 0)) := by rw [e82, va_up_ne _ _ (by omega)]; exact hc8
  have hc9 : cs82 278 = .inl (gY G 14, 136, .inl (fun _ => 0)) := by rw [e82, va_up_ne _ _ (by omega)]; exact hc9
  have hc10 : cs82 279 = .inl (gY G 14, 134, .inl (fun _ => 0)) := by rw [e82, va_up_ne _ _ (by omega)]; exact hc10
  have hc11 : cs82 280 = .inl (gY G 14, 3, .inl (fun _ => 0)) := by rw [e82, va_up_ne _ _ (by omega)]; exact hc11
  have hc12 : cs82 281 = .inl (gY G 14, 10, .inl (fun _ => 0)) := by rw [e82, va_up_ne _ _ (by omega)]; exact hc12
  have hc13 : cs82 282 = .inl (gY G 14, 10, .inl (fun _ => 0)) := by rw [e82, va_up_ne _ _ (by omega)]; exact hc13
  have hc14 : cs82 283 = .inl (gY G 14, 10, .inl (fun _ => 0)) := by rw [e82, va_up_ne _ _ (by omega)]; exact hc14
  have hc15 : cs82 284 = .inl (gY G 14, 10, .inl (fun _ => 0)) := by rw [e82, va_up_ne _ _ (by omega)]; exact hc15
  have hc16 : cs82 285 = .inl (gY G 14, 10, .inl (fun _ => 0)) := by rw [e82, va_up_ne _ _ (by omega)]; exact hc16
  have hc17 : cs82 286 = .inl (gY G 14, 4, .inl (fun _ => 0)) := by rw [e82, va_up_ne _ _ (by omega)]; exact hc17
  have hc18 : cs82 287 = .inl (gY G 14, 4, .inl (fun _ => 0)) := by rw [e82, va_up_ne _ _ (by omega)]; exact hc18
  have hc19 : cs82 288 = .inl (gY G 14, 4, .inl (fun _ => 0)) := by rw [e82, va_up_ne _ _ (by omega)]; exact hc19
  have hc20 : cs82 289 = .inl (gY G 14, 4, .inl (fun _ => 0)) := by rw [e82, va_up_ne _ _ (by omega)]; exact hc20
  have hc21 : cs82 290 = .inl (gY G 14, 4, .inl (fun _ => 0)) := by rw [e82, va_up_ne _ _ (by omega)]; exact hc21
  have hc22 : cs82 291 = .inl (gY G 14, 4, .inl (fun _ => 0)) := by rw [e82, va_up_ne _ _ (by omega)]; exact hc22
  have hc23 : cs82 292 = .inl (gY G 14, 40, .inl (fun _ => 0)) := by rw [e82, va_up_ne _ _ (by omega)]; exact hc23
  have hc24 : cs82 293 = .inl (gY G 14, 40, .inl (fun _ => 0)) := by rw [e82, va_up_ne _ _ (by omega)]; exact hc24
  have hc25 : cs82 294 = .inl (gY G 14, 40, .inl (fun _ => 0)) := by rw [e82, va_up_ne _ _ (by omega)]; exact hc25
  have hc26 : cs82 295 = .inl (gY G 14, 64, .inl (fun _ => 0)) := by rw [e82, va_up_ne _ _ (by omega)]; exact hc26
  have hc27 : cs82 296 = .inl (gY G 14, 64, .inl (fun _ => 0)) := by rw [e82, va_up_ne _ _ (by omega)]; exact hc27
  have hc28 : cs82 297 = .inl (gY G 14, 64, .inl (fun _ => 0)) := by rw [e82, va_up_ne _ _ (by omega)]; exact hc28
  have hc29 : cs82 298 = .inl (gY G 14, 64, .inl (fun _ => 0)) := by rw [e82, va_up_ne _ _ (by omega)]; exact hc29
  have hc30 : cs82 299 = .inl (gY G 14, 64, .inl (fun _ => 0)) := by rw [e82, va_up_ne _ _ (by omega)]; exact hc30
  have hc31 : cs82 300 = .inl (gY G 14, 64, .inl (fun _ => 0)) := by rw [e82, va_up_ne _ _ (by omega)]; exact hc31
  have hc32 : cs82 301 = .inl (gY G 14, 64, .inl (fun _ => 0)) := by rw [e82, va_up_ne _ _ (by omega)]; exact hc32
  have hc33 : cs82 302 = .inl (gY G 14, 64, .inl (fun _ => 0)) := by rw [e82, va_up_ne _ _ (by omega)]; exact hc33
  have hc34 : cs82 303 = .inl (gY G 14, 640, .inl (fun _ => 0)) := by rw [e82, va_up_ne _ _ (by omega)]; exact hc34
  have hc35 : cs82 304 = .inl (gY G 14, 7, .inl (fun _ => 0)) := by rw [e82, va_up_ne _ _ (by omega)]; exact hc35
  have hc36 : cs82 305 = .inl (gY G 14, 10, .inl (fun _ => 0)) := by rw [e82, va_up_ne _ _ (by omega)]; exact hc36
  have hc37 : cs82 306 = .inl (gY G 14, 10, .inl (fun _ => 0)) := by rw [e82, va_up_ne _ _ (by omega)]; exact hc37
  have hc38 : cs82 307 = .inl (gY G 14, 10, .inl (fun _ => 0)) := by rw [e82, va_up_ne _ _ (by omega)]; exact hc38
  have hc39 : cs82 308 = .inl (gY G 14, 64, .inl (fun _ => 0)) := by rw [e82, va_up_ne _ _ (by omega)]; exact hc39
  have hc40 : cs82 309 = .inl (gY G 14, 10, .inl (fun _ => 0)) := by rw [e82, va_up_ne _ _ (by omega)]; exact hc40
  have hc41 : cs82 310 = .inl (gY G 14, 6, .inl (fun _ => 0)) := by rw [e82, va_up_ne _ _ (by omega)]; exact hc41
  have hc0 : cs82 269 = .inr (12, [.int 0, .ref (gA G 270), .ref (gA G 271), .ref (gA G 272), .ref (gA G 273), .ref (gA G 274), .ref (gA G 275), .ref (gA G 276), .ref (gA G 277), .ref (gA G 278), .int 0, .int 0, .int 0, .int 0, .int 0, .long 0, .int 0, .int 0, .int 0, .ref (gA G 279), .ref (gA G 280), .int 0, .int 0, .int 0, .int 0, .int 0, .int 0, .int 0, .int 0, .int 0, .int 0, .ref (gA G 281), .ref (gA G 282), .ref (gA G 283), .ref (gA G 284), .ref (gA G 285), .ref (gA G 286), .ref (gA G 287), .ref (gA G 288), .ref (gA G 289), .ref (gA G 290), .ref (gA G 291), .ref (gA G 292), .ref (gA G 293), .ref (gA G 294), .ref (gA G 295), .ref (gA G 296), .ref (gA G 297), .ref (gA G 298), .ref (gA G 299), .ref (gA G 300), .ref (gA G 301), .ref (gA G 302), .ref (gA G 303), .int 0, .int 0, .int 0, .int 0, .int 0, .int 0, .ref (gA G 304), .ref (gA G 305), .int 0, .int 0, .int 0, .int 0, .int 0, .ref (gA G 306), .ref (gA G 307), .int 0, .ref (gA G 308), .int 0, .int 0, .ref (gA G 309), .ref (gA G 310), .null, .int 0, .int 0, .int 0, .int 0, .int 0, .int 0, .null, .int 0, .int 0, .int 0, .int 0, .int 0, .int 0, .int 0, .int 0, .null]) := by rw [e82]; exact va_up_self _ _ _
  have hlo : ∀ n, n < 269 → cs82 n = cs n := fun n a => by rw [e82, va_up_ne _ _ (by omega)]; exact hlo n a
  clear e82
  refine ry_aload_n 0 dX12_init_328 rfl rfl ?_
  refine ry_bipush (v := 6) dX12_init_329 rfl ?_
  refine ry_newa (κ := 14) (n := 6) (atype := .int) (ty := .int) (t0 := 1) rfl wa_int rfl (fun _ _ => Iff.rfl) rfl (by decide) rfl (by decide) (by decide) (by decide) dX12_init_331 ?_
  refine ry_cs (fun cs83 e83 => ?_)
  have hc0 : cs83 269 = .inr (12, [.int 0, .ref (gA G 270), .ref (gA G 271), .ref (gA G 272), .ref (gA G 273), .ref (gA G 274), .ref (gA G 275), .ref (gA G 276), .ref (gA G 277), .ref (gA G 278), .int 0, .int 0, .int 0, .int 0, .int 0, .long 0, .int 0, .int 0, .int 0, .ref (gA G 279), .ref (gA G 280), .int 0, .int 0, .int 0, .int 0, .int 0, .int 0, .int 0, .int 0, .int 0, .int 0, .ref (gA G 281), .ref (gA G 282), .ref (gA G 283), .ref (gA G 284), .ref (gA G 285), .ref (gA G 286), .ref (gA G 287), .ref (gA G 288), .ref (gA G 289), .ref (gA G 290), .ref (gA G 291), .ref (gA G 292), .ref (gA G 293), .ref (gA G 294), .ref (gA G 295), .ref (gA G 296), .ref (gA G 297), .ref (gA G 298), .ref (gA G 299), .ref (gA G 300), .ref (gA G 301), .ref (gA G 302), .ref (gA G 303), .int 0, .int 0, .int 0, .int 0, .int 0, .int 0, .ref (gA G 304), .ref (gA G 305), .int 0, .int 0, .int 0, .int 0, .int 0, .ref (gA G 306), .ref (gA G 307), .int 0, .ref (gA G 308), .int 0, .int 0, .ref (gA G 309), .ref (gA G 310), .null, .int 0, .int 0, .int 0, .int 0, .int 0, .int 0, .null, .int 0, .int 0, .int 0, .int 0, .int 0, .int 0, .int 0, .int 0, .null]) := by rw [e83, va_up_ne _ _ (by omega)]; exact hc0
  have hc1 : cs83 270 = .inl (gY G 13, 2400, .inl (fun _ => 0)) := by rw [e83, va_up_ne _ _ (by omega)]; exact hc1
  have hc2 : cs83 271 = .inl (gY G 14, 4, .inl (fun _ => 0)) := by rw [e83, va_up_ne _ _ (by omega)]; exact hc2
  have hc3 : cs83 272 = .inl (gY G 14, 4, .inl (fun _ => 0)) := by rw [e83, va_up_ne _ _ (by omega)]; exact hc3
  have hc4 : cs83 273 = .inl (gY G 14, 4, .inl (fun _ => 0)) := by rw [e83, va_up_ne _ _ (by omega)]; exact hc4
  have hc5 : cs83 274 = .inl (gY G 14, 16, .inl (fun _ => 0)) := by rw [e83, va_up_ne _ _ (by omega)]; exact hc5
  have hc6 : cs83 275 = .inl (gY G 14, 104, .inl (fun _ => 0)) := by rw [e83, va_up_ne _ _ (by omega)]; exact hc6
  have hc7 : cs83 276 = .inl (gY G 14, 1072, .inl (fun _ => 0)) := by rw [e83, va_up_ne _ _ (by omega)]; exact hc7
  have hc8 : cs83 277 = .inl (gY G 14, 968, .inl (fun _ => 0)) := by rw [e83, va_up_ne _ _ (by omega)]; exact hc8
  have hc9 : cs83 278 = .inl (gY G 14, 136, .inl (fun _ => 0)) := by rw [e83, va_up_ne _ _ (by omega)]; exact hc9
  have hc10 : cs83 279 = .inl (gY G 14, 134, .inl (fun _ => 0)) := by rw [e83, va_up_ne _ _ (by omega)]; exact hc10
  have hc11 : cs83 280 = .inl (gY G 14, 3, .inl (fun _ => 0)) := by rw [e83, va_up_ne _ _ (by omega)]; exact hc11
  have hc12 : cs83 281 = .inl (gY G 14, 10, .inl (fun _ => 0)) := by rw [e83, va_up_ne _ _ (by omega)]; exact hc12
  have hc13 : cs83 282 = .inl (gY G 14, 10, .inl (fun _ => 0)) := by rw [e83, va_up_ne _ _ (by omega)]; exact hc13
  have hc14 : cs83 283 = .inl (gY G 14, 10, .inl (fun _ => 0)) := by rw [e83, va_up_ne _ _ (by omega)]; exact hc14
  have hc15 : cs83 284 = .inl (gY G 14, 10, .inl (fun _ => 0)) := by rw [e83, va_up_ne _ _ (by omega)]; exact hc15
  have hc16 : cs83 285 = .inl (gY G 14, 10, .inl (fun _ => 0)) := by rw [e83, va_up_ne _ _ (by omega)]; exact hc16
  have hc17 : cs83 286 = .inl (gY G 14, 4, .inl (fun _ => 0)) := by rw [e83, va_up_ne _ _ (by omega)]; exact hc17
  have hc18 : cs83 287 = .inl (gY G 14, 4, .inl (fun _ => 0)) := by rw [e83, va_up_ne _ _ (by omega)]; exact hc18
  have hc19 : cs83 288 = .inl (gY G 14, 4, .inl (fun _ => 0)) := by rw [e83, va_up_ne _ _ (by omega)]; exact hc19
  have hc20 : cs83 289 = .inl (gY G 14, 4, .inl (fun _ => 0)) := by rw [e83, va_up_ne _ _ (by omega)]; exact hc20
  have hc21 : cs83 290 = .inl (gY G 14, 4, .inl (fun _ => 0)) := by rw [e83, va_up_ne _ _ (by omega)]; exact hc21
  have hc22 : cs83 291 = .inl (gY G 14, 4, .inl (fun _ => 0)) := by rw [e83, va_up_ne _ _ (by omega)]; exact hc22
  have hc23 : cs83 292 = .inl (gY G 14, 40, .inl (fun _ => 0)) := by rw [e83, va_up_ne _ _ (by omega)]; exact hc23
  have hc24 : cs83 293 = .inl (gY G 14, 40, .inl (fun _ => 0)) := by rw [e83, va_up_ne _ _ (by omega)]; exact hc24
  have hc25 : cs83 294 = .inl (gY G 14, 40, .inl (fun _ => 0)) := by rw [e83, va_up_ne _ _ (by omega)]; exact hc25
  have hc26 : cs83 295 = .inl (gY G 14, 64, .inl (fun _ => 0)) := by rw [e83, va_up_ne _ _ (by omega)]; exact hc26
  have hc27 : cs83 296 = .inl (gY G 14, 64, .inl (fun _ => 0)) := by rw [e83, va_up_ne _ _ (by omega)]; exact hc27
  have hc28 : cs83 297 = .inl (gY G 14, 64, .inl (fun _ => 0)) := by rw [e83, va_up_ne _ _ (by omega)]; exact hc28
  have hc29 : cs83 298 = .inl (gY G 14, 64, .inl (fun _ => 0)) := by rw [e83, va_up_ne _ _ (by omega)]; exact hc29
  have hc30 : cs83 299 = .inl (gY G 14, 64, .inl (fun _ => 0)) := by rw [e83, va_up_ne _ _ (by omega)]; exact hc30
  have hc31 : cs83 300 = .inl (gY G 14, 64, .inl (fun _ => 0)) := by rw [e83, va_up_ne _ _ (by omega)]; exact hc31
  have hc32 : cs83 301 = .inl (gY G 14, 64, .inl (fun _ => 0)) := by rw [e83, va_up_ne _ _ (by omega)]; exact hc32
  have hc33 : cs83 302 = .inl (gY G 14, 64, .inl (fun _ => 0)) := by rw [e83, va_up_ne _ _ (by omega)]; exact hc33
  have hc34 : cs83 303 = .inl (gY G 14, 640, .inl (fun _ => 0)) := by rw [e83, va_up_ne _ _ (by omega)]; exact hc34
  have hc35 : cs83 304 = .inl (gY G 14, 7, .inl (fun _ => 0)) := by rw [e83, va_up_ne _ _ (by omega)]; exact hc35
  have hc36 : cs83 305 = .inl (gY G 14, 10, .inl (fun _ => 0)) := by rw [e83, va_up_ne _ _ (by omega)]; exact hc36
  have hc37 : cs83 306 = .inl (gY G 14, 10, .inl (fun _ => 0)) := by rw [e83, va_up_ne _ _ (by omega)]; exact hc37
  have hc38 : cs83 307 = .inl (gY G 14, 10, .inl (fun _ => 0)) := by rw [e83, va_up_ne _ _ (by omega)]; exact hc38
  have hc39 : cs83 308 = .inl (gY G 14, 64, .inl (fun _ => 0)) := by rw [e83, va_up_ne _ _ (by omega)]; exact hc39
  have hc40 : cs83 309 = .inl (gY G 14, 10, .inl (fun _ => 0)) := by rw [e83, va_up_ne _ _ (by omega)]; exact hc40
  have hc41 : cs83 310 = .inl (gY G 14, 6, .inl (fun _ => 0)) := by rw [e83, va_up_ne _ _ (by omega)]; exact hc41
  have hc42 : cs83 311 = .inl (gY G 14, 6, .inl (fun _ => 0)) := by rw [e83]; exact va_up_self _ _ _
  have hlo : ∀ n, n < 269 → cs83 n = cs n := fun n a => by rw [e83, va_up_ne _ _ (by omega)]; exact hlo n a
  clear e83
  refine ry_putF ff_X12_134 rfl (by omega) hc0 rfl rfl (by decide) dX12_init_333 ?_
  refine ry_cs (fun cs84 e84 => ?_)
  have hc1 : cs84 270 = .inl (gY G 13, 2400, .inl (fun _ => 0)) := by rw [e84, va_up_ne _ _ (by omega)]; exact hc1
  have hc2 : cs84 271 = .inl (gY G 14, 4, .inl (fun _ => 0)) := by rw [e84, va_up_ne _ _ (by omega)]; exact hc2
  have hc3 : cs84 272 = .inl (gY G 14, 4, .inl (fun _ => 0)) := by rw [e84, va_up_ne _ _ (by omega)]; exact hc3
  have hc4 : cs84 273 = .inl (gY G 14, 4, .inl (fun _ => 0)) := by rw [e84, va_up_ne _ _ (by omega)]; exact hc4
  have hc5 : cs84 274 = .inl (gY G 14, 16, .inl (fun _ => 0)) := by rw [e84, va_up_ne _ _ (by omega)]; exact hc5
  have hc6 : cs84 275 = .inl (gY G 14, 104, .inl (fun _ => 0)) := by rw [e84, va_up_ne _ _ (by omega)]; exact hc6
  have hc7 : cs84 276 = .inl (gY G 14, 1072, .inl (fun _ => 0)) := by rw [e84, va_up_ne _ _ (by omega)]; exact hc7
  have hc8 : cs84 277 = .inl (gY G 14, 968, .inl (fun _ => 0)) := by rw [e84, va_up_ne _ _ (by omega)]; exact hc8
  have hc9 : cs84 278 = .inl (gY G 14, 136, .inl (fun _ => 0)) := by rw [e84, va_up_ne _ _ (by omega)]; exact hc9
  have hc10 : cs84 279 = .inl (gY G 14, 134, .inl (fun _ => 0)) := by rw [e84, va_up_ne _ _ (by omega)]; exact hc10
  have hc11 : cs84 280 = .inl (gY G 14, 3, .inl (fun _ => 0)) := by rw [e84, va_up_ne _ _ (by omega)]; exact hc11
  have hc12 : cs84 281 = .inl (gY G 14, 10, .inl (fun _ => 0)) := by rw [e84, va_up_ne _ _ (by omega)]; exact hc12
  have hc13 : cs84 282 = .inl (gY G 14, 10, .inl (fun _ => 0)) := by rw [e84, va_up_ne _ _ (by omega)]; exact hc13
  have hc14 : cs84 283 = .inl (gY G 14, 10, .inl (fun _ => 0)) := by rw [e84, va_up_ne _ _ (by omega)]; exact hc14
  have hc15 : cs84 284 = .inl (gY G 14, 10, .inl (fun _ => 0)) := by rw [e84, va_up_ne _ _ (by omega)]; exact hc15
  have hc16 : cs84 285 = .inl (gY G 14, 10, .inl (fun _ => 0)) := by rw [e84, va_up_ne _ _ (by omega)]; exact hc16
  have hc17 : cs84 286 = .inl (gY G 14, 4, .inl (fun _ => 0)) := by rw [e84, va_up_ne _ _ (by omega)]; exact hc17
  have hc18 : cs84 287 = .inl (gY G 14, 4, .inl (fun _ => 0)) := by rw [e84, va_up_ne _ _ (by omega)]; exact hc18
  have hc19 : cs84 288 = .inl (gY G 14, 4, .inl (fun _ => 0)) := by rw [e84, va_up_ne _ _ (by omega)]; exact hc19
  have hc20 : cs84 289 = .inl (gY G 14, 4, .inl (fun _ => 0)) := by rw [e84, va_up_ne _ _ (by omega)]; exact hc20
  have hc21 : cs84 290 = .inl (gY G 14, 4, .inl (fun _ => 0)) := by rw [e84, va_up_ne _ _ (by omega)]; exact hc21
  have hc22 : cs84 291 = .inl (gY G 14, 4, .inl (fun _ => 0)) := by rw [e84, va_up_ne _ _ (by omega)]; exact hc22
  have hc23 : cs84 292 = .inl (gY G 14, 40, .inl (fun _ => 0)) := by rw [e84, va_up_ne _ _ (by omega)]; exact hc23
  have hc24 : cs84 293 = .inl (gY G 14, 40, .inl (fun _ => 0)) := by rw [e84, va_up_ne _ _ (by omega)]; exact hc24
  have hc25 : cs84 294 = .inl (gY G 14, 40, .inl (fun _ => 0)) := by rw [e84, va_up_ne _ _ (by omega)]; exact hc25
  have hc26 : cs84 295 = .inl (gY G 14, 64, .inl (fun _ => 0)) := by rw [e84, va_up_ne _ _ (by omega)]; exact hc26
  have hc27 : cs84 296 = .inl (gY G 14, 64, .inl (fun _ => 0)) := by rw [e84, va_up_ne _ _ (by omega)]; exact hc27
  have hc28 : cs84 297 = .inl (gY G 14, 64, .inl (fun _ => 0)) := by rw [e84, va_up_ne _ _ (by omega)]; exact hc28
  have hc29 : cs84 298 = .inl (gY G 14, 64, .inl (fun _ => 0)) := by rw [e84, va_up_ne _ _ (by omega)]; exact hc29
  have hc30 : cs84 299 = .inl (gY G 14, 64, .inl (fun _ => 0)) := by rw [e84, va_up_ne _ _ (by omega)]; exact hc30
  have hc31 : cs84 300 = .inl (gY G 14, 64, .inl (fun _ => 0)) := by rw [e84, va_up_ne _ _ (by omega)]; exact hc31
  have hc32 : cs84 301 = .inl (gY G 14, 64, .inl (fun _ => 0)) := by rw [e84, va_up_ne _ _ (by omega)]; exact hc32
  have hc33 : cs84 302 = .inl (gY G 14, 64, .inl (fun _ => 0)) := by rw [e84, va_up_ne _ _ (by omega)]; exact hc33
  have hc34 : cs84 303 = .inl (gY G 14, 640, .inl (fun _ => 0)) := by rw [e84, va_up_ne _ _ (by omega)]; exact hc34
  have hc35 : cs84 304 = .inl (gY G 14, 7, .inl (fun _ => 0)) := by rw [e84, va_up_ne _ _ (by omega)]; exact hc35
  have hc36 : cs84 305 = .inl (gY G 14, 10, .inl (fun _ => 0)) := by rw [e84, va_up_ne _ _ (by omega)]; exact hc36
  have hc37 : cs84 306 = .inl (gY G 14, 10, .inl (fun _ => 0)) := by rw [e84, va_up_ne _ _ (by omega)]; exact hc37
  have hc38 : cs84 307 = .inl (gY G 14, 10, .inl (fun _ => 0)) := by rw [e84, va_up_ne _ _ (by omega)]; exact hc38
  have hc39 : cs84 308 = .inl (gY G 14, 64, .inl (fun _ => 0)) := by rw [e84, va_up_ne _ _ (by omega)]; exact hc39
  have hc40 : cs84 309 = .inl (gY G 14, 10, .inl (fun _ => 0)) := by rw [e84, va_up_ne _ _ (by omega)]; exact hc40
  have hc41 : cs84 310 = .inl (gY G 14, 6, .inl (fun _ => 0)) := by rw [e84, va_up_ne _ _ (by omega)]; exact hc41
  have hc42 : cs84 311 = .inl (gY G 14, 6, .inl (fun _ => 0)) := by rw [e84, va_up_ne _ _ (by omega)]; exact hc42
  have hc0 : cs84 269 = .inr (12, [.int 0, .ref (gA G 270), .ref (gA G 271), .ref (gA G 272), .ref (gA G 273), .ref (gA G 274), .ref (gA G 275), .ref (gA G 276), .ref (gA G 277), .ref (gA G 278), .int 0, .int 0, .int 0, .int 0, .int 0, .long 0, .int 0, .int 0, .int 0, .ref (gA G 279), .ref (gA G 280), .int 0, .int 0, .int 0, .int 0, .int 0, .int 0, .int 0, .int 0, .int 0, .int 0, .ref (gA G 281), .ref (gA G 282), .ref (gA G 283), .ref (gA G 284), .ref (gA G 285), .ref (gA G 286), .ref (gA G 287), .ref (gA G 288), .ref (gA G 289), .ref (gA G 290), .ref (gA G 291), .ref (gA G 292), .ref (gA G 293), .ref (gA G 294), .ref (gA G 295), .ref (gA G 296), .ref (gA G 297), .ref (gA G 298), .ref (gA G 299), .ref (gA G 300), .ref (gA G 301), .ref (gA G 302), .ref (gA G 303), .int 0, .int 0, .int 0, .int 0, .int 0, .int 0, .ref (gA G 304), .ref (gA G 305), .int 0, .int 0, .int 0, .int 0, .int 0, .ref (gA G 306), .ref (gA G 307), .int 0, .ref (gA G 308), .int 0, .int 0, .ref (gA G 309), .ref (gA G 310), .ref (gA G 311), .int 0, .int 0, .int 0, .int 0, .int 0, .int 0, .null, .int 0, .int 0, .int 0, .int 0, .int 0, .int 0, .int 0, .int 0, .null]) := by rw [e84]; exact va_up_self _ _ _
  have hlo : ∀ n, n < 269 → cs84 n = cs n := fun n a => by rw [e84, va_up_ne _ _ (by omega)]; exact hlo n a
  clear e84
  refine ry_aload_n 0 dX12_init_336 rfl rfl ?_
  refine ry_sipush (v := 1010) dX12_init_337 rfl ?_
  refine ry_newa (κ := 14) (n := 1010) (atype := .int) (ty := .int) (t0 := 1) rfl wa_int rfl (fun _ _ => Iff.rfl) rfl (by decide) rfl (by decide) (by decide) (by decide) dX12_init_340 ?_
  refine ry_cs (fun cs85 e85 => ?_)
  have hc0 : cs85 269 = .inr (12, [.int 0, .ref (gA G 270), .ref (gA G 271), .ref (gA G 272), .ref (gA G 273), .ref (gA G 274), .ref (gA G 275), .ref (gA G 276), .ref (gA G 277), .ref (gA G 278), .int 0, .int 0, .int 0, .int 0, .int 0, .long 0, .int 0, .int 0, .int 0, .ref (gA G 279), .ref (gA G 280), .int 0, .int 0, .int 0, .int 0, .int 0, .int 0, .int 0, .int 0, .int 0, .int 0, .ref (gA G 281), .ref (gA G 282), .ref (gA G 283), .ref (gA G 284), .ref (gA G 285), .ref (gA G 286), .ref (gA G 287), .ref (gA G 288), .ref (gA G 289), .ref (gA G 290), .ref (gA G 291), .ref (gA G 292), .ref (gA G 293), .ref (gA G 294), .ref (gA G 295), .ref (gA G 296), .ref (gA G 297), .ref (gA G 298), .ref (gA G 299), .ref (gA G 300), .ref (gA G 301), .ref (gA G 302), .ref (gA G 303), .int 0, .int 0, .int 0, .int 0, .int 0, .int 0, .ref (gA G 304), .ref (gA G 305), .int 0, .int 0, .int 0, .int 0, .int 0, .ref (gA G 306), .ref (gA G 307), .int 0, .ref (gA G 308), .int 0, .int 0, .ref (gA G 309), .ref (gA G 310), .ref (gA G 311), .int 0, .int 0, .int 0, .int 0, .int 0, .int 0, .null, .int 0, .int 0, .int 0, .int 0, .int 0, .int 0, .int 0, .int 0, .null]) := by rw [e85, va_up_ne _ _ (by omega)]; exact hc0
  have hc1 : cs85 270 = .inl (gY G 13, 2400, .inl (fun _ => 0)) := by rw [e85, va_up_ne _ _ (by omega)]; exact hc1
  have hc2 : cs85 271 = .inl (gY G 14, 4, .inl (fun _ => 0)) := by rw [e85, va_up_ne _ _ (by omega)]; exact hc2
  have hc3 : cs85 272 = .inl (gY G 14, 4, .inl (fun _ => 0)) := by rw [e85, va_up_ne _ _ (by omega)]; exact hc3
  have hc4 : cs85 273 = .inl (gY G 14, 4, .inl (fun _ => 0)) := by rw [e85, va_up_ne _ _ (by omega)]; exact hc4
  have hc5 : cs85 274 = .inl (gY G 14, 16, .inl (fun _ => 0)) := by rw [e85, va_up_ne _ _ (by omega)]; exact hc5
  have hc6 : cs85 275 = .inl (gY G 14, 104, .inl (fun _ => 0)) := by rw [e85, va_up_ne _ _ (by omega)]; exact hc6
  have hc7 : cs85 276 = .inl (gY G 14, 1072, .inl (fun _ => 0)) := by rw [e85, va_up_ne _ _ (by omega)]; exact hc7
  have hc8 : cs85 277 = .inl (gY G 14, 968, .inl (fun _ => 0)) := by rw [e85, va_up_ne _ _ (by omega)]; exact hc8
  have hc9 : cs85 278 = .inl (gY G 14, 136, .inl (fun _ => 0)) := by rw [e85, va_up_ne _ _ (by omega)]; exact hc9
  have hc10 : cs85 279 = .inl (gY G 14, 134, .inl (fun _ => 0)) := by rw [e85, va_up_ne _ _ (by omega)]; exact hc10
  have hc11 : cs85 280 = .inl (gY G 14, 3, .inl (fun _ => 0)) := by rw [e85, va_up_ne _ _ (by omega)]; exact hc11
  have hc12 : cs85 281 = .inl (gY G 14, 10, .inl (fun _ => 0)) := by rw [e85, va_up_ne _ _ (by omega)]; exact hc12
  have hc13 : cs85 282 = .inl (gY G 14, 10, .inl (fun _ => 0)) := by rw [e85, va_up_ne _ _ (by omega)]; exact hc13
  have hc14 : cs85 283 = .inl (gY G 14, 10, .inl (fun _ => 0)) := by rw [e85, va_up_ne _ _ (by omega)]; exact hc14
  have hc15 : cs85 284 = .inl (gY G 14, 10, .inl (fun _ => 0)) := by rw [e85, va_up_ne _ _ (by omega)]; exact hc15
  have hc16 : cs85 285 = .inl (gY G 14, 10, .inl (fun _ => 0)) := by rw [e85, va_up_ne _ _ (by omega)]; exact hc16
  have hc17 : cs85 286 = .inl (gY G 14, 4, .inl (fun _ => 0)) := by rw [e85, va_up_ne _ _ (by omega)]; exact hc17
  have hc18 : cs85 287 = .inl (gY G 14, 4, .inl (fun _ => 0)) := by rw [e85, va_up_ne _ _ (by omega)]; exact hc18
  have hc19 : cs85 288 = .inl (gY G 14, 4, .inl (fun _ => 0)) := by rw [e85, va_up_ne _ _ (by omega)]; exact hc19
  have hc20 : cs85 289 = .inl (gY G 14, 4, .inl (fun _ => 0)) := by rw [e85, va_up_ne _ _ (by omega)]; exact hc20
  have hc21 : cs85 290 = .inl (gY G 14, 4, .inl (fun _ => 0)) := by rw [e85, va_up_ne _ _ (by omega)]; exact hc21
  have hc22 : cs85 291 = .inl (gY G 14, 4, .inl (fun _ => 0)) := by rw [e85, va_up_ne _ _ (by omega)]; exact hc22
  have hc23 : cs85 292 = .inl (gY G 14, 40, .inl (fun _ => 0)) := by rw [e85, va_up_ne _ _ (by omega)]; exact hc23
  have hc24 : cs85 293 = .inl (gY G 14, 40, .inl (fun _ => 0)) := by rw [e85, va_up_ne _ _ (by omega)]; exact hc24
  have hc25 : cs85 294 = .inl (gY G 14, 40, .inl (fun _ => 0)) := by rw [e85, va_up_ne _ _ (by omega)]; exact hc25
  have hc26 : cs85 295 = .inl (gY G 14, 64, .inl (fun _ => 0)) := by rw [e85, va_up_ne _ _ (by omega)]; exact hc26
  have hc27 : cs85 296 = .inl (gY G 14, 64, .inl (fun _ => 0)) := by rw [e85, va_up_ne _ _ (by omega)]; exact hc27
  have hc28 : cs85 297 = .inl (gY G 14, 64, .inl (fun _ => 0)) := by rw [e85, va_up_ne _ _ (by omega)]; exact hc28
  have hc29 : cs85 298 = .inl (gY G 14, 64, .inl (fun _ => 0)) := by rw [e85, va_up_ne _ _ (by omega)]; exact hc29
  have hc30 : cs85 299 = .inl (gY G 14, 64, .inl (fun _ => 0)) := by rw [e85, va_up_ne _ _ (by omega)]; exact hc30
  have hc31 : cs85 300 = .inl (gY G 14, 64, .inl (fun _ => 0)) := by rw [e85, va_up_ne _ _ (by omega)]; exact hc31
  have hc32 : cs85 301 = .inl (gY G 14, 64, .inl (fun _ => 0)) := by rw [e85, va_up_ne _ _ (by omega)]; exact hc32
  have hc33 : cs85 302 = .inl (gY G 14, 64, .inl (fun _ => 0)) := by rw [e85, va_up_ne _ _ (by omega)]; exact hc33
  have hc34 : cs85 303 = .inl (gY G 14, 640, .inl (fun _ => 0)) := by rw [e85, va_up_ne _ _ (by omega)]; exact hc34
  have hc35 : cs85 304 = .inl (gY G 14, 7, .inl (fun _ => 0)) := by rw [e85, va_up_ne _ _ (by omega)]; exact hc35
  have hc36 : cs85 305 = .inl (gY G 14, 10, .inl (fun _ => 0)) := by rw [e85, va_up_ne _ _ (by omega)]; exact hc36
  have hc37 : cs85 306 = .inl (gY G 14, 10, .inl (fun _ => 0)) := by rw [e85, va_up_ne _ _ (by omega)]; exact hc37
  have hc38 : cs85 307 = .inl (gY G 14, 10, .inl (fun _ => 0)) := by rw [e85, va_up_ne _ _ (by omega)]; exact hc38
  have hc39 : cs85 308 = .inl (gY G 14, 64, .inl (fun _ => 0)) := by rw [e85, va_up_ne _ _ (by omega)]; exact hc39
  have hc40 : cs85 309 = .inl (gY G 14, 10, .inl (fun _ => 0)) := by rw [e85, va_up_ne _ _ (by omega)]; exact hc40
  have hc41 : cs85 310 = .inl (gY G 14, 6, .inl (fun _ => 0)) := by rw [e85, va_up_ne _ _ (by omega)]; exact hc41
  have hc42 : cs85 311 = .inl (gY G 14, 6, .inl (fun _ => 0)) := by rw [e85, va_up_ne _ _ (by omega)]; exact hc42
  have hc43 : cs85 312 = .inl (gY G 14, 1010, .inl (fun _ => 0)) := by rw [e85]; exact va_up_self _ _ _
  have hlo : ∀ n, n < 269 → cs85 n = cs n := fun n a => by rw [e85, va_up_ne _ _ (by omega)]; exact hlo n a
  clear e85
  refine ry_putF ff_X12_137 rfl (by omega) hc0 rfl rfl (by decide) dX12_init_342 ?_
  refine ry_cs (fun cs86 e86 => ?_)
  have hc1 : cs86 270 = .inl (gY G 13, 2400, .inl (fun _ => 0)) := by rw [e86, va_up_ne _ _ (by omega)]; exact hc1
  have hc2 : cs86 271 = .inl (gY G 14, 4, .inl (fun _ => 0)) := by rw [e86, va_up_ne _ _ (by omega)]; exact hc2
  have hc3 : cs86 272 = .inl (gY G 14, 4, .inl (fun _ => 0)) := by rw [e86, va_up_ne _ _ (by omega)]; exact hc3
  have hc4 : cs86 273 = .inl (gY G 14, 4, .inl (fun _ => 0)) := by rw [e86, va_up_ne _ _ (by omega)]; exact hc4
  have hc5 : cs86 274 = .inl (gY G 14, 16, .inl (fun _ => 0)) := by rw [e86, va_up_ne _ _ (by omega)]; exact hc5
  have hc6 : cs86 275 = .inl (gY G 14, 104, .inl (fun _ => 0)) := by rw [e86, va_up_ne _ _ (by omega)]; exact hc6
  have hc7 : cs86 276 = .inl (gY G 14, 1072, .inl (fun _ => 0)) := by rw [e86, va_up_ne _ _ (by omega)]; exact hc7
  have hc8 : cs86 277 = .inl (gY G 14, 968, .inl (fun _ => 0)) := by rw [e86, va_up_ne _ _ (by omega)]; exact hc8
  have hc9 : cs86 278 = .inl (gY G 14, 136, .inl (fun _ => 0)) := by rw [e86, va_up_ne _ _ (by omega)]; exact hc9
  have hc10 : cs86 279 = .inl (gY G 14, 134, .inl (fun _ => 0)) := by rw [e86, va_up_ne _ _ (by omega)]; exact hc10
  have hc11 : cs86 280 = .inl (gY G 14, 3, .inl (fun _ => 0)) := by rw [e86, va_up_ne _ _ (by omega)]; exact hc11
  have hc12 : cs86 281 = .inl (gY G 14, 10, .inl (fun _ => 0)) := by rw [e86, va_up_ne _ _ (by omega)]; exact hc12
  have hc13 : cs86 282 = .inl (gY G 14, 10, .inl (fun _ => 0)) := by rw [e86, va_up_ne _ _ (by omega)]; exact hc13
  have hc14 : cs86 283 = .inl (gY G 14, 10, .inl (fun _ => 0)) := by rw [e86, va_up_ne _ _ (by omega)]; exact hc14
  have hc15 : cs86 284 = .inl (gY G 14, 10, .inl (fun _ => 0)) := by rw [e86, va_up_ne _ _ (by omega)]; exact hc15
  have hc16 : cs86 285 = .inl (gY G 14, 10, .inl (fun _ => 0)) := by rw [e86, va_up_ne _ _ (by omega)]; exact hc16
  have hc17 : cs86 286 = .inl (gY G 14, 4, .inl (fun _ => 0)) := by rw [e86, va_up_ne _ _ (by omega)]; exact hc17
  have hc18 : cs86 287 = .inl (gY G 14, 4, .inl (fun _ => 0)) := by rw [e86, va_up_ne _ _ (by omega)]; exact hc18
  have hc19 : cs86 288 = .inl (gY G 14, 4, .inl (fun _ => 0)) := by rw [e86, va_up_ne _ _ (by omega)]; exact hc19
  have hc20 : cs86 289 = .inl (gY G 14, 4, .inl (fun _ => 0)) := by rw [e86, va_up_ne _ _ (by omega)]; exact hc20
  have hc21 : cs86 290 = .inl (gY G 14, 4, .inl (fun _ => 0)) := by rw [e86, va_up_ne _ _ (by omega)]; exact hc21
  have hc22 : cs86 291 = .inl (gY G 14, 4, .inl (fun _ => 0)) := by rw [e86, va_up_ne _ _ (by omega)]; exact hc22
  have hc23 : cs86 292 = .inl (gY G 14, 40, .inl (fun _ => 0)) := by rw [e86, va_up_ne _ _ (by omega)]; exact hc23
  have hc24 : cs86 293 = .inl (gY G 14, 40, .inl (fun _ => 0)) := by rw [e86, va_up_ne _ _ (by omega)]; exact hc24
  have hc25 : cs86 294 = .inl (gY G 14, 40, .inl (fun _ => 0)) := by rw [e86, va_up_ne _ _ (by omega)]; exact hc25
  have hc26 : cs86 295 = .inl (gY G 14, 64, .inl (fun _ => 0)) := by rw [e86, va_up_ne _ _ (by omega)]; exact hc26
  have hc27 : cs86 296 = .inl (gY G 14, 64, .inl (fun _ => 0)) := by rw [e86, va_up_ne _ _ (by omega)]; exact hc27
  have hc28 : cs86 297 = .inl (gY G 14, 64, .inl (fun _ => 0)) := by rw [e86, va_up_ne _ _ (by omega)]; exact hc28
  have hc29 : cs86 298 = .inl (gY G 14, 64, .inl (fun _ => 0)) := by rw [e86, va_up_ne _ _ (by omega)]; exact hc29
  have hc30 : cs86 299 = .inl (gY G 14, 64, .inl (fun _ => 0)) := by rw [e86, va_up_ne _ _ (by omega)]; exact hc30
  have hc31 : cs86 300 = .inl (gY G 14, 64, .inl (fun _ => 0)) := by rw [e86, va_up_ne _ _ (by omega)]; exact hc31
  have hc32 : cs86 301 = .inl (gY G 14, 64, .inl (fun _ => 0)) := by rw [e86, va_up_ne _ _ (by omega)]; exact hc32
  have hc33 : cs86 302 = .inl (gY G 14, 64, .inl (fun _ => 0)) := by rw [e86, va_up_ne _ _ (by omega)]; exact hc33
  have hc34 : cs86 303 = .inl (gY G 14, 640, .inl (fun _ => 0)) := by rw [e86, va_up_ne _ _ (by omega)]; exact hc34
  have hc35 : cs86 304 = .inl (gY G 14, 7, .inl (fun _ => 0)) := by rw [e86, va_up_ne _ _ (by omega)]; exact hc35
  have hc36 : cs86 305 = .inl (gY G 14, 10, .inl (fun _ => 0)) := by rw [e86, va_up_ne _ _ (by omega)]; exact hc36
  have hc37 : cs86 306 = .inl (gY G 14, 10, .inl (fun _ => 0)) := by rw [e86, va_up_ne _ _ (by omega)]; exact hc37
  have hc38 : cs86 307 = .inl (gY G 14, 10, .inl (fun _ => 0)) := by rw [e86, va_up_ne _ _ (by omega)]; exact hc38
  have hc39 : cs86 308 = .inl (gY G 14, 64, .inl (fun _ => 0)) := by rw [e86, va_up_ne _ _ (by omega)]; exact hc39
  have hc40 : cs86 309 = .inl (gY G 14, 10, .inl (fun _ => 0)) := by rw [e86, va_up_ne _ _ (by omega)]; exact hc40
  have hc41 : cs86 310 = .inl (gY G 14, 6, .inl (fun _ => 0)) := by rw [e86, va_up_ne _ _ (by omega)]; exact hc41
  have hc42 : cs86 311 = .inl (gY G 14, 6, .inl (fun _ => 0)) := by rw [e86, va_up_ne _ _ (by omega)]; exact hc42
  have hc43 : cs86 312 = .inl (gY G 14, 1010, .inl (fun _ => 0)) := by rw [e86, va_up_ne _ _ (by omega)]; exact hc43
  have hc0 : cs86 269 = .inr (12, [.int 0, .ref (gA G 270), .ref (gA G 271), .ref (gA G 272), .ref (gA G 273), .ref (gA G 274), .ref (gA G 275), .ref (gA G 276), .ref (gA G 277), .ref (gA G 278), .int 0, .int 0, .int 0, .int 0, .int 0, .long 0, .int 0, .int 0, .int 0, .ref (gA G 279), .ref (gA G 280), .int 0, .int 0, .int 0, .int 0, .int 0, .int 0, .int 0, .int 0, .int 0, .int 0, .ref (gA G 281), .ref (gA G 282), .ref (gA G 283), .ref (gA G 284), .ref (gA G 285), .ref (gA G 286), .ref (gA G 287), .ref (gA G 288), .ref (gA G 289), .ref (gA G 290), .ref (gA G 291), .ref (gA G 292), .ref (gA G 293), .ref (gA G 294), .ref (gA G 295), .ref (gA G 296), .ref (gA G 297), .ref (gA G 298), .ref (gA G 299), .ref (gA G 300), .ref (gA G 301), .ref (gA G 302), .ref (gA G 303), .int 0, .int 0, .int 0, .int 0, .int 0, .int 0, .ref (gA G 304), .ref (gA G 305), .int 0, .int 0, .int 0, .int 0, .int 0, .ref (gA G 306), .ref (gA G 307), .int 0, .ref (gA G 308), .int 0, .int 0, .ref (gA G 309), .ref (gA G 310), .ref (gA G 311), .int 0, .int 0, .int 0, .int 0, .int 0, .int 0, .ref (gA G 312), .int 0, .int 0, .int 0, .int 0, .int 0, .int 0, .int 0, .int 0, .null]) := by rw [e86]; exact va_up_self _ _ _
  have hlo : ∀ n, n < 269 → cs86 n = cs n := fun n a => by rw [e86, va_up_ne _ _ (by omega)]; exact hlo n a
  clear e86
  refine ry_aload_n 0 dX12_init_345 rfl rfl ?_
  refine ry_iconst (v := 3) dX12_init_346 rfl ?_
  refine ry_newa (κ := 15) (n := 3) (atype := .boolean) (ty := .boolean) (t0 := 2) rfl wa_boolean rfl (fun _ _ => Iff.rfl) rfl (by decide) rfl (by decide) (by decide) (by decide) dX12_init_347 ?_
  refine ry_cs (fun cs87 e87 => ?_)
  have hc0 : cs87 269 = .inr (12, [.int 0, .ref (gA G 270), .ref (gA G 271), .ref (gA G 272), .ref (gA G 273), .ref (gA G 274), .ref (gA G 275), .ref (gA G 276), .ref (gA G 277), .ref (gA G 278), .int 0, .int 0, .int 0, .int 0, .int 0, .long 0, .int 0, .int 0, .int 0, .ref (gA G 279), .ref (gA G 280), .int 0, .int 0, .int 0, .int 0, .int 0, .int 0, .int 0, .int 0, .int 0, .int 0, .ref (gA G 281), .ref (gA G 282), .ref (gA G 283), .ref (gA G 284), .ref (gA G 285), .ref (gA G 286), .ref (gA G 287), .ref (gA G 288), .ref (gA G 289), .ref (gA G 290), .ref (gA G 291), .ref (gA G 292), .ref (gA G 293), .ref (gA G 294), .ref (gA G 295), .ref (gA G 296), .ref (gA G 297), .ref (gA G 298), .ref (gA G 299), .ref (gA G 300), .ref (gA G 301), .ref (gA G 302), .ref (gA G 303), .int 0, .int 0, .int 0, .int 0, .int 0, .int 0, .ref (gA G 304), .ref (gA G 305), .int 0, .int 0, .int 0, .int 0, .int 0, .ref (gA G 306), .ref (gA G 307), .int 0, .ref (gA G 308), .int 0, .int 0, .ref (gA G 309), .ref (gA G 310), .ref (gA G 311), .int 0, .int 0, .int 0, .int 0, .int 0, .int 0, .ref (gA G 312), .int 0, .int 0, .int 0, .int 0, .int 0, .int 0, .int 0, .int 0, .null]) := by rw [e87, va_up_ne _ _ (by omega)]; exact hc0
  have hc1 : cs87 270 = .inl (gY G 13, 2400, .inl (fun _ => 0)) := by rw [e87, va_up_ne _ _ (by omega)]; exact hc1
  have hc2 : cs87 271 = .inl (gY G 14, 4, .inl (fun _ => 0)) := by rw [e87, va_up_ne _ _ (by omega)]; exact hc2
  have hc3 : cs87 272 = .inl (gY G 14, 4, .inl (fun _ => 0)) := by rw [e87, va_up_ne _ _ (by omega)]; exact hc3
  have hc4 : cs87 273 = .inl (gY G 14, 4, .inl (fun _ => 0)) := by rw [e87, va_up_ne _ _ (by omega)]; exact hc4
  have hc5 : cs87 274 = .inl (gY G 14, 16, .inl (fun _ => 0)) := by rw [e87, va_up_ne _ _ (by omega)]; exact hc5
  have hc6 : cs87 275 = .inl (gY G 14, 104, .inl (fun _ => 0)) := by rw [e87, va_up_ne _ _ (by omega)]; exact hc6
  have hc7 : cs87 276 = .inl (gY G 14, 1072, .inl (fun _ => 0)) := by rw [e87, va_up_ne _ _ (by omega)]; exact hc7
  have hc8 : cs87 277 = .inl (gY G 14, 968, .inl (fun _ => 0)) := by rw [e87, va_up_ne _ _ (by omega)]; exact hc8
  have hc9 : cs87 278 = .inl (gY G 14, 136, .inl (fun _ => 0)) := by rw [e87, va_up_ne _ _ (by omega)]; exact hc9
  have hc10 : cs87 279 = .inl (gY G 14, 134, .inl (fun _ => 0)) := by rw [e87, va_up_ne _ _ (by omega)]; exact hc10
  have hc11 : cs87 280 = .inl (gY G 14, 3, .inl (fun _ => 0)) := by rw [e87, va_up_ne _ _ (by omega)]; exact hc11
  have hc12 : cs87 281 = .inl (gY G 14, 10, .inl (fun _ => 0)) := by rw [e87, va_up_ne _ _ (by omega)]; exact hc12
  have hc13 : cs87 282 = .inl (gY G 14, 10, .inl (fun _ => 0)) := by rw [e87, va_up_ne _ _ (by omega)]; exact hc13
  have hc14 : cs87 283 = .inl (gY G 14, 10, .inl (fun _ => 0)) := by rw [e87, va_up_ne _ _ (by omega)]; exact hc14
  have hc15 : cs87 284 = .inl (gY G 14, 10, .inl (fun _ => 0)) := by rw [e87, va_up_ne _ _ (by omega)]; exact hc15
  have hc16 : cs87 285 = .inl (gY G 14, 10, .inl (fun _ => 0)) := by rw [e87, va_up_ne _ _ (by omega)]; exact hc16
  have hc17 : cs87 286 = .inl (gY G 14, 4, .inl (fun _ => 0)) := by rw [e87, va_up_ne _ _ (by omega)]; exact hc17
  have hc18 : cs87 287 = .inl (gY G 14, 4, .inl (fun _ => 0)) := by rw [e87, va_up_ne _ _ (by omega)]; exact hc18
  have hc19 : cs87 288 = .inl (gY G 14, 4, .inl (fun _ => 0)) := by rw [e87, va_up_ne _ _ (by omega)]; exact hc19
  have hc20 : cs87 289 = .inl (gY G 14, 4, .inl (fun _ => 0)) := by rw [e87, va_up_ne _ _ (by omega)]; exact hc20
  have hc21 : cs87 290 = .inl (gY G 14, 4, .inl (fun _ => 0)) := by rw [e87, va_up_ne _ _ (by omega)]; exact hc21
  have hc22 : cs87 291 = .inl (gY G 14, 4, .inl (fun _ => 0)) := by rw [e87, va_up_ne _ _ (by omega)]; exact hc22
  have hc23 : cs87 292 = .inl (gY G 14, 40, .inl (fun _ => 0)) := by rw [e87, va_up_ne _ _ (by omega)]; exact hc23
  have hc24 : cs87 293 = .inl (gY G 14, 40, .inl (fun _ => 0)) := by rw [e87, va_up_ne _ _ (by omega)]; exact hc24
  have hc25 : cs87 294 = .inl (gY G 14, 40, .inl (fun _ => 0)) := by rw [e87, va_up_ne _ _ (by omega)]; exact hc25
  have hc26 : cs87 295 = .inl (gY G 14, 64, .inl (fun _ => 0)) := by rw [e87, va_up_ne _ _ (by omega)]; exact hc26
  have hc27 : cs87 296 = .inl (gY G 14, 64, .inl (fun _ => 0)) := by rw [e87, va_up_ne _ _ (by omega)]; exact hc27
  have hc28 : cs87 297 = .inl (gY G 14, 64, .inl (fun _ => 0)) := by rw [e87, va_up_ne _ _ (by omega)]; exact hc28
  have hc29 : cs87 298 = .inl (gY G 14, 64, .inl (fun _ => 0)) := by rw [e87, va_up_ne _ _ (by omega)]; exact hc29
  have hc30 : cs87 299 = .inl (gY G 14, 64, .inl (fun _ => 0)) := by rw [e87, va_up_ne _ _ (by omega)]; exact hc30
  have hc31 : cs87 300 = .inl (gY G 14, 64, .inl (fun _ => 0)) := by rw [e87, va_up_ne _ _ (by omega)]; exact hc31
  have hc32 : cs87 301 = .inl (gY G 14, 64, .inl (fun _ => 0)) := by rw [e87, va_up_ne _ _ (by omega)]; exact hc32
  have hc33 : cs87 302 = .inl (gY G 14, 64, .inl (fun _ => 0)) := by rw [e87, va_up_ne _ _ (by omega)]; exact hc33
  have hc34 : cs87 303 = .inl (gY G 14, 640, .inl (fun _ => 0)) := by rw [e87, va_up_ne _ _ (by omega)]; exact hc34
  have hc35 : cs87 304 = .inl (gY G 14, 7, .inl (fun _ => 0)) := by rw [e87, va_up_ne _ _ (by omega)]; exact hc35
  have hc36 : cs87 305 = .inl (gY G 14, 10, .inl (fun _ => 0)) := by rw [e87, va_up_ne _ _ (by omega)]; exact hc36
  have hc37 : cs87 306 = .inl (gY G 14, 10, .inl (fun _ => 0)) := by rw [e87, va_up_ne _ _ (by omega)]; exact hc37
  have hc38 : cs87 307 = .inl (gY G 14, 10, .inl (fun _ => 0)) := by rw [e87, va_up_ne _ _ (by omega)]; exact hc38
  have hc39 : cs87 308 = .inl (gY G 14, 64, .inl (fun _ => 0)) := by rw [e87, va_up_ne _ _ (by omega)]; exact hc39
  have hc40 : cs87 309 = .inl (gY G 14, 10, .inl (fun _ => 0)) := by rw [e87, va_up_ne _ _ (by omega)]; exact hc40
  have hc41 : cs87 310 = .inl (gY G 14, 6, .inl (fun _ => 0)) := by rw [e87, va_up_ne _ _ (by omega)]; exact hc41
  have hc42 : cs87 311 = .inl (gY G 14, 6, .inl (fun _ => 0)) := by rw [e87, va_up_ne _ _ (by omega)]; exact hc42
  have hc43 : cs87 312 = .inl (gY G 14, 1010, .inl (fun _ => 0)) := by rw [e87, va_up_ne _ _ (by omega)]; exact hc43
  have hc44 : cs87 313 = .inl (gY G 15, 3, .inl (fun _ => 0)) := by rw [e87]; exact va_up_self _ _ _
  have hlo : ∀ n, n < 269 → cs87 n = cs n := fun n a => by rw [e87, va_up_ne _ _ (by omega)]; exact hlo n a
  clear e87
  refine ry_putF ff_X12_140 rfl (by omega) hc0 rfl rfl (by decide) dX12_init_349 ?_
  refine ry_cs (fun cs88 e88 => ?_)
  have hc1 : cs88 270 = .inl (gY G 13, 2400, .inl (fun _ => 0)) := by rw [e88, va_up_ne _ _ (by omega)]; exact hc1
  have hc2 : cs88 271 = .inl (gY G 14, 4, .inl (fun _ => 0)) := by rw [e88, va_up_ne _ _ (by omega)]; exact hc2
  have hc3 : cs88 272 = .inl (gY G 14, 4, .inl (fun _ => 0)) := by rw [e88, va_up_ne _ _ (by omega)]; exact hc3
  have hc4 : cs88 273 = .inl (gY G 14, 4, .inl (fun _ => 0)) := by rw [e88, va_up_ne _ _ (by omega)]; exact hc4
  have hc5 : cs88 274 = .inl (gY G 14, 16, .inl (fun _ => 0)) := by rw [e88, va_up_ne _ _ (by omega)]; exact hc5
  have hc6 : cs88 275 = .inl (gY G 14, 104, .inl (fun _ => 0)) := by rw [e88, va_up_ne _ _ (by omega)]; exact hc6
  have hc7 : cs88 276 = .inl (gY G 14, 1072, .inl (fun _ => 0)) := by rw [e88, va_up_ne _ _ (by omega)]; exact hc7
  have hc8 : cs88 277 = .inl (gY G 14, 968, .inl (fun _ => 0)) := by rw [e88, va_up_ne _ _ (by omega)]; exact hc8
  have hc9 : cs88 278 = .inl (gY G 14, 136, .inl (fun _ => 0)) := by rw [e88, va_up_ne _ _ (by omega)]; exact hc9
  have hc10 : cs88 279 = .inl (gY G 14, 134, .inl (fun _ => 0)) := by rw [e88, va_up_ne _ _ (by omega)]; exact hc10
  have hc11 : cs88 280 = .inl (gY G 14, 3, .inl (fun _ => 0)) := by rw [e88, va_up_ne _ _ (by omega)]; exact hc11
  have hc12 : cs88 281 = .inl (gY G 14, 10, .inl (fun _ => 0)) := by rw [e88, va_up_ne _ _ (by omega)]; exact hc12
  have hc13 : cs88 282 = .inl (gY G 14, 10, .inl (fun _ => 0)) := by rw [e88, va_up_ne _ _ (by omega)]; exact hc13
  have hc14 : cs88 283 = .inl (gY G 14, 10, .inl (fun _ => 0)) := by rw [e88, va_up_ne _ _ (by omega)]; exact hc14
  have hc15 : cs88 284 = .inl (gY G 14, 10, .inl (fun _ => 0)) := by rw [e88, va_up_ne _ _ (by omega)]; exact hc15
  have hc16 : cs88 285 = .inl (gY G 14, 10, .inl (fun _ => 0)) := by rw [e88, va_up_ne _ _ (by omega)]; exact hc16
  have hc17 : cs88 286 = .inl (gY G 14, 4, .inl (fun _ => 0)) := by rw [e88, va_up_ne _ _ (by omega)]; exact hc17
  have hc18 : cs88 287 = .inl (gY G 14, 4, .inl (fun _ => 0)) := by rw [e88, va_up_ne _ _ (by omega)]; exact hc18
  have hc19 : cs88 288 = .inl (gY G 14, 4, .inl (fun _ => 0)) := by rw [e88, va_up_ne _ _ (by omega)]; exact hc19
  have hc20 : cs88 289 = .inl (gY G 14, 4, .inl (fun _ => 0)) := by rw [e88, va_up_ne _ _ (by omega)]; exact hc20
  have hc21 : cs88 290 = .inl (gY G 14, 4, .inl (fun _ => 0)) := by rw [e88, va_up_ne _ _ (by omega)]; exact hc21
  have hc22 : cs88 291 = .inl (gY G 14, 4, .inl (fun _ => 0)) := by rw [e88, va_up_ne _ _ (by omega)]; exact hc22
  have hc23 : cs88 292 = .inl (gY G 14, 40, .inl (fun _ => 0)) := by rw [e88, va_up_ne _ _ (by omega)]; exact hc23
  have hc24 : cs88 293 = .inl (gY G 14, 40, .inl (fun _ => 0)) := by rw [e88, va_up_ne _ _ (by omega)]; exact hc24
  have hc25 : cs88 294 = .inl (gY G 14, 40, .inl (fun _ => 0)) := by rw [e88, va_up_ne _ _ (by omega)]; exact hc25
  have hc26 : cs88 295 = .inl (gY G 14, 64, .inl (fun _ => 0)) := by rw [e88, va_up_ne _ _ (by omega)]; exact hc26
  have hc27 : cs88 296 = .inl (gY G 14, 64, .inl (fun _ => 0)) := by rw [e88, va_up_ne _ _ (by omega)]; exact hc27
  have hc28 : cs88 297 = .inl (gY G 14, 64, .inl (fun _ => 0)) := by rw [e88, va_up_ne _ _ (by omega)]; exact hc28
  have hc29 : cs88 298 = .inl (gY G 14, 64, .inl (fun _ => 0)) := by rw [e88, va_up_ne _ _ (by omega)]; exact hc29
  have hc30 : cs88 299 = .inl (gY G 14, 64, .inl (fun _ => 0)) := by rw [e88, va_up_ne _ _ (by omega)]; exact hc30
  have hc31 : cs88 300 = .inl (gY G 14, 64, .inl (fun _ => 0)) := by rw [e88, va_up_ne _ _ (by omega)]; exact hc31
  have hc32 : cs88 301 = .inl (gY G 14, 64, .inl (fun _ => 0)) := by rw [e88, va_up_ne _ _ (by omega)]; exact hc32
  have hc33 : cs88 302 = .inl (gY G 14, 64, .inl (fun _ => 0)) := by rw [e88, va_up_ne _ _ (by omega)]; exact hc33
  have hc34 : cs88 303 = .inl (gY G 14, 640, .inl (fun _ => 0)) := by rw [e88, va_up_ne _ _ (by omega)]; exact hc34
  have hc35 : cs88 304 = .inl (gY G 14, 7, .inl (fun _ => 0)) := by rw [e88, va_up_ne _ _ (by omega)]; exact hc35
  have hc36 : cs88 305 = .inl (gY G 14, 10, .inl (fun _ => 0)) := by rw [e88, va_up_ne _ _ (by omega)]; exact hc36
  have hc37 : cs88 306 = .inl (gY G 14, 10, .inl (fun _ => 0)) := by rw [e88, va_up_ne _ _ (by omega)]; exact hc37
  have hc38 : cs88 307 = .inl (gY G 14, 10, .inl (fun _ => 0)) := by rw [e88, va_up_ne _ _ (by omega)]; exact hc38
  have hc39 : cs88 308 = .inl (gY G 14, 64, .inl (fun _ => 0)) := by rw [e88, va_up_ne _ _ (by omega)]; exact hc39
  have hc40 : cs88 309 = .inl (gY G 14, 10, .inl (fun _ => 0)) := by rw [e88, va_up_ne _ _ (by omega)]; exact hc40
  have hc41 : cs88 310 = .inl (gY G 14, 6, .inl (fun _ => 0)) := by rw [e88, va_up_ne _ _ (by omega)]; exact hc41
  have hc42 : cs88 311 = .inl (gY G 14, 6, .inl (fun _ => 0)) := by rw [e88, va_up_ne _ _ (by omega)]; exact hc42
  have hc43 : cs88 312 = .inl (gY G 14, 1010, .inl (fun _ => 0)) := by rw [e88, va_up_ne _ _ (by omega)]; exact hc43
  have hc44 : cs88 313 = .inl (gY G 15, 3, .inl (fun _ => 0)) := by rw [e88, va_up_ne _ _ (by omega)]; exact hc44
  have hc0 : cs88 269 = .inr (12, [.int 0, .ref (gA G 270), .ref (gA G 271), .ref (gA G 272), .ref (gA G 273), .ref (gA G 274), .ref (gA G 275), .ref (gA G 276), .ref (gA G 277), .ref (gA G 278), .int 0, .int 0, .int 0, .int 0, .int 0, .long 0, .int 0, .int 0, .int 0, .ref (gA G 279), .ref (gA G 280), .int 0, .int 0, .int 0, .int 0, .int 0, .int 0, .int 0, .int 0, .int 0, .int 0, .ref (gA G 281), .ref (gA G 282), .ref (gA G 283), .ref (gA G 284), .ref (gA G 285), .ref (gA G 286), .ref (gA G 287), .ref (gA G 288), .ref (gA G 289), .ref (gA G 290), .ref (gA G 291), .ref (gA G 292), .ref (gA G 293), .ref (gA G 294), .ref (gA G 295), .ref (gA G 296), .ref (gA G 297), .ref (gA G 298), .ref (gA G 299), .ref (gA G 300), .ref (gA G 301), .ref (gA G 302), .ref (gA G 303), .int 0, .int 0, .int 0, .int 0, .int 0, .int 0, .ref (gA G 304), .ref (gA G 305), .int 0, .int 0, .int 0, .int 0, .int 0, .ref (gA G 306), .ref (gA G 307), .int 0, .ref (gA G 308), .int 0, .int 0, .ref (gA G 309), .ref (gA G 310), .ref (gA G 311), .int 0, .int 0, .int 0, .int 0, .int 0, .int 0, .ref (gA G 312), .int 0, .int 0, .int 0, .int 0, .int 0, .int 0, .int 0, .int 0, .ref (gA G 313)]) := by rw [e88]; exact va_up_self _ _ _
  have hlo : ∀ n, n < 269 → cs88 n = cs n := fun n a => by rw [e88, va_up_ne _ _ (by omega)]; exact hlo n a
  clear e88
  refine ry_aload_n 0 dX12_init_352 rfl rfl ?_
  refine ry_get fl_X12_20 (by omega) hc0 rfl dX12_init_353 ?_
  refine ry_iconst (v := 0) dX12_init_356 rfl ?_
  refine ry_iconst (v := -1) dX12_init_357 rfl ?_
  refine ry_iast (j := 0) (by omega) hc4 (by decide) rfl dX12_init_358 ?_
  refine ry_cs (fun cs89 e89 => ?_)
  have hc0 : cs89 269 = .inr (12, [.int 0, .ref (gA G 270), .ref (gA G 271), .ref (gA G 272), .ref (gA G 273), .ref (gA G 274), .ref (gA G 275), .ref (gA G 276), .ref (gA G 277), .ref (gA G 278), .int 0, .int 0, .int 0, .int 0, .int 0, .long 0, .int 0, .int 0, .int 0, .ref (gA G 279), .ref (gA G 280), .int 0, .int 0, .int 0, .int 0, .int 0, .int 0, .int 0, .int 0, .int 0, .int 0, .ref (gA G 281), .ref (gA G 282), .ref (gA G 283), .ref (gA G 284), .ref (gA G 285), .ref (gA G 286), .ref (gA G 287), .ref (gA G 288), .ref (gA G 289), .ref (gA G 290), .ref (gA G 291), .ref (gA G 292), .ref (gA G 293), .ref (gA G 294), .ref (gA G 295), .ref (gA G 296), .ref (gA G 297), .ref (gA G 298), .ref (gA G 299), .ref (gA G 300), .ref (gA G 301), .ref (gA G 302), .ref (gA G 303), .int 0, .int 0, .int 0, .int 0, .int 0, .int 0, .ref (gA G 304), .ref (gA G 305), .int 0, .int 0, .int 0, .int 0, .int 0, .ref (gA G 306), .ref (gA G 307), .int 0, .ref (gA G 308), .int 0, .int 0, .ref (gA G 309), .ref (gA G 310), .ref (gA G 311), .int 0, .int 0, .int 0, .int 0, .int 0, .int 0, .ref (gA G 312), .int 0, .int 0, .int 0, .int 0, .int 0, .int 0, .int 0, .int 0, .ref (gA G 313)]) := by rw [e89, va_up_ne _ _ (by omega)]; exact hc0
  have hc1 : cs89 270 = .inl (gY G 13, 2400, .inl (fun _ => 0)) := by rw [e89, va_up_ne _ _ (by omega)]; exact hc1
  have hc2 : cs89 271 = .inl (gY G 14, 4, .inl (fun _ => 0)) := by rw [e89, va_up_ne _ _ (by omega)]; exact hc2
  have hc3 : cs89 272 = .inl (gY G 14, 4, .inl (fun _ => 0)) := by rw [e89, va_up_ne _ _ (by omega)]; exact hc3
  have hc5 : cs89 274 = .inl (gY G 14, 16, .inl (fun _ => 0)) := by rw [e89, va_up_ne _ _ (by omega)]; exact hc5
  have hc6 : cs89 275 = .inl (gY G 14, 104, .inl (fun _ => 0)) := by rw [e89, va_up_ne _ _ (by omega)]; exact hc6
  have hc7 : cs89 276 = .inl (gY G 14, 1072, .inl (fun _ => 0)) := by rw [e89, va_up_ne _ _ (by omega)]; exact hc7
  have hc8 : cs89 277 = .inl (gY G 14, 968, .inl (fun _ => 0)) := by rw [e89, va_up_ne _ _ (by omega)]; exact hc8
  have hc9 : cs89 278 = .inl (gY G 14, 136, .inl (fun _ => 0)) := by rw [e89, va_up_ne _ _ (by omega)]; exact hc9
  have hc10 : cs89 279 = .inl (gY G 14, 134, .inl (fun _ => 0)) := by rw [e89, va_up_ne _ _ (by omega)]; exact hc10
  have hc11 : cs89 280 = .inl (gY G 14, 3, .inl (fun _ => 0)) := by rw [e89, va_up_ne _ _ (by omega)]; exact hc11
  have hc12 : cs89 281 = .inl (gY G 14, 10, .inl (fun _ => 0)) := by rw [e89, va_up_ne _ _ (by omega)]; exact hc12
  have hc13 : cs89 282 = .inl (gY G 14, 10, .inl (fun _ => 0)) := by rw [e89, va_up_ne _ _ (by omega)]; exact hc13
  have hc14 : cs89 283 = .inl (gY G 14, 10, .inl (fun _ => 0)) := by rw [e89, va_up_ne _ _ (by omega)]; exact hc14
  have hc15 : cs89 284 = .inl (gY G 14, 10, .inl (fun _ => 0)) := by rw [e89, va_up_ne _ _ (by omega)]; exact hc15
  have hc16 : cs89 285 = .inl (gY G 14, 10, .inl (fun _ => 0)) := by rw [e89, va_up_ne _ _ (by omega)]; exact hc16
  have hc17 : cs89 286 = .inl (gY G 14, 4, .inl (fun _ => 0)) := by rw [e89, va_up_ne _ _ (by omega)]; exact hc17
  have hc18 : cs89 287 = .inl (gY G 14, 4, .inl (fun _ => 0)) := by rw [e89, va_up_ne _ _ (by omega)]; exact hc18
  have hc19 : cs89 288 = .inl (gY G 14, 4, .inl (fun _ => 0)) := by rw [e89, va_up_ne _ _ (by omega)]; exact hc19
  have hc20 : cs89 289 = .inl (gY G 14, 4, .inl (fun _ => 0)) := by rw [e89, va_up_ne _ _ (by omega)]; exact hc20
  have hc21 : cs89 290 = .inl (gY G 14, 4, .inl (fun _ => 0)) := by rw [e89, va_up_ne _ _ (by omega)]; exact hc21
  have hc22 : cs89 291 = .inl (gY G 14, 4, .inl (fun _ => 0)) := by rw [e89, va_up_ne _ _ (by omega)]; exact hc22
  have hc23 : cs89 292 = .inl (gY G 14, 40, .inl (fun _ => 0)) := by rw [e89, va_up_ne _ _ (by omega)]; exact hc23
  have hc24 : cs89 293 = .inl (gY G 14, 40, .inl (fun _ => 0)) := by rw [e89, va_up_ne _ _ (by omega)]; exact hc24
  have hc25 : cs89 294 = .inl (gY G 14, 40, .inl (fun _ => 0)) := by rw [e89, va_up_ne _ _ (by omega)]; exact hc25
  have hc26 : cs89 295 = .inl (gY G 14, 64, .inl (fun _ => 0)) := by rw [e89, va_up_ne _ _ (by omega)]; exact hc26
  have hc27 : cs89 296 = .inl (gY G 14, 64, .inl (fun _ => 0)) := by rw [e89, va_up_ne _ _ (by omega)]; exact hc27
  have hc28 : cs89 297 = .inl (gY G 14, 64, .inl (fun _ => 0)) := by rw [e89, va_up_ne _ _ (by omega)]; exact hc28
  have hc29 : cs89 298 = .inl (gY G 14, 64, .inl (fun _ => 0)) := by rw [e89, va_up_ne _ _ (by omega)]; exact hc29
  have hc30 : cs89 299 = .inl (gY G 14, 64, .inl (fun _ => 0)) := by rw [e89, va_up_ne _ _ (by omega)]; exact hc30
  have hc31 : cs89 300 = .inl (gY G 14, 64, .inl (fun _ => 0)) := by rw [e89, va_up_ne _ _ (by omega)]; exact hc31
  have hc32 : cs89 301 = .inl (gY G 14, 64, .inl (fun _ => 0)) := by rw [e89, va_up_ne _ _ (by omega)]; exact hc32
  have hc33 : cs89 302 = .inl (gY G 14, 64, .inl (fun _ => 0)) := by rw [e89, va_up_ne _ _ (by omega)]; exact hc33
  have hc34 : cs89 303 = .inl (gY G 14, 640, .inl (fun _ => 0)) := by rw [e89, va_up_ne _ _ (by omega)]; exact hc34
  have hc35 : cs89 304 = .inl (gY G 14, 7, .inl (fun _ => 0)) := by rw [e89, va_up_ne _ _ (by omega)]; exact hc35
  have hc36 : cs89 305 = .inl (gY G 14, 10, .inl (fun _ => 0)) := by rw [e89, va_up_ne _ _ (by omega)]; exact hc36
  have hc37 : cs89 306 = .inl (gY G 14, 10, .inl (fun _ => 0)) := by rw [e89, va_up_ne _ _ (by omega)]; exact hc37
  have hc38 : cs89 307 = .inl (gY G 14, 10, .inl (fun _ => 0)) := by rw [e89, va_up_ne _ _ (by omega)]; exact hc38
  have hc39 : cs89 308 = .inl (gY G 14, 64, .inl (fun _ => 0)) := by rw [e89, va_up_ne _ _ (by omega)]; exact hc39
  have hc40 : cs89 309 = .inl (gY G 14, 10, .inl (fun _ => 0)) := by rw [e89, va_up_ne _ _ (by omega)]; exact hc40
  have hc41 : cs89 310 = .inl (gY G 14, 6, .inl (fun _ => 0)) := by rw [e89, va_up_ne _ _ (by omega)]; exact hc41
  have hc42 : cs89 311 = .inl (gY G 14, 6, .inl (fun _ => 0)) := by rw [e89, va_up_ne _ _ (by omega)]; exact hc42
  have hc43 : cs89 312 = .inl (gY G 14, 1010, .inl (fun _ => 0)) := by rw [e89, va_up_ne _ _ (by omega)]; exact hc43
  have hc44 : cs89 313 = .inl (gY G 15, 3, .inl (fun _ => 0)) := by rw [e89, va_up_ne _ _ (by omega)]; exact hc44
  have hc4 : cs89 273 = .inl (gY G 14, 4, .inl (upd (fun _ => 0) 0 (-1))) := by rw [e89]; exact va_up_self _ _ _
  have hlo : ∀ n, n < 269 → cs89 n = cs n := fun n a => by rw [e89, va_up_ne _ _ (by omega)]; exact hlo n a
  clear e89
  refine ry_ret dX12_init_359 ⟨by omega, hlo, fun n a b => ?_⟩
  rcases (show n = 269 ∨ n = 270 ∨ n = 271 ∨ n = 272 ∨ n = 273 ∨ n = 274 ∨ n = 275 ∨ n = 276 ∨ n = 277 ∨ n = 278 ∨ n = 279 ∨ n = 280 ∨ n = 281 ∨ n = 282 ∨ n = 283 ∨ n = 284 ∨ n = 285 ∨ n = 286 ∨ n = 287 ∨ n = 288 ∨ n = 289 ∨ n = 290 ∨ n = 291 ∨ n = 292 ∨ n = 293 ∨ n = 294 ∨ n = 295 ∨ n = 296 ∨ n = 297 ∨ n = 298 ∨ n = 299 ∨ n = 300 ∨ n = 301 ∨ n = 302 ∨ n = 303 ∨ n = 304 ∨ n = 305 ∨ n = 306 ∨ n = 307 ∨ n = 308 ∨ n = 309 ∨ n = 310 ∨ n = 311 ∨ n = 312 ∨ n = 313 by omega) with rfl | rfl | rfl | rfl | rfl | rfl | rfl | rfl | rfl | rfl | rfl | rfl | rfl | rfl | rfl | rfl | rfl | rfl | rfl | rfl | rfl | rfl | rfl | rfl | rfl | rfl | rfl | rfl | rfl | rfl | rfl | rfl | rfl | rfl | rfl | rfl | rfl | rfl | rfl | rfl | rfl | rfl | rfl | rfl | rfl
  · rw [hc0]; exact (fyj_12_0).symm
  · rw [hc1]; exact (fyj_12_1).symm
  · rw [hc2]; exact (fyj_12_2).symm
  · rw [hc3]; exact (fyj_12_3).symm
  · rw [hc4]; exact (fyj_12_4).symm
  · rw [hc5]; exact (fyj_12_5).symm
  · rw [hc6]; exact (fyj_12_6).symm
  · rw [hc7]; exact (fyj_12_7).symm
  · rw [hc8]; exact (fyj_12_8).symm
  · rw [hc9]; exact (fyj_12_9).symm
  · rw [hc10]; exact (fyj_12_10).symm
  · rw [hc11]; exact (fyj_12_11).symm
  · rw [hc12]; exact (fyj_12_12).symm
  · rw [hc13]; exact (fyj_12_13).symm
  · rw [hc14]; exact (fyj_12_14).symm
  · rw [hc15]; exact (fyj_12_15).symm
  · rw [hc16]; exact (fyj_12_16).symm
  · rw [hc17]; exact (fyj_12_17).symm
  · rw [hc18]; exact (fyj_12_18).symm
  · rw [hc19]; exact (fyj_12_19).symm
  · rw [hc20]; exact (fyj_12_20).symm
  · rw [hc21]; exact (fyj_12_21).symm
  · rw [hc22]; exact (fyj_12_22).symm
  · rw [hc23]; exact (fyj_12_23).symm
  · rw [hc24]; exact (fyj_12_24).symm
  · rw [hc25]; exact (fyj_12_25).symm
  · rw [hc26]; exact (fyj_12_26).symm
  · rw [hc27]; exact (fyj_12_27).symm
  · rw [hc28]; exact (fyj_12_28).symm
  · rw [hc29]; exact (fyj_12_29).symm
  · rw [hc30]; exact (fyj_12_30).symm
  · rw [hc31]; exact (fyj_12_31).symm
  · rw [hc32]; exact (fyj_12_32).symm
  · rw [hc33]; exact (fyj_12_33).symm
  · rw [hc34]; exact (fyj_12_34).symm
  · rw [hc35]; exact (fyj_12_35).symm
  · rw [hc36]; exact (fyj_12_36).symm
  · rw [hc37]; exact (fyj_12_37).symm
  · rw [hc38]; exact (fyj_12_38).symm
  · rw [hc39]; exact (fyj_12_39).symm
  · rw [hc40]; exact (fyj_12_40).symm
  · rw [hc41]; exact (fyj_12_41).symm
  · rw [hc42]; exact (fyj_12_42).symm
  · rw [hc43]; exact (fyj_12_43).symm
  · rw [hc44]; exact (fyj_12_44).symm
