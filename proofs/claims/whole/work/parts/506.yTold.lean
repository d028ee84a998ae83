/-! ===== a constructor ===== -/
set_option maxRecDepth 20000 in
theorem kX9_init (G : GT) (d : Nat) {t : Nat} (hk : Is t 9) {cs : Nat → va_E} (hc0 : cs t = .inr (9, [.null, .int 0, .int 0, .int 0, .null, .null, .null, .null, .null])) : SpecY G yX9_init cX9_init 2 (d + 4) 34 1200 [.ref (gA G t)] (t + 1) cs (Kc G t 35 cs) := by
  refine ry_spec (by decide) (Nat.le_of_ble_eq_true rfl) ?_
  have hlo : ∀ n, n < t → cs n = cs n := fun _ _ => rfl
  have htN := hk.1
  show RunY G RX9 "<init>" cX9_init 2 none _ 0 0 0 [(0, .ref (gA G t))] [] (t + 1) cs
  refine ry_aload_n 0 dX9_init_0 rfl rfl ?_
  refine ry_objInit wm_X9_3 w_oi w_oc (show 1 ≤ d + 4 by omega) (show 30 ≤ 30 * (d + 4) by omega) rfl dX9_init_1 ?_
  refine ry_aload_n 0 dX9_init_4 rfl rfl ?_
  refine ry_sipush (v := 600) dX9_init_5 rfl ?_
  refine ry_newa (κ := 13) (n := 600) (atype := .byte) (ty := .byte) (t0 := 0) rfl wa_byte rfl (fun _ _ => Iff.rfl) rfl (by decide) rfl (by decide) (Nat.le_of_ble_eq_true rfl) (Nat.le_of_ble_eq_true rfl) dX9_init_8 ?_
  refine ry_cs (fun cs1 e1 => ?_)
  have hc0 : cs1 t = .inr (9, [.null, .int 0, .int 0, .int 0, .null, .null, .null, .null, .null]) := by rw [e1, va_up_ne _ _ (by omega)]; exact hc0
  have hc1 : cs1 (t + 1) = .inl (gY G 13, 600, .inl (fun _ => 0)) := by rw [e1]; exact va_up_self _ _ _
  have hlo : ∀ n, n < t → cs1 n = cs n := fun n a => by rw [e1, va_up_ne _ _ (by omega)] <;> exact hlo n a
  clear e1
  refine ry_putF ff_X9_9 rfl (by omega) hc0 rfl rfl (nlt rfl) dX9_init_10 ?_
  refine ry_cs (fun cs2 e2 => ?_)
  have hc1 : cs2 (t + 1) = .inl (gY G 13, 600, .inl (fun _ => 0)) := by rw [e2, va_up_ne _ _ (by omega)]; exact hc1
  have hc0 : cs2 t = .inr (9, [.ref (gA G (t + 1)), .int 0, .int 0, .int 0, .null, .null, .null, .null, .null]) := by rw [e2]; exact va_up_self _ _ _
  have hlo : ∀ n, n < t → cs2 n = cs n := fun n a => by rw [e2, va_up_ne _ _ (by omega)] <;> exact hlo n a
  clear e2
  refine ry_aload_n 0 dX9_init_13 rfl rfl ?_
  refine ry_iconst (v := -1) dX9_init_14 rfl ?_
  refine ry_put fp_X9_15 (by omega) hc0 rfl rfl (nlt rfl) dX9_init_15 ?_
  refine ry_cs (fun cs3 e3 => ?_)
  have hc1 : cs3 (t + 1) = .inl (gY G 13, 600, .inl (fun _ => 0)) := by rw [e3, va_up_ne _ _ (by omega)]; exact hc1
  have hc0 : cs3 t = .inr (9, [.ref (gA G (t + 1)), .int 0, .int 0, .int (-1), .null, .null, .null, .null, .null]) := by rw [e3]; exact va_up_self _ _ _
  have hlo : ∀ n, n < t → cs3 n = cs n := fun n a => by rw [e3, va_up_ne _ _ (by omega)] <;> exact hlo n a
  clear e3
  refine ry_aload_n 0 dX9_init_18 rfl rfl ?_
  refine ry_iconst (v := 4) dX9_init_19 rfl ?_
  refine ry_newa (κ := 14) (n := 4) (atype := .int) (ty := .int) (t0 := 1) rfl wa_int rfl (fun _ _ => Iff.rfl) rfl (by decide) rfl (by decide) (Nat.le_of_ble_eq_true rfl) (Nat.le_of_ble_eq_true rfl) dX9_init_20 ?_
  refine ry_cs (fun cs4 e4 => ?_)
  have hc0 : cs4 t = .inr (9, [.ref (gA G (t + 1)), .int 0, .int 0, .int (-1), .null, .null, .null, .null, .null]) := by rw [e4, va_up_ne _ _ (by omega)]; exact hc0
  have hc1 : cs4 (t + 1) = .inl (gY G 13, 600, .inl (fun _ => 0)) := by rw [e4, va_up_ne _ _ (by omega)]; exact hc1
  have hc2 : cs4 (t + 2) = .inl (gY G 14, 4, .inl (fun _ => 0)) := by rw [e4]; exact va_up_self _ _ _
  have hlo : ∀ n, n < t → cs4 n = cs n := fun n a => by rw [e4, va_up_ne _ _ (by omega)] <;> exact hlo n a
  clear e4
  refine ry_putF ff_X9_19 rfl (by omega) hc0 rfl rfl (nlt rfl) dX9_init_22 ?_
  refine ry_cs (fun cs5 e5 => ?_)
  have hc1 : cs5 (t + 1) = .inl (gY G 13, 600, .inl (fun _ => 0)) := by rw [e5, va_up_ne _ _ (by omega)]; exact hc1
  have hc2 : cs5 (t + 2) = .inl (gY G 14, 4, .inl (fun _ => 0)) := by rw [e5, va_up_ne _ _ (by omega)]; exact hc2
  have hc0 : cs5 t = .inr (9, [.ref (gA G (t + 1)), .int 0, .int 0, .int (-1), .ref (gA G (t + 2)), .null, .null, .null, .null]) := by rw [e5]; exact va_up_self _ _ _
  have hlo : ∀ n, n < t → cs5 n = cs n := fun n a => by rw [e5, va_up_ne _ _ (by omega)] <;> exact hlo n a
  clear e5
  refine ry_aload_n 0 dX9_init_25 rfl rfl ?_
  refine ry_iconst (v := 2) dX9_init_26 rfl ?_
  refine ry_newq (κ := 19) (n := 2) (t0 := 6) wc_X9_23 wo_7 rfl (by decide) rfl (ln_at_9_3 hk) (by decide) (Nat.le_of_ble_eq_true rfl) (Nat.le_of_ble_eq_true rfl) dX9_init_27 ?_
  refine ry_cs (fun cs6 e6 => ?_)
  have hc0 : cs6 t = .inr (9, [.ref (gA G (t + 1)), .int 0, .int 0, .int (-1), .ref (gA G (t + 2)), .null, .null, .null, .null]) := by rw [e6, va_up_ne _ _ (by omega)]; exact hc0
  have hc1 : cs6 (t + 1) = .inl (gY G 13, 600, .inl (fun _ => 0)) := by rw [e6, va_up_ne _ _ (by omega)]; exact hc1
  have hc2 : cs6 (t + 2) = .inl (gY G 14, 4, .inl (fun _ => 0)) := by rw [e6, va_up_ne _ _ (by omega)]; exact hc2
  have hc3 : cs6 (t + 3) = refI G 19 (t + 3) 0 := by rw [e6]; exact va_up_self _ _ _
  have hlo : ∀ n, n < t → cs6 n = cs n := fun n a => by rw [e6, va_up_ne _ _ (by omega)] <;> exact hlo n a
  clear e6
  refine ry_putF ff_X9_25 rfl (by omega) hc0 rfl rfl (nlt rfl) dX9_init_30 ?_
  refine ry_cs (fun cs7 e7 => ?_)
  have hc1 : cs7 (t + 1) = .inl (gY G 13, 600, .inl (fun _ => 0)) := by rw [e7, va_up_ne _ _ (by omega)]; exact hc1
  have hc2 : cs7 (t + 2) = .inl (gY G 14, 4, .inl (fun _ => 0)) := by rw [e7, va_up_ne _ _ (by omega)]; exact hc2
  have hc3 : cs7 (t + 3) = refI G 19 (t + 3) 0 := by rw [e7, va_up_ne _ _ (by omega)]; exact hc3
  have hc0 : cs7 t = .inr (9, [.ref (gA G (t + 1)), .int 0, .int 0, .int (-1), .ref (gA G (t + 2)), .ref (gA G (t + 3)), .null, .null, .null]) := by rw [e7]; exact va_up_self _ _ _
  have hlo : ∀ n, n < t → cs7 n = cs n := fun n a => by rw [e7, va_up_ne _ _ (by omega)] <;> exact hlo n a
  clear e7
  refine ry_aload_n 0 dX9_init_33 rfl rfl ?_
  refine ry_iconst (v := 2) dX9_init_34 rfl ?_
  refine ry_newq (κ := 20) (n := 2) (t0 := 7) wc_X9_29 wo_8 rfl (by decide) rfl (ln_at_9_4 hk) (by decide) (Nat.le_of_ble_eq_true rfl) (Nat.le_of_ble_eq_true rfl) dX9_init_35 ?_
  refine ry_cs (fun cs8 e8 => ?_)
  have hc0 : cs8 t = .inr (9, [.ref (gA G (t + 1)), .int 0, .int 0, .int (-1), .ref (gA G (t + 2)), .ref (gA G (t + 3)), .null, .null, .null]) := by rw [e8, va_up_ne _ _ (by omega)]; exact hc0
  have hc1 : cs8 (t + 1) = .inl (gY G 13, 600, .inl (fun _ => 0)) := by rw [e8, va_up_ne _ _ (by omega)]; exact hc1
  have hc2 : cs8 (t + 2) = .inl (gY G 14, 4, .inl (fun _ => 0)) := by rw [e8, va_up_ne _ _ (by omega)]; exact hc2
  have hc3 : cs8 (t + 3) = refI G 19 (t + 3) 0 := by rw [e8, va_up_ne _ _ (by omega)]; exact hc3
  have hc4 : cs8 (t + 4) = refI G 20 (t + 4) 0 := by rw [e8]; exact va_up_self _ _ _
  have hlo : ∀ n, n < t → cs8 n = cs n := fun n a => by rw [e8, va_up_ne _ _ (by omega)] <;> exact hlo n a
  clear e8
  refine ry_putF ff_X9_31 rfl (by omega) hc0 rfl rfl (nlt rfl) dX9_init_38 ?_
  refine ry_cs (fun cs9 e9 => ?_)
  have hc1 : cs9 (t + 1) = .inl (gY G 13, 600, .inl (fun _ => 0)) := by rw [e9, va_up_ne _ _ (by omega)]; exact hc1
  have hc2 : cs9 (t + 2) = .inl (gY G 14, 4, .inl (fun _ => 0)) := by rw [e9, va_up_ne _ _ (by omega)]; exact hc2
  have hc3 : cs9 (t + 3) = refI G 19 (t + 3) 0 := by rw [e9, va_up_ne _ _ (by omega)]; exact hc3
  have hc4 : cs9 (t + 4) = refI G 20 (t + 4) 0 := by rw [e9, va_up_ne _ _ (by omega)]; exact hc4
  have hc0 : cs9 t = .inr (9, [.ref (gA G (t + 1)), .int 0, .int 0, .int (-1), .ref (gA G (t + 2)), .ref (gA G (t + 3)), .ref (gA G (t + 4)), .null, .null]) := by rw [e9]; exact va_up_self _ _ _
  have hlo : ∀ n, n < t → cs9 n = cs n := fun n a => by rw [e9, va_up_ne _ _ (by omega)] <;> exact hlo n a
  clear e9
  refine ry_aload_n 0 dX9_init_41 rfl rfl ?_
  refine ry_iconst (v := 2) dX9_init_42 rfl ?_
  refine ry_newq (κ := 18) (n := 2) (t0 := 5) wc_X9_35 wo_4 rfl (by decide) rfl (ln_at_9_5 hk) (by decide) (Nat.le_of_ble_eq_true rfl) (Nat.le_of_ble_eq_true rfl) dX9_init_43 ?_
  refine ry_cs (fun cs10 e10 => ?_)
  have hc0 : cs10 t = .inr (9, [.ref (gA G (t + 1)), .int 0, .int 0, .int (-1), .ref (gA G (t + 2)), .ref (gA G (t + 3)), .ref (gA G (t + 4)), .null, .null]) := by rw [e10, va_up_ne _ _ (by omega)]; exact hc0
  have hc1 : cs10 (t + 1) = .inl (gY G 13, 600, .inl (fun _ => 0)) := by rw [e10, va_up_ne _ _ (by omega)]; exact hc1
  have hc2 : cs10 (t + 2) = .inl (gY G 14, 4, .inl (fun _ => 0)) := by rw [e10, va_up_ne _ _ (by omega)]; exact hc2
  have hc3 : cs10 (t + 3) = refI G 19 (t + 3) 0 := by rw [e10, va_up_ne _ _ (by omega)]; exact hc3
  have hc4 : cs10 (t + 4) = refI G 20 (t + 4) 0 := by rw [e10, va_up_ne _ _ (by omega)]; exact hc4
  have hc5 : cs10 (t + 5) = refI G 18 (t + 5) 0 := by rw [e10]; exact va_up_self _ _ _
  have hlo : ∀ n, n < t → cs10 n = cs n := fun n a => by rw [e10, va_up_ne _ _ (by omega)] <;> exact hlo n a
  clear e10
  refine ry_putF ff_X9_37 rfl (by omega) hc0 rfl rfl (nlt rfl) dX9_init_46 ?_
  refine ry_cs (fun cs11 e11 => ?_)
  have hc1 : cs11 (t + 1) = .inl (gY G 13, 600, .inl (fun _ => 0)) := by rw [e11, va_up_ne _ _ (by omega)]; exact hc1
  have hc2 : cs11 (t + 2) = .inl (gY G 14, 4, .inl (fun _ => 0)) := by rw [e11, va_up_ne _ _ (by omega)]; exact hc2
  have hc3 : cs11 (t + 3) = refI G 19 (t + 3) 0 := by rw [e11, va_up_ne _ _ (by omega)]; exact hc3
  have hc4 : cs11 (t + 4) = refI G 20 (t + 4) 0 := by rw [e11, va_up_ne _ _ (by omega)]; exact hc4
  have hc5 : cs11 (t + 5) = refI G 18 (t + 5) 0 := by rw [e11, va_up_ne _ _ (by omega)]; exact hc5
  have hc0 : cs11 t = .inr (9, [.ref (gA G (t + 1)), .int 0, .int 0, .int (-1), .ref (gA G (t + 2)), .ref (gA G (t + 3)), .ref (gA G (t + 4)), .ref (gA G (t + 5)), .null]) := by rw [e11]; exact va_up_self _ _ _
  have hlo : ∀ n, n < t → cs11 n = cs n := fun n a => by rw [e11, va_up_ne _ _ (by omega)] <;> exact hlo n a
  clear e11
  refine ry_aload_n 0 dX9_init_49 rfl rfl ?_
  refine ry_iconst (v := 2) dX9_init_50 rfl ?_
  refine ry_newq (κ := 16) (n := 2) (t0 := 3) wc_X9_41 wo_1 rfl (by decide) rfl (ln_at_9_6 hk) (by decide) (Nat.le_of_ble_eq_true rfl) (Nat.le_of_ble_eq_true rfl) dX9_init_51 ?_
  refine ry_cs (fun cs12 e12 => ?_)
  have hc0 : cs12 t = .inr (9, [.ref (gA G (t + 1)), .int 0, .int 0, .int (-1), .ref (gA G (t + 2)), .ref (gA G (t + 3)), .ref (gA G (t + 4)), .ref (gA G (t + 5)), .null]) := by rw [e12, va_up_ne _ _ (by omega)]; exact hc0
  have hc1 : cs12 (t + 1) = .inl (gY G 13, 600, .inl (fun _ => 0)) := by rw [e12, va_up_ne _ _ (by omega)]; exact hc1
  have hc2 : cs12 (t + 2) = .inl (gY G 14, 4, .inl (fun _ => 0)) := by rw [e12, va_up_ne _ _ (by omega)]; exact hc2
  have hc3 : cs12 (t + 3) = refI G 19 (t + 3) 0 := by rw [e12, va_up_ne _ _ (by omega)]; exact hc3
  have hc4 : cs12 (t + 4) = refI G 20 (t + 4) 0 := by rw [e12, va_up_ne _ _ (by omega)]; exact hc4
  have hc5 : cs12 (t + 5) = refI G 18 (t + 5) 0 := by rw [e12, va_up_ne _ _ (by omega)]; exact hc5
  have hc6 : cs12 (t + 6) = refI G 16 (t + 6) 0 := by rw [e12]; exact va_up_self _ _ _
  have hlo : ∀ n, n < t → cs12 n = cs n := fun n a => by rw [e12, va_up_ne _ _ (by omega)] <;> exact hlo n a
  clear e12
  refine ry_putF ff_X9_43 rfl (by omega) hc0 rfl rfl (nlt rfl) dX9_init_54 ?_
  refine ry_cs (fun cs13 e13 => ?_)
  have hc1 : cs13 (t + 1) = .inl (gY G 13, 600, .inl (fun _ => 0)) := by rw [e13, va_up_ne _ _ (by omega)]; exact hc1
  have hc2 : cs13 (t + 2) = .inl (gY G 14, 4, .inl (fun _ => 0)) := by rw [e13, va_up_ne _ _ (by omega)]; exact hc2
  have hc3 : cs13 (t + 3) = refI G 19 (t + 3) 0 := by rw [e13, va_up_ne _ _ (by omega)]; exact hc3
  have hc4 : cs13 (t + 4) = refI G 20 (t + 4) 0 := by rw [e13, va_up_ne _ _ (by omega)]; exact hc4
  have hc5 : cs13 (t + 5) = refI G 18 (t + 5) 0 := by rw [e13, va_up_ne _ _ (by omega)]; exact hc5
  have hc6 : cs13 (t + 6) = refI G 16 (t + 6) 0 := by rw [e13, va_up_ne _ _ (by omega)]; exact hc6
  have hc0 : cs13 t = .inr (9, [.ref (gA G (t + 1)), .int 0, .int 0, .int (-1), .ref (gA G (t + 2)), .ref (gA G (t + 3)), .ref (gA G (t + 4)), .ref (gA G (t + 5)), .ref (gA G (t + 6))]) := by rw [e13]; exact va_up_self _ _ _
  have hlo : ∀ n, n < t → cs13 n = cs n := fun n a => by rw [e13, va_up_ne _ _ (by omega)] <;> exact hlo n a
  clear e13
  refine ry_iconst (v := 0) dX9_init_57 rfl ?_
  refine ry_istore_n [(0, .ref (gA G t)), (1, .int 0)] [1, 0] dX9_init_58 rfl (by decide) rfl ?_
  refine ry_iload_n 1 dX9_init_59 rfl rfl ?_
  refine ry_iconst (v := 2) dX9_init_60 rfl ?_
  refine ry_icmp_ge 122 dX9_init_61 (by decide) (fun q => absurd q (by decide)) (fun _ => ?_)
  refine ry_aload_n 0 dX9_init_64 rfl rfl ?_
  refine ry_get fl_X9_25 (by omega) hc0 rfl dX9_init_65 ?_
  refine ry_iload_n 1 dX9_init_68 rfl rfl ?_
  refine ry_new (ci := 7) (fs := [.int 0, .int 0, .null]) tyX7 tyX7_ok rfl i_X7 wc_X9_23 wi_7 wn_7 bl_7 (Nat.le_of_ble_eq_true rfl) (Nat.le_of_ble_eq_true rfl) dX9_init_69 ?_
  refine ry_cs (fun cs14 e14 => ?_)
  have hc0 : cs14 t = .inr (9, [.ref (gA G (t + 1)), .int 0, .int 0, .int (-1), .ref (gA G (t + 2)), .ref (gA G (t + 3)), .ref (gA G (t + 4)), .ref (gA G (t + 5)), .ref (gA G (t + 6))]) := by rw [e14, va_up_ne _ _ (by omega)]; exact hc0
  have hc1 : cs14 (t + 1) = .inl (gY G 13, 600, .inl (fun _ => 0)) := by rw [e14, va_up_ne _ _ (by omega)]; exact hc1
  have hc2 : cs14 (t + 2) = .inl (gY G 14, 4, .inl (fun _ => 0)) := by rw [e14, va_up_ne _ _ (by omega)]; exact hc2
  have hc3 : cs14 (t + 3) = refI G 19 (t + 3) 0 := by rw [e14, va_up_ne _ _ (by omega)]; exact hc3
  have hc4 : cs14 (t + 4) = refI G 20 (t + 4) 0 := by rw [e14, va_up_ne _ _ (by omega)]; exact hc4
  have hc5 : cs14 (t + 5) = refI G 18 (t + 5) 0 := by rw [e14, va_up_ne _ _ (by omega)]; exact hc5
  have hc6 : cs14 (t + 6) = refI G 16 (t + 6) 0 := by rw [e14, va_up_ne _ _ (by omega)]; exact hc6
  have hc7 : cs14 (t + 7) = .inr (7, [.int 0, .int 0, .null]) := by rw [e14]; exact va_up_self _ _ _
  have hlo : ∀ n, n < t → cs14 n = cs n := fun n a => by rw [e14, va_up_ne _ _ (by omega)] <;> exact hlo n a
  clear e14
  refine ry_dup dX9_init_72 rfl ?_
  refine ry_callI (N2 := 0) (As := []) (n := (t + 7)) (mc := 1) (ms := 10) (Kc G (t + 7) 2 _) (fun _ _ h => by have := h.1; omega) mw_X7_init rfl win_X7_init wm_X9_47 rfl ⟨show d + 3 + 1 ≤ d + 4 by omega, show 30 * (d + 3) + 30 ≤ 30 * (d + 4) by omega, (Nat.le_of_ble_eq_true rfl), (Nat.le_of_ble_eq_true rfl)⟩ (Nat.le_of_ble_eq_true rfl) dX9_init_73 (kX7_init G d (isB_9_7 hk) hc7) (fun cs15 hK => ?_) rfl
  obtain ⟨-, hK1, hK2⟩ := hK
  have hc0 : cs15 t = .inr (9, [.ref (gA G (t + 1)), .int 0, .int 0, .int (-1), .ref (gA G (t + 2)), .ref (gA G (t + 3)), .ref (gA G (t + 4)), .ref (gA G (t + 5)), .ref (gA G (t + 6))]) := (hK1 _ (by omega)).trans hc0
  have hc1 : cs15 (t + 1) = .inl (gY G 13, 600, .inl (fun _ => 0)) := (hK1 _ (by omega)).trans hc1
  have hc2 : cs15 (t + 2) = .inl (gY G 14, 4, .inl (fun _ => 0)) := (hK1 _ (by omega)).trans hc2
  have hc3 : cs15 (t + 3) = refI G 19 (t + 3) 0 := (hK1 _ (by omega)).trans hc3
  have hc4 : cs15 (t + 4) = refI G 20 (t + 4) 0 := (hK1 _ (by omega)).trans hc4
  have hc5 : cs15 (t + 5) = refI G 18 (t + 5) 0 := (hK1 _ (by omega)).trans hc5
  have hc6 : cs15 (t + 6) = refI G 16 (t + 6) 0 := (hK1 _ (by omega)).trans hc6
  have hlo : ∀ n, n < t → cs15 n = cs n := fun n a => (hK1 n (by omega)).trans (hlo n a)
  have hr7 : ∀ n, (t + 7) ≤ n → n < (t + 9) → cs15 n = finY G n := fun n a b => hK2 n (by omega) (by omega)
  clear hK1 hK2
  refine ry_aast (κ := 19) (κ' := 7) (t0 := 6) (L := 2) (n := (t + 3)) (v := (t + 7)) (i := 0) (by omega) (by omega) rfl rfl hc3 (ln_at_9_3 hk) ((hr7 (t + 7) (by omega) (by omega)).trans (fyE_7 (isE_9_3_0 hk))) (by decide) rfl (spE_9_3_0 hk) dX9_init_76 ?_
  refine ry_cs (fun cs16 e16 => ?_)
  have hc0 : cs16 t = .inr (9, [.ref (gA G (t + 1)), .int 0, .int 0, .int (-1), .ref (gA G (t + 2)), .ref (gA G (t + 3)), .ref (gA G (t + 4)), .ref (gA G (t + 5)), .ref (gA G (t + 6))]) := by rw [e16, va_up_ne _ _ (by omega)]; exact hc0
  have hc1 : cs16 (t + 1) = .inl (gY G 13, 600, .inl (fun _ => 0)) := by rw [e16, va_up_ne _ _ (by omega)]; exact hc1
  have hc2 : cs16 (t + 2) = .inl (gY G 14, 4, .inl (fun _ => 0)) := by rw [e16, va_up_ne _ _ (by omega)]; exact hc2
  have hc4 : cs16 (t + 4) = refI G 20 (t + 4) 0 := by rw [e16, va_up_ne _ _ (by omega)]; exact hc4
  have hc5 : cs16 (t + 5) = refI G 18 (t + 5) 0 := by rw [e16, va_up_ne _ _ (by omega)]; exact hc5
  have hc6 : cs16 (t + 6) = refI G 16 (t + 6) 0 := by rw [e16, va_up_ne _ _ (by omega)]; exact hc6
  have hc3 : cs16 (t + 3) = refI G 19 (t + 3) 1 := by rw [e16]; exact va_up_self _ _ _
  have hr7 : ∀ n, (t + 7) ≤ n → n < (t + 9) → cs16 n = finY G n := fun n a b => by rw [e16, va_up_ne _ _ (by omega)]; exact hr7 n a b
  have hlo : ∀ n, n < t → cs16 n = cs n := fun n a => by rw [e16, va_up_ne _ _ (by omega)] <;> exact hlo n a
  clear e16
  refine ry_aload_n 0 dX9_init_77 rfl rfl ?_
  refine ry_get fl_X9_31 (by omega) hc0 rfl dX9_init_78 ?_
  refine ry_iload_n 1 dX9_init_81 rfl rfl ?_
  refine ry_new (ci := 8) (fs := [.int 0, .null, .null, .null, .null]) tyX8 tyX8_ok rfl i_X8 wc_X9_29 wi_8 wn_8 bl_8 (Nat.le_of_ble_eq_true rfl) (Nat.le_of_ble_eq_true rfl) dX9_init_82 ?_
  refine ry_cs (fun cs17 e17 => ?_)
  have hc0 : cs17 t = .inr (9, [.ref (gA G (t + 1)), .int 0, .int 0, .int (-1), .ref (gA G (t + 2)), .ref (gA G (t + 3)), .ref (gA G (t + 4)), .ref (gA G (t + 5)), .ref (gA G (t + 6))]) := by rw [e17, va_up_ne _ _ (by omega)]; exact hc0
  have hc1 : cs17 (t + 1) = .inl (gY G 13, 600, .inl (fun _ => 0)) := by rw [e17, va_up_ne _ _ (by omega)]; exact hc1
  have hc2 : cs17 (t + 2) = .inl (gY G 14, 4, .inl (fun _ => 0)) := by rw [e17, va_up_ne _ _ (by omega)]; exact hc2
  have hc3 : cs17 (t + 3) = refI G 19 (t + 3) 1 := by rw [e17, va_up_ne _ _ (by omega)]; exact hc3
  have hc4 : cs17 (t + 4) = refI G 20 (t + 4) 0 := by rw [e17, va_up_ne _ _ (by omega)]; exact hc4
  have hc5 : cs17 (t + 5) = refI G 18 (t + 5) 0 := by rw [e17, va_up_ne _ _ (by omega)]; exact hc5
  have hc6 : cs17 (t + 6) = refI G 16 (t + 6) 0 := by rw [e17, va_up_ne _ _ (by omega)]; exact hc6
  have hc9 : cs17 (t + 9) = .inr (8, [.int 0, .null, .null, .null, .null]) := by rw [e17]; exact va_up_self _ _ _
  have hr7 : ∀ n, (t + 7) ≤ n → n < (t + 9) → cs17 n = finY G n := fun n a b => by rw [e17, va_up_ne _ _ (by omega)]; exact hr7 n a b
  have hlo : ∀ n, n < t → cs17 n = cs n := fun n a => by rw [e17, va_up_ne _ _ (by omega)] <;> exact hlo n a
  clear e17
  refine ry_dup dX9_init_85 rfl ?_
  refine ry_callIN (As := []) (n := (t + 9)) (mc := 4) (ms := 133) (Kc G (t + 9) 5 _) (fun _ _ h => by have := h.1; omega) mw_X8_init rfl win_X8_init wm_X9_48 rfl ⟨show (d + 2) + 1 + 1 ≤ d + 4 by omega, show 30 * ((d + 2) + 1) + 30 ≤ 30 * (d + 4) by omega, (Nat.le_of_ble_eq_true rfl), (Nat.le_of_ble_eq_true rfl)⟩ (Nat.le_of_ble_eq_true rfl) dX9_init_86 (kX8_init G (d + 2) (isB_9_9 hk) hc9) (fun cs18 hK => ?_) rfl
  obtain ⟨-, hK1, hK2⟩ := hK
  have hc0 : cs18 t = .inr (9, [.ref (gA G (t + 1)), .int 0, .int 0, .int (-1), .ref (gA G (t + 2)), .ref (gA G (t + 3)), .ref (gA G (t + 4)), .ref (gA G (t + 5)), .ref (gA G (t + 6))]) := (hK1 _ (by omega)).trans hc0
  have hc1 : cs18 (t + 1) = .inl (gY G 13, 600, .inl (fun _ => 0)) := (hK1 _ (by omega)).trans hc1
  have hc2 : cs18 (t + 2) = .inl (gY G 14, 4, .inl (fun _ => 0)) := (hK1 _ (by omega)).trans hc2
  have hc3 : cs18 (t + 3) = refI G 19 (t + 3) 1 := (hK1 _ (by omega)).trans hc3
  have hc4 : cs18 (t + 4) = refI G 20 (t + 4) 0 := (hK1 _ (by omega)).trans hc4
  have hc5 : cs18 (t + 5) = refI G 18 (t + 5) 0 := (hK1 _ (by omega)).trans hc5
  have hc6 : cs18 (t + 6) = refI G 16 (t + 6) 0 := (hK1 _ (by omega)).trans hc6
  have hr7 : ∀ n, (t + 7) ≤ n → n < (t + 9) → cs18 n = finY G n := fun n a b => (hK1 n (by omega)).trans (hr7 n a b)
  have hlo : ∀ n, n < t → cs18 n = cs n := fun n a => (hK1 n (by omega)).trans (hlo n a)
  have hr7 : ∀ n, (t + 7) ≤ n → n < (t + 14) → cs18 n = finY G n := fun n a b => if h : n < (t + 9) then hr7 n a h else hK2 n (by omega) (by omega)
  clear hK1 hK2
  refine ry_aast (κ := 20) (κ' := 8) (t0 := 7) (L := 2) (n := (t + 4)) (v := (t + 9)) (i := 0) (by omega) (by omega) rfl rfl hc4 (ln_at_9_4 hk) ((hr7 (t + 9) (by omega) (by omega)).trans (fyE_8 (isE_9_4_0 hk))) (by decide) rfl (spE_9_4_0 hk) dX9_init_89 ?_
  refine ry_cs (fun cs19 e19 => ?_)
  have hc0 : cs19 t = .inr (9, [.ref (gA G (t + 1)), .int 0, .int 0, .int (-1), .ref (gA G (t + 2)), .ref (gA G (t + 3)), .ref (gA G (t + 4)), .ref (gA G (t + 5)), .ref (gA G (t + 6))]) := by rw [e19, va_up_ne _ _ (by omega)]; exact hc0
  have hc1 : cs19 (t + 1) = .inl (gY G 13, 600, .inl (fun _ => 0)) := by rw [e19, va_up_ne _ _ (by omega)]; exact hc1
  have hc2 : cs19 (t + 2) = .inl (gY G 14, 4, .inl (fun _ => 0)) := by rw [e19, va_up_ne _ _ (by omega)]; exact hc2
  have hc3 : cs19 (t + 3) = refI G 19 (t + 3) 1 := by rw [e19, va_up_ne _ _ (by omega)]; exact hc3
  have hc5 : cs19 (t + 5) = refI G 18 (t + 5) 0 := by rw [e19, va_up_ne _ _ (by omega)]; exact hc5
  have hc6 : cs19 (t + 6) = refI G 16 (t + 6) 0 := by rw [e19, va_up_ne _ _ (by omega)]; exact hc6
  have hc4 : cs19 (t + 4) = refI G 20 (t + 4) 1 := by rw [e19]; exact va_up_self _ _ _
  have hr7 : ∀ n, (t + 7) ≤ n → n < (t + 14) → cs19 n = finY G n := fun n a b => by rw [e19, va_up_ne _ _ (by omega)]; exact hr7 n a b
  have hlo : ∀ n, n < t → cs19 n = cs n := fun n a => by rw [e19, va_up_ne _ _ (by omega)] <;> exact hlo n a
  clear e19
  refine ry_aload_n 0 dX9_init_90 rfl rfl ?_
  refine ry_get fl_X9_37 (by omega) hc0 rfl dX9_init_91 ?_
  refine ry_iload_n 1 dX9_init_94 rfl rfl ?_
  refine ry_new (ci := 4) (fs := [.int 0, .null, .null, .null]) tyX4 tyX4_ok rfl i_X4 wc_X9_35 wi_4 wn_4 bl_4 (Nat.le_of_ble_eq_true rfl) (Nat.le_of_ble_eq_true rfl) dX9_init_95 ?_
  refine ry_cs (fun cs20 e20 => ?_)
  have hc0 : cs20 t = .inr (9, [.ref (gA G (t + 1)), .int 0, .int 0, .int (-1), .ref (gA G (t + 2)), .ref (gA G (t + 3)), .ref (gA G (t + 4)), .ref (gA G (t + 5)), .ref (gA G (t + 6))]) := by rw [e20, va_up_ne _ _ (by omega)]; exact hc0
  have hc1 : cs20 (t + 1) = .inl (gY G 13, 600, .inl (fun _ => 0)) := by rw [e20, va_up_ne _ _ (by omega)]; exact hc1
  have hc2 : cs20 (t + 2) = .inl (gY G 14, 4, .inl (fun _ => 0)) := by rw [e20, va_up_ne _ _ (by omega)]; exact hc2
  have hc3 : cs20 (t + 3) = refI G 19 (t + 3) 1 := by rw [e20, va_up_ne _ _ (by omega)]; exact hc3
  have hc4 : cs20 (t + 4) = refI G 20 (t + 4) 1 := by rw [e20, va_up_ne _ _ (by omega)]; exact hc4
  have hc5 : cs20 (t + 5) = refI G 18 (t + 5) 0 := by rw [e20, va_up_ne _ _ (by omega)]; exact hc5
  have hc6 : cs20 (t + 6) = refI G 16 (t + 6) 0 := by rw [e20, va_up_ne _ _ (by omega)]; exact hc6
  have hc14 : cs20 (t + 14) = .inr (4, [.int 0, .null, .null, .null]) := by rw [e20]; exact va_up_self _ _ _
  have hr7 : ∀ n, (t + 7) ≤ n → n < (t + 14) → cs20 n = finY G n := fun n a b => by rw [e20, va_up_ne _ _ (by omega)]; exact hr7 n a b
  have hlo : ∀ n, n < t → cs20 n = cs n := fun n a => by rw [e20, va_up_ne _ _ (by omega)] <;> exact hlo n a
  clear e20
  refine ry_dup dX9_init_98 rfl ?_
  refine ry_callIN (As := []) (n := (t + 14)) (mc := 3) (ms := 120) (Kc G (t + 14) 4 _) (fun _ _ h => by have := h.1; omega) mw_X4_init rfl win_X4_init wm_X9_49 rfl ⟨show (d + 2) + 1 + 1 ≤ d + 4 by omega, show 30 * ((d + 2) + 1) + 30 ≤ 30 * (d + 4) by omega, (Nat.le_of_ble_eq_true rfl), (Nat.le_of_ble_eq_true rfl)⟩ (Nat.le_of_ble_eq_true rfl) dX9_init_99 (kX4_init G (d + 2) (isB_9_14 hk) hc14) (fun cs21 hK => ?_) rfl
  obtain ⟨-, hK1, hK2⟩ := hK
  have hc0 : cs21 t = .inr (9, [.ref (gA G (t + 1)), .int 0, .int 0, .int (-1), .ref (gA G (t + 2)), .ref (gA G (t + 3)), .ref (gA G (t + 4)), .ref (gA G (t + 5)), .ref (gA G (t + 6))]) := (hK1 _ (by omega)).trans hc0
  have hc1 : cs21 (t + 1) = .inl (gY G 13, 600, .inl (fun _ => 0)) := (hK1 _ (by omega)).trans hc1
  have hc2 : cs21 (t + 2) = .inl (gY G 14, 4, .inl (fun _ => 0)) := (hK1 _ (by omega)).trans hc2
  have hc3 : cs21 (t + 3) = refI G 19 (t + 3) 1 := (hK1 _ (by omega)).trans hc3
  have hc4 : cs21 (t + 4) = refI G 20 (t + 4) 1 := (hK1 _ (by omega)).trans hc4
  have hc5 : cs21 (t + 5) = refI G 18 (t + 5) 0 := (hK1 _ (by omega)).trans hc5
  have hc6 : cs21 (t + 6) = refI G 16 (t + 6) 0 := (hK1 _ (by omega)).trans hc6
  have hr7 : ∀ n, (t + 7) ≤ n → n < (t + 14) → cs21 n = finY G n := fun n a b => (hK1 n (by omega)).trans (hr7 n a b)
  have hlo : ∀ n, n < t → cs21 n = cs n := fun n a => (hK1 n (by omega)).trans (hlo n a)
  have hr7 : ∀ n, (t + 7) ≤ n → n < (t + 18) → cs21 n = finY G n := fun n a b => if h : n < (t + 14) then hr7 n a h else hK2 n (by omega) (by omega)
  clear hK1 hK2
  refine ry_aast (κ := 18) (κ' := 4) (t0 := 5) (L := 2) (n := (t + 5)) (v := (t + 14)) (i := 0) (by omega) (by omega) rfl rfl hc5 (ln_at_9_5 hk) ((hr7 (t + 14) (by omega) (by omega)).trans (fyE_4 (isE_9_5_0 hk))) (by decide) rfl (spE_9_5_0 hk) dX9_init_102 ?_
  refine ry_cs (fun cs22 e22 => ?_)
  have hc0 : cs22 t = .inr (9, [.ref (gA G (t + 1)), .int 0, .int 0, .int (-1), .ref (gA G (t + 2)), .ref (gA G (t + 3)), .ref (gA G (t + 4)), .ref (gA G (t + 5)), .ref (gA G (t + 6))]) := by rw [e22, va_up_ne _ _ (by omega)]; exact hc0
  have hc1 : cs22 (t + 1) = .inl (gY G 13, 600, .inl (fun _ => 0)) := by rw [e22, va_up_ne _ _ (by omega)]; exact hc1
  have hc2 : cs22 (t + 2) = .inl (gY G 14, 4, .inl (fun _ => 0)) := by rw [e22, va_up_ne _ _ (by omega)]; exact hc2
  have hc3 : cs22 (t + 3) = refI G 19 (t + 3) 1 := by rw [e22, va_up_ne _ _ (by omega)]; exact hc3
  have hc4 : cs22 (t + 4) = refI G 20 (t + 4) 1 := by rw [e22, va_up_ne _ _ (by omega)]; exact hc4
  have hc6 : cs22 (t + 6) = refI G 16 (t + 6) 0 := by rw [e22, va_up_ne _ _ (by omega)]; exact hc6
  have hc5 : cs22 (t + 5) = refI G 18 (t + 5) 1 := by rw [e22]; exact va_up_self _ _ _
  have hr7 : ∀ n, (t + 7) ≤ n → n < (t + 18) → cs22 n = finY G n := fun n a b => by rw [e22, va_up_ne _ _ (by omega)]; exact hr7 n a b
  have hlo : ∀ n, n < t → cs22 n = cs n := fun n a => by rw [e22, va_up_ne _ _ (by omega)] <;> exact hlo n a
  clear e22
  refine ry_aload_n 0 dX9_init_103 rfl rfl ?_
  refine ry_get fl_X9_43 (by omega) hc0 rfl dX9_init_104 ?_
  refine ry_iload_n 1 dX9_init_107 rfl rfl ?_
  refine ry_new (ci := 1) (fs := [.int 0, .null, .null]) tyX1 tyX1_ok rfl i_X1 wc_X9_41 wi_1 wn_1 bl_1 (Nat.le_of_ble_eq_true rfl) (Nat.le_of_ble_eq_true rfl) dX9_init_108 ?_
  refine ry_cs (fun cs23 e23 => ?_)
  have hc0 : cs23 t = .inr (9, [.ref (gA G (t + 1)), .int 0, .int 0, .int (-1), .ref (gA G (t + 2)), .ref (gA G (t + 3)), .ref (gA G (t + 4)), .ref (gA G (t + 5)), .ref (gA G (t + 6))]) := by rw [e23, va_up_ne _ _ (by omega)]; exact hc0
  have hc1 : cs23 (t + 1) = .inl (gY G 13, 600, .inl (fun _ => 0)) := by rw [e23, va_up_ne _ _ (by omega)]; exact hc1
  have hc2 : cs23 (t + 2) = .inl (gY G 14, 4, .inl (fun _ => 0)) := by rw [e23, va_up_ne _ _ (by omega)]; exact hc2
  have hc3 : cs23 (t + 3) = refI G 19 (t + 3) 1 := by rw [e23, va_up_ne _ _ (by omega)]; exact hc3
  have hc4 : cs23 (t + 4) = refI G 20 (t + 4) 1 := by rw [e23, va_up_ne _ _ (by omega)]; exact hc4
  have hc5 : cs23 (t + 5) = refI G 18 (t + 5) 1 := by rw [e23, va_up_ne _ _ (by omega)]; exact hc5
  have hc6 : cs23 (t + 6) = refI G 16 (t + 6) 0 := by rw [e23, va_up_ne _ _ (by omega)]; exact hc6
  have hc18 : cs23 (t + 18) = .inr (1, [.int 0, .null, .null]) := by rw [e23]; exact va_up_self _ _ _
  have hr7 : ∀ n, (t + 7) ≤ n → n < (t + 18) → cs23 n = finY G n := fun n a b => by rw [e23, va_up_ne _ _ (by omega)]; exact hr7 n a b
  have hlo : ∀ n, n < t → cs23 n = cs n := fun n a => by rw [e23, va_up_ne _ _ (by omega)] <;> exact hlo n a
  clear e23
  refine ry_dup dX9_init_111 rfl ?_
  refine ry_callIN (As := []) (n := (t + 18)) (mc := 2) (ms := 16) (Kc G (t + 18) 3 _) (fun _ _ h => by have := h.1; omega) mw_X1_init rfl win_X1_init wm_X9_50 rfl ⟨show (d + 2) + 1 + 1 ≤ d + 4 by omega, show 30 * ((d + 2) + 1) + 30 ≤ 30 * (d + 4) by omega, (Nat.le_of_ble_eq_true rfl), (Nat.le_of_ble_eq_true rfl)⟩ (Nat.le_of_ble_eq_true rfl) dX9_init_112 (kX1_init G (d + 2) (isB_9_18 hk) hc18) (fun cs24 hK => ?_) rfl
  obtain ⟨-, hK1, hK2⟩ := hK
  have hc0 : cs24 t = .inr (9, [.ref (gA G (t + 1)), .int 0, .int 0, .int (-1), .ref (gA G (t + 2)), .ref (gA G (t + 3)), .ref (gA G (t + 4)), .ref (gA G (t + 5)), .ref (gA G (t + 6))]) := (hK1 _ (by omega)).trans hc0
  have hc1 : cs24 (t + 1) = .inl (gY G 13, 600, .inl (fun _ => 0)) := (hK1 _ (by omega)).trans hc1
  have hc2 : cs24 (t + 2) = .inl (gY G 14, 4, .inl (fun _ => 0)) := (hK1 _ (by omega)).trans hc2
  have hc3 : cs24 (t + 3) = refI G 19 (t + 3) 1 := (hK1 _ (by omega)).trans hc3
  have hc4 : cs24 (t + 4) = refI G 20 (t + 4) 1 := (hK1 _ (by omega)).trans hc4
  have hc5 : cs24 (t + 5) = refI G 18 (t + 5) 1 := (hK1 _ (by omega)).trans hc5
  have hc6 : cs24 (t + 6) = refI G 16 (t + 6) 0 := (hK1 _ (by omega)).trans hc6
  have hr7 : ∀ n, (t + 7) ≤ n → n < (t + 18) → cs24 n = finY G n := fun n a b => (hK1 n (by omega)).trans (hr7 n a b)
  have hlo : ∀ n, n < t → cs24 n = cs n := fun n a => (hK1 n (by omega)).trans (hlo n a)
  have hr7 : ∀ n, (t + 7) ≤ n → n < (t + 21) → cs24 n = finY G n := fun n a b => if h : n < (t + 18) then hr7 n a h else hK2 n (by omega) (by omega)
  clear hK1 hK2
  refine ry_aast (κ := 16) (κ' := 1) (t0 := 3) (L := 2) (n := (t + 6)) (v := (t + 18)) (i := 0) (by omega) (by omega) rfl rfl hc6 (ln_at_9_6 hk) ((hr7 (t + 18) (by omega) (by omega)).trans (fyE_1 (isE_9_6_0 hk))) (by decide) rfl (spE_9_6_0 hk) dX9_init_115 ?_
  refine ry_cs (fun cs25 e25 => ?_)
  have hc0 : cs25 t = .inr (9, [.ref (gA G (t + 1)), .int 0, .int 0, .int (-1), .ref (gA G (t + 2)), .ref (gA G (t + 3)), .ref (gA G (t + 4)), .ref (gA G (t + 5)), .ref (gA G (t + 6))]) := by rw [e25, va_up_ne _ _ (by omega)]; exact hc0
  have hc1 : cs25 (t + 1) = .inl (gY G 13, 600, .inl (fun _ => 0)) := by rw [e25, va_up_ne _ _ (by omega)]; exact hc1
  have hc2 : cs25 (t + 2) = .inl (gY G 14, 4, .inl (fun _ => 0)) := by rw [e25, va_up_ne _ _ (by omega)]; exact hc2
  have hc3 : cs25 (t + 3) = refI G 19 (t + 3) 1 := by rw [e25, va_up_ne _ _ (by omega)]; exact hc3
  have hc4 : cs25 (t + 4) = refI G 20 (t + 4) 1 := by rw [e25, va_up_ne _ _ (by omega)]; exact hc4
  have hc5 : cs25 (t + 5) = refI G 18 (t + 5) 1 := by rw [e25, va_up_ne _ _ (by omega)]; exact hc5
  have hc6 : cs25 (t + 6) = refI G 16 (t + 6) 1 := by rw [e25]; exact va_up_self _ _ _
  have hr7 : ∀ n, (t + 7) ≤ n → n < (t + 21) → cs25 n = finY G n := fun n a b => by rw [e25, va_up_ne _ _ (by omega)]; exact hr7 n a b
  have hlo : ∀ n, n < t → cs25 n = cs n := fun n a => by rw [e25, va_up_ne _ _ (by omega)] <;> exact hlo n a
  clear e25
  refine ry_iinc 1 [(0, .ref (gA G t)), (1, .int 1)] [1, 0] dX9_init_116 rfl rfl (by decide) rfl ?_
  refine ry_goto 59 dX9_init_119 (by decide) ?_
  refine ry_iload_n 1 dX9_init_59 rfl rfl ?_
  refine ry_iconst (v := 2) dX9_init_60 rfl ?_
  refine ry_icmp_ge 122 dX9_init_61 (by decide) (fun q => absurd q (by decide)) (fun _ => ?_)
  refine ry_aload_n 0 dX9_init_64 rfl rfl ?_
  refine ry_get fl_X9_25 (by omega) hc0 rfl dX9_init_65 ?_
  refine ry_iload_n 1 dX9_init_68 rfl rfl ?_
  refine ry_new (ci := 7) (fs := [.int 0, .int 0, .null]) tyX7 tyX7_ok rfl i_X7 wc_X9_23 wi_7 wn_7 bl_7 (Nat.le_of_ble_eq_true rfl) (Nat.le_of_ble_eq_true rfl) dX9_init_69 ?_
  refine ry_cs (fun cs26 e26 => ?_)
  have hc0 : cs26 t = .inr (9, [.ref (gA G (t + 1)), .int 0, .int 0, .int (-1), .ref (gA G (t + 2)), .ref (gA G (t + 3)), .ref (gA G (t + 4)), .ref (gA G (t + 5)), .ref (gA G (t + 6))]) := by rw [e26, va_up_ne _ _ (by omega)]; exact hc0
  have hc1 : cs26 (t + 1) = .inl (gY G 13, 600, .inl (fun _ => 0)) := by rw [e26, va_up_ne _ _ (by omega)]; exact hc1
  have hc2 : cs26 (t + 2) = .inl (gY G 14, 4, .inl (fun _ => 0)) := by rw [e26, va_up_ne _ _ (by omega)]; exact hc2
  have hc3 : cs26 (t + 3) = refI G 19 (t + 3) 1 := by rw [e26, va_up_ne _ _ (by omega)]; exact hc3
  have hc4 : cs26 (t + 4) = refI G 20 (t + 4) 1 := by rw [e26, va_up_ne _ _ (by omega)]; exact hc4
  have hc5 : cs26 (t + 5) = refI G 18 (t + 5) 1 := by rw [e26, va_up_ne _ _ (by omega)]; exact hc5
  have hc6 : cs26 (t + 6) = refI G 16 (t + 6) 1 := by rw [e26, va_up_ne _ _ (by omega)]; exact hc6
  have hc21 : cs26 (t + 21) = .inr (7, [.int 0, .int 0, .null]) := by rw [e26]; exact va_up_self _ _ _
  have hr7 : ∀ n, (t + 7) ≤ n → n < (t + 21) → cs26 n = finY G n := fun n a b => by rw [e26, va_up_ne _ _ (by omega)]; exact hr7 n a b
  have hlo : ∀ n, n < t → cs26 n = cs n := fun n a => by rw [e26, va_up_ne _ _ (by omega)] <;> exact hlo n a
  clear e26
  refine ry_dup dX9_init_72 rfl ?_
  refine ry_callI (N2 := 0) (As := []) (n := (t + 21)) (mc := 1) (ms := 10) (Kc G (t + 21) 2 _) (fun _ _ h => by have := h.1; omega) mw_X7_init rfl win_X7_init wm_X9_47 rfl ⟨show d + 3 + 1 ≤ d + 4 by omega, show 30 * (d + 3) + 30 ≤ 30 * (d + 4) by omega, (Nat.le_of_ble_eq_true rfl), (Nat.le_of_ble_eq_true rfl)⟩ (Nat.le_of_ble_eq_true rfl) dX9_init_73 (kX7_init G d (isB_9_21 hk) hc21) (fun cs27 hK => ?_) rfl
  obtain ⟨-, hK1, hK2⟩ := hK
  have hc0 : cs27 t = .inr (9, [.ref (gA G (t + 1)), .int 0, .int 0, .int (-1), .ref (gA G (t + 2)), .ref (gA G (t + 3)), .ref (gA G (t + 4)), .ref (gA G (t + 5)), .ref (gA G (t + 6))]) := (hK1 _ (by omega)).trans hc0
  have hc1 : cs27 (t + 1) = .inl (gY G 13, 600, .inl (fun _ => 0)) := (hK1 _ (by omega)).trans hc1
  have hc2 : cs27 (t + 2) = .inl (gY G 14, 4, .inl (fun _ => 0)) := (hK1 _ (by omega)).trans hc2
  have hc3 : cs27 (t + 3) = refI G 19 (t + 3) 1 := (hK1 _ (by omega)).trans hc3
  have hc4 : cs27 (t + 4) = refI G 20 (t + 4) 1 := (hK1 _ (by omega)).trans hc4
  have hc5 : cs27 (t + 5) = refI G 18 (t + 5) 1 := (hK1 _ (by omega)).trans hc5
  have hc6 : cs27 (t + 6) = refI G 16 (t + 6) 1 := (hK1 _ (by omega)).trans hc6
  have hr7 : ∀ n, (t + 7) ≤ n → n < (t + 21) → cs27 n = finY G n := fun n a b => (hK1 n (by omega)).trans (hr7 n a b)
  have hlo : ∀ n, n < t → cs27 n = cs n := fun n a => (hK1 n (by omega)).trans (hlo n a)
  have hr7 : ∀ n, (t + 7) ≤ n → n < (t + 23) → cs27 n = finY G n := fun n a b => if h : n < (t + 21) then hr7 n a h else hK2 n (by omega) (by omega)
  clear hK1 hK2
  refine ry_aast (κ := 19) (κ' := 7) (t0 := 6) (L := 2) (n := (t + 3)) (v := (t + 21)) (i := 1) (by omega) (by omega) rfl rfl hc3 (ln_at_9_3 hk) ((hr7 (t + 21) (by omega) (by omega)).trans (fyE_7 (isE_9_3_1 hk))) (by decide) rfl (spE_9_3_1 hk) dX9_init_76 ?_
  refine ry_cs (fun cs28 e28 => ?_)
  have hc0 : cs28 t = .inr (9, [.ref (gA G (t + 1)), .int 0, .int 0, .int (-1), .ref (gA G (t + 2)), .ref (gA G (t + 3)), .ref (gA G (t + 4)), .ref (gA G (t + 5)), .ref (gA G (t + 6))]) := by rw [e28, va_up_ne _ _ (by omega)]; exact hc0
  have hc1 : cs28 (t + 1) = .inl (gY G 13, 600, .inl (fun _ => 0)) := by rw [e28, va_up_ne _ _ (by omega)]; exact hc1
  have hc2 : cs28 (t + 2) = .inl (gY G 14, 4, .inl (fun _ => 0)) := by rw [e28, va_up_ne _ _ (by omega)]; exact hc2
  have hc4 : cs28 (t + 4) = refI G 20 (t + 4) 1 := by rw [e28, va_up_ne _ _ (by omega)]; exact hc4
  have hc5 : cs28 (t + 5) = refI G 18 (t + 5) 1 := by rw [e28, va_up_ne _ _ (by omega)]; exact hc5
  have hc6 : cs28 (t + 6) = refI G 16 (t + 6) 1 := by rw [e28, va_up_ne _ _ (by omega)]; exact hc6
  have hc3 : cs28 (t + 3) = refI G 19 (t + 3) 2 := by rw [e28]; exact va_up_self _ _ _
  have hr7 : ∀ n, (t + 7) ≤ n → n < (t + 23) → cs28 n = finY G n := fun n a b => by rw [e28, va_up_ne _ _ (by omega)]; exact hr7 n a b
  have hlo : ∀ n, n < t → cs28 n = cs n := fun n a => by rw [e28, va_up_ne _ _ (by omega)] <;> exact hlo n a
  clear e28
  refine ry_aload_n 0 dX9_init_77 rfl rfl ?_
  refine ry_get fl_X9_31 (by omega) hc0 rfl dX9_init_78 ?_
  refine ry_iload_n 1 dX9_init_81 rfl rfl ?_
  refine ry_new (ci := 8) (fs := [.int 0, .null, .null, .null, .null]) tyX8 tyX8_ok rfl i_X8 wc_X9_29 wi_8 wn_8 bl_8 (Nat.le_of_ble_eq_true rfl) (Nat.le_of_ble_eq_true rfl) dX9_init_82 ?_
  refine ry_cs (fun cs29 e29 => ?_)
  have hc0 : cs29 t = .inr (9, [.ref (gA G (t + 1)), .int 0, .int 0, .int (-1), .ref (gA G (t + 2)), .ref (gA G (t + 3)), .ref (gA G (t + 4)), .ref (gA G (t + 5)), .ref (gA G (t + 6))]) := by rw [e29, va_up_ne _ _ (by omega)]; exact hc0
  have hc1 : cs29 (t + 1) = .inl (gY G 13, 600, .inl (fun _ => 0)) := by rw [e29, va_up_ne _ _ (by omega)]; exact hc1
  have hc2 : cs29 (t + 2) = .inl (gY G 14, 4, .inl (fun _ => 0)) := by rw [e29, va_up_ne _ _ (by omega)]; exact hc2
  have hc3 : cs29 (t + 3) = refI G 19 (t + 3) 2 := by rw [e29, va_up_ne _ _ (by omega)]; exact hc3
  have hc4 : cs29 (t + 4) = refI G 20 (t + 4) 1 := by rw [e29, va_up_ne _ _ (by omega)]; exact hc4
  have hc5 : cs29 (t + 5) = refI G 18 (t + 5) 1 := by rw [e29, va_up_ne _ _ (by omega)]; exact hc5
  have hc6 : cs29 (t + 6) = refI G 16 (t + 6) 1 := by rw [e29, va_up_ne _ _ (by omega)]; exact hc6
  have hc23 : cs29 (t + 23) = .inr (8, [.int 0, .null, .null, .null, .null]) := by rw [e29]; exact va_up_self _ _ _
  have hr7 : ∀ n, (t + 7) ≤ n → n < (t + 23) → cs29 n = finY G n := fun n a b => by rw [e29, va_up_ne _ _ (by omega)]; exact hr7 n a b
  have hlo : ∀ n, n < t → cs29 n = cs n := fun n a => by rw [e29, va_up_ne _ _ (by omega)] <;> exact hlo n a
  clear e29
  refine ry_dup dX9_init_85 rfl ?_
  refine ry_callIN (As := []) (n := (t + 23)) (mc := 4) (ms := 133) (Kc G (t + 23) 5 _) (fun _ _ h => by have := h.1; omega) mw_X8_init rfl win_X8_init wm_X9_48 rfl ⟨show (d + 2) + 1 + 1 ≤ d + 4 by omega, show 30 * ((d + 2) + 1) + 30 ≤ 30 * (d + 4) by omega, (Nat.le_of_ble_eq_true rfl), (Nat.le_of_ble_eq_true rfl)⟩ (Nat.le_of_ble_eq_true rfl) dX9_init_86 (kX8_init G (d + 2) (isB_9_23 hk) hc23) (fun cs30 hK => ?_) rfl
  obtain ⟨-, hK1, hK2⟩ := hK
  have hc0 : cs30 t = .inr (9, [.ref (gA G (t + 1)), .int 0, .int 0, .int (-1), .ref (gA G (t + 2)), .ref (gA G (t + 3)), .ref (gA G (t + 4)), .ref (gA G (t + 5)), .ref (gA G (t + 6))]) := (hK1 _ (by omega)).trans hc0
  have hc1 : cs30 (t + 1) = .inl (gY G 13, 600, .inl (fun _ => 0)) := (hK1 _ (by omega)).trans hc1
  have hc2 : cs30 (t + 2) = .inl (gY G 14, 4, .inl (fun _ => 0)) := (hK1 _ (by omega)).trans hc2
  have hc3 : cs30 (t + 3) = refI G 19 (t + 3) 2 := (hK1 _ (by omega)).trans hc3
  have hc4 : cs30 (t + 4) = refI G 20 (t + 4) 1 := (hK1 _ (by omega)).trans hc4
  have hc5 : cs30 (t + 5) = refI G 18 (t + 5) 1 := (hK1 _ (by omega)).trans hc5
  have hc6 : cs30 (t + 6) = refI G 16 (t + 6) 1 := (hK1 _ (by omega)).trans hc6
  have hr7 : ∀ n, (t + 7) ≤ n → n < (t + 23) → cs30 n = finY G n := fun n a b => (hK1 n (by omega)).trans (hr7 n a b)
  have hlo : ∀ n, n < t → cs30 n = cs n := fun n a => (hK1 n (by omega)).trans (hlo n a)
  have hr7 : ∀ n, (t + 7) ≤ n → n < (t + 28) → cs30 n = finY G n := fun n a b => if h : n < (t + 23) then hr7 n a h else hK2 n (by omega) (by omega)
  clear hK1 hK2
  refine ry_aast (κ := 20) (κ' := 8) (t0 := 7) (L := 2) (n := (t + 4)) (v := (t + 23)) (i := 1) (by omega) (by omega) rfl rfl hc4 (ln_at_9_4 hk) ((hr7 (t + 23) (by omega) (by omega)).trans (fyE_8 (isE_9_4_1 hk))) (by decide) rfl (spE_9_4_1 hk) dX9_init_89 ?_
  refine ry_cs (fun cs31 e31 => ?_)
  have hc0 : cs31 t = .inr (9, [.ref (gA G (t + 1)), .int 0, .int 0, .int (-1), .ref (gA G (t + 2)), .ref (gA G (t + 3)), .ref (gA G (t + 4)), .ref (gA G (t + 5)), .ref (gA G (t + 6))]) := by rw [e31, va_up_ne _ _ (by omega)]; exact hc0
  have hc1 : cs31 (t + 1) = .inl (gY G 13, 600, .inl (fun _ => 0)) := by rw [e31, va_up_ne _ _ (by omega)]; exact hc1
  have hc2 : cs31 (t + 2) = .inl (gY G 14, 4, .inl (fun _ => 0)) := by rw [e31, va_up_ne _ _ (by omega)]; exact hc2
  have hc3 : cs31 (t + 3) = refI G 19 (t + 3) 2 := by rw [e31, va_up_ne _ _ (by omega)]; exact hc3
  have hc5 : cs31 (t + 5) = refI G 18 (t + 5) 1 := by rw [e31, va_up_ne _ _ (by omega)]; exact hc5
  have hc6 : cs31 (t + 6) = refI G 16 (t + 6) 1 := by rw [e31, va_up_ne _ _ (by omega)]; exact hc6
  have hc4 : cs31 (t + 4) = refI G 20 (t + 4) 2 := by rw [e31]; exact va_up_self _ _ _
  have hr7 : ∀ n, (t + 7) ≤ n → n < (t + 28) → cs31 n = finY G n := fun n a b => by rw [e31, va_up_ne _ _ (by omega)]; exact hr7 n a b
  have hlo : ∀ n, n < t → cs31 n = cs n := fun n a => by rw [e31, va_up_ne _ _ (by omega)] <;> exact hlo n a
  clear e31
  refine ry_aload_n 0 dX9_init_90 rfl rfl ?_
  refine ry_get fl_X9_37 (by omega) hc0 rfl dX9_init_91 ?_
  refine ry_iload_n 1 dX9_init_94 rfl rfl ?_
  refine ry_new (ci := 4) (fs := [.int 0, .null, .null, .null]) tyX4 tyX4_ok rfl i_X4 wc_X9_35 wi_4 wn_4 bl_4 (Nat.le_of_ble_eq_true rfl) (Nat.le_of_ble_eq_true rfl) dX9_init_95 ?_
  refine ry_cs (fun cs32 e32 => ?_)
  have hc0 : cs32 t = .inr (9, [.ref (gA G (t + 1)), .int 0, .int 0, .int (-1), .ref (gA G (t + 2)), .ref (gA G (t + 3)), .ref (gA G (t + 4)), .ref (gA G (t + 5)), .ref (gA G (t + 6))]) := by rw [e32, va_up_ne _ _ (by omega)]; exact hc0
  have hc1 : cs32 (t + 1) = .inl (gY G 13, 600, .inl (fun _ => 0)) := by rw [e32, va_up_ne _ _ (by omega)]; exact hc1
  have hc2 : cs32 (t + 2) = .inl (gY G 14, 4, .inl (fun _ => 0)) := by rw [e32, va_up_ne _ _ (by omega)]; exact hc2
  have hc3 : cs32 (t + 3) = refI G 19 (t + 3) 2 := by rw [e32, va_up_ne _ _ (by omega)]; exact hc3
  have hc4 : cs32 (t + 4) = refI G 20 (t + 4) 2 := by rw [e32, va_up_ne _ _ (by omega)]; exact hc4
  have hc5 : cs32 (t + 5) = refI G 18 (t + 5) 1 := by rw [e32, va_up_ne _ _ (by omega)]; exact hc5
  have hc6 : cs32 (t + 6) = refI G 16 (t + 6) 1 := by rw [e32, va_up_ne _ _ (by omega)]; exact hc6
  have hc28 : cs32 (t + 28) = .inr (4, [.int 0, .null, .null, .null]) := by rw [e32]; exact va_up_self _ _ _
  have hr7 : ∀ n, (t + 7) ≤ n → n < (t + 28) → cs32 n = finY G n := fun n a b => by rw [e32, va_up_ne _ _ (by omega)]; exact hr7 n a b
  have hlo : ∀ n, n < t → cs32 n = cs n := fun n a => by rw [e32, va_up_ne _ _ (by omega)] <;> exact hlo n a
  clear e32
  refine ry_dup dX9_init_98 rfl ?_
  refine ry_callIN (As := []) (n := (t + 28)) (mc := 3) (ms := 120) (Kc G (t + 28) 4 _) (fun _ _ h => by have := h.1; omega) mw_X4_init rfl win_X4_init wm_X9_49 rfl ⟨show (d + 2) + 1 + 1 ≤ d + 4 by omega, show 30 * ((d + 2) + 1) + 30 ≤ 30 * (d + 4) by omega, (Nat.le_of_ble_eq_true rfl), (Nat.le_of_ble_eq_true rfl)⟩ (Nat.le_of_ble_eq_true rfl) dX9_init_99 (kX4_init G (d + 2) (isB_9_28 hk) hc28) (fun cs33 hK => ?_) rfl
  obtain ⟨-, hK1, hK2⟩ := hK
  have hc0 : cs33 t = .inr (9, [.ref (gA G (t + 1)), .int 0, .int 0, .int (-1), .ref (gA G (t + 2)), .ref (gA G (t + 3)), .ref (gA G (t + 4)), .ref (gA G (t + 5)), .ref (gA G (t + 6))]) := (hK1 _ (by omega)).trans hc0
  have hc1 : cs33 (t + 1) = .inl (gY G 13, 600, .inl (fun _ => 0)) := (hK1 _ (by omega)).trans hc1
  have hc2 : cs33 (t + 2) = .inl (gY G 14, 4, .inl (fun _ => 0)) := (hK1 _ (by omega)).trans hc2
  have hc3 : cs33 (t + 3) = refI G 19 (t + 3) 2 := (hK1 _ (by omega)).trans hc3
  have hc4 : cs33 (t + 4) = refI G 20 (t + 4) 2 := (hK1 _ (by omega)).trans hc4
  have hc5 : cs33 (t + 5) = refI G 18 (t + 5) 1 := (hK1 _ (by omega)).trans hc5
  have hc6 : cs33 (t + 6) = refI G 16 (t + 6) 1 := (hK1 _ (by omega)).trans hc6
  have hr7 : ∀ n, (t + 7) ≤ n → n < (t + 28) → cs33 n = finY G n := fun n a b => (hK1 n (by omega)).trans (hr7 n a b)
  have hlo : ∀ n, n < t → cs33 n = cs n := fun n a => (hK1 n (by omega)).trans (hlo n a)
  have hr7 : ∀ n, (t + 7) ≤ n → n < (t + 32) → cs33 n = finY G n := fun n a b => if h : n < (t + 28) then hr7 n a h else hK2 n (by omega) (by omega)
  clear hK1 hK2
  refine ry_aast (κ := 18) (κ' := 4) (t0 := 5) (L := 2) (n := (t + 5)) (v := (t + 28)) (i := 1) (by omega) (by omega) rfl rfl hc5 (ln_at_9_5 hk) ((hr7 (t + 28) (by omega) (by omega)).trans (fyE_4 (isE_9_5_1 hk))) (by decide) rfl (spE_9_5_1 hk) dX9_init_102 ?_
  refine ry_cs (fun cs34 e34 => ?_)
  have hc0 : cs34 t = .inr (9, [.ref (gA G (t + 1)), .int 0, .int 0, .int (-1), .ref (gA G (t + 2)), .ref (gA G (t + 3)), .ref (gA G (t + 4)), .ref (gA G (t + 5)), .ref (gA G (t + 6))]) := by rw [e34, va_up_ne _ _ (by omega)]; exact hc0
  have hc1 : cs34 (t + 1) = .inl (gY G 13, 600, .inl (fun _ => 0)) := by rw [e34, va_up_ne _ _ (by omega)]; exact hc1
  have hc2 : cs34 (t + 2) = .inl (gY G 14, 4, .inl (fun _ => 0)) := by rw [e34, va_up_ne _ _ (by omega)]; exact hc2
  have hc3 : cs34 (t + 3) = refI G 19 (t + 3) 2 := by rw [e34, va_up_ne _ _ (by omega)]; exact hc3
  have hc4 : cs34 (t + 4) = refI G 20 (t + 4) 2 := by rw [e34, va_up_ne _ _ (by omega)]; exact hc4
  have hc6 : cs34 (t + 6) = refI G 16 (t + 6) 1 := by rw [e34, va_up_ne _ _ (by omega)]; exact hc6
  have hc5 : cs34 (t + 5) = refI G 18 (t + 5) 2 := by rw [e34]; exact va_up_self _ _ _
  have hr7 : ∀ n, (t + 7) ≤ n → n < (t + 32) → cs34 n = finY G n := fun n a b => by rw [e34, va_up_ne _ _ (by omega)]; exact hr7 n a b
  have hlo : ∀ n, n < t → cs34 n = cs n := fun n a => by rw [e34, va_up_ne _ _ (by omega)] <;> exact hlo n a
  clear e34
  refine ry_aload_n 0 dX9_init_103 rfl rfl ?_
  refine ry_get fl_X9_43 (by omega) hc0 rfl dX9_init_104 ?_
  refine ry_iload_n 1 dX9_init_107 rfl rfl ?_
  refine ry_new (ci := 1) (fs := [.int 0, .null, .null]) tyX1 tyX1_ok rfl i_X1 wc_X9_41 wi_1 wn_1 bl_1 (Nat.le_of_ble_eq_true rfl) (Nat.le_of_ble_eq_true rfl) dX9_init_108 ?_
  refine ry_cs (fun cs35 e35 => ?_)
  have hc0 : cs35 t = .inr (9, [.ref (gA G (t + 1)), .int 0, .int 0, .int (-1), .ref (gA G (t + 2)), .ref (gA G (t + 3)), .ref (gA G (t + 4)), .ref (gA G (t + 5)), .ref (gA G (t + 6))]) := by rw [e35, va_up_ne _ _ (by omega)]; exact hc0
  have hc1 : cs35 (t + 1) = .inl (gY G 13, 600, .inl (fun _ => 0)) := by rw [e35, va_up_ne _ _ (by omega)]; exact hc1
  have hc2 : cs35 (t + 2) = .inl (gY G 14, 4, .inl (fun _ => 0)) := by rw [e35, va_up_ne _ _ (by omega)]; exact hc2
  have hc3 : cs35 (t + 3) = refI G 19 (t + 3) 2 := by rw [e35, va_up_ne _ _ (by omega)]; exact hc3
  have hc4 : cs35 (t + 4) = refI G 20 (t + 4) 2 := by rw [e35, va_up_ne _ _ (by omega)]; exact hc4
  have hc5 : cs35 (t + 5) = refI G 18 (t + 5) 2 := by rw [e35, va_up_ne _ _ (by omega)]; exact hc5
  have hc6 : cs35 (t + 6) = refI G 16 (t + 6) 1 := by rw [e35, va_up_ne _ _ (by omega)]; exact hc6
  have hc32 : cs35 (t + 32) = .inr (1, [.int 0, .null, .null]) := by rw [e35]; exact va_up_self _ _ _
  have hr7 : ∀ n, (t + 7) ≤ n → n < (t + 32) → cs35 n = finY G n := fun n a b => by rw [e35, va_up_ne _ _ (by omega)]; exact hr7 n a b
  have hlo : ∀ n, n < t → cs35 n = cs n := fun n a => by rw [e35, va_up_ne _ _ (by omega)] <;> exact hlo n a
  clear e35
  refine ry_dup dX9_init_111 rfl ?_
  refine ry_callIN (As := []) (n := (t + 32)) (mc := 2) (ms := 16) (Kc G (t + 32) 3 _) (fun _ _ h => by have := h.1; omega) mw_X1_init rfl win_X1_init wm_X9_50 rfl ⟨show (d + 2) + 1 + 1 ≤ d + 4 by omega, show 30 * ((d + 2) + 1) + 30 ≤ 30 * (d + 4) by omega, (Nat.le_of_ble_eq_true rfl), (Nat.le_of_ble_eq_true rfl)⟩ (Nat.le_of_ble_eq_true rfl) dX9_init_112 (kX1_init G (d + 2) (isB_9_32 hk) hc32) (fun cs36 hK => ?_) rfl
  obtain ⟨-, hK1, hK2⟩ := hK
  have hc0 : cs36 t = .inr (9, [.ref (gA G (t + 1)), .int 0, .int 0, .int (-1), .ref (gA G (t + 2)), .ref (gA G (t + 3)), .ref (gA G (t + 4)), .ref (gA G (t + 5)), .ref (gA G (t + 6))]) := (hK1 _ (by omega)).trans hc0
  have hc1 : cs36 (t + 1) = .inl (gY G 13, 600, .inl (fun _ => 0)) := (hK1 _ (by omega)).trans hc1
  have hc2 : cs36 (t + 2) = .inl (gY G 14, 4, .inl (fun _ => 0)) := (hK1 _ (by omega)).trans hc2
  have hc3 : cs36 (t + 3) = refI G 19 (t + 3) 2 := (hK1 _ (by omega)).trans hc3
  have hc4 : cs36 (t + 4) = refI G 20 (t + 4) 2 := (hK1 _ (by omega)).trans hc4
  have hc5 : cs36 (t + 5) = refI G 18 (t + 5) 2 := (hK1 _ (by omega)).trans hc5
  have hc6 : cs36 (t + 6) = refI G 16 (t + 6) 1 := (hK1 _ (by omega)).trans hc6
  have hr7 : ∀ n, (t + 7) ≤ n → n < (t + 32) → cs36 n = finY G n := fun n a b => (hK1 n (by omega)).trans (hr7 n a b)
  have hlo : ∀ n, n < t → cs36 n = cs n := fun n a => (hK1 n (by omega)).trans (hlo n a)
  have hr7 : ∀ n, (t + 7) ≤ n → n < (t + 35) → cs36 n = finY G n := fun n a b => if h : n < (t + 32) then hr7 n a h else hK2 n (by omega) (by omega)
  clear hK1 hK2
  refine ry_aast (κ := 16) (κ' := 1) (t0 := 3) (L := 2) (n := (t + 6)) (v := (t + 32)) (i := 1) (by omega) (by omega) rfl rfl hc6 (ln_at_9_6 hk) ((hr7 (t + 32) (by omega) (by omega)).trans (fyE_1 (isE_9_6_1 hk))) (by decide) rfl (spE_9_6_1 hk) dX9_init_115 ?_
  refine ry_cs (fun cs37 e37 => ?_)
  have hc0 : cs37 t = .inr (9, [.ref (gA G (t + 1)), .int 0, .int 0, .int (-1), .ref (gA G (t + 2)), .ref (gA G (t + 3)), .ref (gA G (t + 4)), .ref (gA G (t + 5)), .ref (gA G (t + 6))]) := by rw [e37, va_up_ne _ _ (by omega)]; exact hc0
  have hc1 : cs37 (t + 1) = .inl (gY G 13, 600, .inl (fun _ => 0)) := by rw [e37, va_up_ne _ _ (by omega)]; exact hc1
  have hc2 : cs37 (t + 2) = .inl (gY G 14, 4, .inl (fun _ => 0)) := by rw [e37, va_up_ne _ _ (by omega)]; exact hc2
  have hc3 : cs37 (t + 3) = refI G 19 (t + 3) 2 := by rw [e37, va_up_ne _ _ (by omega)]; exact hc3
  have hc4 : cs37 (t + 4) = refI G 20 (t + 4) 2 := by rw [e37, va_up_ne _ _ (by omega)]; exact hc4
  have hc5 : cs37 (t + 5) = refI G 18 (t + 5) 2 := by rw [e37, va_up_ne _ _ (by omega)]; exact hc5
  have hc6 : cs37 (t + 6) = refI G 16 (t + 6) 2 := by rw [e37]; exact va_up_self _ _ _
  have hr7 : ∀ n, (t + 7) ≤ n → n < (t + 35) → cs37 n = finY G n := fun n a b => by rw [e37, va_up_ne _ _ (by omega)]; exact hr7 n a b
  have hlo : ∀ n, n < t → cs37 n = cs n := fun n a => by rw [e37, va_up_ne _ _ (by omega)] <;> exact hlo n a
  clear e37
  refine ry_iinc 1 [(0, .ref (gA G t)), (1, .int 2)] [1, 0] dX9_init_116 rfl rfl (by decide) rfl ?_
  refine ry_goto 59 dX9_init_119 (by decide) ?_
  refine ry_iload_n 1 dX9_init_59 rfl rfl ?_
  refine ry_iconst (v := 2) dX9_init_60 rfl ?_
  refine ry_icmp_ge 122 dX9_init_61 (by decide) (fun _ => ?_) (fun q => absurd (by decide) q)
  refine ry_ret dX9_init_122 ⟨by omega, hlo, fun n a b => ?_⟩
  rcases (show n = t ∨ n = (t + 1) ∨ n = (t + 2) ∨ n = (t + 3) ∨ n = (t + 4) ∨ n = (t + 5) ∨ n = (t + 6) ∨ ((t + 7) ≤ n ∧ n < (t + 35)) by omega) with rfl | rfl | rfl | rfl | rfl | rfl | rfl | q
  · rw [hc0]; exact (fyj_9_0 hk).symm
  · rw [hc1]; exact (fyj_9_1 hk).symm
  · rw [hc2]; exact (fyj_9_2 hk).symm
  · rw [hc3]; exact (fyj_9_3 hk).symm
  · rw [hc4]; exact (fyj_9_4 hk).symm
  · rw [hc5]; exact (fyj_9_5 hk).symm
  · rw [hc6]; exact (fyj_9_6 hk).symm
  · exact hr7 n q.1 q.2
