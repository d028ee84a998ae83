/-! ===== a constructor ===== -/
set_option maxRecDepth 20000 in
set_option maxHeartbeats 40000000 in
theorem kX11_init (G : GT) (d : Nat) {cs : Nat → va_E} (hc0 : cs 0 = .inr (11, [.null, .null, .null, .null, .null, .null, .null, .null, .null, .null, .int 0])) : SpecY G yX11_init cX11_init 2 (d + 5) 268 6359 [.ref (gA G 0)] 1 cs (Kc G 0 269 cs) := by
  refine ry_spec (by decide) (Nat.le_of_ble_eq_true rfl) ?_
  have hlo : ∀ n, n < 0 → cs n = cs n := fun _ _ => rfl
  show RunY G RX11 "<init>" cX11_init 2 none _ 0 0 0 [(0, .ref (gA G 0))] [] 1 cs
  refine ry_aload_n 0 dX11_init_0 rfl rfl ?_
  refine ry_objInit wm_X11_1 w_oi w_oc (show 1 ≤ d + 5 by omega) (show 30 ≤ 30 * (d + 5) by omega) rfl dX11_init_1 ?_
  refine ry_aload_n 0 dX11_init_4 rfl rfl ?_
  refine ry_new (ci := 9) (fs := [.null, .int 0, .int 0, .int 0, .null, .null, .null, .null, .null]) tyX9 tyX9_ok rfl i_X9 wc_X11_7 wi_9 wn_9 bl_9 (Nat.le_of_ble_eq_true rfl) (Nat.le_of_ble_eq_true rfl) dX11_init_5 ?_
  refine ry_cs (fun cs1 e1 => ?_)
  replace hc0 : cs1 0 = .inr (11, [.null, .null, .null, .null, .null, .null, .null, .null, .null, .null, .int 0]) := by rw [e1, va_up_ne _ _ (by omega)]; exact hc0
  have hc1 : cs1 1 = .inr (9, [.null, .int 0, .int 0, .int 0, .null, .null, .null, .null, .null]) := by rw [e1]; exact va_up_self _ _ _
  replace hlo : ∀ n, n < 0 → cs1 n = cs n := fun n a => by rw [e1, va_up_ne _ _ (by omega)] <;> exact hlo n a
  clear e1
  refine ry_dup dX11_init_8 rfl ?_
  refine ry_callI (N2 := 0) (As := []) (n := 1) (mc := 34) (ms := 1200) (Kc G 1 35 _) (fun _ _ h => by have := h.1; omega) mw_X9_init rfl win_X9_init wm_X11_9 rfl ⟨show d + 4 + 1 ≤ d + 5 by omega, show 30 * (d + 4) + 30 ≤ 30 * (d + 5) by omega, (Nat.le_of_ble_eq_true rfl), (Nat.le_of_ble_eq_true rfl)⟩ (Nat.le_of_ble_eq_true rfl) dX11_init_9 (kX9_init G d (show Is 1 9 by unfold Is; decide +kernel) hc1) (fun cs2 hK => ?_) rfl
  obtain ⟨-, hK1, hK2⟩ := hK
  clear hc1
  replace hc0 : cs2 0 = .inr (11, [.null, .null, .null, .null, .null, .null, .null, .null, .null, .null, .int 0]) := (hK1 _ (by omega)).trans hc0
  replace hlo : ∀ n, n < 0 → cs2 n = cs n := fun n a => (hK1 n (by omega)).trans (hlo n a)
  have hr1 : ∀ n, 1 ≤ n → n < 36 → cs2 n = finY G n := fun n a b => hK2 n (by omega) (by omega)
  clear hK1 hK2
  refine ry_putF ff_X11_10 rfl (by omega) hc0 rfl rfl (nlt rfl) dX11_init_12 ?_
  refine ry_cs (fun cs3 e3 => ?_)
  replace hc0 : cs3 0 = .inr (11, [.ref (gA G 1), .null, .null, .null, .null, .null, .null, .null, .null, .null, .int 0]) := by rw [e3]; exact va_up_self _ _ _
  replace hr1 : ∀ n, 1 ≤ n → n < 36 → cs3 n = finY G n := fun n a b => by rw [e3, va_up_ne _ _ (by omega)]; exact hr1 n a b
  replace hlo : ∀ n, n < 0 → cs3 n = cs n := fun n a => by rw [e3, va_up_ne _ _ (by omega)] <;> exact hlo n a
  clear e3
  refine ry_aload_n 0 dX11_init_15 rfl rfl ?_
  refine ry_iconst (v := 3) dX11_init_16 rfl ?_
  refine ry_newq (κ := 21) (n := 3) (t0 := 8) wc_X11_7 wo_9 rfl (by decide) rfl (ln_at_11_36) (by decide) (Nat.le_of_ble_eq_true rfl) (Nat.le_of_ble_eq_true rfl) dX11_init_17 ?_
  refine ry_cs (fun cs4 e4 => ?_)
  replace hc0 : cs4 0 = .inr (11, [.ref (gA G 1), .null, .null, .null, .null, .null, .null, .null, .null, .null, .int 0]) := by rw [e4, va_up_ne _ _ (by omega)]; exact hc0
  have hc36 : cs4 36 = refI G 21 36 0 := by rw [e4]; exact va_up_self _ _ _
  replace hr1 : ∀ n, 1 ≤ n → n < 36 → cs4 n = finY G n := fun n a b => by rw [e4, va_up_ne _ _ (by omega)]; exact hr1 n a b
  replace hlo : ∀ n, n < 0 → cs4 n = cs n := fun n a => by rw [e4, va_up_ne _ _ (by omega)] <;> exact hlo n a
  clear e4
  refine ry_putF ff_X11_16 rfl (by omega) hc0 rfl rfl (nlt rfl) dX11_init_20 ?_
  refine ry_cs (fun cs5 e5 => ?_)
  replace hc36 : cs5 36 = refI G 21 36 0 := by rw [e5, va_up_ne _ _ (by omega)]; exact hc36
  replace hc0 : cs5 0 = .inr (11, [.ref (gA G 1), .ref (gA G 36), .null, .null, .null, .null, .null, .null, .null, .null, .int 0]) := by rw [e5]; exact va_up_self _ _ _
  replace hr1 : ∀ n, 1 ≤ n → n < 36 → cs5 n = finY G n := fun n a b => by rw [e5, va_up_ne _ _ (by omega)]; exact hr1 n a b
  replace hlo : ∀ n, n < 0 → cs5 n = cs n := fun n a => by rw [e5, va_up_ne _ _ (by omega)] <;> exact hlo n a
  clear e5
  refine ry_iconst (v := 0) dX11_init_23 rfl ?_
  refine ry_istore_n [(0, .ref (gA G 0)), (1, .int 0)] [1, 0] dX11_init_24 rfl (by decide) rfl ?_
  refine ry_iload_n 1 dX11_init_25 rfl rfl ?_
  refine ry_iconst (v := 3) dX11_init_26 rfl ?_
  refine ry_icmp_ge 49 dX11_init_27 (by decide) (fun q => absurd q (by decide)) (fun _ => ?_)
  refine ry_aload_n 0 dX11_init_30 rfl rfl ?_
  refine ry_get fl_X11_16 (by omega) hc0 rfl dX11_init_31 ?_
  refine ry_iload_n 1 dX11_init_34 rfl rfl ?_
  refine ry_new (ci := 9) (fs := [.null, .int 0, .int 0, .int 0, .null, .null, .null, .null, .null]) tyX9 tyX9_ok rfl i_X9 wc_X11_7 wi_9 wn_9 bl_9 (Nat.le_of_ble_eq_true rfl) (Nat.le_of_ble_eq_true rfl) dX11_init_35 ?_
  refine ry_cs (fun cs6 e6 => ?_)
  replace hc0 : cs6 0 = .inr (11, [.ref (gA G 1), .ref (gA G 36), .null, .null, .null, .null, .null, .null, .null, .null, .int 0]) := by rw [e6, va_up_ne _ _ (by omega)]; exact hc0
  replace hc36 : cs6 36 = refI G 21 36 0 := by rw [e6, va_up_ne _ _ (by omega)]; exact hc36
  have hc37 : cs6 37 = .inr (9, [.null, .int 0, .int 0, .int 0, .null, .null, .null, .null, .null]) := by rw [e6]; exact va_up_self _ _ _
  replace hr1 : ∀ n, 1 ≤ n → n < 36 → cs6 n = finY G n := fun n a b => by rw [e6, va_up_ne _ _ (by omega)]; exact hr1 n a b
  replace hlo : ∀ n, n < 0 → cs6 n = cs n := fun n a => by rw [e6, va_up_ne _ _ (by omega)] <;> exact hlo n a
  clear e6
  refine ry_dup dX11_init_38 rfl ?_
  refine ry_callI (N2 := 0) (As := []) (n := 37) (mc := 34) (ms := 1200) (Kc G 37 35 _) (fun _ _ h => by have := h.1; omega) mw_X9_init rfl win_X9_init wm_X11_9 rfl ⟨show d + 4 + 1 ≤ d + 5 by omega, show 30 * (d + 4) + 30 ≤ 30 * (d + 5) by omega, (Nat.le_of_ble_eq_true rfl), (Nat.le_of_ble_eq_true rfl)⟩ (Nat.le_of_ble_eq_true rfl) dX11_init_39 (kX9_init G d (show Is 37 9 by unfold Is; decide +kernel) hc37) (fun cs7 hK => ?_) rfl
  obtain ⟨-, hK1, hK2⟩ := hK
  clear hc37
  replace hc0 : cs7 0 = .inr (11, [.ref (gA G 1), .ref (gA G 36), .null, .null, .null, .null, .null, .null, .null, .null, .int 0]) := (hK1 _ (by omega)).trans hc0
  replace hc36 : cs7 36 = refI G 21 36 0 := (hK1 _ (by omega)).trans hc36
  replace hr1 : ∀ n, 1 ≤ n → n < 36 → cs7 n = finY G n := fun n a b => (hK1 n (by omega)).trans (hr1 n a b)
  replace hlo : ∀ n, n < 0 → cs7 n = cs n := fun n a => (hK1 n (by omega)).trans (hlo n a)
  have hr37 : ∀ n, 37 ≤ n → n < 72 → cs7 n = finY G n := fun n a b => hK2 n (by omega) (by omega)
  clear hK1 hK2
  refine ry_aast (κ := 21) (κ' := 9) (t0 := 8) (L := 3) (n := 36) (v := 37) (i := 0) (by omega) (by omega) rfl rfl hc36 (ln_at_11_36) ((hr37 37 (by omega) (by omega)).trans (fyE_9 (show Is 37 9 by unfold Is; decide +kernel))) (by decide) rfl (by decide +kernel) dX11_init_42 ?_
  refine ry_cs (fun cs8 e8 => ?_)
  replace hc0 : cs8 0 = .inr (11, [.ref (gA G 1), .ref (gA G 36), .null, .null, .null, .null, .null, .null, .null, .null, .int 0]) := by rw [e8, va_up_ne _ _ (by omega)]; exact hc0
  replace hc36 : cs8 36 = refI G 21 36 1 := by rw [e8]; exact va_up_self _ _ _
  replace hr1 : ∀ n, 1 ≤ n → n < 36 → cs8 n = finY G n := fun n a b => by rw [e8, va_up_ne _ _ (by omega)]; exact hr1 n a b
  replace hr37 : ∀ n, 37 ≤ n → n < 72 → cs8 n = finY G n := fun n a b => by rw [e8, va_up_ne _ _ (by omega)]; exact hr37 n a b
  replace hlo : ∀ n, n < 0 → cs8 n = cs n := fun n a => by rw [e8, va_up_ne _ _ (by omega)] <;> exact hlo n a
  clear e8
  refine ry_iinc 1 [(0, .ref (gA G 0)), (1, .int 1)] [1, 0] dX11_init_43 rfl rfl (by decide) rfl ?_
  refine ry_goto 25 dX11_init_46 (by decide) ?_
  refine ry_iload_n 1 dX11_init_25 rfl rfl ?_
  refine ry_iconst (v := 3) dX11_init_26 rfl ?_
  refine ry_icmp_ge 49 dX11_init_27 (by decide) (fun q => absurd q (by decide)) (fun _ => ?_)
  refine ry_aload_n 0 dX11_init_30 rfl rfl ?_
  refine ry_get fl_X11_16 (by omega) hc0 rfl dX11_init_31 ?_
  refine ry_iload_n 1 dX11_init_34 rfl rfl ?_
  refine ry_new (ci := 9) (fs := [.null, .int 0, .int 0, .int 0, .null, .null, .null, .null, .null]) tyX9 tyX9_ok rfl i_X9 wc_X11_7 wi_9 wn_9 bl_9 (Nat.le_of_ble_eq_true rfl) (Nat.le_of_ble_eq_true rfl) dX11_init_35 ?_
  refine ry_cs (fun cs9 e9 => ?_)
  replace hc0 : cs9 0 = .inr (11, [.ref (gA G 1), .ref (gA G 36), .null, .null, .null, .null, .null, .null, .null, .null, .int 0]) := by rw [e9, va_up_ne _ _ (by omega)]; exact hc0
  replace hc36 : cs9 36 = refI G 21 36 1 := by rw [e9, va_up_ne _ _ (by omega)]; exact hc36
  have hc72 : cs9 72 = .inr (9, [.null, .int 0, .int 0, .int 0, .null, .null, .null, .null, .null]) := by rw [e9]; exact va_up_self _ _ _
  replace hr1 : ∀ n, 1 ≤ n → n < 36 → cs9 n = finY G n := fun n a b => by rw [e9, va_up_ne _ _ (by omega)]; exact hr1 n a b
  replace hr37 : ∀ n, 37 ≤ n → n < 72 → cs9 n = finY G n := fun n a b => by rw [e9, va_up_ne _ _ (by omega)]; exact hr37 n a b
  replace hlo : ∀ n, n < 0 → cs9 n = cs n := fun n a => by rw [e9, va_up_ne _ _ (by omega)] <;> exact hlo n a
  clear e9
  refine ry_dup dX11_init_38 rfl ?_
  refine ry_callI (N2 := 0) (As := []) (n := 72) (mc := 34) (ms := 1200) (Kc G 72 35 _) (fun _ _ h => by have := h.1; omega) mw_X9_init rfl win_X9_init wm_X11_9 rfl ⟨show d + 4 + 1 ≤ d + 5 by omega, show 30 * (d + 4) + 30 ≤ 30 * (d + 5) by omega, (Nat.le_of_ble_eq_true rfl), (Nat.le_of_ble_eq_true rfl)⟩ (Nat.le_of_ble_eq_true rfl) dX11_init_39 (kX9_init G d (show Is 72 9 by unfold Is; decide +kernel) hc72) (fun cs10 hK => ?_) rfl
  obtain ⟨-, hK1, hK2⟩ := hK
  clear hc72
  replace hc0 : cs10 0 = .inr (11, [.ref (gA G 1), .ref (gA G 36), .null, .null, .null, .null, .null, .null, .null, .null, .int 0]) := (hK1 _ (by omega)).trans hc0
  replace hc36 : cs10 36 = refI G 21 36 1 := (hK1 _ (by omega)).trans hc36
  replace hr1 : ∀ n, 1 ≤ n → n < 36 → cs10 n = finY G n := fun n a b => (hK1 n (by omega)).trans (hr1 n a b)
  replace hr37 : ∀ n, 37 ≤ n → n < 72 → cs10 n = finY G n := fun n a b => (hK1 n (by omega)).trans (hr37 n a b)
  replace hlo : ∀ n, n < 0 → cs10 n = cs n := fun n a => (hK1 n (by omega)).trans (hlo n a)
  replace hr37 : ∀ n, 37 ≤ n → n < 107 → cs10 n = finY G n := fun n a b => if h : n < 72 then hr37 n a h else hK2 n (by omega) (by omega)
  clear hK1 hK2
  refine ry_aast (κ := 21) (κ' := 9) (t0 := 8) (L := 3) (n := 36) (v := 72) (i := 1) (by omega) (by omega) rfl rfl hc36 (ln_at_11_36) ((hr37 72 (by omega) (by omega)).trans (fyE_9 (show Is 72 9 by unfold Is; decide +kernel))) (by decide) rfl (by decide +kernel) dX11_init_42 ?_
  refine ry_cs (fun cs11 e11 => ?_)
  replace hc0 : cs11 0 = .inr (11, [.ref (gA G 1), .ref (gA G 36), .null, .null, .null, .null, .null, .null, .null, .null, .int 0]) := by rw [e11, va_up_ne _ _ (by omega)]; exact hc0
  replace hc36 : cs11 36 = refI G 21 36 2 := by rw [e11]; exact va_up_self _ _ _
  replace hr1 : ∀ n, 1 ≤ n → n < 36 → cs11 n = finY G n := fun n a b => by rw [e11, va_up_ne _ _ (by omega)]; exact hr1 n a b
  replace hr37 : ∀ n, 37 ≤ n → n < 107 → cs11 n = finY G n := fun n a b => by rw [e11, va_up_ne _ _ (by omega)]; exact hr37 n a b
  replace hlo : ∀ n, n < 0 → cs11 n = cs n := fun n a => by rw [e11, va_up_ne _ _ (by omega)] <;> exact hlo n a
  clear e11
  refine ry_iinc 1 [(0, .ref (gA G 0)), (1, .int 2)] [1, 0] dX11_init_43 rfl rfl (by decide) rfl ?_
  refine ry_goto 25 dX11_init_46 (by decide) ?_
  refine ry_iload_n 1 dX11_init_25 rfl rfl ?_
  refine ry_iconst (v := 3) dX11_init_26 rfl ?_
  refine ry_icmp_ge 49 dX11_init_27 (by decide) (fun q => absurd q (by decide)) (fun _ => ?_)
  refine ry_aload_n 0 dX11_init_30 rfl rfl ?_
  refine ry_get fl_X11_16 (by omega) hc0 rfl dX11_init_31 ?_
  refine ry_iload_n 1 dX11_init_34 rfl rfl ?_
  refine ry_new (ci := 9) (fs := [.null, .int 0, .int 0, .int 0, .null, .null, .null, .null, .null]) tyX9 tyX9_ok rfl i_X9 wc_X11_7 wi_9 wn_9 bl_9 (Nat.le_of_ble_eq_true rfl) (Nat.le_of_ble_eq_true rfl) dX11_init_35 ?_
  refine ry_cs (fun cs12 e12 => ?_)
  replace hc0 : cs12 0 = .inr (11, [.ref (gA G 1), .ref (gA G 36), .null, .null, .null, .null, .null, .null, .null, .null, .int 0]) := by rw [e12, va_up_ne _ _ (by omega)]; exact hc0
  replace hc36 : cs12 36 = refI G 21 36 2 := by rw [e12, va_up_ne _ _ (by omega)]; exact hc36
  have hc107 : cs12 107 = .inr (9, [.null, .int 0, .int 0, .int 0, .null, .null, .null, .null, .null]) := by rw [e12]; exact va_up_self _ _ _
  replace hr1 : ∀ n, 1 ≤ n → n < 36 → cs12 n = finY G n := fun n a b => by rw [e12, va_up_ne _ _ (by omega)]; exact hr1 n a b
  replace hr37 : ∀ n, 37 ≤ n → n < 107 → cs12 n = finY G n := fun n a b => by rw [e12, va_up_ne _ _ (by omega)]; exact hr37 n a b
  replace hlo : ∀ n, n < 0 → cs12 n = cs n := fun n a => by rw [e12, va_up_ne _ _ (by omega)] <;> exact hlo n a
  clear e12
  refine ry_dup dX11_init_38 rfl ?_
  refine ry_callI (N2 := 0) (As := []) (n := 107) (mc := 34) (ms := 1200) (Kc G 107 35 _) (fun _ _ h => by have := h.1; omega) mw_X9_init rfl win_X9_init wm_X11_9 rfl ⟨show d + 4 + 1 ≤ d + 5 by omega, show 30 * (d + 4) + 30 ≤ 30 * (d + 5) by omega, (Nat.le_of_ble_eq_true rfl), (Nat.le_of_ble_eq_true rfl)⟩ (Nat.le_of_ble_eq_true rfl) dX11_init_39 (kX9_init G d (show Is 107 9 by unfold Is; decide +kernel) hc107) (fun cs13 hK => ?_) rfl
  obtain ⟨-, hK1, hK2⟩ := hK
  clear hc107
  replace hc0 : cs13 0 = .inr (11, [.ref (gA G 1), .ref (gA G 36), .null, .null, .null, .null, .null, .null, .null, .null, .int 0]) := (hK1 _ (by omega)).trans hc0
  replace hc36 : cs13 36 = refI G 21 36 2 := (hK1 _ (by omega)).trans hc36
  replace hr1 : ∀ n, 1 ≤ n → n < 36 → cs13 n = finY G n := fun n a b => (hK1 n (by omega)).trans (hr1 n a b)
  replace hr37 : ∀ n, 37 ≤ n → n < 107 → cs13 n = finY G n := fun n a b => (hK1 n (by omega)).trans (hr37 n a b)
  replace hlo : ∀ n, n < 0 → cs13 n = cs n := fun n a => (hK1 n (by omega)).trans (hlo n a)
  replace hr37 : ∀ n, 37 ≤ n → n < 142 → cs13 n = finY G n := fun n a b => if h : n < 107 then hr37 n a h else hK2 n (by omega) (by omega)
  clear hK1 hK2
  refine ry_aast (κ := 21) (κ' := 9) (t0 := 8) (L := 3) (n := 36) (v := 107) (i := 2) (by omega) (by omega) rfl rfl hc36 (ln_at_11_36) ((hr37 107 (by omega) (by omega)).trans (fyE_9 (show Is 107 9 by unfold Is; decide +kernel))) (by decide) rfl (by decide +kernel) dX11_init_42 ?_
  refine ry_cs (fun cs14 e14 => ?_)
  replace hc0 : cs14 0 = .inr (11, [.ref (gA G 1), .ref (gA G 36), .null, .null, .null, .null, .null, .null, .null, .null, .int 0]) := by rw [e14, va_up_ne _ _ (by omega)]; exact hc0
  replace hc36 : cs14 36 = refI G 21 36 3 := by rw [e14]; exact va_up_self _ _ _
  replace hr1 : ∀ n, 1 ≤ n → n < 36 → cs14 n = finY G n := fun n a b => by rw [e14, va_up_ne _ _ (by omega)]; exact hr1 n a b
  replace hr37 : ∀ n, 37 ≤ n → n < 142 → cs14 n = finY G n := fun n a b => by rw [e14, va_up_ne _ _ (by omega)]; exact hr37 n a b
  replace hlo : ∀ n, n < 0 → cs14 n = cs n := fun n a => by rw [e14, va_up_ne _ _ (by omega)] <;> exact hlo n a
  clear e14
  refine ry_iinc 1 [(0, .ref (gA G 0)), (1, .int 3)] [1, 0] dX11_init_43 rfl rfl (by decide) rfl ?_
  refine ry_goto 25 dX11_init_46 (by decide) ?_
  refine ry_iload_n 1 dX11_init_25 rfl rfl ?_
  refine ry_iconst (v := 3) dX11_init_26 rfl ?_
  refine ry_icmp_ge 49 dX11_init_27 (by decide) (fun _ => ?_) (fun q => absurd (by decide) q)
  refine ry_aload_n 0 dX11_init_49 rfl rfl ?_
  refine ry_iconst (v := 3) dX11_init_50 rfl ?_
  refine ry_newa (κ := 15) (n := 3) (atype := .boolean) (ty := .boolean) (t0 := 2) rfl wa_boolean rfl (fun _ _ => Iff.rfl) rfl (by decide) rfl (by decide) (Nat.le_of_ble_eq_true rfl) (Nat.le_of_ble_eq_true rfl) dX11_init_51 ?_
  refine ry_cs (fun cs15 e15 => ?_)
  replace hc0 : cs15 0 = .inr (11, [.ref (gA G 1), .ref (gA G 36), .null, .null, .null, .null, .null, .null, .null, .null, .int 0]) := by rw [e15, va_up_ne _ _ (by omega)]; exact hc0
  replace hc36 : cs15 36 = refI G 21 36 3 := by rw [e15, va_up_ne _ _ (by omega)]; exact hc36
  have hc142 : cs15 142 = .inl (gY G 15, 3, .inl (fun _ => 0)) := by rw [e15]; exact va_up_self _ _ _
  replace hr1 : ∀ n, 1 ≤ n → n < 36 → cs15 n = finY G n := fun n a b => by rw [e15, va_up_ne _ _ (by omega)]; exact hr1 n a b
  replace hr37 : ∀ n, 37 ≤ n → n < 142 → cs15 n = finY G n := fun n a b => by rw [e15, va_up_ne _ _ (by omega)]; exact hr37 n a b
  replace hlo : ∀ n, n < 0 → cs15 n = cs n := fun n a => by rw [e15, va_up_ne _ _ (by omega)] <;> exact hlo n a
  clear e15
  refine ry_putF ff_X11_20 rfl (by omega) hc0 rfl rfl (nlt rfl) dX11_init_53 ?_
  refine ry_cs (fun cs16 e16 => ?_)
  replace hc36 : cs16 36 = refI G 21 36 3 := by rw [e16, va_up_ne _ _ (by omega)]; exact hc36
  replace hc142 : cs16 142 = .inl (gY G 15, 3, .inl (fun _ => 0)) := by rw [e16, va_up_ne _ _ (by omega)]; exact hc142
  replace hc0 : cs16 0 = .inr (11, [.ref (gA G 1), .ref (gA G 36), .ref (gA G 142), .null, .null, .null, .null, .null, .null, .null, .int 0]) := by rw [e16]; exact va_up_self _ _ _
  replace hr1 : ∀ n, 1 ≤ n → n < 36 → cs16 n = finY G n := fun n a b => by rw [e16, va_up_ne _ _ (by omega)]; exact hr1 n a b
  replace hr37 : ∀ n, 37 ≤ n → n < 142 → cs16 n = finY G n := fun n a b => by rw [e16, va_up_ne _ _ (by omega)]; exact hr37 n a b
  replace hlo : ∀ n, n < 0 → cs16 n = cs n := fun n a => by rw [e16, va_up_ne _ _ (by omega)] <;> exact hlo n a
  clear e16
  refine ry_aload_n 0 dX11_init_56 rfl rfl ?_
  refine ry_new (ci := 5) (fs := [.null, .int 0, .int 0, .int 0, .int 0, .int 0, .int 0, .int 0, .int 0, .null, .null, .int 0, .int 0, .int 0, .int 0]) tyX5 tyX5_ok rfl i_X5 wc_X11_24 wi_5 wn_5 bl_5 (Nat.le_of_ble_eq_true rfl) (Nat.le_of_ble_eq_true rfl) dX11_init_57 ?_
  refine ry_cs (fun cs17 e17 => ?_)
  replace hc0 : cs17 0 = .inr (11, [.ref (gA G 1), .ref (gA G 36), .ref (gA G 142), .null, .null, .null, .null, .null, .null, .null, .int 0]) := by rw [e17, va_up_ne _ _ (by omega)]; exact hc0
  replace hc36 : cs17 36 = refI G 21 36 3 := by rw [e17, va_up_ne _ _ (by omega)]; exact hc36
  replace hc142 : cs17 142 = .inl (gY G 15, 3, .inl (fun _ => 0)) := by rw [e17, va_up_ne _ _ (by omega)]; exact hc142
  have hc143 : cs17 143 = .inr (5, [.null, .int 0, .int 0, .int 0, .int 0, .int 0, .int 0, .int 0, .int 0, .null, .null, .int 0, .int 0, .int 0, .int 0]) := by rw [e17]; exact va_up_self _ _ _
  replace hr1 : ∀ n, 1 ≤ n → n < 36 → cs17 n = finY G n := fun n a b => by rw [e17, va_up_ne _ _ (by omega)]; exact hr1 n a b
  replace hr37 : ∀ n, 37 ≤ n → n < 142 → cs17 n = finY G n := fun n a b => by rw [e17, va_up_ne _ _ (by omega)]; exact hr37 n a b
  replace hlo : ∀ n, n < 0 → cs17 n = cs n := fun n a => by rw [e17, va_up_ne _ _ (by omega)] <;> exact hlo n a
  clear e17
  refine ry_dup dX11_init_60 rfl ?_
  refine ry_aload_n 0 dX11_init_61 rfl rfl ?_
  refine ry_get fl_X11_10 (by omega) hc0 rfl dX11_init_62 ?_
  refine ry_get fl_X11_26 (n := 1) (by omega) ((hr1 1 (by omega) (by omega)).trans fy_1) rfl dX11_init_65 ?_
  refine ry_callI (N2 := 0) (As := [.ref (gA G 2)]) (n := 143) (mc := 2) (ms := 4) (Kc G 143 3 _) (fun _ _ h => by have := h.1; omega) mw_X5_init rfl win_X5_init wm_X11_30 rfl ⟨show (d + 3) + 1 + 1 ≤ d + 5 by omega, show 30 * ((d + 3) + 1) + 30 ≤ 30 * (d + 5) by omega, (Nat.le_of_ble_eq_true rfl), (Nat.le_of_ble_eq_true rfl)⟩ (Nat.le_of_ble_eq_true rfl) dX11_init_68 (kX5_init G (d + 3) hc143) (fun cs18 hK => ?_) rfl
  obtain ⟨-, hK1, hK2⟩ := hK
  clear hc143
  replace hc0 : cs18 0 = .inr (11, [.ref (gA G 1), .ref (gA G 36), .ref (gA G 142), .null, .null, .null, .null, .null, .null, .null, .int 0]) := (hK1 _ (by omega)).trans hc0
  replace hc36 : cs18 36 = refI G 21 36 3 := (hK1 _ (by omega)).trans hc36
  replace hc142 : cs18 142 = .inl (gY G 15, 3, .inl (fun _ => 0)) := (hK1 _ (by omega)).trans hc142
  replace hr1 : ∀ n, 1 ≤ n → n < 36 → cs18 n = finY G n := fun n a b => (hK1 n (by omega)).trans (hr1 n a b)
  replace hr37 : ∀ n, 37 ≤ n → n < 142 → cs18 n = finY G n := fun n a b => (hK1 n (by omega)).trans (hr37 n a b)
  replace hlo : ∀ n, n < 0 → cs18 n = cs n := fun n a => (hK1 n (by omega)).trans (hlo n a)
  have hr143 : ∀ n, 143 ≤ n → n < 146 → cs18 n = finY G n := fun n a b => hK2 n (by omega) (by omega)
  clear hK1 hK2
  refine ry_putF ff_X11_33 rfl (by omega) hc0 rfl rfl (nlt rfl) dX11_init_71 ?_
  refine ry_cs (fun cs19 e19 => ?_)
  replace hc36 : cs19 36 = refI G 21 36 3 := by rw [e19, va_up_ne _ _ (by omega)]; exact hc36
  replace hc142 : cs19 142 = .inl (gY G 15, 3, .inl (fun _ => 0)) := by rw [e19, va_up_ne _ _ (by omega)]; exact hc142
  replace hc0 : cs19 0 = .inr (11, [.ref (gA G 1), .ref (gA G 36), .ref (gA G 142), .ref (gA G 143), .null, .null, .null, .null, .null, .null, .int 0]) := by rw [e19]; exact va_up_self _ _ _
  replace hr1 : ∀ n, 1 ≤ n → n < 36 → cs19 n = finY G n := fun n a b => by rw [e19, va_up_ne _ _ (by omega)]; exact hr1 n a b
  replace hr37 : ∀ n, 37 ≤ n → n < 142 → cs19 n = finY G n := fun n a b => by rw [e19, va_up_ne _ _ (by omega)]; exact hr37 n a b
  replace hr143 : ∀ n, 143 ≤ n → n < 146 → cs19 n = finY G n := fun n a b => by rw [e19, va_up_ne _ _ (by omega)]; exact hr143 n a b
  replace hlo : ∀ n, n < 0 → cs19 n = cs n := fun n a => by rw [e19, va_up_ne _ _ (by omega)] <;> exact hlo n a
  clear e19
  refine ry_aload_n 0 dX11_init_74 rfl rfl ?_
  refine ry_new (ci := 3) (fs := [.null, .null, .int 0, .int 0, .null, .null, .null, .null, .null, .null, .null, .int 0, .int 0, .null, .null, .null, .null, .int 0, .int 0, .int 0]) tyX3 tyX3_ok rfl i_X3 wc_X11_37 wi_3 wn_3 bl_3 (Nat.le_of_ble_eq_true rfl) (Nat.le_of_ble_eq_true rfl) dX11_init_75 ?_
  refine ry_cs (fun cs20 e20 => ?_)
  replace hc0 : cs20 0 = .inr (11, [.ref (gA G 1), .ref (gA G 36), .ref (gA G 142), .ref (gA G 143), .null, .null, .null, .null, .null, .null, .int 0]) := by rw [e20, va_up_ne _ _ (by omega)]; exact hc0
  replace hc36 : cs20 36 = refI G 21 36 3 := by rw [e20, va_up_ne _ _ (by omega)]; exact hc36
  replace hc142 : cs20 142 = .inl (gY G 15, 3, .inl (fun _ => 0)) := by rw [e20, va_up_ne _ _ (by omega)]; exact hc142
  have hc146 : cs20 146 = .inr (3, [.null, .null, .int 0, .int 0, .null, .null, .null, .null, .null, .null, .null, .int 0, .int 0, .null, .null, .null, .null, .int 0, .int 0, .int 0]) := by rw [e20]; exact va_up_self _ _ _
  replace hr1 : ∀ n, 1 ≤ n → n < 36 → cs20 n = finY G n := fun n a b => by rw [e20, va_up_ne _ _ (by omega)]; exact hr1 n a b
  replace hr37 : ∀ n, 37 ≤ n → n < 142 → cs20 n = finY G n := fun n a b => by rw [e20, va_up_ne _ _ (by omega)]; exact hr37 n a b
  replace hr143 : ∀ n, 143 ≤ n → n < 146 → cs20 n = finY G n := fun n a b => by rw [e20, va_up_ne _ _ (by omega)]; exact hr143 n a b
  replace hlo : ∀ n, n < 0 → cs20 n = cs n := fun n a => by rw [e20, va_up_ne _ _ (by omega)] <;> exact hlo n a
  clear e20
  refine ry_dup dX11_init_78 rfl ?_
  refine ry_aload_n 0 dX11_init_79 rfl rfl ?_
  refine ry_get fl_X11_10 (by omega) hc0 rfl dX11_init_80 ?_
  refine ry_get fl_X11_39 (n := 1) (by omega) ((hr1 1 (by omega) (by omega)).trans fy_1) rfl dX11_init_83 ?_
  refine ry_iconst (v := 0) dX11_init_86 rfl ?_
  refine ry_aald (κ := 19) (t0 := 6) (n := 4) (j := 0) (i := 2) (by omega) rfl ((hr1 4 (by omega) (by omega)).trans fy_4) (by decide +kernel) rfl (by decide) dX11_init_87 ?_
  rw [show sp 4 0 = 8 by decide +kernel]
  refine ry_aload_n 0 dX11_init_88 rfl rfl ?_
  refine ry_get fl_X11_10 (by omega) hc0 rfl dX11_init_89 ?_
  refine ry_get fl_X11_43 (n := 1) (by omega) ((hr1 1 (by omega) (by omega)).trans fy_1) rfl dX11_init_92 ?_
  refine ry_iconst (v := 0) dX11_init_95 rfl ?_
  refine ry_aald (κ := 20) (t0 := 7) (n := 5) (j := 0) (i := 2) (by omega) rfl ((hr1 5 (by omega) (by omega)).trans fy_5) (by decide +kernel) rfl (by decide) dX11_init_96 ?_
  rw [show sp 5 0 = 10 by decide +kernel]
  refine ry_callI (N2 := 0) (As := [.ref (gA G 8), .ref (gA G 10)]) (n := 146) (mc := 87) (ms := 1122) (Kc G 146 88 _) (fun _ _ h => by have := h.1; omega) mw_X3_init rfl win_X3_init wm_X11_47 rfl ⟨show (d + 2) + 2 + 1 ≤ d + 5 by omega, show 30 * ((d + 2) + 2) + 30 ≤ 30 * (d + 5) by omega, (Nat.le_of_ble_eq_true rfl), (Nat.le_of_ble_eq_true rfl)⟩ (Nat.le_of_ble_eq_true rfl) dX11_init_97 (kX3_init G (d + 2) hc146) (fun cs21 hK => ?_) rfl
  obtain ⟨-, hK1, hK2⟩ := hK
  clear hc146
  replace hc0 : cs21 0 = .inr (11, [.ref (gA G 1), .ref (gA G 36), .ref (gA G 142), .ref (gA G 143), .null, .null, .null, .null, .null, .null, .int 0]) := (hK1 _ (by omega)).trans hc0
  replace hc36 : cs21 36 = refI G 21 36 3 := (hK1 _ (by omega)).trans hc36
  replace hc142 : cs21 142 = .inl (gY G 15, 3, .inl (fun _ => 0)) := (hK1 _ (by omega)).trans hc142
  replace hr1 : ∀ n, 1 ≤ n → n < 36 → cs21 n = finY G n := fun n a b => (hK1 n (by omega)).trans (hr1 n a b)
  replace hr37 : ∀ n, 37 ≤ n → n < 142 → cs21 n = finY G n := fun n a b => (hK1 n (by omega)).trans (hr37 n a b)
  replace hr143 : ∀ n, 143 ≤ n → n < 146 → cs21 n = finY G n := fun n a b => (hK1 n (by omega)).trans (hr143 n a b)
  replace hlo : ∀ n, n < 0 → cs21 n = cs n := fun n a => (hK1 n (by omega)).trans (hlo n a)
  replace hr143 : ∀ n, 143 ≤ n → n < 234 → cs21 n = finY G n := fun n a b => if h : n < 146 then hr143 n a h else hK2 n (by omega) (by omega)
  clear hK1 hK2
  refine ry_putF ff_X11_50 rfl (by omega) hc0 rfl rfl (nlt rfl) dX11_init_100 ?_
  refine ry_cs (fun cs22 e22 => ?_)
  replace hc36 : cs22 36 = refI G 21 36 3 := by rw [e22, va_up_ne _ _ (by omega)]; exact hc36
  replace hc142 : cs22 142 = .inl (gY G 15, 3, .inl (fun _ => 0)) := by rw [e22, va_up_ne _ _ (by omega)]; exact hc142
  replace hc0 : cs22 0 = .inr (11, [.ref (gA G 1), .ref (gA G 36), .ref (gA G 142), .ref (gA G 143), .ref (gA G 146), .null, .null, .null, .null, .null, .int 0]) := by rw [e22]; exact va_up_self _ _ _
  replace hr1 : ∀ n, 1 ≤ n → n < 36 → cs22 n = finY G n := fun n a b => by rw [e22, va_up_ne _ _ (by omega)]; exact hr1 n a b
  replace hr37 : ∀ n, 37 ≤ n → n < 142 → cs22 n = finY G n := fun n a b => by rw [e22, va_up_ne _ _ (by omega)]; exact hr37 n a b
  replace hr143 : ∀ n, 143 ≤ n → n < 234 → cs22 n = finY G n := fun n a b => by rw [e22, va_up_ne _ _ (by omega)]; exact hr143 n a b
  replace hlo : ∀ n, n < 0 → cs22 n = cs n := fun n a => by rw [e22, va_up_ne _ _ (by omega)] <;> exact hlo n a
  clear e22
  refine ry_aload_n 0 dX11_init_103 rfl rfl ?_
  refine ry_new (ci := 0) (fs := [.null, .int 0, .null, .null, .null, .int 0]) tyX0 tyX0_ok rfl i_X0 wc_X11_54 wi_0 wn_0 bl_0 (Nat.le_of_ble_eq_true rfl) (Nat.le_of_ble_eq_true rfl) dX11_init_104 ?_
  refine ry_cs (fun cs23 e23 => ?_)
  replace hc0 : cs23 0 = .inr (11, [.ref (gA G 1), .ref (gA G 36), .ref (gA G 142), .ref (gA G 143), .ref (gA G 146), .null, .null, .null, .null, .null, .int 0]) := by rw [e23, va_up_ne _ _ (by omega)]; exact hc0
  replace hc36 : cs23 36 = refI G 21 36 3 := by rw [e23, va_up_ne _ _ (by omega)]; exact hc36
  replace hc142 : cs23 142 = .inl (gY G 15, 3, .inl (fun _ => 0)) := by rw [e23, va_up_ne _ _ (by omega)]; exact hc142
  have hc234 : cs23 234 = .inr (0, [.null, .int 0, .null, .null, .null, .int 0]) := by rw [e23]; exact va_up_self _ _ _
  replace hr1 : ∀ n, 1 ≤ n → n < 36 → cs23 n = finY G n := fun n a b => by rw [e23, va_up_ne _ _ (by omega)]; exact hr1 n a b
  replace hr37 : ∀ n, 37 ≤ n → n < 142 → cs23 n = finY G n := fun n a b => by rw [e23, va_up_ne _ _ (by omega)]; exact hr37 n a b
  replace hr143 : ∀ n, 143 ≤ n → n < 234 → cs23 n = finY G n := fun n a b => by rw [e23, va_up_ne _ _ (by omega)]; exact hr143 n a b
  replace hlo : ∀ n, n < 0 → cs23 n = cs n := fun n a => by rw [e23, va_up_ne _ _ (by omega)] <;> exact hlo n a
  clear e23
  refine ry_dup dX11_init_107 rfl ?_
  refine ry_callIN (As := []) (n := 234) (mc := 11) (ms := 119) (Kc G 234 12 _) (fun _ _ h => by have := h.1; omega) mw_X0_init rfl win_X0_init wm_X11_56 rfl ⟨show (d + 3) + 1 + 1 ≤ d + 5 by omega, show 30 * ((d + 3) + 1) + 30 ≤ 30 * (d + 5) by omega, (Nat.le_of_ble_eq_true rfl), (Nat.le_of_ble_eq_true rfl)⟩ (Nat.le_of_ble_eq_true rfl) dX11_init_108 (kX0_init G (d + 3) hc234) (fun cs24 hK => ?_) rfl
  obtain ⟨-, hK1, hK2⟩ := hK
  clear hc234
  replace hc0 : cs24 0 = .inr (11, [.ref (gA G 1), .ref (gA G 36), .ref (gA G 142), .ref (gA G 143), .ref (gA G 146), .null, .null, .null, .null, .null, .int 0]) := (hK1 _ (by omega)).trans hc0
  replace hc36 : cs24 36 = refI G 21 36 3 := (hK1 _ (by omega)).trans hc36
  replace hc142 : cs24 142 = .inl (gY G 15, 3, .inl (fun _ => 0)) := (hK1 _ (by omega)).trans hc142
  replace hr1 : ∀ n, 1 ≤ n → n < 36 → cs24 n = finY G n := fun n a b => (hK1 n (by omega)).trans (hr1 n a b)
  replace hr37 : ∀ n, 37 ≤ n → n < 142 → cs24 n = finY G n := fun n a b => (hK1 n (by omega)).trans (hr37 n a b)
  replace hr143 : ∀ n, 143 ≤ n → n < 234 → cs24 n = finY G n := fun n a b => (hK1 n (by omega)).trans (hr143 n a b)
  replace hlo : ∀ n, n < 0 → cs24 n = cs n := fun n a => (hK1 n (by omega)).trans (hlo n a)
  replace hr143 : ∀ n, 143 ≤ n → n < 246 → cs24 n = finY G n := fun n a b => if h : n < 234 then hr143 n a h else hK2 n (by omega) (by omega)
  clear hK1 hK2
  refine ry_putF ff_X11_57 rfl (by omega) hc0 rfl rfl (nlt rfl) dX11_init_111 ?_
  refine ry_cs (fun cs25 e25 => ?_)
  replace hc36 : cs25 36 = refI G 21 36 3 := by rw [e25, va_up_ne _ _ (by omega)]; exact hc36
  replace hc142 : cs25 142 = .inl (gY G 15, 3, .inl (fun _ => 0)) := by rw [e25, va_up_ne _ _ (by omega)]; exact hc142
  replace hc0 : cs25 0 = .inr (11, [.ref (gA G 1), .ref (gA G 36), .ref (gA G 142), .ref (gA G 143), .ref (gA G 146), .ref (gA G 234), .null, .null, .null, .null, .int 0]) := by rw [e25]; exact va_up_self _ _ _
  replace hr1 : ∀ n, 1 ≤ n → n < 36 → cs25 n = finY G n := fun n a b => by rw [e25, va_up_ne _ _ (by omega)]; exact hr1 n a b
  replace hr37 : ∀ n, 37 ≤ n → n < 142 → cs25 n = finY G n := fun n a b => by rw [e25, va_up_ne _ _ (by omega)]; exact hr37 n a b
  replace hr143 : ∀ n, 143 ≤ n → n < 246 → cs25 n = finY G n := fun n a b => by rw [e25, va_up_ne _ _ (by omega)]; exact hr143 n a b
  replace hlo : ∀ n, n < 0 → cs25 n = cs n := fun n a => by rw [e25, va_up_ne _ _ (by omega)] <;> exact hlo n a
  clear e25
  refine ry_aload_n 0 dX11_init_114 rfl rfl ?_
  refine ry_new (ci := 6) (fs := [.null, .null, .null, .int 0]) tyX6 tyX6_ok rfl i_X6 wc_X11_61 wi_6 wn_6 bl_6 (Nat.le_of_ble_eq_true rfl) (Nat.le_of_ble_eq_true rfl) dX11_init_115 ?_
  refine ry_cs (fun cs26 e26 => ?_)
  replace hc0 : cs26 0 = .inr (11, [.ref (gA G 1), .ref (gA G 36), .ref (gA G 142), .ref (gA G 143), .ref (gA G 146), .ref (gA G 234), .null, .null, .null, .null, .int 0]) := by rw [e26, va_up_ne _ _ (by omega)]; exact hc0
  replace hc36 : cs26 36 = refI G 21 36 3 := by rw [e26, va_up_ne _ _ (by omega)]; exact hc36
  replace hc142 : cs26 142 = .inl (gY G 15, 3, .inl (fun _ => 0)) := by rw [e26, va_up_ne _ _ (by omega)]; exact hc142
  have hc246 : cs26 246 = .inr (6, [.null, .null, .null, .int 0]) := by rw [e26]; exact va_up_self _ _ _
  replace hr1 : ∀ n, 1 ≤ n → n < 36 → cs26 n = finY G n := fun n a b => by rw [e26, va_up_ne _ _ (by omega)]; exact hr1 n a b
  replace hr37 : ∀ n, 37 ≤ n → n < 142 → cs26 n = finY G n := fun n a b => by rw [e26, va_up_ne _ _ (by omega)]; exact hr37 n a b
  replace hr143 : ∀ n, 143 ≤ n → n < 246 → cs26 n = finY G n := fun n a b => by rw [e26, va_up_ne _ _ (by omega)]; exact hr143 n a b
  replace hlo : ∀ n, n < 0 → cs26 n = cs n := fun n a => by rw [e26, va_up_ne _ _ (by omega)] <;> exact hlo n a
  clear e26
  refine ry_dup dX11_init_118 rfl ?_
  refine ry_callIN (As := []) (n := 246) (mc := 19) (ms := 202) (Kc G 246 20 _) (fun _ _ h => by have := h.1; omega) mw_X6_init rfl win_X6_init wm_X11_63 rfl ⟨show (d + 3) + 1 + 1 ≤ d + 5 by omega, show 30 * ((d + 3) + 1) + 30 ≤ 30 * (d + 5) by omega, (Nat.le_of_ble_eq_true rfl), (Nat.le_of_ble_eq_true rfl)⟩ (Nat.le_of_ble_eq_true rfl) dX11_init_119 (kX6_init G (d + 3) hc246) (fun cs27 hK => ?_) rfl
  obtain ⟨-, hK1, hK2⟩ := hK
  clear hc246
  replace hc0 : cs27 0 = .inr (11, [.ref (gA G 1), .ref (gA G 36), .ref (gA G 142), .ref (gA G 143), .ref (gA G 146), .ref (gA G 234), .null, .null, .null, .null, .int 0]) := (hK1 _ (by omega)).trans hc0
  replace hc36 : cs27 36 = refI G 21 36 3 := (hK1 _ (by omega)).trans hc36
  replace hc142 : cs27 142 = .inl (gY G 15, 3, .inl (fun _ => 0)) := (hK1 _ (by omega)).trans hc142
  replace hr1 : ∀ n, 1 ≤ n → n < 36 → cs27 n = finY G n := fun n a b => (hK1 n (by omega)).trans (hr1 n a b)
  replace hr37 : ∀ n, 37 ≤ n → n < 142 → cs27 n = finY G n := fun n a b => (hK1 n (by omega)).trans (hr37 n a b)
  replace hr143 : ∀ n, 143 ≤ n → n < 246 → cs27 n = finY G n := fun n a b => (hK1 n (by omega)).trans (hr143 n a b)
  replace hlo : ∀ n, n < 0 → cs27 n = cs n := fun n a => (hK1 n (by omega)).trans (hlo n a)
  replace hr143 : ∀ n, 143 ≤ n → n < 266 → cs27 n = finY G n := fun n a b => if h : n < 246 then hr143 n a h else hK2 n (by omega) (by omega)
  clear hK1 hK2
  refine ry_putF ff_X11_64 rfl (by omega) hc0 rfl rfl (nlt rfl) dX11_init_122 ?_
  refine ry_cs (fun cs28 e28 => ?_)
  replace hc36 : cs28 36 = refI G 21 36 3 := by rw [e28, va_up_ne _ _ (by omega)]; exact hc36
  replace hc142 : cs28 142 = .inl (gY G 15, 3, .inl (fun _ => 0)) := by rw [e28, va_up_ne _ _ (by omega)]; exact hc142
  replace hc0 : cs28 0 = .inr (11, [.ref (gA G 1), .ref (gA G 36), .ref (gA G 142), .ref (gA G 143), .ref (gA G 146), .ref (gA G 234), .ref (gA G 246), .null, .null, .null, .int 0]) := by rw [e28]; exact va_up_self _ _ _
  replace hr1 : ∀ n, 1 ≤ n → n < 36 → cs28 n = finY G n := fun n a b => by rw [e28, va_up_ne _ _ (by omega)]; exact hr1 n a b
  replace hr37 : ∀ n, 37 ≤ n → n < 142 → cs28 n = finY G n := fun n a b => by rw [e28, va_up_ne _ _ (by omega)]; exact hr37 n a b
  replace hr143 : ∀ n, 143 ≤ n → n < 266 → cs28 n = finY G n := fun n a b => by rw [e28, va_up_ne _ _ (by omega)]; exact hr143 n a b
  replace hlo : ∀ n, n < 0 → cs28 n = cs n := fun n a => by rw [e28, va_up_ne _ _ (by omega)] <;> exact hlo n a
  clear e28
  refine ry_aload_n 0 dX11_init_125 rfl rfl ?_
  refine ry_iconst (v := 5) dX11_init_126 rfl ?_
  refine ry_newa (κ := 14) (n := 5) (atype := .int) (ty := .int) (t0 := 1) rfl wa_int rfl (fun _ _ => Iff.rfl) rfl (by decide) rfl (by decide) (Nat.le_of_ble_eq_true rfl) (Nat.le_of_ble_eq_true rfl) dX11_init_127 ?_
  refine ry_cs (fun cs29 e29 => ?_)
  replace hc0 : cs29 0 = .inr (11, [.ref (gA G 1), .ref (gA G 36), .ref (gA G 142), .ref (gA G 143), .ref (gA G 146), .ref (gA G 234), .ref (gA G 246), .null, .null, .null, .int 0]) := by rw [e29, va_up_ne _ _ (by omega)]; exact hc0
  replace hc36 : cs29 36 = refI G 21 36 3 := by rw [e29, va_up_ne _ _ (by omega)]; exact hc36
  replace hc142 : cs29 142 = .inl (gY G 15, 3, .inl (fun _ => 0)) := by rw [e29, va_up_ne _ _ (by omega)]; exact hc142
  have hc266 : cs29 266 = .inl (gY G 14, 5, .inl (fun _ => 0)) := by rw [e29]; exact va_up_self _ _ _
  replace hr1 : ∀ n, 1 ≤ n → n < 36 → cs29 n = finY G n := fun n a b => by rw [e29, va_up_ne _ _ (by omega)]; exact hr1 n a b
  replace hr37 : ∀ n, 37 ≤ n → n < 142 → cs29 n = finY G n := fun n a b => by rw [e29, va_up_ne _ _ (by omega)]; exact hr37 n a b
  replace hr143 : ∀ n, 143 ≤ n → n < 266 → cs29 n = finY G n := fun n a b => by rw [e29, va_up_ne _ _ (by omega)]; exact hr143 n a b
  replace hlo : ∀ n, n < 0 → cs29 n = cs n := fun n a => by rw [e29, va_up_ne _ _ (by omega)] <;> exact hlo n a
  clear e29
  refine ry_putF ff_X11_68 rfl (by omega) hc0 rfl rfl (nlt rfl) dX11_init_129 ?_
  refine ry_cs (fun cs30 e30 => ?_)
  replace hc36 : cs30 36 = refI G 21 36 3 := by rw [e30, va_up_ne _ _ (by omega)]; exact hc36
  replace hc142 : cs30 142 = .inl (gY G 15, 3, .inl (fun _ => 0)) := by rw [e30, va_up_ne _ _ (by omega)]; exact hc142
  replace hc266 : cs30 266 = .inl (gY G 14, 5, .inl (fun _ => 0)) := by rw [e30, va_up_ne _ _ (by omega)]; exact hc266
  replace hc0 : cs30 0 = .inr (11, [.ref (gA G 1), .ref (gA G 36), .ref (gA G 142), .ref (gA G 143), .ref (gA G 146), .ref (gA G 234), .ref (gA G 246), .ref (gA G 266), .null, .null, .int 0]) := by rw [e30]; exact va_up_self _ _ _
  replace hr1 : ∀ n, 1 ≤ n → n < 36 → cs30 n = finY G n := fun n a b => by rw [e30, va_up_ne _ _ (by omega)]; exact hr1 n a b
  replace hr37 : ∀ n, 37 ≤ n → n < 142 → cs30 n = finY G n := fun n a b => by rw [e30, va_up_ne _ _ (by omega)]; exact hr37 n a b
  replace hr143 : ∀ n, 143 ≤ n → n < 266 → cs30 n = finY G n := fun n a b => by rw [e30, va_up_ne _ _ (by omega)]; exact hr143 n a b
  replace hlo : ∀ n, n < 0 → cs30 n = cs n := fun n a => by rw [e30, va_up_ne _ _ (by omega)] <;> exact hlo n a
  clear e30
  refine ry_aload_n 0 dX11_init_132 rfl rfl ?_
  refine ry_bipush (v := 10) dX11_init_133 rfl ?_
  refine ry_newa (κ := 14) (n := 10) (atype := .int) (ty := .int) (t0 := 1) rfl wa_int rfl (fun _ _ => Iff.rfl) rfl (by decide) rfl (by decide) (Nat.le_of_ble_eq_true rfl) (Nat.le_of_ble_eq_true rfl) dX11_init_135 ?_
  refine ry_cs (fun cs31 e31 => ?_)
  replace hc0 : cs31 0 = .inr (11, [.ref (gA G 1), .ref (gA G 36), .ref (gA G 142), .ref (gA G 143), .ref (gA G 146), .ref (gA G 234), .ref (gA G 246), .ref (gA G 266), .null, .null, .int 0]) := by rw [e31, va_up_ne _ _ (by omega)]; exact hc0
  replace hc36 : cs31 36 = refI G 21 36 3 := by rw [e31, va_up_ne _ _ (by omega)]; exact hc36
  replace hc142 : cs31 142 = .inl (gY G 15, 3, .inl (fun _ => 0)) := by rw [e31, va_up_ne _ _ (by omega)]; exact hc142
  replace hc266 : cs31 266 = .inl (gY G 14, 5, .inl (fun _ => 0)) := by rw [e31, va_up_ne _ _ (by omega)]; exact hc266
  have hc267 : cs31 267 = .inl (gY G 14, 10, .inl (fun _ => 0)) := by rw [e31]; exact va_up_self _ _ _
  replace hr1 : ∀ n, 1 ≤ n → n < 36 → cs31 n = finY G n := fun n a b => by rw [e31, va_up_ne _ _ (by omega)]; exact hr1 n a b
  replace hr37 : ∀ n, 37 ≤ n → n < 142 → cs31 n = finY G n := fun n a b => by rw [e31, va_up_ne _ _ (by omega)]; exact hr37 n a b
  replace hr143 : ∀ n, 143 ≤ n → n < 266 → cs31 n = finY G n := fun n a b => by rw [e31, va_up_ne _ _ (by omega)]; exact hr143 n a b
  replace hlo : ∀ n, n < 0 → cs31 n = cs n := fun n a => by rw [e31, va_up_ne _ _ (by omega)] <;> exact hlo n a
  clear e31
  refine ry_putF ff_X11_72 rfl (by omega) hc0 rfl rfl (nlt rfl) dX11_init_137 ?_
  refine ry_cs (fun cs32 e32 => ?_)
  replace hc36 : cs32 36 = refI G 21 36 3 := by rw [e32, va_up_ne _ _ (by omega)]; exact hc36
  replace hc142 : cs32 142 = .inl (gY G 15, 3, .inl (fun _ => 0)) := by rw [e32, va_up_ne _ _ (by omega)]; exact hc142
  replace hc266 : cs32 266 = .inl (gY G 14, 5, .inl (fun _ => 0)) := by rw [e32, va_up_ne _ _ (by omega)]; exact hc266
  replace hc267 : cs32 267 = .inl (gY G 14, 10, .inl (fun _ => 0)) := by rw [e32, va_up_ne _ _ (by omega)]; exact hc267
  replace hc0 : cs32 0 = .inr (11, [.ref (gA G 1), .ref (gA G 36), .ref (gA G 142), .ref (gA G 143), .ref (gA G 146), .ref (gA G 234), .ref (gA G 246), .ref (gA G 266), .ref (gA G 267), .null, .int 0]) := by rw [e32]; exact va_up_self _ _ _
  replace hr1 : ∀ n, 1 ≤ n → n < 36 → cs32 n = finY G n := fun n a b => by rw [e32, va_up_ne _ _ (by omega)]; exact hr1 n a b
  replace hr37 : ∀ n, 37 ≤ n → n < 142 → cs32 n = finY G n := fun n a b => by rw [e32, va_up_ne _ _ (by omega)]; exact hr37 n a b
  replace hr143 : ∀ n, 143 ≤ n → n < 266 → cs32 n = finY G n := fun n a b => by rw [e32, va_up_ne _ _ (by omega)]; exact hr143 n a b
  replace hlo : ∀ n, n < 0 → cs32 n = cs n := fun n a => by rw [e32, va_up_ne _ _ (by omega)] <;> exact hlo n a
  clear e32
  refine ry_aload_n 0 dX11_init_140 rfl rfl ?_
  refine ry_bipush (v := 10) dX11_init_141 rfl ?_
  refine ry_newa (κ := 14) (n := 10) (atype := .int) (ty := .int) (t0 := 1) rfl wa_int rfl (fun _ _ => Iff.rfl) rfl (by decide) rfl (by decide) (Nat.le_of_ble_eq_true rfl) (Nat.le_of_ble_eq_true rfl) dX11_init_143 ?_
  refine ry_cs (fun cs33 e33 => ?_)
  replace hc0 : cs33 0 = .inr (11, [.ref (gA G 1), .ref (gA G 36), .ref (gA G 142), .ref (gA G 143), .ref (gA G 146), .ref (gA G 234), .ref (gA G 246), .ref (gA G 266), .ref (gA G 267), .null, .int 0]) := by rw [e33, va_up_ne _ _ (by omega)]; exact hc0
  replace hc36 : cs33 36 = refI G 21 36 3 := by rw [e33, va_up_ne _ _ (by omega)]; exact hc36
  replace hc142 : cs33 142 = .inl (gY G 15, 3, .inl (fun _ => 0)) := by rw [e33, va_up_ne _ _ (by omega)]; exact hc142
  replace hc266 : cs33 266 = .inl (gY G 14, 5, .inl (fun _ => 0)) := by rw [e33, va_up_ne _ _ (by omega)]; exact hc266
  replace hc267 : cs33 267 = .inl (gY G 14, 10, .inl (fun _ => 0)) := by rw [e33, va_up_ne _ _ (by omega)]; exact hc267
  have hc268 : cs33 268 = .inl (gY G 14, 10, .inl (fun _ => 0)) := by rw [e33]; exact va_up_self _ _ _
  replace hr1 : ∀ n, 1 ≤ n → n < 36 → cs33 n = finY G n := fun n a b => by rw [e33, va_up_ne _ _ (by omega)]; exact hr1 n a b
  replace hr37 : ∀ n, 37 ≤ n → n < 142 → cs33 n = finY G n := fun n a b => by rw [e33, va_up_ne _ _ (by omega)]; exact hr37 n a b
  replace hr143 : ∀ n, 143 ≤ n → n < 266 → cs33 n = finY G n := fun n a b => by rw [e33, va_up_ne _ _ (by omega)]; exact hr143 n a b
  replace hlo : ∀ n, n < 0 → cs33 n = cs n := fun n a => by rw [e33, va_up_ne _ _ (by omega)] <;> exact hlo n a
  clear e33
  refine ry_putF ff_X11_75 rfl (by omega) hc0 rfl rfl (nlt rfl) dX11_init_145 ?_
  refine ry_cs (fun cs34 e34 => ?_)
  replace hc36 : cs34 36 = refI G 21 36 3 := by rw [e34, va_up_ne _ _ (by omega)]; exact hc36
  replace hc142 : cs34 142 = .inl (gY G 15, 3, .inl (fun _ => 0)) := by rw [e34, va_up_ne _ _ (by omega)]; exact hc142
  replace hc266 : cs34 266 = .inl (gY G 14, 5, .inl (fun _ => 0)) := by rw [e34, va_up_ne _ _ (by omega)]; exact hc266
  replace hc267 : cs34 267 = .inl (gY G 14, 10, .inl (fun _ => 0)) := by rw [e34, va_up_ne _ _ (by omega)]; exact hc267
  replace hc268 : cs34 268 = .inl (gY G 14, 10, .inl (fun _ => 0)) := by rw [e34, va_up_ne _ _ (by omega)]; exact hc268
  replace hc0 : cs34 0 = .inr (11, [.ref (gA G 1), .ref (gA G 36), .ref (gA G 142), .ref (gA G 143), .ref (gA G 146), .ref (gA G 234), .ref (gA G 246), .ref (gA G 266), .ref (gA G 267), .ref (gA G 268), .int 0]) := by rw [e34]; exact va_up_self _ _ _
  replace hr1 : ∀ n, 1 ≤ n → n < 36 → cs34 n = finY G n := fun n a b => by rw [e34, va_up_ne _ _ (by omega)]; exact hr1 n a b
  replace hr37 : ∀ n, 37 ≤ n → n < 142 → cs34 n = finY G n := fun n a b => by rw [e34, va_up_ne _ _ (by omega)]; exact hr37 n a b
  replace hr143 : ∀ n, 143 ≤ n → n < 266 → cs34 n = finY G n := fun n a b => by rw [e34, va_up_ne _ _ (by omega)]; exact hr143 n a b
  replace hlo : ∀ n, n < 0 → cs34 n = cs n := fun n a => by rw [e34, va_up_ne _ _ (by omega)] <;> exact hlo n a
  clear e34
  refine ry_ret dX11_init_148 ⟨by omega, hlo, fun n a b => ?_⟩
  rcases (show n = 0 ∨ n = 36 ∨ n = 142 ∨ n = 266 ∨ n = 267 ∨ n = 268 ∨ (1 ≤ n ∧ n < 36) ∨ (37 ≤ n ∧ n < 142) ∨ (143 ≤ n ∧ n < 266) by omega) with rfl | rfl | rfl | rfl | rfl | rfl | q | q | q
  · rw [hc0]; exact (fyj_11_0).symm
  · rw [hc36]; exact (fyj_11_36).symm
  · rw [hc142]; exact (fyj_11_142).symm
  · rw [hc266]; exact (fyj_11_266).symm
  · rw [hc267]; exact (fyj_11_267).symm
  · rw [hc268]; exact (fyj_11_268).symm
  · exact hr1 n q.1 q.2
  · exact hr37 n q.1 q.2
  · exact hr143 n q.1 q.2
