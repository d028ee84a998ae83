/-! ===== Arrays.fill and Store.clear, in the constructors' world ===== -/
theorem nlt {a b : Nat} (h : Nat.ble (a + 1) b = true) : a < b := Nat.le_of_ble_eq_true h
def Kfl (G : GT) (n L : Nat) (v : Int32) (f : Nat → Int32) (N : Nat) (cs : Nat → va_E) : Nat → (Nat → va_E) → Prop := fun N' cs' => N' = N ∧ cs' n = .inl (gY G 14, L, .inl (fun k => if k < L then v else f k)) ∧ ∀ a, a ≠ n → cs' a = cs a
theorem yfill_loop (G : GT) (d : Nat) {n L N : Nat} {v : Int32} {f : Nat → Int32} {cs0 : Nat → va_E} (hn : n < N) (hL : L < 2 ^ 31) : ∀ (k i : Nat) (cs : Nat → va_E), i + k = L → cs n = .inl (gY G 14, L, .inl (fun k => if k < i then v else f k)) → (∀ a, a ≠ n → cs a = cs0 a) →
    RunY G RJ7 "fill" cJ7_fill_53178 4 none (yF G (d + 1) 0 0 (Kfl G n L v f N cs0)) 0 0 5 [(0, .ref (gA G n)), (1, .int v), (2, .int (nI i)), (3, .int (nI L))] [] N cs := by
  intro k
  induction k with
  | zero =>
    intro i cs hi hc ho
    have e : i = L := by omega
    subst e
    refine ry_iload_n 2 dJ7_fill_53178_5 rfl rfl ?_
    refine ry_iload_n 3 dJ7_fill_53178_6 rfl rfl ?_
    refine ry_icmp_ge 20 dJ7_fill_53178_7 (by decide) (fun _ => ?_) (fun q => absurd (nI_le (Nat.le_refl _) hL) q)
    exact ry_ret dJ7_fill_53178_20 ⟨rfl, hc, ho⟩
  | succ k ih =>
    intro i cs hi hc ho
    refine ry_iload_n 2 dJ7_fill_53178_5 rfl rfl ?_
    refine ry_iload_n 3 dJ7_fill_53178_6 rfl rfl ?_
    refine ry_icmp_ge 20 dJ7_fill_53178_7 (by decide) (fun q => absurd q (nI_ge (by omega) hL)) (fun _ => ?_)
    refine ry_aload_n 0 dJ7_fill_53178_10 rfl rfl ?_
    refine ry_iload_n 2 dJ7_fill_53178_11 rfl rfl ?_
    refine ry_iload_n 1 dJ7_fill_53178_12 rfl rfl ?_
    refine ry_iast (j := i) hn hc (inb_nI (by omega) hL) (nI_clamp (by omega)) dJ7_fill_53178_13 ?_
    refine ry_iinc 2 [(0, .ref (gA G n)), (1, .int v), (2, .int (nI (i + 1))), (3, .int (nI L))] [1, 2, 0, 3] dJ7_fill_53178_14 rfl (nI_1 i) (by decide) rfl ?_
    refine ry_goto 5 dJ7_fill_53178_17 (by decide) ?_
    refine ih (i + 1) _ (by omega) ?_ (fun a ha => by rw [va_up_ne _ _ ha]; exact ho a ha)
    rw [va_up_self]
    congr 4
    funext j
    by_cases h : j = i
    · subst h; rw [pk_us, if_pos (by omega)]
    · rw [pk_un h]
      by_cases h2 : j < i
      · rw [if_pos h2, if_pos (by omega)]
      · rw [if_neg h2, if_neg (by omega)]
theorem yfill (G : GT) (d : Nat) {n L N : Nat} {v : Int32} {f : Nat → Int32} {cs : Nat → va_E} (hn : n < N) (hL : L < 2 ^ 31) (hc : cs n = .inl (gY G 14, L, .inl f)) : SpecY G yJ7_fill_53178 cJ7_fill_53178 4 (d + 1) 0 0 [.ref (gA G n), .int v] N cs (Kfl G n L v f N cs) := by
  refine ry_spec (by decide) (Nat.le_of_ble_eq_true rfl) ?_
  show RunY G RJ7 "fill" cJ7_fill_53178 4 none _ 0 0 0 [(0, .ref (gA G n)), (1, .int v)] [] N cs
  refine ry_iconst (v := 0) dJ7_fill_53178_0 rfl ?_
  refine ry_istore_n [(0, .ref (gA G n)), (1, .int v), (2, .int (nI 0))] [1, 2, 0] dJ7_fill_53178_1 rfl (by decide) rfl ?_
  refine ry_aload_n 0 dJ7_fill_53178_2 rfl rfl ?_
  refine ry_alen hn hc dJ7_fill_53178_3 ?_
  refine ry_istore_n [(0, .ref (gA G n)), (1, .int v), (2, .int (nI 0)), (3, .int (nI L))] [1, 2, 3, 0] dJ7_fill_53178_4 rfl (by decide) rfl ?_
  refine yfill_loop G d hn hL L 0 cs (by omega) ?_ (fun _ _ => rfl)
  rw [hc]
  rfl
theorem kX7_clear (G : GT) (d : Nat) {t : Nat} (hk : Is t 7) {cs : Nat → va_E} (hc0 : cs t = .inr (7, [.int 0, .int 0, .ref (gA G (t + 1))])) (hc1 : cs (t + 1) = .inl (gY G 14, 10, .inl (fun _ => 0))) : SpecY G yX7_clear cX7_clear 1 (d + 2) 0 0 [.ref (gA G t)] (t + 2) cs (Kcl G t cs) := by
  refine ry_spec (by decide) (Nat.le_of_ble_eq_true rfl) ?_
  show RunY G RX7 "clear" cX7_clear 1 none _ 0 0 0 [(0, .ref (gA G t))] [] (t + 2) cs
  refine ry_aload_n 0 dX7_clear_0 rfl rfl ?_
  refine ry_iconst (v := 2) dX7_clear_1 rfl ?_
  refine ry_put fp_X7_18 (by omega) hc0 rfl rfl (nlt rfl) dX7_clear_2 ?_
  refine ry_cs (fun cs1 e1 => ?_)
  have h0 : cs1 t = .inr (7, [.int 2, .int 0, .ref (gA G (t + 1))]) := by rw [e1]; exact va_up_self _ _ _
  have h1 : cs1 (t + 1) = .inl (gY G 14, 10, .inl (fun _ => 0)) := by rw [e1, va_up_ne _ _ (by omega)]; exact hc1
  have ho : ∀ a, a ≠ t → a ≠ t + 1 → cs1 a = cs a := fun a h _ => by rw [e1, va_up_ne _ _ h]
  clear e1
  refine ry_aload_n 0 dX7_clear_5 rfl rfl ?_
  refine ry_iconst (v := 2) dX7_clear_6 rfl ?_
  refine ry_put fp_X7_22 (by omega) h0 rfl rfl (nlt rfl) dX7_clear_7 ?_
  refine ry_cs (fun cs2 e1 => ?_)
  have h0 : cs2 t = .inr (7, [.int 2, .int 2, .ref (gA G (t + 1))]) := by rw [e1]; exact va_up_self _ _ _
  have h1 : cs2 (t + 1) = .inl (gY G 14, 10, .inl (fun _ => 0)) := by rw [e1, va_up_ne _ _ (by omega)]; exact h1
  have ho : ∀ a, a ≠ t → a ≠ t + 1 → cs2 a = cs a := fun a h h2 => by rw [e1, va_up_ne _ _ h]; exact ho a h h2
  clear e1
  refine ry_aload_n 0 dX7_clear_10 rfl rfl ?_
  refine ry_get fl_X7_9 (by omega) h0 rfl dX7_clear_11 ?_
  refine ry_iconst (v := -1) dX7_clear_14 rfl ?_
  refine ry_callS (As := [.ref (gA G (t + 1)), .int (-1)]) (Kfl G (t + 1) 10 (-1) (fun _ => 0) (t + 2) cs2) (fun _ _ h => h.1) mw_J7_fill_53178 ms_J7_fill_53178 ml_X7_25 rfl ⟨show d + 1 + 1 ≤ d + 2 by omega, show 30 * (d + 1) + 30 ≤ 30 * (d + 2) by omega, Nat.le_of_ble_eq_true rfl, Nat.le_of_ble_eq_true rfl⟩ (Nat.le_of_ble_eq_true rfl) dX7_clear_15 (yfill G d (by omega) (by decide) h1) (fun cs3 hK => ?_) rfl
  obtain ⟨-, q1, q2⟩ := hK
  exact ry_ret dX7_clear_18 ⟨rfl, (q2 _ (by omega)).trans h0, q1, fun a h1 h2 => (q2 a h2).trans (ho a h1 h2)⟩
