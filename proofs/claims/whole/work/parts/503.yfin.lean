/-! ===== what the constructors leave ===== -/
def ini (n k : Nat) : Int32 := if kd n = 9 ∧ k = 3 then -1 else if kd n = 7 ∧ k < 2 then 2 else if kd n = 14 ∧ kd (n - 1) = 7 then (if k < 10 then -1 else 0) else if n = 146 ∧ k = 0 then 8 else if n = 146 ∧ k = 1 then 10 else if n = 235 then -1 else if n = 273 ∧ k = 0 then -1 else 0
def finY (G : GT) (n : Nat) : va_E := if 16 ≤ kd n ∧ kd n ≤ 23 then refI G (kd n) n (ln n) else if kd n = 24 then refI G 17 n 0 else cellR G n (ini n)
def Kc (G : GT) (t sz : Nat) (cs : Nat → va_E) : Nat → (Nat → va_E) → Prop := fun N' cs' => N' = t + sz ∧ (∀ n, n < t → cs' n = cs n) ∧ ∀ n, t ≤ n → n < t + sz → cs' n = finY G n
def slotC (G : GT) (n ci : Nat) (r : Nat → Int32) (k : Nat) : Value := if sty ci k = 0 then .int (r k) else if sty ci k = 1 then .ref (gA G (if ci = 5 ∧ k = 0 then 2 else n + (spL.getD ci []).getD k 0)) else if sty ci k = 2 then .ref (gA G (rfN (r k))) else .long (lgJ (r k) (r (k + 1000)))
theorem fy_obj {G : GT} {n ci : Nat} (h : Is n ci) (hc : ci ≤ 12) : finY G n = .inr (ci, (List.range (nf ci)).map (slotC G n ci (ini n))) := by
  unfold finY
  rw [h.2, if_neg (by omega), if_neg (by omega), cell_obj h hc]
  congr 2
  apply List.map_congr_left
  intro k _
  unfold slotV slotC sp
  rw [h.2, if_pos hc]
theorem fy_arr {G : GT} {n κ L : Nat} (h : n < NC ∧ kd n = κ ∧ ln n = L) (h1 : 13 ≤ κ) (h2 : κ ≤ 15) {f : Nat → Int32} (hf : ini n = f) : finY G n = .inl (gY G κ, L, .inl f) := by
  unfold finY
  rw [h.2.1, if_neg (by omega), if_neg (by omega), cell_arr ⟨h.1, h.2.1⟩ h1 h2, hf, h.2.2]
theorem fy_ref {G : GT} {n κ L : Nat} (h : n < NC ∧ kd n = κ ∧ ln n = L) (h1 : 16 ≤ κ) (h2 : κ ≤ 23) : finY G n = refI G κ n L := by
  unfold finY
  rw [h.2.1, if_pos ⟨h1, h2⟩, h.2.2]
theorem ini_0 {n : Nat} (h : kd n ≠ 9 ∧ kd n ≠ 7 ∧ ¬ (kd n = 14 ∧ kd (n - 1) = 7) ∧ n ≠ 146 ∧ n ≠ 235 ∧ n ≠ 273) : ini n = fun _ => 0 := by
  funext k
  unfold ini
  rw [if_neg (fun z => h.1 z.1), if_neg (fun z => h.2.1 z.1), if_neg h.2.2.1, if_neg (fun z => h.2.2.2.1 z.1), if_neg (fun z => h.2.2.2.1 z.1), if_neg h.2.2.2.2.1, if_neg (fun z => h.2.2.2.2.2 z.1)]
theorem bl_7 : ∀ j, j < 3 → defaultValue (tyX7 j) = vp_V [.int 0, .int 0, .null] j := by decide +kernel
theorem bl_8 : ∀ j, j < 5 → defaultValue (tyX8 j) = vp_V [.int 0, .null, .null, .null, .null] j := by decide +kernel
theorem bl_4 : ∀ j, j < 4 → defaultValue (tyX4 j) = vp_V [.int 0, .null, .null, .null] j := by decide +kernel
theorem bl_1 : ∀ j, j < 3 → defaultValue (tyX1 j) = vp_V [.int 0, .null, .null] j := by decide +kernel
theorem bl_10 : ∀ j, j < 12 → defaultValue (tyX10 j) = vp_V [.int 0, .int 0, .int 0, .int 0, .int 0, .int 0, .int 0, .int 0, .int 0, .null, .null, .null] j := by decide +kernel
theorem bl_2 : ∀ j, j < 11 → defaultValue (tyX2 j) = vp_V [.int 0, .int 0, .int 0, .int 0, .int 0, .int 0, .int 0, .int 0, .int 0, .int 0, .null] j := by decide +kernel
theorem bl_9 : ∀ j, j < 9 → defaultValue (tyX9 j) = vp_V [.null, .int 0, .int 0, .int 0, .null, .null, .null, .null, .null] j := by decide +kernel
theorem bl_5 : ∀ j, j < 15 → defaultValue (tyX5 j) = vp_V [.null, .int 0, .int 0, .int 0, .int 0, .int 0, .int 0, .int 0, .int 0, .null, .null, .int 0, .int 0, .int 0, .int 0] j := by decide +kernel
theorem bl_3 : ∀ j, j < 20 → defaultValue (tyX3 j) = vp_V [.null, .null, .int 0, .int 0, .null, .null, .null, .null, .null, .null, .null, .int 0, .int 0, .null, .null, .null, .null, .int 0, .int 0, .int 0] j := by decide +kernel
theorem bl_0 : ∀ j, j < 6 → defaultValue (tyX0 j) = vp_V [.null, .int 0, .null, .null, .null, .int 0] j := by decide +kernel
theorem bl_6 : ∀ j, j < 4 → defaultValue (tyX6 j) = vp_V [.null, .null, .null, .int 0] j := by decide +kernel
theorem bl_11 : ∀ j, j < 11 → defaultValue (tyX11 j) = vp_V [.null, .null, .null, .null, .null, .null, .null, .null, .null, .null, .int 0] j := by decide +kernel
theorem bl_12 : ∀ j, j < 92 → defaultValue (tyX12 j) = vp_V [.int 0, .null, .null, .null, .null, .null, .null, .null, .null, .null, .int 0, .int 0, .int 0, .int 0, .int 0, .long 0, .int 0, .int 0, .int 0, .null, .null, .int 0, .int 0, .int 0, .int 0, .int 0, .int 0, .int 0, .int 0, .int 0, .int 0, .null, .null, .null, .null, .null, .null, .null, .null, .null, .null, .null, .null, .null, .null, .null, .null, .null, .null, .null, .null, .null, .null, .null, .int 0, .int 0, .int 0, .int 0, .int 0, .int 0, .null, .null, .int 0, .int 0, .int 0, .int 0, .int 0, .null, .null, .int 0, .null, .int 0, .int 0, .null, .null, .null, .int 0, .int 0, .int 0, .int 0, .int 0, .int 0, .null, .int 0, .int 0, .int 0, .int 0, .int 0, .int 0, .int 0, .int 0, .null] j := by decide +kernel
theorem ln_at_9_3 {t : Nat} (hk : Is t 9) : ln (t + 3) = 2 := (show ∀ t, t < NC → kd t = 9 → ln (t + 3) = 2 by decide +kernel) t hk.1 hk.2
theorem ln_at_9_4 {t : Nat} (hk : Is t 9) : ln (t + 4) = 2 := (show ∀ t, t < NC → kd t = 9 → ln (t + 4) = 2 by decide +kernel) t hk.1 hk.2
theorem ln_at_9_5 {t : Nat} (hk : Is t 9) : ln (t + 5) = 2 := (show ∀ t, t < NC → kd t = 9 → ln (t + 5) = 2 by decide +kernel) t hk.1 hk.2
theorem ln_at_9_6 {t : Nat} (hk : Is t 9) : ln (t + 6) = 2 := (show ∀ t, t < NC → kd t = 9 → ln (t + 6) = 2 by decide +kernel) t hk.1 hk.2
theorem ln_at_3_6 : ln 152 = 4 := by decide +kernel
theorem ln_at_3_7 : ln 153 = 30 := by decide +kernel
theorem ln_at_0_1 : ln 235 = 30 := by decide +kernel
theorem ln_at_0_2 : ln 236 = 7 := by decide +kernel
theorem ln_at_6_2 : ln 248 = 16 := by decide +kernel
theorem ln_at_11_36 : ln 36 = 3 := by decide +kernel
theorem es23_236 (j : Nat) : sp 236 j = 236 + 1 + j := by unfold sp; rw [(show kd 236 = 23 by decide +kernel), if_neg (by decide), if_neg (by decide), if_neg (by decide), if_neg (by decide), if_neg (by decide), if_neg (by decide), if_neg (by decide), if_neg (by decide)]
theorem es23_248 (j : Nat) : sp 248 j = 248 + 1 + j := by unfold sp; rw [(show kd 248 = 23 by decide +kernel), if_neg (by decide), if_neg (by decide), if_neg (by decide), if_neg (by decide), if_neg (by decide), if_neg (by decide), if_neg (by decide), if_neg (by decide)]
theorem fyA_236 {G : GT} (n : Nat) (a : 237 ≤ n) (b : n < 244) : finY G n = .inl (gY G 14, 10, .inl (fun _ => 0)) := by
  have h := (show ∀ j, j < 7 → (237 + j < NC ∧ kd (237 + j) = 14 ∧ ln (237 + j) = 10) ∧ (kd (237 + j) ≠ 9 ∧ kd (237 + j) ≠ 7 ∧ ¬ (kd (237 + j) = 14 ∧ kd (237 + j - 1) = 7) ∧ 237 + j ≠ 146 ∧ 237 + j ≠ 235 ∧ 237 + j ≠ 273) by decide +kernel) (n - 237) (by omega)
  rw [show 237 + (n - 237) = n by omega] at h
  exact fy_arr h.1 (by decide) (by decide) (ini_0 h.2)
theorem fyA_248 {G : GT} (n : Nat) (a : 249 ≤ n) (b : n < 265) : finY G n = .inl (gY G 14, 10, .inl (fun _ => 0)) := by
  have h := (show ∀ j, j < 16 → (249 + j < NC ∧ kd (249 + j) = 14 ∧ ln (249 + j) = 10) ∧ (kd (249 + j) ≠ 9 ∧ kd (249 + j) ≠ 7 ∧ ¬ (kd (249 + j) = 14 ∧ kd (249 + j - 1) = 7) ∧ 249 + j ≠ 146 ∧ 249 + j ≠ 235 ∧ 249 + j ≠ 273) by decide +kernel) (n - 249) (by omega)
  rw [show 249 + (n - 249) = n by omega] at h
  exact fy_arr h.1 (by decide) (by decide) (ini_0 h.2)
theorem fyE_7 {G : GT} {n : Nat} (h : Is n 7) : finY G n = .inr (7, [.int 2, .int 2, .ref (gA G (n + 1))]) := by
  rw [fy_obj h (by decide)]
  have e : ini n = fun k => if k < 2 then 2 else 0 := by funext k; unfold ini; rw [h.2]; have h9 := (show ∀ n, n < NC → kd n = 7 → n ≠ 146 ∧ n ≠ 235 ∧ n ≠ 273 by decide +kernel) n h.1 h.2; simp [h9.1, h9.2.1, h9.2.2]
  rw [e]
  rfl
theorem fyE_8 {G : GT} {n : Nat} (h : Is n 8) : finY G n = .inr (8, [.int 0, .ref (gA G (n + 1)), .ref (gA G (n + 2)), .ref (gA G (n + 3)), .ref (gA G (n + 4))]) := by
  rw [fy_obj h (by decide)]
  have h9 := (show ∀ n, n < NC → kd n = 8 → n ≠ 146 ∧ n ≠ 235 ∧ n ≠ 273 by decide +kernel) n h.1 h.2
  rw [ini_0 (by rw [h.2]; exact ⟨by decide, by decide, fun z => absurd z.1 (by decide), h9⟩)]
  rfl
theorem fyE_4 {G : GT} {n : Nat} (h : Is n 4) : finY G n = .inr (4, [.int 0, .ref (gA G (n + 1)), .ref (gA G (n + 2)), .ref (gA G (n + 3))]) := by
  rw [fy_obj h (by decide)]
  have h9 := (show ∀ n, n < NC → kd n = 4 → n ≠ 146 ∧ n ≠ 235 ∧ n ≠ 273 by decide +kernel) n h.1 h.2
  rw [ini_0 (by rw [h.2]; exact ⟨by decide, by decide, fun z => absurd z.1 (by decide), h9⟩)]
  rfl
theorem fyE_1 {G : GT} {n : Nat} (h : Is n 1) : finY G n = .inr (1, [.int 0, .ref (gA G (n + 1)), .ref (gA G (n + 2))]) := by
  rw [fy_obj h (by decide)]
  have h9 := (show ∀ n, n < NC → kd n = 1 → n ≠ 146 ∧ n ≠ 235 ∧ n ≠ 273 by decide +kernel) n h.1 h.2
  rw [ini_0 (by rw [h.2]; exact ⟨by decide, by decide, fun z => absurd z.1 (by decide), h9⟩)]
  rfl
theorem fyE_10 {G : GT} {n : Nat} (h : Is n 10) : finY G n = .inr (10, [.int 0, .int 0, .int 0, .int 0, .int 0, .int 0, .int 0, .int 0, .int 0, .ref (gA G (n + 1)), .ref (gA G (n + 2)), .ref (gA G (n + 3))]) := by
  rw [fy_obj h (by decide)]
  have h9 := (show ∀ n, n < NC → kd n = 10 → n ≠ 146 ∧ n ≠ 235 ∧ n ≠ 273 by decide +kernel) n h.1 h.2
  rw [ini_0 (by rw [h.2]; exact ⟨by decide, by decide, fun z => absurd z.1 (by decide), h9⟩)]
  rfl
theorem fyE_2 {G : GT} {n : Nat} (h : Is n 2) : finY G n = .inr (2, [.int 0, .int 0, .int 0, .int 0, .int 0, .int 0, .int 0, .int 0, .int 0, .int 0, .ref (gA G (n + 1))]) := by
  rw [fy_obj h (by decide)]
  have h9 := (show ∀ n, n < NC → kd n = 2 → n ≠ 146 ∧ n ≠ 235 ∧ n ≠ 273 by decide +kernel) n h.1 h.2
  rw [ini_0 (by rw [h.2]; exact ⟨by decide, by decide, fun z => absurd z.1 (by decide), h9⟩)]
  rfl
theorem fyE_9 {G : GT} {n : Nat} (h : Is n 9) : finY G n = .inr (9, [.ref (gA G (n + 1)), .int 0, .int 0, .int (-1), .ref (gA G (n + 2)), .ref (gA G (n + 3)), .ref (gA G (n + 4)), .ref (gA G (n + 5)), .ref (gA G (n + 6))]) := by
  rw [fy_obj h (by decide)]
  have e : ini n = fun k => if k = 3 then -1 else 0 := by funext k; unfold ini; rw [h.2]; have h9 := (show ∀ n, n < NC → kd n = 9 → n ≠ 146 ∧ n ≠ 235 ∧ n ≠ 273 by decide +kernel) n h.1 h.2; simp [h9.1, h9.2.1, h9.2.2]
  rw [e]
  rfl
theorem fy_1 {G : GT} : finY G 1 = .inr (9, [.ref (gA G 2), .int 0, .int 0, .int (-1), .ref (gA G 3), .ref (gA G 4), .ref (gA G 5), .ref (gA G 6), .ref (gA G 7)]) := fyE_9 (show Is 1 9 by unfold Is; decide +kernel)
theorem fy_4 {G : GT} : finY G 4 = refI G 19 4 2 := fy_ref (by decide +kernel) (by decide) (by decide)
theorem fy_5 {G : GT} : finY G 5 = refI G 20 5 2 := fy_ref (by decide +kernel) (by decide) (by decide)
theorem isE_9_3_0 {t : Nat} (hk : Is t 9) : Is (t + 7) 7 := (show ∀ t, t < NC → kd t = 9 → t + 7 < NC ∧ kd (t + 7) = 7 by decide +kernel) t hk.1 hk.2
theorem spE_9_3_0 {t : Nat} (hk : Is t 9) : sp (t + 3) 0 = t + 7 := (show ∀ t, t < NC → kd t = 9 → sp (t + 3) 0 = t + 7 by decide +kernel) t hk.1 hk.2
theorem isE_9_4_0 {t : Nat} (hk : Is t 9) : Is (t + 9) 8 := (show ∀ t, t < NC → kd t = 9 → t + 9 < NC ∧ kd (t + 9) = 8 by decide +kernel) t hk.1 hk.2
theorem spE_9_4_0 {t : Nat} (hk : Is t 9) : sp (t + 4) 0 = t + 9 := (show ∀ t, t < NC → kd t = 9 → sp (t + 4) 0 = t + 9 by decide +kernel) t hk.1 hk.2
theorem isE_9_5_0 {t : Nat} (hk : Is t 9) : Is (t + 14) 4 := (show ∀ t, t < NC → kd t = 9 → t + 14 < NC ∧ kd (t + 14) = 4 by decide +kernel) t hk.1 hk.2
theorem spE_9_5_0 {t : Nat} (hk : Is t 9) : sp (t + 5) 0 = t + 14 := (show ∀ t, t < NC → kd t = 9 → sp (t + 5) 0 = t + 14 by decide +kernel) t hk.1 hk.2
theorem isE_9_6_0 {t : Nat} (hk : Is t 9) : Is (t + 18) 1 := (show ∀ t, t < NC → kd t = 9 → t + 18 < NC ∧ kd (t + 18) = 1 by decide +kernel) t hk.1 hk.2
theorem spE_9_6_0 {t : Nat} (hk : Is t 9) : sp (t + 6) 0 = t + 18 := (show ∀ t, t < NC → kd t = 9 → sp (t + 6) 0 = t + 18 by decide +kernel) t hk.1 hk.2
theorem isE_9_3_1 {t : Nat} (hk : Is t 9) : Is (t + 21) 7 := (show ∀ t, t < NC → kd t = 9 → t + 21 < NC ∧ kd (t + 21) = 7 by decide +kernel) t hk.1 hk.2
theorem spE_9_3_1 {t : Nat} (hk : Is t 9) : sp (t + 3) 1 = t + 21 := (show ∀ t, t < NC → kd t = 9 → sp (t + 3) 1 = t + 21 by decide +kernel) t hk.1 hk.2
theorem isE_9_4_1 {t : Nat} (hk : Is t 9) : Is (t + 23) 8 := (show ∀ t, t < NC → kd t = 9 → t + 23 < NC ∧ kd (t + 23) = 8 by decide +kernel) t hk.1 hk.2
theorem spE_9_4_1 {t : Nat} (hk : Is t 9) : sp (t + 4) 1 = t + 23 := (show ∀ t, t < NC → kd t = 9 → sp (t + 4) 1 = t + 23 by decide +kernel) t hk.1 hk.2
theorem isE_9_5_1 {t : Nat} (hk : Is t 9) : Is (t + 28) 4 := (show ∀ t, t < NC → kd t = 9 → t + 28 < NC ∧ kd (t + 28) = 4 by decide +kernel) t hk.1 hk.2
theorem spE_9_5_1 {t : Nat} (hk : Is t 9) : sp (t + 5) 1 = t + 28 := (show ∀ t, t < NC → kd t = 9 → sp (t + 5) 1 = t + 28 by decide +kernel) t hk.1 hk.2
theorem isE_9_6_1 {t : Nat} (hk : Is t 9) : Is (t + 32) 1 := (show ∀ t, t < NC → kd t = 9 → t + 32 < NC ∧ kd (t + 32) = 1 by decide +kernel) t hk.1 hk.2
theorem spE_9_6_1 {t : Nat} (hk : Is t 9) : sp (t + 6) 1 = t + 32 := (show ∀ t, t < NC → kd t = 9 → sp (t + 6) 1 = t + 32 by decide +kernel) t hk.1 hk.2
theorem isB_9_7 {t : Nat} (hk : Is t 9) : Is (t + 7) 7 := (show ∀ t, t < NC → kd t = 9 → t + 7 < NC ∧ kd (t + 7) = 7 by decide +kernel) t hk.1 hk.2
theorem isB_9_9 {t : Nat} (hk : Is t 9) : Is (t + 9) 8 := (show ∀ t, t < NC → kd t = 9 → t + 9 < NC ∧ kd (t + 9) = 8 by decide +kernel) t hk.1 hk.2
theorem isB_9_14 {t : Nat} (hk : Is t 9) : Is (t + 14) 4 := (show ∀ t, t < NC → kd t = 9 → t + 14 < NC ∧ kd (t + 14) = 4 by decide +kernel) t hk.1 hk.2
theorem isB_9_18 {t : Nat} (hk : Is t 9) : Is (t + 18) 1 := (show ∀ t, t < NC → kd t = 9 → t + 18 < NC ∧ kd (t + 18) = 1 by decide +kernel) t hk.1 hk.2
theorem isB_9_21 {t : Nat} (hk : Is t 9) : Is (t + 21) 7 := (show ∀ t, t < NC → kd t = 9 → t + 21 < NC ∧ kd (t + 21) = 7 by decide +kernel) t hk.1 hk.2
theorem isB_9_23 {t : Nat} (hk : Is t 9) : Is (t + 23) 8 := (show ∀ t, t < NC → kd t = 9 → t + 23 < NC ∧ kd (t + 23) = 8 by decide +kernel) t hk.1 hk.2
theorem isB_9_28 {t : Nat} (hk : Is t 9) : Is (t + 28) 4 := (show ∀ t, t < NC → kd t = 9 → t + 28 < NC ∧ kd (t + 28) = 4 by decide +kernel) t hk.1 hk.2
theorem isB_9_32 {t : Nat} (hk : Is t 9) : Is (t + 32) 1 := (show ∀ t, t < NC → kd t = 9 → t + 32 < NC ∧ kd (t + 32) = 1 by decide +kernel) t hk.1 hk.2
theorem fyj_1_0 {G : GT} {t : Nat} (hk : Is t 1) : finY G t = .inr (1, [.int 0, .ref (gA G (t + 1)), .ref (gA G (t + 2))]) := fyE_1 hk
theorem fyj_1_1 {G : GT} {t : Nat} (hk : Is t 1) : finY G (t + 1) = .inl (gY G 14, 8, .inl (fun _ => 0)) := by
  have h := (show ∀ t, t < NC → kd t = 1 → ((t + 1) < NC ∧ kd (t + 1) = 14 ∧ ln (t + 1) = 8) ∧ (kd (t + 1) ≠ 9 ∧ kd (t + 1) ≠ 7 ∧ ¬ (kd (t + 1) = 14 ∧ kd ((t + 1) - 1) = 7) ∧ (t + 1) ≠ 146 ∧ (t + 1) ≠ 235 ∧ (t + 1) ≠ 273) by decide +kernel) t hk.1 hk.2
  exact fy_arr h.1 (by decide) (by decide) (ini_0 h.2)
theorem fyj_1_2 {G : GT} {t : Nat} (hk : Is t 1) : finY G (t + 2) = .inl (gY G 14, 8, .inl (fun _ => 0)) := by
  have h := (show ∀ t, t < NC → kd t = 1 → ((t + 2) < NC ∧ kd (t + 2) = 14 ∧ ln (t + 2) = 8) ∧ (kd (t + 2) ≠ 9 ∧ kd (t + 2) ≠ 7 ∧ ¬ (kd (t + 2) = 14 ∧ kd ((t + 2) - 1) = 7) ∧ (t + 2) ≠ 146 ∧ (t + 2) ≠ 235 ∧ (t + 2) ≠ 273) by decide +kernel) t hk.1 hk.2
  exact fy_arr h.1 (by decide) (by decide) (ini_0 h.2)
theorem fyj_2_0 {G : GT} {t : Nat} (hk : Is t 2) : finY G t = .inr (2, [.int 0, .int 0, .int 0, .int 0, .int 0, .int 0, .int 0, .int 0, .int 0, .int 0, .ref (gA G (t + 1))]) := fyE_2 hk
theorem fyj_2_1 {G : GT} {t : Nat} (hk : Is t 2) : finY G (t + 1) = .inl (gY G 14, 10, .inl (fun _ => 0)) := by
  have h := (show ∀ t, t < NC → kd t = 2 → ((t + 1) < NC ∧ kd (t + 1) = 14 ∧ ln (t + 1) = 10) ∧ (kd (t + 1) ≠ 9 ∧ kd (t + 1) ≠ 7 ∧ ¬ (kd (t + 1) = 14 ∧ kd ((t + 1) - 1) = 7) ∧ (t + 1) ≠ 146 ∧ (t + 1) ≠ 235 ∧ (t + 1) ≠ 273) by decide +kernel) t hk.1 hk.2
  exact fy_arr h.1 (by decide) (by decide) (ini_0 h.2)
theorem fyj_4_0 {G : GT} {t : Nat} (hk : Is t 4) : finY G t = .inr (4, [.int 0, .ref (gA G (t + 1)), .ref (gA G (t + 2)), .ref (gA G (t + 3))]) := fyE_4 hk
theorem fyj_4_1 {G : GT} {t : Nat} (hk : Is t 4) : finY G (t + 1) = .inl (gY G 14, 40, .inl (fun _ => 0)) := by
  have h := (show ∀ t, t < NC → kd t = 4 → ((t + 1) < NC ∧ kd (t + 1) = 14 ∧ ln (t + 1) = 40) ∧ (kd (t + 1) ≠ 9 ∧ kd (t + 1) ≠ 7 ∧ ¬ (kd (t + 1) = 14 ∧ kd ((t + 1) - 1) = 7) ∧ (t + 1) ≠ 146 ∧ (t + 1) ≠ 235 ∧ (t + 1) ≠ 273) by decide +kernel) t hk.1 hk.2
  exact fy_arr h.1 (by decide) (by decide) (ini_0 h.2)
theorem fyj_4_2 {G : GT} {t : Nat} (hk : Is t 4) : finY G (t + 2) = .inl (gY G 14, 40, .inl (fun _ => 0)) := by
  have h := (show ∀ t, t < NC → kd t = 4 → ((t + 2) < NC ∧ kd (t + 2) = 14 ∧ ln (t + 2) = 40) ∧ (kd (t + 2) ≠ 9 ∧ kd (t + 2) ≠ 7 ∧ ¬ (kd (t + 2) = 14 ∧ kd ((t + 2) - 1) = 7) ∧ (t + 2) ≠ 146 ∧ (t + 2) ≠ 235 ∧ (t + 2) ≠ 273) by decide +kernel) t hk.1 hk.2
  exact fy_arr h.1 (by decide) (by decide) (ini_0 h.2)
theorem fyj_4_3 {G : GT} {t : Nat} (hk : Is t 4) : finY G (t + 3) = .inl (gY G 14, 40, .inl (fun _ => 0)) := by
  have h := (show ∀ t, t < NC → kd t = 4 → ((t + 3) < NC ∧ kd (t + 3) = 14 ∧ ln (t + 3) = 40) ∧ (kd (t + 3) ≠ 9 ∧ kd (t + 3) ≠ 7 ∧ ¬ (kd (t + 3) = 14 ∧ kd ((t + 3) - 1) = 7) ∧ (t + 3) ≠ 146 ∧ (t + 3) ≠ 235 ∧ (t + 3) ≠ 273) by decide +kernel) t hk.1 hk.2
  exact fy_arr h.1 (by decide) (by decide) (ini_0 h.2)
theorem fyj_8_0 {G : GT} {t : Nat} (hk : Is t 8) : finY G t = .inr (8, [.int 0, .ref (gA G (t + 1)), .ref (gA G (t + 2)), .ref (gA G (t + 3)), .ref (gA G (t + 4))]) := fyE_8 hk
theorem fyj_8_1 {G : GT} {t : Nat} (hk : Is t 8) : finY G (t + 1) = .inl (gY G 14, 7, .inl (fun _ => 0)) := by
  have h := (show ∀ t, t < NC → kd t = 8 → ((t + 1) < NC ∧ kd (t + 1) = 14 ∧ ln (t + 1) = 7) ∧ (kd (t + 1) ≠ 9 ∧ kd (t + 1) ≠ 7 ∧ ¬ (kd (t + 1) = 14 ∧ kd ((t + 1) - 1) = 7) ∧ (t + 1) ≠ 146 ∧ (t + 1) ≠ 235 ∧ (t + 1) ≠ 273) by decide +kernel) t hk.1 hk.2
  exact fy_arr h.1 (by decide) (by decide) (ini_0 h.2)
theorem fyj_8_2 {G : GT} {t : Nat} (hk : Is t 8) : finY G (t + 2) = .inl (gY G 14, 42, .inl (fun _ => 0)) := by
  have h := (show ∀ t, t < NC → kd t = 8 → ((t + 2) < NC ∧ kd (t + 2) = 14 ∧ ln (t + 2) = 42) ∧ (kd (t + 2) ≠ 9 ∧ kd (t + 2) ≠ 7 ∧ ¬ (kd (t + 2) = 14 ∧ kd ((t + 2) - 1) = 7) ∧ (t + 2) ≠ 146 ∧ (t + 2) ≠ 235 ∧ (t + 2) ≠ 273) by decide +kernel) t hk.1 hk.2
  exact fy_arr h.1 (by decide) (by decide) (ini_0 h.2)
theorem fyj_8_3 {G : GT} {t : Nat} (hk : Is t 8) : finY G (t + 3) = .inl (gY G 14, 42, .inl (fun _ => 0)) := by
  have h := (show ∀ t, t < NC → kd t = 8 → ((t + 3) < NC ∧ kd (t + 3) = 14 ∧ ln (t + 3) = 42) ∧ (kd (t + 3) ≠ 9 ∧ kd (t + 3) ≠ 7 ∧ ¬ (kd (t + 3) = 14 ∧ kd ((t + 3) - 1) = 7) ∧ (t + 3) ≠ 146 ∧ (t + 3) ≠ 235 ∧ (t + 3) ≠ 273) by decide +kernel) t hk.1 hk.2
  exact fy_arr h.1 (by decide) (by decide) (ini_0 h.2)
theorem fyj_8_4 {G : GT} {t : Nat} (hk : Is t 8) : finY G (t + 4) = .inl (gY G 14, 42, .inl (fun _ => 0)) := by
  have h := (show ∀ t, t < NC → kd t = 8 → ((t + 4) < NC ∧ kd (t + 4) = 14 ∧ ln (t + 4) = 42) ∧ (kd (t + 4) ≠ 9 ∧ kd (t + 4) ≠ 7 ∧ ¬ (kd (t + 4) = 14 ∧ kd ((t + 4) - 1) = 7) ∧ (t + 4) ≠ 146 ∧ (t + 4) ≠ 235 ∧ (t + 4) ≠ 273) by decide +kernel) t hk.1 hk.2
  exact fy_arr h.1 (by decide) (by decide) (ini_0 h.2)
theorem fyj_10_0 {G : GT} {t : Nat} (hk : Is t 10) : finY G t = .inr (10, [.int 0, .int 0, .int 0, .int 0, .int 0, .int 0, .int 0, .int 0, .int 0, .ref (gA G (t + 1)), .ref (gA G (t + 2)), .ref (gA G (t + 3))]) := fyE_10 hk
theorem fyj_10_1 {G : GT} {t : Nat} (hk : Is t 10) : finY G (t + 1) = .inl (gY G 14, 10, .inl (fun _ => 0)) := by
  have h := (show ∀ t, t < NC → kd t = 10 → ((t + 1) < NC ∧ kd (t + 1) = 14 ∧ ln (t + 1) = 10) ∧ (kd (t + 1) ≠ 9 ∧ kd (t + 1) ≠ 7 ∧ ¬ (kd (t + 1) = 14 ∧ kd ((t + 1) - 1) = 7) ∧ (t + 1) ≠ 146 ∧ (t + 1) ≠ 235 ∧ (t + 1) ≠ 273) by decide +kernel) t hk.1 hk.2
  exact fy_arr h.1 (by decide) (by decide) (ini_0 h.2)
theorem fyj_10_2 {G : GT} {t : Nat} (hk : Is t 10) : finY G (t + 2) = .inl (gY G 14, 10, .inl (fun _ => 0)) := by
  have h := (show ∀ t, t < NC → kd t = 10 → ((t + 2) < NC ∧ kd (t + 2) = 14 ∧ ln (t + 2) = 10) ∧ (kd (t + 2) ≠ 9 ∧ kd (t + 2) ≠ 7 ∧ ¬ (kd (t + 2) = 14 ∧ kd ((t + 2) - 1) = 7) ∧ (t + 2) ≠ 146 ∧ (t + 2) ≠ 235 ∧ (t + 2) ≠ 273) by decide +kernel) t hk.1 hk.2
  exact fy_arr h.1 (by decide) (by decide) (ini_0 h.2)
theorem fyj_10_3 {G : GT} {t : Nat} (hk : Is t 10) : finY G (t + 3) = .inl (gY G 14, 10, .inl (fun _ => 0)) := by
  have h := (show ∀ t, t < NC → kd t = 10 → ((t + 3) < NC ∧ kd (t + 3) = 14 ∧ ln (t + 3) = 10) ∧ (kd (t + 3) ≠ 9 ∧ kd (t + 3) ≠ 7 ∧ ¬ (kd (t + 3) = 14 ∧ kd ((t + 3) - 1) = 7) ∧ (t + 3) ≠ 146 ∧ (t + 3) ≠ 235 ∧ (t + 3) ≠ 273) by decide +kernel) t hk.1 hk.2
  exact fy_arr h.1 (by decide) (by decide) (ini_0 h.2)
theorem fyj_7_0 {G : GT} {t : Nat} (hk : Is t 7) : finY G t = .inr (7, [.int 2, .int 2, .ref (gA G (t + 1))]) := fyE_7 hk
theorem fyj_7_1 {G : GT} {t : Nat} (hk : Is t 7) : finY G (t + 1) = .inl (gY G 14, 10, .inl (fun k => if k < 10 then -1 else 0)) := by
  have h := (show ∀ t, t < NC → kd t = 7 → (t + 1 < NC ∧ kd (t + 1) = 14 ∧ ln (t + 1) = 10) by decide +kernel) t hk.1 hk.2
  refine fy_arr h (by decide) (by decide) (funext fun k => ?_)
  unfold ini
  rw [h.2.1, Nat.add_sub_cancel, hk.2]
  simp
theorem fyj_9_0 {G : GT} {t : Nat} (hk : Is t 9) : finY G t = .inr (9, [.ref (gA G (t + 1)), .int 0, .int 0, .int (-1), .ref (gA G (t + 2)), .ref (gA G (t + 3)), .ref (gA G (t + 4)), .ref (gA G (t + 5)), .ref (gA G (t + 6))]) := fyE_9 hk
theorem fyj_9_1 {G : GT} {t : Nat} (hk : Is t 9) : finY G (t + 1) = .inl (gY G 13, 600, .inl (fun _ => 0)) := by
  have h := (show ∀ t, t < NC → kd t = 9 → ((t + 1) < NC ∧ kd (t + 1) = 13 ∧ ln (t + 1) = 600) ∧ (kd (t + 1) ≠ 9 ∧ kd (t + 1) ≠ 7 ∧ ¬ (kd (t + 1) = 14 ∧ kd ((t + 1) - 1) = 7) ∧ (t + 1) ≠ 146 ∧ (t + 1) ≠ 235 ∧ (t + 1) ≠ 273) by decide +kernel) t hk.1 hk.2
  exact fy_arr h.1 (by decide) (by decide) (ini_0 h.2)
theorem fyj_9_2 {G : GT} {t : Nat} (hk : Is t 9) : finY G (t + 2) = .inl (gY G 14, 4, .inl (fun _ => 0)) := by
  have h := (show ∀ t, t < NC → kd t = 9 → ((t + 2) < NC ∧ kd (t + 2) = 14 ∧ ln (t + 2) = 4) ∧ (kd (t + 2) ≠ 9 ∧ kd (t + 2) ≠ 7 ∧ ¬ (kd (t + 2) = 14 ∧ kd ((t + 2) - 1) = 7) ∧ (t + 2) ≠ 146 ∧ (t + 2) ≠ 235 ∧ (t + 2) ≠ 273) by decide +kernel) t hk.1 hk.2
  exact fy_arr h.1 (by decide) (by decide) (ini_0 h.2)
theorem fyj_9_3 {G : GT} {t : Nat} (hk : Is t 9) : finY G (t + 3) = refI G 19 (t + 3) 2 := fy_ref ((show ∀ t, t < NC → kd t = 9 → t + 3 < NC ∧ kd (t + 3) = 19 ∧ ln (t + 3) = 2 by decide +kernel) t hk.1 hk.2) (by decide) (by decide)
theorem fyj_9_4 {G : GT} {t : Nat} (hk : Is t 9) : finY G (t + 4) = refI G 20 (t + 4) 2 := fy_ref ((show ∀ t, t < NC → kd t = 9 → t + 4 < NC ∧ kd (t + 4) = 20 ∧ ln (t + 4) = 2 by decide +kernel) t hk.1 hk.2) (by decide) (by decide)
theorem fyj_9_5 {G : GT} {t : Nat} (hk : Is t 9) : finY G (t + 5) = refI G 18 (t + 5) 2 := fy_ref ((show ∀ t, t < NC → kd t = 9 → t + 5 < NC ∧ kd (t + 5) = 18 ∧ ln (t + 5) = 2 by decide +kernel) t hk.1 hk.2) (by decide) (by decide)
theorem fyj_9_6 {G : GT} {t : Nat} (hk : Is t 9) : finY G (t + 6) = refI G 16 (t + 6) 2 := fy_ref ((show ∀ t, t < NC → kd t = 9 → t + 6 < NC ∧ kd (t + 6) = 16 ∧ ln (t + 6) = 2 by decide +kernel) t hk.1 hk.2) (by decide) (by decide)
theorem fyj_5_0 {G : GT} : finY G 143 = .inr (5, [.ref (gA G 2), .int 0, .int 0, .int 0, .int 0, .int 0, .int 0, .int 0, .int 0, .ref (gA G 144), .ref (gA G 145), .int 0, .int 0, .int 0, .int 0]) := by
  have h : Is 143 5 := by unfold Is; decide +kernel
  rw [fy_obj h (by decide)]
  have e : ini 143 = fun _ => 0 := ini_0 (by decide +kernel)
  rw [e]
  rfl
theorem fyj_5_1 {G : GT} : finY G 144 = .inl (gY G 14, 2, .inl (fun _ => 0)) := fy_arr (by decide +kernel) (by decide) (by decide) (ini_0 (by decide +kernel))
theorem fyj_5_2 {G : GT} : finY G 145 = .inl (gY G 14, 2, .inl (fun _ => 0)) := fy_arr (by decide +kernel) (by decide) (by decide) (ini_0 (by decide +kernel))
theorem fyj_3_0 {G : GT} : finY G 146 = .inr (3, [.ref (gA G 8), .ref (gA G 10), .int 0, .int 0, .ref (gA G 147), .ref (gA G 148), .ref (gA G 149), .ref (gA G 150), .ref (gA G 151), .ref (gA G 152), .ref (gA G 153), .int 0, .int 0, .ref (gA G 154), .ref (gA G 155), .ref (gA G 156), .ref (gA G 157), .int 0, .int 0, .int 0]) := by
  have h : Is 146 3 := by unfold Is; decide +kernel
  rw [fy_obj h (by decide)]
  have e : ini 146 = fun k => if k = 0 then 8 else if k = 1 then 10 else 0 := by funext k; unfold ini; rw [h.2]; simp
  rw [e]
  rfl
theorem fyj_3_1 {G : GT} : finY G 147 = .inl (gY G 14, 10, .inl (fun _ => 0)) := fy_arr (by decide +kernel) (by decide) (by decide) (ini_0 (by decide +kernel))
theorem fyj_3_2 {G : GT} : finY G 148 = .inl (gY G 14, 10, .inl (fun _ => 0)) := fy_arr (by decide +kernel) (by decide) (by decide) (ini_0 (by decide +kernel))
theorem fyj_3_3 {G : GT} : finY G 149 = .inl (gY G 14, 10, .inl (fun _ => 0)) := fy_arr (by decide +kernel) (by decide) (by decide) (ini_0 (by decide +kernel))
theorem fyj_3_4 {G : GT} : finY G 150 = .inl (gY G 14, 10, .inl (fun _ => 0)) := fy_arr (by decide +kernel) (by decide) (by decide) (ini_0 (by decide +kernel))
theorem fyj_3_5 {G : GT} : finY G 151 = .inl (gY G 14, 10, .inl (fun _ => 0)) := fy_arr (by decide +kernel) (by decide) (by decide) (ini_0 (by decide +kernel))
theorem fyj_3_6 {G : GT} : finY G 152 = refI G 22 152 4 := fy_ref (by decide +kernel) (by decide) (by decide)
theorem fyj_3_7 {G : GT} : finY G 153 = refI G 17 153 30 := fy_ref (by decide +kernel) (by decide) (by decide)
theorem fyj_3_8 {G : GT} : finY G 154 = .inl (gY G 14, 60, .inl (fun _ => 0)) := fy_arr (by decide +kernel) (by decide) (by decide) (ini_0 (by decide +kernel))
theorem fyj_3_9 {G : GT} : finY G 155 = .inl (gY G 14, 60, .inl (fun _ => 0)) := fy_arr (by decide +kernel) (by decide) (by decide) (ini_0 (by decide +kernel))
theorem fyj_3_10 {G : GT} : finY G 156 = .inl (gY G 14, 60, .inl (fun _ => 0)) := fy_arr (by decide +kernel) (by decide) (by decide) (ini_0 (by decide +kernel))
theorem fyj_3_11 {G : GT} : finY G 157 = .inl (gY G 14, 60, .inl (fun _ => 0)) := fy_arr (by decide +kernel) (by decide) (by decide) (ini_0 (by decide +kernel))
theorem fyj_0_0 {G : GT} : finY G 234 = .inr (0, [.ref (gA G 235), .int 0, .ref (gA G 236), .ref (gA G 244), .ref (gA G 245), .int 0]) := by
  have h : Is 234 0 := by unfold Is; decide +kernel
  rw [fy_obj h (by decide)]
  have e : ini 234 = fun _ => 0 := ini_0 (by decide +kernel)
  rw [e]
  rfl
theorem fyj_0_1 {G : GT} : finY G 235 = refI G 17 235 0 := by unfold finY; rw [(show kd 235 = 24 by decide +kernel), if_neg (by decide), if_pos rfl]
theorem fyj_0_2 {G : GT} : finY G 236 = refI G 23 236 7 := fy_ref (by decide +kernel) (by decide) (by decide)
theorem fyj_0_10 {G : GT} : finY G 244 = .inl (gY G 14, 6, .inl (fun _ => 0)) := fy_arr (by decide +kernel) (by decide) (by decide) (ini_0 (by decide +kernel))
theorem fyj_0_11 {G : GT} : finY G 245 = .inl (gY G 14, 6, .inl (fun _ => 0)) := fy_arr (by decide +kernel) (by decide) (by decide) (ini_0 (by decide +kernel))
theorem fyj_6_0 {G : GT} : finY G 246 = .inr (6, [.ref (gA G 247), .ref (gA G 248), .ref (gA G 265), .int 0]) := by
  have h : Is 246 6 := by unfold Is; decide +kernel
  rw [fy_obj h (by decide)]
  have e : ini 246 = fun _ => 0 := ini_0 (by decide +kernel)
  rw [e]
  rfl
theorem fyj_6_1 {G : GT} : finY G 247 = .inl (gY G 14, 16, .inl (fun _ => 0)) := fy_arr (by decide +kernel) (by decide) (by decide) (ini_0 (by decide +kernel))
theorem fyj_6_2 {G : GT} : finY G 248 = refI G 23 248 16 := fy_ref (by decide +kernel) (by decide) (by decide)
theorem fyj_6_19 {G : GT} : finY G 265 = .inl (gY G 14, 10, .inl (fun _ => 0)) := fy_arr (by decide +kernel) (by decide) (by decide) (ini_0 (by decide +kernel))
theorem fyj_11_0 {G : GT} : finY G 0 = .inr (11, [.ref (gA G 1), .ref (gA G 36), .ref (gA G 142), .ref (gA G 143), .ref (gA G 146), .ref (gA G 234), .ref (gA G 246), .ref (gA G 266), .ref (gA G 267), .ref (gA G 268), .int 0]) := by
  have h : Is 0 11 := by unfold Is; decide +kernel
  rw [fy_obj h (by decide)]
  have e : ini 0 = fun _ => 0 := ini_0 (by decide +kernel)
  rw [e]
  rfl
theorem fyj_11_36 {G : GT} : finY G 36 = refI G 21 36 3 := fy_ref (by decide +kernel) (by decide) (by decide)
theorem fyj_11_142 {G : GT} : finY G 142 = .inl (gY G 15, 3, .inl (fun _ => 0)) := fy_arr (by decide +kernel) (by decide) (by decide) (ini_0 (by decide +kernel))
theorem fyj_11_266 {G : GT} : finY G 266 = .inl (gY G 14, 5, .inl (fun _ => 0)) := fy_arr (by decide +kernel) (by decide) (by decide) (ini_0 (by decide +kernel))
theorem fyj_11_267 {G : GT} : finY G 267 = .inl (gY G 14, 10, .inl (fun _ => 0)) := fy_arr (by decide +kernel) (by decide) (by decide) (ini_0 (by decide +kernel))
theorem fyj_11_268 {G : GT} : finY G 268 = .inl (gY G 14, 10, .inl (fun _ => 0)) := fy_arr (by decide +kernel) (by decide) (by decide) (ini_0 (by decide +kernel))
theorem fyj_12_0 {G : GT} : finY G 269 = .inr (12, [.int 0, .ref (gA G 270), .ref (gA G 271), .ref (gA G 272), .ref (gA G 273), .ref (gA G 274), .ref (gA G 275), .ref (gA G 276), .ref (gA G 277), .ref (gA G 278), .int 0, .int 0, .int 0, .int 0, .int 0, .long 0, .int 0, .int 0, .int 0, .ref (gA G 279), .ref (gA G 280), .int 0, .int 0, .int 0, .int 0, .int 0, .int 0, .int 0, .int 0, .int 0, .int 0, .ref (gA G 281), .ref (gA G 282), .ref (gA G 283), .ref (gA G 284), .ref (gA G 285), .ref (gA G 286), .ref (gA G 287), .ref (gA G 288), .ref (gA G 289), .ref (gA G 290), .ref (gA G 291), .ref (gA G 292), .ref (gA G 293), .ref (gA G 294), .ref (gA G 295), .ref (gA G 296), .ref (gA G 297), .ref (gA G 298), .ref (gA G 299), .ref (gA G 300), .ref (gA G 301), .ref (gA G 302), .ref (gA G 303), .int 0, .int 0, .int 0, .int 0, .int 0, .int 0, .ref (gA G 304), .ref (gA G 305), .int 0, .int 0, .int 0, .int 0, .int 0, .ref (gA G 306), .ref (gA G 307), .int 0, .ref (gA G 308), .int 0, .int 0, .ref (gA G 309), .ref (gA G 310), .ref (gA G 311), .int 0, .int 0, .int 0, .int 0, .int 0, .int 0, .ref (gA G 312), .int 0, .int 0, .int 0, .int 0, .int 0, .int 0, .int 0, .int 0, .ref (gA G 313)]) := by
  have h : Is 269 12 := by unfold Is; decide +kernel
  rw [fy_obj h (by decide)]
  have e : ini 269 = fun _ => 0 := ini_0 (by decide +kernel)
  rw [e]
  rfl
theorem fyj_12_1 {G : GT} : finY G 270 = .inl (gY G 13, 2400, .inl (fun _ => 0)) := fy_arr (by decide +kernel) (by decide) (by decide) (ini_0 (by decide +kernel))
theorem fyj_12_2 {G : GT} : finY G 271 = .inl (gY G 14, 4, .inl (fun _ => 0)) := fy_arr (by decide +kernel) (by decide) (by decide) (ini_0 (by decide +kernel))
theorem fyj_12_3 {G : GT} : finY G 272 = .inl (gY G 14, 4, .inl (fun _ => 0)) := fy_arr (by decide +kernel) (by decide) (by decide) (ini_0 (by decide +kernel))
theorem fyj_12_4 {G : GT} : finY G 273 = .inl (gY G 14, 4, .inl (upd (fun _ => 0) 0 (-1))) := by
  refine fy_arr (by decide +kernel) (by decide) (by decide) (funext fun k => ?_)
  unfold ini upd
  rw [(show kd 273 = 14 by decide +kernel), (show kd (273 - 1) = 14 by decide +kernel)]
  by_cases h : k = 0 <;> simp [h]
theorem fyj_12_5 {G : GT} : finY G 274 = .inl (gY G 14, 16, .inl (fun _ => 0)) := fy_arr (by decide +kernel) (by decide) (by decide) (ini_0 (by decide +kernel))
theorem fyj_12_6 {G : GT} : finY G 275 = .inl (gY G 14, 104, .inl (fun _ => 0)) := fy_arr (by decide +kernel) (by decide) (by decide) (ini_0 (by decide +kernel))
theorem fyj_12_7 {G : GT} : finY G 276 = .inl (gY G 14, 1072, .inl (fun _ => 0)) := fy_arr (by decide +kernel) (by decide) (by decide) (ini_0 (by decide +kernel))
theorem fyj_12_8 {G : GT} : finY G 277 = .inl (gY G 14, 968, .inl (fun _ => 0)) := fy_arr (by decide +kernel) (by decide) (by decide) (ini_0 (by decide +kernel))
theorem fyj_12_9 {G : GT} : finY G 278 = .inl (gY G 14, 136, .inl (fun _ => 0)) := fy_arr (by decide +kernel) (by decide) (by decide) (ini_0 (by decide +kernel))
theorem fyj_12_10 {G : GT} : finY G 279 = .inl (gY G 14, 134, .inl (fun _ => 0)) := fy_arr (by decide +kernel) (by decide) (by decide) (ini_0 (by decide +kernel))
theorem fyj_12_11 {G : GT} : finY G 280 = .inl (gY G 14, 3, .inl (fun _ => 0)) := fy_arr (by decide +kernel) (by decide) (by decide) (ini_0 (by decide +kernel))
theorem fyj_12_12 {G : GT} : finY G 281 = .inl (gY G 14, 10, .inl (fun _ => 0)) := fy_arr (by decide +kernel) (by decide) (by decide) (ini_0 (by decide +kernel))
theorem fyj_12_13 {G : GT} : finY G 282 = .inl (gY G 14, 10, .inl (fun _ => 0)) := fy_arr (by decide +kernel) (by decide) (by decide) (ini_0 (by decide +kernel))
theorem fyj_12_14 {G : GT} : finY G 283 = .inl (gY G 14, 10, .inl (fun _ => 0)) := fy_arr (by decide +kernel) (by decide) (by decide) (ini_0 (by decide +kernel))
theorem fyj_12_15 {G : GT} : finY G 284 = .inl (gY G 14, 10, .inl (fun _ => 0)) := fy_arr (by decide +kernel) (by decide) (by decide) (ini_0 (by decide +kernel))
theorem fyj_12_16 {G : GT} : finY G 285 = .inl (gY G 14, 10, .inl (fun _ => 0)) := fy_arr (by decide +kernel) (by decide) (by decide) (ini_0 (by decide +kernel))
theorem fyj_12_17 {G : GT} : finY G 286 = .inl (gY G 14, 4, .inl (fun _ => 0)) := fy_arr (by decide +kernel) (by decide) (by decide) (ini_0 (by decide +kernel))
theorem fyj_12_18 {G : GT} : finY G 287 = .inl (gY G 14, 4, .inl (fun _ => 0)) := fy_arr (by decide +kernel) (by decide) (by decide) (ini_0 (by decide +kernel))
theorem fyj_12_19 {G : GT} : finY G 288 = .inl (gY G 14, 4, .inl (fun _ => 0)) := fy_arr (by decide +kernel) (by decide) (by decide) (ini_0 (by decide +kernel))
theorem fyj_12_20 {G : GT} : finY G 289 = .inl (gY G 14, 4, .inl (fun _ => 0)) := fy_arr (by decide +kernel) (by decide) (by decide) (ini_0 (by decide +kernel))
theorem fyj_12_21 {G : GT} : finY G 290 = .inl (gY G 14, 4, .inl (fun _ => 0)) := fy_arr (by decide +kernel) (by decide) (by decide) (ini_0 (by decide +kernel))
theorem fyj_12_22 {G : GT} : finY G 291 = .inl (gY G 14, 4, .inl (fun _ => 0)) := fy_arr (by decide +kernel) (by decide) (by decide) (ini_0 (by decide +kernel))
theorem fyj_12_23 {G : GT} : finY G 292 = .inl (gY G 14, 40, .inl (fun _ => 0)) := fy_arr (by decide +kernel) (by decide) (by decide) (ini_0 (by decide +kernel))
theorem fyj_12_24 {G : GT} : finY G 293 = .inl (gY G 14, 40, .inl (fun _ => 0)) := fy_arr (by decide +kernel) (by decide) (by decide) (ini_0 (by decide +kernel))
theorem fyj_12_25 {G : GT} : finY G 294 = .inl (gY G 14, 40, .inl (fun _ => 0)) := fy_arr (by decide +kernel) (by decide) (by decide) (ini_0 (by decide +kernel))
theorem fyj_12_26 {G : GT} : finY G 295 = .inl (gY G 14, 64, .inl (fun _ => 0)) := fy_arr (by decide +kernel) (by decide) (by decide) (ini_0 (by decide +kernel))
theorem fyj_12_27 {G : GT} : finY G 296 = .inl (gY G 14, 64, .inl (fun _ => 0)) := fy_arr (by decide +kernel) (by decide) (by decide) (ini_0 (by decide +kernel))
theorem fyj_12_28 {G : GT} : finY G 297 = .inl (gY G 14, 64, .inl (fun _ => 0)) := fy_arr (by decide +kernel) (by decide) (by decide) (ini_0 (by decide +kernel))
theorem fyj_12_29 {G : GT} : finY G 298 = .inl (gY G 14, 64, .inl (fun _ => 0)) := fy_arr (by decide +kernel) (by decide) (by decide) (ini_0 (by decide +kernel))
theorem fyj_12_30 {G : GT} : finY G 299 = .inl (gY G 14, 64, .inl (fun _ => 0)) := fy_arr (by decide +kernel) (by decide) (by decide) (ini_0 (by decide +kernel))
theorem fyj_12_31 {G : GT} : finY G 300 = .inl (gY G 14, 64, .inl (fun _ => 0)) := fy_arr (by decide +kernel) (by decide) (by decide) (ini_0 (by decide +kernel))
theorem fyj_12_32 {G : GT} : finY G 301 = .inl (gY G 14, 64, .inl (fun _ => 0)) := fy_arr (by decide +kernel) (by decide) (by decide) (ini_0 (by decide +kernel))
theorem fyj_12_33 {G : GT} : finY G 302 = .inl (gY G 14, 64, .inl (fun _ => 0)) := fy_arr (by decide +kernel) (by decide) (by decide) (ini_0 (by decide +kernel))
theorem fyj_12_34 {G : GT} : finY G 303 = .inl (gY G 14, 640, .inl (fun _ => 0)) := fy_arr (by decide +kernel) (by decide) (by decide) (ini_0 (by decide +kernel))
theorem fyj_12_35 {G : GT} : finY G 304 = .inl (gY G 14, 7, .inl (fun _ => 0)) := fy_arr (by decide +kernel) (by decide) (by decide) (ini_0 (by decide +kernel))
theorem fyj_12_36 {G : GT} : finY G 305 = .inl (gY G 14, 10, .inl (fun _ => 0)) := fy_arr (by decide +kernel) (by decide) (by decide) (ini_0 (by decide +kernel))
theorem fyj_12_37 {G : GT} : finY G 306 = .inl (gY G 14, 10, .inl (fun _ => 0)) := fy_arr (by decide +kernel) (by decide) (by decide) (ini_0 (by decide +kernel))
theorem fyj_12_38 {G : GT} : finY G 307 = .inl (gY G 14, 10, .inl (fun _ => 0)) := fy_arr (by decide +kernel) (by decide) (by decide) (ini_0 (by decide +kernel))
theorem fyj_12_39 {G : GT} : finY G 308 = .inl (gY G 14, 64, .inl (fun _ => 0)) := fy_arr (by decide +kernel) (by decide) (by decide) (ini_0 (by decide +kernel))
theorem fyj_12_40 {G : GT} : finY G 309 = .inl (gY G 14, 10, .inl (fun _ => 0)) := fy_arr (by decide +kernel) (by decide) (by decide) (ini_0 (by decide +kernel))
theorem fyj_12_41 {G : GT} : finY G 310 = .inl (gY G 14, 6, .inl (fun _ => 0)) := fy_arr (by decide +kernel) (by decide) (by decide) (ini_0 (by decide +kernel))
theorem fyj_12_42 {G : GT} : finY G 311 = .inl (gY G 14, 6, .inl (fun _ => 0)) := fy_arr (by decide +kernel) (by decide) (by decide) (ini_0 (by decide +kernel))
theorem fyj_12_43 {G : GT} : finY G 312 = .inl (gY G 14, 1010, .inl (fun _ => 0)) := fy_arr (by decide +kernel) (by decide) (by decide) (ini_0 (by decide +kernel))
theorem fyj_12_44 {G : GT} : finY G 313 = .inl (gY G 15, 3, .inl (fun _ => 0)) := fy_arr (by decide +kernel) (by decide) (by decide) (ini_0 (by decide +kernel))
def Kcl (G : GT) (t : Nat) (cs : Nat → va_E) : Nat → (Nat → va_E) → Prop := fun N' cs' => N' = t + 2 ∧ cs' t = .inr (7, [.int 2, .int 2, .ref (gA G (t + 1))]) ∧ cs' (t + 1) = .inl (gY G 14, 10, .inl (fun k => if k < 10 then -1 else 0)) ∧ ∀ n, n ≠ t → n ≠ t + 1 → cs' n = cs n
theorem wm_X1_3 : Cond.methodLink RX1 3 objectInit ∈ gw := gw_of 273 (by decide +kernel) (by decide +kernel)
theorem w_oi : Cond.instanceMethod objectInit ∈ gw := gw_of 167 (by decide +kernel) (by decide +kernel)
theorem w_oc : Cond.code objectInit ⟨#[0xb1]⟩ 1 none ∈ gw := gw_of 168 (by decide +kernel) (by decide +kernel)
theorem wa_int : Cond.arrayClass .int ∈ gw := gw_of 213 (by decide +kernel) (by decide +kernel)
theorem ff_X1_9 : FPf RX1 9 1 1 (.array .int) := ⟨RX1, TX1, 3, tyX1, rfl, by decide, i_X1, gw_of 277 (by decide +kernel) (by decide +kernel), tyX1_ok, nmX1, rfl, rfl, (by decide +kernel)⟩
theorem ff_X1_15 : FPf RX1 15 1 2 (.array .int) := ⟨RX1, TX1, 3, tyX1, rfl, by decide, i_X1, gw_of 279 (by decide +kernel) (by decide +kernel), tyX1_ok, nmX1, rfl, rfl, (by decide +kernel)⟩
theorem wm_X2_3 : Cond.methodLink RX2 3 objectInit ∈ gw := gw_of 449 (by decide +kernel) (by decide +kernel)
theorem ff_X2_9 : FPf RX2 9 2 10 (.array .int) := ⟨RX2, TX2, 11, tyX2, rfl, by decide, i_X2, gw_of 468 (by decide +kernel) (by decide +kernel), tyX2_ok, nmX2, rfl, rfl, (by decide +kernel)⟩
theorem wm_X4_3 : Cond.methodLink RX4 3 objectInit ∈ gw := gw_of 250 (by decide +kernel) (by decide +kernel)
theorem ff_X4_9 : FPf RX4 9 4 1 (.array .int) := ⟨RX4, TX4, 4, tyX4, rfl, by decide, i_X4, gw_of 254 (by decide +kernel) (by decide +kernel), tyX4_ok, nmX4, rfl, rfl, (by decide +kernel)⟩
theorem ff_X4_15 : FPf RX4 15 4 2 (.array .int) := ⟨RX4, TX4, 4, tyX4, rfl, by decide, i_X4, gw_of 256 (by decide +kernel) (by decide +kernel), tyX4_ok, nmX4, rfl, rfl, (by decide +kernel)⟩
theorem ff_X4_18 : FPf RX4 18 4 3 (.array .int) := ⟨RX4, TX4, 4, tyX4, rfl, by decide, i_X4, gw_of 258 (by decide +kernel) (by decide +kernel), tyX4_ok, nmX4, rfl, rfl, (by decide +kernel)⟩
theorem wm_X8_3 : Cond.methodLink RX8 3 objectInit ∈ gw := gw_of 218 (by decide +kernel) (by decide +kernel)
theorem ff_X8_9 : FPf RX8 9 8 1 (.array .int) := ⟨RX8, TX8, 5, tyX8, rfl, by decide, i_X8, gw_of 223 (by decide +kernel) (by decide +kernel), tyX8_ok, nmX8, rfl, rfl, (by decide +kernel)⟩
theorem ff_X8_15 : FPf RX8 15 8 2 (.array .int) := ⟨RX8, TX8, 5, tyX8, rfl, by decide, i_X8, gw_of 226 (by decide +kernel) (by decide +kernel), tyX8_ok, nmX8, rfl, rfl, (by decide +kernel)⟩
theorem ff_X8_18 : FPf RX8 18 8 3 (.array .int) := ⟨RX8, TX8, 5, tyX8, rfl, by decide, i_X8, gw_of 229 (by decide +kernel) (by decide +kernel), tyX8_ok, nmX8, rfl, rfl, (by decide +kernel)⟩
theorem ff_X8_21 : FPf RX8 21 8 4 (.array .int) := ⟨RX8, TX8, 5, tyX8, rfl, by decide, i_X8, gw_of 232 (by decide +kernel) (by decide +kernel), tyX8_ok, nmX8, rfl, rfl, (by decide +kernel)⟩
theorem wm_X10_3 : Cond.methodLink RX10 3 objectInit ∈ gw := gw_of 395 (by decide +kernel) (by decide +kernel)
theorem ff_X10_9 : FPf RX10 9 10 9 (.array .int) := ⟨RX10, TX10, 12, tyX10, rfl, by decide, i_X10, gw_of 414 (by decide +kernel) (by decide +kernel), tyX10_ok, nmX10, rfl, rfl, (by decide +kernel)⟩
theorem ff_X10_15 : FPf RX10 15 10 10 (.array .int) := ⟨RX10, TX10, 12, tyX10, rfl, by decide, i_X10, gw_of 416 (by decide +kernel) (by decide +kernel), tyX10_ok, nmX10, rfl, rfl, (by decide +kernel)⟩
theorem ff_X10_18 : FPf RX10 18 10 11 (.array .int) := ⟨RX10, TX10, 12, tyX10, rfl, by decide, i_X10, gw_of 418 (by decide +kernel) (by decide +kernel), tyX10_ok, nmX10, rfl, rfl, (by decide +kernel)⟩
theorem wm_X7_3 : Cond.methodLink RX7 3 objectInit ∈ gw := gw_of 187 (by decide +kernel) (by decide +kernel)
theorem ff_X7_9 : FPf RX7 9 7 2 (.array .int) := ⟨RX7, TX7, 3, tyX7, rfl, by decide, i_X7, gw_of 201 (by decide +kernel) (by decide +kernel), tyX7_ok, nmX7, rfl, rfl, (by decide +kernel)⟩
theorem wm_X9_3 : Cond.methodLink RX9 3 objectInit ∈ gw := gw_of 174 (by decide +kernel) (by decide +kernel)
theorem wa_byte : Cond.arrayClass .byte ∈ gw := gw_of 212 (by decide +kernel) (by decide +kernel)
theorem ff_X9_9 : FPf RX9 9 9 0 (.array .byte) := ⟨RX9, TX9, 9, tyX9, rfl, by decide, i_X9, gw_of 288 (by decide +kernel) (by decide +kernel), tyX9_ok, nmX9, rfl, rfl, (by decide +kernel)⟩
theorem ff_X9_19 : FPf RX9 19 9 4 (.array .int) := ⟨RX9, TX9, 9, tyX9, rfl, by decide, i_X9, gw_of 296 (by decide +kernel) (by decide +kernel), tyX9_ok, nmX9, rfl, rfl, (by decide +kernel)⟩
theorem wc_X9_23 : Cond.classLink RX9 23 RX7 ∈ gw := gw_of 175 (by decide +kernel) (by decide +kernel)
theorem wo_7 : Cond.arrayOver (.object RX7) ∈ lw_tbl := List.mem_of_getElem? (i := 176) (by decide +kernel)
theorem ff_X9_25 : FPf RX9 25 9 5 (.array (.object "EpochEngine$Store")) := ⟨RX9, TX9, 9, tyX9, rfl, by decide, i_X9, gw_of 298 (by decide +kernel) (by decide +kernel), tyX9_ok, nmX9, rfl, rfl, (by decide +kernel)⟩
theorem wc_X9_29 : Cond.classLink RX9 29 RX8 ∈ gw := gw_of 177 (by decide +kernel) (by decide +kernel)
theorem wo_8 : Cond.arrayOver (.object RX8) ∈ lw_tbl := List.mem_of_getElem? (i := 178) (by decide +kernel)
theorem ff_X9_31 : FPf RX9 31 9 6 (.array (.object "EpochEngine$TaskBook")) := ⟨RX9, TX9, 9, tyX9, rfl, by decide, i_X9, gw_of 300 (by decide +kernel) (by decide +kernel), tyX9_ok, nmX9, rfl, rfl, (by decide +kernel)⟩
theorem wc_X9_35 : Cond.classLink RX9 35 RX4 ∈ gw := gw_of 179 (by decide +kernel) (by decide +kernel)
theorem wo_4 : Cond.arrayOver (.object RX4) ∈ lw_tbl := List.mem_of_getElem? (i := 180) (by decide +kernel)
theorem ff_X9_37 : FPf RX9 37 9 7 (.array (.object "EpochEngine$Plan")) := ⟨RX9, TX9, 9, tyX9, rfl, by decide, i_X9, gw_of 302 (by decide +kernel) (by decide +kernel), tyX9_ok, nmX9, rfl, rfl, (by decide +kernel)⟩
theorem wc_X9_41 : Cond.classLink RX9 41 RX1 ∈ gw := gw_of 181 (by decide +kernel) (by decide +kernel)
theorem wo_1 : Cond.arrayOver (.object RX1) ∈ lw_tbl := List.mem_of_getElem? (i := 182) (by decide +kernel)
theorem ff_X9_43 : FPf RX9 43 9 8 (.array (.object "EpochEngine$Diary")) := ⟨RX9, TX9, 9, tyX9, rfl, by decide, i_X9, gw_of 304 (by decide +kernel) (by decide +kernel), tyX9_ok, nmX9, rfl, rfl, (by decide +kernel)⟩
theorem wi_7 : Cond.instantiable RX7 3 ∈ gw := gw_of 183 (by decide +kernel) (by decide +kernel)
theorem wn_7 : Cond.initialized RX7 ∈ gw := gw_of 142 (by decide +kernel) (by decide +kernel)
theorem mw_X7_init : MW yX7_init cX7_init 1 none 0 := ⟨gw_of 142 (by decide +kernel) (by decide +kernel), gw_of 186 (by decide +kernel) (by decide +kernel), (by decide +kernel), by decide⟩
theorem win_X7_init : Cond.instanceMethod yX7_init ∈ gw := gw_of 185 (by decide +kernel) (by decide +kernel)
theorem wm_X9_47 : Cond.methodLink RX9 47 yX7_init ∈ gw := gw_of 184 (by decide +kernel) (by decide +kernel)
theorem wi_8 : Cond.instantiable RX8 5 ∈ gw := gw_of 214 (by decide +kernel) (by decide +kernel)
theorem wn_8 : Cond.initialized RX8 ∈ gw := gw_of 144 (by decide +kernel) (by decide +kernel)
theorem mw_X8_init : MW yX8_init cX8_init 1 none 0 := ⟨gw_of 144 (by decide +kernel) (by decide +kernel), gw_of 217 (by decide +kernel) (by decide +kernel), (by decide +kernel), by decide⟩
theorem win_X8_init : Cond.instanceMethod yX8_init ∈ gw := gw_of 216 (by decide +kernel) (by decide +kernel)
theorem wm_X9_48 : Cond.methodLinkNest RX9 48 yX8_init "EpochEngine" ∈ nw := nw_of 215 (by decide +kernel) (by decide +kernel)
theorem wi_4 : Cond.instantiable RX4 4 ∈ gw := gw_of 246 (by decide +kernel) (by decide +kernel)
theorem wn_4 : Cond.initialized RX4 ∈ gw := gw_of 145 (by decide +kernel) (by decide +kernel)
theorem mw_X4_init : MW yX4_init cX4_init 1 none 0 := ⟨gw_of 145 (by decide +kernel) (by decide +kernel), gw_of 249 (by decide +kernel) (by decide +kernel), (by decide +kernel), by decide⟩
theorem win_X4_init : Cond.instanceMethod yX4_init ∈ gw := gw_of 248 (by decide +kernel) (by decide +kernel)
theorem wm_X9_49 : Cond.methodLinkNest RX9 49 yX4_init "EpochEngine" ∈ nw := nw_of 247 (by decide +kernel) (by decide +kernel)
theorem wi_1 : Cond.instantiable RX1 3 ∈ gw := gw_of 269 (by decide +kernel) (by decide +kernel)
theorem wn_1 : Cond.initialized RX1 ∈ gw := gw_of 146 (by decide +kernel) (by decide +kernel)
theorem mw_X1_init : MW yX1_init cX1_init 1 none 0 := ⟨gw_of 146 (by decide +kernel) (by decide +kernel), gw_of 272 (by decide +kernel) (by decide +kernel), (by decide +kernel), by decide⟩
theorem win_X1_init : Cond.instanceMethod yX1_init ∈ gw := gw_of 271 (by decide +kernel) (by decide +kernel)
theorem wm_X9_50 : Cond.methodLinkNest RX9 50 yX1_init "EpochEngine" ∈ nw := nw_of 270 (by decide +kernel) (by decide +kernel)
theorem wm_X5_3 : Cond.methodLink RX5 3 objectInit ∈ gw := gw_of 331 (by decide +kernel) (by decide +kernel)
theorem ff_X5_9 : FPf RX5 9 5 9 (.array .int) := ⟨RX5, TX5, 15, tyX5, rfl, by decide, i_X5, gw_of 341 (by decide +kernel) (by decide +kernel), tyX5_ok, nmX5, rfl, rfl, (by decide +kernel)⟩
theorem ff_X5_15 : FPf RX5 15 5 10 (.array .int) := ⟨RX5, TX5, 15, tyX5, rfl, by decide, i_X5, gw_of 342 (by decide +kernel) (by decide +kernel), tyX5_ok, nmX5, rfl, rfl, (by decide +kernel)⟩
theorem ff_X5_18 : FPf RX5 18 5 0 (.array .byte) := ⟨RX5, TX5, 15, tyX5, rfl, by decide, i_X5, gw_of 332 (by decide +kernel) (by decide +kernel), tyX5_ok, nmX5, rfl, rfl, (by decide +kernel)⟩
theorem wm_X3_3 : Cond.methodLink RX3 3 objectInit ∈ gw := gw_of 386 (by decide +kernel) (by decide +kernel)
theorem ff_X3_9 : FPf RX3 9 3 4 (.array .int) := ⟨RX3, TX3, 20, tyX3, rfl, by decide, i_X3, gw_of 501 (by decide +kernel) (by decide +kernel), tyX3_ok, nmX3, rfl, rfl, (by decide +kernel)⟩
theorem ff_X3_15 : FPf RX3 15 3 5 (.array .int) := ⟨RX3, TX3, 20, tyX3, rfl, by decide, i_X3, gw_of 503 (by decide +kernel) (by decide +kernel), tyX3_ok, nmX3, rfl, rfl, (by decide +kernel)⟩
theorem ff_X3_18 : FPf RX3 18 3 6 (.array .int) := ⟨RX3, TX3, 20, tyX3, rfl, by decide, i_X3, gw_of 504 (by decide +kernel) (by decide +kernel), tyX3_ok, nmX3, rfl, rfl, (by decide +kernel)⟩
theorem ff_X3_21 : FPf RX3 21 3 7 (.array .int) := ⟨RX3, TX3, 20, tyX3, rfl, by decide, i_X3, gw_of 505 (by decide +kernel) (by decide +kernel), tyX3_ok, nmX3, rfl, rfl, (by decide +kernel)⟩
theorem ff_X3_24 : FPf RX3 24 3 8 (.array .int) := ⟨RX3, TX3, 20, tyX3, rfl, by decide, i_X3, gw_of 506 (by decide +kernel) (by decide +kernel), tyX3_ok, nmX3, rfl, rfl, (by decide +kernel)⟩
theorem wc_X3_27 : Cond.classLink RX3 27 RX10 ∈ gw := gw_of 387 (by decide +kernel) (by decide +kernel)
theorem wo_10 : Cond.arrayOver (.object RX10) ∈ lw_tbl := List.mem_of_getElem? (i := 388) (by decide +kernel)
theorem ff_X3_29 : FPf RX3 29 3 9 (.array (.object "EpochEngine$Worker")) := ⟨RX3, TX3, 20, tyX3, rfl, by decide, i_X3, gw_of 507 (by decide +kernel) (by decide +kernel), tyX3_ok, nmX3, rfl, rfl, (by decide +kernel)⟩
theorem wc_X3_33 : Cond.classLink RX3 33 RX2 ∈ gw := gw_of 389 (by decide +kernel) (by decide +kernel)
theorem wo_2 : Cond.arrayOver (.object RX2) ∈ lw_tbl := List.mem_of_getElem? (i := 390) (by decide +kernel)
theorem ff_X3_35 : FPf RX3 35 3 10 (.array (.object "EpochEngine$Line")) := ⟨RX3, TX3, 20, tyX3, rfl, by decide, i_X3, gw_of 508 (by decide +kernel) (by decide +kernel), tyX3_ok, nmX3, rfl, rfl, (by decide +kernel)⟩
theorem ff_X3_39 : FPf RX3 39 3 13 (.array .int) := ⟨RX3, TX3, 20, tyX3, rfl, by decide, i_X3, gw_of 514 (by decide +kernel) (by decide +kernel), tyX3_ok, nmX3, rfl, rfl, (by decide +kernel)⟩
theorem ff_X3_42 : FPf RX3 42 3 14 (.array .int) := ⟨RX3, TX3, 20, tyX3, rfl, by decide, i_X3, gw_of 516 (by decide +kernel) (by decide +kernel), tyX3_ok, nmX3, rfl, rfl, (by decide +kernel)⟩
theorem ff_X3_45 : FPf RX3 45 3 15 (.array .int) := ⟨RX3, TX3, 20, tyX3, rfl, by decide, i_X3, gw_of 518 (by decide +kernel) (by decide +kernel), tyX3_ok, nmX3, rfl, rfl, (by decide +kernel)⟩
theorem ff_X3_48 : FPf RX3 48 3 16 (.array .int) := ⟨RX3, TX3, 20, tyX3, rfl, by decide, i_X3, gw_of 520 (by decide +kernel) (by decide +kernel), tyX3_ok, nmX3, rfl, rfl, (by decide +kernel)⟩
theorem wi_10 : Cond.instantiable RX10 12 ∈ gw := gw_of 391 (by decide +kernel) (by decide +kernel)
theorem wn_10 : Cond.initialized RX10 ∈ gw := gw_of 149 (by decide +kernel) (by decide +kernel)
theorem mw_X10_init : MW yX10_init cX10_init 1 none 0 := ⟨gw_of 149 (by decide +kernel) (by decide +kernel), gw_of 394 (by decide +kernel) (by decide +kernel), (by decide +kernel), by decide⟩
theorem win_X10_init : Cond.instanceMethod yX10_init ∈ gw := gw_of 393 (by decide +kernel) (by decide +kernel)
theorem wm_X3_59 : Cond.methodLinkNest RX3 59 yX10_init "EpochEngine" ∈ nw := nw_of 392 (by decide +kernel) (by decide +kernel)
theorem wi_2 : Cond.instantiable RX2 11 ∈ gw := gw_of 445 (by decide +kernel) (by decide +kernel)
theorem wn_2 : Cond.initialized RX2 ∈ gw := gw_of 150 (by decide +kernel) (by decide +kernel)
theorem mw_X2_init : MW yX2_init cX2_init 1 none 0 := ⟨gw_of 150 (by decide +kernel) (by decide +kernel), gw_of 448 (by decide +kernel) (by decide +kernel), (by decide +kernel), by decide⟩
theorem win_X2_init : Cond.instanceMethod yX2_init ∈ gw := gw_of 447 (by decide +kernel) (by decide +kernel)
theorem wm_X3_60 : Cond.methodLinkNest RX3 60 yX2_init "EpochEngine" ∈ nw := nw_of 446 (by decide +kernel) (by decide +kernel)
theorem wm_X0_3 : Cond.methodLink RX0 3 objectInit ∈ gw := gw_of 574 (by decide +kernel) (by decide +kernel)
theorem wc_X0_9 : Cond.classLink RX0 9 RX2 ∈ gw := gw_of 575 (by decide +kernel) (by decide +kernel)
theorem ff_X0_11 : FPf RX0 11 0 0 (.array (.object "EpochEngine$Line")) := ⟨RX0, TX0, 6, tyX0, rfl, by decide, i_X0, gw_of 578 (by decide +kernel) (by decide +kernel), tyX0_ok, nmX0, rfl, rfl, (by decide +kernel)⟩
theorem wc_X0_17 : Cond.classLink RX0 17 "[[I" ∈ gw := gw_of 576 (by decide +kernel) (by decide +kernel)
theorem wo_ai : Cond.arrayOver (.array .int) ∈ lw_tbl := List.mem_of_getElem? (i := 577) (by decide +kernel)
theorem ff_X0_19 : FPf RX0 19 0 2 (.array (.array .int)) := ⟨RX0, TX0, 6, tyX0, rfl, by decide, i_X0, gw_of 582 (by decide +kernel) (by decide +kernel), tyX0_ok, nmX0, rfl, rfl, (by decide +kernel)⟩
theorem ff_X0_22 : FPf RX0 22 0 3 (.array .int) := ⟨RX0, TX0, 6, tyX0, rfl, by decide, i_X0, gw_of 583 (by decide +kernel) (by decide +kernel), tyX0_ok, nmX0, rfl, rfl, (by decide +kernel)⟩
theorem ff_X0_26 : FPf RX0 26 0 4 (.array .int) := ⟨RX0, TX0, 6, tyX0, rfl, by decide, i_X0, gw_of 584 (by decide +kernel) (by decide +kernel), tyX0_ok, nmX0, rfl, rfl, (by decide +kernel)⟩
theorem wm_X6_3 : Cond.methodLink RX6 3 objectInit ∈ gw := gw_of 606 (by decide +kernel) (by decide +kernel)
theorem ff_X6_9 : FPf RX6 9 6 0 (.array .int) := ⟨RX6, TX6, 4, tyX6, rfl, by decide, i_X6, gw_of 608 (by decide +kernel) (by decide +kernel), tyX6_ok, nmX6, rfl, rfl, (by decide +kernel)⟩
theorem wc_X6_15 : Cond.classLink RX6 15 "[[I" ∈ gw := gw_of 607 (by decide +kernel) (by decide +kernel)
theorem ff_X6_17 : FPf RX6 17 6 1 (.array (.array .int)) := ⟨RX6, TX6, 4, tyX6, rfl, by decide, i_X6, gw_of 610 (by decide +kernel) (by decide +kernel), tyX6_ok, nmX6, rfl, rfl, (by decide +kernel)⟩
theorem ff_X6_20 : FPf RX6 20 6 2 (.array .int) := ⟨RX6, TX6, 4, tyX6, rfl, by decide, i_X6, gw_of 611 (by decide +kernel) (by decide +kernel), tyX6_ok, nmX6, rfl, rfl, (by decide +kernel)⟩
theorem wm_X11_1 : Cond.methodLink RX11 1 objectInit ∈ gw := gw_of 166 (by decide +kernel) (by decide +kernel)
theorem wc_X11_7 : Cond.classLink RX11 7 RX9 ∈ gw := gw_of 169 (by decide +kernel) (by decide +kernel)
theorem wi_9 : Cond.instantiable RX9 9 ∈ gw := gw_of 170 (by decide +kernel) (by decide +kernel)
theorem wn_9 : Cond.initialized RX9 ∈ gw := gw_of 141 (by decide +kernel) (by decide +kernel)
theorem mw_X9_init : MW yX9_init cX9_init 2 none 0 := ⟨gw_of 141 (by decide +kernel) (by decide +kernel), gw_of 173 (by decide +kernel) (by decide +kernel), (by decide +kernel), by decide⟩
theorem win_X9_init : Cond.instanceMethod yX9_init ∈ gw := gw_of 172 (by decide +kernel) (by decide +kernel)
theorem wm_X11_9 : Cond.methodLink RX11 9 yX9_init ∈ gw := gw_of 171 (by decide +kernel) (by decide +kernel)
theorem ff_X11_10 : FPf RX11 10 11 0 (.object "EpochEngine$Told") := ⟨RX11, TX11, 11, tyX11, rfl, by decide, i_X11, gw_of 623 (by decide +kernel) (by decide +kernel), tyX11_ok, nmX11, rfl, rfl, (by decide +kernel)⟩
theorem wo_9 : Cond.arrayOver (.object RX9) ∈ lw_tbl := List.mem_of_getElem? (i := 325) (by decide +kernel)
theorem ff_X11_16 : FPf RX11 16 11 1 (.array (.object "EpochEngine$Told")) := ⟨RX11, TX11, 11, tyX11, rfl, by decide, i_X11, gw_of 624 (by decide +kernel) (by decide +kernel), tyX11_ok, nmX11, rfl, rfl, (by decide +kernel)⟩
theorem wa_boolean : Cond.arrayClass .boolean ∈ gw := gw_of 380 (by decide +kernel) (by decide +kernel)
theorem ff_X11_20 : FPf RX11 20 11 2 (.array .boolean) := ⟨RX11, TX11, 11, tyX11, rfl, by decide, i_X11, gw_of 625 (by decide +kernel) (by decide +kernel), tyX11_ok, nmX11, rfl, rfl, (by decide +kernel)⟩
theorem wc_X11_24 : Cond.classLink RX11 24 RX5 ∈ gw := gw_of 326 (by decide +kernel) (by decide +kernel)
theorem wi_5 : Cond.instantiable RX5 15 ∈ gw := gw_of 327 (by decide +kernel) (by decide +kernel)
theorem wn_5 : Cond.initialized RX5 ∈ gw := gw_of 147 (by decide +kernel) (by decide +kernel)
theorem mw_X5_init : MW yX5_init cX5_init 2 none 1 := ⟨gw_of 147 (by decide +kernel) (by decide +kernel), gw_of 330 (by decide +kernel) (by decide +kernel), (by decide +kernel), by decide⟩
theorem win_X5_init : Cond.instanceMethod yX5_init ∈ gw := gw_of 329 (by decide +kernel) (by decide +kernel)
theorem wm_X11_30 : Cond.methodLink RX11 30 yX5_init ∈ gw := gw_of 328 (by decide +kernel) (by decide +kernel)
theorem ff_X11_33 : FPf RX11 33 11 3 (.object "EpochEngine$Reader") := ⟨RX11, TX11, 11, tyX11, rfl, by decide, i_X11, gw_of 626 (by decide +kernel) (by decide +kernel), tyX11_ok, nmX11, rfl, rfl, (by decide +kernel)⟩
theorem wc_X11_37 : Cond.classLink RX11 37 RX3 ∈ gw := gw_of 381 (by decide +kernel) (by decide +kernel)
theorem wi_3 : Cond.instantiable RX3 20 ∈ gw := gw_of 382 (by decide +kernel) (by decide +kernel)
theorem wn_3 : Cond.initialized RX3 ∈ gw := gw_of 148 (by decide +kernel) (by decide +kernel)
theorem mw_X3_init : MW yX3_init cX3_init 4 none 2 := ⟨gw_of 148 (by decide +kernel) (by decide +kernel), gw_of 385 (by decide +kernel) (by decide +kernel), (by decide +kernel), by decide⟩
theorem win_X3_init : Cond.instanceMethod yX3_init ∈ gw := gw_of 384 (by decide +kernel) (by decide +kernel)
theorem wm_X11_47 : Cond.methodLink RX11 47 yX3_init ∈ gw := gw_of 383 (by decide +kernel) (by decide +kernel)
theorem ff_X11_50 : FPf RX11 50 11 4 (.object "EpochEngine$Machine") := ⟨RX11, TX11, 11, tyX11, rfl, by decide, i_X11, gw_of 627 (by decide +kernel) (by decide +kernel), tyX11_ok, nmX11, rfl, rfl, (by decide +kernel)⟩
theorem wc_X11_54 : Cond.classLink RX11 54 RX0 ∈ gw := gw_of 569 (by decide +kernel) (by decide +kernel)
theorem wi_0 : Cond.instantiable RX0 6 ∈ gw := gw_of 570 (by decide +kernel) (by decide +kernel)
theorem wn_0 : Cond.initialized RX0 ∈ gw := gw_of 151 (by decide +kernel) (by decide +kernel)
theorem mw_X0_init : MW yX0_init cX0_init 1 none 0 := ⟨gw_of 151 (by decide +kernel) (by decide +kernel), gw_of 573 (by decide +kernel) (by decide +kernel), (by decide +kernel), by decide⟩
theorem win_X0_init : Cond.instanceMethod yX0_init ∈ gw := gw_of 572 (by decide +kernel) (by decide +kernel)
theorem wm_X11_56 : Cond.methodLinkNest RX11 56 yX0_init "EpochEngine" ∈ nw := nw_of 571 (by decide +kernel) (by decide +kernel)
theorem ff_X11_57 : FPf RX11 57 11 5 (.object "EpochEngine$Commits") := ⟨RX11, TX11, 11, tyX11, rfl, by decide, i_X11, gw_of 628 (by decide +kernel) (by decide +kernel), tyX11_ok, nmX11, rfl, rfl, (by decide +kernel)⟩
theorem wc_X11_61 : Cond.classLink RX11 61 RX6 ∈ gw := gw_of 601 (by decide +kernel) (by decide +kernel)
theorem wi_6 : Cond.instantiable RX6 4 ∈ gw := gw_of 602 (by decide +kernel) (by decide +kernel)
theorem wn_6 : Cond.initialized RX6 ∈ gw := gw_of 152 (by decide +kernel) (by decide +kernel)
theorem mw_X6_init : MW yX6_init cX6_init 1 none 0 := ⟨gw_of 152 (by decide +kernel) (by decide +kernel), gw_of 605 (by decide +kernel) (by decide +kernel), (by decide +kernel), by decide⟩
theorem win_X6_init : Cond.instanceMethod yX6_init ∈ gw := gw_of 604 (by decide +kernel) (by decide +kernel)
theorem wm_X11_63 : Cond.methodLinkNest RX11 63 yX6_init "EpochEngine" ∈ nw := nw_of 603 (by decide +kernel) (by decide +kernel)
theorem ff_X11_64 : FPf RX11 64 11 6 (.object "EpochEngine$Sets") := ⟨RX11, TX11, 11, tyX11, rfl, by decide, i_X11, gw_of 629 (by decide +kernel) (by decide +kernel), tyX11_ok, nmX11, rfl, rfl, (by decide +kernel)⟩
theorem ff_X11_68 : FPf RX11 68 11 7 (.array .int) := ⟨RX11, TX11, 11, tyX11, rfl, by decide, i_X11, gw_of 630 (by decide +kernel) (by decide +kernel), tyX11_ok, nmX11, rfl, rfl, (by decide +kernel)⟩
theorem ff_X11_72 : FPf RX11 72 11 8 (.array .int) := ⟨RX11, TX11, 11, tyX11, rfl, by decide, i_X11, gw_of 631 (by decide +kernel) (by decide +kernel), tyX11_ok, nmX11, rfl, rfl, (by decide +kernel)⟩
theorem ff_X11_75 : FPf RX11 75 11 9 (.array .int) := ⟨RX11, TX11, 11, tyX11, rfl, by decide, i_X11, gw_of 632 (by decide +kernel) (by decide +kernel), tyX11_ok, nmX11, rfl, rfl, (by decide +kernel)⟩
theorem wm_X12_1 : Cond.methodLink RX12 1 objectInit ∈ gw := gw_of 1268 (by decide +kernel) (by decide +kernel)
theorem ff_X12_7 : FPf RX12 7 12 1 (.array .byte) := ⟨RX12, TX12, 92, tyX12, rfl, by decide, i_X12, gw_of 1270 (by decide +kernel) (by decide +kernel), tyX12_ok, nmX12, rfl, rfl, (by decide +kernel)⟩
theorem ff_X12_13 : FPf RX12 13 12 2 (.array .int) := ⟨RX12, TX12, 92, tyX12, rfl, by decide, i_X12, gw_of 1271 (by decide +kernel) (by decide +kernel), tyX12_ok, nmX12, rfl, rfl, (by decide +kernel)⟩
theorem ff_X12_17 : FPf RX12 17 12 3 (.array .int) := ⟨RX12, TX12, 92, tyX12, rfl, by decide, i_X12, gw_of 1272 (by decide +kernel) (by decide +kernel), tyX12_ok, nmX12, rfl, rfl, (by decide +kernel)⟩
theorem ff_X12_20 : FPf RX12 20 12 4 (.array .int) := ⟨RX12, TX12, 92, tyX12, rfl, by decide, i_X12, gw_of 1273 (by decide +kernel) (by decide +kernel), tyX12_ok, nmX12, rfl, rfl, (by decide +kernel)⟩
theorem ff_X12_23 : FPf RX12 23 12 5 (.array .int) := ⟨RX12, TX12, 92, tyX12, rfl, by decide, i_X12, gw_of 1274 (by decide +kernel) (by decide +kernel), tyX12_ok, nmX12, rfl, rfl, (by decide +kernel)⟩
theorem ff_X12_26 : FPf RX12 26 12 6 (.array .int) := ⟨RX12, TX12, 92, tyX12, rfl, by decide, i_X12, gw_of 1275 (by decide +kernel) (by decide +kernel), tyX12_ok, nmX12, rfl, rfl, (by decide +kernel)⟩
theorem ff_X12_29 : FPf RX12 29 12 7 (.array .int) := ⟨RX12, TX12, 92, tyX12, rfl, by decide, i_X12, gw_of 1276 (by decide +kernel) (by decide +kernel), tyX12_ok, nmX12, rfl, rfl, (by decide +kernel)⟩
theorem ff_X12_32 : FPf RX12 32 12 8 (.array .int) := ⟨RX12, TX12, 92, tyX12, rfl, by decide, i_X12, gw_of 1277 (by decide +kernel) (by decide +kernel), tyX12_ok, nmX12, rfl, rfl, (by decide +kernel)⟩
theorem ff_X12_35 : FPf RX12 35 12 9 (.array .int) := ⟨RX12, TX12, 92, tyX12, rfl, by decide, i_X12, gw_of 1278 (by decide +kernel) (by decide +kernel), tyX12_ok, nmX12, rfl, rfl, (by decide +kernel)⟩
theorem ff_X12_38 : FPf RX12 38 12 19 (.array .int) := ⟨RX12, TX12, 92, tyX12, rfl, by decide, i_X12, gw_of 1288 (by decide +kernel) (by decide +kernel), tyX12_ok, nmX12, rfl, rfl, (by decide +kernel)⟩
theorem ff_X12_41 : FPf RX12 41 12 20 (.array .int) := ⟨RX12, TX12, 92, tyX12, rfl, by decide, i_X12, gw_of 1289 (by decide +kernel) (by decide +kernel), tyX12_ok, nmX12, rfl, rfl, (by decide +kernel)⟩
theorem ff_X12_44 : FPf RX12 44 12 31 (.array .int) := ⟨RX12, TX12, 92, tyX12, rfl, by decide, i_X12, gw_of 1300 (by decide +kernel) (by decide +kernel), tyX12_ok, nmX12, rfl, rfl, (by decide +kernel)⟩
theorem ff_X12_47 : FPf RX12 47 12 32 (.array .int) := ⟨RX12, TX12, 92, tyX12, rfl, by decide, i_X12, gw_of 1301 (by decide +kernel) (by decide +kernel), tyX12_ok, nmX12, rfl, rfl, (by decide +kernel)⟩
theorem ff_X12_50 : FPf RX12 50 12 33 (.array .int) := ⟨RX12, TX12, 92, tyX12, rfl, by decide, i_X12, gw_of 1302 (by decide +kernel) (by decide +kernel), tyX12_ok, nmX12, rfl, rfl, (by decide +kernel)⟩
theorem ff_X12_53 : FPf RX12 53 12 34 (.array .int) := ⟨RX12, TX12, 92, tyX12, rfl, by decide, i_X12, gw_of 1303 (by decide +kernel) (by decide +kernel), tyX12_ok, nmX12, rfl, rfl, (by decide +kernel)⟩
theorem ff_X12_56 : FPf RX12 56 12 35 (.array .int) := ⟨RX12, TX12, 92, tyX12, rfl, by decide, i_X12, gw_of 1304 (by decide +kernel) (by decide +kernel), tyX12_ok, nmX12, rfl, rfl, (by decide +kernel)⟩
theorem ff_X12_59 : FPf RX12 59 12 36 (.array .int) := ⟨RX12, TX12, 92, tyX12, rfl, by decide, i_X12, gw_of 1305 (by decide +kernel) (by decide +kernel), tyX12_ok, nmX12, rfl, rfl, (by decide +kernel)⟩
theorem ff_X12_62 : FPf RX12 62 12 37 (.array .int) := ⟨RX12, TX12, 92, tyX12, rfl, by decide, i_X12, gw_of 1306 (by decide +kernel) (by decide +kernel), tyX12_ok, nmX12, rfl, rfl, (by decide +kernel)⟩
theorem ff_X12_65 : FPf RX12 65 12 38 (.array .int) := ⟨RX12, TX12, 92, tyX12, rfl, by decide, i_X12, gw_of 1307 (by decide +kernel) (by decide +kernel), tyX12_ok, nmX12, rfl, rfl, (by decide +kernel)⟩
theorem ff_X12_68 : FPf RX12 68 12 39 (.array .int) := ⟨RX12, TX12, 92, tyX12, rfl, by decide, i_X12, gw_of 1308 (by decide +kernel) (by decide +kernel), tyX12_ok, nmX12, rfl, rfl, (by decide +kernel)⟩
theorem ff_X12_71 : FPf RX12 71 12 40 (.array .int) := ⟨RX12, TX12, 92, tyX12, rfl, by decide, i_X12, gw_of 1309 (by decide +kernel) (by decide +kernel), tyX12_ok, nmX12, rfl, rfl, (by decide +kernel)⟩
theorem ff_X12_74 : FPf RX12 74 12 41 (.array .int) := ⟨RX12, TX12, 92, tyX12, rfl, by decide, i_X12, gw_of 1310 (by decide +kernel) (by decide +kernel), tyX12_ok, nmX12, rfl, rfl, (by decide +kernel)⟩
theorem ff_X12_77 : FPf RX12 77 12 42 (.array .int) := ⟨RX12, TX12, 92, tyX12, rfl, by decide, i_X12, gw_of 1311 (by decide +kernel) (by decide +kernel), tyX12_ok, nmX12, rfl, rfl, (by decide +kernel)⟩
theorem ff_X12_80 : FPf RX12 80 12 43 (.array .int) := ⟨RX12, TX12, 92, tyX12, rfl, by decide, i_X12, gw_of 1312 (by decide +kernel) (by decide +kernel), tyX12_ok, nmX12, rfl, rfl, (by decide +kernel)⟩
theorem ff_X12_83 : FPf RX12 83 12 44 (.array .int) := ⟨RX12, TX12, 92, tyX12, rfl, by decide, i_X12, gw_of 1313 (by decide +kernel) (by decide +kernel), tyX12_ok, nmX12, rfl, rfl, (by decide +kernel)⟩
theorem ff_X12_86 : FPf RX12 86 12 45 (.array .int) := ⟨RX12, TX12, 92, tyX12, rfl, by decide, i_X12, gw_of 1314 (by decide +kernel) (by decide +kernel), tyX12_ok, nmX12, rfl, rfl, (by decide +kernel)⟩
theorem ff_X12_89 : FPf RX12 89 12 46 (.array .int) := ⟨RX12, TX12, 92, tyX12, rfl, by decide, i_X12, gw_of 1315 (by decide +kernel) (by decide +kernel), tyX12_ok, nmX12, rfl, rfl, (by decide +kernel)⟩
theorem ff_X12_92 : FPf RX12 92 12 47 (.array .int) := ⟨RX12, TX12, 92, tyX12, rfl, by decide, i_X12, gw_of 1316 (by decide +kernel) (by decide +kernel), tyX12_ok, nmX12, rfl, rfl, (by decide +kernel)⟩
theorem ff_X12_95 : FPf RX12 95 12 48 (.array .int) := ⟨RX12, TX12, 92, tyX12, rfl, by decide, i_X12, gw_of 1317 (by decide +kernel) (by decide +kernel), tyX12_ok, nmX12, rfl, rfl, (by decide +kernel)⟩
theorem ff_X12_98 : FPf RX12 98 12 49 (.array .int) := ⟨RX12, TX12, 92, tyX12, rfl, by decide, i_X12, gw_of 1318 (by decide +kernel) (by decide +kernel), tyX12_ok, nmX12, rfl, rfl, (by decide +kernel)⟩
theorem ff_X12_101 : FPf RX12 101 12 50 (.array .int) := ⟨RX12, TX12, 92, tyX12, rfl, by decide, i_X12, gw_of 1319 (by decide +kernel) (by decide +kernel), tyX12_ok, nmX12, rfl, rfl, (by decide +kernel)⟩
theorem ff_X12_104 : FPf RX12 104 12 51 (.array .int) := ⟨RX12, TX12, 92, tyX12, rfl, by decide, i_X12, gw_of 1320 (by decide +kernel) (by decide +kernel), tyX12_ok, nmX12, rfl, rfl, (by decide +kernel)⟩
theorem ff_X12_107 : FPf RX12 107 12 52 (.array .int) := ⟨RX12, TX12, 92, tyX12, rfl, by decide, i_X12, gw_of 1321 (by decide +kernel) (by decide +kernel), tyX12_ok, nmX12, rfl, rfl, (by decide +kernel)⟩
theorem ff_X12_110 : FPf RX12 110 12 53 (.array .int) := ⟨RX12, TX12, 92, tyX12, rfl, by decide, i_X12, gw_of 1322 (by decide +kernel) (by decide +kernel), tyX12_ok, nmX12, rfl, rfl, (by decide +kernel)⟩
theorem ff_X12_113 : FPf RX12 113 12 60 (.array .int) := ⟨RX12, TX12, 92, tyX12, rfl, by decide, i_X12, gw_of 1329 (by decide +kernel) (by decide +kernel), tyX12_ok, nmX12, rfl, rfl, (by decide +kernel)⟩
theorem ff_X12_116 : FPf RX12 116 12 61 (.array .int) := ⟨RX12, TX12, 92, tyX12, rfl, by decide, i_X12, gw_of 1330 (by decide +kernel) (by decide +kernel), tyX12_ok, nmX12, rfl, rfl, (by decide +kernel)⟩
theorem ff_X12_119 : FPf RX12 119 12 67 (.array .int) := ⟨RX12, TX12, 92, tyX12, rfl, by decide, i_X12, gw_of 1336 (by decide +kernel) (by decide +kernel), tyX12_ok, nmX12, rfl, rfl, (by decide +kernel)⟩
theorem ff_X12_122 : FPf RX12 122 12 68 (.array .int) := ⟨RX12, TX12, 92, tyX12, rfl, by decide, i_X12, gw_of 1337 (by decide +kernel) (by decide +kernel), tyX12_ok, nmX12, rfl, rfl, (by decide +kernel)⟩
theorem ff_X12_125 : FPf RX12 125 12 70 (.array .int) := ⟨RX12, TX12, 92, tyX12, rfl, by decide, i_X12, gw_of 1339 (by decide +kernel) (by decide +kernel), tyX12_ok, nmX12, rfl, rfl, (by decide +kernel)⟩
theorem ff_X12_128 : FPf RX12 128 12 73 (.array .int) := ⟨RX12, TX12, 92, tyX12, rfl, by decide, i_X12, gw_of 1342 (by decide +kernel) (by decide +kernel), tyX12_ok, nmX12, rfl, rfl, (by decide +kernel)⟩
theorem ff_X12_131 : FPf RX12 131 12 74 (.array .int) := ⟨RX12, TX12, 92, tyX12, rfl, by decide, i_X12, gw_of 1343 (by decide +kernel) (by decide +kernel), tyX12_ok, nmX12, rfl, rfl, (by decide +kernel)⟩
theorem ff_X12_134 : FPf RX12 134 12 75 (.array .int) := ⟨RX12, TX12, 92, tyX12, rfl, by decide, i_X12, gw_of 1344 (by decide +kernel) (by decide +kernel), tyX12_ok, nmX12, rfl, rfl, (by decide +kernel)⟩
theorem ff_X12_137 : FPf RX12 137 12 82 (.array .int) := ⟨RX12, TX12, 92, tyX12, rfl, by decide, i_X12, gw_of 1351 (by decide +kernel) (by decide +kernel), tyX12_ok, nmX12, rfl, rfl, (by decide +kernel)⟩
theorem ff_X12_140 : FPf RX12 140 12 91 (.array .boolean) := ⟨RX12, TX12, 92, tyX12, rfl, by decide, i_X12, gw_of 1360 (by decide +kernel) (by decide +kernel), tyX12_ok, nmX12, rfl, rfl, (by decide +kernel)⟩
