/-! methods, translated -/
def HJ6_bitCount_0f7a4 : Nat := 1
theorem HJ6_bitCount_0f7a4_0 (d : Nat) : 0 < d + HJ6_bitCount_0f7a4 := Nat.lt_of_lt_of_le (by decide) (Nat.le_add_left _ d)
def fJ6_bitCount_0f7a4 (x0 : Int32) (σ : Mem) : Option (Int32 × Mem) := (some ((((x0 - ((ushr x0 1) &&& 1431655765)) &&& 858993459) + ((ushr (x0 - ((ushr x0 1) &&& 1431655765)) 2) &&& 858993459)))).bind fun y1 => (some ((((y1 + (ushr y1 4)) &&& 252645135) + (ushr ((y1 + (ushr y1 4)) &&& 252645135) 8)))).bind fun y2 => some (((y2 + (ushr y2 16)) &&& 63), σ)
set_option maxRecDepth 20000 in
theorem sJ6_bitCount_0f7a4 (G : GT) (d : Nat) {x0 : Int32}  {σ : Mem} {o : (Int32 × Mem)} (h : fJ6_bitCount_0f7a4 x0 σ = some o) : Spec G yJ6_bitCount_0f7a4 cJ6_bitCount_0f7a4 1 (some .int) (d + HJ6_bitCount_0f7a4) [.int x0] σ (kI fun x z => (x, z) = o) := by
  refine spec_run (by decide) (Nat.le_of_ble_eq_true rfl) ?_
  unfold fJ6_bitCount_0f7a4 at h
  show Run G RJ6 cJ6_bitCount_0f7a4 1 (some .int) _ 0 [(0, .int x0)] [] σ
  refine run_iload_n 0 dJ6_bitCount_0f7a4_0 rfl rfl ?_
  refine run_iload_n 0 dJ6_bitCount_0f7a4_1 rfl rfl ?_
  refine run_iconst (v := 1) dJ6_bitCount_0f7a4_2 rfl ?_
  refine run_ushr dJ6_bitCount_0f7a4_3 ?_
  refine run_ldcw kc_J6_265 dJ6_bitCount_0f7a4_4 ?_
  refine run_iand dJ6_bitCount_0f7a4_7 ?_
  refine run_isub dJ6_bitCount_0f7a4_8 ?_
  refine run_istore_n [(0, .int (x0 - ((ushr x0 1) &&& 1431655765)))] [0] dJ6_bitCount_0f7a4_9 rfl (by decide) rfl ?_
  refine run_iload_n 0 dJ6_bitCount_0f7a4_10 rfl rfl ?_
  refine run_ldcw kc_J6_266 dJ6_bitCount_0f7a4_11 ?_
  refine run_iand dJ6_bitCount_0f7a4_14 ?_
  refine run_iload_n 0 dJ6_bitCount_0f7a4_15 rfl rfl ?_
  refine run_iconst (v := 2) dJ6_bitCount_0f7a4_16 rfl ?_
  refine run_ushr dJ6_bitCount_0f7a4_17 ?_
  refine run_ldcw kc_J6_266 dJ6_bitCount_0f7a4_18 ?_
  refine run_iand dJ6_bitCount_0f7a4_21 ?_
  refine run_iadd dJ6_bitCount_0f7a4_22 ?_
  rw [Option.bind_some] at h
  refine run_topi (fun y1 ey1 => ?_)
  rw [← ey1] at h
  refine run_istore_n [(0, .int y1)] [0] dJ6_bitCount_0f7a4_23 rfl (by decide) rfl ?_
  refine run_iload_n 0 dJ6_bitCount_0f7a4_24 rfl rfl ?_
  refine run_iload_n 0 dJ6_bitCount_0f7a4_25 rfl rfl ?_
  refine run_iconst (v := 4) dJ6_bitCount_0f7a4_26 rfl ?_
  refine run_ushr dJ6_bitCount_0f7a4_27 ?_
  refine run_iadd dJ6_bitCount_0f7a4_28 ?_
  refine run_ldcw kc_J6_267 dJ6_bitCount_0f7a4_29 ?_
  refine run_iand dJ6_bitCount_0f7a4_32 ?_
  refine run_istore_n [(0, .int ((y1 + (ushr y1 4)) &&& 252645135))] [0] dJ6_bitCount_0f7a4_33 rfl (by decide) rfl ?_
  refine run_iload_n 0 dJ6_bitCount_0f7a4_34 rfl rfl ?_
  refine run_iload_n 0 dJ6_bitCount_0f7a4_35 rfl rfl ?_
  refine run_bipush (v := 8) dJ6_bitCount_0f7a4_36 rfl ?_
  refine run_ushr dJ6_bitCount_0f7a4_38 ?_
  refine run_iadd dJ6_bitCount_0f7a4_39 ?_
  rw [Option.bind_some] at h
  refine run_topi (fun y2 ey2 => ?_)
  rw [← ey2] at h
  refine run_istore_n [(0, .int y2)] [0] dJ6_bitCount_0f7a4_40 rfl (by decide) rfl ?_
  refine run_iload_n 0 dJ6_bitCount_0f7a4_41 rfl rfl ?_
  refine run_iload_n 0 dJ6_bitCount_0f7a4_42 rfl rfl ?_
  refine run_bipush (v := 16) dJ6_bitCount_0f7a4_43 rfl ?_
  refine run_ushr dJ6_bitCount_0f7a4_45 ?_
  refine run_iadd dJ6_bitCount_0f7a4_46 ?_
  refine run_istore_n [(0, .int (y2 + (ushr y2 16)))] [0] dJ6_bitCount_0f7a4_47 rfl (by decide) rfl ?_
  refine run_iload_n 0 dJ6_bitCount_0f7a4_48 rfl rfl ?_
  refine run_bipush (v := 63) dJ6_bitCount_0f7a4_49 rfl ?_
  refine run_iand dJ6_bitCount_0f7a4_51 ?_
  exact run_iret dJ6_bitCount_0f7a4_52 ⟨_, rfl, Option.some.inj h⟩
def HJ7_fill_53178 : Nat := 1
theorem HJ7_fill_53178_0 (d : Nat) : 0 < d + HJ7_fill_53178 := Nat.lt_of_lt_of_le (by decide) (Nat.le_add_left _ d)
def lJ7_fill_53178_5 (n0 : Nat) (N0 : Nat) (x1 : Int32) (x3 : Int32) : Nat → Int32 → Mem → Option (Mem)
  | 0, _, _ => none
  | n + 1, x2, σ => if x3 ≤ x2 then (some σ) else (gd (inb x2 N0) (lJ7_fill_53178_5 n0 N0 x1 x3 n (x2 + 1) (st2 σ n0 (Int32.toNatClampNeg x2) x1)))
set_option maxRecDepth 20000 in
theorem lpJ7_fill_53178_5 (G : GT) (d : Nat) (n0 : Nat) (N0 : Nat) (x1 : Int32) (x3 : Int32) (hn0 : Is n0 14) (hl0 : ln n0 = N0) (hb0 : N0 < 2 ^ 31) {K : Option Value → Mem → Prop} : ∀ (n : Nat) (x2 : Int32) (σ : Mem) (o : Mem), lJ7_fill_53178_5 n0 N0 x1 x3 n x2 σ = some o → (Run G RJ7 cJ7_fill_53178 4 none (mF G (d + HJ7_fill_53178) K) 20 [] [] o) → Run G RJ7 cJ7_fill_53178 4 none (mF G (d + HJ7_fill_53178) K) 5 [(0, .ref (gA G n0)), (1, .int x1), (2, .int x2), (3, .int x3)] [] σ := by
  intro n
  induction n with
  | zero => intro x2 σ o h; exact absurd h (by simp [lJ7_fill_53178_5])
  | succ n ih =>
    intro x2 σ o h kx
    rw [lJ7_fill_53178_5] at h
    refine run_iload_n 2 dJ7_fill_53178_5 rfl rfl ?_
    refine run_iload_n 3 dJ7_fill_53178_6 rfl rfl ?_
    refine run_icmp_ge 20 dJ7_fill_53178_7 (by decide) (fun c3 => ?_) (fun c3 => ?_)
    · rw [if_pos c3] at h
      rw [← Option.some.inj h] at kx
      refine run_forget [] rfl ?_
      exact kx
    · rw [if_neg c3] at h
      refine run_aload_n 0 dJ7_fill_53178_10 rfl rfl ?_
      refine run_iload_n 2 dJ7_fill_53178_11 rfl rfl ?_
      refine run_iload_n 1 dJ7_fill_53178_12 rfl rfl ?_
      obtain ⟨g4, h⟩ := gd_s h
      refine run_iast' hn0 hl0 g4 rfl dJ7_fill_53178_13 ?_
      refine run_iinc 2 [(0, .ref (gA G n0)), (1, .int x1), (2, .int (x2 + 1)), (3, .int x3)] [1, 2, 0, 3] dJ7_fill_53178_14 rfl rfl (by decide) rfl ?_
      refine run_goto 5 dJ7_fill_53178_17 (by decide) ?_
      exact ih _ _ _ h kx
def fJ7_fill_53178 (n0 : Nat) (N0 : Nat) (x1 : Int32) (σ : Mem) : Option Mem := (lJ7_fill_53178_5 n0 N0 x1 (nI N0) FU 0 σ).bind fun q5 => some q5
set_option maxRecDepth 20000 in
theorem sJ7_fill_53178 (G : GT) (d : Nat) {n0 : Nat} {N0 : Nat} {x1 : Int32} (hn0 : Is n0 14) (hl0 : ln n0 = N0) (hb0 : N0 < 2 ^ 31) {σ : Mem} {o : Mem} (h : fJ7_fill_53178 n0 N0 x1 σ = some o) : Spec G yJ7_fill_53178 cJ7_fill_53178 4 none (d + HJ7_fill_53178) [.ref (gA G n0), .int x1] σ (kV fun z => z = o) := by
  refine spec_run (by decide) (Nat.le_of_ble_eq_true rfl) ?_
  unfold fJ7_fill_53178 at h
  show Run G RJ7 cJ7_fill_53178 4 none _ 0 [(0, .ref (gA G n0)), (1, .int x1)] [] σ
  refine run_iconst (v := 0) dJ7_fill_53178_0 rfl ?_
  refine run_istore_n [(0, .ref (gA G n0)), (1, .int x1), (2, .int 0)] [1, 2, 0] dJ7_fill_53178_1 rfl (by decide) rfl ?_
  refine run_aload_n 0 dJ7_fill_53178_2 rfl rfl ?_
  refine run_alen hn0 hl0 dJ7_fill_53178_3 ?_
  refine run_istore_n [(0, .ref (gA G n0)), (1, .int x1), (2, .int 0), (3, .int (nI N0))] [1, 2, 3, 0] dJ7_fill_53178_4 rfl (by decide) rfl ?_
  obtain ⟨q5, h6, h⟩ := Option.bind_eq_some_iff.mp h
  refine lpJ7_fill_53178_5 G d _ _ _ _ hn0 hl0 hb0 _ _ _ _ h6 ?_
  exact run_vret dJ7_fill_53178_20 ⟨rfl, Option.some.inj h⟩
def HX0_noteRow : Nat := 2
theorem HX0_noteRow_X11_sameKeys_lt (d : Nat) : d + HX11_sameKeys < d + HX0_noteRow := Nat.add_lt_add_left (by decide) d
theorem HX0_noteRow_0 (d : Nat) : 0 < d + HX0_noteRow := Nat.lt_of_lt_of_le (by decide) (Nat.le_add_left _ d)
def fX0_noteRow (n1 : Nat) (n2 : Nat) (σ : Mem) : Option Mem := (fX11_sameKeys n1 n2 σ).bind fun q1 => if q1.1 = true then ((if (q1.2 234 5) = 0 then (some (cp2 q1.2 244 245 0 0 6)) else (some q1.2) : Option (Mem)).bind fun q4 => some (st2 q4 234 5 ((q4 234 5) + 1))) else (some q1.2)
set_option maxRecDepth 20000 in
theorem sX0_noteRow (G : GT) (d : Nat) {n1 : Nat} {n2 : Nat} (hn1 : Is n1 14) (hl1 : ln n1 = 10) (hn2 : Is n2 14) (hl2 : ln n2 = 10) {σ : Mem} {o : Mem} (h : fX0_noteRow n1 n2 σ = some o) : Spec G yX0_noteRow cX0_noteRow 3 none (d + HX0_noteRow) [.ref (gA G 234), .ref (gA G n1), .ref (gA G n2)] σ (kV fun z => z = o) := by
  refine spec_run (by decide) (Nat.le_of_ble_eq_true rfl) ?_
  unfold fX0_noteRow at h
  show Run G RX0 cX0_noteRow 3 none _ 0 [(0, .ref (gA G 234)), (1, .ref (gA G n1)), (2, .ref (gA G n2))] [] σ
  refine run_aload_n 1 dX0_noteRow_0 rfl rfl ?_
  refine run_aload_n 2 dX0_noteRow_1 rfl rfl ?_
  obtain ⟨q1, h6, h⟩ := Option.bind_eq_some_iff.mp h
  refine run_callNb (As := [.ref (gA G n1), .ref (gA G n2)]) (fun r z => (r, z) = q1) mw_X11_sameKeys ms_X11_sameKeys mn_X0_98 rfl (RF.lt (HX0_noteRow_X11_sameKeys_lt d)) (Nat.le_of_ble_eq_true rfl) dX0_noteRow_2 (sX11_sameKeys G d hn1 hl1 hn2 hl2 h6) (fun r z h8 => ?_) rfl
  rw [show r = q1.1 from congrArg Prod.fst h8, show z = q1.2 from congrArg Prod.snd h8]
  clear h8
  refine run_ifb_ne 9 dX0_noteRow_5 (by decide) (fun c2 => ?_) (fun c2 => ?_)
  · rw [if_pos c2] at h
    refine run_aload_n 0 dX0_noteRow_9 rfl rfl ?_
    refine run_geti fl_X0_57 is_234 (by decide) rfl dX0_noteRow_10 ?_
    obtain ⟨q4, h, h9⟩ := Option.bind_eq_some_iff.mp h
    have hj5 : Run G RX0 cX0_noteRow 3 none (mF G (d + HX0_noteRow) (kV fun z => z = o)) 31 [(0, .ref (gA G 234))] [] q4 := by
      clear h
      have h := h9
      clear h9
      refine run_aload_n 0 dX0_noteRow_31 rfl rfl ?_
      refine run_dup dX0_noteRow_32 rfl ?_
      refine run_geti fl_X0_57 is_234 (by decide) rfl dX0_noteRow_33 ?_
      refine run_iconst (v := 1) dX0_noteRow_36 rfl ?_
      refine run_iadd dX0_noteRow_37 ?_
      refine run_puti fp_X0_57 is_234 (by decide) rfl dX0_noteRow_38 ?_
      exact run_vret dX0_noteRow_41 ⟨rfl, Option.some.inj h⟩
    clear h9
    refine run_if_ne 31 dX0_noteRow_13 (by decide) (fun c3 => ?_) (fun c3 => ?_)
    · rw [if_neg c3] at h
      rw [← Option.some.inj h] at hj5
      refine run_forget [0] rfl ?_
      exact hj5
    · rw [if_pos c3] at h
      refine run_aload_n 0 dX0_noteRow_16 rfl rfl ?_
      refine run_getr fl_X0_22 is_234 (by decide) rfl ce_234_3 dX0_noteRow_17 ?_
      refine run_iconst (v := 0) dX0_noteRow_20 rfl ?_
      refine run_aload_n 0 dX0_noteRow_21 rfl rfl ?_
      refine run_getr fl_X0_26 is_234 (by decide) rfl ce_234_4 dX0_noteRow_22 ?_
      refine run_iconst (v := 0) dX0_noteRow_25 rfl ?_
      refine run_bipush (v := 6) dX0_noteRow_26 rfl ?_
      refine run_copyi' 0 0 6 rfl rfl rfl mc_X0_102 is_244 is_245 ln_244 ln_245 (by decide) (by decide) (by decide) (by decide) (by decide) (RF.lt (HX0_noteRow_0 d)) (Nat.le_of_ble_eq_true rfl) dX0_noteRow_28 ?_
      rw [← Option.some.inj h] at hj5
      refine run_forget [0] rfl ?_
      exact hj5
  · rw [if_neg c2] at h
    exact run_vret dX0_noteRow_8 ⟨rfl, Option.some.inj h⟩
def HX3_can : Nat := 2
theorem HX3_can_X3_canTurnEpoch_lt (d : Nat) : d + HX3_canTurnEpoch < d + HX3_can := Nat.add_lt_add_left (by decide) d
theorem HX3_can_X8_holds_lt (d : Nat) : d + HX8_holds < d + HX3_can := Nat.add_lt_add_left (by decide) d
theorem HX3_can_0 (d : Nat) : 0 < d + HX3_can := Nat.lt_of_lt_of_le (by decide) (Nat.le_add_left _ d)
def fX3_can (x1 : Int32) (x2 : Int32) (x3 : Int32) (σ : Mem) : Option (Bool × Mem) := if (σ 146 12) < 60 then (if x1 = 0 then ((fX3_canTurnEpoch σ).bind fun q28 => some (q28.1, q28.2)) else (if x1 = 1 then (some (true, σ)) else (if x2 < 0 then (some (false, σ)) else (if x2 < (σ 146 2) then (gd (inb x2 4) ((if (σ (158 + 4 * (Int32.toNatClampNeg x2)) 0) = (-1) then (some false) else (some true) : Option (Bool)).bind fun q8 => if x1 = 2 then (if q8 = true then (gd (isB (rfN (σ 146 1)) 8) (gd (inb (σ (158 + 4 * (Int32.toNatClampNeg x2)) 0) 7) (if (σ ((rfN (σ 146 1)) + 1) (Int32.toNatClampNeg (σ (158 + 4 * (Int32.toNatClampNeg x2)) 0))) ≤ (σ (158 + 4 * (Int32.toNatClampNeg x2)) 2) then (some (false, σ)) else (some (true, σ))))) else (some (false, σ))) else (if x1 = 3 then (if q8 = true then (gd (isB (rfN (σ 146 1)) 8) (gd (inb (σ (158 + 4 * (Int32.toNatClampNeg x2)) 0) 7) (if (σ (158 + 4 * (Int32.toNatClampNeg x2)) 2) < (σ ((rfN (σ 146 1)) + 1) (Int32.toNatClampNeg (σ (158 + 4 * (Int32.toNatClampNeg x2)) 0))) then (some (false, σ)) else (some (true, σ))))) else (some (false, σ))) else (if x1 = 4 then (some (q8, σ)) else (if x1 = 5 then (some (true, σ)) else (if x1 = 6 then (if q8 = true then (some (false, σ)) else (gd (isB (rfN (σ 146 1)) 8) ((fX8_holds (rfN (σ 146 1)) x3 σ).bind fun q24 => if q24.1 = true then (some (true, q24.2)) else (some (false, q24.2))))) else (some (false, σ)))))))) else (some (false, σ)))))) else (some (false, σ))
set_option maxRecDepth 20000 in
theorem sX3_can (G : GT) (d : Nat) {x1 : Int32} {x2 : Int32} {x3 : Int32}  {σ : Mem} {o : (Bool × Mem)} (h : fX3_can x1 x2 x3 σ = some o) : Spec G yX3_can cX3_can 6 (some .boolean) (d + HX3_can) [.ref (gA G 146), .int x1, .int x2, .int x3] σ (kB fun x z => (x, z) = o) := by
  refine spec_run (by decide) (Nat.le_of_ble_eq_true rfl) ?_
  unfold fX3_can at h
  show Run G RX3 cX3_can 6 (some .boolean) _ 0 [(0, .ref (gA G 146)), (1, .int x1), (2, .int x2), (3, .int x3)] [] σ
  refine run_aload_n 0 dX3_can_0 rfl rfl ?_
  refine run_geti fl_X3_89 is_146 (by decide) rfl dX3_can_1 ?_
  refine run_bipush (v := 60) dX3_can_4 rfl ?_
  refine run_icmp_lt 11 dX3_can_6 (by decide) (fun c1 => ?_) (fun c1 => ?_)
  · rw [if_pos c1] at h
    refine run_iload_n 1 dX3_can_11 rfl rfl ?_
    refine run_if_ne 20 dX3_can_12 (by decide) (fun c2 => ?_) (fun c2 => ?_)
    · rw [if_neg c2] at h
      refine run_iload_n 1 dX3_can_20 rfl rfl ?_
      refine run_iconst (v := 1) dX3_can_21 rfl ?_
      refine run_icmp_ne 27 dX3_can_22 (by decide) (fun c3 => ?_) (fun c3 => ?_)
      · rw [if_neg c3] at h
        refine run_iload_n 2 dX3_can_27 rfl rfl ?_
        refine run_if_lt 39 dX3_can_28 (by decide) (fun c4 => ?_) (fun c4 => ?_)
        · rw [if_pos c4] at h
          refine run_iconst (v := 0) dX3_can_39 rfl ?_
          exact run_bret (b := false) dX3_can_40 ⟨_, rfl, Option.some.inj h⟩
        · rw [if_neg c4] at h
          refine run_iload_n 2 dX3_can_31 rfl rfl ?_
          refine run_aload_n 0 dX3_can_32 rfl rfl ?_
          refine run_geti fl_X3_67 is_146 (by decide) rfl dX3_can_33 ?_
          refine run_icmp_lt 41 dX3_can_36 (by decide) (fun c5 => ?_) (fun c5 => ?_)
          · rw [if_pos c5] at h
            refine run_aload_n 0 dX3_can_41 rfl rfl ?_
            refine run_getr fl_X3_29 is_146 (by decide) rfl ce_146_9 dX3_can_42 ?_
            refine run_iload_n 2 dX3_can_45 rfl rfl ?_
            obtain ⟨g6, h⟩ := gd_s h
            refine run_aald' (j := (Int32.toNatClampNeg x2)) is_152 (by decide) (by decide) (t0 := 9) rfl ln_152 g6 rfl (es_152 _) dX3_can_46 ?_
            refine run_astore [(0, .ref (gA G 146)), (1, .int x1), (3, .int x3), (4, .ref (gA G (158 + 4 * (Int32.toNatClampNeg x2))))] [1, 2, 4, 0] dX3_can_47 (by decide) rfl ?_
            refine run_aload 3 dX3_can_49 rfl ?_
            refine run_geti fl_X3_132 (el_152 (inb_lt g6)) (by decide) rfl dX3_can_51 ?_
            refine run_iconst (v := -1) dX3_can_54 rfl ?_
            obtain ⟨q8, h, h9⟩ := Option.bind_eq_some_iff.mp h
            have hj27 : Run G RX3 cX3_can 6 (some .boolean) (mF G (d + HX3_can) (kB fun x z => (x, z) = o)) 63 [(0, .ref (gA G 146)), (1, .int x1), (3, .int x3), (4, .ref (gA G (158 + 4 * (Int32.toNatClampNeg x2))))] [.int (b2 q8)] σ := by
              clear h
              have h := h9
              clear h9
              refine run_istore [(0, .ref (gA G 146)), (1, .int x1), (3, .int x3), (4, .ref (gA G (158 + 4 * (Int32.toNatClampNeg x2)))), (5, .int (b2 q8))] [1, 2, 3, 4, 0] dX3_can_63 (by decide) rfl ?_
              refine run_iload_n 1 dX3_can_65 rfl rfl ?_
              by_cases c9 : x1 = 2
              · rw [if_pos c9] at h
                refine run_tblIn 96 dX3_can_66 (by rw [c9]; decide) (by rw [c9]; decide) (off := 30) (by rw [c9]; rfl) (by decide) ?_
                refine run_iload 4 dX3_can_96 rfl ?_
                refine run_ifb_eq 126 dX3_can_98 (by decide) (fun c10 => ?_) (fun c10 => ?_)
                · rw [if_neg c10] at h
                  refine run_iconst (v := 0) dX3_can_126 rfl ?_
                  exact run_bret (b := false) dX3_can_127 ⟨_, rfl, Option.some.inj h⟩
                · rw [if_pos c10] at h
                  refine run_aload 3 dX3_can_101 rfl ?_
                  refine run_geti fl_X3_115 (el_152 (inb_lt g6)) (by decide) rfl dX3_can_103 ?_
                  refine run_aload_n 0 dX3_can_106 rfl rfl ?_
                  obtain ⟨g11, h⟩ := gd_s h
                  refine run_getd fl_X3_55 is_146 (by decide) rfl dX3_can_107 ?_
                  refine run_getr fl_X3_135 (isB_Is g11) (by decide) rfl (cs_8_1 (isB_Is g11)) dX3_can_110 ?_
                  refine run_aload 3 dX3_can_113 rfl ?_
                  refine run_geti fl_X3_132 (el_152 (inb_lt g6)) (by decide) rfl dX3_can_115 ?_
                  obtain ⟨g12, h⟩ := gd_s h
                  refine run_iald' (ch_8_1 (isB_Is g11)) (cl_8_1 (isB_Is g11)) g12 rfl dX3_can_118 ?_
                  refine run_icmp_ge 126 dX3_can_119 (by decide) (fun c13 => ?_) (fun c13 => ?_)
                  · rw [if_pos c13] at h
                    refine run_iconst (v := 0) dX3_can_126 rfl ?_
                    exact run_bret (b := false) dX3_can_127 ⟨_, rfl, Option.some.inj h⟩
                  · rw [if_neg c13] at h
                    refine run_iconst (v := 1) dX3_can_122 rfl ?_
                    refine run_goto 127 dX3_can_123 (by decide) ?_
                    exact run_bret (b := true) dX3_can_127 ⟨_, rfl, Option.some.inj h⟩
              · rw [if_neg c9] at h
                by_cases c14 : x1 = 3
                · rw [if_pos c14] at h
                  refine run_tblIn 128 dX3_can_66 (by rw [c14]; decide) (by rw [c14]; decide) (off := 62) (by rw [c14]; rfl) (by decide) ?_
                  refine run_iload 4 dX3_can_128 rfl ?_
                  refine run_ifb_eq 158 dX3_can_130 (by decide) (fun c15 => ?_) (fun c15 => ?_)
                  · rw [if_neg c15] at h
                    refine run_iconst (v := 0) dX3_can_158 rfl ?_
                    exact run_bret (b := false) dX3_can_159 ⟨_, rfl, Option.some.inj h⟩
                  · rw [if_pos c15] at h
                    refine run_aload 3 dX3_can_133 rfl ?_
                    refine run_geti fl_X3_115 (el_152 (inb_lt g6)) (by decide) rfl dX3_can_135 ?_
                    refine run_aload_n 0 dX3_can_138 rfl rfl ?_
                    obtain ⟨g16, h⟩ := gd_s h
                    refine run_getd fl_X3_55 is_146 (by decide) rfl dX3_can_139 ?_
                    refine run_getr fl_X3_135 (isB_Is g16) (by decide) rfl (cs_8_1 (isB_Is g16)) dX3_can_142 ?_
                    refine run_aload 3 dX3_can_145 rfl ?_
                    refine run_geti fl_X3_132 (el_152 (inb_lt g6)) (by decide) rfl dX3_can_147 ?_
                    obtain ⟨g17, h⟩ := gd_s h
                    refine run_iald' (ch_8_1 (isB_Is g16)) (cl_8_1 (isB_Is g16)) g17 rfl dX3_can_150 ?_
                    refine run_icmp_lt 158 dX3_can_151 (by decide) (fun c18 => ?_) (fun c18 => ?_)
                    · rw [if_pos c18] at h
                      refine run_iconst (v := 0) dX3_can_158 rfl ?_
                      exact run_bret (b := false) dX3_can_159 ⟨_, rfl, Option.some.inj h⟩
                    · rw [if_neg c18] at h
                      refine run_iconst (v := 1) dX3_can_154 rfl ?_
                      refine run_goto 159 dX3_can_155 (by decide) ?_
                      exact run_bret (b := true) dX3_can_159 ⟨_, rfl, Option.some.inj h⟩
                · rw [if_neg c14] at h
                  by_cases c19 : x1 = 4
                  · rw [if_pos c19] at h
                    refine run_tblIn 160 dX3_can_66 (by rw [c19]; decide) (by rw [c19]; decide) (off := 94) (by rw [c19]; rfl) (by decide) ?_
                    refine run_iload 4 dX3_can_160 rfl ?_
                    exact run_bret (b := q8) dX3_can_162 ⟨_, rfl, Option.some.inj h⟩
                  · rw [if_neg c19] at h
                    by_cases c20 : x1 = 5
                    · rw [if_pos c20] at h
                      refine run_tblIn 163 dX3_can_66 (by rw [c20]; decide) (by rw [c20]; decide) (off := 97) (by rw [c20]; rfl) (by decide) ?_
                      refine run_iconst (v := 1) dX3_can_163 rfl ?_
                      exact run_bret (b := true) dX3_can_164 ⟨_, rfl, Option.some.inj h⟩
                    · rw [if_neg c20] at h
                      refine run_tblOut 165 dX3_can_66 (by have tc9 := tbl_ne c9 (z := 2) rfl; have tc14 := tbl_ne c14 (z := 3) rfl; have tc19 := tbl_ne c19 (z := 4) rfl; have tc20 := tbl_ne c20 (z := 5) rfl; omega) (by decide) ?_
                      refine run_iload_n 1 dX3_can_165 rfl rfl ?_
                      refine run_bipush (v := 6) dX3_can_166 rfl ?_
                      refine run_icmp_ne 191 dX3_can_168 (by decide) (fun c21 => ?_) (fun c21 => ?_)
                      · rw [if_neg c21] at h
                        refine run_iconst (v := 0) dX3_can_191 rfl ?_
                        exact run_bret (b := false) dX3_can_192 ⟨_, rfl, Option.some.inj h⟩
                      · rw [if_pos c21] at h
                        refine run_iload 4 dX3_can_171 rfl ?_
                        refine run_ifb_ne 191 dX3_can_173 (by decide) (fun c22 => ?_) (fun c22 => ?_)
                        · rw [if_pos c22] at h
                          refine run_iconst (v := 0) dX3_can_191 rfl ?_
                          exact run_bret (b := false) dX3_can_192 ⟨_, rfl, Option.some.inj h⟩
                        · rw [if_neg c22] at h
                          refine run_aload_n 0 dX3_can_176 rfl rfl ?_
                          obtain ⟨g23, h⟩ := gd_s h
                          refine run_getd fl_X3_55 is_146 (by decide) rfl dX3_can_177 ?_
                          refine run_iload_n 2 dX3_can_180 rfl rfl ?_
                          obtain ⟨q24, h26, h⟩ := Option.bind_eq_some_iff.mp h
                          refine run_callVb (As := [.int x3]) (fun r z => (r, z) = q24) mw_X8_holds mi_X8_holds ml_X3_140 (isB_Is g23) (by decide) rfl rfl rfl (RF.lt (HX3_can_X8_holds_lt d)) (Nat.le_of_ble_eq_true rfl) dX3_can_181 (sX8_holds G d (isB_Is g23) h26) (fun r z h8 => ?_) rfl
                          rw [show r = q24.1 from congrArg Prod.fst h8, show z = q24.2 from congrArg Prod.snd h8]
                          clear h8
                          refine run_ifb_eq 191 dX3_can_184 (by decide) (fun c25 => ?_) (fun c25 => ?_)
                          · rw [if_neg c25] at h
                            refine run_iconst (v := 0) dX3_can_191 rfl ?_
                            exact run_bret (b := false) dX3_can_192 ⟨_, rfl, Option.some.inj h⟩
                          · rw [if_pos c25] at h
                            refine run_iconst (v := 1) dX3_can_187 rfl ?_
                            refine run_goto 192 dX3_can_188 (by decide) ?_
                            exact run_bret (b := true) dX3_can_192 ⟨_, rfl, Option.some.inj h⟩
            clear h9
            refine run_icmp_eq 62 dX3_can_55 (by decide) (fun c7 => ?_) (fun c7 => ?_)
            · rw [if_pos c7] at h
              refine run_iconst (v := 0) dX3_can_62 rfl ?_
              rw [← Option.some.inj h] at hj27
              exact hj27
            · rw [if_neg c7] at h
              refine run_iconst (v := 1) dX3_can_58 rfl ?_
              refine run_goto 63 dX3_can_59 (by decide) ?_
              rw [← Option.some.inj h] at hj27
              exact hj27
          · rw [if_neg c5] at h
            refine run_iconst (v := 0) dX3_can_39 rfl ?_
            exact run_bret (b := false) dX3_can_40 ⟨_, rfl, Option.some.inj h⟩
      · rw [if_pos c3] at h
        refine run_iconst (v := 1) dX3_can_25 rfl ?_
        exact run_bret (b := true) dX3_can_26 ⟨_, rfl, Option.some.inj h⟩
    · rw [if_pos c2] at h
      refine run_aload_n 0 dX3_can_15 rfl rfl ?_
      obtain ⟨q28, h29, h⟩ := Option.bind_eq_some_iff.mp h
      refine run_callVb (As := []) (fun r z => (r, z) = q28) mw_X3_canTurnEpoch mi_X3_canTurnEpoch ml_X3_128 is_146 (by decide) rfl rfl rfl (RF.lt (HX3_can_X3_canTurnEpoch_lt d)) (Nat.le_of_ble_eq_true rfl) dX3_can_16 (sX3_canTurnEpoch G d  h29) (fun r z h8 => ?_) rfl
      rw [show r = q28.1 from congrArg Prod.fst h8, show z = q28.2 from congrArg Prod.snd h8]
      clear h8
      exact run_bret (b := q28.1) dX3_can_19 ⟨_, rfl, Option.some.inj h⟩
  · rw [if_neg c1] at h
    refine run_iconst (v := 0) dX3_can_9 rfl ?_
    exact run_bret (b := false) dX3_can_10 ⟨_, rfl, Option.some.inj h⟩
def HX3_durableWith : Nat := 2
theorem HX3_durableWith_X11_hasBit_lt (d : Nat) : d + HX11_hasBit < d + HX3_durableWith := Nat.add_lt_add_left (by decide) d
theorem HX3_durableWith_0 (d : Nat) : 0 < d + HX3_durableWith := Nat.lt_of_lt_of_le (by decide) (Nat.le_add_left _ d)
def lX3_durableWith_5 (x1 : Int32) : Nat → Int32 → Int32 → Mem → Option (Int32 × Mem)
  | 0, _, _, _ => none
  | n + 1, x2, x3, σ => if (σ 146 2) ≤ x3 then (some (x2, σ)) else ((fX11_hasBit x1 x3 σ).bind fun q7 => (if q7.1 = true then (some ((q7.2 146 3) - 1)) else (gd (inb x3 4) (some (q7.2 (158 + 4 * (Int32.toNatClampNeg x3)) 5))) : Option (Int32)).bind fun q10 => lX3_durableWith_5 x1 n (mn x2 q10) (x3 + 1) q7.2)
set_option maxRecDepth 20000 in
theorem lpX3_durableWith_5 (G : GT) (d : Nat) (x1 : Int32)  {K : Option Value → Mem → Prop} : ∀ (n : Nat) (x2 : Int32) (x3 : Int32) (σ : Mem) (o : Int32 × Mem), lX3_durableWith_5 x1 n x2 x3 σ = some o → (Run G RX3 cX3_durableWith 4 (some .int) (mF G (d + HX3_durableWith) K) 50 [(2, .int (o.1))] [] (o.2)) → Run G RX3 cX3_durableWith 4 (some .int) (mF G (d + HX3_durableWith) K) 5 [(0, .ref (gA G 146)), (1, .int x1), (2, .int x2), (3, .int x3)] [] σ := by
  intro n
  induction n with
  | zero => intro x2 x3 σ o h; exact absurd h (by simp [lX3_durableWith_5])
  | succ n ih =>
    intro x2 x3 σ o h kx
    rw [lX3_durableWith_5] at h
    refine run_iload_n 3 dX3_durableWith_5 rfl rfl ?_
    refine run_aload_n 0 dX3_durableWith_6 rfl rfl ?_
    refine run_geti fl_X3_67 is_146 (by decide) rfl dX3_durableWith_7 ?_
    refine run_icmp_ge 50 dX3_durableWith_10 (by decide) (fun c6 => ?_) (fun c6 => ?_)
    · rw [if_pos c6] at h
      rw [← Option.some.inj h] at kx
      refine run_forget [2] rfl ?_
      exact kx
    · rw [if_neg c6] at h
      refine run_iload_n 2 dX3_durableWith_13 rfl rfl ?_
      refine run_iload_n 1 dX3_durableWith_14 rfl rfl ?_
      refine run_iload_n 3 dX3_durableWith_15 rfl rfl ?_
      obtain ⟨q7, h12, h⟩ := Option.bind_eq_some_iff.mp h
      refine run_callNb (As := [.int x1, .int x3]) (fun r z => (r, z) = q7) mw_X11_hasBit ms_X11_hasBit mn_X3_176 rfl (RF.lt (HX3_durableWith_X11_hasBit_lt d)) (Nat.le_of_ble_eq_true rfl) dX3_durableWith_16 (sX11_hasBit G d  h12) (fun r z h8 => ?_) rfl
      rw [show r = q7.1 from congrArg Prod.fst h8, show z = q7.2 from congrArg Prod.snd h8]
      clear h8
      obtain ⟨q10, h, h9⟩ := Option.bind_eq_some_iff.mp h
      have hj11 : Run G RX3 cX3_durableWith 4 (some .int) (mF G (d + HX3_durableWith) K) 40 [(0, .ref (gA G 146)), (1, .int x1), (3, .int x3)] [.int q10, .int x2] q7.2 := by
        clear h
        have h := h9
        clear h9
        refine run_min mm_X3_180 (RF.lt (HX3_durableWith_0 d)) (Nat.le_of_ble_eq_true rfl) dX3_durableWith_40 ?_
        refine run_istore_n [(0, .ref (gA G 146)), (1, .int x1), (2, .int (mn x2 q10)), (3, .int x3)] [1, 2, 0, 3] dX3_durableWith_43 rfl (by decide) rfl ?_
        refine run_iinc 3 [(0, .ref (gA G 146)), (1, .int x1), (2, .int (mn x2 q10)), (3, .int (x3 + 1))] [1, 2, 3, 0] dX3_durableWith_44 rfl rfl (by decide) rfl ?_
        refine run_goto 5 dX3_durableWith_47 (by decide) ?_
        exact ih _ _ _ _ h kx
      clear h9
      refine run_ifb_eq 31 dX3_durableWith_19 (by decide) (fun c8 => ?_) (fun c8 => ?_)
      · rw [if_neg c8] at h
        refine run_aload_n 0 dX3_durableWith_31 rfl rfl ?_
        refine run_getr fl_X3_29 is_146 (by decide) rfl ce_146_9 dX3_durableWith_32 ?_
        refine run_iload_n 3 dX3_durableWith_35 rfl rfl ?_
        obtain ⟨g9, h⟩ := gd_s h
        refine run_aald' (j := (Int32.toNatClampNeg x3)) is_152 (by decide) (by decide) (t0 := 9) rfl ln_152 g9 rfl (es_152 _) dX3_durableWith_36 ?_
        refine run_geti fl_X3_154 (el_152 (inb_lt g9)) (by decide) rfl dX3_durableWith_37 ?_
        rw [← Option.some.inj h] at hj11
        refine run_forget [0, 1, 3] rfl ?_
        exact hj11
      · rw [if_pos c8] at h
        refine run_aload_n 0 dX3_durableWith_22 rfl rfl ?_
        refine run_geti fl_X3_68 is_146 (by decide) rfl dX3_durableWith_23 ?_
        refine run_iconst (v := 1) dX3_durableWith_26 rfl ?_
        refine run_isub dX3_durableWith_27 ?_
        refine run_goto 40 dX3_durableWith_28 (by decide) ?_
        rw [← Option.some.inj h] at hj11
        refine run_forget [0, 1, 3] rfl ?_
        exact hj11
def fX3_durableWith (x1 : Int32) (σ : Mem) : Option (Int32 × Mem) := (lX3_durableWith_5 x1 FU 50 0 σ).bind fun q13 => some ((q13.1), (q13.2))
set_option maxRecDepth 20000 in
theorem sX3_durableWith (G : GT) (d : Nat) {x1 : Int32}  {σ : Mem} {o : (Int32 × Mem)} (h : fX3_durableWith x1 σ = some o) : Spec G yX3_durableWith cX3_durableWith 4 (some .int) (d + HX3_durableWith) [.ref (gA G 146), .int x1] σ (kI fun x z => (x, z) = o) := by
  refine spec_run (by decide) (Nat.le_of_ble_eq_true rfl) ?_
  unfold fX3_durableWith at h
  show Run G RX3 cX3_durableWith 4 (some .int) _ 0 [(0, .ref (gA G 146)), (1, .int x1)] [] σ
  refine run_bipush (v := 50) dX3_durableWith_0 rfl ?_
  refine run_istore_n [(0, .ref (gA G 146)), (1, .int x1), (2, .int 50)] [1, 2, 0] dX3_durableWith_2 rfl (by decide) rfl ?_
  refine run_iconst (v := 0) dX3_durableWith_3 rfl ?_
  refine run_istore_n [(0, .ref (gA G 146)), (1, .int x1), (2, .int 50), (3, .int 0)] [1, 2, 3, 0] dX3_durableWith_4 rfl (by decide) rfl ?_
  obtain ⟨q13, h14, h⟩ := Option.bind_eq_some_iff.mp h
  refine lpX3_durableWith_5 G d _ _ _ _ _ _ h14 ?_
  refine run_iload_n 0 dX3_durableWith_50 rfl rfl ?_
  exact run_iret dX3_durableWith_51 ⟨_, rfl, Option.some.inj h⟩
def HX3_survives : Nat := 2
theorem HX3_survives_X11_hasBit_lt (d : Nat) : d + HX11_hasBit < d + HX3_survives := Nat.add_lt_add_left (by decide) d
theorem HX3_survives_0 (d : Nat) : 0 < d + HX3_survives := Nat.lt_of_lt_of_le (by decide) (Nat.le_add_left _ d)
def fX3_survives (n0 : Nat) (x1 : Int32) (x2 : Int32) (σ : Mem) : Option (Bool × Mem) := (if (σ n0 8) = 0 then ((fX11_hasBit x1 (σ n0 0) σ).bind fun q2 => if q2.1 = true then (some (true, q2.2)) else (some (false, q2.2))) else (some (true, σ)) : Option (Bool × Mem)).bind fun q5 => if ((q5.2) n0 9) = 0 then (if (q5.1) = true then (if x2 < ((q5.2) n0 2) then (some (false, (q5.2))) else (some (true, (q5.2)))) else (some (false, (q5.2)))) else (some (false, (q5.2)))
set_option maxRecDepth 20000 in
theorem sX3_survives (G : GT) (d : Nat) {n0 : Nat} {x1 : Int32} {x2 : Int32} (hn0 : Is n0 2) {σ : Mem} {o : (Bool × Mem)} (h : fX3_survives n0 x1 x2 σ = some o) : Spec G yX3_survives cX3_survives 4 (some .boolean) (d + HX3_survives) [.ref (gA G n0), .int x1, .int x2] σ (kB fun x z => (x, z) = o) := by
  refine spec_run (by decide) (Nat.le_of_ble_eq_true rfl) ?_
  unfold fX3_survives at h
  show Run G RX3 cX3_survives 4 (some .boolean) _ 0 [(0, .ref (gA G n0)), (1, .int x1), (2, .int x2)] [] σ
  refine run_aload_n 0 dX3_survives_0 rfl rfl ?_
  refine run_geti fl_X3_150 hn0 (by decide) rfl dX3_survives_1 ?_
  obtain ⟨q5, h, h9⟩ := Option.bind_eq_some_iff.mp h
  have hj9 : Run G RX3 cX3_survives 4 (some .boolean) (mF G (d + HX3_survives) (kB fun x z => (x, z) = o)) 23 [(0, .ref (gA G n0)), (2, .int x2)] [.int (b2 (q5.1))] (q5.2) := by
    clear h
    have h := h9
    clear h9
    refine run_istore_n [(0, .ref (gA G n0)), (2, .int x2), (3, .int (b2 (q5.1)))] [1, 2, 0] dX3_survives_23 rfl (by decide) rfl ?_
    refine run_aload_n 0 dX3_survives_24 rfl rfl ?_
    refine run_geti fl_X3_169 hn0 (by decide) rfl dX3_survives_25 ?_
    refine run_if_ne 47 dX3_survives_28 (by decide) (fun c6 => ?_) (fun c6 => ?_)
    · rw [if_neg c6] at h
      refine run_iconst (v := 0) dX3_survives_47 rfl ?_
      exact run_bret (b := false) dX3_survives_48 ⟨_, rfl, Option.some.inj h⟩
    · rw [if_pos c6] at h
      refine run_iload_n 2 dX3_survives_31 rfl rfl ?_
      refine run_ifb_eq 47 dX3_survives_32 (by decide) (fun c7 => ?_) (fun c7 => ?_)
      · rw [if_neg c7] at h
        refine run_iconst (v := 0) dX3_survives_47 rfl ?_
        exact run_bret (b := false) dX3_survives_48 ⟨_, rfl, Option.some.inj h⟩
      · rw [if_pos c7] at h
        refine run_aload_n 0 dX3_survives_35 rfl rfl ?_
        refine run_geti fl_X3_186 hn0 (by decide) rfl dX3_survives_36 ?_
        refine run_iload_n 1 dX3_survives_39 rfl rfl ?_
        refine run_icmp_gt 47 dX3_survives_40 (by decide) (fun c8 => ?_) (fun c8 => ?_)
        · rw [if_pos c8] at h
          refine run_iconst (v := 0) dX3_survives_47 rfl ?_
          exact run_bret (b := false) dX3_survives_48 ⟨_, rfl, Option.some.inj h⟩
        · rw [if_neg c8] at h
          refine run_iconst (v := 1) dX3_survives_43 rfl ?_
          refine run_goto 48 dX3_survives_44 (by decide) ?_
          exact run_bret (b := true) dX3_survives_48 ⟨_, rfl, Option.some.inj h⟩
  clear h9
  refine run_if_ne 18 dX3_survives_4 (by decide) (fun c1 => ?_) (fun c1 => ?_)
  · rw [if_neg c1] at h
    refine run_iconst (v := 1) dX3_survives_18 rfl ?_
    refine run_goto 23 dX3_survives_19 (by decide) ?_
    rw [← Option.some.inj h] at hj9
    refine run_forget [0, 2] rfl ?_
    exact hj9
  · rw [if_pos c1] at h
    refine run_iload_n 1 dX3_survives_7 rfl rfl ?_
    refine run_aload_n 0 dX3_survives_8 rfl rfl ?_
    refine run_geti fl_X3_147 hn0 (by decide) rfl dX3_survives_9 ?_
    obtain ⟨q2, h4, h⟩ := Option.bind_eq_some_iff.mp h
    refine run_callNb (As := [.int x1, .int (σ n0 0)]) (fun r z => (r, z) = q2) mw_X11_hasBit ms_X11_hasBit mn_X3_176 rfl (RF.lt (HX3_survives_X11_hasBit_lt d)) (Nat.le_of_ble_eq_true rfl) dX3_survives_12 (sX11_hasBit G d  h4) (fun r z h8 => ?_) rfl
    rw [show r = q2.1 from congrArg Prod.fst h8, show z = q2.2 from congrArg Prod.snd h8]
    clear h8
    refine run_ifb_eq 22 dX3_survives_15 (by decide) (fun c3 => ?_) (fun c3 => ?_)
    · rw [if_neg c3] at h
      refine run_iconst (v := 0) dX3_survives_22 rfl ?_
      rw [← Option.some.inj h] at hj9
      refine run_forget [0, 2] rfl ?_
      exact hj9
    · rw [if_pos c3] at h
      refine run_iconst (v := 1) dX3_survives_18 rfl ?_
      refine run_goto 23 dX3_survives_19 (by decide) ?_
      rw [← Option.some.inj h] at hj9
      refine run_forget [0, 2] rfl ?_
      exact hj9
def HX3_linesLost : Nat := 3
theorem HX3_linesLost_X3_durableWith_lt (d : Nat) : d + HX3_durableWith < d + HX3_linesLost := Nat.add_lt_add_left (by decide) d
theorem HX3_linesLost_X3_survives_lt (d : Nat) : d + HX3_survives < d + HX3_linesLost := Nat.add_lt_add_left (by decide) d
theorem HX3_linesLost_0 (d : Nat) : 0 < d + HX3_linesLost := Nat.lt_of_lt_of_le (by decide) (Nat.le_add_left _ d)
def lX3_linesLost_10 (x1 : Int32) : Nat → Int32 → Int32 → Mem → Option (Int32 × Mem)
  | 0, _, _, _ => none
  | n + 1, x2, x3, σ => if (σ 146 11) ≤ x3 then (some (x2, σ)) else (gd (inb x3 30) ((if (σ (174 + 2 * (Int32.toNatClampNeg x3)) 9) = 0 then (gd (inb x3 30) ((fX3_survives (174 + 2 * (Int32.toNatClampNeg x3)) 0 x1 σ).bind fun q14 => if q14.1 = true then (some (x2, q14.2)) else (some ((x2 + 1), q14.2)))) else (some (x2, σ)) : Option (Int32 × Mem)).bind fun q17 => lX3_linesLost_10 x1 n (q17.1) (x3 + 1) (q17.2)))
set_option maxRecDepth 20000 in
theorem lpX3_linesLost_10 (G : GT) (d : Nat) (x1 : Int32)  {K : Option Value → Mem → Prop} : ∀ (n : Nat) (x2 : Int32) (x3 : Int32) (σ : Mem) (o : Int32 × Mem), lX3_linesLost_10 x1 n x2 x3 σ = some o → (Run G RX3 cX3_linesLost 4 (some .int) (mF G (d + HX3_linesLost) K) 53 [(2, .int (o.1))] [] (o.2)) → Run G RX3 cX3_linesLost 4 (some .int) (mF G (d + HX3_linesLost) K) 10 [(0, .ref (gA G 146)), (1, .int x1), (2, .int x2), (3, .int x3)] [] σ := by
  intro n
  induction n with
  | zero => intro x2 x3 σ o h; exact absurd h (by simp [lX3_linesLost_10])
  | succ n ih =>
    intro x2 x3 σ o h kx
    rw [lX3_linesLost_10] at h
    refine run_iload_n 3 dX3_linesLost_10 rfl rfl ?_
    refine run_aload_n 0 dX3_linesLost_11 rfl rfl ?_
    refine run_geti fl_X3_86 is_146 (by decide) rfl dX3_linesLost_12 ?_
    refine run_icmp_ge 53 dX3_linesLost_15 (by decide) (fun c10 => ?_) (fun c10 => ?_)
    · rw [if_pos c10] at h
      rw [← Option.some.inj h] at kx
      refine run_forget [2] rfl ?_
      exact kx
    · rw [if_neg c10] at h
      refine run_aload_n 0 dX3_linesLost_18 rfl rfl ?_
      refine run_getr fl_X3_35 is_146 (by decide) rfl ce_146_10 dX3_linesLost_19 ?_
      refine run_iload_n 3 dX3_linesLost_22 rfl rfl ?_
      obtain ⟨g11, h⟩ := gd_s h
      refine run_aald' (j := (Int32.toNatClampNeg x3)) is_153 (by decide) (by decide) (t0 := 4) rfl ln_153 g11 rfl (es_153 _) dX3_linesLost_23 ?_
      refine run_geti fl_X3_169 (el_153 (inb_lt g11)) (by decide) rfl dX3_linesLost_24 ?_
      obtain ⟨q17, h, h9⟩ := Option.bind_eq_some_iff.mp h
      have hj18 : Run G RX3 cX3_linesLost 4 (some .int) (mF G (d + HX3_linesLost) K) 47 [(0, .ref (gA G 146)), (1, .int x1), (2, .int (q17.1)), (3, .int x3)] [] (q17.2) := by
        clear h
        have h := h9
        clear h9
        refine run_iinc 3 [(0, .ref (gA G 146)), (1, .int x1), (2, .int (q17.1)), (3, .int (x3 + 1))] [1, 2, 3, 0] dX3_linesLost_47 rfl rfl (by decide) rfl ?_
        refine run_goto 10 dX3_linesLost_50 (by decide) ?_
        exact ih _ _ _ _ h kx
      clear h9
      refine run_if_ne 47 dX3_linesLost_27 (by decide) (fun c12 => ?_) (fun c12 => ?_)
      · rw [if_neg c12] at h
        rw [← Option.some.inj h] at hj18
        exact hj18
      · rw [if_pos c12] at h
        refine run_aload_n 0 dX3_linesLost_30 rfl rfl ?_
        refine run_getr fl_X3_35 is_146 (by decide) rfl ce_146_10 dX3_linesLost_31 ?_
        refine run_iload_n 3 dX3_linesLost_34 rfl rfl ?_
        obtain ⟨g13, h⟩ := gd_s h
        refine run_aald' (j := (Int32.toNatClampNeg x3)) is_153 (by decide) (by decide) (t0 := 4) rfl ln_153 g13 rfl (es_153 _) dX3_linesLost_35 ?_
        refine run_iconst (v := 0) dX3_linesLost_36 rfl ?_
        refine run_iload_n 1 dX3_linesLost_37 rfl rfl ?_
        obtain ⟨q14, h16, h⟩ := Option.bind_eq_some_iff.mp h
        refine run_callSb (As := [.ref (gA G (174 + 2 * (Int32.toNatClampNeg x3))), .int 0, .int x1]) (fun r z => (r, z) = q14) mw_X3_survives ms_X3_survives ml_X3_165 rfl (RF.lt (HX3_linesLost_X3_survives_lt d)) (Nat.le_of_ble_eq_true rfl) dX3_linesLost_38 (sX3_survives G d (el_153 (inb_lt g13)) h16) (fun r z h8 => ?_) rfl
        rw [show r = q14.1 from congrArg Prod.fst h8, show z = q14.2 from congrArg Prod.snd h8]
        clear h8
        refine run_ifb_ne 47 dX3_linesLost_41 (by decide) (fun c15 => ?_) (fun c15 => ?_)
        · rw [if_pos c15] at h
          rw [← Option.some.inj h] at hj18
          exact hj18
        · rw [if_neg c15] at h
          refine run_iinc 2 [(0, .ref (gA G 146)), (1, .int x1), (2, .int (x2 + 1)), (3, .int x3)] [1, 2, 0, 3] dX3_linesLost_44 rfl rfl (by decide) rfl ?_
          rw [← Option.some.inj h] at hj18
          exact hj18
def fX3_linesLost  (σ : Mem) : Option (Int32 × Mem) := (fX3_durableWith 0 σ).bind fun q1 => (lX3_linesLost_10 q1.1 FU 0 0 q1.2).bind fun q19 => some ((q19.1), (q19.2))
set_option maxRecDepth 20000 in
theorem sX3_linesLost (G : GT) (d : Nat)   {σ : Mem} {o : (Int32 × Mem)} (h : fX3_linesLost σ = some o) : Spec G yX3_linesLost cX3_linesLost 4 (some .int) (d + HX3_linesLost) [.ref (gA G 146)] σ (kI fun x z => (x, z) = o) := by
  refine spec_run (by decide) (Nat.le_of_ble_eq_true rfl) ?_
  unfold fX3_linesLost at h
  show Run G RX3 cX3_linesLost 4 (some .int) _ 0 [(0, .ref (gA G 146))] [] σ
  refine run_aload_n 0 dX3_linesLost_0 rfl rfl ?_
  refine run_iconst (v := 0) dX3_linesLost_1 rfl ?_
  obtain ⟨q1, h21, h⟩ := Option.bind_eq_some_iff.mp h
  refine run_callVi (As := [.int 0]) (fun r z => (r, z) = q1) mw_X3_durableWith mi_X3_durableWith ml_X3_157 is_146 (by decide) rfl rfl rfl (RF.lt (HX3_linesLost_X3_durableWith_lt d)) (Nat.le_of_ble_eq_true rfl) dX3_linesLost_2 (sX3_durableWith G d  h21) (fun r z h8 => ?_) rfl
  rw [show r = q1.1 from congrArg Prod.fst h8, show z = q1.2 from congrArg Prod.snd h8]
  clear h8
  refine run_istore_n [(0, .ref (gA G 146)), (1, .int q1.1)] [1, 0] dX3_linesLost_5 rfl (by decide) rfl ?_
  refine run_iconst (v := 0) dX3_linesLost_6 rfl ?_
  refine run_istore_n [(0, .ref (gA G 146)), (1, .int q1.1), (2, .int 0)] [1, 2, 0] dX3_linesLost_7 rfl (by decide) rfl ?_
  refine run_iconst (v := 0) dX3_linesLost_8 rfl ?_
  refine run_istore_n [(0, .ref (gA G 146)), (1, .int q1.1), (2, .int 0), (3, .int 0)] [1, 2, 3, 0] dX3_linesLost_9 rfl (by decide) rfl ?_
  obtain ⟨q19, h20, h⟩ := Option.bind_eq_some_iff.mp h
  refine lpX3_linesLost_10 G d _ _ _ _ _ _ h20 ?_
  refine run_iload_n 0 dX3_linesLost_53 rfl rfl ?_
  exact run_iret dX3_linesLost_54 ⟨_, rfl, Option.some.inj h⟩
def HX3_redo : Nat := 2
theorem HX3_redo_X11_hasBit_lt (d : Nat) : d + HX11_hasBit < d + HX3_redo := Nat.add_lt_add_left (by decide) d
theorem HX3_redo_0 (d : Nat) : 0 < d + HX3_redo := Nat.lt_of_lt_of_le (by decide) (Nat.le_add_left _ d)
def lX3_redo_2 (n0 : Nat) (n1 : Nat) (n2 : Nat) : Nat → Int32 → Mem → Option (Mem)
  | 0, _, _ => none
  | n + 1, x3, σ => if 10 ≤ x3 then (some σ) else ((fX11_hasBit (σ n0 6) x3 σ).bind fun q12 => (if q12.1 = true then (gd (inb x3 10) (if (q12.2 n0 3) < (q12.2 n2 (Int32.toNatClampNeg x3)) then (some q12.2) else (gd (inb x3 10) (gd (inb x3 10) (gd (inb x3 10) ((some (st2 (st2 q12.2 n1 (Int32.toNatClampNeg x3) (q12.2 (n0 + 1) (Int32.toNatClampNeg x3))) n2 (Int32.toNatClampNeg x3) ((st2 q12.2 n1 (Int32.toNatClampNeg x3) (q12.2 (n0 + 1) (Int32.toNatClampNeg x3))) n0 3))).bind fun s19 => some s19)))))) else (some q12.2) : Option (Mem)).bind fun q20 => lX3_redo_2 n0 n1 n2 n (x3 + 1) q20)
set_option maxRecDepth 20000 in
theorem lpX3_redo_2 (G : GT) (d : Nat) (n0 : Nat) (n1 : Nat) (n2 : Nat) (hn0 : Is n0 2) (hn1 : Is n1 14) (hl1 : ln n1 = 10) (hn2 : Is n2 14) (hl2 : ln n2 = 10) {K : Option Value → Mem → Prop} : ∀ (n : Nat) (x3 : Int32) (σ : Mem) (o : Mem), lX3_redo_2 n0 n1 n2 n x3 σ = some o → (Run G RX3 cX3_redo 4 none (mF G (d + HX3_redo) K) 51 [] [] o) → Run G RX3 cX3_redo 4 none (mF G (d + HX3_redo) K) 2 [(0, .ref (gA G n0)), (1, .ref (gA G n1)), (2, .ref (gA G n2)), (3, .int x3)] [] σ := by
  intro n
  induction n with
  | zero => intro x3 σ o h; exact absurd h (by simp [lX3_redo_2])
  | succ n ih =>
    intro x3 σ o h kx
    rw [lX3_redo_2] at h
    refine run_iload_n 3 dX3_redo_2 rfl rfl ?_
    refine run_bipush (v := 10) dX3_redo_3 rfl ?_
    refine run_icmp_ge 51 dX3_redo_5 (by decide) (fun c11 => ?_) (fun c11 => ?_)
    · rw [if_pos c11] at h
      rw [← Option.some.inj h] at kx
      refine run_forget [] rfl ?_
      exact kx
    · rw [if_neg c11] at h
      refine run_aload_n 0 dX3_redo_8 rfl rfl ?_
      refine run_geti fl_X3_191 hn0 (by decide) rfl dX3_redo_9 ?_
      refine run_iload_n 3 dX3_redo_12 rfl rfl ?_
      obtain ⟨q12, h22, h⟩ := Option.bind_eq_some_iff.mp h
      refine run_callNb (As := [.int (σ n0 6), .int x3]) (fun r z => (r, z) = q12) mw_X11_hasBit ms_X11_hasBit mn_X3_176 rfl (RF.lt (HX3_redo_X11_hasBit_lt d)) (Nat.le_of_ble_eq_true rfl) dX3_redo_13 (sX11_hasBit G d  h22) (fun r z h8 => ?_) rfl
      rw [show r = q12.1 from congrArg Prod.fst h8, show z = q12.2 from congrArg Prod.snd h8]
      clear h8
      obtain ⟨q20, h, h9⟩ := Option.bind_eq_some_iff.mp h
      have hj21 : Run G RX3 cX3_redo 4 none (mF G (d + HX3_redo) K) 45 [(0, .ref (gA G n0)), (1, .ref (gA G n1)), (2, .ref (gA G n2)), (3, .int x3)] [] q20 := by
        clear h
        have h := h9
        clear h9
        refine run_iinc 3 [(0, .ref (gA G n0)), (1, .ref (gA G n1)), (2, .ref (gA G n2)), (3, .int (x3 + 1))] [1, 2, 3, 0] dX3_redo_45 rfl rfl (by decide) rfl ?_
        refine run_goto 2 dX3_redo_48 (by decide) ?_
        exact ih _ _ _ h kx
      clear h9
      refine run_ifb_eq 45 dX3_redo_16 (by decide) (fun c13 => ?_) (fun c13 => ?_)
      · rw [if_neg c13] at h
        rw [← Option.some.inj h] at hj21
        exact hj21
      · rw [if_pos c13] at h
        refine run_aload_n 0 dX3_redo_19 rfl rfl ?_
        refine run_geti fl_X3_194 hn0 (by decide) rfl dX3_redo_20 ?_
        refine run_aload_n 2 dX3_redo_23 rfl rfl ?_
        refine run_iload_n 3 dX3_redo_24 rfl rfl ?_
        obtain ⟨g14, h⟩ := gd_s h
        refine run_iald' hn2 hl2 g14 rfl dX3_redo_25 ?_
        refine run_icmp_lt 45 dX3_redo_26 (by decide) (fun c15 => ?_) (fun c15 => ?_)
        · rw [if_pos c15] at h
          rw [← Option.some.inj h] at hj21
          exact hj21
        · rw [if_neg c15] at h
          refine run_aload_n 1 dX3_redo_29 rfl rfl ?_
          refine run_iload_n 3 dX3_redo_30 rfl rfl ?_
          refine run_aload_n 0 dX3_redo_31 rfl rfl ?_
          refine run_getr fl_X3_196 hn0 (by decide) rfl (cs_2_10 hn0) dX3_redo_32 ?_
          refine run_iload_n 3 dX3_redo_35 rfl rfl ?_
          obtain ⟨g16, h⟩ := gd_s h
          refine run_iald' (ch_2_10 hn0) (cl_2_10 hn0) g16 rfl dX3_redo_36 ?_
          obtain ⟨g17, h⟩ := gd_s h
          refine run_iast' hn1 hl1 g17 rfl dX3_redo_37 ?_
          refine run_aload_n 2 dX3_redo_38 rfl rfl ?_
          refine run_iload_n 3 dX3_redo_39 rfl rfl ?_
          refine run_aload_n 0 dX3_redo_40 rfl rfl ?_
          refine run_geti fl_X3_194 hn0 (by decide) rfl dX3_redo_41 ?_
          obtain ⟨g18, h⟩ := gd_s h
          refine run_iast' hn2 hl2 g18 rfl dX3_redo_44 ?_
          rw [Option.bind_some] at h
          refine run_mem (fun s19 es19 => ?_)
          rw [← es19] at h
          rw [← Option.some.inj h] at hj21
          exact hj21
def fX3_redo (n0 : Nat) (n1 : Nat) (n2 : Nat) (σ : Mem) : Option Mem := (lX3_redo_2 n0 n1 n2 FU 0 σ).bind fun q23 => some q23
set_option maxRecDepth 20000 in
theorem sX3_redo (G : GT) (d : Nat) {n0 : Nat} {n1 : Nat} {n2 : Nat} (hn0 : Is n0 2) (hn1 : Is n1 14) (hl1 : ln n1 = 10) (hn2 : Is n2 14) (hl2 : ln n2 = 10) {σ : Mem} {o : Mem} (h : fX3_redo n0 n1 n2 σ = some o) : Spec G yX3_redo cX3_redo 4 none (d + HX3_redo) [.ref (gA G n0), .ref (gA G n1), .ref (gA G n2)] σ (kV fun z => z = o) := by
  refine spec_run (by decide) (Nat.le_of_ble_eq_true rfl) ?_
  unfold fX3_redo at h
  show Run G RX3 cX3_redo 4 none _ 0 [(0, .ref (gA G n0)), (1, .ref (gA G n1)), (2, .ref (gA G n2))] [] σ
  refine run_iconst (v := 0) dX3_redo_0 rfl ?_
  refine run_istore_n [(0, .ref (gA G n0)), (1, .ref (gA G n1)), (2, .ref (gA G n2)), (3, .int 0)] [1, 2, 3, 0] dX3_redo_1 rfl (by decide) rfl ?_
  obtain ⟨q23, h24, h⟩ := Option.bind_eq_some_iff.mp h
  refine lpX3_redo_2 G d _ _ _ hn0 hn1 hl1 hn2 hl2 _ _ _ _ h24 ?_
  exact run_vret dX3_redo_51 ⟨rfl, Option.some.inj h⟩
def HX3_lookAt : Nat := 2
theorem HX3_lookAt_X10_noteGuard_lt (d : Nat) : d + HX10_noteGuard < d + HX3_lookAt := Nat.add_lt_add_left (by decide) d
theorem HX3_lookAt_X10_noteRead_lt (d : Nat) : d + HX10_noteRead < d + HX3_lookAt := Nat.add_lt_add_left (by decide) d
theorem HX3_lookAt_X11_hasBit_lt (d : Nat) : d + HX11_hasBit < d + HX3_lookAt := Nat.add_lt_add_left (by decide) d
theorem HX3_lookAt_X3_nodeOf_lt (d : Nat) : d + HX3_nodeOf < d + HX3_lookAt := Nat.add_lt_add_left (by decide) d
theorem HX3_lookAt_X3_viewOf_lt (d : Nat) : d + HX3_viewOf < d + HX3_lookAt := Nat.add_lt_add_left (by decide) d
theorem HX3_lookAt_0 (d : Nat) : 0 < d + HX3_lookAt := Nat.lt_of_lt_of_le (by decide) (Nat.le_add_left _ d)
def fX3_lookAt (n1 : Nat) (x2 : Int32) (σ : Mem) : Option Mem := (fX11_hasBit (σ n1 8) x2 σ).bind fun q1 => (if q1.1 = true then (some q1.2) else (gd (inb x2 10) (if (q1.2 147 (Int32.toNatClampNeg x2)) = (-1) then ((fX3_nodeOf x2 q1.2).bind fun q5 => (fX3_nodeOf x2 q5.2).bind fun q6 => gd (inb q6.1 10) ((fX10_noteGuard n1 q5.1 (q6.2 149 (Int32.toNatClampNeg q6.1)) q6.2).bind fun q8 => some q8)) else (gd (inb x2 10) ((fX10_noteRead n1 x2 (q1.2 148 (Int32.toNatClampNeg x2)) q1.2).bind fun q13 => some q13)))) : Option (Mem)).bind fun q15 => (fX3_viewOf n1 x2 q15).bind fun q16 => some (st2 q16.2 n1 3 (((q15 n1 3) + (mx q16.1 0)) % 100))
set_option maxRecDepth 20000 in
theorem sX3_lookAt (G : GT) (d : Nat) {n1 : Nat} {x2 : Int32} (hn1 : Is n1 10) {σ : Mem} {o : Mem} (h : fX3_lookAt n1 x2 σ = some o) : Spec G yX3_lookAt cX3_lookAt 3 none (d + HX3_lookAt) [.ref (gA G 146), .ref (gA G n1), .int x2] σ (kV fun z => z = o) := by
  refine spec_run (by decide) (Nat.le_of_ble_eq_true rfl) ?_
  unfold fX3_lookAt at h
  show Run G RX3 cX3_lookAt 3 none _ 0 [(0, .ref (gA G 146)), (1, .ref (gA G n1)), (2, .int x2)] [] σ
  refine run_aload_n 1 dX3_lookAt_0 rfl rfl ?_
  refine run_geti fl_X3_202 hn1 (by decide) rfl dX3_lookAt_1 ?_
  refine run_iload_n 2 dX3_lookAt_4 rfl rfl ?_
  obtain ⟨q1, h19, h⟩ := Option.bind_eq_some_iff.mp h
  refine run_callNb (As := [.int (σ n1 8), .int x2]) (fun r z => (r, z) = q1) mw_X11_hasBit ms_X11_hasBit mn_X3_176 rfl (RF.lt (HX3_lookAt_X11_hasBit_lt d)) (Nat.le_of_ble_eq_true rfl) dX3_lookAt_5 (sX11_hasBit G d  h19) (fun r z h8 => ?_) rfl
  rw [show r = q1.1 from congrArg Prod.fst h8, show z = q1.2 from congrArg Prod.snd h8]
  clear h8
  obtain ⟨q15, h, h9⟩ := Option.bind_eq_some_iff.mp h
  have hj18 : Run G RX3 cX3_lookAt 3 none (mF G (d + HX3_lookAt) (kV fun z => z = o)) 54 [(0, .ref (gA G 146)), (1, .ref (gA G n1)), (2, .int x2)] [] q15 := by
    clear h
    have h := h9
    clear h9
    refine run_aload_n 1 dX3_lookAt_54 rfl rfl ?_
    refine run_aload_n 1 dX3_lookAt_55 rfl rfl ?_
    refine run_geti fl_X3_213 hn1 (by decide) rfl dX3_lookAt_56 ?_
    refine run_aload_n 0 dX3_lookAt_59 rfl rfl ?_
    refine run_aload_n 1 dX3_lookAt_60 rfl rfl ?_
    refine run_iload_n 2 dX3_lookAt_61 rfl rfl ?_
    obtain ⟨q16, h17, h⟩ := Option.bind_eq_some_iff.mp h
    refine run_callVi (As := [.ref (gA G n1), .int x2]) (fun r z => (r, z) = q16) mw_X3_viewOf mi_X3_viewOf ml_X3_216 is_146 (by decide) rfl rfl rfl (RF.lt (HX3_lookAt_X3_viewOf_lt d)) (Nat.le_of_ble_eq_true rfl) dX3_lookAt_62 (sX3_viewOf G d hn1 h17) (fun r z h8 => ?_) rfl
    rw [show r = q16.1 from congrArg Prod.fst h8, show z = q16.2 from congrArg Prod.snd h8]
    clear h8
    refine run_iconst (v := 0) dX3_lookAt_65 rfl ?_
    refine run_max mm_X3_220 (RF.lt (HX3_lookAt_0 d)) (Nat.le_of_ble_eq_true rfl) dX3_lookAt_66 ?_
    refine run_iadd dX3_lookAt_69 ?_
    refine run_bipush (v := 100) dX3_lookAt_70 rfl ?_
    refine run_irem dX3_lookAt_72 (by decide) ?_
    refine run_puti fp_X3_213 hn1 (by decide) rfl dX3_lookAt_73 ?_
    exact run_vret dX3_lookAt_76 ⟨rfl, Option.some.inj h⟩
  clear h9
  refine run_ifb_ne 54 dX3_lookAt_8 (by decide) (fun c2 => ?_) (fun c2 => ?_)
  · rw [if_pos c2] at h
    rw [← Option.some.inj h] at hj18
    exact hj18
  · rw [if_neg c2] at h
    refine run_aload_n 0 dX3_lookAt_11 rfl rfl ?_
    refine run_getr fl_X3_9 is_146 (by decide) rfl ce_146_4 dX3_lookAt_12 ?_
    refine run_iload_n 2 dX3_lookAt_15 rfl rfl ?_
    obtain ⟨g3, h⟩ := gd_s h
    refine run_iald' is_147 ln_147 g3 rfl dX3_lookAt_16 ?_
    refine run_iconst (v := -1) dX3_lookAt_17 rfl ?_
    refine run_icmp_eq 35 dX3_lookAt_18 (by decide) (fun c4 => ?_) (fun c4 => ?_)
    · rw [if_pos c4] at h
      refine run_aload_n 1 dX3_lookAt_35 rfl rfl ?_
      refine run_aload_n 0 dX3_lookAt_36 rfl rfl ?_
      refine run_iload_n 2 dX3_lookAt_37 rfl rfl ?_
      obtain ⟨q5, h11, h⟩ := Option.bind_eq_some_iff.mp h
      refine run_callVi (As := [.int x2]) (fun r z => (r, z) = q5) mw_X3_nodeOf mi_X3_nodeOf ml_X3_207 is_146 (by decide) rfl rfl rfl (RF.lt (HX3_lookAt_X3_nodeOf_lt d)) (Nat.le_of_ble_eq_true rfl) dX3_lookAt_38 (sX3_nodeOf G d  h11) (fun r z h8 => ?_) rfl
      rw [show r = q5.1 from congrArg Prod.fst h8, show z = q5.2 from congrArg Prod.snd h8]
      clear h8
      refine run_aload_n 0 dX3_lookAt_41 rfl rfl ?_
      refine run_getr fl_X3_18 is_146 (by decide) rfl ce_146_6 dX3_lookAt_42 ?_
      refine run_aload_n 0 dX3_lookAt_45 rfl rfl ?_
      refine run_iload_n 2 dX3_lookAt_46 rfl rfl ?_
      obtain ⟨q6, h10, h⟩ := Option.bind_eq_some_iff.mp h
      refine run_callVi (As := [.int x2]) (fun r z => (r, z) = q6) mw_X3_nodeOf mi_X3_nodeOf ml_X3_207 is_146 (by decide) rfl rfl rfl (RF.lt (HX3_lookAt_X3_nodeOf_lt d)) (Nat.le_of_ble_eq_true rfl) dX3_lookAt_47 (sX3_nodeOf G d  h10) (fun r z h8 => ?_) rfl
      rw [show r = q6.1 from congrArg Prod.fst h8, show z = q6.2 from congrArg Prod.snd h8]
      clear h8
      obtain ⟨g7, h⟩ := gd_s h
      refine run_iald' is_149 ln_149 g7 rfl dX3_lookAt_50 ?_
      obtain ⟨q8, h9, h⟩ := Option.bind_eq_some_iff.mp h
      refine run_callVv (As := [.int q5.1, .int (q6.2 149 (Int32.toNatClampNeg q6.1))]) (fun z => z = q8) mw_X10_noteGuard mi_X10_noteGuard ml_X3_210 hn1 (by decide) rfl rfl rfl (RF.lt (HX3_lookAt_X10_noteGuard_lt d)) (Nat.le_of_ble_eq_true rfl) dX3_lookAt_51 (sX10_noteGuard G d hn1 h9) (fun z h8 => ?_) rfl
      rw [h8]
      clear h8
      rw [← Option.some.inj h] at hj18
      exact hj18
    · rw [if_neg c4] at h
      refine run_aload_n 1 dX3_lookAt_21 rfl rfl ?_
      refine run_iload_n 2 dX3_lookAt_22 rfl rfl ?_
      refine run_aload_n 0 dX3_lookAt_23 rfl rfl ?_
      refine run_getr fl_X3_15 is_146 (by decide) rfl ce_146_5 dX3_lookAt_24 ?_
      refine run_iload_n 2 dX3_lookAt_27 rfl rfl ?_
      obtain ⟨g12, h⟩ := gd_s h
      refine run_iald' is_148 ln_148 g12 rfl dX3_lookAt_28 ?_
      obtain ⟨q13, h14, h⟩ := Option.bind_eq_some_iff.mp h
      refine run_callVv (As := [.int x2, .int (q1.2 148 (Int32.toNatClampNeg x2))]) (fun z => z = q13) mw_X10_noteRead mi_X10_noteRead ml_X3_204 hn1 (by decide) rfl rfl rfl (RF.lt (HX3_lookAt_X10_noteRead_lt d)) (Nat.le_of_ble_eq_true rfl) dX3_lookAt_29 (sX10_noteRead G d hn1 h14) (fun z h8 => ?_) rfl
      rw [h8]
      clear h8
      refine run_goto 54 dX3_lookAt_32 (by decide) ?_
      rw [← Option.some.inj h] at hj18
      exact hj18
