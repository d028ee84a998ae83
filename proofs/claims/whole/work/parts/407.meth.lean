/-! methods, translated -/
def HX12_keepRow : Nat := 2
theorem HX12_keepRow_X12_lesser_lt (d : Nat) : d + HX12_lesser < d + HX12_keepRow := Nat.add_lt_add_left (by decide) d
theorem HX12_keepRow_0 (d : Nat) : 0 < d + HX12_keepRow := Nat.lt_of_lt_of_le (by decide) (Nat.le_add_left _ d)
def lX12_keepRow_10 (x1 : Int32) (x2 : Int32) (x3 : Int32) : Nat → Int32 → Mem → Option (Mem)
  | 0, _, _ => none
  | n + 1, x4, σ => if x1 ≤ x4 then (some σ) else (if x2 ≤ x3 then (some σ) else (gd (inb x4 3) (gd (inb (((1 : Int32) + (x1 * x3)) + x4) 134) (lX12_keepRow_10 x1 x2 x3 n (x4 + 1) (st2 σ 279 (Int32.toNatClampNeg (((1 : Int32) + (x1 * x3)) + x4)) (σ 280 (Int32.toNatClampNeg x4)))))))
set_option maxRecDepth 20000 in
theorem lpX12_keepRow_10 (G : GT) (d : Nat) (x1 : Int32) (x2 : Int32) (x3 : Int32)  {K : Option Value → Mem → Prop} : ∀ (n : Nat) (x4 : Int32) (σ : Mem) (o : Mem), lX12_keepRow_10 x1 x2 x3 n x4 σ = some o → (Run G RX12 cX12_keepRow 5 none (mF G (d + HX12_keepRow) K) 47 [(0, .ref (gA G 269)), (2, .int x2), (3, .int x3)] [] o) → Run G RX12 cX12_keepRow 5 none (mF G (d + HX12_keepRow) K) 10 [(0, .ref (gA G 269)), (1, .int x1), (2, .int x2), (3, .int x3), (4, .int x4)] [] σ := by
  intro n
  induction n with
  | zero => intro x4 σ o h; exact absurd h (by simp [lX12_keepRow_10])
  | succ n ih =>
    intro x4 σ o h kx
    rw [lX12_keepRow_10] at h
    refine run_iload 4 dX12_keepRow_10 rfl ?_
    refine run_iload_n 1 dX12_keepRow_12 rfl rfl ?_
    refine run_icmp_ge 47 dX12_keepRow_13 (by decide) (fun c5 => ?_) (fun c5 => ?_)
    · rw [if_pos c5] at h
      rw [← Option.some.inj h] at kx
      refine run_forget [0, 2, 3] rfl ?_
      exact kx
    · rw [if_neg c5] at h
      refine run_iload_n 3 dX12_keepRow_16 rfl rfl ?_
      refine run_iload_n 2 dX12_keepRow_17 rfl rfl ?_
      refine run_icmp_ge 47 dX12_keepRow_18 (by decide) (fun c6 => ?_) (fun c6 => ?_)
      · rw [if_pos c6] at h
        rw [← Option.some.inj h] at kx
        refine run_forget [0, 2, 3] rfl ?_
        exact kx
      · rw [if_neg c6] at h
        refine run_aload_n 0 dX12_keepRow_21 rfl rfl ?_
        refine run_getr fl_X12_38 is_269 (by decide) rfl ce_269_19 dX12_keepRow_22 ?_
        refine run_iconst (v := 1) dX12_keepRow_25 rfl ?_
        refine run_iload_n 1 dX12_keepRow_26 rfl rfl ?_
        refine run_iload_n 3 dX12_keepRow_27 rfl rfl ?_
        refine run_imul dX12_keepRow_28 ?_
        refine run_iadd dX12_keepRow_29 ?_
        refine run_iload 4 dX12_keepRow_30 rfl ?_
        refine run_iadd dX12_keepRow_32 ?_
        refine run_aload_n 0 dX12_keepRow_33 rfl rfl ?_
        refine run_getr fl_X12_41 is_269 (by decide) rfl ce_269_20 dX12_keepRow_34 ?_
        refine run_iload 4 dX12_keepRow_37 rfl ?_
        obtain ⟨g7, h⟩ := gd_s h
        refine run_iald' is_280 ln_280 g7 rfl dX12_keepRow_39 ?_
        obtain ⟨g8, h⟩ := gd_s h
        refine run_iast' is_279 ln_279 g8 rfl dX12_keepRow_40 ?_
        refine run_iinc 4 [(0, .ref (gA G 269)), (1, .int x1), (2, .int x2), (3, .int x3), (4, .int (x4 + 1))] [1, 2, 3, 4, 0] dX12_keepRow_41 rfl rfl (by decide) rfl ?_
        refine run_goto 10 dX12_keepRow_44 (by decide) ?_
        exact ih _ _ _ h kx
def fX12_keepRow (x1 : Int32) (x2 : Int32) (σ : Mem) : Option Mem := (lX12_keepRow_10 x1 x2 (σ 279 0) FU 0 σ).bind fun q9 => (fX12_lesser x2 ((σ 279 0) + 1) q9).bind fun q10 => some (st2 q10.2 279 0 q10.1)
set_option maxRecDepth 20000 in
theorem sX12_keepRow (G : GT) (d : Nat) {x1 : Int32} {x2 : Int32}  {σ : Mem} {o : Mem} (h : fX12_keepRow x1 x2 σ = some o) : Spec G yX12_keepRow cX12_keepRow 5 none (d + HX12_keepRow) [.ref (gA G 269), .int x1, .int x2] σ (kV fun z => z = o) := by
  refine spec_run (by decide) (Nat.le_of_ble_eq_true rfl) ?_
  unfold fX12_keepRow at h
  show Run G RX12 cX12_keepRow 5 none _ 0 [(0, .ref (gA G 269)), (1, .int x1), (2, .int x2)] [] σ
  refine run_aload_n 0 dX12_keepRow_0 rfl rfl ?_
  refine run_getr fl_X12_38 is_269 (by decide) rfl ce_269_19 dX12_keepRow_1 ?_
  refine run_iconst (v := 0) dX12_keepRow_4 rfl ?_
  refine run_iald' (j := 0) is_279 ln_279 (by decide) rfl dX12_keepRow_5 ?_
  refine run_istore_n [(0, .ref (gA G 269)), (1, .int x1), (2, .int x2), (3, .int (σ 279 0))] [1, 2, 3, 0] dX12_keepRow_6 rfl (by decide) rfl ?_
  refine run_iconst (v := 0) dX12_keepRow_7 rfl ?_
  refine run_istore [(0, .ref (gA G 269)), (1, .int x1), (2, .int x2), (3, .int (σ 279 0)), (4, .int 0)] [1, 2, 3, 4, 0] dX12_keepRow_8 (by decide) rfl ?_
  obtain ⟨q9, h12, h⟩ := Option.bind_eq_some_iff.mp h
  refine lpX12_keepRow_10 G d _ _ _ _ _ _ _ h12 ?_
  refine run_aload_n 0 dX12_keepRow_47 rfl rfl ?_
  refine run_getr fl_X12_38 is_269 (by decide) rfl ce_269_19 dX12_keepRow_48 ?_
  refine run_iconst (v := 0) dX12_keepRow_51 rfl ?_
  refine run_iload_n 1 dX12_keepRow_52 rfl rfl ?_
  refine run_iload_n 2 dX12_keepRow_53 rfl rfl ?_
  refine run_iconst (v := 1) dX12_keepRow_54 rfl ?_
  refine run_iadd dX12_keepRow_55 ?_
  obtain ⟨q10, h11, h⟩ := Option.bind_eq_some_iff.mp h
  refine run_callSi (As := [.int x2, .int ((σ 279 0) + 1)]) (fun r z => (r, z) = q10) mw_X12_lesser ms_X12_lesser ml_X12_239 rfl (RF.lt (HX12_keepRow_X12_lesser_lt d)) (Nat.le_of_ble_eq_true rfl) dX12_keepRow_56 (sX12_lesser G d  h11) (fun r z h8 => ?_) rfl
  rw [show r = q10.1 from congrArg Prod.fst h8, show z = q10.2 from congrArg Prod.snd h8]
  clear h8
  refine run_iast' (j := 0) is_279 ln_279 (by decide) rfl dX12_keepRow_59 ?_
  exact run_vret dX12_keepRow_60 ⟨rfl, Option.some.inj h⟩
def HX12_planLine : Nat := 4
theorem HX12_planLine_X12_deedBy_lt (d : Nat) : d + HX12_deedBy < d + HX12_planLine := Nat.add_lt_add_left (by decide) d
theorem HX12_planLine_X12_fails_lt (d : Nat) : d + HX12_fails < d + HX12_planLine := Nat.add_lt_add_left (by decide) d
theorem HX12_planLine_X12_full_lt (d : Nat) : d + HX12_full < d + HX12_planLine := Nat.add_lt_add_left (by decide) d
theorem HX12_planLine_X12_keepRow_lt (d : Nat) : d + HX12_keepRow < d + HX12_planLine := Nat.add_lt_add_left (by decide) d
theorem HX12_planLine_X12_take_lt (d : Nat) : d + HX12_take < d + HX12_planLine := Nat.add_lt_add_left (by decide) d
theorem HX12_planLine_X12_token_lt (d : Nat) : d + HX12_token < d + HX12_planLine := Nat.add_lt_add_left (by decide) d
theorem HX12_planLine_0 (d : Nat) : 0 < d + HX12_planLine := Nat.lt_of_lt_of_le (by decide) (Nat.le_add_left _ d)
def jX12_planLine_60 (x4 : Int32) (σ : Mem) : Option (Bool × Mem) := if x4 = 6 then ((fX12_take 2 0 6 σ).bind fun q9 => if q9.1 = true then ((fX12_keepRow 3 40 (st2 q9.2 280 0 x4)).bind fun q11 => some (true, q11)) else (some (false, q9.2))) else ((fX12_keepRow 3 40 (st2 σ 280 0 x4)).bind fun q7 => some (true, q7))
set_option maxRecDepth 20000 in
theorem jnX12_planLine_60 (G : GT) (d : Nat) (x4 : Int32)  (σ : Mem) (o : (Bool × Mem)) (h : jX12_planLine_60 x4 σ = some o) : Run G RX12 cX12_planLine 5 (some .boolean) (mF G (d + HX12_planLine) (kB fun x z => (x, z) = o)) 60 [(0, .ref (gA G 269)), (4, .int x4)] [] σ := by
  unfold jX12_planLine_60 at h
  refine run_iload 1 dX12_planLine_60 rfl ?_
  refine run_bipush (v := 6) dX12_planLine_62 rfl ?_
  refine run_icmp_ne 80 dX12_planLine_64 (by decide) (fun c6 => ?_) (fun c6 => ?_)
  · rw [if_neg c6] at h
    refine run_aload_n 0 dX12_planLine_80 rfl rfl ?_
    refine run_getr fl_X12_41 is_269 (by decide) rfl ce_269_20 dX12_planLine_81 ?_
    refine run_iconst (v := 0) dX12_planLine_84 rfl ?_
    refine run_iload 1 dX12_planLine_85 rfl ?_
    refine run_iast' (j := 0) is_280 ln_280 (by decide) rfl dX12_planLine_87 ?_
    refine run_aload_n 0 dX12_planLine_88 rfl rfl ?_
    refine run_iconst (v := 3) dX12_planLine_89 rfl ?_
    refine run_bipush (v := 40) dX12_planLine_90 rfl ?_
    obtain ⟨q7, h8, h⟩ := Option.bind_eq_some_iff.mp h
    refine run_callVv (As := [.int 3, .int 40]) (fun z => z = q7) mw_X12_keepRow mi_X12_keepRow ml_X12_273 is_269 (by decide) rfl rfl rfl (RF.lt (HX12_planLine_X12_keepRow_lt d)) (Nat.le_of_ble_eq_true rfl) dX12_planLine_92 (sX12_keepRow G d  h8) (fun z h8 => ?_) rfl
    rw [h8]
    clear h8
    refine run_iconst (v := 1) dX12_planLine_95 rfl ?_
    exact run_bret (b := true) dX12_planLine_96 ⟨_, rfl, Option.some.inj h⟩
  · rw [if_pos c6] at h
    refine run_aload_n 0 dX12_planLine_67 rfl rfl ?_
    refine run_iconst (v := 2) dX12_planLine_68 rfl ?_
    refine run_iconst (v := 0) dX12_planLine_69 rfl ?_
    refine run_bipush (v := 6) dX12_planLine_70 rfl ?_
    obtain ⟨q9, h13, h⟩ := Option.bind_eq_some_iff.mp h
    refine run_callVb (As := [.int 2, .int 0, .int 6]) (fun r z => (r, z) = q9) mw_X12_take mi_X12_take ml_X12_217 is_269 (by decide) rfl rfl rfl (RF.lt (HX12_planLine_X12_take_lt d)) (Nat.le_of_ble_eq_true rfl) dX12_planLine_72 (sX12_take G d  h13) (fun r z h8 => ?_) rfl
    rw [show r = q9.1 from congrArg Prod.fst h8, show z = q9.2 from congrArg Prod.snd h8]
    clear h8
    refine run_ifb_ne 80 dX12_planLine_75 (by decide) (fun c10 => ?_) (fun c10 => ?_)
    · rw [if_pos c10] at h
      refine run_aload_n 0 dX12_planLine_80 rfl rfl ?_
      refine run_getr fl_X12_41 is_269 (by decide) rfl ce_269_20 dX12_planLine_81 ?_
      refine run_iconst (v := 0) dX12_planLine_84 rfl ?_
      refine run_iload 1 dX12_planLine_85 rfl ?_
      refine run_iast' (j := 0) is_280 ln_280 (by decide) rfl dX12_planLine_87 ?_
      refine run_aload_n 0 dX12_planLine_88 rfl rfl ?_
      refine run_iconst (v := 3) dX12_planLine_89 rfl ?_
      refine run_bipush (v := 40) dX12_planLine_90 rfl ?_
      obtain ⟨q11, h12, h⟩ := Option.bind_eq_some_iff.mp h
      refine run_callVv (As := [.int 3, .int 40]) (fun z => z = q11) mw_X12_keepRow mi_X12_keepRow ml_X12_273 is_269 (by decide) rfl rfl rfl (RF.lt (HX12_planLine_X12_keepRow_lt d)) (Nat.le_of_ble_eq_true rfl) dX12_planLine_92 (sX12_keepRow G d  h12) (fun z h8 => ?_) rfl
      rw [h8]
      clear h8
      refine run_iconst (v := 1) dX12_planLine_95 rfl ?_
      exact run_bret (b := true) dX12_planLine_96 ⟨_, rfl, Option.some.inj h⟩
    · rw [if_neg c10] at h
      refine run_iconst (v := 0) dX12_planLine_78 rfl ?_
      exact run_bret (b := false) dX12_planLine_79 ⟨_, rfl, Option.some.inj h⟩
def fX12_planLine (x1 : Int64) (x3 : Int32) (σ : Mem) : Option (Bool × Mem) := (fX12_deedBy x1 σ).bind fun q1 => if q1.1 = (-1) then ((fX12_fails q1.2).bind fun q19 => some (q19.1, q19.2)) else ((fX12_full 0 40 x3 q1.2).bind fun q3 => (fX12_token q3).bind fun q4 => if q1.1 ≤ 1 then (jX12_planLine_60 q1.1 (st2 (st2 q4 280 1 (-1)) 280 2 (-1))) else ((fX12_take 1 0 3 (st2 (st2 q4 280 1 (-1)) 280 2 (-1))).bind fun q14 => if q14.1 = true then (jX12_planLine_60 q1.1 q14.2) else (some (false, q14.2))))
set_option maxRecDepth 20000 in
theorem sX12_planLine (G : GT) (d : Nat) {x1 : Int64} {x3 : Int32}  {σ : Mem} {o : (Bool × Mem)} (h : fX12_planLine x1 x3 σ = some o) : Spec G yX12_planLine cX12_planLine 5 (some .boolean) (d + HX12_planLine) [.ref (gA G 269), .long x1, .int x3] σ (kB fun x z => (x, z) = o) := by
  refine spec_run (by decide) (Nat.le_of_ble_eq_true rfl) ?_
  unfold fX12_planLine at h
  show Run G RX12 cX12_planLine 5 (some .boolean) _ 0 [(0, .ref (gA G 269)), (1, .long x1), (3, .int x3)] [] σ
  refine run_aload_n 0 dX12_planLine_0 rfl rfl ?_
  refine run_lload_n 1 dX12_planLine_1 rfl rfl ?_
  obtain ⟨q1, h21, h⟩ := Option.bind_eq_some_iff.mp h
  refine run_callVi (As := [.long x1]) (fun r z => (r, z) = q1) mw_X12_deedBy mi_X12_deedBy ml_X12_270 is_269 (by decide) rfl rfl rfl (RF.lt (HX12_planLine_X12_deedBy_lt d)) (Nat.le_of_ble_eq_true rfl) dX12_planLine_2 (sX12_deedBy G d  h21) (fun r z h8 => ?_) rfl
  rw [show r = q1.1 from congrArg Prod.fst h8, show z = q1.2 from congrArg Prod.snd h8]
  clear h8
  refine run_istore [(0, .ref (gA G 269)), (3, .int x3), (4, .int q1.1)] [1, 3, 0] dX12_planLine_5 (by decide) rfl ?_
  refine run_iload 2 dX12_planLine_7 rfl ?_
  refine run_iconst (v := -1) dX12_planLine_9 rfl ?_
  refine run_icmp_ne 18 dX12_planLine_10 (by decide) (fun c2 => ?_) (fun c2 => ?_)
  · rw [if_neg c2] at h
    refine run_aload_n 0 dX12_planLine_18 rfl rfl ?_
    refine run_iconst (v := 0) dX12_planLine_19 rfl ?_
    refine run_bipush (v := 40) dX12_planLine_20 rfl ?_
    refine run_iload_n 1 dX12_planLine_22 rfl rfl ?_
    obtain ⟨q3, h18, h⟩ := Option.bind_eq_some_iff.mp h
    refine run_callVv (As := [.int 0, .int 40, .int x3]) (fun z => z = q3) mw_X12_full mi_X12_full ml_X12_232 is_269 (by decide) rfl rfl rfl (RF.lt (HX12_planLine_X12_full_lt d)) (Nat.le_of_ble_eq_true rfl) dX12_planLine_23 (sX12_full G d  h18) (fun z h8 => ?_) rfl
    rw [h8]
    clear h8
    refine run_aload_n 0 dX12_planLine_26 rfl rfl ?_
    obtain ⟨q4, h17, h⟩ := Option.bind_eq_some_iff.mp h
    refine run_callVv (As := []) (fun z => z = q4) mw_X12_token mi_X12_token ml_X12_208 is_269 (by decide) rfl rfl rfl (RF.lt (HX12_planLine_X12_token_lt d)) (Nat.le_of_ble_eq_true rfl) dX12_planLine_27 (sX12_token G d  h17) (fun z h8 => ?_) rfl
    rw [h8]
    clear h8
    refine run_aload_n 0 dX12_planLine_30 rfl rfl ?_
    refine run_getr fl_X12_41 is_269 (by decide) rfl ce_269_20 dX12_planLine_31 ?_
    refine run_iconst (v := 1) dX12_planLine_34 rfl ?_
    refine run_iconst (v := -1) dX12_planLine_35 rfl ?_
    refine run_iast' (j := 1) is_280 ln_280 (by decide) rfl dX12_planLine_36 ?_
    refine run_aload_n 0 dX12_planLine_37 rfl rfl ?_
    refine run_getr fl_X12_41 is_269 (by decide) rfl ce_269_20 dX12_planLine_38 ?_
    refine run_iconst (v := 2) dX12_planLine_41 rfl ?_
    refine run_iconst (v := -1) dX12_planLine_42 rfl ?_
    refine run_iast' (j := 2) is_280 ln_280 (by decide) rfl dX12_planLine_43 ?_
    refine run_iload 2 dX12_planLine_44 rfl ?_
    refine run_iconst (v := 1) dX12_planLine_46 rfl ?_
    refine run_icmp_le 60 dX12_planLine_47 (by decide) (fun c5 => ?_) (fun c5 => ?_)
    · rw [if_pos c5] at h
      refine run_forget [0, 2] rfl ?_
      exact jnX12_planLine_60 G d _ _ _ h
    · rw [if_neg c5] at h
      refine run_aload_n 0 dX12_planLine_50 rfl rfl ?_
      refine run_iconst (v := 1) dX12_planLine_51 rfl ?_
      refine run_iconst (v := 0) dX12_planLine_52 rfl ?_
      refine run_iconst (v := 3) dX12_planLine_53 rfl ?_
      obtain ⟨q14, h16, h⟩ := Option.bind_eq_some_iff.mp h
      refine run_callVb (As := [.int 1, .int 0, .int 3]) (fun r z => (r, z) = q14) mw_X12_take mi_X12_take ml_X12_217 is_269 (by decide) rfl rfl rfl (RF.lt (HX12_planLine_X12_take_lt d)) (Nat.le_of_ble_eq_true rfl) dX12_planLine_54 (sX12_take G d  h16) (fun r z h8 => ?_) rfl
      rw [show r = q14.1 from congrArg Prod.fst h8, show z = q14.2 from congrArg Prod.snd h8]
      clear h8
      refine run_ifb_eq 78 dX12_planLine_57 (by decide) (fun c15 => ?_) (fun c15 => ?_)
      · rw [if_neg c15] at h
        refine run_iconst (v := 0) dX12_planLine_78 rfl ?_
        exact run_bret (b := false) dX12_planLine_79 ⟨_, rfl, Option.some.inj h⟩
      · rw [if_pos c15] at h
        refine run_forget [0, 2] rfl ?_
        exact jnX12_planLine_60 G d _ _ _ h
  · rw [if_pos c2] at h
    refine run_aload_n 0 dX12_planLine_13 rfl rfl ?_
    obtain ⟨q19, h20, h⟩ := Option.bind_eq_some_iff.mp h
    refine run_callVb (As := []) (fun r z => (r, z) = q19) mw_X12_fails mi_X12_fails ml_X12_196 is_269 (by decide) rfl rfl rfl (RF.lt (HX12_planLine_X12_fails_lt d)) (Nat.le_of_ble_eq_true rfl) dX12_planLine_14 (sX12_fails G d  h20) (fun r z h8 => ?_) rfl
    rw [show r = q19.1 from congrArg Prod.fst h8, show z = q19.2 from congrArg Prod.snd h8]
    clear h8
    exact run_bret (b := q19.1) dX12_planLine_17 ⟨_, rfl, Option.some.inj h⟩
def HX12_diaryLine : Nat := 4
theorem HX12_diaryLine_X12_fails_lt (d : Nat) : d + HX12_fails < d + HX12_diaryLine := Nat.add_lt_add_left (by decide) d
theorem HX12_diaryLine_X12_full_lt (d : Nat) : d + HX12_full < d + HX12_diaryLine := Nat.add_lt_add_left (by decide) d
theorem HX12_diaryLine_X12_keepRow_lt (d : Nat) : d + HX12_keepRow < d + HX12_diaryLine := Nat.add_lt_add_left (by decide) d
theorem HX12_diaryLine_X12_take_lt (d : Nat) : d + HX12_take < d + HX12_diaryLine := Nat.add_lt_add_left (by decide) d
theorem HX12_diaryLine_X12_token_lt (d : Nat) : d + HX12_token < d + HX12_diaryLine := Nat.add_lt_add_left (by decide) d
theorem HX12_diaryLine_0 (d : Nat) : 0 < d + HX12_diaryLine := Nat.lt_of_lt_of_le (by decide) (Nat.le_add_left _ d)
def jX12_diaryLine_21 (x1 : Int64) (x3 : Int32) (σ : Mem) : Option (Bool × Mem) := (fX12_full 0 8 x3 σ).bind fun q2 => (fX12_token q2).bind fun q3 => (fX12_take 0 0 9 (st2 q3 280 1 (-1))).bind fun q4 => if q4.1 = true then (if x1 = 6840691 then ((fX12_take 1 0 99 q4.2).bind fun q9 => if q9.1 = true then ((fX12_keepRow 2 8 q9.2).bind fun q11 => some (true, q11)) else (some (false, q9.2))) else ((fX12_keepRow 2 8 q4.2).bind fun q7 => some (true, q7))) else (some (false, q4.2))
set_option maxRecDepth 20000 in
theorem jnX12_diaryLine_21 (G : GT) (d : Nat) (x1 : Int64) (x3 : Int32)  (σ : Mem) (o : (Bool × Mem)) (h : jX12_diaryLine_21 x1 x3 σ = some o) : Run G RX12 cX12_diaryLine 4 (some .boolean) (mF G (d + HX12_diaryLine) (kB fun x z => (x, z) = o)) 21 [(0, .ref (gA G 269)), (1, .long x1), (3, .int x3)] [] σ := by
  unfold jX12_diaryLine_21 at h
  refine run_aload_n 0 dX12_diaryLine_21 rfl rfl ?_
  refine run_iconst (v := 0) dX12_diaryLine_22 rfl ?_
  refine run_bipush (v := 8) dX12_diaryLine_23 rfl ?_
  refine run_iload_n 2 dX12_diaryLine_25 rfl rfl ?_
  obtain ⟨q2, h16, h⟩ := Option.bind_eq_some_iff.mp h
  refine run_callVv (As := [.int 0, .int 8, .int x3]) (fun z => z = q2) mw_X12_full mi_X12_full ml_X12_232 is_269 (by decide) rfl rfl rfl (RF.lt (HX12_diaryLine_X12_full_lt d)) (Nat.le_of_ble_eq_true rfl) dX12_diaryLine_26 (sX12_full G d  h16) (fun z h8 => ?_) rfl
  rw [h8]
  clear h8
  refine run_aload_n 0 dX12_diaryLine_29 rfl rfl ?_
  obtain ⟨q3, h15, h⟩ := Option.bind_eq_some_iff.mp h
  refine run_callVv (As := []) (fun z => z = q3) mw_X12_token mi_X12_token ml_X12_208 is_269 (by decide) rfl rfl rfl (RF.lt (HX12_diaryLine_X12_token_lt d)) (Nat.le_of_ble_eq_true rfl) dX12_diaryLine_30 (sX12_token G d  h15) (fun z h8 => ?_) rfl
  rw [h8]
  clear h8
  refine run_aload_n 0 dX12_diaryLine_33 rfl rfl ?_
  refine run_getr fl_X12_41 is_269 (by decide) rfl ce_269_20 dX12_diaryLine_34 ?_
  refine run_iconst (v := 1) dX12_diaryLine_37 rfl ?_
  refine run_iconst (v := -1) dX12_diaryLine_38 rfl ?_
  refine run_iast' (j := 1) is_280 ln_280 (by decide) rfl dX12_diaryLine_39 ?_
  refine run_aload_n 0 dX12_diaryLine_40 rfl rfl ?_
  refine run_iconst (v := 0) dX12_diaryLine_41 rfl ?_
  refine run_iconst (v := 0) dX12_diaryLine_42 rfl ?_
  refine run_bipush (v := 9) dX12_diaryLine_43 rfl ?_
  obtain ⟨q4, h14, h⟩ := Option.bind_eq_some_iff.mp h
  refine run_callVb (As := [.int 0, .int 0, .int 9]) (fun r z => (r, z) = q4) mw_X12_take mi_X12_take ml_X12_217 is_269 (by decide) rfl rfl rfl (RF.lt (HX12_diaryLine_X12_take_lt d)) (Nat.le_of_ble_eq_true rfl) dX12_diaryLine_45 (sX12_take G d  h14) (fun r z h8 => ?_) rfl
  rw [show r = q4.1 from congrArg Prod.fst h8, show z = q4.2 from congrArg Prod.snd h8]
  clear h8
  refine run_ifb_eq 70 dX12_diaryLine_48 (by decide) (fun c5 => ?_) (fun c5 => ?_)
  · rw [if_neg c5] at h
    refine run_iconst (v := 0) dX12_diaryLine_70 rfl ?_
    exact run_bret (b := false) dX12_diaryLine_71 ⟨_, rfl, Option.some.inj h⟩
  · rw [if_pos c5] at h
    refine run_lload_n 1 dX12_diaryLine_51 rfl rfl ?_
    refine run_ldc2 kl_X12_276 dX12_diaryLine_52 ?_
    refine run_lcmp dX12_diaryLine_55 ?_
    refine run_lc_ne 72 dX12_diaryLine_56 (by decide) (fun c6 => ?_) (fun c6 => ?_)
    · rw [if_neg c6] at h
      refine run_aload_n 0 dX12_diaryLine_72 rfl rfl ?_
      refine run_iconst (v := 2) dX12_diaryLine_73 rfl ?_
      refine run_bipush (v := 8) dX12_diaryLine_74 rfl ?_
      obtain ⟨q7, h8, h⟩ := Option.bind_eq_some_iff.mp h
      refine run_callVv (As := [.int 2, .int 8]) (fun z => z = q7) mw_X12_keepRow mi_X12_keepRow ml_X12_273 is_269 (by decide) rfl rfl rfl (RF.lt (HX12_diaryLine_X12_keepRow_lt d)) (Nat.le_of_ble_eq_true rfl) dX12_diaryLine_76 (sX12_keepRow G d  h8) (fun z h8 => ?_) rfl
      rw [h8]
      clear h8
      refine run_iconst (v := 1) dX12_diaryLine_79 rfl ?_
      exact run_bret (b := true) dX12_diaryLine_80 ⟨_, rfl, Option.some.inj h⟩
    · rw [if_pos c6] at h
      refine run_aload_n 0 dX12_diaryLine_59 rfl rfl ?_
      refine run_iconst (v := 1) dX12_diaryLine_60 rfl ?_
      refine run_iconst (v := 0) dX12_diaryLine_61 rfl ?_
      refine run_bipush (v := 99) dX12_diaryLine_62 rfl ?_
      obtain ⟨q9, h13, h⟩ := Option.bind_eq_some_iff.mp h
      refine run_callVb (As := [.int 1, .int 0, .int 99]) (fun r z => (r, z) = q9) mw_X12_take mi_X12_take ml_X12_217 is_269 (by decide) rfl rfl rfl (RF.lt (HX12_diaryLine_X12_take_lt d)) (Nat.le_of_ble_eq_true rfl) dX12_diaryLine_64 (sX12_take G d  h13) (fun r z h8 => ?_) rfl
      rw [show r = q9.1 from congrArg Prod.fst h8, show z = q9.2 from congrArg Prod.snd h8]
      clear h8
      refine run_ifb_ne 72 dX12_diaryLine_67 (by decide) (fun c10 => ?_) (fun c10 => ?_)
      · rw [if_pos c10] at h
        refine run_aload_n 0 dX12_diaryLine_72 rfl rfl ?_
        refine run_iconst (v := 2) dX12_diaryLine_73 rfl ?_
        refine run_bipush (v := 8) dX12_diaryLine_74 rfl ?_
        obtain ⟨q11, h12, h⟩ := Option.bind_eq_some_iff.mp h
        refine run_callVv (As := [.int 2, .int 8]) (fun z => z = q11) mw_X12_keepRow mi_X12_keepRow ml_X12_273 is_269 (by decide) rfl rfl rfl (RF.lt (HX12_diaryLine_X12_keepRow_lt d)) (Nat.le_of_ble_eq_true rfl) dX12_diaryLine_76 (sX12_keepRow G d  h12) (fun z h8 => ?_) rfl
        rw [h8]
        clear h8
        refine run_iconst (v := 1) dX12_diaryLine_79 rfl ?_
        exact run_bret (b := true) dX12_diaryLine_80 ⟨_, rfl, Option.some.inj h⟩
      · rw [if_neg c10] at h
        refine run_iconst (v := 0) dX12_diaryLine_70 rfl ?_
        exact run_bret (b := false) dX12_diaryLine_71 ⟨_, rfl, Option.some.inj h⟩
def fX12_diaryLine (x1 : Int64) (x3 : Int32) (σ : Mem) : Option (Bool × Mem) := if x1 = 6840691 then (jX12_diaryLine_21 x1 x3 σ) else (if x1 = 465490373491 then (jX12_diaryLine_21 x1 x3 σ) else ((fX12_fails σ).bind fun q18 => some (q18.1, q18.2)))
set_option maxRecDepth 20000 in
theorem sX12_diaryLine (G : GT) (d : Nat) {x1 : Int64} {x3 : Int32}  {σ : Mem} {o : (Bool × Mem)} (h : fX12_diaryLine x1 x3 σ = some o) : Spec G yX12_diaryLine cX12_diaryLine 4 (some .boolean) (d + HX12_diaryLine) [.ref (gA G 269), .long x1, .int x3] σ (kB fun x z => (x, z) = o) := by
  refine spec_run (by decide) (Nat.le_of_ble_eq_true rfl) ?_
  unfold fX12_diaryLine at h
  show Run G RX12 cX12_diaryLine 4 (some .boolean) _ 0 [(0, .ref (gA G 269)), (1, .long x1), (3, .int x3)] [] σ
  refine run_lload_n 1 dX12_diaryLine_0 rfl rfl ?_
  refine run_ldc2 kl_X12_276 dX12_diaryLine_1 ?_
  refine run_lcmp dX12_diaryLine_4 ?_
  refine run_lc_eq 21 dX12_diaryLine_5 (by decide) (fun c1 => ?_) (fun c1 => ?_)
  · rw [if_pos c1] at h
    exact jnX12_diaryLine_21 G d _ _ _ _ h
  · rw [if_neg c1] at h
    refine run_lload_n 1 dX12_diaryLine_8 rfl rfl ?_
    refine run_ldc2 kl_X12_278 dX12_diaryLine_9 ?_
    refine run_lcmp dX12_diaryLine_12 ?_
    refine run_lc_eq 21 dX12_diaryLine_13 (by decide) (fun c17 => ?_) (fun c17 => ?_)
    · rw [if_pos c17] at h
      exact jnX12_diaryLine_21 G d _ _ _ _ h
    · rw [if_neg c17] at h
      refine run_aload_n 0 dX12_diaryLine_16 rfl rfl ?_
      obtain ⟨q18, h19, h⟩ := Option.bind_eq_some_iff.mp h
      refine run_callVb (As := []) (fun r z => (r, z) = q18) mw_X12_fails mi_X12_fails ml_X12_196 is_269 (by decide) rfl rfl rfl (RF.lt (HX12_diaryLine_X12_fails_lt d)) (Nat.le_of_ble_eq_true rfl) dX12_diaryLine_17 (sX12_fails G d  h19) (fun r z h8 => ?_) rfl
      rw [show r = q18.1 from congrArg Prod.fst h8, show z = q18.2 from congrArg Prod.snd h8]
      clear h8
      exact run_bret (b := q18.1) dX12_diaryLine_20 ⟨_, rfl, Option.some.inj h⟩
def HX12_lineOf : Nat := 6
theorem HX12_lineOf_X12_bookLine_lt (d : Nat) : d + HX12_bookLine < d + HX12_lineOf := Nat.add_lt_add_left (by decide) d
theorem HX12_lineOf_X12_diaryLine_lt (d : Nat) : d + HX12_diaryLine < d + HX12_lineOf := Nat.add_lt_add_left (by decide) d
theorem HX12_lineOf_X12_planLine_lt (d : Nat) : d + HX12_planLine < d + HX12_lineOf := Nat.add_lt_add_left (by decide) d
theorem HX12_lineOf_X12_storeLine_lt (d : Nat) : d + HX12_storeLine < d + HX12_lineOf := Nat.add_lt_add_left (by decide) d
theorem HX12_lineOf_0 (d : Nat) : 0 < d + HX12_lineOf := Nat.lt_of_lt_of_le (by decide) (Nat.le_add_left _ d)
def fX12_lineOf (x1 : Int32) (x2 : Int64) (x4 : Int32) (σ : Mem) : Option (Bool × Mem) := if x1 = 0 then ((fX12_storeLine x2 σ).bind fun q10 => some (q10.1, q10.2)) else (if x1 = 1 then ((fX12_bookLine x2 x4 σ).bind fun q8 => some (q8.1, q8.2)) else (if x1 = 2 then ((fX12_planLine x2 x4 σ).bind fun q6 => some (q6.1, q6.2)) else ((fX12_diaryLine x2 x4 σ).bind fun q4 => some (q4.1, q4.2))))
set_option maxRecDepth 20000 in
theorem sX12_lineOf (G : GT) (d : Nat) {x1 : Int32} {x2 : Int64} {x4 : Int32}  {σ : Mem} {o : (Bool × Mem)} (h : fX12_lineOf x1 x2 x4 σ = some o) : Spec G yX12_lineOf cX12_lineOf 5 (some .boolean) (d + HX12_lineOf) [.ref (gA G 269), .int x1, .long x2, .int x4] σ (kB fun x z => (x, z) = o) := by
  refine spec_run (by decide) (Nat.le_of_ble_eq_true rfl) ?_
  unfold fX12_lineOf at h
  show Run G RX12 cX12_lineOf 5 (some .boolean) _ 0 [(0, .ref (gA G 269)), (1, .int x1), (2, .long x2), (4, .int x4)] [] σ
  refine run_iload_n 1 dX12_lineOf_0 rfl rfl ?_
  refine run_if_ne 12 dX12_lineOf_1 (by decide) (fun c1 => ?_) (fun c1 => ?_)
  · rw [if_neg c1] at h
    refine run_iload_n 1 dX12_lineOf_12 rfl rfl ?_
    refine run_iconst (v := 1) dX12_lineOf_13 rfl ?_
    refine run_icmp_ne 27 dX12_lineOf_14 (by decide) (fun c2 => ?_) (fun c2 => ?_)
    · rw [if_neg c2] at h
      refine run_iload_n 1 dX12_lineOf_27 rfl rfl ?_
      refine run_iconst (v := 2) dX12_lineOf_28 rfl ?_
      refine run_icmp_ne 42 dX12_lineOf_29 (by decide) (fun c3 => ?_) (fun c3 => ?_)
      · rw [if_neg c3] at h
        refine run_aload_n 0 dX12_lineOf_42 rfl rfl ?_
        refine run_lload_n 2 dX12_lineOf_43 rfl rfl ?_
        refine run_iload 3 dX12_lineOf_44 rfl ?_
        obtain ⟨q4, h5, h⟩ := Option.bind_eq_some_iff.mp h
        refine run_callVb (As := [.long x2, .int x4]) (fun r z => (r, z) = q4) mw_X12_diaryLine mi_X12_diaryLine ml_X12_291 is_269 (by decide) rfl rfl rfl (RF.lt (HX12_lineOf_X12_diaryLine_lt d)) (Nat.le_of_ble_eq_true rfl) dX12_lineOf_46 (sX12_diaryLine G d  h5) (fun r z h8 => ?_) rfl
        rw [show r = q4.1 from congrArg Prod.fst h8, show z = q4.2 from congrArg Prod.snd h8]
        clear h8
        exact run_bret (b := q4.1) dX12_lineOf_49 ⟨_, rfl, Option.some.inj h⟩
      · rw [if_pos c3] at h
        refine run_aload_n 0 dX12_lineOf_32 rfl rfl ?_
        refine run_lload_n 2 dX12_lineOf_33 rfl rfl ?_
        refine run_iload 3 dX12_lineOf_34 rfl ?_
        obtain ⟨q6, h7, h⟩ := Option.bind_eq_some_iff.mp h
        refine run_callVb (As := [.long x2, .int x4]) (fun r z => (r, z) = q6) mw_X12_planLine mi_X12_planLine ml_X12_288 is_269 (by decide) rfl rfl rfl (RF.lt (HX12_lineOf_X12_planLine_lt d)) (Nat.le_of_ble_eq_true rfl) dX12_lineOf_36 (sX12_planLine G d  h7) (fun r z h8 => ?_) rfl
        rw [show r = q6.1 from congrArg Prod.fst h8, show z = q6.2 from congrArg Prod.snd h8]
        clear h8
        refine run_goto 49 dX12_lineOf_39 (by decide) ?_
        exact run_bret (b := q6.1) dX12_lineOf_49 ⟨_, rfl, Option.some.inj h⟩
    · rw [if_pos c2] at h
      refine run_aload_n 0 dX12_lineOf_17 rfl rfl ?_
      refine run_lload_n 2 dX12_lineOf_18 rfl rfl ?_
      refine run_iload 3 dX12_lineOf_19 rfl ?_
      obtain ⟨q8, h9, h⟩ := Option.bind_eq_some_iff.mp h
      refine run_callVb (As := [.long x2, .int x4]) (fun r z => (r, z) = q8) mw_X12_bookLine mi_X12_bookLine ml_X12_284 is_269 (by decide) rfl rfl rfl (RF.lt (HX12_lineOf_X12_bookLine_lt d)) (Nat.le_of_ble_eq_true rfl) dX12_lineOf_21 (sX12_bookLine G d  h9) (fun r z h8 => ?_) rfl
      rw [show r = q8.1 from congrArg Prod.fst h8, show z = q8.2 from congrArg Prod.snd h8]
      clear h8
      refine run_goto 49 dX12_lineOf_24 (by decide) ?_
      exact run_bret (b := q8.1) dX12_lineOf_49 ⟨_, rfl, Option.some.inj h⟩
  · rw [if_pos c1] at h
    refine run_aload_n 0 dX12_lineOf_4 rfl rfl ?_
    refine run_lload_n 2 dX12_lineOf_5 rfl rfl ?_
    obtain ⟨q10, h11, h⟩ := Option.bind_eq_some_iff.mp h
    refine run_callVb (As := [.long x2]) (fun r z => (r, z) = q10) mw_X12_storeLine mi_X12_storeLine ml_X12_280 is_269 (by decide) rfl rfl rfl (RF.lt (HX12_lineOf_X12_storeLine_lt d)) (Nat.le_of_ble_eq_true rfl) dX12_lineOf_6 (sX12_storeLine G d  h11) (fun r z h8 => ?_) rfl
    rw [show r = q10.1 from congrArg Prod.fst h8, show z = q10.2 from congrArg Prod.snd h8]
    clear h8
    refine run_goto 49 dX12_lineOf_9 (by decide) ?_
    exact run_bret (b := q10.1) dX12_lineOf_49 ⟨_, rfl, Option.some.inj h⟩
def HX12_allLines : Nat := 7
theorem HX12_allLines_X12_fails_lt (d : Nat) : d + HX12_fails < d + HX12_allLines := Nat.add_lt_add_left (by decide) d
theorem HX12_allLines_X12_lineOf_lt (d : Nat) : d + HX12_lineOf < d + HX12_allLines := Nat.add_lt_add_left (by decide) d
theorem HX12_allLines_X12_token_lt (d : Nat) : d + HX12_token < d + HX12_allLines := Nat.add_lt_add_left (by decide) d
theorem HX12_allLines_0 (d : Nat) : 0 < d + HX12_allLines := Nat.lt_of_lt_of_le (by decide) (Nat.le_add_left _ d)
def lX12_allLines_2 (x1 : Int32) : Nat → Bool → Mem → Option (Bool × Mem)
  | 0, _, _ => none
  | n + 1, x2, σ => if x2 = true then (if (σ 269 13) = 0 then (some (x2, σ)) else ((if (σ 269 13) = 2 then (some (lgJ (σ 269 15) (σ 269 1015))) else (some 0) : Option (Int64)).bind fun q4 => (fX12_lineOf x1 q4 (σ 269 12) (st2 σ 269 21 1)).bind fun q5 => (if q5.1 = true then (if (q5.2 269 13) = 4 then (some (q5.1, q5.2)) else ((fX12_fails q5.2).bind fun q8 => some (q8.1, q8.2))) else (some (q5.1, q5.2)) : Option (Bool × Mem)).bind fun q10 => (if (q10.1) = true then ((fX12_token (q10.2)).bind fun q12 => some q12) else (some (q10.2)) : Option (Mem)).bind fun q14 => lX12_allLines_2 x1 n (q10.1) q14)) else (some (x2, σ))
set_option maxRecDepth 20000 in
theorem lpX12_allLines_2 (G : GT) (d : Nat) (x1 : Int32)  {K : Option Value → Mem → Prop} : ∀ (n : Nat) (x2 : Bool) (σ : Mem) (o : Bool × Mem), lX12_allLines_2 x1 n x2 σ = some o → (Run G RX12 cX12_allLines 6 (some .boolean) (mF G (d + HX12_allLines) K) 78 [(2, .int (b2 (o.1)))] [] (o.2)) → Run G RX12 cX12_allLines 6 (some .boolean) (mF G (d + HX12_allLines) K) 2 [(0, .ref (gA G 269)), (1, .int x1), (2, .int (b2 x2))] [] σ := by
  intro n
  induction n with
  | zero => intro x2 σ o h; exact absurd h (by simp [lX12_allLines_2])
  | succ n ih =>
    intro x2 σ o h kx
    rw [lX12_allLines_2] at h
    refine run_iload_n 2 dX12_allLines_2 rfl rfl ?_
    refine run_ifb_eq 78 dX12_allLines_3 (by decide) (fun c1 => ?_) (fun c1 => ?_)
    · rw [if_neg c1] at h
      rw [← Option.some.inj h] at kx
      refine run_forget [2] rfl ?_
      exact kx
    · rw [if_pos c1] at h
      refine run_aload_n 0 dX12_allLines_6 rfl rfl ?_
      refine run_geti fl_X12_181 is_269 (by decide) rfl dX12_allLines_7 ?_
      refine run_if_eq 78 dX12_allLines_10 (by decide) (fun c2 => ?_) (fun c2 => ?_)
      · rw [if_pos c2] at h
        rw [← Option.some.inj h] at kx
        refine run_forget [2] rfl ?_
        exact kx
      · rw [if_neg c2] at h
        refine run_aload_n 0 dX12_allLines_13 rfl rfl ?_
        refine run_geti fl_X12_174 is_269 (by decide) rfl dX12_allLines_14 ?_
        refine run_istore_n [(0, .ref (gA G 269)), (1, .int x1), (3, .int (σ 269 12))] [1, 2, 0] dX12_allLines_17 rfl (by decide) rfl ?_
        refine run_aload_n 0 dX12_allLines_18 rfl rfl ?_
        refine run_geti fl_X12_181 is_269 (by decide) rfl dX12_allLines_19 ?_
        refine run_iconst (v := 2) dX12_allLines_22 rfl ?_
        obtain ⟨q4, h, h9⟩ := Option.bind_eq_some_iff.mp h
        have hj18 : Run G RX12 cX12_allLines 6 (some .boolean) (mF G (d + HX12_allLines) K) 34 [(0, .ref (gA G 269)), (1, .int x1), (3, .int (σ 269 12))] [.long q4] σ := by
          clear h
          have h := h9
          clear h9
          refine run_lstore [(0, .ref (gA G 269)), (1, .int x1), (3, .int (σ 269 12)), (4, .long q4)] [1, 2, 3, 0] dX12_allLines_34 (by decide) rfl ?_
          refine run_aload_n 0 dX12_allLines_36 rfl rfl ?_
          refine run_iconst (v := 1) dX12_allLines_37 rfl ?_
          refine run_putz fp_X12_204 is_269 (by decide) rfl (by decide) dX12_allLines_38 ?_
          refine run_aload_n 0 dX12_allLines_41 rfl rfl ?_
          refine run_iload_n 1 dX12_allLines_42 rfl rfl ?_
          refine run_lload 3 dX12_allLines_43 rfl ?_
          refine run_iload_n 2 dX12_allLines_45 rfl rfl ?_
          obtain ⟨q5, h17, h⟩ := Option.bind_eq_some_iff.mp h
          refine run_callVb (As := [.int x1, .long q4, .int (σ 269 12)]) (fun r z => (r, z) = q5) mw_X12_lineOf mi_X12_lineOf ml_X12_294 is_269 (by decide) rfl rfl rfl (RF.lt (HX12_allLines_X12_lineOf_lt d)) (Nat.le_of_ble_eq_true rfl) dX12_allLines_46 (sX12_lineOf G d  h17) (fun r z h8 => ?_) rfl
          rw [show r = q5.1 from congrArg Prod.fst h8, show z = q5.2 from congrArg Prod.snd h8]
          clear h8
          refine run_istore_n [(0, .ref (gA G 269)), (1, .int x1), (2, .int (b2 q5.1))] [1, 2, 0] dX12_allLines_49 rfl (by decide) rfl ?_
          refine run_iload_n 2 dX12_allLines_50 rfl rfl ?_
          obtain ⟨q10, h, h9⟩ := Option.bind_eq_some_iff.mp h
          have hj16 : Run G RX12 cX12_allLines 6 (some .boolean) (mF G (d + HX12_allLines) K) 67 [(0, .ref (gA G 269)), (1, .int x1), (2, .int (b2 (q10.1)))] [] (q10.2) := by
            clear h
            have h := h9
            clear h9
            refine run_iload_n 2 dX12_allLines_67 rfl rfl ?_
            obtain ⟨q14, h, h9⟩ := Option.bind_eq_some_iff.mp h
            have hj15 : Run G RX12 cX12_allLines 6 (some .boolean) (mF G (d + HX12_allLines) K) 75 [(0, .ref (gA G 269)), (1, .int x1), (2, .int (b2 (q10.1)))] [] q14 := by
              clear h
              have h := h9
              clear h9
              refine run_goto 2 dX12_allLines_75 (by decide) ?_
              exact ih _ _ _ h kx
            clear h9
            refine run_ifb_eq 75 dX12_allLines_68 (by decide) (fun c11 => ?_) (fun c11 => ?_)
            · rw [if_neg c11] at h
              rw [← Option.some.inj h] at hj15
              exact hj15
            · rw [if_pos c11] at h
              refine run_aload_n 0 dX12_allLines_71 rfl rfl ?_
              obtain ⟨q12, h13, h⟩ := Option.bind_eq_some_iff.mp h
              refine run_callVv (As := []) (fun z => z = q12) mw_X12_token mi_X12_token ml_X12_208 is_269 (by decide) rfl rfl rfl (RF.lt (HX12_allLines_X12_token_lt d)) (Nat.le_of_ble_eq_true rfl) dX12_allLines_72 (sX12_token G d  h13) (fun z h8 => ?_) rfl
              rw [h8]
              clear h8
              rw [← Option.some.inj h] at hj15
              exact hj15
          clear h9
          refine run_ifb_eq 67 dX12_allLines_51 (by decide) (fun c6 => ?_) (fun c6 => ?_)
          · rw [if_neg c6] at h
            rw [← Option.some.inj h] at hj16
            exact hj16
          · rw [if_pos c6] at h
            refine run_aload_n 0 dX12_allLines_54 rfl rfl ?_
            refine run_geti fl_X12_181 is_269 (by decide) rfl dX12_allLines_55 ?_
            refine run_iconst (v := 4) dX12_allLines_58 rfl ?_
            refine run_icmp_eq 67 dX12_allLines_59 (by decide) (fun c7 => ?_) (fun c7 => ?_)
            · rw [if_pos c7] at h
              rw [← Option.some.inj h] at hj16
              exact hj16
            · rw [if_neg c7] at h
              refine run_aload_n 0 dX12_allLines_62 rfl rfl ?_
              obtain ⟨q8, h9, h⟩ := Option.bind_eq_some_iff.mp h
              refine run_callVb (As := []) (fun r z => (r, z) = q8) mw_X12_fails mi_X12_fails ml_X12_196 is_269 (by decide) rfl rfl rfl (RF.lt (HX12_allLines_X12_fails_lt d)) (Nat.le_of_ble_eq_true rfl) dX12_allLines_63 (sX12_fails G d  h9) (fun r z h8 => ?_) rfl
              rw [show r = q8.1 from congrArg Prod.fst h8, show z = q8.2 from congrArg Prod.snd h8]
              clear h8
              refine run_istore_n [(0, .ref (gA G 269)), (1, .int x1), (2, .int (b2 q8.1))] [1, 2, 0] dX12_allLines_66 rfl (by decide) rfl ?_
              rw [← Option.some.inj h] at hj16
              exact hj16
        clear h9
        refine run_icmp_ne 33 dX12_allLines_23 (by decide) (fun c3 => ?_) (fun c3 => ?_)
        · rw [if_neg c3] at h
          refine run_lconst (v := 0) dX12_allLines_33 rfl ?_
          rw [← Option.some.inj h] at hj18
          exact hj18
        · rw [if_pos c3] at h
          refine run_aload_n 0 dX12_allLines_26 rfl rfl ?_
          refine run_getl fl_X12_177 is_269 (by decide) rfl dX12_allLines_27 ?_
          refine run_goto 34 dX12_allLines_30 (by decide) ?_
          rw [← Option.some.inj h] at hj18
          exact hj18
def fX12_allLines (x1 : Int32) (σ : Mem) : Option (Bool × Mem) := (lX12_allLines_2 x1 FU true σ).bind fun q19 => some ((q19.1), (q19.2))
set_option maxRecDepth 20000 in
theorem sX12_allLines (G : GT) (d : Nat) {x1 : Int32}  {σ : Mem} {o : (Bool × Mem)} (h : fX12_allLines x1 σ = some o) : Spec G yX12_allLines cX12_allLines 6 (some .boolean) (d + HX12_allLines) [.ref (gA G 269), .int x1] σ (kB fun x z => (x, z) = o) := by
  refine spec_run (by decide) (Nat.le_of_ble_eq_true rfl) ?_
  unfold fX12_allLines at h
  show Run G RX12 cX12_allLines 6 (some .boolean) _ 0 [(0, .ref (gA G 269)), (1, .int x1)] [] σ
  refine run_iconst (v := 1) dX12_allLines_0 rfl ?_
  refine run_istore_n [(0, .ref (gA G 269)), (1, .int x1), (2, .int 1)] [1, 2, 0] dX12_allLines_1 rfl (by decide) rfl ?_
  obtain ⟨q19, h20, h⟩ := Option.bind_eq_some_iff.mp h
  refine lpX12_allLines_2 G d _ _ _ _ _ h20 ?_
  refine run_iload_n 0 dX12_allLines_78 rfl rfl ?_
  exact run_bret (b := (q19.1)) dX12_allLines_79 ⟨_, rfl, Option.some.inj h⟩
def HX12_readText : Nat := 8
theorem HX12_readText_X12_allLines_lt (d : Nat) : d + HX12_allLines < d + HX12_readText := Nat.add_lt_add_left (by decide) d
theorem HX12_readText_X12_token_lt (d : Nat) : d + HX12_token < d + HX12_readText := Nat.add_lt_add_left (by decide) d
theorem HX12_readText_0 (d : Nat) : 0 < d + HX12_readText := Nat.lt_of_lt_of_le (by decide) (Nat.le_add_left _ d)
def lX12_readText_2 (x1 : Int32) : Nat → Int32 → Mem → Option (Mem)
  | 0, _, _ => none
  | n + 1, x2, σ => if 134 ≤ x2 then (some σ) else ((if x1 = 0 then (if 2 ≤ x2 then (some 0) else (some 2)) else (some 0) : Option (Int32)).bind fun q9 => gd (inb x2 134) (lX12_readText_2 x1 n (x2 + 1) (st2 σ 279 (Int32.toNatClampNeg x2) q9)))
set_option maxRecDepth 20000 in
theorem lpX12_readText_2 (G : GT) (d : Nat) (x1 : Int32)  {K : Option Value → Mem → Prop} : ∀ (n : Nat) (x2 : Int32) (σ : Mem) (o : Mem), lX12_readText_2 x1 n x2 σ = some o → (Run G RX12 cX12_readText 3 (some .boolean) (mF G (d + HX12_readText) K) 35 [(0, .ref (gA G 269)), (1, .int x1)] [] o) → Run G RX12 cX12_readText 3 (some .boolean) (mF G (d + HX12_readText) K) 2 [(0, .ref (gA G 269)), (1, .int x1), (2, .int x2)] [] σ := by
  intro n
  induction n with
  | zero => intro x2 σ o h; exact absurd h (by simp [lX12_readText_2])
  | succ n ih =>
    intro x2 σ o h kx
    rw [lX12_readText_2] at h
    refine run_iload_n 2 dX12_readText_2 rfl rfl ?_
    refine run_sipush (v := 134) dX12_readText_3 rfl ?_
    refine run_icmp_ge 35 dX12_readText_6 (by decide) (fun c6 => ?_) (fun c6 => ?_)
    · rw [if_pos c6] at h
      rw [← Option.some.inj h] at kx
      refine run_forget [0, 1] rfl ?_
      exact kx
    · rw [if_neg c6] at h
      refine run_aload_n 0 dX12_readText_9 rfl rfl ?_
      refine run_getr fl_X12_38 is_269 (by decide) rfl ce_269_19 dX12_readText_10 ?_
      refine run_iload_n 2 dX12_readText_13 rfl rfl ?_
      refine run_iload_n 1 dX12_readText_14 rfl rfl ?_
      obtain ⟨q9, h, h9⟩ := Option.bind_eq_some_iff.mp h
      have hj11 : Run G RX12 cX12_readText 3 (some .boolean) (mF G (d + HX12_readText) K) 28 [(0, .ref (gA G 269)), (1, .int x1), (2, .int x2)] [.int q9, .int x2, .ref (gA G 279)] σ := by
        clear h
        have h := h9
        clear h9
        obtain ⟨g10, h⟩ := gd_s h
        refine run_iast' is_279 ln_279 g10 rfl dX12_readText_28 ?_
        refine run_iinc 2 [(0, .ref (gA G 269)), (1, .int x1), (2, .int (x2 + 1))] [1, 2, 0] dX12_readText_29 rfl rfl (by decide) rfl ?_
        refine run_goto 2 dX12_readText_32 (by decide) ?_
        exact ih _ _ _ h kx
      clear h9
      refine run_if_ne 27 dX12_readText_15 (by decide) (fun c7 => ?_) (fun c7 => ?_)
      · rw [if_neg c7] at h
        refine run_iconst (v := 0) dX12_readText_27 rfl ?_
        rw [← Option.some.inj h] at hj11
        exact hj11
      · rw [if_pos c7] at h
        refine run_iload_n 2 dX12_readText_18 rfl rfl ?_
        refine run_iconst (v := 2) dX12_readText_19 rfl ?_
        refine run_icmp_ge 27 dX12_readText_20 (by decide) (fun c8 => ?_) (fun c8 => ?_)
        · rw [if_pos c8] at h
          refine run_iconst (v := 0) dX12_readText_27 rfl ?_
          rw [← Option.some.inj h] at hj11
          exact hj11
        · rw [if_neg c8] at h
          refine run_iconst (v := 2) dX12_readText_23 rfl ?_
          refine run_goto 28 dX12_readText_24 (by decide) ?_
          rw [← Option.some.inj h] at hj11
          exact hj11
def fX12_readText (x1 : Int32) (σ : Mem) : Option (Bool × Mem) := (lX12_readText_2 x1 FU 0 σ).bind fun q12 => (fX12_token (st2 (st2 (st2 q12 269 22 0) 269 10 0) 269 17 0)).bind fun q13 => (fX12_allLines x1 q13).bind fun q14 => (if q14.1 = true then (some (q14.2 269 17)) else (some 1) : Option (Int32)).bind fun q16 => (if q14.1 = true then (if ((st2 q14.2 272 0 q16) 269 17) ≤ 0 then (some (-1)) else (some ((st2 q14.2 272 0 q16) 269 18))) else (some ((st2 q14.2 272 0 q16) 269 16)) : Option (Int32)).bind fun q19 => if ((st2 (st2 q14.2 272 0 q16) 273 0 q19) 272 0) = 0 then (some (true, (st2 (st2 q14.2 272 0 q16) 273 0 q19))) else (some (false, (st2 (st2 q14.2 272 0 q16) 273 0 q19)))
set_option maxRecDepth 20000 in
theorem sX12_readText (G : GT) (d : Nat) {x1 : Int32}  {σ : Mem} {o : (Bool × Mem)} (h : fX12_readText x1 σ = some o) : Spec G yX12_readText cX12_readText 3 (some .boolean) (d + HX12_readText) [.ref (gA G 269), .int x1] σ (kB fun x z => (x, z) = o) := by
  refine spec_run (by decide) (Nat.le_of_ble_eq_true rfl) ?_
  unfold fX12_readText at h
  show Run G RX12 cX12_readText 3 (some .boolean) _ 0 [(0, .ref (gA G 269)), (1, .int x1)] [] σ
  refine run_iconst (v := 0) dX12_readText_0 rfl ?_
  refine run_istore_n [(0, .ref (gA G 269)), (1, .int x1), (2, .int 0)] [1, 2, 0] dX12_readText_1 rfl (by decide) rfl ?_
  obtain ⟨q12, h25, h⟩ := Option.bind_eq_some_iff.mp h
  refine lpX12_readText_2 G d _ _ _ _ _ h25 ?_
  refine run_aload_n 0 dX12_readText_35 rfl rfl ?_
  refine run_iconst (v := 0) dX12_readText_36 rfl ?_
  refine run_puti fp_X12_236 is_269 (by decide) rfl dX12_readText_37 ?_
  refine run_aload_n 0 dX12_readText_40 rfl rfl ?_
  refine run_iconst (v := 0) dX12_readText_41 rfl ?_
  refine run_puti fp_X12_164 is_269 (by decide) rfl dX12_readText_42 ?_
  refine run_aload_n 0 dX12_readText_45 rfl rfl ?_
  refine run_iconst (v := 0) dX12_readText_46 rfl ?_
  refine run_puti fp_X12_190 is_269 (by decide) rfl dX12_readText_47 ?_
  refine run_aload_n 0 dX12_readText_50 rfl rfl ?_
  obtain ⟨q13, h24, h⟩ := Option.bind_eq_some_iff.mp h
  refine run_callVv (As := []) (fun z => z = q13) mw_X12_token mi_X12_token ml_X12_208 is_269 (by decide) rfl rfl rfl (RF.lt (HX12_readText_X12_token_lt d)) (Nat.le_of_ble_eq_true rfl) dX12_readText_51 (sX12_token G d  h24) (fun z h8 => ?_) rfl
  rw [h8]
  clear h8
  refine run_aload_n 0 dX12_readText_54 rfl rfl ?_
  refine run_iload_n 1 dX12_readText_55 rfl rfl ?_
  obtain ⟨q14, h23, h⟩ := Option.bind_eq_some_iff.mp h
  refine run_callVb (As := [.int x1]) (fun r z => (r, z) = q14) mw_X12_allLines mi_X12_allLines ml_X12_298 is_269 (by decide) rfl rfl rfl (RF.lt (HX12_readText_X12_allLines_lt d)) (Nat.le_of_ble_eq_true rfl) dX12_readText_56 (sX12_allLines G d  h23) (fun r z h8 => ?_) rfl
  rw [show r = q14.1 from congrArg Prod.fst h8, show z = q14.2 from congrArg Prod.snd h8]
  clear h8
  refine run_istore_n [(0, .ref (gA G 269)), (2, .int (b2 q14.1))] [1, 0] dX12_readText_59 rfl (by decide) rfl ?_
  refine run_aload_n 0 dX12_readText_60 rfl rfl ?_
  refine run_getr fl_X12_17 is_269 (by decide) rfl ce_269_3 dX12_readText_61 ?_
  refine run_iconst (v := 0) dX12_readText_64 rfl ?_
  refine run_iload_n 1 dX12_readText_65 rfl rfl ?_
  obtain ⟨q16, h, h9⟩ := Option.bind_eq_some_iff.mp h
  have hj22 : Run G RX12 cX12_readText 3 (some .boolean) (mF G (d + HX12_readText) (kB fun x z => (x, z) = o)) 77 [(0, .ref (gA G 269)), (2, .int (b2 q14.1))] [.int q16, .int 0, .ref (gA G 272)] q14.2 := by
    clear h
    have h := h9
    clear h9
    refine run_iast' (j := 0) is_272 ln_272 (by decide) rfl dX12_readText_77 ?_
    refine run_aload_n 0 dX12_readText_78 rfl rfl ?_
    refine run_getr fl_X12_20 is_269 (by decide) rfl ce_269_4 dX12_readText_79 ?_
    refine run_iconst (v := 0) dX12_readText_82 rfl ?_
    refine run_iload_n 1 dX12_readText_83 rfl rfl ?_
    obtain ⟨q19, h, h9⟩ := Option.bind_eq_some_iff.mp h
    have hj21 : Run G RX12 cX12_readText 3 (some .boolean) (mF G (d + HX12_readText) (kB fun x z => (x, z) = o)) 109 [(0, .ref (gA G 269))] [.int q19, .int 0, .ref (gA G 273)] (st2 q14.2 272 0 q16) := by
      clear h
      have h := h9
      clear h9
      refine run_iast' (j := 0) is_273 ln_273 (by decide) rfl dX12_readText_109 ?_
      refine run_aload_n 0 dX12_readText_110 rfl rfl ?_
      refine run_getr fl_X12_17 is_269 (by decide) rfl ce_269_3 dX12_readText_111 ?_
      refine run_iconst (v := 0) dX12_readText_114 rfl ?_
      refine run_iald' (j := 0) is_272 ln_272 (by decide) rfl dX12_readText_115 ?_
      refine run_if_ne 123 dX12_readText_116 (by decide) (fun c20 => ?_) (fun c20 => ?_)
      · rw [if_neg c20] at h
        refine run_iconst (v := 0) dX12_readText_123 rfl ?_
        exact run_bret (b := false) dX12_readText_124 ⟨_, rfl, Option.some.inj h⟩
      · rw [if_pos c20] at h
        refine run_iconst (v := 1) dX12_readText_119 rfl ?_
        refine run_goto 124 dX12_readText_120 (by decide) ?_
        exact run_bret (b := true) dX12_readText_124 ⟨_, rfl, Option.some.inj h⟩
    clear h9
    refine run_ifb_ne 94 dX12_readText_84 (by decide) (fun c17 => ?_) (fun c17 => ?_)
    · rw [if_pos c17] at h
      refine run_aload_n 0 dX12_readText_94 rfl rfl ?_
      refine run_geti fl_X12_190 is_269 (by decide) rfl dX12_readText_95 ?_
      refine run_if_le 108 dX12_readText_98 (by decide) (fun c18 => ?_) (fun c18 => ?_)
      · rw [if_pos c18] at h
        refine run_iconst (v := -1) dX12_readText_108 rfl ?_
        rw [← Option.some.inj h] at hj21
        refine run_forget [0] rfl ?_
        exact hj21
      · rw [if_neg c18] at h
        refine run_aload_n 0 dX12_readText_101 rfl rfl ?_
        refine run_geti fl_X12_193 is_269 (by decide) rfl dX12_readText_102 ?_
        refine run_goto 109 dX12_readText_105 (by decide) ?_
        rw [← Option.some.inj h] at hj21
        refine run_forget [0] rfl ?_
        exact hj21
    · rw [if_neg c17] at h
      refine run_aload_n 0 dX12_readText_87 rfl rfl ?_
      refine run_geti fl_X12_187 is_269 (by decide) rfl dX12_readText_88 ?_
      refine run_goto 109 dX12_readText_91 (by decide) ?_
      rw [← Option.some.inj h] at hj21
      refine run_forget [0] rfl ?_
      exact hj21
  clear h9
  refine run_ifb_eq 76 dX12_readText_66 (by decide) (fun c15 => ?_) (fun c15 => ?_)
  · rw [if_neg c15] at h
    refine run_iconst (v := 1) dX12_readText_76 rfl ?_
    rw [← Option.some.inj h] at hj22
    exact hj22
  · rw [if_pos c15] at h
    refine run_aload_n 0 dX12_readText_69 rfl rfl ?_
    refine run_geti fl_X12_190 is_269 (by decide) rfl dX12_readText_70 ?_
    refine run_goto 77 dX12_readText_73 (by decide) ?_
    rw [← Option.some.inj h] at hj22
    exact hj22
def HX12_keep : Nat := 1
theorem HX12_keep_0 (d : Nat) : 0 < d + HX12_keep := Nat.lt_of_lt_of_le (by decide) (Nat.le_add_left _ d)
def lX12_keep_3 (n1 : Nat) (N1 : Nat) (x2 : Int32) (x3 : Int32) : Nat → Int32 → Mem → Option (Mem)
  | 0, _, _ => none
  | n + 1, x4, σ => if x2 ≤ x4 then (some σ) else (gd (inb x4 134) (gd (inb ((x2 * x3) + x4) N1) (lX12_keep_3 n1 N1 x2 x3 n (x4 + 1) (st2 σ n1 (Int32.toNatClampNeg ((x2 * x3) + x4)) (σ 279 (Int32.toNatClampNeg x4))))))
set_option maxRecDepth 20000 in
theorem lpX12_keep_3 (G : GT) (d : Nat) (n1 : Nat) (N1 : Nat) (x2 : Int32) (x3 : Int32) (hn1 : Is n1 14) (hl1 : ln n1 = N1) (hb1 : N1 < 2 ^ 31) {K : Option Value → Mem → Prop} : ∀ (n : Nat) (x4 : Int32) (σ : Mem) (o : Mem), lX12_keep_3 n1 N1 x2 x3 n x4 σ = some o → (Run G RX12 cX12_keep 5 none (mF G (d + HX12_keep) K) 30 [] [] o) → Run G RX12 cX12_keep 5 none (mF G (d + HX12_keep) K) 3 [(0, .ref (gA G 269)), (1, .ref (gA G n1)), (2, .int x2), (3, .int x3), (4, .int x4)] [] σ := by
  intro n
  induction n with
  | zero => intro x4 σ o h; exact absurd h (by simp [lX12_keep_3])
  | succ n ih =>
    intro x4 σ o h kx
    rw [lX12_keep_3] at h
    refine run_iload 4 dX12_keep_3 rfl ?_
    refine run_iload_n 2 dX12_keep_5 rfl rfl ?_
    refine run_icmp_ge 30 dX12_keep_6 (by decide) (fun c4 => ?_) (fun c4 => ?_)
    · rw [if_pos c4] at h
      rw [← Option.some.inj h] at kx
      refine run_forget [] rfl ?_
      exact kx
    · rw [if_neg c4] at h
      refine run_aload_n 1 dX12_keep_9 rfl rfl ?_
      refine run_iload_n 2 dX12_keep_10 rfl rfl ?_
      refine run_iload_n 3 dX12_keep_11 rfl rfl ?_
      refine run_imul dX12_keep_12 ?_
      refine run_iload 4 dX12_keep_13 rfl ?_
      refine run_iadd dX12_keep_15 ?_
      refine run_aload_n 0 dX12_keep_16 rfl rfl ?_
      refine run_getr fl_X12_38 is_269 (by decide) rfl ce_269_19 dX12_keep_17 ?_
      refine run_iload 4 dX12_keep_20 rfl ?_
      obtain ⟨g5, h⟩ := gd_s h
      refine run_iald' is_279 ln_279 g5 rfl dX12_keep_22 ?_
      obtain ⟨g6, h⟩ := gd_s h
      refine run_iast' hn1 hl1 g6 rfl dX12_keep_23 ?_
      refine run_iinc 4 [(0, .ref (gA G 269)), (1, .ref (gA G n1)), (2, .int x2), (3, .int x3), (4, .int (x4 + 1))] [1, 2, 3, 4, 0] dX12_keep_24 rfl rfl (by decide) rfl ?_
      refine run_goto 3 dX12_keep_27 (by decide) ?_
      exact ih _ _ _ h kx
def fX12_keep (n1 : Nat) (N1 : Nat) (x2 : Int32) (x3 : Int32) (σ : Mem) : Option Mem := (lX12_keep_3 n1 N1 x2 x3 FU 0 σ).bind fun q7 => some q7
set_option maxRecDepth 20000 in
theorem sX12_keep (G : GT) (d : Nat) {n1 : Nat} {N1 : Nat} {x2 : Int32} {x3 : Int32} (hn1 : Is n1 14) (hl1 : ln n1 = N1) (hb1 : N1 < 2 ^ 31) {σ : Mem} {o : Mem} (h : fX12_keep n1 N1 x2 x3 σ = some o) : Spec G yX12_keep cX12_keep 5 none (d + HX12_keep) [.ref (gA G 269), .ref (gA G n1), .int x2, .int x3] σ (kV fun z => z = o) := by
  refine spec_run (by decide) (Nat.le_of_ble_eq_true rfl) ?_
  unfold fX12_keep at h
  show Run G RX12 cX12_keep 5 none _ 0 [(0, .ref (gA G 269)), (1, .ref (gA G n1)), (2, .int x2), (3, .int x3)] [] σ
  refine run_iconst (v := 0) dX12_keep_0 rfl ?_
  refine run_istore [(0, .ref (gA G 269)), (1, .ref (gA G n1)), (2, .int x2), (3, .int x3), (4, .int 0)] [1, 2, 3, 4, 0] dX12_keep_1 (by decide) rfl ?_
  obtain ⟨q7, h8, h⟩ := Option.bind_eq_some_iff.mp h
  refine lpX12_keep_3 G d _ _ _ _ hn1 hl1 hb1 _ _ _ _ h8 ?_
  exact run_vret dX12_keep_30 ⟨rfl, Option.some.inj h⟩
