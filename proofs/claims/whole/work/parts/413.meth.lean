/-! methods, translated -/
def HX12_runAlone : Nat := 8
theorem HX12_runAlone_X12_begins_lt (d : Nat) : d + HX12_begins < d + HX12_runAlone := Nat.add_lt_add_left (by decide) d
theorem HX12_runAlone_X12_steps_lt (d : Nat) : d + HX12_steps < d + HX12_runAlone := Nat.add_lt_add_left (by decide) d
theorem HX12_runAlone_0 (d : Nat) : 0 < d + HX12_runAlone := Nat.lt_of_lt_of_le (by decide) (Nat.le_add_left _ d)
def lX12_runAlone_8  : Nat → Bool → Mem → Option (Mem)
  | 0, _, _ => none
  | n + 1, x2, σ => if x2 = true then ((fX12_steps 0 σ).bind fun q3 => lX12_runAlone_8 n q3.1 q3.2) else (some σ)
set_option maxRecDepth 20000 in
theorem lpX12_runAlone_8 (G : GT) (d : Nat)   {K : Option Value → Mem → Prop} : ∀ (n : Nat) (x2 : Bool) (σ : Mem) (o : Mem), lX12_runAlone_8 n x2 σ = some o → (Run G RX12 cX12_runAlone 5 none (mF G (d + HX12_runAlone) K) 21 [(0, .ref (gA G 269))] [] o) → Run G RX12 cX12_runAlone 5 none (mF G (d + HX12_runAlone) K) 8 [(0, .ref (gA G 269)), (2, .int (b2 x2))] [] σ := by
  intro n
  induction n with
  | zero => intro x2 σ o h; exact absurd h (by simp [lX12_runAlone_8])
  | succ n ih =>
    intro x2 σ o h kx
    rw [lX12_runAlone_8] at h
    refine run_iload_n 1 dX12_runAlone_8 rfl rfl ?_
    refine run_ifb_eq 21 dX12_runAlone_9 (by decide) (fun c2 => ?_) (fun c2 => ?_)
    · rw [if_neg c2] at h
      rw [← Option.some.inj h] at kx
      refine run_forget [0] rfl ?_
      exact kx
    · rw [if_pos c2] at h
      refine run_aload_n 0 dX12_runAlone_12 rfl rfl ?_
      refine run_iconst (v := 0) dX12_runAlone_13 rfl ?_
      obtain ⟨q3, h4, h⟩ := Option.bind_eq_some_iff.mp h
      refine run_callVb (As := [.int 0]) (fun r z => (r, z) = q3) mw_X12_steps mi_X12_steps ml_X12_460 is_269 (by decide) rfl rfl rfl (RF.lt (HX12_runAlone_X12_steps_lt d)) (Nat.le_of_ble_eq_true rfl) dX12_runAlone_14 (sX12_steps G d  h4) (fun r z h8 => ?_) rfl
      rw [show r = q3.1 from congrArg Prod.fst h8, show z = q3.2 from congrArg Prod.snd h8]
      clear h8
      refine run_istore_n [(0, .ref (gA G 269)), (2, .int (b2 q3.1))] [1, 0] dX12_runAlone_17 rfl (by decide) rfl ?_
      refine run_goto 8 dX12_runAlone_18 (by decide) ?_
      exact ih _ _ _ h kx
def lX12_runAlone_23  : Nat → Int32 → Mem → Option (Mem)
  | 0, _, _ => none
  | n + 1, x3, σ => if 10 ≤ x3 then (some σ) else (gd (inb x3 40) ((if (σ 294 (Int32.toNatClampNeg x3)) = (-2) then (some σ) else ((if (σ 294 (Int32.toNatClampNeg x3)) = (-1) then (some ((σ 269 30) &&& (((1 : Int32) <<< (x3 &&& 31)) ^^^ (-1)))) else (some ((σ 269 30) ||| ((1 : Int32) <<< (x3 &&& 31)))) : Option (Int32)).bind fun q21 => (if (σ 294 (Int32.toNatClampNeg x3)) = (-1) then (some 0) else (some (σ 294 (Int32.toNatClampNeg x3))) : Option (Int32)).bind fun q23 => gd (inb x3 10) (some (st2 (st2 σ 269 30 q21) 281 (Int32.toNatClampNeg x3) q23))) : Option (Mem)).bind fun q27 => lX12_runAlone_23 n (x3 + 1) q27))
set_option maxRecDepth 20000 in
theorem lpX12_runAlone_23 (G : GT) (d : Nat)   {K : Option Value → Mem → Prop} : ∀ (n : Nat) (x3 : Int32) (σ : Mem) (o : Mem), lX12_runAlone_23 n x3 σ = some o → (Run G RX12 cX12_runAlone 5 none (mF G (d + HX12_runAlone) K) 99 [] [] o) → Run G RX12 cX12_runAlone 5 none (mF G (d + HX12_runAlone) K) 23 [(0, .ref (gA G 269)), (3, .int x3)] [] σ := by
  intro n
  induction n with
  | zero => intro x3 σ o h; exact absurd h (by simp [lX12_runAlone_23])
  | succ n ih =>
    intro x3 σ o h kx
    rw [lX12_runAlone_23] at h
    refine run_iload_n 1 dX12_runAlone_23 rfl rfl ?_
    refine run_bipush (v := 10) dX12_runAlone_24 rfl ?_
    refine run_icmp_ge 99 dX12_runAlone_26 (by decide) (fun c17 => ?_) (fun c17 => ?_)
    · rw [if_pos c17] at h
      rw [← Option.some.inj h] at kx
      refine run_forget [] rfl ?_
      exact kx
    · rw [if_neg c17] at h
      refine run_aload_n 0 dX12_runAlone_29 rfl rfl ?_
      refine run_getr fl_X12_83 is_269 (by decide) rfl ce_269_44 dX12_runAlone_30 ?_
      refine run_iload_n 1 dX12_runAlone_33 rfl rfl ?_
      obtain ⟨g18, h⟩ := gd_s h
      refine run_iald' is_294 ln_294 g18 rfl dX12_runAlone_34 ?_
      refine run_istore [(0, .ref (gA G 269)), (3, .int x3), (4, .int (σ 294 (Int32.toNatClampNeg x3)))] [1, 2, 0] dX12_runAlone_35 (by decide) rfl ?_
      refine run_iload 2 dX12_runAlone_37 rfl ?_
      refine run_bipush (v := -2) dX12_runAlone_39 rfl ?_
      obtain ⟨q27, h, h9⟩ := Option.bind_eq_some_iff.mp h
      have hj28 : Run G RX12 cX12_runAlone 5 none (mF G (d + HX12_runAlone) K) 93 [(0, .ref (gA G 269)), (3, .int x3)] [] q27 := by
        clear h
        have h := h9
        clear h9
        refine run_iinc 1 [(0, .ref (gA G 269)), (3, .int (x3 + 1))] [1, 0] dX12_runAlone_93 rfl rfl (by decide) rfl ?_
        refine run_goto 23 dX12_runAlone_96 (by decide) ?_
        exact ih _ _ _ h kx
      clear h9
      refine run_icmp_eq 93 dX12_runAlone_41 (by decide) (fun c19 => ?_) (fun c19 => ?_)
      · rw [if_pos c19] at h
        rw [← Option.some.inj h] at hj28
        refine run_forget [0, 1] rfl ?_
        exact hj28
      · rw [if_neg c19] at h
        refine run_aload_n 0 dX12_runAlone_44 rfl rfl ?_
        refine run_iload 2 dX12_runAlone_45 rfl ?_
        refine run_iconst (v := -1) dX12_runAlone_47 rfl ?_
        obtain ⟨q21, h, h9⟩ := Option.bind_eq_some_iff.mp h
        have hj26 : Run G RX12 cX12_runAlone 5 none (mF G (d + HX12_runAlone) K) 72 [(0, .ref (gA G 269)), (3, .int x3), (4, .int (σ 294 (Int32.toNatClampNeg x3)))] [.int q21, .ref (gA G 269)] σ := by
          clear h
          have h := h9
          clear h9
          refine run_puti fp_X12_336 is_269 (by decide) rfl dX12_runAlone_72 ?_
          refine run_aload_n 0 dX12_runAlone_75 rfl rfl ?_
          refine run_getr fl_X12_44 is_269 (by decide) rfl ce_269_31 dX12_runAlone_76 ?_
          refine run_iload_n 1 dX12_runAlone_79 rfl rfl ?_
          refine run_iload 2 dX12_runAlone_80 rfl ?_
          refine run_iconst (v := -1) dX12_runAlone_82 rfl ?_
          obtain ⟨q23, h, h9⟩ := Option.bind_eq_some_iff.mp h
          have hj25 : Run G RX12 cX12_runAlone 5 none (mF G (d + HX12_runAlone) K) 92 [(0, .ref (gA G 269)), (3, .int x3)] [.int q23, .int x3, .ref (gA G 281)] (st2 σ 269 30 q21) := by
            clear h
            have h := h9
            clear h9
            obtain ⟨g24, h⟩ := gd_s h
            refine run_iast' is_281 ln_281 g24 rfl dX12_runAlone_92 ?_
            rw [← Option.some.inj h] at hj28
            exact hj28
          clear h9
          refine run_icmp_ne 90 dX12_runAlone_83 (by decide) (fun c22 => ?_) (fun c22 => ?_)
          · rw [if_neg c22] at h
            refine run_iload 2 dX12_runAlone_90 rfl ?_
            rw [← Option.some.inj h] at hj25
            refine run_forget [0, 1] rfl ?_
            exact hj25
          · rw [if_pos c22] at h
            refine run_iconst (v := 0) dX12_runAlone_86 rfl ?_
            refine run_goto 92 dX12_runAlone_87 (by decide) ?_
            rw [← Option.some.inj h] at hj25
            refine run_forget [0, 1] rfl ?_
            exact hj25
        clear h9
        refine run_icmp_ne 64 dX12_runAlone_48 (by decide) (fun c20 => ?_) (fun c20 => ?_)
        · rw [if_neg c20] at h
          refine run_aload_n 0 dX12_runAlone_64 rfl rfl ?_
          refine run_geti fl_X12_336 is_269 (by decide) rfl dX12_runAlone_65 ?_
          refine run_iconst (v := 1) dX12_runAlone_68 rfl ?_
          refine run_iload_n 1 dX12_runAlone_69 rfl rfl ?_
          refine run_ishl dX12_runAlone_70 ?_
          refine run_ior dX12_runAlone_71 ?_
          rw [← Option.some.inj h] at hj26
          exact hj26
        · rw [if_pos c20] at h
          refine run_aload_n 0 dX12_runAlone_51 rfl rfl ?_
          refine run_geti fl_X12_336 is_269 (by decide) rfl dX12_runAlone_52 ?_
          refine run_iconst (v := 1) dX12_runAlone_55 rfl ?_
          refine run_iload_n 1 dX12_runAlone_56 rfl rfl ?_
          refine run_ishl dX12_runAlone_57 ?_
          refine run_iconst (v := -1) dX12_runAlone_58 rfl ?_
          refine run_ixor dX12_runAlone_59 ?_
          refine run_iand dX12_runAlone_60 ?_
          refine run_goto 72 dX12_runAlone_61 (by decide) ?_
          rw [← Option.some.inj h] at hj26
          exact hj26
def fX12_runAlone (x1 : Int32) (σ : Mem) : Option Mem := (fX12_begins 0 x1 σ).bind fun q1 => (lX12_runAlone_8 FU true q1).bind fun q5 => (lX12_runAlone_23 FU 0 q5).bind fun q29 => some q29
set_option maxRecDepth 20000 in
theorem sX12_runAlone (G : GT) (d : Nat) {x1 : Int32}  {σ : Mem} {o : Mem} (h : fX12_runAlone x1 σ = some o) : Spec G yX12_runAlone cX12_runAlone 5 none (d + HX12_runAlone) [.ref (gA G 269), .int x1] σ (kV fun z => z = o) := by
  refine spec_run (by decide) (Nat.le_of_ble_eq_true rfl) ?_
  unfold fX12_runAlone at h
  show Run G RX12 cX12_runAlone 5 none _ 0 [(0, .ref (gA G 269)), (1, .int x1)] [] σ
  refine run_aload_n 0 dX12_runAlone_0 rfl rfl ?_
  refine run_iconst (v := 0) dX12_runAlone_1 rfl ?_
  refine run_iload_n 1 dX12_runAlone_2 rfl rfl ?_
  obtain ⟨q1, h32, h⟩ := Option.bind_eq_some_iff.mp h
  refine run_callVv (As := [.int 0, .int x1]) (fun z => z = q1) mw_X12_begins mi_X12_begins ml_X12_469 is_269 (by decide) rfl rfl rfl (RF.lt (HX12_runAlone_X12_begins_lt d)) (Nat.le_of_ble_eq_true rfl) dX12_runAlone_3 (sX12_begins G d  h32) (fun z h8 => ?_) rfl
  rw [h8]
  clear h8
  refine run_iconst (v := 1) dX12_runAlone_6 rfl ?_
  refine run_istore_n [(0, .ref (gA G 269)), (2, .int 1)] [1, 0] dX12_runAlone_7 rfl (by decide) rfl ?_
  obtain ⟨q5, h31, h⟩ := Option.bind_eq_some_iff.mp h
  refine lpX12_runAlone_8 G d _ _ _ _ h31 ?_
  refine run_iconst (v := 0) dX12_runAlone_21 rfl ?_
  refine run_istore_n [(0, .ref (gA G 269)), (3, .int 0)] [1, 0] dX12_runAlone_22 rfl (by decide) rfl ?_
  obtain ⟨q29, h30, h⟩ := Option.bind_eq_some_iff.mp h
  refine lpX12_runAlone_23 G d _ _ _ _ h30 ?_
  exact run_vret dX12_runAlone_99 ⟨rfl, Option.some.inj h⟩
def HX12_keepEnd : Nat := 1
theorem HX12_keepEnd_0 (d : Nat) : 0 < d + HX12_keepEnd := Nat.lt_of_lt_of_le (by decide) (Nat.le_add_left _ d)
def lX12_keepEnd_10  : Nat → Int32 → Mem → Option (Mem)
  | 0, _, _ => none
  | n + 1, x1, σ => if 10 ≤ x1 then (some σ) else (gd (inb x1 10) (gd (inb x1 10) (lX12_keepEnd_10 n (x1 + 1) (st2 σ 309 (Int32.toNatClampNeg x1) (σ 281 (Int32.toNatClampNeg x1))))))
set_option maxRecDepth 20000 in
theorem lpX12_keepEnd_10 (G : GT) (d : Nat)   {K : Option Value → Mem → Prop} : ∀ (n : Nat) (x1 : Int32) (σ : Mem) (o : Mem), lX12_keepEnd_10 n x1 σ = some o → (Run G RX12 cX12_keepEnd 2 none (mF G (d + HX12_keepEnd) K) 34 [] [] o) → Run G RX12 cX12_keepEnd 2 none (mF G (d + HX12_keepEnd) K) 10 [(0, .ref (gA G 269)), (1, .int x1)] [] σ := by
  intro n
  induction n with
  | zero => intro x1 σ o h; exact absurd h (by simp [lX12_keepEnd_10])
  | succ n ih =>
    intro x1 σ o h kx
    rw [lX12_keepEnd_10] at h
    refine run_iload_n 1 dX12_keepEnd_10 rfl rfl ?_
    refine run_bipush (v := 10) dX12_keepEnd_11 rfl ?_
    refine run_icmp_ge 34 dX12_keepEnd_13 (by decide) (fun c4 => ?_) (fun c4 => ?_)
    · rw [if_pos c4] at h
      rw [← Option.some.inj h] at kx
      refine run_forget [] rfl ?_
      exact kx
    · rw [if_neg c4] at h
      refine run_aload_n 0 dX12_keepEnd_16 rfl rfl ?_
      refine run_getr fl_X12_128 is_269 (by decide) rfl ce_269_73 dX12_keepEnd_17 ?_
      refine run_iload_n 1 dX12_keepEnd_20 rfl rfl ?_
      refine run_aload_n 0 dX12_keepEnd_21 rfl rfl ?_
      refine run_getr fl_X12_44 is_269 (by decide) rfl ce_269_31 dX12_keepEnd_22 ?_
      refine run_iload_n 1 dX12_keepEnd_25 rfl rfl ?_
      obtain ⟨g5, h⟩ := gd_s h
      refine run_iald' is_281 ln_281 g5 rfl dX12_keepEnd_26 ?_
      obtain ⟨g6, h⟩ := gd_s h
      refine run_iast' is_309 ln_309 g6 rfl dX12_keepEnd_27 ?_
      refine run_iinc 1 [(0, .ref (gA G 269)), (1, .int (x1 + 1))] [1, 0] dX12_keepEnd_28 rfl rfl (by decide) rfl ?_
      refine run_goto 10 dX12_keepEnd_31 (by decide) ?_
      exact ih _ _ _ h kx
def fX12_keepEnd  (σ : Mem) : Option Mem := (lX12_keepEnd_10 FU 0 (st2 σ 269 72 (σ 269 30))).bind fun q7 => some q7
set_option maxRecDepth 20000 in
theorem sX12_keepEnd (G : GT) (d : Nat)   {σ : Mem} {o : Mem} (h : fX12_keepEnd σ = some o) : Spec G yX12_keepEnd cX12_keepEnd 2 none (d + HX12_keepEnd) [.ref (gA G 269)] σ (kV fun z => z = o) := by
  refine spec_run (by decide) (Nat.le_of_ble_eq_true rfl) ?_
  unfold fX12_keepEnd at h
  show Run G RX12 cX12_keepEnd 2 none _ 0 [(0, .ref (gA G 269))] [] σ
  refine run_aload_n 0 dX12_keepEnd_0 rfl rfl ?_
  refine run_aload_n 0 dX12_keepEnd_1 rfl rfl ?_
  refine run_geti fl_X12_336 is_269 (by decide) rfl dX12_keepEnd_2 ?_
  refine run_puti fp_X12_515 is_269 (by decide) rfl dX12_keepEnd_5 ?_
  refine run_iconst (v := 0) dX12_keepEnd_8 rfl ?_
  refine run_istore_n [(0, .ref (gA G 269)), (1, .int 0)] [1, 0] dX12_keepEnd_9 rfl (by decide) rfl ?_
  obtain ⟨q7, h8, h⟩ := Option.bind_eq_some_iff.mp h
  refine lpX12_keepEnd_10 G d _ _ _ _ h8 ?_
  exact run_vret dX12_keepEnd_34 ⟨rfl, Option.some.inj h⟩
def HX12_isEnd : Nat := 2
theorem HX12_isEnd_X12_has_lt (d : Nat) : d + HX12_has < d + HX12_isEnd := Nat.add_lt_add_left (by decide) d
theorem HX12_isEnd_0 (d : Nat) : 0 < d + HX12_isEnd := Nat.lt_of_lt_of_le (by decide) (Nat.le_add_left _ d)
def lX12_isEnd_19  : Nat → Int32 → Int32 → Mem → Option (Int32 × Mem)
  | 0, _, _, _ => none
  | n + 1, x1, x2, σ => if 10 ≤ x2 then (some (x1, σ)) else ((if x1 = 0 then (some (false, σ)) else ((fX12_has (σ 269 30) x2 σ).bind fun q14 => if q14.1 = true then (gd (inb x2 10) (gd (inb x2 10) (if (q14.2 281 (Int32.toNatClampNeg x2)) = (q14.2 309 (Int32.toNatClampNeg x2)) then (some (true, q14.2)) else (some (false, q14.2))))) else (some (true, q14.2))) : Option (Bool × Mem)).bind fun q20 => lX12_isEnd_19 n (b2 (q20.1)) (x2 + 1) (q20.2))
set_option maxRecDepth 20000 in
theorem lpX12_isEnd_19 (G : GT) (d : Nat)   {K : Option Value → Mem → Prop} : ∀ (n : Nat) (x1 : Int32) (x2 : Int32) (σ : Mem) (o : Int32 × Mem), lX12_isEnd_19 n x1 x2 σ = some o → (Run G RX12 cX12_isEnd 3 (some .boolean) (mF G (d + HX12_isEnd) K) 67 [(1, .int (o.1))] [] (o.2)) → Run G RX12 cX12_isEnd 3 (some .boolean) (mF G (d + HX12_isEnd) K) 19 [(0, .ref (gA G 269)), (1, .int x1), (2, .int x2)] [] σ := by
  intro n
  induction n with
  | zero => intro x1 x2 σ o h; exact absurd h (by simp [lX12_isEnd_19])
  | succ n ih =>
    intro x1 x2 σ o h kx
    rw [lX12_isEnd_19] at h
    refine run_iload_n 2 dX12_isEnd_19 rfl rfl ?_
    refine run_bipush (v := 10) dX12_isEnd_20 rfl ?_
    refine run_icmp_ge 67 dX12_isEnd_22 (by decide) (fun c12 => ?_) (fun c12 => ?_)
    · rw [if_pos c12] at h
      rw [← Option.some.inj h] at kx
      refine run_forget [1] rfl ?_
      exact kx
    · rw [if_neg c12] at h
      refine run_iload_n 1 dX12_isEnd_25 rfl rfl ?_
      obtain ⟨q20, h, h9⟩ := Option.bind_eq_some_iff.mp h
      have hj21 : Run G RX12 cX12_isEnd 3 (some .boolean) (mF G (d + HX12_isEnd) K) 60 [(0, .ref (gA G 269)), (2, .int x2)] [.int (b2 (q20.1))] (q20.2) := by
        clear h
        have h := h9
        clear h9
        refine run_istore_n [(0, .ref (gA G 269)), (1, .int (b2 (q20.1))), (2, .int x2)] [1, 0, 2] dX12_isEnd_60 rfl (by decide) rfl ?_
        refine run_iinc 2 [(0, .ref (gA G 269)), (1, .int (b2 (q20.1))), (2, .int (x2 + 1))] [1, 2, 0] dX12_isEnd_61 rfl rfl (by decide) rfl ?_
        refine run_goto 19 dX12_isEnd_64 (by decide) ?_
        exact ih _ _ _ _ h kx
      clear h9
      refine run_if_eq 59 dX12_isEnd_26 (by decide) (fun c13 => ?_) (fun c13 => ?_)
      · rw [if_pos c13] at h
        refine run_iconst (v := 0) dX12_isEnd_59 rfl ?_
        rw [← Option.some.inj h] at hj21
        refine run_forget [0, 2] rfl ?_
        exact hj21
      · rw [if_neg c13] at h
        refine run_aload_n 0 dX12_isEnd_29 rfl rfl ?_
        refine run_geti fl_X12_336 is_269 (by decide) rfl dX12_isEnd_30 ?_
        refine run_iload_n 2 dX12_isEnd_33 rfl rfl ?_
        obtain ⟨q14, h19, h⟩ := Option.bind_eq_some_iff.mp h
        refine run_callSb (As := [.int (σ 269 30), .int x2]) (fun r z => (r, z) = q14) mw_X12_has ms_X12_has ml_X12_148 rfl (RF.lt (HX12_isEnd_X12_has_lt d)) (Nat.le_of_ble_eq_true rfl) dX12_isEnd_34 (sX12_has G d  h19) (fun r z h8 => ?_) rfl
        rw [show r = q14.1 from congrArg Prod.fst h8, show z = q14.2 from congrArg Prod.snd h8]
        clear h8
        refine run_ifb_eq 55 dX12_isEnd_37 (by decide) (fun c15 => ?_) (fun c15 => ?_)
        · rw [if_neg c15] at h
          refine run_iconst (v := 1) dX12_isEnd_55 rfl ?_
          refine run_goto 60 dX12_isEnd_56 (by decide) ?_
          rw [← Option.some.inj h] at hj21
          refine run_forget [0, 2] rfl ?_
          exact hj21
        · rw [if_pos c15] at h
          refine run_aload_n 0 dX12_isEnd_40 rfl rfl ?_
          refine run_getr fl_X12_44 is_269 (by decide) rfl ce_269_31 dX12_isEnd_41 ?_
          refine run_iload_n 2 dX12_isEnd_44 rfl rfl ?_
          obtain ⟨g16, h⟩ := gd_s h
          refine run_iald' is_281 ln_281 g16 rfl dX12_isEnd_45 ?_
          refine run_aload_n 0 dX12_isEnd_46 rfl rfl ?_
          refine run_getr fl_X12_128 is_269 (by decide) rfl ce_269_73 dX12_isEnd_47 ?_
          refine run_iload_n 2 dX12_isEnd_50 rfl rfl ?_
          obtain ⟨g17, h⟩ := gd_s h
          refine run_iald' is_309 ln_309 g17 rfl dX12_isEnd_51 ?_
          refine run_icmp_ne 59 dX12_isEnd_52 (by decide) (fun c18 => ?_) (fun c18 => ?_)
          · rw [if_neg c18] at h
            refine run_iconst (v := 0) dX12_isEnd_59 rfl ?_
            rw [← Option.some.inj h] at hj21
            refine run_forget [0, 2] rfl ?_
            exact hj21
          · rw [if_pos c18] at h
            refine run_iconst (v := 1) dX12_isEnd_55 rfl ?_
            refine run_goto 60 dX12_isEnd_56 (by decide) ?_
            rw [← Option.some.inj h] at hj21
            refine run_forget [0, 2] rfl ?_
            exact hj21
def fX12_isEnd  (σ : Mem) : Option (Bool × Mem) := (if (σ 269 30) = (σ 269 72) then (some true) else (some false) : Option (Bool)).bind fun q2 => (lX12_isEnd_19 FU (b2 q2) 0 σ).bind fun q22 => gd (decide ((q22.1) = 0 ∨ (q22.1) = 1)) (some (decide ((q22.1) = 1), (q22.2)))
set_option maxRecDepth 20000 in
theorem sX12_isEnd (G : GT) (d : Nat)   {σ : Mem} {o : (Bool × Mem)} (h : fX12_isEnd σ = some o) : Spec G yX12_isEnd cX12_isEnd 3 (some .boolean) (d + HX12_isEnd) [.ref (gA G 269)] σ (kB fun x z => (x, z) = o) := by
  refine spec_run (by decide) (Nat.le_of_ble_eq_true rfl) ?_
  unfold fX12_isEnd at h
  show Run G RX12 cX12_isEnd 3 (some .boolean) _ 0 [(0, .ref (gA G 269))] [] σ
  refine run_aload_n 0 dX12_isEnd_0 rfl rfl ?_
  refine run_geti fl_X12_336 is_269 (by decide) rfl dX12_isEnd_1 ?_
  refine run_aload_n 0 dX12_isEnd_4 rfl rfl ?_
  refine run_geti fl_X12_515 is_269 (by decide) rfl dX12_isEnd_5 ?_
  obtain ⟨q2, h, h9⟩ := Option.bind_eq_some_iff.mp h
  have hj24 : Run G RX12 cX12_isEnd 3 (some .boolean) (mF G (d + HX12_isEnd) (kB fun x z => (x, z) = o)) 16 [(0, .ref (gA G 269))] [.int (b2 q2)] σ := by
    clear h
    have h := h9
    clear h9
    refine run_istore_n [(0, .ref (gA G 269)), (1, .int (b2 q2))] [1, 0] dX12_isEnd_16 rfl (by decide) rfl ?_
    refine run_iconst (v := 0) dX12_isEnd_17 rfl ?_
    refine run_istore_n [(0, .ref (gA G 269)), (1, .int (b2 q2)), (2, .int 0)] [1, 2, 0] dX12_isEnd_18 rfl (by decide) rfl ?_
    obtain ⟨q22, h23, h⟩ := Option.bind_eq_some_iff.mp h
    refine lpX12_isEnd_19 G d _ _ _ _ _ h23 ?_
    refine run_iload_n 0 dX12_isEnd_67 rfl rfl ?_
    obtain ⟨gz, h⟩ := gd_s h
    exact run_zret (of_decide_eq_true gz) dX12_isEnd_68 ⟨_, by rw [z2b (of_decide_eq_true gz)], Option.some.inj h⟩
  clear h9
  refine run_icmp_ne 15 dX12_isEnd_8 (by decide) (fun c1 => ?_) (fun c1 => ?_)
  · rw [if_neg c1] at h
    refine run_iconst (v := 0) dX12_isEnd_15 rfl ?_
    rw [← Option.some.inj h] at hj24
    exact hj24
  · rw [if_pos c1] at h
    refine run_iconst (v := 1) dX12_isEnd_11 rfl ?_
    refine run_goto 16 dX12_isEnd_12 (by decide) ?_
    rw [← Option.some.inj h] at hj24
    exact hj24
def HX12_swap : Nat := 1
theorem HX12_swap_0 (d : Nat) : 0 < d + HX12_swap := Nat.lt_of_lt_of_le (by decide) (Nat.le_add_left _ d)
def fX12_swap (x1 : Int32) (x2 : Int32) (σ : Mem) : Option Mem := gd (inb x1 6) (gd (inb x2 6) (gd (inb x1 6) (gd (inb x2 6) (some (st2 (st2 σ 310 (Int32.toNatClampNeg x1) (σ 310 (Int32.toNatClampNeg x2))) 310 (Int32.toNatClampNeg x2) (σ 310 (Int32.toNatClampNeg x1)))))))
set_option maxRecDepth 20000 in
theorem sX12_swap (G : GT) (d : Nat) {x1 : Int32} {x2 : Int32}  {σ : Mem} {o : Mem} (h : fX12_swap x1 x2 σ = some o) : Spec G yX12_swap cX12_swap 4 none (d + HX12_swap) [.ref (gA G 269), .int x1, .int x2] σ (kV fun z => z = o) := by
  refine spec_run (by decide) (Nat.le_of_ble_eq_true rfl) ?_
  unfold fX12_swap at h
  show Run G RX12 cX12_swap 4 none _ 0 [(0, .ref (gA G 269)), (1, .int x1), (2, .int x2)] [] σ
  refine run_aload_n 0 dX12_swap_0 rfl rfl ?_
  refine run_getr fl_X12_131 is_269 (by decide) rfl ce_269_74 dX12_swap_1 ?_
  refine run_iload_n 1 dX12_swap_4 rfl rfl ?_
  obtain ⟨g1, h⟩ := gd_s h
  refine run_iald' is_310 ln_310 g1 rfl dX12_swap_5 ?_
  refine run_istore_n [(0, .ref (gA G 269)), (1, .int x1), (2, .int x2), (3, .int (σ 310 (Int32.toNatClampNeg x1)))] [1, 2, 3, 0] dX12_swap_6 rfl (by decide) rfl ?_
  refine run_aload_n 0 dX12_swap_7 rfl rfl ?_
  refine run_getr fl_X12_131 is_269 (by decide) rfl ce_269_74 dX12_swap_8 ?_
  refine run_iload_n 1 dX12_swap_11 rfl rfl ?_
  refine run_aload_n 0 dX12_swap_12 rfl rfl ?_
  refine run_getr fl_X12_131 is_269 (by decide) rfl ce_269_74 dX12_swap_13 ?_
  refine run_iload_n 2 dX12_swap_16 rfl rfl ?_
  obtain ⟨g2, h⟩ := gd_s h
  refine run_iald' is_310 ln_310 g2 rfl dX12_swap_17 ?_
  obtain ⟨g3, h⟩ := gd_s h
  refine run_iast' is_310 ln_310 g3 rfl dX12_swap_18 ?_
  refine run_aload_n 0 dX12_swap_19 rfl rfl ?_
  refine run_getr fl_X12_131 is_269 (by decide) rfl ce_269_74 dX12_swap_20 ?_
  refine run_iload_n 2 dX12_swap_23 rfl rfl ?_
  refine run_iload_n 3 dX12_swap_24 rfl rfl ?_
  obtain ⟨g4, h⟩ := gd_s h
  refine run_iast' is_310 ln_310 g4 rfl dX12_swap_25 ?_
  exact run_vret dX12_swap_26 ⟨rfl, Option.some.inj h⟩
def HX12_nextRow : Nat := 2
theorem HX12_nextRow_X12_swap_lt (d : Nat) : d + HX12_swap < d + HX12_nextRow := Nat.add_lt_add_left (by decide) d
theorem HX12_nextRow_0 (d : Nat) : 0 < d + HX12_nextRow := Nat.lt_of_lt_of_le (by decide) (Nat.le_add_left _ d)
def lX12_nextRow_4 (x1 : Int32) : Nat → Int32 → Mem → Option (Int32 × Mem)
  | 0, _, _ => none
  | n + 1, x2, σ => if x2 < 0 then (some (x2, σ)) else (gd (inb x2 6) (gd (inb (x2 + 1) 6) (if (σ 310 (Int32.toNatClampNeg x2)) ≤ (σ 310 (Int32.toNatClampNeg (x2 + 1))) then (some (x2, σ)) else (lX12_nextRow_4 x1 n (x2 + (-1)) σ))))
set_option maxRecDepth 20000 in
theorem lpX12_nextRow_4 (G : GT) (d : Nat) (x1 : Int32)  {K : Option Value → Mem → Prop} : ∀ (n : Nat) (x2 : Int32) (σ : Mem) (o : Int32 × Mem), lX12_nextRow_4 x1 n x2 σ = some o → (Run G RX12 cX12_nextRow 4 (some .boolean) (mF G (d + HX12_nextRow) K) 31 [(0, .ref (gA G 269)), (1, .int x1), (2, .int (o.1))] [] (o.2)) → Run G RX12 cX12_nextRow 4 (some .boolean) (mF G (d + HX12_nextRow) K) 4 [(0, .ref (gA G 269)), (1, .int x1), (2, .int x2)] [] σ := by
  intro n
  induction n with
  | zero => intro x2 σ o h; exact absurd h (by simp [lX12_nextRow_4])
  | succ n ih =>
    intro x2 σ o h kx
    rw [lX12_nextRow_4] at h
    refine run_iload_n 2 dX12_nextRow_4 rfl rfl ?_
    refine run_if_lt 31 dX12_nextRow_5 (by decide) (fun c1 => ?_) (fun c1 => ?_)
    · rw [if_pos c1] at h
      rw [← Option.some.inj h] at kx
      exact kx
    · rw [if_neg c1] at h
      refine run_aload_n 0 dX12_nextRow_8 rfl rfl ?_
      refine run_getr fl_X12_131 is_269 (by decide) rfl ce_269_74 dX12_nextRow_9 ?_
      refine run_iload_n 2 dX12_nextRow_12 rfl rfl ?_
      obtain ⟨g2, h⟩ := gd_s h
      refine run_iald' is_310 ln_310 g2 rfl dX12_nextRow_13 ?_
      refine run_aload_n 0 dX12_nextRow_14 rfl rfl ?_
      refine run_getr fl_X12_131 is_269 (by decide) rfl ce_269_74 dX12_nextRow_15 ?_
      refine run_iload_n 2 dX12_nextRow_18 rfl rfl ?_
      refine run_iconst (v := 1) dX12_nextRow_19 rfl ?_
      refine run_iadd dX12_nextRow_20 ?_
      obtain ⟨g3, h⟩ := gd_s h
      refine run_iald' is_310 ln_310 g3 rfl dX12_nextRow_21 ?_
      refine run_icmp_le 31 dX12_nextRow_22 (by decide) (fun c4 => ?_) (fun c4 => ?_)
      · rw [if_pos c4] at h
        rw [← Option.some.inj h] at kx
        exact kx
      · rw [if_neg c4] at h
        refine run_iinc 2 [(0, .ref (gA G 269)), (1, .int x1), (2, .int (x2 + (-1)))] [1, 2, 0] dX12_nextRow_25 rfl rfl (by decide) rfl ?_
        refine run_goto 4 dX12_nextRow_28 (by decide) ?_
        exact ih _ _ _ h kx
def lX12_nextRow_41 (x1 : Int32) (x2 : Int32) : Nat → Int32 → Mem → Option (Int32 × Mem)
  | 0, _, _ => none
  | n + 1, x3, σ => gd (inb x3 6) (gd (inb x2 6) (if (σ 310 (Int32.toNatClampNeg x2)) ≤ (σ 310 (Int32.toNatClampNeg x3)) then (some (x3, σ)) else (lX12_nextRow_41 x1 x2 n (x3 + (-1)) σ)))
set_option maxRecDepth 20000 in
theorem lpX12_nextRow_41 (G : GT) (d : Nat) (x1 : Int32) (x2 : Int32)  {K : Option Value → Mem → Prop} : ∀ (n : Nat) (x3 : Int32) (σ : Mem) (o : Int32 × Mem), lX12_nextRow_41 x1 x2 n x3 σ = some o → (Run G RX12 cX12_nextRow 4 (some .boolean) (mF G (d + HX12_nextRow) K) 62 [(0, .ref (gA G 269)), (1, .int x1), (2, .int x2), (3, .int (o.1))] [] (o.2)) → Run G RX12 cX12_nextRow 4 (some .boolean) (mF G (d + HX12_nextRow) K) 41 [(0, .ref (gA G 269)), (1, .int x1), (2, .int x2), (3, .int x3)] [] σ := by
  intro n
  induction n with
  | zero => intro x3 σ o h; exact absurd h (by simp [lX12_nextRow_41])
  | succ n ih =>
    intro x3 σ o h kx
    rw [lX12_nextRow_41] at h
    refine run_aload_n 0 dX12_nextRow_41 rfl rfl ?_
    refine run_getr fl_X12_131 is_269 (by decide) rfl ce_269_74 dX12_nextRow_42 ?_
    refine run_iload_n 3 dX12_nextRow_45 rfl rfl ?_
    obtain ⟨g7, h⟩ := gd_s h
    refine run_iald' is_310 ln_310 g7 rfl dX12_nextRow_46 ?_
    refine run_aload_n 0 dX12_nextRow_47 rfl rfl ?_
    refine run_getr fl_X12_131 is_269 (by decide) rfl ce_269_74 dX12_nextRow_48 ?_
    refine run_iload_n 2 dX12_nextRow_51 rfl rfl ?_
    obtain ⟨g8, h⟩ := gd_s h
    refine run_iald' is_310 ln_310 g8 rfl dX12_nextRow_52 ?_
    refine run_icmp_ge 62 dX12_nextRow_53 (by decide) (fun c9 => ?_) (fun c9 => ?_)
    · rw [if_pos c9] at h
      rw [← Option.some.inj h] at kx
      exact kx
    · rw [if_neg c9] at h
      refine run_iinc 3 [(0, .ref (gA G 269)), (1, .int x1), (2, .int x2), (3, .int (x3 + (-1)))] [1, 2, 3, 0] dX12_nextRow_56 rfl rfl (by decide) rfl ?_
      refine run_goto 41 dX12_nextRow_59 (by decide) ?_
      exact ih _ _ _ h kx
def lX12_nextRow_75  : Nat → Int32 → Int32 → Mem → Option (Mem)
  | 0, _, _, _ => none
  | n + 1, x2, x3, σ => if x3 ≤ x2 then (some σ) else ((fX12_swap x2 x3 σ).bind fun q13 => lX12_nextRow_75 n (x2 + 1) (x3 + (-1)) q13)
set_option maxRecDepth 20000 in
theorem lpX12_nextRow_75 (G : GT) (d : Nat)   {K : Option Value → Mem → Prop} : ∀ (n : Nat) (x2 : Int32) (x3 : Int32) (σ : Mem) (o : Mem), lX12_nextRow_75 n x2 x3 σ = some o → (Run G RX12 cX12_nextRow 4 (some .boolean) (mF G (d + HX12_nextRow) K) 95 [] [] o) → Run G RX12 cX12_nextRow 4 (some .boolean) (mF G (d + HX12_nextRow) K) 75 [(0, .ref (gA G 269)), (2, .int x2), (3, .int x3)] [] σ := by
  intro n
  induction n with
  | zero => intro x2 x3 σ o h; exact absurd h (by simp [lX12_nextRow_75])
  | succ n ih =>
    intro x2 x3 σ o h kx
    rw [lX12_nextRow_75] at h
    refine run_iload_n 1 dX12_nextRow_75 rfl rfl ?_
    refine run_iload_n 2 dX12_nextRow_76 rfl rfl ?_
    refine run_icmp_ge 95 dX12_nextRow_77 (by decide) (fun c12 => ?_) (fun c12 => ?_)
    · rw [if_pos c12] at h
      rw [← Option.some.inj h] at kx
      refine run_forget [] rfl ?_
      exact kx
    · rw [if_neg c12] at h
      refine run_aload_n 0 dX12_nextRow_80 rfl rfl ?_
      refine run_iload_n 1 dX12_nextRow_81 rfl rfl ?_
      refine run_iload_n 2 dX12_nextRow_82 rfl rfl ?_
      obtain ⟨q13, h14, h⟩ := Option.bind_eq_some_iff.mp h
      refine run_callVv (As := [.int x2, .int x3]) (fun z => z = q13) mw_X12_swap mi_X12_swap ml_X12_518 is_269 (by decide) rfl rfl rfl (RF.lt (HX12_nextRow_X12_swap_lt d)) (Nat.le_of_ble_eq_true rfl) dX12_nextRow_83 (sX12_swap G d  h14) (fun z h8 => ?_) rfl
      rw [h8]
      clear h8
      refine run_iinc 1 [(0, .ref (gA G 269)), (2, .int (x2 + 1)), (3, .int x3)] [1, 0, 2] dX12_nextRow_86 rfl rfl (by decide) rfl ?_
      refine run_iinc 2 [(0, .ref (gA G 269)), (2, .int (x2 + 1)), (3, .int (x3 + (-1)))] [1, 2, 0] dX12_nextRow_89 rfl rfl (by decide) rfl ?_
      refine run_goto 75 dX12_nextRow_92 (by decide) ?_
      exact ih _ _ _ _ h kx
def jX12_nextRow_31 (x1 : Int32) (x2 : Int32) (σ : Mem) : Option (Bool × Mem) := if 0 ≤ x2 then ((lX12_nextRow_41 x1 x2 FU (x1 - 1) σ).bind fun q10 => (fX12_swap x2 (q10.1) (q10.2)).bind fun q11 => (lX12_nextRow_75 FU (x2 + 1) (x1 - 1) q11).bind fun q15 => some (true, q15)) else (some (false, σ))
set_option maxRecDepth 20000 in
theorem jnX12_nextRow_31 (G : GT) (d : Nat) (x1 : Int32) (x2 : Int32)  (σ : Mem) (o : (Bool × Mem)) (h : jX12_nextRow_31 x1 x2 σ = some o) : Run G RX12 cX12_nextRow 4 (some .boolean) (mF G (d + HX12_nextRow) (kB fun x z => (x, z) = o)) 31 [(0, .ref (gA G 269)), (1, .int x1), (2, .int x2)] [] σ := by
  unfold jX12_nextRow_31 at h
  refine run_iload_n 2 dX12_nextRow_31 rfl rfl ?_
  refine run_if_ge 37 dX12_nextRow_32 (by decide) (fun c6 => ?_) (fun c6 => ?_)
  · rw [if_pos c6] at h
    refine run_iload_n 1 dX12_nextRow_37 rfl rfl ?_
    refine run_iconst (v := 1) dX12_nextRow_38 rfl ?_
    refine run_isub dX12_nextRow_39 ?_
    refine run_istore_n [(0, .ref (gA G 269)), (1, .int x1), (2, .int x2), (3, .int (x1 - 1))] [1, 2, 3, 0] dX12_nextRow_40 rfl (by decide) rfl ?_
    obtain ⟨q10, h18, h⟩ := Option.bind_eq_some_iff.mp h
    refine lpX12_nextRow_41 G d _ _ _ _ _ _ h18 ?_
    refine run_aload_n 0 dX12_nextRow_62 rfl rfl ?_
    refine run_iload_n 2 dX12_nextRow_63 rfl rfl ?_
    refine run_iload_n 3 dX12_nextRow_64 rfl rfl ?_
    obtain ⟨q11, h17, h⟩ := Option.bind_eq_some_iff.mp h
    refine run_callVv (As := [.int x2, .int (q10.1)]) (fun z => z = q11) mw_X12_swap mi_X12_swap ml_X12_518 is_269 (by decide) rfl rfl rfl (RF.lt (HX12_nextRow_X12_swap_lt d)) (Nat.le_of_ble_eq_true rfl) dX12_nextRow_65 (sX12_swap G d  h17) (fun z h8 => ?_) rfl
    rw [h8]
    clear h8
    refine run_iinc 2 [(0, .ref (gA G 269)), (1, .int x1), (2, .int (x2 + 1))] [1, 2, 0] dX12_nextRow_68 rfl rfl (by decide) rfl ?_
    refine run_iload_n 1 dX12_nextRow_71 rfl rfl ?_
    refine run_iconst (v := 1) dX12_nextRow_72 rfl ?_
    refine run_isub dX12_nextRow_73 ?_
    refine run_istore_n [(0, .ref (gA G 269)), (2, .int (x2 + 1)), (3, .int (x1 - 1))] [1, 3, 0] dX12_nextRow_74 rfl (by decide) rfl ?_
    obtain ⟨q15, h16, h⟩ := Option.bind_eq_some_iff.mp h
    refine lpX12_nextRow_75 G d _ _ _ _ _ h16 ?_
    refine run_iconst (v := 1) dX12_nextRow_95 rfl ?_
    exact run_bret (b := true) dX12_nextRow_96 ⟨_, rfl, Option.some.inj h⟩
  · rw [if_neg c6] at h
    refine run_iconst (v := 0) dX12_nextRow_35 rfl ?_
    exact run_bret (b := false) dX12_nextRow_36 ⟨_, rfl, Option.some.inj h⟩
def fX12_nextRow (x1 : Int32) (σ : Mem) : Option (Bool × Mem) := (lX12_nextRow_4 x1 FU (x1 - 2) σ).bind fun q5 => jX12_nextRow_31 x1 (q5.1) (q5.2)
set_option maxRecDepth 20000 in
theorem sX12_nextRow (G : GT) (d : Nat) {x1 : Int32}  {σ : Mem} {o : (Bool × Mem)} (h : fX12_nextRow x1 σ = some o) : Spec G yX12_nextRow cX12_nextRow 4 (some .boolean) (d + HX12_nextRow) [.ref (gA G 269), .int x1] σ (kB fun x z => (x, z) = o) := by
  refine spec_run (by decide) (Nat.le_of_ble_eq_true rfl) ?_
  unfold fX12_nextRow at h
  show Run G RX12 cX12_nextRow 4 (some .boolean) _ 0 [(0, .ref (gA G 269)), (1, .int x1)] [] σ
  refine run_iload_n 1 dX12_nextRow_0 rfl rfl ?_
  refine run_iconst (v := 2) dX12_nextRow_1 rfl ?_
  refine run_isub dX12_nextRow_2 ?_
  refine run_istore_n [(0, .ref (gA G 269)), (1, .int x1), (2, .int (x1 - 2))] [1, 2, 0] dX12_nextRow_3 rfl (by decide) rfl ?_
  obtain ⟨q5, h19, h⟩ := Option.bind_eq_some_iff.mp h
  refine lpX12_nextRow_4 G d _ _ _ _ _ h19 ?_
  exact jnX12_nextRow_31 G d _ _ _ _ h
def HX12_serialRows : Nat := 9
theorem HX12_serialRows_X12_isEnd_lt (d : Nat) : d + HX12_isEnd < d + HX12_serialRows := Nat.add_lt_add_left (by decide) d
theorem HX12_serialRows_X12_keepEnd_lt (d : Nat) : d + HX12_keepEnd < d + HX12_serialRows := Nat.add_lt_add_left (by decide) d
theorem HX12_serialRows_X12_keysAsTold_lt (d : Nat) : d + HX12_keysAsTold < d + HX12_serialRows := Nat.add_lt_add_left (by decide) d
theorem HX12_serialRows_X12_nextRow_lt (d : Nat) : d + HX12_nextRow < d + HX12_serialRows := Nat.add_lt_add_left (by decide) d
theorem HX12_serialRows_X12_runAlone_lt (d : Nat) : d + HX12_runAlone < d + HX12_serialRows := Nat.add_lt_add_left (by decide) d
theorem HX12_serialRows_0 (d : Nat) : 0 < d + HX12_serialRows := Nat.lt_of_lt_of_le (by decide) (Nat.le_add_left _ d)
def lX12_serialRows_6  : Nat → Int32 → Mem → Option (Mem)
  | 0, _, _ => none
  | n + 1, x1, σ => if 6 ≤ x1 then (some σ) else (gd (inb x1 6) (lX12_serialRows_6 n (x1 + 1) (st2 σ 310 (Int32.toNatClampNeg x1) x1)))
set_option maxRecDepth 20000 in
theorem lpX12_serialRows_6 (G : GT) (d : Nat)   {K : Option Value → Mem → Prop} : ∀ (n : Nat) (x1 : Int32) (σ : Mem) (o : Mem), lX12_serialRows_6 n x1 σ = some o → (Run G RX12 cX12_serialRows 5 (some .int) (mF G (d + HX12_serialRows) K) 25 [(0, .ref (gA G 269))] [] o) → Run G RX12 cX12_serialRows 5 (some .int) (mF G (d + HX12_serialRows) K) 6 [(0, .ref (gA G 269)), (1, .int x1)] [] σ := by
  intro n
  induction n with
  | zero => intro x1 σ o h; exact absurd h (by simp [lX12_serialRows_6])
  | succ n ih =>
    intro x1 σ o h kx
    rw [lX12_serialRows_6] at h
    refine run_iload_n 1 dX12_serialRows_6 rfl rfl ?_
    refine run_bipush (v := 6) dX12_serialRows_7 rfl ?_
    refine run_icmp_ge 25 dX12_serialRows_9 (by decide) (fun c4 => ?_) (fun c4 => ?_)
    · rw [if_pos c4] at h
      rw [← Option.some.inj h] at kx
      refine run_forget [0] rfl ?_
      exact kx
    · rw [if_neg c4] at h
      refine run_aload_n 0 dX12_serialRows_12 rfl rfl ?_
      refine run_getr fl_X12_131 is_269 (by decide) rfl ce_269_74 dX12_serialRows_13 ?_
      refine run_iload_n 1 dX12_serialRows_16 rfl rfl ?_
      refine run_iload_n 1 dX12_serialRows_17 rfl rfl ?_
      obtain ⟨g5, h⟩ := gd_s h
      refine run_iast' is_310 ln_310 g5 rfl dX12_serialRows_18 ?_
      refine run_iinc 1 [(0, .ref (gA G 269)), (1, .int (x1 + 1))] [1, 0] dX12_serialRows_19 rfl rfl (by decide) rfl ?_
      refine run_goto 6 dX12_serialRows_22 (by decide) ?_
      exact ih _ _ _ h kx
def lX12_serialRows_39 (x1 : Int32) : Nat → Int32 → Mem → Option (Mem)
  | 0, _, _ => none
  | n + 1, x3, σ => if (σ 269 71) ≤ x3 then (some σ) else (gd (inb x3 6) (gd (inb (σ 310 (Int32.toNatClampNeg x3)) 64) (gd (inb (σ 308 (Int32.toNatClampNeg (σ 310 (Int32.toNatClampNeg x3)))) 64) ((fX12_runAlone (σ 296 (Int32.toNatClampNeg (σ 308 (Int32.toNatClampNeg (σ 310 (Int32.toNatClampNeg x3)))))) σ).bind fun q47 => lX12_serialRows_39 x1 n (x3 + 1) q47))))
set_option maxRecDepth 20000 in
theorem lpX12_serialRows_39 (G : GT) (d : Nat) (x1 : Int32)  {K : Option Value → Mem → Prop} : ∀ (n : Nat) (x3 : Int32) (σ : Mem) (o : Mem), lX12_serialRows_39 x1 n x3 σ = some o → (Run G RX12 cX12_serialRows 5 (some .int) (mF G (d + HX12_serialRows) K) 73 [(0, .ref (gA G 269)), (1, .int x1)] [] o) → Run G RX12 cX12_serialRows 5 (some .int) (mF G (d + HX12_serialRows) K) 39 [(0, .ref (gA G 269)), (1, .int x1), (3, .int x3)] [] σ := by
  intro n
  induction n with
  | zero => intro x3 σ o h; exact absurd h (by simp [lX12_serialRows_39])
  | succ n ih =>
    intro x3 σ o h kx
    rw [lX12_serialRows_39] at h
    refine run_iload_n 2 dX12_serialRows_39 rfl rfl ?_
    refine run_aload_n 0 dX12_serialRows_40 rfl rfl ?_
    refine run_geti fl_X12_509 is_269 (by decide) rfl dX12_serialRows_41 ?_
    refine run_icmp_ge 73 dX12_serialRows_44 (by decide) (fun c43 => ?_) (fun c43 => ?_)
    · rw [if_pos c43] at h
      rw [← Option.some.inj h] at kx
      refine run_forget [0, 1] rfl ?_
      exact kx
    · rw [if_neg c43] at h
      refine run_aload_n 0 dX12_serialRows_47 rfl rfl ?_
      refine run_aload_n 0 dX12_serialRows_48 rfl rfl ?_
      refine run_getr fl_X12_89 is_269 (by decide) rfl ce_269_46 dX12_serialRows_49 ?_
      refine run_aload_n 0 dX12_serialRows_52 rfl rfl ?_
      refine run_getr fl_X12_125 is_269 (by decide) rfl ce_269_70 dX12_serialRows_53 ?_
      refine run_aload_n 0 dX12_serialRows_56 rfl rfl ?_
      refine run_getr fl_X12_131 is_269 (by decide) rfl ce_269_74 dX12_serialRows_57 ?_
      refine run_iload_n 2 dX12_serialRows_60 rfl rfl ?_
      obtain ⟨g44, h⟩ := gd_s h
      refine run_iald' is_310 ln_310 g44 rfl dX12_serialRows_61 ?_
      obtain ⟨g45, h⟩ := gd_s h
      refine run_iald' is_308 ln_308 g45 rfl dX12_serialRows_62 ?_
      obtain ⟨g46, h⟩ := gd_s h
      refine run_iald' is_296 ln_296 g46 rfl dX12_serialRows_63 ?_
      obtain ⟨q47, h48, h⟩ := Option.bind_eq_some_iff.mp h
      refine run_callVv (As := [.int (σ 296 (Int32.toNatClampNeg (σ 308 (Int32.toNatClampNeg (σ 310 (Int32.toNatClampNeg x3))))))]) (fun z => z = q47) mw_X12_runAlone mi_X12_runAlone ml_X12_524 is_269 (by decide) rfl rfl rfl (RF.lt (HX12_serialRows_X12_runAlone_lt d)) (Nat.le_of_ble_eq_true rfl) dX12_serialRows_64 (sX12_runAlone G d  h48) (fun z h8 => ?_) rfl
      rw [h8]
      clear h8
      refine run_iinc 2 [(0, .ref (gA G 269)), (1, .int x1), (3, .int (x3 + 1))] [1, 2, 0] dX12_serialRows_67 rfl rfl (by decide) rfl ?_
      refine run_goto 39 dX12_serialRows_70 (by decide) ?_
      exact ih _ _ _ h kx
def lX12_serialRows_81 (x1 : Int32) (x3 : Bool) : Nat → Int32 → Mem → Option (Mem)
  | 0, _, _ => none
  | n + 1, x4, σ => if 6 ≤ x4 then (some σ) else (if x3 = true then (if x1 = 0 then (gd (inb x4 6) (gd (inb x4 6) (lX12_serialRows_81 x1 x3 n (x4 + 1) (st2 σ 311 (Int32.toNatClampNeg x4) (σ 310 (Int32.toNatClampNeg x4)))))) else (some σ)) else (some σ))
set_option maxRecDepth 20000 in
theorem lpX12_serialRows_81 (G : GT) (d : Nat) (x1 : Int32) (x3 : Bool)  {K : Option Value → Mem → Prop} : ∀ (n : Nat) (x4 : Int32) (σ : Mem) (o : Mem), lX12_serialRows_81 x1 x3 n x4 σ = some o → (Run G RX12 cX12_serialRows 5 (some .int) (mF G (d + HX12_serialRows) K) 116 [(0, .ref (gA G 269)), (1, .int x1), (3, .int (b2 x3))] [] o) → Run G RX12 cX12_serialRows 5 (some .int) (mF G (d + HX12_serialRows) K) 81 [(0, .ref (gA G 269)), (1, .int x1), (3, .int (b2 x3)), (4, .int x4)] [] σ := by
  intro n
  induction n with
  | zero => intro x4 σ o h; exact absurd h (by simp [lX12_serialRows_81])
  | succ n ih =>
    intro x4 σ o h kx
    rw [lX12_serialRows_81] at h
    refine run_iload 3 dX12_serialRows_81 rfl ?_
    refine run_bipush (v := 6) dX12_serialRows_83 rfl ?_
    refine run_icmp_ge 116 dX12_serialRows_85 (by decide) (fun c56 => ?_) (fun c56 => ?_)
    · rw [if_pos c56] at h
      rw [← Option.some.inj h] at kx
      refine run_forget [0, 1, 2] rfl ?_
      exact kx
    · rw [if_neg c56] at h
      refine run_iload_n 2 dX12_serialRows_88 rfl rfl ?_
      refine run_ifb_eq 116 dX12_serialRows_89 (by decide) (fun c57 => ?_) (fun c57 => ?_)
      · rw [if_neg c57] at h
        rw [← Option.some.inj h] at kx
        refine run_forget [0, 1, 2] rfl ?_
        exact kx
      · rw [if_pos c57] at h
        refine run_iload_n 1 dX12_serialRows_92 rfl rfl ?_
        refine run_if_ne 116 dX12_serialRows_93 (by decide) (fun c58 => ?_) (fun c58 => ?_)
        · rw [if_neg c58] at h
          rw [← Option.some.inj h] at kx
          refine run_forget [0, 1, 2] rfl ?_
          exact kx
        · rw [if_pos c58] at h
          refine run_aload_n 0 dX12_serialRows_96 rfl rfl ?_
          refine run_getr fl_X12_134 is_269 (by decide) rfl ce_269_75 dX12_serialRows_97 ?_
          refine run_iload 3 dX12_serialRows_100 rfl ?_
          refine run_aload_n 0 dX12_serialRows_102 rfl rfl ?_
          refine run_getr fl_X12_131 is_269 (by decide) rfl ce_269_74 dX12_serialRows_103 ?_
          refine run_iload 3 dX12_serialRows_106 rfl ?_
          obtain ⟨g59, h⟩ := gd_s h
          refine run_iald' is_310 ln_310 g59 rfl dX12_serialRows_108 ?_
          obtain ⟨g60, h⟩ := gd_s h
          refine run_iast' is_311 ln_311 g60 rfl dX12_serialRows_109 ?_
          refine run_iinc 3 [(0, .ref (gA G 269)), (1, .int x1), (3, .int (b2 x3)), (4, .int (x4 + 1))] [1, 2, 3, 0] dX12_serialRows_110 rfl rfl (by decide) rfl ?_
          refine run_goto 81 dX12_serialRows_113 (by decide) ?_
          exact ih _ _ _ h kx
def lX12_serialRows_29  : Nat → Int32 → Int32 → Mem → Option (Int32 × Mem)
  | 0, _, _, _ => none
  | n + 1, x1, x2, σ => if x2 = 0 then (some (x1, σ)) else ((fX12_keysAsTold σ).bind fun q37 => (lX12_serialRows_39 x1 FU 0 q37).bind fun q49 => (fX12_isEnd q49).bind fun q50 => (lX12_serialRows_81 x1 q50.1 FU 0 q50.2).bind fun q61 => (if q50.1 = true then (some true) else (some false) : Option (Bool)).bind fun q63 => (fX12_nextRow (q61 269 71) q61).bind fun q64 => lX12_serialRows_29 n (x1 + (b2 q63)) (b2 q64.1) q64.2)
set_option maxRecDepth 20000 in
theorem lpX12_serialRows_29 (G : GT) (d : Nat)   {K : Option Value → Mem → Prop} : ∀ (n : Nat) (x1 : Int32) (x2 : Int32) (σ : Mem) (o : Int32 × Mem), lX12_serialRows_29 n x1 x2 σ = some o → (Run G RX12 cX12_serialRows 5 (some .int) (mF G (d + HX12_serialRows) K) 140 [(1, .int (o.1))] [] (o.2)) → Run G RX12 cX12_serialRows 5 (some .int) (mF G (d + HX12_serialRows) K) 29 [(0, .ref (gA G 269)), (1, .int x1), (2, .int x2)] [] σ := by
  intro n
  induction n with
  | zero => intro x1 x2 σ o h; exact absurd h (by simp [lX12_serialRows_29])
  | succ n ih =>
    intro x1 x2 σ o h kx
    rw [lX12_serialRows_29] at h
    refine run_iload_n 2 dX12_serialRows_29 rfl rfl ?_
    refine run_if_eq 140 dX12_serialRows_30 (by decide) (fun c36 => ?_) (fun c36 => ?_)
    · rw [if_pos c36] at h
      rw [← Option.some.inj h] at kx
      refine run_forget [1] rfl ?_
      exact kx
    · rw [if_neg c36] at h
      refine run_aload_n 0 dX12_serialRows_33 rfl rfl ?_
      obtain ⟨q37, h70, h⟩ := Option.bind_eq_some_iff.mp h
      refine run_callVv (As := []) (fun z => z = q37) mw_X12_keysAsTold mi_X12_keysAsTold ml_X12_339 is_269 (by decide) rfl rfl rfl (RF.lt (HX12_serialRows_X12_keysAsTold_lt d)) (Nat.le_of_ble_eq_true rfl) dX12_serialRows_34 (sX12_keysAsTold G d  h70) (fun z h8 => ?_) rfl
      rw [h8]
      clear h8
      refine run_iconst (v := 0) dX12_serialRows_37 rfl ?_
      refine run_istore_n [(0, .ref (gA G 269)), (1, .int x1), (3, .int 0)] [1, 2, 0] dX12_serialRows_38 rfl (by decide) rfl ?_
      obtain ⟨q49, h69, h⟩ := Option.bind_eq_some_iff.mp h
      refine lpX12_serialRows_39 G d _ _ _ _ _ h69 ?_
      refine run_aload_n 0 dX12_serialRows_73 rfl rfl ?_
      obtain ⟨q50, h68, h⟩ := Option.bind_eq_some_iff.mp h
      refine run_callVb (As := []) (fun r z => (r, z) = q50) mw_X12_isEnd mi_X12_isEnd ml_X12_527 is_269 (by decide) rfl rfl rfl (RF.lt (HX12_serialRows_X12_isEnd_lt d)) (Nat.le_of_ble_eq_true rfl) dX12_serialRows_74 (sX12_isEnd G d  h68) (fun r z h8 => ?_) rfl
      rw [show r = q50.1 from congrArg Prod.fst h8, show z = q50.2 from congrArg Prod.snd h8]
      clear h8
      refine run_istore_n [(0, .ref (gA G 269)), (1, .int x1), (3, .int (b2 q50.1))] [1, 2, 0] dX12_serialRows_77 rfl (by decide) rfl ?_
      refine run_iconst (v := 0) dX12_serialRows_78 rfl ?_
      refine run_istore [(0, .ref (gA G 269)), (1, .int x1), (3, .int (b2 q50.1)), (4, .int 0)] [1, 2, 3, 0] dX12_serialRows_79 (by decide) rfl ?_
      obtain ⟨q61, h67, h⟩ := Option.bind_eq_some_iff.mp h
      refine lpX12_serialRows_81 G d _ _ _ _ _ _ h67 ?_
      refine run_iload_n 1 dX12_serialRows_116 rfl rfl ?_
      refine run_iload_n 2 dX12_serialRows_117 rfl rfl ?_
      obtain ⟨q63, h, h9⟩ := Option.bind_eq_some_iff.mp h
      have hj66 : Run G RX12 cX12_serialRows 5 (some .int) (mF G (d + HX12_serialRows) K) 126 [(0, .ref (gA G 269))] [.int (b2 q63), .int x1] q61 := by
        clear h
        have h := h9
        clear h9
        refine run_iadd dX12_serialRows_126 ?_
        refine run_istore_n [(0, .ref (gA G 269)), (1, .int (x1 + (b2 q63)))] [1, 0] dX12_serialRows_127 rfl (by decide) rfl ?_
        refine run_aload_n 0 dX12_serialRows_128 rfl rfl ?_
        refine run_aload_n 0 dX12_serialRows_129 rfl rfl ?_
        refine run_geti fl_X12_509 is_269 (by decide) rfl dX12_serialRows_130 ?_
        obtain ⟨q64, h65, h⟩ := Option.bind_eq_some_iff.mp h
        refine run_callVb (As := [.int (q61 269 71)]) (fun r z => (r, z) = q64) mw_X12_nextRow mi_X12_nextRow ml_X12_530 is_269 (by decide) rfl rfl rfl (RF.lt (HX12_serialRows_X12_nextRow_lt d)) (Nat.le_of_ble_eq_true rfl) dX12_serialRows_133 (sX12_nextRow G d  h65) (fun r z h8 => ?_) rfl
        rw [show r = q64.1 from congrArg Prod.fst h8, show z = q64.2 from congrArg Prod.snd h8]
        clear h8
        refine run_istore_n [(0, .ref (gA G 269)), (1, .int (x1 + (b2 q63))), (2, .int (b2 q64.1))] [1, 2, 0] dX12_serialRows_136 rfl (by decide) rfl ?_
        refine run_goto 29 dX12_serialRows_137 (by decide) ?_
        exact ih _ _ _ _ h kx
      clear h9
      refine run_ifb_eq 125 dX12_serialRows_118 (by decide) (fun c62 => ?_) (fun c62 => ?_)
      · rw [if_neg c62] at h
        refine run_iconst (v := 0) dX12_serialRows_125 rfl ?_
        rw [← Option.some.inj h] at hj66
        refine run_forget [0] rfl ?_
        exact hj66
      · rw [if_pos c62] at h
        refine run_iconst (v := 1) dX12_serialRows_121 rfl ?_
        refine run_goto 126 dX12_serialRows_122 (by decide) ?_
        rw [← Option.some.inj h] at hj66
        refine run_forget [0] rfl ?_
        exact hj66
def fX12_serialRows  (σ : Mem) : Option (Int32 × Mem) := (fX12_keepEnd σ).bind fun q1 => (lX12_serialRows_6 FU 0 q1).bind fun q6 => (lX12_serialRows_29 FU 0 1 q6).bind fun q71 => some ((q71.1), (q71.2))
set_option maxRecDepth 20000 in
theorem sX12_serialRows (G : GT) (d : Nat)   {σ : Mem} {o : (Int32 × Mem)} (h : fX12_serialRows σ = some o) : Spec G yX12_serialRows cX12_serialRows 5 (some .int) (d + HX12_serialRows) [.ref (gA G 269)] σ (kI fun x z => (x, z) = o) := by
  refine spec_run (by decide) (Nat.le_of_ble_eq_true rfl) ?_
  unfold fX12_serialRows at h
  show Run G RX12 cX12_serialRows 5 (some .int) _ 0 [(0, .ref (gA G 269))] [] σ
  refine run_aload_n 0 dX12_serialRows_0 rfl rfl ?_
  obtain ⟨q1, h74, h⟩ := Option.bind_eq_some_iff.mp h
  refine run_callVv (As := []) (fun z => z = q1) mw_X12_keepEnd mi_X12_keepEnd ml_X12_521 is_269 (by decide) rfl rfl rfl (RF.lt (HX12_serialRows_X12_keepEnd_lt d)) (Nat.le_of_ble_eq_true rfl) dX12_serialRows_1 (sX12_keepEnd G d  h74) (fun z h8 => ?_) rfl
  rw [h8]
  clear h8
  refine run_iconst (v := 0) dX12_serialRows_4 rfl ?_
  refine run_istore_n [(0, .ref (gA G 269)), (1, .int 0)] [1, 0] dX12_serialRows_5 rfl (by decide) rfl ?_
  obtain ⟨q6, h73, h⟩ := Option.bind_eq_some_iff.mp h
  refine lpX12_serialRows_6 G d _ _ _ _ h73 ?_
  refine run_iconst (v := 0) dX12_serialRows_25 rfl ?_
  refine run_istore_n [(0, .ref (gA G 269)), (1, .int 0)] [1, 0] dX12_serialRows_26 rfl (by decide) rfl ?_
  refine run_iconst (v := 1) dX12_serialRows_27 rfl ?_
  refine run_istore_n [(0, .ref (gA G 269)), (1, .int 0), (2, .int 1)] [1, 2, 0] dX12_serialRows_28 rfl (by decide) rfl ?_
  obtain ⟨q71, h72, h⟩ := Option.bind_eq_some_iff.mp h
  refine lpX12_serialRows_29 G d _ _ _ _ _ h72 ?_
  refine run_iload_n 0 dX12_serialRows_140 rfl rfl ?_
  exact run_iret dX12_serialRows_141 ⟨_, rfl, Option.some.inj h⟩
