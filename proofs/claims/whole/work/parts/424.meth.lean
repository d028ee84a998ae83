/-! methods, translated -/
def HX5_readToken : Nat := 3
theorem HX5_readToken_X5_isDigit_lt (d : Nat) : d + HX5_isDigit < d + HX5_readToken := Nat.add_lt_add_left (by decide) d
theorem HX5_readToken_X5_isLetter_lt (d : Nat) : d + HX5_isLetter < d + HX5_readToken := Nat.add_lt_add_left (by decide) d
theorem HX5_readToken_X5_readNumber_lt (d : Nat) : d + HX5_readNumber < d + HX5_readToken := Nat.add_lt_add_left (by decide) d
theorem HX5_readToken_X5_readWord_lt (d : Nat) : d + HX5_readWord < d + HX5_readToken := Nat.add_lt_add_left (by decide) d
theorem HX5_readToken_0 (d : Nat) : 0 < d + HX5_readToken := Nat.lt_of_lt_of_le (by decide) (Nat.le_add_left _ d)
def lX5_readToken_0  : Nat → Mem → Option (Mem)
  | 0, _ => none
  | n + 1, σ => if (σ 143 1) ≤ (σ 143 2) then (some σ) else (gd (inb (σ 143 2) 600) (if (σ 2 (Int32.toNatClampNeg (σ 143 2))) = 32 then (lX5_readToken_0 n (st2 σ 143 2 ((σ 143 2) + 1))) else (gd (inb (σ 143 2) 600) (if (σ 2 (Int32.toNatClampNeg (σ 143 2))) = 10 then (lX5_readToken_0 n (st2 σ 143 2 ((σ 143 2) + 1))) else (some σ)))))
set_option maxRecDepth 20000 in
theorem lpX5_readToken_0 (G : GT) (d : Nat)   {K : Option Value → Mem → Prop} : ∀ (n : Nat) (σ : Mem) (o : Mem), lX5_readToken_0 n σ = some o → (Run G RX5 cX5_readToken 1 none (mF G (d + HX5_readToken) K) 52 [(0, .ref (gA G 143))] [] o) → Run G RX5 cX5_readToken 1 none (mF G (d + HX5_readToken) K) 0 [(0, .ref (gA G 143))] [] σ := by
  intro n
  induction n with
  | zero => intro σ o h; exact absurd h (by simp [lX5_readToken_0])
  | succ n ih =>
    intro σ o h kx
    rw [lX5_readToken_0] at h
    refine run_aload_n 0 dX5_readToken_0 rfl rfl ?_
    refine run_geti fl_X5_78 is_143 (by decide) rfl dX5_readToken_1 ?_
    refine run_aload_n 0 dX5_readToken_4 rfl rfl ?_
    refine run_geti fl_X5_75 is_143 (by decide) rfl dX5_readToken_5 ?_
    refine run_icmp_ge 52 dX5_readToken_8 (by decide) (fun c1 => ?_) (fun c1 => ?_)
    · rw [if_pos c1] at h
      rw [← Option.some.inj h] at kx
      exact kx
    · rw [if_neg c1] at h
      refine run_aload_n 0 dX5_readToken_11 rfl rfl ?_
      refine run_getr fl_X5_18 is_143 (by decide) rfl ce_143_0 dX5_readToken_12 ?_
      refine run_aload_n 0 dX5_readToken_15 rfl rfl ?_
      refine run_geti fl_X5_78 is_143 (by decide) rfl dX5_readToken_16 ?_
      obtain ⟨g2, h⟩ := gd_s h
      refine run_bald' is_2 ln_2 g2 rfl dX5_readToken_19 ?_
      refine run_bipush (v := 32) dX5_readToken_20 rfl ?_
      refine run_icmp_eq 39 dX5_readToken_22 (by decide) (fun c3 => ?_) (fun c3 => ?_)
      · rw [if_pos c3] at h
        refine run_aload_n 0 dX5_readToken_39 rfl rfl ?_
        refine run_dup dX5_readToken_40 rfl ?_
        refine run_geti fl_X5_78 is_143 (by decide) rfl dX5_readToken_41 ?_
        refine run_iconst (v := 1) dX5_readToken_44 rfl ?_
        refine run_iadd dX5_readToken_45 ?_
        refine run_puti fp_X5_78 is_143 (by decide) rfl dX5_readToken_46 ?_
        refine run_goto 0 dX5_readToken_49 (by decide) ?_
        exact ih _ _ h kx
      · rw [if_neg c3] at h
        refine run_aload_n 0 dX5_readToken_25 rfl rfl ?_
        refine run_getr fl_X5_18 is_143 (by decide) rfl ce_143_0 dX5_readToken_26 ?_
        refine run_aload_n 0 dX5_readToken_29 rfl rfl ?_
        refine run_geti fl_X5_78 is_143 (by decide) rfl dX5_readToken_30 ?_
        obtain ⟨g4, h⟩ := gd_s h
        refine run_bald' is_2 ln_2 g4 rfl dX5_readToken_33 ?_
        refine run_bipush (v := 10) dX5_readToken_34 rfl ?_
        refine run_icmp_ne 52 dX5_readToken_36 (by decide) (fun c5 => ?_) (fun c5 => ?_)
        · rw [if_neg c5] at h
          rw [← Option.some.inj h] at kx
          exact kx
        · rw [if_pos c5] at h
          refine run_aload_n 0 dX5_readToken_39 rfl rfl ?_
          refine run_dup dX5_readToken_40 rfl ?_
          refine run_geti fl_X5_78 is_143 (by decide) rfl dX5_readToken_41 ?_
          refine run_iconst (v := 1) dX5_readToken_44 rfl ?_
          refine run_iadd dX5_readToken_45 ?_
          refine run_puti fp_X5_78 is_143 (by decide) rfl dX5_readToken_46 ?_
          refine run_goto 0 dX5_readToken_49 (by decide) ?_
          exact ih _ _ h kx
def jX5_readToken_52  (σ : Mem) : Option Mem := if ((st2 σ 143 4 (σ 143 2)) 143 2) < ((st2 σ 143 4 (σ 143 2)) 143 1) then ((fX5_isLetter ((st2 σ 143 4 (σ 143 2)) 143 2) (st2 σ 143 4 (σ 143 2))).bind fun q8 => if q8.1 = true then ((fX5_readWord q8.2).bind fun q19 => some q19) else ((fX5_isDigit (q8.2 143 2) q8.2).bind fun q10 => if q10.1 = true then ((fX5_readNumber q10.2).bind fun q16 => some q16) else (gd (inb (q10.2 143 2) 600) ((if (q10.2 2 (Int32.toNatClampNeg (q10.2 143 2))) = 59 then (some 3) else (some 4) : Option (Int32)).bind fun q14 => some (st2 (st2 q10.2 143 3 q14) 143 2 (((st2 q10.2 143 3 q14) 143 2) + 1)))))) else (some (st2 (st2 σ 143 4 (σ 143 2)) 143 3 0))
set_option maxRecDepth 20000 in
theorem jnX5_readToken_52 (G : GT) (d : Nat)   (σ : Mem) (o : Mem) (h : jX5_readToken_52 σ = some o) : Run G RX5 cX5_readToken 1 none (mF G (d + HX5_readToken) (kV fun z => z = o)) 52 [(0, .ref (gA G 143))] [] σ := by
  unfold jX5_readToken_52 at h
  refine run_aload_n 0 dX5_readToken_52 rfl rfl ?_
  refine run_aload_n 0 dX5_readToken_53 rfl rfl ?_
  refine run_geti fl_X5_78 is_143 (by decide) rfl dX5_readToken_54 ?_
  refine run_puti fp_X5_50 is_143 (by decide) rfl dX5_readToken_57 ?_
  refine run_aload_n 0 dX5_readToken_60 rfl rfl ?_
  refine run_geti fl_X5_78 is_143 (by decide) rfl dX5_readToken_61 ?_
  refine run_aload_n 0 dX5_readToken_64 rfl rfl ?_
  refine run_geti fl_X5_75 is_143 (by decide) rfl dX5_readToken_65 ?_
  refine run_icmp_lt 79 dX5_readToken_68 (by decide) (fun c7 => ?_) (fun c7 => ?_)
  · rw [if_pos c7] at h
    refine run_aload_n 0 dX5_readToken_79 rfl rfl ?_
    refine run_aload_n 0 dX5_readToken_80 rfl rfl ?_
    refine run_geti fl_X5_78 is_143 (by decide) rfl dX5_readToken_81 ?_
    obtain ⟨q8, h21, h⟩ := Option.bind_eq_some_iff.mp h
    refine run_callVb (As := [.int ((st2 σ 143 4 (σ 143 2)) 143 2)]) (fun r z => (r, z) = q8) mw_X5_isLetter mi_X5_isLetter ml_X5_116 is_143 (by decide) rfl rfl rfl (RF.lt (HX5_readToken_X5_isLetter_lt d)) (Nat.le_of_ble_eq_true rfl) dX5_readToken_84 (sX5_isLetter G d  h21) (fun r z h8 => ?_) rfl
    rw [show r = q8.1 from congrArg Prod.fst h8, show z = q8.2 from congrArg Prod.snd h8]
    clear h8
    refine run_ifb_eq 97 dX5_readToken_87 (by decide) (fun c9 => ?_) (fun c9 => ?_)
    · rw [if_neg c9] at h
      refine run_aload_n 0 dX5_readToken_97 rfl rfl ?_
      refine run_aload_n 0 dX5_readToken_98 rfl rfl ?_
      refine run_geti fl_X5_78 is_143 (by decide) rfl dX5_readToken_99 ?_
      obtain ⟨q10, h18, h⟩ := Option.bind_eq_some_iff.mp h
      refine run_callVb (As := [.int (q8.2 143 2)]) (fun r z => (r, z) = q10) mw_X5_isDigit mi_X5_isDigit ml_X5_122 is_143 (by decide) rfl rfl rfl (RF.lt (HX5_readToken_X5_isDigit_lt d)) (Nat.le_of_ble_eq_true rfl) dX5_readToken_102 (sX5_isDigit G d  h18) (fun r z h8 => ?_) rfl
      rw [show r = q10.1 from congrArg Prod.fst h8, show z = q10.2 from congrArg Prod.snd h8]
      clear h8
      refine run_ifb_eq 115 dX5_readToken_105 (by decide) (fun c11 => ?_) (fun c11 => ?_)
      · rw [if_neg c11] at h
        refine run_aload_n 0 dX5_readToken_115 rfl rfl ?_
        refine run_aload_n 0 dX5_readToken_116 rfl rfl ?_
        refine run_getr fl_X5_18 is_143 (by decide) rfl ce_143_0 dX5_readToken_117 ?_
        refine run_aload_n 0 dX5_readToken_120 rfl rfl ?_
        refine run_geti fl_X5_78 is_143 (by decide) rfl dX5_readToken_121 ?_
        obtain ⟨g12, h⟩ := gd_s h
        refine run_bald' is_2 ln_2 g12 rfl dX5_readToken_124 ?_
        refine run_bipush (v := 59) dX5_readToken_125 rfl ?_
        obtain ⟨q14, h, h9⟩ := Option.bind_eq_some_iff.mp h
        have hj15 : Run G RX5 cX5_readToken 1 none (mF G (d + HX5_readToken) (kV fun z => z = o)) 135 [(0, .ref (gA G 143))] [.int q14, .ref (gA G 143)] q10.2 := by
          clear h
          have h := h9
          clear h9
          refine run_puti fp_X5_106 is_143 (by decide) rfl dX5_readToken_135 ?_
          refine run_aload_n 0 dX5_readToken_138 rfl rfl ?_
          refine run_dup dX5_readToken_139 rfl ?_
          refine run_geti fl_X5_78 is_143 (by decide) rfl dX5_readToken_140 ?_
          refine run_iconst (v := 1) dX5_readToken_143 rfl ?_
          refine run_iadd dX5_readToken_144 ?_
          refine run_puti fp_X5_78 is_143 (by decide) rfl dX5_readToken_145 ?_
          exact run_vret dX5_readToken_148 ⟨rfl, Option.some.inj h⟩
        clear h9
        refine run_icmp_ne 134 dX5_readToken_127 (by decide) (fun c13 => ?_) (fun c13 => ?_)
        · rw [if_neg c13] at h
          refine run_iconst (v := 4) dX5_readToken_134 rfl ?_
          rw [← Option.some.inj h] at hj15
          exact hj15
        · rw [if_pos c13] at h
          refine run_iconst (v := 3) dX5_readToken_130 rfl ?_
          refine run_goto 135 dX5_readToken_131 (by decide) ?_
          rw [← Option.some.inj h] at hj15
          exact hj15
      · rw [if_pos c11] at h
        refine run_aload_n 0 dX5_readToken_108 rfl rfl ?_
        obtain ⟨q16, h17, h⟩ := Option.bind_eq_some_iff.mp h
        refine run_callVv (As := []) (fun z => z = q16) mw_X5_readNumber mi_X5_readNumber ml_X5_125 is_143 (by decide) rfl rfl rfl (RF.lt (HX5_readToken_X5_readNumber_lt d)) (Nat.le_of_ble_eq_true rfl) dX5_readToken_109 (sX5_readNumber G d  h17) (fun z h8 => ?_) rfl
        rw [h8]
        clear h8
        refine run_goto 148 dX5_readToken_112 (by decide) ?_
        exact run_vret dX5_readToken_148 ⟨rfl, Option.some.inj h⟩
    · rw [if_pos c9] at h
      refine run_aload_n 0 dX5_readToken_90 rfl rfl ?_
      obtain ⟨q19, h20, h⟩ := Option.bind_eq_some_iff.mp h
      refine run_callVv (As := []) (fun z => z = q19) mw_X5_readWord mi_X5_readWord ml_X5_119 is_143 (by decide) rfl rfl rfl (RF.lt (HX5_readToken_X5_readWord_lt d)) (Nat.le_of_ble_eq_true rfl) dX5_readToken_91 (sX5_readWord G d  h20) (fun z h8 => ?_) rfl
      rw [h8]
      clear h8
      refine run_goto 148 dX5_readToken_94 (by decide) ?_
      exact run_vret dX5_readToken_148 ⟨rfl, Option.some.inj h⟩
  · rw [if_neg c7] at h
    refine run_aload_n 0 dX5_readToken_71 rfl rfl ?_
    refine run_iconst (v := 0) dX5_readToken_72 rfl ?_
    refine run_puti fp_X5_106 is_143 (by decide) rfl dX5_readToken_73 ?_
    refine run_goto 148 dX5_readToken_76 (by decide) ?_
    exact run_vret dX5_readToken_148 ⟨rfl, Option.some.inj h⟩
def fX5_readToken  (σ : Mem) : Option Mem := (lX5_readToken_0 FU σ).bind fun q6 => jX5_readToken_52 q6
set_option maxRecDepth 20000 in
theorem sX5_readToken (G : GT) (d : Nat)   {σ : Mem} {o : Mem} (h : fX5_readToken σ = some o) : Spec G yX5_readToken cX5_readToken 1 none (d + HX5_readToken) [.ref (gA G 143)] σ (kV fun z => z = o) := by
  refine spec_run (by decide) (Nat.le_of_ble_eq_true rfl) ?_
  unfold fX5_readToken at h
  show Run G RX5 cX5_readToken 1 none _ 0 [(0, .ref (gA G 143))] [] σ
  obtain ⟨q6, h22, h⟩ := Option.bind_eq_some_iff.mp h
  refine lpX5_readToken_0 G d _ _ _ h22 ?_
  exact jnX5_readToken_52 G d _ _ h
def HX6_gather : Nat := 4
theorem HX6_gather_X1_agrees_lt (d : Nat) : d + HX1_agrees < d + HX6_gather := Nat.add_lt_add_left (by decide) d
theorem HX6_gather_X3_recover_lt (d : Nat) : d + HX3_recover < d + HX6_gather := Nat.add_lt_add_left (by decide) d
theorem HX6_gather_0 (d : Nat) : 0 < d + HX6_gather := Nat.lt_of_lt_of_le (by decide) (Nat.le_add_left _ d)
def lX6_gather_7 (n2 : Nat) : Nat → Int32 → Mem → Option (Mem)
  | 0, _, _ => none
  | n + 1, x3, σ => if ((1 : Int32) <<< ((σ 146 2) &&& 31)) ≤ x3 then (some σ) else (if 16 ≤ (σ 246 3) then (some σ) else (gd (inb (σ 246 3) 16) ((fX3_recover x3 (249 + 1 * (Int32.toNatClampNeg (σ 246 3))) 265 σ).bind fun q13 => gd (inb (q13 246 3) 16) ((fX1_agrees n2 (249 + 1 * (Int32.toNatClampNeg (q13 246 3))) q13).bind fun q15 => (if q15.1 = true then (gd (inb (q15.2 246 3) 16) (some (st2 (st2 q15.2 247 (Int32.toNatClampNeg (q15.2 246 3)) x3) 246 3 (((st2 q15.2 247 (Int32.toNatClampNeg (q15.2 246 3)) x3) 246 3) + 1)))) else (some q15.2) : Option (Mem)).bind fun q18 => lX6_gather_7 n2 n (x3 + 1) q18))))
set_option maxRecDepth 20000 in
theorem lpX6_gather_7 (G : GT) (d : Nat) (n2 : Nat) (hn2 : Is n2 1) {K : Option Value → Mem → Prop} : ∀ (n : Nat) (x3 : Int32) (σ : Mem) (o : Mem), lX6_gather_7 n2 n x3 σ = some o → (Run G RX6 cX6_gather 4 none (mF G (d + HX6_gather) K) 86 [] [] o) → Run G RX6 cX6_gather 4 none (mF G (d + HX6_gather) K) 7 [(0, .ref (gA G 246)), (1, .ref (gA G 146)), (2, .ref (gA G n2)), (3, .int x3)] [] σ := by
  intro n
  induction n with
  | zero => intro x3 σ o h; exact absurd h (by simp [lX6_gather_7])
  | succ n ih =>
    intro x3 σ o h kx
    rw [lX6_gather_7] at h
    refine run_iload_n 3 dX6_gather_7 rfl rfl ?_
    refine run_iconst (v := 1) dX6_gather_8 rfl ?_
    refine run_aload_n 1 dX6_gather_9 rfl rfl ?_
    refine run_geti fl_X6_27 is_146 (by decide) rfl dX6_gather_10 ?_
    refine run_ishl dX6_gather_13 ?_
    refine run_icmp_ge 86 dX6_gather_14 (by decide) (fun c10 => ?_) (fun c10 => ?_)
    · rw [if_pos c10] at h
      rw [← Option.some.inj h] at kx
      refine run_forget [] rfl ?_
      exact kx
    · rw [if_neg c10] at h
      refine run_aload_n 0 dX6_gather_17 rfl rfl ?_
      refine run_geti fl_X6_23 is_246 (by decide) rfl dX6_gather_18 ?_
      refine run_bipush (v := 16) dX6_gather_21 rfl ?_
      refine run_icmp_ge 86 dX6_gather_23 (by decide) (fun c11 => ?_) (fun c11 => ?_)
      · rw [if_pos c11] at h
        rw [← Option.some.inj h] at kx
        refine run_forget [] rfl ?_
        exact kx
      · rw [if_neg c11] at h
        refine run_aload_n 1 dX6_gather_26 rfl rfl ?_
        refine run_iload_n 3 dX6_gather_27 rfl rfl ?_
        refine run_aload_n 0 dX6_gather_28 rfl rfl ?_
        refine run_getr fl_X6_17 is_246 (by decide) rfl ce_246_1 dX6_gather_29 ?_
        refine run_aload_n 0 dX6_gather_32 rfl rfl ?_
        refine run_geti fl_X6_23 is_246 (by decide) rfl dX6_gather_33 ?_
        obtain ⟨g12, h⟩ := gd_s h
        refine run_aaldI' (j := (Int32.toNatClampNeg (σ 246 3))) is_248 ln_248 g12 rfl (es_248 _) dX6_gather_36 ?_
        refine run_aload_n 0 dX6_gather_37 rfl rfl ?_
        refine run_getr fl_X6_20 is_246 (by decide) rfl ce_246_2 dX6_gather_38 ?_
        obtain ⟨q13, h21, h⟩ := Option.bind_eq_some_iff.mp h
        refine run_callVv (As := [.int x3, .ref (gA G (249 + 1 * (Int32.toNatClampNeg (σ 246 3)))), .ref (gA G 265)]) (fun z => z = q13) mw_X3_recover mi_X3_recover ml_X6_32 is_146 (by decide) rfl rfl rfl (RF.lt (HX6_gather_X3_recover_lt d)) (Nat.le_of_ble_eq_true rfl) dX6_gather_41 (sX3_recover G d (el_248 (inb_lt g12)) (ell_248 (inb_lt g12)) is_265 ln_265 h21) (fun z h8 => ?_) rfl
        rw [h8]
        clear h8
        refine run_aload_n 2 dX6_gather_44 rfl rfl ?_
        refine run_aload_n 0 dX6_gather_45 rfl rfl ?_
        refine run_getr fl_X6_17 is_246 (by decide) rfl ce_246_1 dX6_gather_46 ?_
        refine run_aload_n 0 dX6_gather_49 rfl rfl ?_
        refine run_geti fl_X6_23 is_246 (by decide) rfl dX6_gather_50 ?_
        obtain ⟨g14, h⟩ := gd_s h
        refine run_aaldI' (j := (Int32.toNatClampNeg (q13 246 3))) is_248 ln_248 g14 rfl (es_248 _) dX6_gather_53 ?_
        obtain ⟨q15, h20, h⟩ := Option.bind_eq_some_iff.mp h
        refine run_callVb (As := [.ref (gA G (249 + 1 * (Int32.toNatClampNeg (q13 246 3))))]) (fun r z => (r, z) = q15) mw_X1_agrees mi_X1_agrees ml_X6_36 hn2 (by decide) rfl rfl rfl (RF.lt (HX6_gather_X1_agrees_lt d)) (Nat.le_of_ble_eq_true rfl) dX6_gather_54 (sX1_agrees G d hn2 (el_248 (inb_lt g14)) (ell_248 (inb_lt g14)) h20) (fun r z h8 => ?_) rfl
        rw [show r = q15.1 from congrArg Prod.fst h8, show z = q15.2 from congrArg Prod.snd h8]
        clear h8
        obtain ⟨q18, h, h9⟩ := Option.bind_eq_some_iff.mp h
        have hj19 : Run G RX6 cX6_gather 4 none (mF G (d + HX6_gather) K) 80 [(0, .ref (gA G 246)), (1, .ref (gA G 146)), (2, .ref (gA G n2)), (3, .int x3)] [] q18 := by
          clear h
          have h := h9
          clear h9
          refine run_iinc 3 [(0, .ref (gA G 246)), (1, .ref (gA G 146)), (2, .ref (gA G n2)), (3, .int (x3 + 1))] [1, 2, 3, 0] dX6_gather_80 rfl rfl (by decide) rfl ?_
          refine run_goto 7 dX6_gather_83 (by decide) ?_
          exact ih _ _ _ h kx
        clear h9
        refine run_ifb_eq 80 dX6_gather_57 (by decide) (fun c16 => ?_) (fun c16 => ?_)
        · rw [if_neg c16] at h
          rw [← Option.some.inj h] at hj19
          exact hj19
        · rw [if_pos c16] at h
          refine run_aload_n 0 dX6_gather_60 rfl rfl ?_
          refine run_getr fl_X6_9 is_246 (by decide) rfl ce_246_0 dX6_gather_61 ?_
          refine run_aload_n 0 dX6_gather_64 rfl rfl ?_
          refine run_geti fl_X6_23 is_246 (by decide) rfl dX6_gather_65 ?_
          refine run_iload_n 3 dX6_gather_68 rfl rfl ?_
          obtain ⟨g17, h⟩ := gd_s h
          refine run_iast' is_247 ln_247 g17 rfl dX6_gather_69 ?_
          refine run_aload_n 0 dX6_gather_70 rfl rfl ?_
          refine run_dup dX6_gather_71 rfl ?_
          refine run_geti fl_X6_23 is_246 (by decide) rfl dX6_gather_72 ?_
          refine run_iconst (v := 1) dX6_gather_75 rfl ?_
          refine run_iadd dX6_gather_76 ?_
          refine run_puti fp_X6_23 is_246 (by decide) rfl dX6_gather_77 ?_
          rw [← Option.some.inj h] at hj19
          exact hj19
def fX6_gather (n2 : Nat) (σ : Mem) : Option Mem := (lX6_gather_7 n2 FU 0 (st2 σ 246 3 0)).bind fun q22 => some q22
set_option maxRecDepth 20000 in
theorem sX6_gather (G : GT) (d : Nat) {n2 : Nat} (hn2 : Is n2 1) {σ : Mem} {o : Mem} (h : fX6_gather n2 σ = some o) : Spec G yX6_gather cX6_gather 4 none (d + HX6_gather) [.ref (gA G 246), .ref (gA G 146), .ref (gA G n2)] σ (kV fun z => z = o) := by
  refine spec_run (by decide) (Nat.le_of_ble_eq_true rfl) ?_
  unfold fX6_gather at h
  show Run G RX6 cX6_gather 4 none _ 0 [(0, .ref (gA G 246)), (1, .ref (gA G 146)), (2, .ref (gA G n2))] [] σ
  refine run_aload_n 0 dX6_gather_0 rfl rfl ?_
  refine run_iconst (v := 0) dX6_gather_1 rfl ?_
  refine run_puti fp_X6_23 is_246 (by decide) rfl dX6_gather_2 ?_
  refine run_iconst (v := 0) dX6_gather_5 rfl ?_
  refine run_istore_n [(0, .ref (gA G 246)), (1, .ref (gA G 146)), (2, .ref (gA G n2)), (3, .int 0)] [1, 2, 3, 0] dX6_gather_6 rfl (by decide) rfl ?_
  obtain ⟨q22, h23, h⟩ := Option.bind_eq_some_iff.mp h
  refine lpX6_gather_7 G d _ hn2 _ _ _ _ h23 ?_
  exact run_vret dX6_gather_86 ⟨rfl, Option.some.inj h⟩
def HX10_reset : Nat := 3
theorem HX10_reset_X10_rest_lt (d : Nat) : d + HX10_rest < d + HX10_reset := Nat.add_lt_add_left (by decide) d
theorem HX10_reset_0 (d : Nat) : 0 < d + HX10_reset := Nat.lt_of_lt_of_le (by decide) (Nat.le_add_left _ d)
def fX10_reset (n0 : Nat) (x1 : Int32) (σ : Mem) : Option Mem := (fX10_rest n0 σ).bind fun q1 => some (st2 (st2 q1 n0 4 0) n0 5 x1)
set_option maxRecDepth 20000 in
theorem sX10_reset (G : GT) (d : Nat) {n0 : Nat} {x1 : Int32} (hn0 : Is n0 10) {σ : Mem} {o : Mem} (h : fX10_reset n0 x1 σ = some o) : Spec G yX10_reset cX10_reset 2 none (d + HX10_reset) [.ref (gA G n0), .int x1] σ (kV fun z => z = o) := by
  refine spec_run (by decide) (Nat.le_of_ble_eq_true rfl) ?_
  unfold fX10_reset at h
  show Run G RX10 cX10_reset 2 none _ 0 [(0, .ref (gA G n0)), (1, .int x1)] [] σ
  refine run_aload_n 0 dX10_reset_0 rfl rfl ?_
  obtain ⟨q1, h2, h⟩ := Option.bind_eq_some_iff.mp h
  refine run_callVv (As := []) (fun z => z = q1) mw_X10_rest mi_X10_rest ml_X10_21 hn0 (by decide) rfl rfl rfl (RF.lt (HX10_reset_X10_rest_lt d)) (Nat.le_of_ble_eq_true rfl) dX10_reset_1 (sX10_rest G d hn0 h2) (fun z h8 => ?_) rfl
  rw [h8]
  clear h8
  refine run_aload_n 0 dX10_reset_4 rfl rfl ?_
  refine run_iconst (v := 0) dX10_reset_5 rfl ?_
  refine run_puti fp_X10_24 hn0 (by decide) rfl dX10_reset_6 ?_
  refine run_aload_n 0 dX10_reset_9 rfl rfl ?_
  refine run_iload_n 1 dX10_reset_10 rfl rfl ?_
  refine run_puti fp_X10_28 hn0 (by decide) rfl dX10_reset_11 ?_
  exact run_vret dX10_reset_14 ⟨rfl, Option.some.inj h⟩
def HX11_swaps : Nat := 4
theorem HX11_swaps_X11_runBoth_lt (d : Nat) : d + HX11_runBoth < d + HX11_swaps := Nat.add_lt_add_left (by decide) d
theorem HX11_swaps_X11_sameKeys_lt (d : Nat) : d + HX11_sameKeys < d + HX11_swaps := Nat.add_lt_add_left (by decide) d
theorem HX11_swaps_X9_has_lt (d : Nat) : d + HX9_has < d + HX11_swaps := Nat.add_lt_add_left (by decide) d
theorem HX11_swaps_0 (d : Nat) : 0 < d + HX11_swaps := Nat.lt_of_lt_of_le (by decide) (Nat.le_add_left _ d)
def lX11_swaps_57 (x1 : Int32) (n3 : Nat) (x5 : Int32) : Nat → Int32 → Int32 → Mem → Option (Int32 × Mem)
  | 0, _, _, _ => none
  | n + 1, x4, x6, σ => if (σ n3 0) ≤ x6 then (some (x4, σ)) else (gd (inb x1 2) ((fX11_runBoth (8 + 14 * (Int32.toNatClampNeg x1)) n3 x5 x6 267 σ).bind fun q31 => gd (inb x1 2) ((fX11_runBoth (8 + 14 * (Int32.toNatClampNeg x1)) n3 x6 x5 268 q31).bind fun q33 => (fX11_sameKeys 267 268 q33).bind fun q34 => (if q34.1 = true then (some (x4 + 1)) else (some x4) : Option (Int32)).bind fun q36 => lX11_swaps_57 x1 n3 x5 n q36 (x6 + 1) q34.2)))
set_option maxRecDepth 20000 in
theorem lpX11_swaps_57 (G : GT) (d : Nat) (x1 : Int32) (n3 : Nat) (x5 : Int32) (hn3 : Is n3 8) {K : Option Value → Mem → Prop} : ∀ (n : Nat) (x4 : Int32) (x6 : Int32) (σ : Mem) (o : Int32 × Mem), lX11_swaps_57 x1 n3 x5 n x4 x6 σ = some o → (Run G RX11 cX11_swaps 7 (some .int) (mF G (d + HX11_swaps) K) 131 [(0, .ref (gA G 0)), (1, .int x1), (3, .ref (gA G n3)), (4, .int (o.1)), (5, .int x5)] [] (o.2)) → Run G RX11 cX11_swaps 7 (some .int) (mF G (d + HX11_swaps) K) 57 [(0, .ref (gA G 0)), (1, .int x1), (3, .ref (gA G n3)), (4, .int x4), (5, .int x5), (6, .int x6)] [] σ := by
  intro n
  induction n with
  | zero => intro x4 x6 σ o h; exact absurd h (by simp [lX11_swaps_57])
  | succ n ih =>
    intro x4 x6 σ o h kx
    rw [lX11_swaps_57] at h
    refine run_iload 5 dX11_swaps_57 rfl ?_
    refine run_aload_n 2 dX11_swaps_59 rfl rfl ?_
    refine run_geti fl_X11_131 hn3 (by decide) rfl dX11_swaps_60 ?_
    refine run_icmp_ge 131 dX11_swaps_63 (by decide) (fun c29 => ?_) (fun c29 => ?_)
    · rw [if_pos c29] at h
      rw [← Option.some.inj h] at kx
      refine run_forget [0, 1, 2, 3, 4] rfl ?_
      exact kx
    · rw [if_neg c29] at h
      refine run_aload_n 0 dX11_swaps_66 rfl rfl ?_
      refine run_getr fl_X11_10 is_0 (by decide) rfl ce_0_0 dX11_swaps_67 ?_
      refine run_getr fl_X11_39 is_1 (by decide) rfl ce_1_5 dX11_swaps_70 ?_
      refine run_iload_n 1 dX11_swaps_73 rfl rfl ?_
      obtain ⟨g30, h⟩ := gd_s h
      refine run_aald' (j := (Int32.toNatClampNeg x1)) is_4 (by decide) (by decide) (t0 := 6) rfl ln_4 g30 rfl (es_4 _) dX11_swaps_74 ?_
      refine run_aload_n 2 dX11_swaps_75 rfl rfl ?_
      refine run_iload 4 dX11_swaps_76 rfl ?_
      refine run_iload 5 dX11_swaps_78 rfl ?_
      refine run_aload_n 0 dX11_swaps_80 rfl rfl ?_
      refine run_getr fl_X11_72 is_0 (by decide) rfl ce_0_8 dX11_swaps_81 ?_
      obtain ⟨q31, h40, h⟩ := Option.bind_eq_some_iff.mp h
      refine run_callSv (As := [.ref (gA G (8 + 14 * (Int32.toNatClampNeg x1))), .ref (gA G n3), .int x5, .int x6, .ref (gA G 267)]) (fun z => z = q31) mw_X11_runBoth ms_X11_runBoth ml_X11_274 rfl (RF.lt (HX11_swaps_X11_runBoth_lt d)) (Nat.le_of_ble_eq_true rfl) dX11_swaps_84 (sX11_runBoth G d (el_4 (inb_lt g30)) hn3 is_267 ln_267 h40) (fun z h8 => ?_) rfl
      rw [h8]
      clear h8
      refine run_aload_n 0 dX11_swaps_87 rfl rfl ?_
      refine run_getr fl_X11_10 is_0 (by decide) rfl ce_0_0 dX11_swaps_88 ?_
      refine run_getr fl_X11_39 is_1 (by decide) rfl ce_1_5 dX11_swaps_91 ?_
      refine run_iload_n 1 dX11_swaps_94 rfl rfl ?_
      obtain ⟨g32, h⟩ := gd_s h
      refine run_aald' (j := (Int32.toNatClampNeg x1)) is_4 (by decide) (by decide) (t0 := 6) rfl ln_4 g32 rfl (es_4 _) dX11_swaps_95 ?_
      refine run_aload_n 2 dX11_swaps_96 rfl rfl ?_
      refine run_iload 5 dX11_swaps_97 rfl ?_
      refine run_iload 4 dX11_swaps_99 rfl ?_
      refine run_aload_n 0 dX11_swaps_101 rfl rfl ?_
      refine run_getr fl_X11_75 is_0 (by decide) rfl ce_0_9 dX11_swaps_102 ?_
      obtain ⟨q33, h39, h⟩ := Option.bind_eq_some_iff.mp h
      refine run_callSv (As := [.ref (gA G (8 + 14 * (Int32.toNatClampNeg x1))), .ref (gA G n3), .int x6, .int x5, .ref (gA G 268)]) (fun z => z = q33) mw_X11_runBoth ms_X11_runBoth ml_X11_274 rfl (RF.lt (HX11_swaps_X11_runBoth_lt d)) (Nat.le_of_ble_eq_true rfl) dX11_swaps_105 (sX11_runBoth G d (el_4 (inb_lt g32)) hn3 is_268 ln_268 h39) (fun z h8 => ?_) rfl
      rw [h8]
      clear h8
      refine run_aload_n 0 dX11_swaps_108 rfl rfl ?_
      refine run_getr fl_X11_72 is_0 (by decide) rfl ce_0_8 dX11_swaps_109 ?_
      refine run_aload_n 0 dX11_swaps_112 rfl rfl ?_
      refine run_getr fl_X11_75 is_0 (by decide) rfl ce_0_9 dX11_swaps_113 ?_
      obtain ⟨q34, h38, h⟩ := Option.bind_eq_some_iff.mp h
      refine run_callSb (As := [.ref (gA G 267), .ref (gA G 268)]) (fun r z => (r, z) = q34) mw_X11_sameKeys ms_X11_sameKeys ml_X11_278 rfl (RF.lt (HX11_swaps_X11_sameKeys_lt d)) (Nat.le_of_ble_eq_true rfl) dX11_swaps_116 (sX11_sameKeys G d is_267 ln_267 is_268 ln_268 h38) (fun r z h8 => ?_) rfl
      rw [show r = q34.1 from congrArg Prod.fst h8, show z = q34.2 from congrArg Prod.snd h8]
      clear h8
      obtain ⟨q36, h, h9⟩ := Option.bind_eq_some_iff.mp h
      have hj37 : Run G RX11 cX11_swaps 7 (some .int) (mF G (d + HX11_swaps) K) 125 [(0, .ref (gA G 0)), (1, .int x1), (3, .ref (gA G n3)), (4, .int q36), (5, .int x5), (6, .int x6)] [] q34.2 := by
        clear h
        have h := h9
        clear h9
        refine run_iinc 5 [(0, .ref (gA G 0)), (1, .int x1), (3, .ref (gA G n3)), (4, .int q36), (5, .int x5), (6, .int (x6 + 1))] [1, 2, 3, 4, 5, 0] dX11_swaps_125 rfl rfl (by decide) rfl ?_
        refine run_goto 57 dX11_swaps_128 (by decide) ?_
        exact ih _ _ _ _ h kx
      clear h9
      refine run_ifb_eq 125 dX11_swaps_119 (by decide) (fun c35 => ?_) (fun c35 => ?_)
      · rw [if_neg c35] at h
        rw [← Option.some.inj h] at hj37
        exact hj37
      · rw [if_pos c35] at h
        refine run_iinc 3 [(0, .ref (gA G 0)), (1, .int x1), (3, .ref (gA G n3)), (4, .int (x4 + 1)), (5, .int x5), (6, .int x6)] [1, 2, 3, 0, 4, 5] dX11_swaps_122 rfl rfl (by decide) rfl ?_
        rw [← Option.some.inj h] at hj37
        exact hj37
def lX11_swaps_42 (x1 : Int32) (n3 : Nat) : Nat → Int32 → Int32 → Mem → Option (Int32 × Mem)
  | 0, _, _, _ => none
  | n + 1, x4, x5, σ => if (σ n3 0) ≤ x5 then (some (x4, σ)) else ((lX11_swaps_57 x1 n3 x5 FU x4 (x5 + 1) σ).bind fun q41 => lX11_swaps_42 x1 n3 n (q41.1) (x5 + 1) (q41.2))
set_option maxRecDepth 20000 in
theorem lpX11_swaps_42 (G : GT) (d : Nat) (x1 : Int32) (n3 : Nat) (hn3 : Is n3 8) {K : Option Value → Mem → Prop} : ∀ (n : Nat) (x4 : Int32) (x5 : Int32) (σ : Mem) (o : Int32 × Mem), lX11_swaps_42 x1 n3 n x4 x5 σ = some o → (Run G RX11 cX11_swaps 7 (some .int) (mF G (d + HX11_swaps) K) 137 [(4, .int (o.1))] [] (o.2)) → Run G RX11 cX11_swaps 7 (some .int) (mF G (d + HX11_swaps) K) 42 [(0, .ref (gA G 0)), (1, .int x1), (3, .ref (gA G n3)), (4, .int x4), (5, .int x5)] [] σ := by
  intro n
  induction n with
  | zero => intro x4 x5 σ o h; exact absurd h (by simp [lX11_swaps_42])
  | succ n ih =>
    intro x4 x5 σ o h kx
    rw [lX11_swaps_42] at h
    refine run_iload 4 dX11_swaps_42 rfl ?_
    refine run_aload_n 2 dX11_swaps_44 rfl rfl ?_
    refine run_geti fl_X11_131 hn3 (by decide) rfl dX11_swaps_45 ?_
    refine run_icmp_ge 137 dX11_swaps_48 (by decide) (fun c28 => ?_) (fun c28 => ?_)
    · rw [if_pos c28] at h
      rw [← Option.some.inj h] at kx
      refine run_forget [3] rfl ?_
      exact kx
    · rw [if_neg c28] at h
      refine run_iload 4 dX11_swaps_51 rfl ?_
      refine run_iconst (v := 1) dX11_swaps_53 rfl ?_
      refine run_iadd dX11_swaps_54 ?_
      refine run_istore [(0, .ref (gA G 0)), (1, .int x1), (3, .ref (gA G n3)), (4, .int x4), (5, .int x5), (6, .int (x5 + 1))] [1, 2, 3, 4, 5, 0] dX11_swaps_55 (by decide) rfl ?_
      obtain ⟨q41, h42, h⟩ := Option.bind_eq_some_iff.mp h
      refine lpX11_swaps_57 G d _ _ _ hn3 _ _ _ _ _ h42 ?_
      refine run_iinc 4 [(0, .ref (gA G 0)), (1, .int x1), (3, .ref (gA G n3)), (4, .int (q41.1)), (5, .int (x5 + 1))] [1, 2, 3, 4, 0] dX11_swaps_131 rfl rfl (by decide) rfl ?_
      refine run_goto 42 dX11_swaps_134 (by decide) ?_
      exact ih _ _ _ _ h kx
def fX11_swaps (x1 : Int32) (x2 : Int32) (σ : Mem) : Option (Int32 × Mem) := (fX9_has 1 0 x1 σ).bind fun q1 => if q1.1 = true then ((fX9_has 1 1 x2 q1.2).bind fun q3 => if q3.1 = true then (gd (inb x2 2) ((lX11_swaps_42 x1 (10 + 14 * (Int32.toNatClampNeg x2)) FU 0 0 q3.2).bind fun q43 => some ((q43.1), (q43.2)))) else (some ((-1), q3.2))) else (some ((-1), q1.2))
set_option maxRecDepth 20000 in
theorem sX11_swaps (G : GT) (d : Nat) {x1 : Int32} {x2 : Int32}  {σ : Mem} {o : (Int32 × Mem)} (h : fX11_swaps x1 x2 σ = some o) : Spec G yX11_swaps cX11_swaps 7 (some .int) (d + HX11_swaps) [.ref (gA G 0), .int x1, .int x2] σ (kI fun x z => (x, z) = o) := by
  refine spec_run (by decide) (Nat.le_of_ble_eq_true rfl) ?_
  unfold fX11_swaps at h
  show Run G RX11 cX11_swaps 7 (some .int) _ 0 [(0, .ref (gA G 0)), (1, .int x1), (2, .int x2)] [] σ
  refine run_aload_n 0 dX11_swaps_0 rfl rfl ?_
  refine run_getr fl_X11_10 is_0 (by decide) rfl ce_0_0 dX11_swaps_1 ?_
  refine run_iconst (v := 0) dX11_swaps_4 rfl ?_
  refine run_iload_n 1 dX11_swaps_5 rfl rfl ?_
  obtain ⟨q1, h46, h⟩ := Option.bind_eq_some_iff.mp h
  refine run_callVb (As := [.int 0, .int x1]) (fun r z => (r, z) = q1) mw_X9_has mi_X9_has ml_X11_109 is_1 (by decide) rfl rfl rfl (RF.lt (HX11_swaps_X9_has_lt d)) (Nat.le_of_ble_eq_true rfl) dX11_swaps_6 (sX9_has G d is_1 h46) (fun r z h8 => ?_) rfl
  rw [show r = q1.1 from congrArg Prod.fst h8, show z = q1.2 from congrArg Prod.snd h8]
  clear h8
  refine run_ifb_eq 24 dX11_swaps_9 (by decide) (fun c2 => ?_) (fun c2 => ?_)
  · rw [if_neg c2] at h
    refine run_iconst (v := -1) dX11_swaps_24 rfl ?_
    exact run_iret dX11_swaps_25 ⟨_, rfl, Option.some.inj h⟩
  · rw [if_pos c2] at h
    refine run_aload_n 0 dX11_swaps_12 rfl rfl ?_
    refine run_getr fl_X11_10 is_0 (by decide) rfl ce_0_0 dX11_swaps_13 ?_
    refine run_iconst (v := 1) dX11_swaps_16 rfl ?_
    refine run_iload_n 2 dX11_swaps_17 rfl rfl ?_
    obtain ⟨q3, h45, h⟩ := Option.bind_eq_some_iff.mp h
    refine run_callVb (As := [.int 1, .int x2]) (fun r z => (r, z) = q3) mw_X9_has mi_X9_has ml_X11_109 is_1 (by decide) rfl rfl rfl (RF.lt (HX11_swaps_X9_has_lt d)) (Nat.le_of_ble_eq_true rfl) dX11_swaps_18 (sX9_has G d is_1 h45) (fun r z h8 => ?_) rfl
    rw [show r = q3.1 from congrArg Prod.fst h8, show z = q3.2 from congrArg Prod.snd h8]
    clear h8
    refine run_ifb_ne 26 dX11_swaps_21 (by decide) (fun c4 => ?_) (fun c4 => ?_)
    · rw [if_pos c4] at h
      refine run_aload_n 0 dX11_swaps_26 rfl rfl ?_
      refine run_getr fl_X11_10 is_0 (by decide) rfl ce_0_0 dX11_swaps_27 ?_
      refine run_getr fl_X11_43 is_1 (by decide) rfl ce_1_6 dX11_swaps_30 ?_
      refine run_iload_n 2 dX11_swaps_33 rfl rfl ?_
      obtain ⟨g5, h⟩ := gd_s h
      refine run_aald' (j := (Int32.toNatClampNeg x2)) is_5 (by decide) (by decide) (t0 := 7) rfl ln_5 g5 rfl (es_5 _) dX11_swaps_34 ?_
      refine run_astore_n [(0, .ref (gA G 0)), (1, .int x1), (3, .ref (gA G (10 + 14 * (Int32.toNatClampNeg x2))))] [1, 2, 0] dX11_swaps_35 rfl (by decide) rfl ?_
      refine run_iconst (v := 0) dX11_swaps_36 rfl ?_
      refine run_istore [(0, .ref (gA G 0)), (1, .int x1), (3, .ref (gA G (10 + 14 * (Int32.toNatClampNeg x2)))), (4, .int 0)] [1, 2, 3, 0] dX11_swaps_37 (by decide) rfl ?_
      refine run_iconst (v := 0) dX11_swaps_39 rfl ?_
      refine run_istore [(0, .ref (gA G 0)), (1, .int x1), (3, .ref (gA G (10 + 14 * (Int32.toNatClampNeg x2)))), (4, .int 0), (5, .int 0)] [1, 2, 3, 4, 0] dX11_swaps_40 (by decide) rfl ?_
      obtain ⟨q43, h44, h⟩ := Option.bind_eq_some_iff.mp h
      refine lpX11_swaps_42 G d _ _ (el_5 (inb_lt g5)) _ _ _ _ _ h44 ?_
      refine run_iload 0 dX11_swaps_137 rfl ?_
      exact run_iret dX11_swaps_139 ⟨_, rfl, Option.some.inj h⟩
    · rw [if_neg c4] at h
      refine run_iconst (v := -1) dX11_swaps_24 rfl ?_
      exact run_iret dX11_swaps_25 ⟨_, rfl, Option.some.inj h⟩
def HX0_tryOrders : Nat := 12
theorem HX0_tryOrders_X0_extend_lt (d : Nat) : d + HX0_extend + 8 < d + HX0_tryOrders := Nat.add_assoc d _ _ ▸ Nat.add_lt_add_left (by decide) d
theorem HX0_tryOrders_X11_copyKeys_lt (d : Nat) : d + HX11_copyKeys < d + HX0_tryOrders := Nat.add_lt_add_left (by decide) d
theorem HX0_tryOrders_0 (d : Nat) : 0 < d + HX0_tryOrders := Nat.lt_of_lt_of_le (by decide) (Nat.le_add_left _ d)
def fX0_tryOrders  (σ : Mem) : Option Mem := gd (isB (rfN ((st2 σ 234 5 0) 146 0)) 7) ((fX11_copyKeys ((rfN ((st2 σ 234 5 0) 146 0)) + 1) (237 + 1 * 0) (st2 σ 234 5 0)).bind fun q2 => (fX0_extend 8 0 0 q2).bind fun q3 => some q3)
set_option maxRecDepth 20000 in
theorem sX0_tryOrders (G : GT) (d : Nat)   {σ : Mem} {o : Mem} (h : fX0_tryOrders σ = some o) : Spec G yX0_tryOrders cX0_tryOrders 2 none (d + HX0_tryOrders) [.ref (gA G 234), .ref (gA G 146)] σ (kV fun z => z = o) := by
  refine spec_run (by decide) (Nat.le_of_ble_eq_true rfl) ?_
  unfold fX0_tryOrders at h
  show Run G RX0 cX0_tryOrders 2 none _ 0 [(0, .ref (gA G 234)), (1, .ref (gA G 146))] [] σ
  refine run_aload_n 0 dX0_tryOrders_0 rfl rfl ?_
  refine run_iconst (v := 0) dX0_tryOrders_1 rfl ?_
  refine run_puti fp_X0_57 is_234 (by decide) rfl dX0_tryOrders_2 ?_
  refine run_aload_n 1 dX0_tryOrders_5 rfl rfl ?_
  obtain ⟨g1, h⟩ := gd_s h
  refine run_getd fl_X0_60 is_146 (by decide) rfl dX0_tryOrders_6 ?_
  refine run_getr fl_X0_64 (isB_Is g1) (by decide) rfl (cs_7_2 (isB_Is g1)) dX0_tryOrders_9 ?_
  refine run_aload_n 0 dX0_tryOrders_12 rfl rfl ?_
  refine run_getr fl_X0_19 is_234 (by decide) rfl ce_234_2 dX0_tryOrders_13 ?_
  refine run_iconst (v := 0) dX0_tryOrders_16 rfl ?_
  refine run_aaldI' (j := 0) is_236 ln_236 (show inb 0 7 = true by decide) rfl (es_236 _) dX0_tryOrders_17 ?_
  obtain ⟨q2, h5, h⟩ := Option.bind_eq_some_iff.mp h
  refine run_callNv (As := [.ref (gA G ((rfN ((st2 σ 234 5 0) 146 0)) + 1)), .ref (gA G (237 + 1 * 0))]) (fun z => z = q2) mw_X11_copyKeys ms_X11_copyKeys mn_X0_69 rfl (RF.lt (HX0_tryOrders_X11_copyKeys_lt d)) (Nat.le_of_ble_eq_true rfl) dX0_tryOrders_18 (sX11_copyKeys G d (ch_7_2 (isB_Is g1)) (cl_7_2 (isB_Is g1)) (el_236 (inb_lt (show inb 0 7 = true by decide))) (ell_236 (inb_lt (show inb 0 7 = true by decide))) h5) (fun z h8 => ?_) rfl
  rw [h8]
  clear h8
  refine run_aload_n 0 dX0_tryOrders_21 rfl rfl ?_
  refine run_aload_n 1 dX0_tryOrders_22 rfl rfl ?_
  refine run_iconst (v := 0) dX0_tryOrders_23 rfl ?_
  refine run_iconst (v := 0) dX0_tryOrders_24 rfl ?_
  obtain ⟨q3, h4, h⟩ := Option.bind_eq_some_iff.mp h
  refine run_callVv (As := [.ref (gA G 146), .int 0, .int 0]) (fun z => z = q3) mw_X0_extend mi_X0_extend ml_X0_73 is_234 (by decide) rfl rfl rfl (RF.lt (HX0_tryOrders_X0_extend_lt d)) (Nat.le_of_ble_eq_true rfl) dX0_tryOrders_25 (sX0_extend G d 8  h4) (fun z h8 => ?_) rfl
  rw [h8]
  clear h8
  exact run_vret dX0_tryOrders_28 ⟨rfl, Option.some.inj h⟩
def HX3_start : Nat := 4
theorem HX3_start_J7_fill_53178_lt (d : Nat) : d + HJ7_fill_53178 < d + HX3_start := Nat.add_lt_add_left (by decide) d
theorem HX3_start_X10_reset_lt (d : Nat) : d + HX10_reset < d + HX3_start := Nat.add_lt_add_left (by decide) d
theorem HX3_start_X11_copyKeys_lt (d : Nat) : d + HX11_copyKeys < d + HX3_start := Nat.add_lt_add_left (by decide) d
theorem HX3_start_0 (d : Nat) : 0 < d + HX3_start := Nat.lt_of_lt_of_le (by decide) (Nat.le_add_left _ d)
def lX3_start_68  : Nat → Int32 → Mem → Option (Mem)
  | 0, _, _ => none
  | n + 1, x3, σ => if 4 ≤ x3 then (some σ) else (gd (inb x3 4) ((fX10_reset (158 + 4 * (Int32.toNatClampNeg x3)) 0 σ).bind fun q11 => lX3_start_68 n (x3 + 1) q11))
set_option maxRecDepth 20000 in
theorem lpX3_start_68 (G : GT) (d : Nat)   {K : Option Value → Mem → Prop} : ∀ (n : Nat) (x3 : Int32) (σ : Mem) (o : Mem), lX3_start_68 n x3 σ = some o → (Run G RX3 cX3_start 4 none (mF G (d + HX3_start) K) 89 [(0, .ref (gA G 146))] [] o) → Run G RX3 cX3_start 4 none (mF G (d + HX3_start) K) 68 [(0, .ref (gA G 146)), (3, .int x3)] [] σ := by
  intro n
  induction n with
  | zero => intro x3 σ o h; exact absurd h (by simp [lX3_start_68])
  | succ n ih =>
    intro x3 σ o h kx
    rw [lX3_start_68] at h
    refine run_iload_n 1 dX3_start_68 rfl rfl ?_
    refine run_iconst (v := 4) dX3_start_69 rfl ?_
    refine run_icmp_ge 89 dX3_start_70 (by decide) (fun c9 => ?_) (fun c9 => ?_)
    · rw [if_pos c9] at h
      rw [← Option.some.inj h] at kx
      refine run_forget [0] rfl ?_
      exact kx
    · rw [if_neg c9] at h
      refine run_aload_n 0 dX3_start_73 rfl rfl ?_
      refine run_getr fl_X3_29 is_146 (by decide) rfl ce_146_9 dX3_start_74 ?_
      refine run_iload_n 1 dX3_start_77 rfl rfl ?_
      obtain ⟨g10, h⟩ := gd_s h
      refine run_aald' (j := (Int32.toNatClampNeg x3)) is_152 (by decide) (by decide) (t0 := 9) rfl ln_152 g10 rfl (es_152 _) dX3_start_78 ?_
      refine run_iconst (v := 0) dX3_start_79 rfl ?_
      obtain ⟨q11, h12, h⟩ := Option.bind_eq_some_iff.mp h
      refine run_callVv (As := [.int 0]) (fun z => z = q11) mw_X10_reset mi_X10_reset ml_X3_82 (el_152 (inb_lt g10)) (by decide) rfl rfl rfl (RF.lt (HX3_start_X10_reset_lt d)) (Nat.le_of_ble_eq_true rfl) dX3_start_80 (sX10_reset G d (el_152 (inb_lt g10)) h12) (fun z h8 => ?_) rfl
      rw [h8]
      clear h8
      refine run_iinc 1 [(0, .ref (gA G 146)), (3, .int (x3 + 1))] [1, 0] dX3_start_83 rfl rfl (by decide) rfl ?_
      refine run_goto 68 dX3_start_86 (by decide) ?_
      exact ih _ _ _ h kx
def fX3_start (n1 : Nat) (n2 : Nat) (σ : Mem) : Option Mem := (fX11_copyKeys (n1 + 1) 147 (st2 (st2 (st2 (st2 σ 146 0 (nI n1)) 146 1 (nI n2)) 146 2 ((st2 (st2 σ 146 0 (nI n1)) 146 1 (nI n2)) n1 1)) 146 3 1)).bind fun q1 => (fJ7_fill_53178 148 10 0 q1).bind fun q2 => (fJ7_fill_53178 149 10 0 q2).bind fun q3 => (fJ7_fill_53178 150 10 (-1) q3).bind fun q4 => (fJ7_fill_53178 151 10 (-1) q4).bind fun q5 => (lX3_start_68 FU 0 q5).bind fun q13 => some (st2 (st2 (st2 (st2 (st2 q13 146 11 0) 146 12 0) 146 17 0) 146 18 0) 146 19 0)
set_option maxRecDepth 20000 in
theorem sX3_start (G : GT) (d : Nat) {n1 : Nat} {n2 : Nat} (hn1 : Is n1 7) (hn2 : Is n2 8) {σ : Mem} {o : Mem} (h : fX3_start n1 n2 σ = some o) : Spec G yX3_start cX3_start 4 none (d + HX3_start) [.ref (gA G 146), .ref (gA G n1), .ref (gA G n2)] σ (kV fun z => z = o) := by
  refine spec_run (by decide) (Nat.le_of_ble_eq_true rfl) ?_
  unfold fX3_start at h
  show Run G RX3 cX3_start 4 none _ 0 [(0, .ref (gA G 146)), (1, .ref (gA G n1)), (2, .ref (gA G n2))] [] σ
  refine run_aload_n 0 dX3_start_0 rfl rfl ?_
  refine run_aload_n 1 dX3_start_1 rfl rfl ?_
  refine run_putd fp_X3_51 is_146 (by decide) rfl (Is.lt31 hn1) dX3_start_2 ?_
  refine run_aload_n 0 dX3_start_5 rfl rfl ?_
  refine run_aload_n 2 dX3_start_6 rfl rfl ?_
  refine run_putd fp_X3_55 is_146 (by decide) rfl (Is.lt31 hn2) dX3_start_7 ?_
  refine run_aload_n 0 dX3_start_10 rfl rfl ?_
  refine run_aload_n 1 dX3_start_11 rfl rfl ?_
  refine run_geti fl_X3_61 hn1 (by decide) rfl dX3_start_12 ?_
  refine run_puti fp_X3_67 is_146 (by decide) rfl dX3_start_15 ?_
  refine run_aload_n 0 dX3_start_18 rfl rfl ?_
  refine run_iconst (v := 1) dX3_start_19 rfl ?_
  refine run_puti fp_X3_68 is_146 (by decide) rfl dX3_start_20 ?_
  refine run_aload_n 1 dX3_start_23 rfl rfl ?_
  refine run_getr fl_X3_71 hn1 (by decide) rfl (cs_7_2 hn1) dX3_start_24 ?_
  refine run_aload_n 0 dX3_start_27 rfl rfl ?_
  refine run_getr fl_X3_9 is_146 (by decide) rfl ce_146_4 dX3_start_28 ?_
  obtain ⟨q1, h19, h⟩ := Option.bind_eq_some_iff.mp h
  refine run_callNv (As := [.ref (gA G (n1 + 1)), .ref (gA G 147)]) (fun z => z = q1) mw_X11_copyKeys ms_X11_copyKeys mn_X3_72 rfl (RF.lt (HX3_start_X11_copyKeys_lt d)) (Nat.le_of_ble_eq_true rfl) dX3_start_31 (sX11_copyKeys G d (ch_7_2 hn1) (cl_7_2 hn1) is_147 ln_147 h19) (fun z h8 => ?_) rfl
  rw [h8]
  clear h8
  refine run_aload_n 0 dX3_start_34 rfl rfl ?_
  refine run_getr fl_X3_15 is_146 (by decide) rfl ce_146_5 dX3_start_35 ?_
  refine run_iconst (v := 0) dX3_start_38 rfl ?_
  obtain ⟨q2, h18, h⟩ := Option.bind_eq_some_iff.mp h
  refine run_callSv (As := [.ref (gA G 148), .int 0]) (fun z => z = q2) mw_J7_fill_53178 ms_J7_fill_53178 ml_X3_76 rfl (RF.lt (HX3_start_J7_fill_53178_lt d)) (Nat.le_of_ble_eq_true rfl) dX3_start_39 (sJ7_fill_53178 G d is_148 ln_148 (by decide) h18) (fun z h8 => ?_) rfl
  rw [h8]
  clear h8
  refine run_aload_n 0 dX3_start_42 rfl rfl ?_
  refine run_getr fl_X3_18 is_146 (by decide) rfl ce_146_6 dX3_start_43 ?_
  refine run_iconst (v := 0) dX3_start_46 rfl ?_
  obtain ⟨q3, h17, h⟩ := Option.bind_eq_some_iff.mp h
  refine run_callSv (As := [.ref (gA G 149), .int 0]) (fun z => z = q3) mw_J7_fill_53178 ms_J7_fill_53178 ml_X3_76 rfl (RF.lt (HX3_start_J7_fill_53178_lt d)) (Nat.le_of_ble_eq_true rfl) dX3_start_47 (sJ7_fill_53178 G d is_149 ln_149 (by decide) h17) (fun z h8 => ?_) rfl
  rw [h8]
  clear h8
  refine run_aload_n 0 dX3_start_50 rfl rfl ?_
  refine run_getr fl_X3_21 is_146 (by decide) rfl ce_146_7 dX3_start_51 ?_
  refine run_iconst (v := -1) dX3_start_54 rfl ?_
  obtain ⟨q4, h16, h⟩ := Option.bind_eq_some_iff.mp h
  refine run_callSv (As := [.ref (gA G 150), .int (-1)]) (fun z => z = q4) mw_J7_fill_53178 ms_J7_fill_53178 ml_X3_76 rfl (RF.lt (HX3_start_J7_fill_53178_lt d)) (Nat.le_of_ble_eq_true rfl) dX3_start_55 (sJ7_fill_53178 G d is_150 ln_150 (by decide) h16) (fun z h8 => ?_) rfl
  rw [h8]
  clear h8
  refine run_aload_n 0 dX3_start_58 rfl rfl ?_
  refine run_getr fl_X3_24 is_146 (by decide) rfl ce_146_8 dX3_start_59 ?_
  refine run_iconst (v := -1) dX3_start_62 rfl ?_
  obtain ⟨q5, h15, h⟩ := Option.bind_eq_some_iff.mp h
  refine run_callSv (As := [.ref (gA G 151), .int (-1)]) (fun z => z = q5) mw_J7_fill_53178 ms_J7_fill_53178 ml_X3_76 rfl (RF.lt (HX3_start_J7_fill_53178_lt d)) (Nat.le_of_ble_eq_true rfl) dX3_start_63 (sJ7_fill_53178 G d is_151 ln_151 (by decide) h15) (fun z h8 => ?_) rfl
  rw [h8]
  clear h8
  refine run_iconst (v := 0) dX3_start_66 rfl ?_
  refine run_istore_n [(0, .ref (gA G 146)), (3, .int 0)] [1, 0] dX3_start_67 rfl (by decide) rfl ?_
  obtain ⟨q13, h14, h⟩ := Option.bind_eq_some_iff.mp h
  refine lpX3_start_68 G d _ _ _ _ h14 ?_
  refine run_aload_n 0 dX3_start_89 rfl rfl ?_
  refine run_iconst (v := 0) dX3_start_90 rfl ?_
  refine run_puti fp_X3_86 is_146 (by decide) rfl dX3_start_91 ?_
  refine run_aload_n 0 dX3_start_94 rfl rfl ?_
  refine run_iconst (v := 0) dX3_start_95 rfl ?_
  refine run_puti fp_X3_89 is_146 (by decide) rfl dX3_start_96 ?_
  refine run_aload_n 0 dX3_start_99 rfl rfl ?_
  refine run_iconst (v := 0) dX3_start_100 rfl ?_
  refine run_puti fp_X3_92 is_146 (by decide) rfl dX3_start_101 ?_
  refine run_aload_n 0 dX3_start_104 rfl rfl ?_
  refine run_iconst (v := 0) dX3_start_105 rfl ?_
  refine run_puti fp_X3_95 is_146 (by decide) rfl dX3_start_106 ?_
  refine run_aload_n 0 dX3_start_109 rfl rfl ?_
  refine run_iconst (v := 0) dX3_start_110 rfl ?_
  refine run_puti fp_X3_98 is_146 (by decide) rfl dX3_start_111 ?_
  exact run_vret dX3_start_114 ⟨rfl, Option.some.inj h⟩
def HX3_breakDown : Nat := 4
theorem HX3_breakDown_J7_fill_53178_lt (d : Nat) : d + HJ7_fill_53178 < d + HX3_breakDown := Nat.add_lt_add_left (by decide) d
theorem HX3_breakDown_X10_reset_lt (d : Nat) : d + HX10_reset < d + HX3_breakDown := Nat.add_lt_add_left (by decide) d
theorem HX3_breakDown_X3_durableWith_lt (d : Nat) : d + HX3_durableWith < d + HX3_breakDown := Nat.add_lt_add_left (by decide) d
theorem HX3_breakDown_X3_linesLost_lt (d : Nat) : d + HX3_linesLost < d + HX3_breakDown := Nat.add_lt_add_left (by decide) d
theorem HX3_breakDown_X3_recover_lt (d : Nat) : d + HX3_recover < d + HX3_breakDown := Nat.add_lt_add_left (by decide) d
theorem HX3_breakDown_X3_survives_lt (d : Nat) : d + HX3_survives < d + HX3_breakDown := Nat.add_lt_add_left (by decide) d
theorem HX3_breakDown_0 (d : Nat) : 0 < d + HX3_breakDown := Nat.lt_of_lt_of_le (by decide) (Nat.le_add_left _ d)
def lX3_breakDown_31 (x1 : Int32) : Nat → Int32 → Mem → Option (Mem)
  | 0, _, _ => none
  | n + 1, x2, σ => if (σ 146 11) ≤ x2 then (some σ) else (gd (inb x2 30) (gd (inb x2 30) ((fX3_survives (174 + 2 * (Int32.toNatClampNeg x2)) 0 x1 σ).bind fun q12 => (if q12.1 = true then (some false) else (some true) : Option (Bool)).bind fun q14 => lX3_breakDown_31 x1 n (x2 + 1) (st2 q12.2 (174 + 2 * (Int32.toNatClampNeg x2)) 9 (b2 q14)))))
set_option maxRecDepth 20000 in
theorem lpX3_breakDown_31 (G : GT) (d : Nat) (x1 : Int32)  {K : Option Value → Mem → Prop} : ∀ (n : Nat) (x2 : Int32) (σ : Mem) (o : Mem), lX3_breakDown_31 x1 n x2 σ = some o → (Run G RX3 cX3_breakDown 3 none (mF G (d + HX3_breakDown) K) 73 [(0, .ref (gA G 146)), (1, .int x1)] [] o) → Run G RX3 cX3_breakDown 3 none (mF G (d + HX3_breakDown) K) 31 [(0, .ref (gA G 146)), (1, .int x1), (2, .int x2)] [] σ := by
  intro n
  induction n with
  | zero => intro x2 σ o h; exact absurd h (by simp [lX3_breakDown_31])
  | succ n ih =>
    intro x2 σ o h kx
    rw [lX3_breakDown_31] at h
    refine run_iload_n 2 dX3_breakDown_31 rfl rfl ?_
    refine run_aload_n 0 dX3_breakDown_32 rfl rfl ?_
    refine run_geti fl_X3_86 is_146 (by decide) rfl dX3_breakDown_33 ?_
    refine run_icmp_ge 73 dX3_breakDown_36 (by decide) (fun c9 => ?_) (fun c9 => ?_)
    · rw [if_pos c9] at h
      rw [← Option.some.inj h] at kx
      refine run_forget [0, 1] rfl ?_
      exact kx
    · rw [if_neg c9] at h
      refine run_aload_n 0 dX3_breakDown_39 rfl rfl ?_
      refine run_getr fl_X3_35 is_146 (by decide) rfl ce_146_10 dX3_breakDown_40 ?_
      refine run_iload_n 2 dX3_breakDown_43 rfl rfl ?_
      obtain ⟨g10, h⟩ := gd_s h
      refine run_aald' (j := (Int32.toNatClampNeg x2)) is_153 (by decide) (by decide) (t0 := 4) rfl ln_153 g10 rfl (es_153 _) dX3_breakDown_44 ?_
      refine run_aload_n 0 dX3_breakDown_45 rfl rfl ?_
      refine run_getr fl_X3_35 is_146 (by decide) rfl ce_146_10 dX3_breakDown_46 ?_
      refine run_iload_n 2 dX3_breakDown_49 rfl rfl ?_
      obtain ⟨g11, h⟩ := gd_s h
      refine run_aald' (j := (Int32.toNatClampNeg x2)) is_153 (by decide) (by decide) (t0 := 4) rfl ln_153 g11 rfl (es_153 _) dX3_breakDown_50 ?_
      refine run_iconst (v := 0) dX3_breakDown_51 rfl ?_
      refine run_iload_n 1 dX3_breakDown_52 rfl rfl ?_
      obtain ⟨q12, h16, h⟩ := Option.bind_eq_some_iff.mp h
      refine run_callSb (As := [.ref (gA G (174 + 2 * (Int32.toNatClampNeg x2))), .int 0, .int x1]) (fun r z => (r, z) = q12) mw_X3_survives ms_X3_survives ml_X3_165 rfl (RF.lt (HX3_breakDown_X3_survives_lt d)) (Nat.le_of_ble_eq_true rfl) dX3_breakDown_53 (sX3_survives G d (el_153 (inb_lt g11)) h16) (fun r z h8 => ?_) rfl
      rw [show r = q12.1 from congrArg Prod.fst h8, show z = q12.2 from congrArg Prod.snd h8]
      clear h8
      obtain ⟨q14, h, h9⟩ := Option.bind_eq_some_iff.mp h
      have hj15 : Run G RX3 cX3_breakDown 3 none (mF G (d + HX3_breakDown) K) 64 [(0, .ref (gA G 146)), (1, .int x1), (2, .int x2)] [.int (b2 q14), .ref (gA G (174 + 2 * (Int32.toNatClampNeg x2)))] q12.2 := by
        clear h
        have h := h9
        clear h9
        refine run_putz fp_X3_169 (el_153 (inb_lt g10)) (by decide) rfl (b2_01 q14) dX3_breakDown_64 ?_
        refine run_iinc 2 [(0, .ref (gA G 146)), (1, .int x1), (2, .int (x2 + 1))] [1, 2, 0] dX3_breakDown_67 rfl rfl (by decide) rfl ?_
        refine run_goto 31 dX3_breakDown_70 (by decide) ?_
        exact ih _ _ _ h kx
      clear h9
      refine run_ifb_ne 63 dX3_breakDown_56 (by decide) (fun c13 => ?_) (fun c13 => ?_)
      · rw [if_pos c13] at h
        refine run_iconst (v := 0) dX3_breakDown_63 rfl ?_
        rw [← Option.some.inj h] at hj15
        exact hj15
      · rw [if_neg c13] at h
        refine run_iconst (v := 1) dX3_breakDown_59 rfl ?_
        refine run_goto 64 dX3_breakDown_60 (by decide) ?_
        rw [← Option.some.inj h] at hj15
        exact hj15
def lX3_breakDown_96 (x1 : Int32) : Nat → Int32 → Mem → Option (Mem)
  | 0, _, _ => none
  | n + 1, x2, σ => if (σ 146 2) ≤ x2 then (some σ) else (gd (inb x2 4) (gd (inb x2 4) ((fX10_reset (158 + 4 * (Int32.toNatClampNeg x2)) x1 (st2 σ 146 17 ((σ 146 17) + (σ (158 + 4 * (Int32.toNatClampNeg x2)) 2)))).bind fun q27 => lX3_breakDown_96 x1 n (x2 + 1) q27)))
set_option maxRecDepth 20000 in
theorem lpX3_breakDown_96 (G : GT) (d : Nat) (x1 : Int32)  {K : Option Value → Mem → Prop} : ∀ (n : Nat) (x2 : Int32) (σ : Mem) (o : Mem), lX3_breakDown_96 x1 n x2 σ = some o → (Run G RX3 cX3_breakDown 3 none (mF G (d + HX3_breakDown) K) 138 [(0, .ref (gA G 146)), (1, .int x1)] [] o) → Run G RX3 cX3_breakDown 3 none (mF G (d + HX3_breakDown) K) 96 [(0, .ref (gA G 146)), (1, .int x1), (2, .int x2)] [] σ := by
  intro n
  induction n with
  | zero => intro x2 σ o h; exact absurd h (by simp [lX3_breakDown_96])
  | succ n ih =>
    intro x2 σ o h kx
    rw [lX3_breakDown_96] at h
    refine run_iload_n 2 dX3_breakDown_96 rfl rfl ?_
    refine run_aload_n 0 dX3_breakDown_97 rfl rfl ?_
    refine run_geti fl_X3_67 is_146 (by decide) rfl dX3_breakDown_98 ?_
    refine run_icmp_ge 138 dX3_breakDown_101 (by decide) (fun c24 => ?_) (fun c24 => ?_)
    · rw [if_pos c24] at h
      rw [← Option.some.inj h] at kx
      refine run_forget [0, 1] rfl ?_
      exact kx
    · rw [if_neg c24] at h
      refine run_aload_n 0 dX3_breakDown_104 rfl rfl ?_
      refine run_dup dX3_breakDown_105 rfl ?_
      refine run_geti fl_X3_92 is_146 (by decide) rfl dX3_breakDown_106 ?_
      refine run_aload_n 0 dX3_breakDown_109 rfl rfl ?_
      refine run_getr fl_X3_29 is_146 (by decide) rfl ce_146_9 dX3_breakDown_110 ?_
      refine run_iload_n 2 dX3_breakDown_113 rfl rfl ?_
      obtain ⟨g25, h⟩ := gd_s h
      refine run_aald' (j := (Int32.toNatClampNeg x2)) is_152 (by decide) (by decide) (t0 := 9) rfl ln_152 g25 rfl (es_152 _) dX3_breakDown_114 ?_
      refine run_geti fl_X3_115 (el_152 (inb_lt g25)) (by decide) rfl dX3_breakDown_115 ?_
      refine run_iadd dX3_breakDown_118 ?_
      refine run_puti fp_X3_92 is_146 (by decide) rfl dX3_breakDown_119 ?_
      refine run_aload_n 0 dX3_breakDown_122 rfl rfl ?_
      refine run_getr fl_X3_29 is_146 (by decide) rfl ce_146_9 dX3_breakDown_123 ?_
      refine run_iload_n 2 dX3_breakDown_126 rfl rfl ?_
      obtain ⟨g26, h⟩ := gd_s h
      refine run_aald' (j := (Int32.toNatClampNeg x2)) is_152 (by decide) (by decide) (t0 := 9) rfl ln_152 g26 rfl (es_152 _) dX3_breakDown_127 ?_
      refine run_iload_n 1 dX3_breakDown_128 rfl rfl ?_
      obtain ⟨q27, h28, h⟩ := Option.bind_eq_some_iff.mp h
      refine run_callVv (As := [.int x1]) (fun z => z = q27) mw_X10_reset mi_X10_reset ml_X3_82 (el_152 (inb_lt g26)) (by decide) rfl rfl rfl (RF.lt (HX3_breakDown_X10_reset_lt d)) (Nat.le_of_ble_eq_true rfl) dX3_breakDown_129 (sX10_reset G d (el_152 (inb_lt g26)) h28) (fun z h8 => ?_) rfl
      rw [h8]
      clear h8
      refine run_iinc 2 [(0, .ref (gA G 146)), (1, .int x1), (2, .int (x2 + 1))] [1, 2, 0] dX3_breakDown_132 rfl rfl (by decide) rfl ?_
      refine run_goto 96 dX3_breakDown_135 (by decide) ?_
      exact ih _ _ _ h kx
def fX3_breakDown  (σ : Mem) : Option Mem := (fX3_durableWith 0 σ).bind fun q1 => (fX3_linesLost (st2 q1.2 146 18 ((q1.2 146 18) + 1))).bind fun q2 => (lX3_breakDown_31 q1.1 FU 0 (st2 q2.2 146 19 (((st2 q1.2 146 18 ((q1.2 146 18) + 1)) 146 19) + q2.1))).bind fun q17 => (fX3_recover 0 147 148 q17).bind fun q18 => (fJ7_fill_53178 149 10 0 q18).bind fun q19 => (lX3_breakDown_96 q1.1 FU 0 q19).bind fun q29 => some (st2 q29 146 3 (q1.1 + 1))
set_option maxRecDepth 20000 in
theorem sX3_breakDown (G : GT) (d : Nat)   {σ : Mem} {o : Mem} (h : fX3_breakDown σ = some o) : Spec G yX3_breakDown cX3_breakDown 3 none (d + HX3_breakDown) [.ref (gA G 146)] σ (kV fun z => z = o) := by
  refine spec_run (by decide) (Nat.le_of_ble_eq_true rfl) ?_
  unfold fX3_breakDown at h
  show Run G RX3 cX3_breakDown 3 none _ 0 [(0, .ref (gA G 146))] [] σ
  refine run_aload_n 0 dX3_breakDown_0 rfl rfl ?_
  refine run_iconst (v := 0) dX3_breakDown_1 rfl ?_
  obtain ⟨q1, h35, h⟩ := Option.bind_eq_some_iff.mp h
  refine run_callVi (As := [.int 0]) (fun r z => (r, z) = q1) mw_X3_durableWith mi_X3_durableWith ml_X3_157 is_146 (by decide) rfl rfl rfl (RF.lt (HX3_breakDown_X3_durableWith_lt d)) (Nat.le_of_ble_eq_true rfl) dX3_breakDown_2 (sX3_durableWith G d  h35) (fun r z h8 => ?_) rfl
  rw [show r = q1.1 from congrArg Prod.fst h8, show z = q1.2 from congrArg Prod.snd h8]
  clear h8
  refine run_istore_n [(0, .ref (gA G 146)), (1, .int q1.1)] [1, 0] dX3_breakDown_5 rfl (by decide) rfl ?_
  refine run_aload_n 0 dX3_breakDown_6 rfl rfl ?_
  refine run_dup dX3_breakDown_7 rfl ?_
  refine run_geti fl_X3_95 is_146 (by decide) rfl dX3_breakDown_8 ?_
  refine run_iconst (v := 1) dX3_breakDown_11 rfl ?_
  refine run_iadd dX3_breakDown_12 ?_
  refine run_puti fp_X3_95 is_146 (by decide) rfl dX3_breakDown_13 ?_
  refine run_aload_n 0 dX3_breakDown_16 rfl rfl ?_
  refine run_dup dX3_breakDown_17 rfl ?_
  refine run_geti fl_X3_98 is_146 (by decide) rfl dX3_breakDown_18 ?_
  refine run_aload_n 0 dX3_breakDown_21 rfl rfl ?_
  obtain ⟨q2, h34, h⟩ := Option.bind_eq_some_iff.mp h
  refine run_callVi (As := []) (fun r z => (r, z) = q2) mw_X3_linesLost mi_X3_linesLost ml_X3_161 is_146 (by decide) rfl rfl rfl (RF.lt (HX3_breakDown_X3_linesLost_lt d)) (Nat.le_of_ble_eq_true rfl) dX3_breakDown_22 (sX3_linesLost G d  h34) (fun r z h8 => ?_) rfl
  rw [show r = q2.1 from congrArg Prod.fst h8, show z = q2.2 from congrArg Prod.snd h8]
  clear h8
  refine run_iadd dX3_breakDown_25 ?_
  refine run_puti fp_X3_98 is_146 (by decide) rfl dX3_breakDown_26 ?_
  refine run_iconst (v := 0) dX3_breakDown_29 rfl ?_
  refine run_istore_n [(0, .ref (gA G 146)), (1, .int q1.1), (2, .int 0)] [1, 2, 0] dX3_breakDown_30 rfl (by decide) rfl ?_
  obtain ⟨q17, h33, h⟩ := Option.bind_eq_some_iff.mp h
  refine lpX3_breakDown_31 G d _ _ _ _ _ h33 ?_
  refine run_aload_n 0 dX3_breakDown_73 rfl rfl ?_
  refine run_iconst (v := 0) dX3_breakDown_74 rfl ?_
  refine run_aload_n 0 dX3_breakDown_75 rfl rfl ?_
  refine run_getr fl_X3_9 is_146 (by decide) rfl ce_146_4 dX3_breakDown_76 ?_
  refine run_aload_n 0 dX3_breakDown_79 rfl rfl ?_
  refine run_getr fl_X3_15 is_146 (by decide) rfl ce_146_5 dX3_breakDown_80 ?_
  obtain ⟨q18, h32, h⟩ := Option.bind_eq_some_iff.mp h
  refine run_callVv (As := [.int 0, .ref (gA G 147), .ref (gA G 148)]) (fun z => z = q18) mw_X3_recover mi_X3_recover ml_X3_172 is_146 (by decide) rfl rfl rfl (RF.lt (HX3_breakDown_X3_recover_lt d)) (Nat.le_of_ble_eq_true rfl) dX3_breakDown_83 (sX3_recover G d is_147 ln_147 is_148 ln_148 h32) (fun z h8 => ?_) rfl
  rw [h8]
  clear h8
  refine run_aload_n 0 dX3_breakDown_86 rfl rfl ?_
  refine run_getr fl_X3_18 is_146 (by decide) rfl ce_146_6 dX3_breakDown_87 ?_
  refine run_iconst (v := 0) dX3_breakDown_90 rfl ?_
  obtain ⟨q19, h31, h⟩ := Option.bind_eq_some_iff.mp h
  refine run_callSv (As := [.ref (gA G 149), .int 0]) (fun z => z = q19) mw_J7_fill_53178 ms_J7_fill_53178 ml_X3_76 rfl (RF.lt (HX3_breakDown_J7_fill_53178_lt d)) (Nat.le_of_ble_eq_true rfl) dX3_breakDown_91 (sJ7_fill_53178 G d is_149 ln_149 (by decide) h31) (fun z h8 => ?_) rfl
  rw [h8]
  clear h8
  refine run_iconst (v := 0) dX3_breakDown_94 rfl ?_
  refine run_istore_n [(0, .ref (gA G 146)), (1, .int q1.1), (2, .int 0)] [1, 2, 0] dX3_breakDown_95 rfl (by decide) rfl ?_
  obtain ⟨q29, h30, h⟩ := Option.bind_eq_some_iff.mp h
  refine lpX3_breakDown_96 G d _ _ _ _ _ h30 ?_
  refine run_aload_n 0 dX3_breakDown_138 rfl rfl ?_
  refine run_iload_n 1 dX3_breakDown_139 rfl rfl ?_
  refine run_iconst (v := 1) dX3_breakDown_140 rfl ?_
  refine run_iadd dX3_breakDown_141 ?_
  refine run_puti fp_X3_68 is_146 (by decide) rfl dX3_breakDown_142 ?_
  exact run_vret dX3_breakDown_145 ⟨rfl, Option.some.inj h⟩
