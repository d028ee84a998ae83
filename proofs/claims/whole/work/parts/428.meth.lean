/-! methods, translated -/
theorem is_145 : Is 145 14 := by unfold Is; decide +kernel
theorem ln_145 : ln 145 = 2 := by decide +kernel
theorem ce_143_10 : sp 143 10 = 145 := by decide +kernel
def HX5_judgeLine : Nat := 2
theorem HX5_judgeLine_X5_blame_lt (d : Nat) : d + HX5_blame < d + HX5_judgeLine := Nat.add_lt_add_left (by decide) d
theorem HX5_judgeLine_X5_isScanBackwards_lt (d : Nat) : d + HX5_isScanBackwards < d + HX5_judgeLine := Nat.add_lt_add_left (by decide) d
theorem HX5_judgeLine_X5_isTooMuch_lt (d : Nat) : d + HX5_isTooMuch < d + HX5_judgeLine := Nat.add_lt_add_left (by decide) d
theorem HX5_judgeLine_0 (d : Nat) : 0 < d + HX5_judgeLine := Nat.lt_of_lt_of_le (by decide) (Nat.le_add_left _ d)
def jX5_judgeLine_79  (σ : Mem) : Option Mem := gd (inb (σ 143 7) 19) (if (saV 1 (Int32.toNatClampNeg (σ 143 7))) ≤ 1 then (some σ) else (gd (inb (σ 143 7) 19) (if (saV 4 (Int32.toNatClampNeg (σ 143 7))) < (σ 144 1) then ((fX5_blame 2 (σ 145 1) σ).bind fun q15 => some q15) else ((fX5_isScanBackwards σ).bind fun q17 => if q17.1 = true then ((fX5_blame 2 (q17.2 145 1) q17.2).bind fun q19 => some q19) else (some q17.2)))))
set_option maxRecDepth 20000 in
theorem jnX5_judgeLine_79 (G : GT) (d : Nat)   (σ : Mem) (o : Mem) (h : jX5_judgeLine_79 σ = some o) : Run G RX5 cX5_judgeLine 2 none (mF G (d + HX5_judgeLine) (kV fun z => z = o)) 79 [(0, .ref (gA G 143))] [] σ := by
  unfold jX5_judgeLine_79 at h
  refine run_getT 1 (sa_1 G) fn_X5_87 dX5_judgeLine_79 (fun a7 ha8 => ?_)
  refine run_aload_n 0 dX5_judgeLine_82 rfl rfl ?_
  refine run_geti fl_X5_62 is_143 (by decide) rfl dX5_judgeLine_83 ?_
  obtain ⟨g9, h⟩ := gd_s h
  refine run_sald (j := (Int32.toNatClampNeg (σ 143 7))) ha8 (N := 19) rfl g9 rfl dX5_judgeLine_86 ?_
  refine run_iconst (v := 1) dX5_judgeLine_87 rfl ?_
  refine run_icmp_le 126 dX5_judgeLine_88 (by decide) (fun c10 => ?_) (fun c10 => ?_)
  · rw [if_pos c10] at h
    exact run_vret dX5_judgeLine_126 ⟨rfl, Option.some.inj h⟩
  · rw [if_neg c10] at h
    refine run_aload_n 0 dX5_judgeLine_91 rfl rfl ?_
    refine run_getr fl_X5_9 is_143 (by decide) rfl ce_143_9 dX5_judgeLine_92 ?_
    refine run_iconst (v := 1) dX5_judgeLine_95 rfl ?_
    refine run_iald' (j := 1) is_144 ln_144 (by decide) rfl dX5_judgeLine_96 ?_
    refine run_getT 4 (sa_4 G) fn_X5_96 dX5_judgeLine_97 (fun a11 ha12 => ?_)
    refine run_aload_n 0 dX5_judgeLine_100 rfl rfl ?_
    refine run_geti fl_X5_62 is_143 (by decide) rfl dX5_judgeLine_101 ?_
    obtain ⟨g13, h⟩ := gd_s h
    refine run_sald (j := (Int32.toNatClampNeg (σ 143 7))) ha12 (N := 19) rfl g13 rfl dX5_judgeLine_104 ?_
    refine run_icmp_gt 115 dX5_judgeLine_105 (by decide) (fun c14 => ?_) (fun c14 => ?_)
    · rw [if_pos c14] at h
      refine run_aload_n 0 dX5_judgeLine_115 rfl rfl ?_
      refine run_iconst (v := 2) dX5_judgeLine_116 rfl ?_
      refine run_aload_n 0 dX5_judgeLine_117 rfl rfl ?_
      refine run_getr fl_X5_15 is_143 (by decide) rfl ce_143_10 dX5_judgeLine_118 ?_
      refine run_iconst (v := 1) dX5_judgeLine_121 rfl ?_
      refine run_iald' (j := 1) is_145 ln_145 (by decide) rfl dX5_judgeLine_122 ?_
      obtain ⟨q15, h16, h⟩ := Option.bind_eq_some_iff.mp h
      refine run_callVv (As := [.int 2, .int (σ 145 1)]) (fun z => z = q15) mw_X5_blame mi_X5_blame ml_X5_53 is_143 (by decide) rfl rfl rfl (RF.lt (HX5_judgeLine_X5_blame_lt d)) (Nat.le_of_ble_eq_true rfl) dX5_judgeLine_123 (sX5_blame G d  h16) (fun z h8 => ?_) rfl
      rw [h8]
      clear h8
      exact run_vret dX5_judgeLine_126 ⟨rfl, Option.some.inj h⟩
    · rw [if_neg c14] at h
      refine run_aload_n 0 dX5_judgeLine_108 rfl rfl ?_
      obtain ⟨q17, h21, h⟩ := Option.bind_eq_some_iff.mp h
      refine run_callVb (As := []) (fun r z => (r, z) = q17) mw_X5_isScanBackwards mi_X5_isScanBackwards ml_X5_99 is_143 (by decide) rfl rfl rfl (RF.lt (HX5_judgeLine_X5_isScanBackwards_lt d)) (Nat.le_of_ble_eq_true rfl) dX5_judgeLine_109 (sX5_isScanBackwards G d  h21) (fun r z h8 => ?_) rfl
      rw [show r = q17.1 from congrArg Prod.fst h8, show z = q17.2 from congrArg Prod.snd h8]
      clear h8
      refine run_ifb_eq 126 dX5_judgeLine_112 (by decide) (fun c18 => ?_) (fun c18 => ?_)
      · rw [if_neg c18] at h
        exact run_vret dX5_judgeLine_126 ⟨rfl, Option.some.inj h⟩
      · rw [if_pos c18] at h
        refine run_aload_n 0 dX5_judgeLine_115 rfl rfl ?_
        refine run_iconst (v := 2) dX5_judgeLine_116 rfl ?_
        refine run_aload_n 0 dX5_judgeLine_117 rfl rfl ?_
        refine run_getr fl_X5_15 is_143 (by decide) rfl ce_143_10 dX5_judgeLine_118 ?_
        refine run_iconst (v := 1) dX5_judgeLine_121 rfl ?_
        refine run_iald' (j := 1) is_145 ln_145 (by decide) rfl dX5_judgeLine_122 ?_
        obtain ⟨q19, h20, h⟩ := Option.bind_eq_some_iff.mp h
        refine run_callVv (As := [.int 2, .int (q17.2 145 1)]) (fun z => z = q19) mw_X5_blame mi_X5_blame ml_X5_53 is_143 (by decide) rfl rfl rfl (RF.lt (HX5_judgeLine_X5_blame_lt d)) (Nat.le_of_ble_eq_true rfl) dX5_judgeLine_123 (sX5_blame G d  h20) (fun z h8 => ?_) rfl
        rw [h8]
        clear h8
        exact run_vret dX5_judgeLine_126 ⟨rfl, Option.some.inj h⟩
def fX5_judgeLine (x1 : Int32) (σ : Mem) : Option Mem := (fX5_isTooMuch x1 σ).bind fun q1 => if q1.1 = true then ((fX5_blame 3 (q1.2 143 8) q1.2).bind fun q34 => some q34) else (gd (inb (q1.2 143 7) 19) (if (saV 1 (Int32.toNatClampNeg (q1.2 143 7))) ≤ 0 then (jX5_judgeLine_79 q1.2) else (gd (inb (q1.2 143 7) 19) (if (q1.2 144 0) < (saV 2 (Int32.toNatClampNeg (q1.2 143 7))) then ((fX5_blame 2 (q1.2 145 0) q1.2).bind fun q26 => some q26) else (gd (inb (q1.2 143 7) 19) (if (q1.2 144 0) ≤ (saV 3 (Int32.toNatClampNeg (q1.2 143 7))) then (jX5_judgeLine_79 q1.2) else ((fX5_blame 2 (q1.2 145 0) q1.2).bind fun q32 => some q32)))))))
set_option maxRecDepth 20000 in
theorem sX5_judgeLine (G : GT) (d : Nat) {x1 : Int32}  {σ : Mem} {o : Mem} (h : fX5_judgeLine x1 σ = some o) : Spec G yX5_judgeLine cX5_judgeLine 2 none (d + HX5_judgeLine) [.ref (gA G 143), .int x1] σ (kV fun z => z = o) := by
  refine spec_run (by decide) (Nat.le_of_ble_eq_true rfl) ?_
  unfold fX5_judgeLine at h
  show Run G RX5 cX5_judgeLine 2 none _ 0 [(0, .ref (gA G 143)), (1, .int x1)] [] σ
  refine run_aload_n 0 dX5_judgeLine_0 rfl rfl ?_
  refine run_iload_n 1 dX5_judgeLine_1 rfl rfl ?_
  obtain ⟨q1, h36, h⟩ := Option.bind_eq_some_iff.mp h
  refine run_callVb (As := [.int x1]) (fun r z => (r, z) = q1) mw_X5_isTooMuch mi_X5_isTooMuch ml_X5_81 is_143 (by decide) rfl rfl rfl (RF.lt (HX5_judgeLine_X5_isTooMuch_lt d)) (Nat.le_of_ble_eq_true rfl) dX5_judgeLine_2 (sX5_isTooMuch G d  h36) (fun r z h8 => ?_) rfl
  rw [show r = q1.1 from congrArg Prod.fst h8, show z = q1.2 from congrArg Prod.snd h8]
  clear h8
  refine run_ifb_eq 20 dX5_judgeLine_5 (by decide) (fun c2 => ?_) (fun c2 => ?_)
  · rw [if_neg c2] at h
    refine run_getT 1 (sa_1 G) fn_X5_87 dX5_judgeLine_20 (fun a3 ha4 => ?_)
    refine run_aload_n 0 dX5_judgeLine_23 rfl rfl ?_
    refine run_geti fl_X5_62 is_143 (by decide) rfl dX5_judgeLine_24 ?_
    obtain ⟨g5, h⟩ := gd_s h
    refine run_sald (j := (Int32.toNatClampNeg (q1.2 143 7))) ha4 (N := 19) rfl g5 rfl dX5_judgeLine_27 ?_
    refine run_if_le 79 dX5_judgeLine_28 (by decide) (fun c6 => ?_) (fun c6 => ?_)
    · rw [if_pos c6] at h
      refine run_forget [0] rfl ?_
      exact jnX5_judgeLine_79 G d _ _ h
    · rw [if_neg c6] at h
      refine run_aload_n 0 dX5_judgeLine_31 rfl rfl ?_
      refine run_getr fl_X5_9 is_143 (by decide) rfl ce_143_9 dX5_judgeLine_32 ?_
      refine run_iconst (v := 0) dX5_judgeLine_35 rfl ?_
      refine run_iald' (j := 0) is_144 ln_144 (by decide) rfl dX5_judgeLine_36 ?_
      refine run_getT 2 (sa_2 G) fn_X5_90 dX5_judgeLine_37 (fun a22 ha23 => ?_)
      refine run_aload_n 0 dX5_judgeLine_40 rfl rfl ?_
      refine run_geti fl_X5_62 is_143 (by decide) rfl dX5_judgeLine_41 ?_
      obtain ⟨g24, h⟩ := gd_s h
      refine run_sald (j := (Int32.toNatClampNeg (q1.2 143 7))) ha23 (N := 19) rfl g24 rfl dX5_judgeLine_44 ?_
      refine run_icmp_lt 65 dX5_judgeLine_45 (by decide) (fun c25 => ?_) (fun c25 => ?_)
      · rw [if_pos c25] at h
        refine run_aload_n 0 dX5_judgeLine_65 rfl rfl ?_
        refine run_iconst (v := 2) dX5_judgeLine_66 rfl ?_
        refine run_aload_n 0 dX5_judgeLine_67 rfl rfl ?_
        refine run_getr fl_X5_15 is_143 (by decide) rfl ce_143_10 dX5_judgeLine_68 ?_
        refine run_iconst (v := 0) dX5_judgeLine_71 rfl ?_
        refine run_iald' (j := 0) is_145 ln_145 (by decide) rfl dX5_judgeLine_72 ?_
        obtain ⟨q26, h27, h⟩ := Option.bind_eq_some_iff.mp h
        refine run_callVv (As := [.int 2, .int (q1.2 145 0)]) (fun z => z = q26) mw_X5_blame mi_X5_blame ml_X5_53 is_143 (by decide) rfl rfl rfl (RF.lt (HX5_judgeLine_X5_blame_lt d)) (Nat.le_of_ble_eq_true rfl) dX5_judgeLine_73 (sX5_blame G d  h27) (fun z h8 => ?_) rfl
        rw [h8]
        clear h8
        refine run_goto 126 dX5_judgeLine_76 (by decide) ?_
        exact run_vret dX5_judgeLine_126 ⟨rfl, Option.some.inj h⟩
      · rw [if_neg c25] at h
        refine run_aload_n 0 dX5_judgeLine_48 rfl rfl ?_
        refine run_getr fl_X5_9 is_143 (by decide) rfl ce_143_9 dX5_judgeLine_49 ?_
        refine run_iconst (v := 0) dX5_judgeLine_52 rfl ?_
        refine run_iald' (j := 0) is_144 ln_144 (by decide) rfl dX5_judgeLine_53 ?_
        refine run_getT 3 (sa_3 G) fn_X5_93 dX5_judgeLine_54 (fun a28 ha29 => ?_)
        refine run_aload_n 0 dX5_judgeLine_57 rfl rfl ?_
        refine run_geti fl_X5_62 is_143 (by decide) rfl dX5_judgeLine_58 ?_
        obtain ⟨g30, h⟩ := gd_s h
        refine run_sald (j := (Int32.toNatClampNeg (q1.2 143 7))) ha29 (N := 19) rfl g30 rfl dX5_judgeLine_61 ?_
        refine run_icmp_le 79 dX5_judgeLine_62 (by decide) (fun c31 => ?_) (fun c31 => ?_)
        · rw [if_pos c31] at h
          refine run_forget [0] rfl ?_
          exact jnX5_judgeLine_79 G d _ _ h
        · rw [if_neg c31] at h
          refine run_aload_n 0 dX5_judgeLine_65 rfl rfl ?_
          refine run_iconst (v := 2) dX5_judgeLine_66 rfl ?_
          refine run_aload_n 0 dX5_judgeLine_67 rfl rfl ?_
          refine run_getr fl_X5_15 is_143 (by decide) rfl ce_143_10 dX5_judgeLine_68 ?_
          refine run_iconst (v := 0) dX5_judgeLine_71 rfl ?_
          refine run_iald' (j := 0) is_145 ln_145 (by decide) rfl dX5_judgeLine_72 ?_
          obtain ⟨q32, h33, h⟩ := Option.bind_eq_some_iff.mp h
          refine run_callVv (As := [.int 2, .int (q1.2 145 0)]) (fun z => z = q32) mw_X5_blame mi_X5_blame ml_X5_53 is_143 (by decide) rfl rfl rfl (RF.lt (HX5_judgeLine_X5_blame_lt d)) (Nat.le_of_ble_eq_true rfl) dX5_judgeLine_73 (sX5_blame G d  h33) (fun z h8 => ?_) rfl
          rw [h8]
          clear h8
          refine run_goto 126 dX5_judgeLine_76 (by decide) ?_
          exact run_vret dX5_judgeLine_126 ⟨rfl, Option.some.inj h⟩
  · rw [if_pos c2] at h
    refine run_aload_n 0 dX5_judgeLine_8 rfl rfl ?_
    refine run_iconst (v := 3) dX5_judgeLine_9 rfl ?_
    refine run_aload_n 0 dX5_judgeLine_10 rfl rfl ?_
    refine run_geti fl_X5_84 is_143 (by decide) rfl dX5_judgeLine_11 ?_
    obtain ⟨q34, h35, h⟩ := Option.bind_eq_some_iff.mp h
    refine run_callVv (As := [.int 3, .int (q1.2 143 8)]) (fun z => z = q34) mw_X5_blame mi_X5_blame ml_X5_53 is_143 (by decide) rfl rfl rfl (RF.lt (HX5_judgeLine_X5_blame_lt d)) (Nat.le_of_ble_eq_true rfl) dX5_judgeLine_14 (sX5_blame G d  h35) (fun z h8 => ?_) rfl
    rw [h8]
    clear h8
    refine run_goto 126 dX5_judgeLine_17 (by decide) ?_
    exact run_vret dX5_judgeLine_126 ⟨rfl, Option.some.inj h⟩
def HX5_isSpelled : Nat := 5
theorem HX5_isSpelled_str (d : Nat) : d + 4 < d + HX5_isSpelled := Nat.add_lt_add_left (by decide) d
theorem HX5_isSpelled_0 (d : Nat) : 0 < d + HX5_isSpelled := Nat.lt_of_lt_of_le (by decide) (Nat.le_add_left _ d)
def lX5_isSpelled_20 (w1 : Nat) : Nat → Int32 → Mem → Option ((Bool × Mem) ⊕ (Mem))
  | 0, _, _ => none
  | n + 1, x2, σ => if (nI (stL w1)) ≤ x2 then (some (.inr σ)) else (gd (inb ((σ 143 4) + x2) 600) (gd (inb x2 (stL w1)) (if (σ 2 (Int32.toNatClampNeg ((σ 143 4) + x2))) = (stB w1 (Int32.toNatClampNeg x2)) then (lX5_isSpelled_20 w1 n (x2 + 1) σ) else (some (.inl (false, σ))))))
set_option maxRecDepth 20000 in
theorem lpX5_isSpelled_20 (G : GT) (d : Nat) (w1 : Nat) (a1 : Nat) (hw1 : w1 < 19) (ha1 : STR G w1 a1) {K : Option Value → Mem → Prop} : ∀ (n : Nat) (x2 : Int32) (σ : Mem) (o : (Bool × Mem) ⊕ (Mem)), lX5_isSpelled_20 w1 n x2 σ = some o → (∀ r, o = .inl r → K (some (.int (b2 r.1))) r.2) → (∀ t, o = .inr t → Run G RX5 cX5_isSpelled 3 (some .boolean) (mF G (d + HX5_isSpelled) K) 55 [] [] t) → Run G RX5 cX5_isSpelled 3 (some .boolean) (mF G (d + HX5_isSpelled) K) 20 [(0, .ref (gA G 143)), (1, .ref a1), (2, .int x2)] [] σ := by
  intro n
  induction n with
  | zero => intro x2 σ o h; exact absurd h (by simp [lX5_isSpelled_20])
  | succ n ih =>
    intro x2 σ o h kr kx
    rw [lX5_isSpelled_20] at h
    refine run_iload_n 2 dX5_isSpelled_20 rfl rfl ?_
    refine run_aload_n 1 dX5_isSpelled_21 rfl rfl ?_
    refine run_pre (fun hg => ?_)
    refine run_callOi (As := []) _ ha1.1 mw_J0_length_8abf5 mi_J0_length_8abf5 ml_X5_139 rfl (RF.lt (HX5_isSpelled_str d)) (Nat.le_of_ble_eq_true rfl) dX5_isSpelled_22 (sJ0_length G (d + 2) ha1 hg) ?_ rfl
    refine run_icmp_ge 55 dX5_isSpelled_25 (by decide) (fun c6 => ?_) (fun c6 => ?_)
    · rw [if_pos c6] at h
      refine run_forget [] rfl ?_
      exact kx _ (Option.some.inj h).symm
    · rw [if_neg c6] at h
      refine run_aload_n 0 dX5_isSpelled_28 rfl rfl ?_
      refine run_getr fl_X5_18 is_143 (by decide) rfl ce_143_0 dX5_isSpelled_29 ?_
      refine run_aload_n 0 dX5_isSpelled_32 rfl rfl ?_
      refine run_geti fl_X5_50 is_143 (by decide) rfl dX5_isSpelled_33 ?_
      refine run_iload_n 2 dX5_isSpelled_36 rfl rfl ?_
      refine run_iadd dX5_isSpelled_37 ?_
      obtain ⟨g7, h⟩ := gd_s h
      refine run_bald' is_2 ln_2 g7 rfl dX5_isSpelled_38 ?_
      refine run_aload_n 1 dX5_isSpelled_39 rfl rfl ?_
      refine run_iload_n 2 dX5_isSpelled_40 rfl rfl ?_
      obtain ⟨g8, h⟩ := gd_s h
      refine run_pre (fun hg => ?_)
      refine run_callOi (As := [.int x2]) _ ha1.1 mw_J0_charAt_5068e mi_J0_charAt_5068e ml_X5_144 rfl (RF.lt (HX5_isSpelled_str d)) (Nat.le_of_ble_eq_true rfl) dX5_isSpelled_41 (sJ0_charAt G d hw1 ha1 g8 rfl hg) ?_ rfl
      refine run_icmp_eq 49 dX5_isSpelled_44 (by decide) (fun c9 => ?_) (fun c9 => ?_)
      · rw [if_pos c9] at h
        refine run_iinc 2 [(0, .ref (gA G 143)), (1, .ref a1), (2, .int (x2 + 1))] [1, 2, 0] dX5_isSpelled_49 rfl rfl (by decide) rfl ?_
        refine run_goto 20 dX5_isSpelled_52 (by decide) ?_
        exact ih _ _ _ h kr kx
      · rw [if_neg c9] at h
        refine run_iconst (v := 0) dX5_isSpelled_47 rfl ?_
        exact run_bret (b := false) dX5_isSpelled_48 (kr _ (Option.some.inj h).symm)
def fX5_isSpelled (w1 : Nat) (σ : Mem) : Option (Bool × Mem) := if ((σ 143 2) - (σ 143 4)) = (nI (stL w1)) then ((lX5_isSpelled_20 w1 FU 0 σ).bind fun q10 => Sum.elim (fun q12 => some q12) (fun q10 => some (true, q10)) q10) else (some (false, σ))
set_option maxRecDepth 20000 in
theorem sX5_isSpelled (G : GT) (d : Nat) {w1 : Nat} {a1 : Nat} (hw1 : w1 < 19) (ha1 : STR G w1 a1) {σ : Mem} {o : (Bool × Mem)} (h : fX5_isSpelled w1 σ = some o) : Spec G yX5_isSpelled cX5_isSpelled 3 (some .boolean) (d + HX5_isSpelled) [.ref (gA G 143), .ref a1] σ (kB fun x z => (x, z) = o) := by
  refine spec_run (by decide) (Nat.le_of_ble_eq_true rfl) ?_
  unfold fX5_isSpelled at h
  show Run G RX5 cX5_isSpelled 3 (some .boolean) _ 0 [(0, .ref (gA G 143)), (1, .ref a1)] [] σ
  refine run_aload_n 0 dX5_isSpelled_0 rfl rfl ?_
  refine run_geti fl_X5_78 is_143 (by decide) rfl dX5_isSpelled_1 ?_
  refine run_aload_n 0 dX5_isSpelled_4 rfl rfl ?_
  refine run_geti fl_X5_50 is_143 (by decide) rfl dX5_isSpelled_5 ?_
  refine run_isub dX5_isSpelled_8 ?_
  refine run_aload_n 1 dX5_isSpelled_9 rfl rfl ?_
  refine run_pre (fun hg => ?_)
  refine run_callOi (As := []) _ ha1.1 mw_J0_length_8abf5 mi_J0_length_8abf5 ml_X5_139 rfl (RF.lt (HX5_isSpelled_str d)) (Nat.le_of_ble_eq_true rfl) dX5_isSpelled_10 (sJ0_length G (d + 2) ha1 hg) ?_ rfl
  refine run_icmp_eq 18 dX5_isSpelled_13 (by decide) (fun c1 => ?_) (fun c1 => ?_)
  · rw [if_pos c1] at h
    refine run_iconst (v := 0) dX5_isSpelled_18 rfl ?_
    refine run_istore_n [(0, .ref (gA G 143)), (1, .ref a1), (2, .int 0)] [1, 2, 0] dX5_isSpelled_19 rfl (by decide) rfl ?_
    obtain ⟨q10a, h11, h⟩ := Option.bind_eq_some_iff.mp h
    refine lpX5_isSpelled_20 G d _ _ hw1 ha1 _ _ _ _ h11 (fun q12 e9 => ?_) (fun q10 e9 => ?_)
    · rw [e9, Sum.elim_inl] at h
      rw [← Option.some.inj h]
      exact ⟨_, rfl, rfl⟩
    · rw [e9, Sum.elim_inr] at h
      refine run_iconst (v := 1) dX5_isSpelled_55 rfl ?_
      exact run_bret (b := true) dX5_isSpelled_56 ⟨_, rfl, Option.some.inj h⟩
  · rw [if_neg c1] at h
    refine run_iconst (v := 0) dX5_isSpelled_16 rfl ?_
    exact run_bret (b := false) dX5_isSpelled_17 ⟨_, rfl, Option.some.inj h⟩
def HX5_wordOfSort : Nat := 6
theorem HX5_wordOfSort_sp (d : Nat) : d + HX5_spelling < d + HX5_wordOfSort := Nat.add_lt_add_left (by decide) d
theorem HX5_wordOfSort_X5_isSpelled_lt (d : Nat) : d + HX5_isSpelled < d + HX5_wordOfSort := Nat.add_lt_add_left (by decide) d
theorem HX5_wordOfSort_0 (d : Nat) : 0 < d + HX5_wordOfSort := Nat.lt_of_lt_of_le (by decide) (Nat.le_add_left _ d)
def lX5_wordOfSort_6 (x1 : Int32) : Nat → Int32 → Mem → Option ((Int32 × Mem) ⊕ (Mem))
  | 0, _, _ => none
  | n + 1, x2, σ => gd (inb (x1 + 1) 5) (if (saV 0 (Int32.toNatClampNeg (x1 + 1))) ≤ x2 then (some (.inr σ)) else ((fX5_isSpelled (spJ x2) σ).bind fun q10 => if q10.1 = true then (some (.inl (x2, q10.2))) else (lX5_wordOfSort_6 x1 n (x2 + 1) q10.2)))
set_option maxRecDepth 20000 in
theorem lpX5_wordOfSort_6 (G : GT) (d : Nat) (x1 : Int32)  {K : Option Value → Mem → Prop} : ∀ (n : Nat) (x2 : Int32) (σ : Mem) (o : (Int32 × Mem) ⊕ (Mem)), lX5_wordOfSort_6 x1 n x2 σ = some o → (∀ r, o = .inl r → K (some (.int r.1)) r.2) → (∀ t, o = .inr t → Run G RX5 cX5_wordOfSort 3 (some .int) (mF G (d + HX5_wordOfSort) K) 36 [] [] t) → Run G RX5 cX5_wordOfSort 3 (some .int) (mF G (d + HX5_wordOfSort) K) 6 [(0, .ref (gA G 143)), (1, .int x1), (2, .int x2)] [] σ := by
  intro n
  induction n with
  | zero => intro x2 σ o h; exact absurd h (by simp [lX5_wordOfSort_6])
  | succ n ih =>
    intro x2 σ o h kr kx
    rw [lX5_wordOfSort_6] at h
    refine run_iload_n 2 dX5_wordOfSort_6 rfl rfl ?_
    refine run_getT 0 (sa_0 G) fn_X5_128 dX5_wordOfSort_7 (fun a4 ha5 => ?_)
    refine run_iload_n 1 dX5_wordOfSort_10 rfl rfl ?_
    refine run_iconst (v := 1) dX5_wordOfSort_11 rfl ?_
    refine run_iadd dX5_wordOfSort_12 ?_
    obtain ⟨g6, h⟩ := gd_s h
    refine run_sald (j := (Int32.toNatClampNeg (x1 + 1))) ha5 (N := 5) rfl g6 rfl dX5_wordOfSort_13 ?_
    refine run_icmp_ge 36 dX5_wordOfSort_14 (by decide) (fun c7 => ?_) (fun c7 => ?_)
    · rw [if_pos c7] at h
      refine run_forget [] rfl ?_
      exact kx _ (Option.some.inj h).symm
    · rw [if_neg c7] at h
      refine run_aload_n 0 dX5_wordOfSort_17 rfl rfl ?_
      refine run_iload_n 2 dX5_wordOfSort_18 rfl rfl ?_
      refine run_callS (As := [.int x2]) (kS G (spJ x2) σ) mw_X5_spelling ms_X5_spelling ml_X5_131 rfl (RF.lt (HX5_wordOfSort_sp d)) (Nat.le_of_ble_eq_true rfl) dX5_wordOfSort_19 (sX5_spelling G d) (fun v9 z9 h8 => ?_) rfl
      obtain ⟨a8, rfl, rfl, ha9⟩ := h8
      obtain ⟨q10, h12, h⟩ := Option.bind_eq_some_iff.mp h
      refine run_callVb (As := [.ref a8]) (fun r z => (r, z) = q10) mw_X5_isSpelled mi_X5_isSpelled ml_X5_135 is_143 (by decide) rfl rfl rfl (RF.lt (HX5_wordOfSort_X5_isSpelled_lt d)) (Nat.le_of_ble_eq_true rfl) dX5_wordOfSort_22 (sX5_isSpelled G d (spJ_lt _) ha9 h12) (fun r z h8 => ?_) rfl
      rw [show r = q10.1 from congrArg Prod.fst h8, show z = q10.2 from congrArg Prod.snd h8]
      clear h8
      refine run_ifb_eq 30 dX5_wordOfSort_25 (by decide) (fun c11 => ?_) (fun c11 => ?_)
      · rw [if_neg c11] at h
        refine run_iinc 2 [(0, .ref (gA G 143)), (1, .int x1), (2, .int (x2 + 1))] [1, 2, 0] dX5_wordOfSort_30 rfl rfl (by decide) rfl ?_
        refine run_goto 6 dX5_wordOfSort_33 (by decide) ?_
        exact ih _ _ _ h kr kx
      · rw [if_pos c11] at h
        refine run_iload_n 2 dX5_wordOfSort_28 rfl rfl ?_
        exact run_iret dX5_wordOfSort_29 (kr _ (Option.some.inj h).symm)
def fX5_wordOfSort (x1 : Int32) (σ : Mem) : Option (Int32 × Mem) := gd (inb x1 5) ((lX5_wordOfSort_6 x1 FU (saV 0 (Int32.toNatClampNeg x1)) σ).bind fun q13 => Sum.elim (fun q15 => some q15) (fun q13 => some ((-1), q13)) q13)
set_option maxRecDepth 20000 in
theorem sX5_wordOfSort (G : GT) (d : Nat) {x1 : Int32}  {σ : Mem} {o : (Int32 × Mem)} (h : fX5_wordOfSort x1 σ = some o) : Spec G yX5_wordOfSort cX5_wordOfSort 3 (some .int) (d + HX5_wordOfSort) [.ref (gA G 143), .int x1] σ (kI fun x z => (x, z) = o) := by
  refine spec_run (by decide) (Nat.le_of_ble_eq_true rfl) ?_
  unfold fX5_wordOfSort at h
  show Run G RX5 cX5_wordOfSort 3 (some .int) _ 0 [(0, .ref (gA G 143)), (1, .int x1)] [] σ
  refine run_getT 0 (sa_0 G) fn_X5_128 dX5_wordOfSort_0 (fun a1 ha2 => ?_)
  refine run_iload_n 1 dX5_wordOfSort_3 rfl rfl ?_
  obtain ⟨g3, h⟩ := gd_s h
  refine run_sald (j := (Int32.toNatClampNeg x1)) ha2 (N := 5) rfl g3 rfl dX5_wordOfSort_4 ?_
  refine run_istore_n [(0, .ref (gA G 143)), (1, .int x1), (2, .int (saV 0 (Int32.toNatClampNeg x1)))] [1, 2, 0] dX5_wordOfSort_5 rfl (by decide) rfl ?_
  obtain ⟨q13a, h14, h⟩ := Option.bind_eq_some_iff.mp h
  refine lpX5_wordOfSort_6 G d _ _ _ _ _ h14 (fun q15 e9 => ?_) (fun q13 e9 => ?_)
  · rw [e9, Sum.elim_inl] at h
    rw [← Option.some.inj h]
    exact ⟨_, rfl, rfl⟩
  · rw [e9, Sum.elim_inr] at h
    refine run_iconst (v := -1) dX5_wordOfSort_36 rfl ?_
    exact run_iret dX5_wordOfSort_37 ⟨_, rfl, Option.some.inj h⟩
def HX5_readLine : Nat := 7
theorem HX5_readLine_X5_readToken_lt (d : Nat) : d + HX5_readToken < d + HX5_readLine := Nat.add_lt_add_left (by decide) d
theorem HX5_readLine_X5_wordOfSort_lt (d : Nat) : d + HX5_wordOfSort < d + HX5_readLine := Nat.add_lt_add_left (by decide) d
theorem HX5_readLine_0 (d : Nat) : 0 < d + HX5_readLine := Nat.lt_of_lt_of_le (by decide) (Nat.le_add_left _ d)
def lX5_readLine_73  : Nat → Int32 → Mem → Option ((Bool × Mem) ⊕ (Mem))
  | 0, _, _ => none
  | n + 1, x2, σ => gd (inb (σ 143 7) 19) (if (saV 1 (Int32.toNatClampNeg (σ 143 7))) ≤ x2 then (some (.inr σ)) else ((fX5_readToken σ).bind fun q21 => if (q21 143 3) = 2 then (gd (inb x2 2) (gd (inb x2 2) (lX5_readLine_73 n (x2 + 1) (st2 (st2 q21 144 (Int32.toNatClampNeg x2) (q21 143 5)) 145 (Int32.toNatClampNeg x2) ((st2 q21 144 (Int32.toNatClampNeg x2) (q21 143 5)) 143 4))))) else (some (.inl (false, (st2 q21 143 6 1))))))
set_option maxRecDepth 20000 in
theorem lpX5_readLine_73 (G : GT) (d : Nat)   {K : Option Value → Mem → Prop} : ∀ (n : Nat) (x2 : Int32) (σ : Mem) (o : (Bool × Mem) ⊕ (Mem)), lX5_readLine_73 n x2 σ = some o → (∀ r, o = .inl r → K (some (.int (b2 r.1))) r.2) → (∀ t, o = .inr t → Run G RX5 cX5_readLine 3 (some .boolean) (mF G (d + HX5_readLine) K) 130 [(0, .ref (gA G 143))] [] t) → Run G RX5 cX5_readLine 3 (some .boolean) (mF G (d + HX5_readLine) K) 73 [(0, .ref (gA G 143)), (2, .int x2)] [] σ := by
  intro n
  induction n with
  | zero => intro x2 σ o h; exact absurd h (by simp [lX5_readLine_73])
  | succ n ih =>
    intro x2 σ o h kr kx
    rw [lX5_readLine_73] at h
    refine run_iload_n 1 dX5_readLine_73 rfl rfl ?_
    refine run_getT 1 (sa_1 G) fn_X5_87 dX5_readLine_74 (fun a17 ha18 => ?_)
    refine run_aload_n 0 dX5_readLine_77 rfl rfl ?_
    refine run_geti fl_X5_62 is_143 (by decide) rfl dX5_readLine_78 ?_
    obtain ⟨g19, h⟩ := gd_s h
    refine run_sald (j := (Int32.toNatClampNeg (σ 143 7))) ha18 (N := 19) rfl g19 rfl dX5_readLine_81 ?_
    refine run_icmp_ge 130 dX5_readLine_82 (by decide) (fun c20 => ?_) (fun c20 => ?_)
    · rw [if_pos c20] at h
      refine run_forget [0] rfl ?_
      exact kx _ (Option.some.inj h).symm
    · rw [if_neg c20] at h
      refine run_aload_n 0 dX5_readLine_85 rfl rfl ?_
      obtain ⟨q21, h25, h⟩ := Option.bind_eq_some_iff.mp h
      refine run_callVv (As := []) (fun z => z = q21) mw_X5_readToken mi_X5_readToken ml_X5_103 is_143 (by decide) rfl rfl rfl (RF.lt (HX5_readLine_X5_readToken_lt d)) (Nat.le_of_ble_eq_true rfl) dX5_readLine_86 (sX5_readToken G d  h25) (fun z h8 => ?_) rfl
      rw [h8]
      clear h8
      refine run_aload_n 0 dX5_readLine_89 rfl rfl ?_
      refine run_geti fl_X5_106 is_143 (by decide) rfl dX5_readLine_90 ?_
      refine run_iconst (v := 2) dX5_readLine_93 rfl ?_
      refine run_icmp_eq 104 dX5_readLine_94 (by decide) (fun c22 => ?_) (fun c22 => ?_)
      · rw [if_pos c22] at h
        refine run_aload_n 0 dX5_readLine_104 rfl rfl ?_
        refine run_getr fl_X5_9 is_143 (by decide) rfl ce_143_9 dX5_readLine_105 ?_
        refine run_iload_n 1 dX5_readLine_108 rfl rfl ?_
        refine run_aload_n 0 dX5_readLine_109 rfl rfl ?_
        refine run_geti fl_X5_113 is_143 (by decide) rfl dX5_readLine_110 ?_
        obtain ⟨g23, h⟩ := gd_s h
        refine run_iast' is_144 ln_144 g23 rfl dX5_readLine_113 ?_
        refine run_aload_n 0 dX5_readLine_114 rfl rfl ?_
        refine run_getr fl_X5_15 is_143 (by decide) rfl ce_143_10 dX5_readLine_115 ?_
        refine run_iload_n 1 dX5_readLine_118 rfl rfl ?_
        refine run_aload_n 0 dX5_readLine_119 rfl rfl ?_
        refine run_geti fl_X5_50 is_143 (by decide) rfl dX5_readLine_120 ?_
        obtain ⟨g24, h⟩ := gd_s h
        refine run_iast' is_145 ln_145 g24 rfl dX5_readLine_123 ?_
        refine run_iinc 1 [(0, .ref (gA G 143)), (2, .int (x2 + 1))] [1, 0] dX5_readLine_124 rfl rfl (by decide) rfl ?_
        refine run_goto 73 dX5_readLine_127 (by decide) ?_
        exact ih _ _ _ h kr kx
      · rw [if_neg c22] at h
        refine run_aload_n 0 dX5_readLine_97 rfl rfl ?_
        refine run_iconst (v := 1) dX5_readLine_98 rfl ?_
        refine run_putz fp_X5_46 is_143 (by decide) rfl (by decide) dX5_readLine_99 ?_
        refine run_iconst (v := 0) dX5_readLine_102 rfl ?_
        exact run_bret (b := false) dX5_readLine_103 (kr _ (Option.some.inj h).symm)
def fX5_readLine (x1 : Int32) (σ : Mem) : Option (Bool × Mem) := (fX5_readToken σ).bind fun q1 => if (q1 143 3) = 0 then (some (false, q1)) else ((if (q1 143 3) = 1 then ((fX5_wordOfSort x1 q1).bind fun q4 => some (q4.1, q4.2)) else (some ((-1), q1)) : Option (Int32 × Mem)).bind fun q6 => if ((st2 (q6.2) 143 7 (q6.1)) 143 7) = (-1) then (some (false, (st2 (st2 (q6.2) 143 7 (q6.1)) 143 6 1))) else ((lX5_readLine_73 FU 0 (st2 (st2 (st2 (st2 (q6.2) 143 7 (q6.1)) 143 8 ((st2 (q6.2) 143 7 (q6.1)) 143 4)) 144 0 (-1)) 144 1 (-1))).bind fun q26 => Sum.elim (fun q34 => some q34) (fun q26 => (fX5_readToken q26).bind fun q27 => (if (q27 143 3) = 3 then (some false) else (some true) : Option (Bool)).bind fun q29 => if ((st2 q27 143 6 (b2 q29)) 143 6) = 0 then (some (true, (st2 q27 143 6 (b2 q29)))) else (some (false, (st2 q27 143 6 (b2 q29))))) q26))
set_option maxRecDepth 20000 in
theorem sX5_readLine (G : GT) (d : Nat) {x1 : Int32}  {σ : Mem} {o : (Bool × Mem)} (h : fX5_readLine x1 σ = some o) : Spec G yX5_readLine cX5_readLine 3 (some .boolean) (d + HX5_readLine) [.ref (gA G 143), .int x1] σ (kB fun x z => (x, z) = o) := by
  refine spec_run (by decide) (Nat.le_of_ble_eq_true rfl) ?_
  unfold fX5_readLine at h
  show Run G RX5 cX5_readLine 3 (some .boolean) _ 0 [(0, .ref (gA G 143)), (1, .int x1)] [] σ
  refine run_aload_n 0 dX5_readLine_0 rfl rfl ?_
  obtain ⟨q1, h36, h⟩ := Option.bind_eq_some_iff.mp h
  refine run_callVv (As := []) (fun z => z = q1) mw_X5_readToken mi_X5_readToken ml_X5_103 is_143 (by decide) rfl rfl rfl (RF.lt (HX5_readLine_X5_readToken_lt d)) (Nat.le_of_ble_eq_true rfl) dX5_readLine_1 (sX5_readToken G d  h36) (fun z h8 => ?_) rfl
  rw [h8]
  clear h8
  refine run_aload_n 0 dX5_readLine_4 rfl rfl ?_
  refine run_geti fl_X5_106 is_143 (by decide) rfl dX5_readLine_5 ?_
  refine run_if_ne 13 dX5_readLine_8 (by decide) (fun c2 => ?_) (fun c2 => ?_)
  · rw [if_neg c2] at h
    refine run_aload_n 0 dX5_readLine_13 rfl rfl ?_
    refine run_aload_n 0 dX5_readLine_14 rfl rfl ?_
    refine run_geti fl_X5_106 is_143 (by decide) rfl dX5_readLine_15 ?_
    refine run_iconst (v := 1) dX5_readLine_18 rfl ?_
    obtain ⟨q6, h, h9⟩ := Option.bind_eq_some_iff.mp h
    have hj35 : Run G RX5 cX5_readLine 3 (some .boolean) (mF G (d + HX5_readLine) (kB fun x z => (x, z) = o)) 31 [(0, .ref (gA G 143))] [.int (q6.1), .ref (gA G 143)] (q6.2) := by
      clear h
      have h := h9
      clear h9
      refine run_puti fp_X5_62 is_143 (by decide) rfl dX5_readLine_31 ?_
      refine run_aload_n 0 dX5_readLine_34 rfl rfl ?_
      refine run_geti fl_X5_62 is_143 (by decide) rfl dX5_readLine_35 ?_
      refine run_iconst (v := -1) dX5_readLine_38 rfl ?_
      refine run_icmp_ne 49 dX5_readLine_39 (by decide) (fun c7 => ?_) (fun c7 => ?_)
      · rw [if_neg c7] at h
        refine run_aload_n 0 dX5_readLine_49 rfl rfl ?_
        refine run_aload_n 0 dX5_readLine_50 rfl rfl ?_
        refine run_geti fl_X5_50 is_143 (by decide) rfl dX5_readLine_51 ?_
        refine run_puti fp_X5_84 is_143 (by decide) rfl dX5_readLine_54 ?_
        refine run_aload_n 0 dX5_readLine_57 rfl rfl ?_
        refine run_getr fl_X5_9 is_143 (by decide) rfl ce_143_9 dX5_readLine_58 ?_
        refine run_iconst (v := 0) dX5_readLine_61 rfl ?_
        refine run_iconst (v := -1) dX5_readLine_62 rfl ?_
        refine run_iast' (j := 0) is_144 ln_144 (by decide) rfl dX5_readLine_63 ?_
        refine run_aload_n 0 dX5_readLine_64 rfl rfl ?_
        refine run_getr fl_X5_9 is_143 (by decide) rfl ce_143_9 dX5_readLine_65 ?_
        refine run_iconst (v := 1) dX5_readLine_68 rfl ?_
        refine run_iconst (v := -1) dX5_readLine_69 rfl ?_
        refine run_iast' (j := 1) is_144 ln_144 (by decide) rfl dX5_readLine_70 ?_
        refine run_iconst (v := 0) dX5_readLine_71 rfl ?_
        refine run_istore_n [(0, .ref (gA G 143)), (2, .int 0)] [1, 0] dX5_readLine_72 rfl (by decide) rfl ?_
        obtain ⟨q26a, h33, h⟩ := Option.bind_eq_some_iff.mp h
        refine lpX5_readLine_73 G d _ _ _ _ h33 (fun q34 e9 => ?_) (fun q26 e9 => ?_)
        · rw [e9, Sum.elim_inl] at h
          rw [← Option.some.inj h]
          exact ⟨_, rfl, rfl⟩
        · rw [e9, Sum.elim_inr] at h
          refine run_aload_n 0 dX5_readLine_130 rfl rfl ?_
          obtain ⟨q27, h32, h⟩ := Option.bind_eq_some_iff.mp h
          refine run_callVv (As := []) (fun z => z = q27) mw_X5_readToken mi_X5_readToken ml_X5_103 is_143 (by decide) rfl rfl rfl (RF.lt (HX5_readLine_X5_readToken_lt d)) (Nat.le_of_ble_eq_true rfl) dX5_readLine_131 (sX5_readToken G d  h32) (fun z h8 => ?_) rfl
          rw [h8]
          clear h8
          refine run_aload_n 0 dX5_readLine_134 rfl rfl ?_
          refine run_aload_n 0 dX5_readLine_135 rfl rfl ?_
          refine run_geti fl_X5_106 is_143 (by decide) rfl dX5_readLine_136 ?_
          refine run_iconst (v := 3) dX5_readLine_139 rfl ?_
          obtain ⟨q29, h, h9⟩ := Option.bind_eq_some_iff.mp h
          have hj31 : Run G RX5 cX5_readLine 3 (some .boolean) (mF G (d + HX5_readLine) (kB fun x z => (x, z) = o)) 148 [(0, .ref (gA G 143))] [.int (b2 q29), .ref (gA G 143)] q27 := by
            clear h
            have h := h9
            clear h9
            refine run_putz fp_X5_46 is_143 (by decide) rfl (b2_01 q29) dX5_readLine_148 ?_
            refine run_aload_n 0 dX5_readLine_151 rfl rfl ?_
            refine run_geti fl_X5_46 is_143 (by decide) rfl dX5_readLine_152 ?_
            refine run_if_ne 162 dX5_readLine_155 (by decide) (fun c30 => ?_) (fun c30 => ?_)
            · rw [if_neg c30] at h
              refine run_iconst (v := 0) dX5_readLine_162 rfl ?_
              exact run_bret (b := false) dX5_readLine_163 ⟨_, rfl, Option.some.inj h⟩
            · rw [if_pos c30] at h
              refine run_iconst (v := 1) dX5_readLine_158 rfl ?_
              refine run_goto 163 dX5_readLine_159 (by decide) ?_
              exact run_bret (b := true) dX5_readLine_163 ⟨_, rfl, Option.some.inj h⟩
          clear h9
          refine run_icmp_eq 147 dX5_readLine_140 (by decide) (fun c28 => ?_) (fun c28 => ?_)
          · rw [if_pos c28] at h
            refine run_iconst (v := 0) dX5_readLine_147 rfl ?_
            rw [← Option.some.inj h] at hj31
            exact hj31
          · rw [if_neg c28] at h
            refine run_iconst (v := 1) dX5_readLine_143 rfl ?_
            refine run_goto 148 dX5_readLine_144 (by decide) ?_
            rw [← Option.some.inj h] at hj31
            exact hj31
      · rw [if_pos c7] at h
        refine run_aload_n 0 dX5_readLine_42 rfl rfl ?_
        refine run_iconst (v := 1) dX5_readLine_43 rfl ?_
        refine run_putz fp_X5_46 is_143 (by decide) rfl (by decide) dX5_readLine_44 ?_
        refine run_iconst (v := 0) dX5_readLine_47 rfl ?_
        exact run_bret (b := false) dX5_readLine_48 ⟨_, rfl, Option.some.inj h⟩
    clear h9
    refine run_icmp_ne 30 dX5_readLine_19 (by decide) (fun c3 => ?_) (fun c3 => ?_)
    · rw [if_neg c3] at h
      refine run_iconst (v := -1) dX5_readLine_30 rfl ?_
      rw [← Option.some.inj h] at hj35
      refine run_forget [0] rfl ?_
      exact hj35
    · rw [if_pos c3] at h
      refine run_aload_n 0 dX5_readLine_22 rfl rfl ?_
      refine run_iload_n 1 dX5_readLine_23 rfl rfl ?_
      obtain ⟨q4, h5, h⟩ := Option.bind_eq_some_iff.mp h
      refine run_callVi (As := [.int x1]) (fun r z => (r, z) = q4) mw_X5_wordOfSort mi_X5_wordOfSort ml_X5_109 is_143 (by decide) rfl rfl rfl (RF.lt (HX5_readLine_X5_wordOfSort_lt d)) (Nat.le_of_ble_eq_true rfl) dX5_readLine_24 (sX5_wordOfSort G d  h5) (fun r z h8 => ?_) rfl
      rw [show r = q4.1 from congrArg Prod.fst h8, show z = q4.2 from congrArg Prod.snd h8]
      clear h8
      refine run_goto 31 dX5_readLine_27 (by decide) ?_
      rw [← Option.some.inj h] at hj35
      refine run_forget [0] rfl ?_
      exact hj35
  · rw [if_pos c2] at h
    refine run_iconst (v := 0) dX5_readLine_11 rfl ?_
    exact run_bret (b := false) dX5_readLine_12 ⟨_, rfl, Option.some.inj h⟩
def HX5_judge : Nat := 8
theorem HX5_judge_X5_blame_lt (d : Nat) : d + HX5_blame < d + HX5_judge := Nat.add_lt_add_left (by decide) d
theorem HX5_judge_X5_judgeLine_lt (d : Nat) : d + HX5_judgeLine < d + HX5_judge := Nat.add_lt_add_left (by decide) d
theorem HX5_judge_X5_readLine_lt (d : Nat) : d + HX5_readLine < d + HX5_judge := Nat.add_lt_add_left (by decide) d
theorem HX5_judge_X5_rewind_lt (d : Nat) : d + HX5_rewind < d + HX5_judge := Nat.add_lt_add_left (by decide) d
theorem HX5_judge_0 (d : Nat) : 0 < d + HX5_judge := Nat.lt_of_lt_of_le (by decide) (Nat.le_add_left _ d)
def lX5_judge_27 (x1 : Int32) : Nat → Int32 → Mem → Option (Mem)
  | 0, _, _ => none
  | n + 1, x3, σ => if 600 ≤ x3 then (some σ) else ((fX5_readLine x1 σ).bind fun q10 => if q10.1 = true then ((if (q10.2 143 13) = 0 then ((fX5_judgeLine x1 q10.2).bind fun q13 => some q13) else (some q10.2) : Option (Mem)).bind fun q15 => lX5_judge_27 x1 n (x3 + 1) q15) else (some q10.2))
set_option maxRecDepth 20000 in
theorem lpX5_judge_27 (G : GT) (d : Nat) (x1 : Int32)  {K : Option Value → Mem → Prop} : ∀ (n : Nat) (x3 : Int32) (σ : Mem) (o : Mem), lX5_judge_27 x1 n x3 σ = some o → (Run G RX5 cX5_judge 4 none (mF G (d + HX5_judge) K) 60 [(0, .ref (gA G 143))] [] o) → Run G RX5 cX5_judge 4 none (mF G (d + HX5_judge) K) 27 [(0, .ref (gA G 143)), (1, .int x1), (3, .int x3)] [] σ := by
  intro n
  induction n with
  | zero => intro x3 σ o h; exact absurd h (by simp [lX5_judge_27])
  | succ n ih =>
    intro x3 σ o h kx
    rw [lX5_judge_27] at h
    refine run_iload_n 2 dX5_judge_27 rfl rfl ?_
    refine run_sipush (v := 600) dX5_judge_28 rfl ?_
    refine run_icmp_ge 60 dX5_judge_31 (by decide) (fun c9 => ?_) (fun c9 => ?_)
    · rw [if_pos c9] at h
      rw [← Option.some.inj h] at kx
      refine run_forget [0] rfl ?_
      exact kx
    · rw [if_neg c9] at h
      refine run_aload_n 0 dX5_judge_34 rfl rfl ?_
      refine run_iload_n 1 dX5_judge_35 rfl rfl ?_
      obtain ⟨q10, h17, h⟩ := Option.bind_eq_some_iff.mp h
      refine run_callVb (As := [.int x1]) (fun r z => (r, z) = q10) mw_X5_readLine mi_X5_readLine ml_X5_39 is_143 (by decide) rfl rfl rfl (RF.lt (HX5_judge_X5_readLine_lt d)) (Nat.le_of_ble_eq_true rfl) dX5_judge_36 (sX5_readLine G d  h17) (fun r z h8 => ?_) rfl
      rw [show r = q10.1 from congrArg Prod.fst h8, show z = q10.2 from congrArg Prod.snd h8]
      clear h8
      refine run_ifb_eq 60 dX5_judge_39 (by decide) (fun c11 => ?_) (fun c11 => ?_)
      · rw [if_neg c11] at h
        rw [← Option.some.inj h] at kx
        refine run_forget [0] rfl ?_
        exact kx
      · rw [if_pos c11] at h
        refine run_aload_n 0 dX5_judge_42 rfl rfl ?_
        refine run_geti fl_X5_26 is_143 (by decide) rfl dX5_judge_43 ?_
        obtain ⟨q15, h, h9⟩ := Option.bind_eq_some_iff.mp h
        have hj16 : Run G RX5 cX5_judge 4 none (mF G (d + HX5_judge) K) 54 [(0, .ref (gA G 143)), (1, .int x1), (3, .int x3)] [] q15 := by
          clear h
          have h := h9
          clear h9
          refine run_iinc 2 [(0, .ref (gA G 143)), (1, .int x1), (3, .int (x3 + 1))] [1, 2, 0] dX5_judge_54 rfl rfl (by decide) rfl ?_
          refine run_goto 27 dX5_judge_57 (by decide) ?_
          exact ih _ _ _ h kx
        clear h9
        refine run_if_ne 54 dX5_judge_46 (by decide) (fun c12 => ?_) (fun c12 => ?_)
        · rw [if_neg c12] at h
          rw [← Option.some.inj h] at hj16
          exact hj16
        · rw [if_pos c12] at h
          refine run_aload_n 0 dX5_judge_49 rfl rfl ?_
          refine run_iload_n 1 dX5_judge_50 rfl rfl ?_
          obtain ⟨q13, h14, h⟩ := Option.bind_eq_some_iff.mp h
          refine run_callVv (As := [.int x1]) (fun z => z = q13) mw_X5_judgeLine mi_X5_judgeLine ml_X5_43 is_143 (by decide) rfl rfl rfl (RF.lt (HX5_judge_X5_judgeLine_lt d)) (Nat.le_of_ble_eq_true rfl) dX5_judge_51 (sX5_judgeLine G d  h14) (fun z h8 => ?_) rfl
          rw [h8]
          clear h8
          rw [← Option.some.inj h] at hj16
          exact hj16
def fX5_judge (x1 : Int32) (x2 : Int32) (σ : Mem) : Option Mem := (fX5_rewind x2 σ).bind fun q1 => (lX5_judge_27 x1 FU 0 (st2 (st2 (st2 (st2 q1 143 13 0) 143 14 (-1)) 143 11 0) 143 12 0)).bind fun q18 => if (q18 143 6) = 0 then (some q18) else ((fX5_blame 1 (q18 143 4) q18).bind fun q20 => some q20)
set_option maxRecDepth 20000 in
theorem sX5_judge (G : GT) (d : Nat) {x1 : Int32} {x2 : Int32}  {σ : Mem} {o : Mem} (h : fX5_judge x1 x2 σ = some o) : Spec G yX5_judge cX5_judge 4 none (d + HX5_judge) [.ref (gA G 143), .int x1, .int x2] σ (kV fun z => z = o) := by
  refine spec_run (by decide) (Nat.le_of_ble_eq_true rfl) ?_
  unfold fX5_judge at h
  show Run G RX5 cX5_judge 4 none _ 0 [(0, .ref (gA G 143)), (1, .int x1), (2, .int x2)] [] σ
  refine run_aload_n 0 dX5_judge_0 rfl rfl ?_
  refine run_iload_n 2 dX5_judge_1 rfl rfl ?_
  obtain ⟨q1, h23, h⟩ := Option.bind_eq_some_iff.mp h
  refine run_callVv (As := [.int x2]) (fun z => z = q1) mw_X5_rewind mi_X5_rewind ml_X5_22 is_143 (by decide) rfl rfl rfl (RF.lt (HX5_judge_X5_rewind_lt d)) (Nat.le_of_ble_eq_true rfl) dX5_judge_2 (sX5_rewind G d  h23) (fun z h8 => ?_) rfl
  rw [h8]
  clear h8
  refine run_aload_n 0 dX5_judge_5 rfl rfl ?_
  refine run_iconst (v := 0) dX5_judge_6 rfl ?_
  refine run_puti fp_X5_26 is_143 (by decide) rfl dX5_judge_7 ?_
  refine run_aload_n 0 dX5_judge_10 rfl rfl ?_
  refine run_iconst (v := -1) dX5_judge_11 rfl ?_
  refine run_puti fp_X5_30 is_143 (by decide) rfl dX5_judge_12 ?_
  refine run_aload_n 0 dX5_judge_15 rfl rfl ?_
  refine run_iconst (v := 0) dX5_judge_16 rfl ?_
  refine run_puti fp_X5_33 is_143 (by decide) rfl dX5_judge_17 ?_
  refine run_aload_n 0 dX5_judge_20 rfl rfl ?_
  refine run_iconst (v := 0) dX5_judge_21 rfl ?_
  refine run_puti fp_X5_36 is_143 (by decide) rfl dX5_judge_22 ?_
  refine run_iconst (v := 0) dX5_judge_25 rfl ?_
  refine run_istore_n [(0, .ref (gA G 143)), (1, .int x1), (3, .int 0)] [1, 2, 0] dX5_judge_26 rfl (by decide) rfl ?_
  obtain ⟨q18, h22, h⟩ := Option.bind_eq_some_iff.mp h
  refine lpX5_judge_27 G d _ _ _ _ _ h22 ?_
  refine run_aload_n 0 dX5_judge_60 rfl rfl ?_
  refine run_geti fl_X5_46 is_143 (by decide) rfl dX5_judge_61 ?_
  refine run_if_eq 76 dX5_judge_64 (by decide) (fun c19 => ?_) (fun c19 => ?_)
  · rw [if_pos c19] at h
    exact run_vret dX5_judge_76 ⟨rfl, Option.some.inj h⟩
  · rw [if_neg c19] at h
    refine run_aload_n 0 dX5_judge_67 rfl rfl ?_
    refine run_iconst (v := 1) dX5_judge_68 rfl ?_
    refine run_aload_n 0 dX5_judge_69 rfl rfl ?_
    refine run_geti fl_X5_50 is_143 (by decide) rfl dX5_judge_70 ?_
    obtain ⟨q20, h21, h⟩ := Option.bind_eq_some_iff.mp h
    refine run_callVv (As := [.int 1, .int (q18 143 4)]) (fun z => z = q20) mw_X5_blame mi_X5_blame ml_X5_53 is_143 (by decide) rfl rfl rfl (RF.lt (HX5_judge_X5_blame_lt d)) (Nat.le_of_ble_eq_true rfl) dX5_judge_73 (sX5_blame G d  h21) (fun z h8 => ?_) rfl
    rw [h8]
    clear h8
    exact run_vret dX5_judge_76 ⟨rfl, Option.some.inj h⟩
def HX5_pour : Nat := 8
theorem HX5_pour_X5_readLine_lt (d : Nat) : d + HX5_readLine < d + HX5_pour := Nat.add_lt_add_left (by decide) d
theorem HX5_pour_X5_rewind_lt (d : Nat) : d + HX5_rewind < d + HX5_pour := Nat.add_lt_add_left (by decide) d
theorem HX5_pour_X9_clearPlace_lt (d : Nat) : d + HX9_clearPlace < d + HX5_pour := Nat.add_lt_add_left (by decide) d
theorem HX5_pour_X9_takeLine_lt (d : Nat) : d + HX9_takeLine < d + HX5_pour := Nat.add_lt_add_left (by decide) d
theorem HX5_pour_0 (d : Nat) : 0 < d + HX5_pour := Nat.lt_of_lt_of_le (by decide) (Nat.le_add_left _ d)
def lX5_pour_15 (x1 : Int32) (n3 : Nat) (x4 : Int32) : Nat → Int32 → Mem → Option (Mem)
  | 0, _, _ => none
  | n + 1, x5, σ => if 600 ≤ x5 then (some σ) else ((fX5_readLine x1 σ).bind fun q8 => if q8.1 = true then ((fX9_takeLine n3 x1 x4 (q8.2 143 7) (q8.2 144 0) (q8.2 144 1) q8.2).bind fun q10 => lX5_pour_15 x1 n3 x4 n (x5 + 1) q10) else (some q8.2))
set_option maxRecDepth 20000 in
theorem lpX5_pour_15 (G : GT) (d : Nat) (x1 : Int32) (n3 : Nat) (x4 : Int32) (hn3 : Is n3 9) {K : Option Value → Mem → Prop} : ∀ (n : Nat) (x5 : Int32) (σ : Mem) (o : Mem), lX5_pour_15 x1 n3 x4 n x5 σ = some o → (Run G RX5 cX5_pour 6 none (mF G (d + HX5_pour) K) 60 [] [] o) → Run G RX5 cX5_pour 6 none (mF G (d + HX5_pour) K) 15 [(0, .ref (gA G 143)), (1, .int x1), (3, .ref (gA G n3)), (4, .int x4), (5, .int x5)] [] σ := by
  intro n
  induction n with
  | zero => intro x5 σ o h; exact absurd h (by simp [lX5_pour_15])
  | succ n ih =>
    intro x5 σ o h kx
    rw [lX5_pour_15] at h
    refine run_iload 4 dX5_pour_15 rfl ?_
    refine run_sipush (v := 600) dX5_pour_17 rfl ?_
    refine run_icmp_ge 60 dX5_pour_20 (by decide) (fun c7 => ?_) (fun c7 => ?_)
    · rw [if_pos c7] at h
      rw [← Option.some.inj h] at kx
      refine run_forget [] rfl ?_
      exact kx
    · rw [if_neg c7] at h
      refine run_aload_n 0 dX5_pour_23 rfl rfl ?_
      refine run_iload_n 1 dX5_pour_24 rfl rfl ?_
      obtain ⟨q8, h12, h⟩ := Option.bind_eq_some_iff.mp h
      refine run_callVb (As := [.int x1]) (fun r z => (r, z) = q8) mw_X5_readLine mi_X5_readLine ml_X5_39 is_143 (by decide) rfl rfl rfl (RF.lt (HX5_pour_X5_readLine_lt d)) (Nat.le_of_ble_eq_true rfl) dX5_pour_25 (sX5_readLine G d  h12) (fun r z h8 => ?_) rfl
      rw [show r = q8.1 from congrArg Prod.fst h8, show z = q8.2 from congrArg Prod.snd h8]
      clear h8
      refine run_ifb_eq 60 dX5_pour_28 (by decide) (fun c9 => ?_) (fun c9 => ?_)
      · rw [if_neg c9] at h
        rw [← Option.some.inj h] at kx
        refine run_forget [] rfl ?_
        exact kx
      · rw [if_pos c9] at h
        refine run_aload_n 2 dX5_pour_31 rfl rfl ?_
        refine run_iload_n 1 dX5_pour_32 rfl rfl ?_
        refine run_iload 3 dX5_pour_33 rfl ?_
        refine run_aload_n 0 dX5_pour_35 rfl rfl ?_
        refine run_geti fl_X5_62 is_143 (by decide) rfl dX5_pour_36 ?_
        refine run_aload_n 0 dX5_pour_39 rfl rfl ?_
        refine run_getr fl_X5_9 is_143 (by decide) rfl ce_143_9 dX5_pour_40 ?_
        refine run_iconst (v := 0) dX5_pour_43 rfl ?_
        refine run_iald' (j := 0) is_144 ln_144 (by decide) rfl dX5_pour_44 ?_
        refine run_aload_n 0 dX5_pour_45 rfl rfl ?_
        refine run_getr fl_X5_9 is_143 (by decide) rfl ce_143_9 dX5_pour_46 ?_
        refine run_iconst (v := 1) dX5_pour_49 rfl ?_
        refine run_iald' (j := 1) is_144 ln_144 (by decide) rfl dX5_pour_50 ?_
        obtain ⟨q10, h11, h⟩ := Option.bind_eq_some_iff.mp h
        refine run_callVv (As := [.int x1, .int x4, .int (q8.2 143 7), .int (q8.2 144 0), .int (q8.2 144 1)]) (fun z => z = q10) mw_X9_takeLine mi_X9_takeLine ml_X5_65 hn3 (by decide) rfl rfl rfl (RF.lt (HX5_pour_X9_takeLine_lt d)) (Nat.le_of_ble_eq_true rfl) dX5_pour_51 (sX9_takeLine G d hn3 h11) (fun z h8 => ?_) rfl
        rw [h8]
        clear h8
        refine run_iinc 4 [(0, .ref (gA G 143)), (1, .int x1), (3, .ref (gA G n3)), (4, .int x4), (5, .int (x5 + 1))] [1, 2, 3, 4, 0] dX5_pour_54 rfl rfl (by decide) rfl ?_
        refine run_goto 15 dX5_pour_57 (by decide) ?_
        exact ih _ _ _ h kx
def fX5_pour (x1 : Int32) (x2 : Int32) (n3 : Nat) (x4 : Int32) (σ : Mem) : Option Mem := (fX5_rewind x2 σ).bind fun q1 => (fX9_clearPlace n3 x1 x4 q1).bind fun q2 => (lX5_pour_15 x1 n3 x4 FU 0 q2).bind fun q13 => some q13
set_option maxRecDepth 20000 in
theorem sX5_pour (G : GT) (d : Nat) {x1 : Int32} {x2 : Int32} {n3 : Nat} {x4 : Int32} (hn3 : Is n3 9) {σ : Mem} {o : Mem} (h : fX5_pour x1 x2 n3 x4 σ = some o) : Spec G yX5_pour cX5_pour 6 none (d + HX5_pour) [.ref (gA G 143), .int x1, .int x2, .ref (gA G n3), .int x4] σ (kV fun z => z = o) := by
  refine spec_run (by decide) (Nat.le_of_ble_eq_true rfl) ?_
  unfold fX5_pour at h
  show Run G RX5 cX5_pour 6 none _ 0 [(0, .ref (gA G 143)), (1, .int x1), (2, .int x2), (3, .ref (gA G n3)), (4, .int x4)] [] σ
  refine run_aload_n 0 dX5_pour_0 rfl rfl ?_
  refine run_iload_n 2 dX5_pour_1 rfl rfl ?_
  obtain ⟨q1, h16, h⟩ := Option.bind_eq_some_iff.mp h
  refine run_callVv (As := [.int x2]) (fun z => z = q1) mw_X5_rewind mi_X5_rewind ml_X5_22 is_143 (by decide) rfl rfl rfl (RF.lt (HX5_pour_X5_rewind_lt d)) (Nat.le_of_ble_eq_true rfl) dX5_pour_2 (sX5_rewind G d  h16) (fun z h8 => ?_) rfl
  rw [h8]
  clear h8
  refine run_aload_n 3 dX5_pour_5 rfl rfl ?_
  refine run_iload_n 1 dX5_pour_6 rfl rfl ?_
  refine run_iload 4 dX5_pour_7 rfl ?_
  obtain ⟨q2, h15, h⟩ := Option.bind_eq_some_iff.mp h
  refine run_callVv (As := [.int x1, .int x4]) (fun z => z = q2) mw_X9_clearPlace mi_X9_clearPlace ml_X5_57 hn3 (by decide) rfl rfl rfl (RF.lt (HX5_pour_X9_clearPlace_lt d)) (Nat.le_of_ble_eq_true rfl) dX5_pour_9 (sX9_clearPlace G d hn3 h15) (fun z h8 => ?_) rfl
  rw [h8]
  clear h8
  refine run_iconst (v := 0) dX5_pour_12 rfl ?_
  refine run_istore [(0, .ref (gA G 143)), (1, .int x1), (3, .ref (gA G n3)), (4, .int x4), (5, .int 0)] [1, 2, 4, 5, 0] dX5_pour_13 (by decide) rfl ?_
  obtain ⟨q13, h14, h⟩ := Option.bind_eq_some_iff.mp h
  refine lpX5_pour_15 G d _ _ _ hn3 _ _ _ _ h14 ?_
  exact run_vret dX5_pour_60 ⟨rfl, Option.some.inj h⟩
def HX11_text : Nat := 9
theorem HX11_text_X5_judge_lt (d : Nat) : d + HX5_judge < d + HX11_text := Nat.add_lt_add_left (by decide) d
theorem HX11_text_X5_pour_lt (d : Nat) : d + HX5_pour < d + HX11_text := Nat.add_lt_add_left (by decide) d
theorem HX11_text_X9_placeFor_lt (d : Nat) : d + HX9_placeFor < d + HX11_text := Nat.add_lt_add_left (by decide) d
theorem HX11_text_0 (d : Nat) : 0 < d + HX11_text := Nat.lt_of_lt_of_le (by decide) (Nat.le_add_left _ d)
def fX11_text (x1 : Int32) (x2 : Int32) (σ : Mem) : Option (Int32 × Mem) := (fX9_placeFor 1 x1 x2 (st2 (st2 (st2 σ 1 2 0) 1 3 (-1)) 1 1 0)).bind fun q1 => if 0 ≤ q1.1 then ((fX5_judge x1 ((st2 (st2 σ 1 2 0) 1 3 (-1)) 1 1) q1.2).bind fun q3 => if (q3 143 13) = 0 then ((fX5_pour x1 ((st2 (st2 σ 1 2 0) 1 3 (-1)) 1 1) 1 q1.1 q3).bind fun q5 => if x2 = (-1) then (gd (inb x1 4) (gd (inb x1 4) (some (q1.1, (st2 q5 3 (Int32.toNatClampNeg x1) ((q5 3 (Int32.toNatClampNeg x1)) + 1)))))) else (some (q1.1, q5))) else (some ((-1), (st2 (st2 q3 1 2 (q3 143 13)) 1 3 ((st2 q3 1 2 (q3 143 13)) 143 14))))) else (some ((-2), q1.2))
set_option maxRecDepth 20000 in
theorem sX11_text (G : GT) (d : Nat) {x1 : Int32} {x2 : Int32}  {σ : Mem} {o : (Int32 × Mem)} (h : fX11_text x1 x2 σ = some o) : Spec G yX11_text cX11_text 5 (some .int) (d + HX11_text) [.ref (gA G 0), .int x1, .int x2] σ (kI fun x z => (x, z) = o) := by
  refine spec_run (by decide) (Nat.le_of_ble_eq_true rfl) ?_
  unfold fX11_text at h
  show Run G RX11 cX11_text 5 (some .int) _ 0 [(0, .ref (gA G 0)), (1, .int x1), (2, .int x2)] [] σ
  refine run_aload_n 0 dX11_text_0 rfl rfl ?_
  refine run_getr fl_X11_10 is_0 (by decide) rfl ce_0_0 dX11_text_1 ?_
  refine run_iconst (v := 0) dX11_text_4 rfl ?_
  refine run_puti fp_X11_86 is_1 (by decide) rfl dX11_text_5 ?_
  refine run_aload_n 0 dX11_text_8 rfl rfl ?_
  refine run_getr fl_X11_10 is_0 (by decide) rfl ce_0_0 dX11_text_9 ?_
  refine run_iconst (v := -1) dX11_text_12 rfl ?_
  refine run_puti fp_X11_89 is_1 (by decide) rfl dX11_text_13 ?_
  refine run_aload_n 0 dX11_text_16 rfl rfl ?_
  refine run_getr fl_X11_10 is_0 (by decide) rfl ce_0_0 dX11_text_17 ?_
  refine run_geti fl_X11_78 is_1 (by decide) rfl dX11_text_20 ?_
  refine run_istore_n [(0, .ref (gA G 0)), (1, .int x1), (2, .int x2), (3, .int ((st2 (st2 σ 1 2 0) 1 3 (-1)) 1 1))] [1, 2, 3, 0] dX11_text_23 rfl (by decide) rfl ?_
  refine run_aload_n 0 dX11_text_24 rfl rfl ?_
  refine run_getr fl_X11_10 is_0 (by decide) rfl ce_0_0 dX11_text_25 ?_
  refine run_iconst (v := 0) dX11_text_28 rfl ?_
  refine run_puti fp_X11_78 is_1 (by decide) rfl dX11_text_29 ?_
  refine run_aload_n 0 dX11_text_32 rfl rfl ?_
  refine run_getr fl_X11_10 is_0 (by decide) rfl ce_0_0 dX11_text_33 ?_
  refine run_iload_n 1 dX11_text_36 rfl rfl ?_
  refine run_iload_n 2 dX11_text_37 rfl rfl ?_
  obtain ⟨q1, h11, h⟩ := Option.bind_eq_some_iff.mp h
  refine run_callVi (As := [.int x1, .int x2]) (fun r z => (r, z) = q1) mw_X9_placeFor mi_X9_placeFor ml_X11_92 is_1 (by decide) rfl rfl rfl (RF.lt (HX11_text_X9_placeFor_lt d)) (Nat.le_of_ble_eq_true rfl) dX11_text_38 (sX9_placeFor G d is_1 h11) (fun r z h8 => ?_) rfl
  rw [show r = q1.1 from congrArg Prod.fst h8, show z = q1.2 from congrArg Prod.snd h8]
  clear h8
  refine run_istore [(0, .ref (gA G 0)), (1, .int x1), (2, .int x2), (3, .int ((st2 (st2 σ 1 2 0) 1 3 (-1)) 1 1)), (4, .int q1.1)] [1, 2, 3, 4, 0] dX11_text_41 (by decide) rfl ?_
  refine run_iload 4 dX11_text_43 rfl ?_
  refine run_if_ge 51 dX11_text_45 (by decide) (fun c2 => ?_) (fun c2 => ?_)
  · rw [if_pos c2] at h
    refine run_aload_n 0 dX11_text_51 rfl rfl ?_
    refine run_getr fl_X11_33 is_0 (by decide) rfl ce_0_3 dX11_text_52 ?_
    refine run_iload_n 1 dX11_text_55 rfl rfl ?_
    refine run_iload_n 3 dX11_text_56 rfl rfl ?_
    obtain ⟨q3, h10, h⟩ := Option.bind_eq_some_iff.mp h
    refine run_callVv (As := [.int x1, .int ((st2 (st2 σ 1 2 0) 1 3 (-1)) 1 1)]) (fun z => z = q3) mw_X5_judge mi_X5_judge ml_X11_96 is_143 (by decide) rfl rfl rfl (RF.lt (HX11_text_X5_judge_lt d)) (Nat.le_of_ble_eq_true rfl) dX11_text_57 (sX5_judge G d  h10) (fun z h8 => ?_) rfl
    rw [h8]
    clear h8
    refine run_aload_n 0 dX11_text_60 rfl rfl ?_
    refine run_getr fl_X11_33 is_0 (by decide) rfl ce_0_3 dX11_text_61 ?_
    refine run_geti fl_X11_100 is_143 (by decide) rfl dX11_text_64 ?_
    refine run_if_eq 100 dX11_text_67 (by decide) (fun c4 => ?_) (fun c4 => ?_)
    · rw [if_pos c4] at h
      refine run_aload_n 0 dX11_text_100 rfl rfl ?_
      refine run_getr fl_X11_33 is_0 (by decide) rfl ce_0_3 dX11_text_101 ?_
      refine run_iload_n 1 dX11_text_104 rfl rfl ?_
      refine run_iload_n 3 dX11_text_105 rfl rfl ?_
      refine run_aload_n 0 dX11_text_106 rfl rfl ?_
      refine run_getr fl_X11_10 is_0 (by decide) rfl ce_0_0 dX11_text_107 ?_
      refine run_iload 4 dX11_text_110 rfl ?_
      obtain ⟨q5, h9, h⟩ := Option.bind_eq_some_iff.mp h
      refine run_callVv (As := [.int x1, .int ((st2 (st2 σ 1 2 0) 1 3 (-1)) 1 1), .ref (gA G 1), .int q1.1]) (fun z => z = q5) mw_X5_pour mi_X5_pour ml_X11_102 is_143 (by decide) rfl rfl rfl (RF.lt (HX11_text_X5_pour_lt d)) (Nat.le_of_ble_eq_true rfl) dX11_text_112 (sX5_pour G d is_1 h9) (fun z h8 => ?_) rfl
      rw [h8]
      clear h8
      refine run_iload_n 2 dX11_text_115 rfl rfl ?_
      refine run_iconst (v := -1) dX11_text_116 rfl ?_
      refine run_icmp_ne 133 dX11_text_117 (by decide) (fun c6 => ?_) (fun c6 => ?_)
      · rw [if_neg c6] at h
        refine run_iload 4 dX11_text_133 rfl ?_
        exact run_iret dX11_text_135 ⟨_, rfl, Option.some.inj h⟩
      · rw [if_pos c6] at h
        refine run_aload_n 0 dX11_text_120 rfl rfl ?_
        refine run_getr fl_X11_10 is_0 (by decide) rfl ce_0_0 dX11_text_121 ?_
        refine run_getr fl_X11_106 is_1 (by decide) rfl ce_1_4 dX11_text_124 ?_
        refine run_iload_n 1 dX11_text_127 rfl rfl ?_
        refine run_dup2 dX11_text_128 rfl rfl ?_
        obtain ⟨g7, h⟩ := gd_s h
        refine run_iald' is_3 ln_3 g7 rfl dX11_text_129 ?_
        refine run_iconst (v := 1) dX11_text_130 rfl ?_
        refine run_iadd dX11_text_131 ?_
        obtain ⟨g8, h⟩ := gd_s h
        refine run_iast' is_3 ln_3 g8 rfl dX11_text_132 ?_
        refine run_iload 4 dX11_text_133 rfl ?_
        exact run_iret dX11_text_135 ⟨_, rfl, Option.some.inj h⟩
    · rw [if_neg c4] at h
      refine run_aload_n 0 dX11_text_70 rfl rfl ?_
      refine run_getr fl_X11_10 is_0 (by decide) rfl ce_0_0 dX11_text_71 ?_
      refine run_aload_n 0 dX11_text_74 rfl rfl ?_
      refine run_getr fl_X11_33 is_0 (by decide) rfl ce_0_3 dX11_text_75 ?_
      refine run_geti fl_X11_100 is_143 (by decide) rfl dX11_text_78 ?_
      refine run_puti fp_X11_86 is_1 (by decide) rfl dX11_text_81 ?_
      refine run_aload_n 0 dX11_text_84 rfl rfl ?_
      refine run_getr fl_X11_10 is_0 (by decide) rfl ce_0_0 dX11_text_85 ?_
      refine run_aload_n 0 dX11_text_88 rfl rfl ?_
      refine run_getr fl_X11_33 is_0 (by decide) rfl ce_0_3 dX11_text_89 ?_
      refine run_geti fl_X11_101 is_143 (by decide) rfl dX11_text_92 ?_
      refine run_puti fp_X11_89 is_1 (by decide) rfl dX11_text_95 ?_
      refine run_iconst (v := -1) dX11_text_98 rfl ?_
      exact run_iret dX11_text_99 ⟨_, rfl, Option.some.inj h⟩
  · rw [if_neg c2] at h
    refine run_bipush (v := -2) dX11_text_48 rfl ?_
    exact run_iret dX11_text_50 ⟨_, rfl, Option.some.inj h⟩
