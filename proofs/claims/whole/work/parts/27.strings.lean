/-! ===== rows over what was there before; String.length, String.charAt ===== -/
section RUNOLD
variable {G : GT} {own : String} {cc : ByteArray} {nL : Nat} {rt : Option FieldType} {F : FT} {pc d : Nat} {lv lv' : List (Nat × Value)} {st : List Value} {σ : Mem} {K : Option Value → Mem → Prop}
theorem aw_old (hg : gOK G) {sz : Nat} (h : (g0 G).heap.size ≤ sz) : ∀ q, aw G sz q → gOld G q := fun q hq => by
  rcases hq with ⟨n, hn, rfl⟩ | z
  · exact hg.2.1 n hn
  · exact Nat.le_trans h z
theorem run_gets {idx : Nat} {C n t : String} {v : Value} (hZ : va_Z C n t v (gOld G) (g0 G) (g0 G).heap) (hl : Cond.fieldLink own idx C n t ∈ gw) (hd : decode cc pc = .ok (.getstatic idx, 3)) (k : Run G own cc nL rt F (pc + 3) lv (v :: st) σ) : Run G own cc nL rt F pc lv st σ := by
  intro p l e s m args below meth c H locs ls X hP hS hl2
  have hC := X.2.2.2.2.2.2.2.1
  have hH := X.2.2.2.2.2.2.2.2
  exact va_gets X.1 X.2.1 (((hZ.moved hC.2.2.2.alike).kept (fun a ha _ => hH.2 a ha)).narrow (aw_old hC.1 hH.1)) hS X.2.2.2.1 (X.2.2.2.2.2.2.1 _ hl) (fun _ h => h) hd (k p l e s m args below meth c H locs ls X hP hS hl2)
theorem run_getsN {idx : Nat} {C n t host : String} {v : Value} (hZ : va_Z C n t v (gOld G) (g0 G) (g0 G).heap) (hl : Cond.fieldLinkNest own idx C n t host ∈ nw) (hd : decode cc pc = .ok (.getstatic idx, 3)) (k : Run G own cc nL rt F (pc + 3) lv (v :: st) σ) : Run G own cc nL rt F pc lv st σ := by
  intro p l e s m args below meth c H locs ls X hP hS hl2
  have hC := X.2.2.2.2.2.2.2.1
  have hH := X.2.2.2.2.2.2.2.2
  exact va_getsN X.1 X.2.1 (((hZ.moved hC.2.2.2.alike).kept (fun a ha _ => hH.2 a ha)).narrow (aw_old hC.1 hH.1)) hS X.2.2.2.1 (va_Nw.use (nest_on (List.mem_filter.mp hl).2) (hC.2.2.1 _ hl)) (fun _ h => h) hd (k p l e s m args below meth c H locs ls X hP hS hl2)
/-- a table of ints is asked for: its address comes along -/
theorem run_getT {idx : Nat} (k : Nat) {host : String} (hs : gPre G → ∃ a, SA G k a) (hl : Cond.fieldLinkNest own idx "EpochEngine" (saN.getD k "") "[I" host ∈ nw) (hd : decode cc pc = .ok (.getstatic idx, 3)) (kk : ∀ a, SA G k a → Run G own cc nL rt F (pc + 3) lv (.ref a :: st) σ) : Run G own cc nL rt F pc lv st σ := by
  intro p l e s m args below meth c H locs ls X hP hS hl2
  obtain ⟨a, ha⟩ := hs X.2.2.2.2.2.2.2.1.1.2.2
  exact run_getsN ha.1 hl hd (kk a ha) p l e s m args below meth c H locs ls X hP hS hl2
theorem run_sald {k a j N : Nat} {i : Int32} (hs : SA G k a) (hN : saL k = N) (hi : inb i N = true) (hj : i.toNatClampNeg = j) (hd : decode cc pc = .ok (.iaload, 1)) (kk : Run G own cc nL rt F (pc + 1) lv (.int (saV k j) :: st) σ) : Run G own cc nL rt F pc lv (.int i :: .ref a :: st) σ := by
  intro p l e s m args below meth c H locs ls X hP hS hl2
  subst hj
  subst hN
  have hC := X.2.2.2.2.2.2.2.1
  have hH := X.2.2.2.2.2.2.2.2
  exact va_ti X.1 X.2.1 (((hs.2.moved hC.2.2.2.alike).kept (fun a ha _ => hH.2 a ha)).narrow (aw_old hC.1 hH.1)) hS (inb_vp hi) rfl hd (kk p l e s m args below meth c H locs ls X hP hS hl2)
theorem run_sget {idx a : Nat} {o n t : String} {v : Value} (hF : va_OF o n t v a (gOld G) (g0 G) (g0 G).heap) (hl : Cond.fieldLink own idx o n t ∈ gw) (hd : decode cc pc = .ok (.getfield idx, 3)) (k : Run G own cc nL rt F (pc + 3) lv (v :: st) σ) : Run G own cc nL rt F pc lv (.ref a :: st) σ := by
  intro p l e s m args below meth c H locs ls X hP hS hl2
  have hC := X.2.2.2.2.2.2.2.1
  have hH := X.2.2.2.2.2.2.2.2
  exact vk_getf X.1 X.2.1 (((hF.moved hC.2.2.2.alike).kept (fun a ha _ => hH.2 a ha)).narrow (aw_old hC.1 hH.1)) hS X.2.2.2.1 (X.2.2.2.2.2.2.1 _ hl) (fun _ h => h) hd (k p l e s m args below meth c H locs ls X hP hS hl2)
theorem run_tlen {t N : Nat} {f : Nat → Value} {ty : FieldType} (hT : va_T ty t N f (gOld G) (g0 G) (g0 G).heap) (hd : decode cc pc = .ok (.arraylength, 1)) (k : Run G own cc nL rt F (pc + 1) lv (.int (nI N) :: st) σ) : Run G own cc nL rt F pc lv (.ref t :: st) σ := by
  intro p l e s m args below meth c H locs ls X hP hS hl2
  have hC := X.2.2.2.2.2.2.2.1
  have hH := X.2.2.2.2.2.2.2.2
  exact va_tlen X.1 X.2.1 (((hT.moved hC.2.2.2.alike).kept (fun a ha _ => hH.2 a ha)).narrow (aw_old hC.1 hH.1)) hS (v := nI N) rfl hd (k p l e s m args below meth c H locs ls X hP hS hl2)
theorem run_tbld {t N j : Nat} {f : Nat → Value} {i : Int32} (hT : va_T .byte t N f (gOld G) (g0 G) (g0 G).heap) (hi : inb i N = true) (hj : i.toNatClampNeg = j) (hd : decode cc pc = .ok (.baload, 1)) (k : Run G own cc nL rt F (pc + 1) lv (f j :: st) σ) : Run G own cc nL rt F pc lv (.int i :: .ref t :: st) σ := by
  intro p l e s m args below meth c H locs ls X hP hS hl2
  subst hj
  have hC := X.2.2.2.2.2.2.2.1
  have hH := X.2.2.2.2.2.2.2.2
  exact va_tb X.1 X.2.1 (((hT.moved hC.2.2.2.alike).kept (fun a ha _ => hH.2 a ha)).narrow (aw_old hC.1 hH.1)) hS (inb_vp hi) rfl hd (k p l e s m args below meth c H locs ls X hP hS hl2)
theorem run_ldcS {idx q : Nat} {tx : String} (hZ : vk_R own idx tx q (g0 G)) (hd : decode cc pc = .ok (.ldc idx, 2)) (k : Run G own cc nL rt F (pc + 2) lv (.ref q :: st) σ) : Run G own cc nL rt F pc lv st σ := by
  intro p l e s m args below meth c H locs ls X hP hS hl2
  exact va_ldcS X.1 X.2.1 X.2.2.2.1 (hZ.warm X.2.2.2.2.2.2.2.1.2.2.2) hd (k p l e s m args below meth c H locs ls X hP hS hl2)
/-- a word of the language is asked for -/
theorem run_word {idx : Nat} (w : Nat) {tx : String} (hs : gPre G → ∃ a, vk_R own idx tx a (g0 G) ∧ STR G w a) (hd : decode cc pc = .ok (.ldc idx, 2)) (kk : ∀ a, STR G w a → Run G own cc nL rt F (pc + 2) lv (.ref a :: st) σ) : Run G own cc nL rt F pc lv st σ := by
  intro p l e s m args below meth c H locs ls X hP hS hl2
  obtain ⟨a, ha, hb⟩ := hs X.2.2.2.2.2.2.2.1.1.2.2
  exact run_ldcS ha hd (kk a hb) p l e s m args below meth c H locs ls X hP hS hl2
theorem run_callO {y : MethodName} {b : ByteArray} {mL idx a nA : Nat} {ret : Option FieldType} {As : List Value} (K' : Option Value → Mem → Prop) (hO : va_O y.cls a (gOld G) (g0 G) (g0 G).heap) (hw : MW y b mL ret nA) (hi : MI y) (hm : Cond.methodLink own idx y ∈ gw) (hA : As.length = nA) (hR : RF F d) (hst : (st.map fun v => v.category).sum ≤ 8) (hd : decode cc pc = .ok (.invokevirtual idx, 3))
    (hsp : Spec G y b mL ret d (.ref a :: As) σ K') (kk : ∀ v σ', K' v σ' → Run G own cc nL rt F (pc + 3) lv (v.toList ++ st) σ') {st0 : List Value} (hs0 : st0 = As.reverse ++ .ref a :: st) : Run G own cc nL rt F pc lv st0 σ := by
  intro p l e s m args below meth c H locs ls X hP hS hl
  have hts := X.2.2.2.2.2.2.1
  have hC := X.2.2.2.2.2.2.2.1
  have hH := X.2.2.2.2.2.2.2.2
  subst hs0
  refine wg_call (va_runV (As := As) (rest := st) (C := y.cls) (b := a) ⟨X.1, X.2.1, X.2.2.1, X.2.2.2.1, hts⟩ (hsp l H.size) (n := nA) (bytes := b) (maxL := mL) (ret := ret) ⟨callB_of nA hts (gw_in hw.2.1) rfl rfl rfl (hts _ hw.1) (hts _ hm) hw.2.2.1 ⟨hR.1, by have := hR.2.1; have := hw.2.2.2; show 8 + (mL + 11) + 30 * d ≤ _; omega⟩, hts _ hi.1, hts _ hi.2⟩ ⟨pre_blind, ?_, pre_at X hP hS⟩ rfl hA hl.1 rfl (lv_room hst) hd ⟨hR.2.2.1, hR.2.2.2⟩) hS (fun v σ' H1 locs1 q1 q2 q3 => kk v σ' q1 p l e s m args below meth c H1 locs1 ls X q2 q3 hl)
  obtain ⟨cell, h1, h2, h3, h4⟩ := ((hO.moved hC.2.2.2.alike).kept (fun a ha _ => hH.2 a ha)).narrow (aw_old hC.1 hH.1)
  exact ⟨cell, by rw [hS.2.1 a (Array.getElem?_eq_some_iff.mp h1).1 h4]; exact h1, h2, h3⟩
theorem run_callOi {y : MethodName} {b : ByteArray} {mL idx a nA : Nat} {ret : Option FieldType} {As : List Value} (x : Int32) (hO : va_O y.cls a (gOld G) (g0 G) (g0 G).heap) (hw : MW y b mL ret nA) (hi : MI y) (hm : Cond.methodLink own idx y ∈ gw) (hA : As.length = nA) (hR : RF F d) (hst : (st.map fun v => v.category).sum ≤ 8) (hd : decode cc pc = .ok (.invokevirtual idx, 3))
    (hsp : Spec G y b mL ret d (.ref a :: As) σ (kI fun r s => r = x ∧ s = σ)) (kk : Run G own cc nL rt F (pc + 3) lv (.int x :: st) σ) {st0 : List Value} (hs0 : st0 = As.reverse ++ .ref a :: st) : Run G own cc nL rt F pc lv st0 σ :=
  run_callO _ hO hw hi hm hA hR hst hd hsp (fun v s h => by obtain ⟨r, rfl, rfl, rfl⟩ := h; exact kk) hs0
theorem run_tret {x : Int32} {ty : FieldType} (hn : narrow ty (.int x) = .int x) (hd : decode cc pc = .ok (.ireturn, 1)) (k : K (some (.int x)) σ) : Run G own cc nL (some ty) (mF G d K) pc lv [.int x] σ := fun p l e s m args below meth c H locs ls X hP hS hl =>
  W.zret (Qc := QK G K (aw G s.heap.size)) (free := aw G s.heap.size) X.1 X.2.1 X.2.2.2.2.1 hn (fun t ht _ => QK.leave k hP hS ht) hS.2.2 hd X.2.2.2.2.2.1
theorem run_i2c {x v : Int32} (hv : (x.toUInt32 % 65536).toInt32 = v) (hd : decode cc pc = .ok (.i2c, 1)) (k : Run G own cc nL rt F (pc + 1) lv (.int v :: st) σ) : Run G own cc nL rt F pc lv (.int x :: st) σ := fun p l e s m args below meth c H locs ls X hP hS hl => lv_i2c X.1 X.2.1 hd hv (k p l e s m args below meth c H locs ls X hP hS hl)
theorem run_aloadV {k : Fin 4} {i : Nat} {v : Value} (hv : v = .null ∨ ∃ a, v = .ref a) (j : Nat) (hd : decode cc pc = .ok (.aload_n k, 1)) (hi : (k : Nat) = i) (hj : lv[j]? = some (i, v)) (kk : Run G own cc nL rt F (pc + 1) lv (v :: st) σ) : Run G own cc nL rt F pc lv st σ := fun p l e s m args below meth c H locs ls X hP hS hl => by
  rcases hv with rfl | ⟨a, rfl⟩
  · exact lv_aload_nN X.1 X.2.1 hd hi (lv_at hl j hj) (kk p l e s m args below meth c H locs ls X hP hS hl)
  · exact lv_aload_n X.1 X.2.1 hd hi (lv_at hl j hj) (kk p l e s m args below meth c H locs ls X hP hS hl)
theorem run_pre (k : gPre G → Run G own cc nL rt F pc lv st σ) : Run G own cc nL rt F pc lv st σ := fun p l e s m args below meth c H locs ls X hP hS hl => k X.2.2.2.2.2.2.2.1.1.2.2 p l e s m args below meth c H locs ls X hP hS hl
end RUNOLD
theorem jf_9 : Cond.fieldLink "java/lang/String" 9 "java/lang/String" "value" "[B" ∈ gw := gw_of 2068 (by decide +kernel) (by decide +kernel)
theorem jf_15 : Cond.fieldLink "java/lang/String" 15 "java/lang/String" "coder" "B" ∈ gw := gw_of 2069 (by decide +kernel) (by decide +kernel)
theorem jf_38 : Cond.fieldLink "java/lang/String" 38 "java/lang/String" "COMPACT_STRINGS" "Z" ∈ gw := gw_of 756 (by decide +kernel) (by decide +kernel)
theorem jf_1053 : Cond.fieldLink "java/lang/String" 1053 "jdk/internal/util/Preconditions" "SIOOBE_FORMATTER" "Ljava/util/function/BiFunction;" ∈ gw := gw_of 772 (by decide +kernel) (by decide +kernel)
theorem jm_335 : Cond.methodLink RJ0 335 yJ0_coder_7d493 ∈ gw := gw_of 752 (by decide +kernel) (by decide +kernel)
theorem jm_492 : Cond.methodLink RJ0 492 yJ0_isLatin1_aae02 ∈ gw := gw_of 762 (by decide +kernel) (by decide +kernel)
theorem jm_495 : Cond.methodLink RJ0 495 yJ1_charAt_3b067 ∈ gw := gw_of 766 (by decide +kernel) (by decide +kernel)
theorem jm_9 : Cond.methodLink RJ1 9 yJ0_checkIndex_df160 ∈ gw := gw_of 769 (by decide +kernel) (by decide +kernel)
theorem jm_1059 : Cond.methodLink RJ0 1059 yJ3_checkIndex_8e157 ∈ gw := gw_of 774 (by decide +kernel) (by decide +kernel)
theorem fn_X5_128 : Cond.fieldLinkNest RX5 128 "EpochEngine" "FIRST_WORD" "[I" "EpochEngine" ∈ nw := nw_of 720 (by decide +kernel) (by decide +kernel)
theorem fn_X5_87 : Cond.fieldLinkNest RX5 87 "EpochEngine" "NUMBERS_OF" "[I" "EpochEngine" ∈ nw := nw_of 796 (by decide +kernel) (by decide +kernel)
theorem fn_X5_90 : Cond.fieldLinkNest RX5 90 "EpochEngine" "LEAST_FIRST" "[I" "EpochEngine" ∈ nw := nw_of 810 (by decide +kernel) (by decide +kernel)
theorem fn_X5_93 : Cond.fieldLinkNest RX5 93 "EpochEngine" "MOST_FIRST" "[I" "EpochEngine" ∈ nw := nw_of 812 (by decide +kernel) (by decide +kernel)
theorem fn_X5_96 : Cond.fieldLinkNest RX5 96 "EpochEngine" "MOST_SECOND" "[I" "EpochEngine" ∈ nw := nw_of 814 (by decide +kernel) (by decide +kernel)
theorem sJ0_coder (G : GT) (d : Nat) {w a : Nat} (ha : STR G w a) {σ : Mem} (hg : gPre G) : Spec G yJ0_coder_7d493 cJ0_coder_7d493 1 (some .byte) (d + 1) [.ref a] σ (kI fun r s => r = 0 ∧ s = σ) := by
  refine spec_run (by decide) (Nat.le_of_ble_eq_true rfl) ?_
  show Run G RJ0 cJ0_coder_7d493 1 (some .byte) _ 0 [(0, .ref a)] [] σ
  refine run_gets (cs_at G hg) jf_38 dJ0_coder_7d493_0 ?_
  refine run_if_eq 13 dJ0_coder_7d493_3 (by decide) (fun q => absurd q (by decide)) (fun _ => ?_)
  refine run_aload_n 0 dJ0_coder_7d493_6 rfl rfl ?_
  refine run_sget ha.2.1 jf_15 dJ0_coder_7d493_7 ?_
  refine run_goto 14 dJ0_coder_7d493_10 (by decide) ?_
  exact run_tret rfl dJ0_coder_7d493_14 ⟨_, rfl, rfl, rfl⟩
theorem sJ0_isLatin1 (G : GT) (d : Nat) {w a : Nat} (ha : STR G w a) {σ : Mem} (hg : gPre G) : Spec G yJ0_isLatin1_aae02 cJ0_isLatin1_aae02 1 (some .boolean) (d + 1) [.ref a] σ (kI fun r s => r = 1 ∧ s = σ) := by
  refine spec_run (by decide) (Nat.le_of_ble_eq_true rfl) ?_
  show Run G RJ0 cJ0_isLatin1_aae02 1 (some .boolean) _ 0 [(0, .ref a)] [] σ
  refine run_gets (cs_at G hg) jf_38 dJ0_isLatin1_aae02_0 ?_
  refine run_if_eq 17 dJ0_isLatin1_aae02_3 (by decide) (fun q => absurd q (by decide)) (fun _ => ?_)
  refine run_aload_n 0 dJ0_isLatin1_aae02_6 rfl rfl ?_
  refine run_sget ha.2.1 jf_15 dJ0_isLatin1_aae02_7 ?_
  refine run_if_ne 17 dJ0_isLatin1_aae02_10 (by decide) (fun q => absurd rfl q) (fun _ => ?_)
  refine run_iconst (v := 1) dJ0_isLatin1_aae02_13 rfl ?_
  refine run_goto 18 dJ0_isLatin1_aae02_14 (by decide) ?_
  exact run_tret rfl dJ0_isLatin1_aae02_18 ⟨_, rfl, rfl, rfl⟩
theorem sJ0_length (G : GT) (d : Nat) {w a : Nat} (ha : STR G w a) {σ : Mem} (hg : gPre G) : Spec G yJ0_length_8abf5 cJ0_length_8abf5 1 (some .int) (d + 2) [.ref a] σ (kI fun r s => r = nI (stL w) ∧ s = σ) := by
  refine spec_run (by decide) (Nat.le_of_ble_eq_true rfl) ?_
  show Run G RJ0 cJ0_length_8abf5 1 (some .int) _ 0 [(0, .ref a)] [] σ
  obtain ⟨t, h1, h2⟩ := ha.2.2
  refine run_aload_n 0 dJ0_length_8abf5_0 rfl rfl ?_
  refine run_sget h1 jf_9 dJ0_length_8abf5_1 ?_
  refine run_tlen h2 dJ0_length_8abf5_4 ?_
  refine run_aload_n 0 dJ0_length_8abf5_5 rfl rfl ?_
  refine run_callOi (As := []) 0 ha.1 mw_J0_coder_7d493 mi_J0_coder_7d493 jm_335 rfl (RF.lt (show d + 1 < d + 2 by omega)) (Nat.le_of_ble_eq_true rfl) dJ0_length_8abf5_6 (sJ0_coder G d ha hg) ?_ rfl
  refine run_ishr dJ0_length_8abf5_9 ?_
  refine run_iret dJ0_length_8abf5_10 ⟨_, rfl, ?_, rfl⟩
  show nI (stL w) >>> (0 &&& 31 : Int32) = nI (stL w)
  rw [show (0 &&& 31 : Int32) = 0 by decide]
  simp
theorem inb_nI_of {x : Int32} {N : Nat} (hi : inb x N = true) (hN : N < 2 ^ 31) : ¬ x < 0 ∧ x < nI N := by
  obtain ⟨j, hj, rfl⟩ := vp_in_of (inb_vp hi) hN
  exact ⟨nI_pos (by omega), nI_lt hj hN⟩
theorem sJ3_ck (G : GT) (d : Nat) {x : Int32} {N : Nat} {v : Value} (hv : v = .null ∨ ∃ a, v = .ref a) {σ : Mem} (hi : inb x N = true) (hN : N < 2 ^ 31) : Spec G yJ3_checkIndex_8e157 cJ3_checkIndex_8e157 3 (some .int) (d + 1) [.int x, .int (nI N), v] σ (kI fun r s => r = x ∧ s = σ) := by
  obtain ⟨h1, h2⟩ := inb_nI_of hi hN
  have key : Run G RJ3 cJ3_checkIndex_8e157 3 (some .int) (mF G (d + 1) (kI fun r s => r = x ∧ s = σ)) 0 [(0, .int x), (1, .int (nI N)), (2, v)] [] σ := by
    refine run_iload_n 0 dJ3_checkIndex_8e157_0 rfl rfl ?_
    refine run_if_lt 9 dJ3_checkIndex_8e157_1 (by decide) (fun q => absurd q h1) (fun _ => ?_)
    refine run_iload_n 0 dJ3_checkIndex_8e157_4 rfl rfl ?_
    refine run_iload_n 1 dJ3_checkIndex_8e157_5 rfl rfl ?_
    refine run_icmp_lt 16 dJ3_checkIndex_8e157_6 (by decide) (fun _ => ?_) (fun q => absurd h2 q)
    refine run_iload_n 0 dJ3_checkIndex_8e157_16 rfl rfl ?_
    exact run_iret dJ3_checkIndex_8e157_17 ⟨_, rfl, rfl, rfl⟩
  rcases hv with rfl | ⟨a, rfl⟩
  · exact spec_run (by decide) (Nat.le_of_ble_eq_true rfl) key
  · exact spec_run (by decide) (Nat.le_of_ble_eq_true rfl) key
theorem sJ0_checkIndex (G : GT) (d : Nat) {x : Int32} {N : Nat} {σ : Mem} (hi : inb x N = true) (hN : N < 2 ^ 31) (hg : gPre G) : Spec G yJ0_checkIndex_df160 cJ0_checkIndex_df160 2 none (d + 2) [.int x, .int (nI N)] σ (kV fun s => s = σ) := by
  refine spec_run (by decide) (Nat.le_of_ble_eq_true rfl) ?_
  show Run G RJ0 cJ0_checkIndex_df160 2 none _ 0 [(0, .int x), (1, .int (nI N))] [] σ
  refine run_iload_n 0 dJ0_checkIndex_df160_0 rfl rfl ?_
  refine run_iload_n 1 dJ0_checkIndex_df160_1 rfl rfl ?_
  have key : ∀ v : Value, (v = .null ∨ ∃ a, v = .ref a) → va_Z "jdk/internal/util/Preconditions" "SIOOBE_FORMATTER" "Ljava/util/function/BiFunction;" v (gOld G) (g0 G) (g0 G).heap → Run G RJ0 cJ0_checkIndex_df160 2 none (mF G (d + 2) (kV fun s => s = σ)) 2 [(0, .int x), (1, .int (nI N))] [.int (nI N), .int x] σ := by
    intro v hv hZ
    refine run_gets hZ jf_1053 dJ0_checkIndex_df160_2 ?_
    refine run_callSi (As := [.int x, .int (nI N), v]) (fun r s => r = x ∧ s = σ) mw_J3_checkIndex_8e157 ms_J3_checkIndex_8e157 jm_1059 rfl (RF.lt (show d + 1 < d + 2 by omega)) (Nat.le_of_ble_eq_true rfl) dJ0_checkIndex_df160_5 (sJ3_ck G d hv hi hN) (fun r z h8 => ?_) rfl
    obtain ⟨rfl, rfl⟩ := h8
    refine run_pop dJ0_checkIndex_df160_8 rfl ?_
    exact run_vret dJ0_checkIndex_df160_9 ⟨rfl, rfl⟩
  rcases sf_at G hg with h | ⟨t, h⟩
  · exact key _ (Or.inl rfl) h
  · exact key _ (Or.inr ⟨t, rfl⟩) h
theorem stB_ok : ∀ w, w < 19 → ∀ j, j < stL w → (((stB w j) &&& 255).toUInt32 % 65536).toInt32 = stB w j ∧ narrow .char (.int (stB w j)) = .int (stB w j) := by decide +kernel
theorem stL_lt : ∀ w, stL w < 2 ^ 31 := by
  intro w
  rcases Nat.lt_or_ge w 19 with h | h
  · exact (show ∀ w, w < 19 → stL w < 2 ^ 31 by decide +kernel) w h
  · have e : stL w = 0 := by unfold stL; rw [List.getD_eq_getElem?_getD, List.getElem?_eq_none (by simpa [stT] using h)]; rfl
    rw [e]; decide
theorem sJ1_charAt (G : GT) (d : Nat) {x : Int32} {w t j : Nat} {σ : Mem} (hw : w < 19) (hT : va_T .byte t (stL w) (fun j => .int (stB w j)) (gOld G) (g0 G) (g0 G).heap) (hi : inb x (stL w) = true) (hj : x.toNatClampNeg = j) (hg : gPre G) : Spec G yJ1_charAt_3b067 cJ1_charAt_3b067 2 (some .char) (d + 3) [.ref t, .int x] σ (kI fun r s => r = stB w j ∧ s = σ) := by
  refine spec_run (by decide) (Nat.le_of_ble_eq_true rfl) ?_
  show Run G RJ1 cJ1_charAt_3b067 2 (some .char) _ 0 [(0, .ref t), (1, .int x)] [] σ
  obtain ⟨e1, e2⟩ := stB_ok w hw j (by rw [← hj]; exact inb_lt hi)
  refine run_iload_n 1 dJ1_charAt_3b067_0 rfl rfl ?_
  refine run_aload_n 0 dJ1_charAt_3b067_1 rfl rfl ?_
  refine run_tlen hT dJ1_charAt_3b067_2 ?_
  refine run_callSv (As := [.int x, .int (nI (stL w))]) (fun s => s = σ) mw_J0_checkIndex_df160 ms_J0_checkIndex_df160 jm_9 rfl (RF.lt (show d + 2 < d + 3 by omega)) (Nat.le_of_ble_eq_true rfl) dJ1_charAt_3b067_3 (sJ0_checkIndex G d hi (stL_lt w) hg) (fun z h8 => ?_) rfl
  subst h8
  refine run_aload_n 0 dJ1_charAt_3b067_6 rfl rfl ?_
  refine run_iload_n 1 dJ1_charAt_3b067_7 rfl rfl ?_
  refine run_tbld hT hi hj dJ1_charAt_3b067_8 ?_
  refine run_sipush (v := 255) dJ1_charAt_3b067_9 rfl ?_
  refine run_iand dJ1_charAt_3b067_12 ?_
  refine run_i2c e1 dJ1_charAt_3b067_13 ?_
  exact run_tret e2 dJ1_charAt_3b067_14 ⟨_, rfl, rfl, rfl⟩
theorem sJ0_charAt (G : GT) (d : Nat) {x : Int32} {w a j : Nat} {σ : Mem} (hw : w < 19) (ha : STR G w a) (hi : inb x (stL w) = true) (hj : x.toNatClampNeg = j) (hg : gPre G) : Spec G yJ0_charAt_5068e cJ0_charAt_5068e 2 (some .char) (d + 4) [.ref a, .int x] σ (kI fun r s => r = stB w j ∧ s = σ) := by
  refine spec_run (by decide) (Nat.le_of_ble_eq_true rfl) ?_
  show Run G RJ0 cJ0_charAt_5068e 2 (some .char) _ 0 [(0, .ref a), (1, .int x)] [] σ
  obtain ⟨t, h1, h2⟩ := ha.2.2
  obtain ⟨e1, e2⟩ := stB_ok w hw j (by rw [← hj]; exact inb_lt hi)
  refine run_aload_n 0 dJ0_charAt_5068e_0 rfl rfl ?_
  refine run_callOi (As := []) 1 ha.1 mw_J0_isLatin1_aae02 mi_J0_isLatin1_aae02 jm_492 rfl (RF.lt (show d + 1 < d + 4 by omega)) (Nat.le_of_ble_eq_true rfl) dJ0_charAt_5068e_1 (sJ0_isLatin1 G d ha hg) ?_ rfl
  refine run_if_eq 16 dJ0_charAt_5068e_4 (by decide) (fun q => absurd q (by decide)) (fun _ => ?_)
  refine run_aload_n 0 dJ0_charAt_5068e_7 rfl rfl ?_
  refine run_sget h1 jf_9 dJ0_charAt_5068e_8 ?_
  refine run_iload_n 1 dJ0_charAt_5068e_11 rfl rfl ?_
  refine run_callSi (As := [.ref t, .int x]) (fun r s => r = stB w j ∧ s = σ) mw_J1_charAt_3b067 ms_J1_charAt_3b067 jm_495 rfl (RF.lt (show d + 3 < d + 4 by omega)) (Nat.le_of_ble_eq_true rfl) dJ0_charAt_5068e_12 (sJ1_charAt G d hw h2 hi hj hg) (fun r z h8 => ?_) rfl
  obtain ⟨rfl, rfl⟩ := h8
  exact run_tret e2 dJ0_charAt_5068e_15 ⟨_, rfl, rfl, rfl⟩
def spJ (x : Int32) : Nat := if x < 0 ∨ 17 < x then 18 else x.toNatClampNeg
def kS (G : GT) (w : Nat) (σ : Mem) : Option Value → Mem → Prop := fun v s => ∃ a, v = some (.ref a) ∧ s = σ ∧ STR G w a
theorem spJ_lt (x : Int32) : spJ x < 19 := by
  unfold spJ
  split
  · decide
  · rename_i h
    have h1 : ¬ x < 0 := fun z => h (Or.inl z)
    have h2 : ¬ 17 < x := fun z => h (Or.inr z)
    obtain ⟨j, hj, rfl⟩ := nI_of h1
    rw [nI_clamp hj]
    have h3 : ¬ nI 17 < nI j := h2
    rw [nI_ltI (by decide) hj] at h3
    omega
def HX5_spelling : Nat := 1
theorem sX5_spelling (G : GT) (d : Nat) {x : Int32} {σ : Mem} : Spec G yX5_spelling cX5_spelling 1 (some (.object "java/lang/String")) (d + HX5_spelling) [.int x] σ (kS G (spJ x) σ) := by
  refine spec_run (by decide) (Nat.le_of_ble_eq_true rfl) ?_
  show Run G RX5 cX5_spelling 1 (some (.object "java/lang/String")) _ 0 [(0, .int x)] [] σ
  refine run_iload_n 0 dX5_spelling_0 rfl rfl ?_
  by_cases c0 : x = 0
  · subst c0
    refine run_tblIn 88 dX5_spelling_1 (by decide) (by decide) (off := 87) rfl (by decide) ?_
    refine run_word 0 (st_0 G) dX5_spelling_88 (fun a ha => ?_)
    exact run_aret (Or.inr ⟨a, rfl⟩) dX5_spelling_90 ⟨a, rfl, rfl, ha⟩
  by_cases c1 : x = 1
  · subst c1
    refine run_tblIn 91 dX5_spelling_1 (by decide) (by decide) (off := 90) rfl (by decide) ?_
    refine run_word 1 (st_1 G) dX5_spelling_91 (fun a ha => ?_)
    exact run_aret (Or.inr ⟨a, rfl⟩) dX5_spelling_93 ⟨a, rfl, rfl, ha⟩
  by_cases c2 : x = 2
  · subst c2
    refine run_tblIn 94 dX5_spelling_1 (by decide) (by decide) (off := 93) rfl (by decide) ?_
    refine run_word 2 (st_2 G) dX5_spelling_94 (fun a ha => ?_)
    exact run_aret (Or.inr ⟨a, rfl⟩) dX5_spelling_96 ⟨a, rfl, rfl, ha⟩
  by_cases c3 : x = 3
  · subst c3
    refine run_tblIn 97 dX5_spelling_1 (by decide) (by decide) (off := 96) rfl (by decide) ?_
    refine run_word 3 (st_3 G) dX5_spelling_97 (fun a ha => ?_)
    exact run_aret (Or.inr ⟨a, rfl⟩) dX5_spelling_99 ⟨a, rfl, rfl, ha⟩
  by_cases c4 : x = 4
  · subst c4
    refine run_tblIn 100 dX5_spelling_1 (by decide) (by decide) (off := 99) rfl (by decide) ?_
    refine run_word 4 (st_4 G) dX5_spelling_100 (fun a ha => ?_)
    exact run_aret (Or.inr ⟨a, rfl⟩) dX5_spelling_102 ⟨a, rfl, rfl, ha⟩
  by_cases c5 : x = 5
  · subst c5
    refine run_tblIn 103 dX5_spelling_1 (by decide) (by decide) (off := 102) rfl (by decide) ?_
    refine run_word 5 (st_5 G) dX5_spelling_103 (fun a ha => ?_)
    exact run_aret (Or.inr ⟨a, rfl⟩) dX5_spelling_105 ⟨a, rfl, rfl, ha⟩
  by_cases c6 : x = 6
  · subst c6
    refine run_tblIn 106 dX5_spelling_1 (by decide) (by decide) (off := 105) rfl (by decide) ?_
    refine run_word 6 (st_6 G) dX5_spelling_106 (fun a ha => ?_)
    exact run_aret (Or.inr ⟨a, rfl⟩) dX5_spelling_108 ⟨a, rfl, rfl, ha⟩
  by_cases c7 : x = 7
  · subst c7
    refine run_tblIn 109 dX5_spelling_1 (by decide) (by decide) (off := 108) rfl (by decide) ?_
    refine run_word 7 (st_7 G) dX5_spelling_109 (fun a ha => ?_)
    exact run_aret (Or.inr ⟨a, rfl⟩) dX5_spelling_111 ⟨a, rfl, rfl, ha⟩
  by_cases c8 : x = 8
  · subst c8
    refine run_tblIn 112 dX5_spelling_1 (by decide) (by decide) (off := 111) rfl (by decide) ?_
    refine run_word 8 (st_8 G) dX5_spelling_112 (fun a ha => ?_)
    exact run_aret (Or.inr ⟨a, rfl⟩) dX5_spelling_114 ⟨a, rfl, rfl, ha⟩
  by_cases c9 : x = 9
  · subst c9
    refine run_tblIn 115 dX5_spelling_1 (by decide) (by decide) (off := 114) rfl (by decide) ?_
    refine run_word 9 (st_9 G) dX5_spelling_115 (fun a ha => ?_)
    exact run_aret (Or.inr ⟨a, rfl⟩) dX5_spelling_117 ⟨a, rfl, rfl, ha⟩
  by_cases c10 : x = 10
  · subst c10
    refine run_tblIn 118 dX5_spelling_1 (by decide) (by decide) (off := 117) rfl (by decide) ?_
    refine run_word 10 (st_10 G) dX5_spelling_118 (fun a ha => ?_)
    exact run_aret (Or.inr ⟨a, rfl⟩) dX5_spelling_120 ⟨a, rfl, rfl, ha⟩
  by_cases c11 : x = 11
  · subst c11
    refine run_tblIn 121 dX5_spelling_1 (by decide) (by decide) (off := 120) rfl (by decide) ?_
    refine run_word 11 (st_11 G) dX5_spelling_121 (fun a ha => ?_)
    exact run_aret (Or.inr ⟨a, rfl⟩) dX5_spelling_123 ⟨a, rfl, rfl, ha⟩
  by_cases c12 : x = 12
  · subst c12
    refine run_tblIn 124 dX5_spelling_1 (by decide) (by decide) (off := 123) rfl (by decide) ?_
    refine run_word 12 (st_12 G) dX5_spelling_124 (fun a ha => ?_)
    exact run_aret (Or.inr ⟨a, rfl⟩) dX5_spelling_126 ⟨a, rfl, rfl, ha⟩
  by_cases c13 : x = 13
  · subst c13
    refine run_tblIn 127 dX5_spelling_1 (by decide) (by decide) (off := 126) rfl (by decide) ?_
    refine run_word 13 (st_13 G) dX5_spelling_127 (fun a ha => ?_)
    exact run_aret (Or.inr ⟨a, rfl⟩) dX5_spelling_129 ⟨a, rfl, rfl, ha⟩
  by_cases c14 : x = 14
  · subst c14
    refine run_tblIn 130 dX5_spelling_1 (by decide) (by decide) (off := 129) rfl (by decide) ?_
    refine run_word 14 (st_14 G) dX5_spelling_130 (fun a ha => ?_)
    exact run_aret (Or.inr ⟨a, rfl⟩) dX5_spelling_132 ⟨a, rfl, rfl, ha⟩
  by_cases c15 : x = 15
  · subst c15
    refine run_tblIn 133 dX5_spelling_1 (by decide) (by decide) (off := 132) rfl (by decide) ?_
    refine run_word 15 (st_15 G) dX5_spelling_133 (fun a ha => ?_)
    exact run_aret (Or.inr ⟨a, rfl⟩) dX5_spelling_135 ⟨a, rfl, rfl, ha⟩
  by_cases c16 : x = 16
  · subst c16
    refine run_tblIn 136 dX5_spelling_1 (by decide) (by decide) (off := 135) rfl (by decide) ?_
    refine run_word 16 (st_16 G) dX5_spelling_136 (fun a ha => ?_)
    exact run_aret (Or.inr ⟨a, rfl⟩) dX5_spelling_138 ⟨a, rfl, rfl, ha⟩
  by_cases c17 : x = 17
  · subst c17
    refine run_tblIn 139 dX5_spelling_1 (by decide) (by decide) (off := 138) rfl (by decide) ?_
    refine run_word 17 (st_17 G) dX5_spelling_139 (fun a ha => ?_)
    exact run_aret (Or.inr ⟨a, rfl⟩) dX5_spelling_141 ⟨a, rfl, rfl, ha⟩
  have hout : x.toInt < 0 ∨ 17 < x.toInt := by have t0 := tbl_ne c0 (z := 0) rfl; have t1 := tbl_ne c1 (z := 1) rfl; have t2 := tbl_ne c2 (z := 2) rfl; have t3 := tbl_ne c3 (z := 3) rfl; have t4 := tbl_ne c4 (z := 4) rfl; have t5 := tbl_ne c5 (z := 5) rfl; have t6 := tbl_ne c6 (z := 6) rfl; have t7 := tbl_ne c7 (z := 7) rfl; have t8 := tbl_ne c8 (z := 8) rfl; have t9 := tbl_ne c9 (z := 9) rfl; have t10 := tbl_ne c10 (z := 10) rfl; have t11 := tbl_ne c11 (z := 11) rfl; have t12 := tbl_ne c12 (z := 12) rfl; have t13 := tbl_ne c13 (z := 13) rfl; have t14 := tbl_ne c14 (z := 14) rfl; have t15 := tbl_ne c15 (z := 15) rfl; have t16 := tbl_ne c16 (z := 16) rfl; have t17 := tbl_ne c17 (z := 17) rfl; omega
  refine run_tblOut 142 dX5_spelling_1 hout (by decide) ?_
  refine run_word 18 (st_18 G) dX5_spelling_142 (fun a ha => ?_)
  have e : spJ x = 18 := by unfold spJ; rw [if_pos]; exact hout.elim (fun h => Or.inl (Int32.lt_iff_toInt_lt.mpr h)) (fun h => Or.inr (Int32.lt_iff_toInt_lt.mpr h))
  exact run_aret (Or.inr ⟨a, rfl⟩) dX5_spelling_144 ⟨a, rfl, rfl, by rw [e]; exact ha⟩
