/-! ===== the start: the tables, the two objects, and then the loop ===== -/
theorem wc_L_7 : Cond.classLink RL 7 RX11 ∈ gw := gw_of 161 (by decide +kernel) (by decide +kernel)
theorem wi_11 : Cond.instantiable RX11 11 ∈ gw := gw_of 162 (by decide +kernel) (by decide +kernel)
theorem wn_11 : Cond.initialized RX11 ∈ gw := gw_of 140 (by decide +kernel) (by decide +kernel)
theorem wc_L_10 : Cond.classLink RL 10 RX12 ∈ gw := gw_of 1263 (by decide +kernel) (by decide +kernel)
theorem wi_12 : Cond.instantiable RX12 92 ∈ gw := gw_of 1264 (by decide +kernel) (by decide +kernel)
theorem wn_12 : Cond.initialized RX12 ∈ gw := gw_of 153 (by decide +kernel) (by decide +kernel)
theorem mw_X11_init : MW yX11_init cX11_init 2 none 0 := ⟨gw_of 140 (by decide +kernel) (by decide +kernel), gw_of 165 (by decide +kernel) (by decide +kernel), (by decide +kernel), by decide⟩
theorem win_X11_init : Cond.instanceMethod yX11_init ∈ gw := gw_of 164 (by decide +kernel) (by decide +kernel)
theorem wm_L_9 : Cond.methodLink RL 9 yX11_init ∈ gw := gw_of 163 (by decide +kernel) (by decide +kernel)
theorem mw_X12_init : MW yX12_init cX12_init 1 none 0 := ⟨gw_of 153 (by decide +kernel) (by decide +kernel), gw_of 1267 (by decide +kernel) (by decide +kernel), (by decide +kernel), by decide⟩
theorem win_X12_init : Cond.instanceMethod yX12_init ∈ gw := gw_of 1266 (by decide +kernel) (by decide +kernel)
theorem wm_L_12 : Cond.methodLink RL 12 yX12_init ∈ gw := gw_of 1265 (by decide +kernel) (by decide +kernel)
theorem wk_5 : Cond.instantiable RX5 15 ∈ gw := gw_of 327 (by decide +kernel) (by decide +kernel)
theorem wk_3 : Cond.instantiable RX3 20 ∈ gw := gw_of 382 (by decide +kernel) (by decide +kernel)
theorem wk_0 : Cond.instantiable RX0 6 ∈ gw := gw_of 570 (by decide +kernel) (by decide +kernel)
theorem wk_6 : Cond.instantiable RX6 4 ∈ gw := gw_of 602 (by decide +kernel) (by decide +kernel)
theorem wk_9 : Cond.instantiable RX9 9 ∈ gw := gw_of 170 (by decide +kernel) (by decide +kernel)
theorem wk_7 : Cond.instantiable RX7 3 ∈ gw := gw_of 183 (by decide +kernel) (by decide +kernel)
theorem wk_8 : Cond.instantiable RX8 5 ∈ gw := gw_of 214 (by decide +kernel) (by decide +kernel)
theorem wk_4 : Cond.instantiable RX4 4 ∈ gw := gw_of 246 (by decide +kernel) (by decide +kernel)
theorem wk_1 : Cond.instantiable RX1 3 ∈ gw := gw_of 269 (by decide +kernel) (by decide +kernel)
theorem wk_10 : Cond.instantiable RX10 12 ∈ gw := gw_of 391 (by decide +kernel) (by decide +kernel)
theorem wk_2 : Cond.instantiable RX2 11 ∈ gw := gw_of 445 (by decide +kernel) (by decide +kernel)
theorem arr_prim {s : State} {args : Array Value} {ty : FieldType} (hp : ∀ c, s.vm.findClass ("[" ++ ty.toString) = some c → va_RA s c ty) (h : (Cond.arrayClass ty).before args s = true) : ∃ c, ArrOfT s c ty ∧ va_RA s c ty := by
  obtain ⟨c, k, comp, h1, h2, h3⟩ := Cond.arrayClass_spec h
  exact ⟨c, fun n z => ⟨fun k h => (by cases h), k, h2, comp, h3⟩, hp c h1⟩
theorem arr_obj {s : State} {args : Array Value} {C : String} (h : (Cond.arrayOver (.object C)).before args s = true) : ∃ c, ArrOfT s c (.object C) ∧ va_RA s c (.object C) := by
  obtain ⟨comp, c, k, h1, h2, h3, h4, h5⟩ := Cond.arrayOver_spec h
  exact ⟨c, fun n z => ⟨fun k h => (by cases h), k, h3, comp, h4⟩, k, comp, h3, h4, h1, h5⟩
theorem arr_arr {s : State} {args : Array Value} (h : (Cond.arrayOver (.array .int)).before args s = true) : ∃ c, ArrOfT s c (.array .int) ∧ va_RA s c (.array .int) := by
  obtain ⟨comp, c, k, h1, h2, h3, h4⟩ := Cond.arrayOver_specA h
  exact ⟨c, fun n z => ⟨fun k h => (by cases h), k, h2, comp, h3⟩, h4⟩
theorem arrV_on {c : ClassId} {n : Nat} {f g : Nat → Value} (h : ∀ j, j < n → f j = g j) : arrV c n f = arrV c n g := by
  unfold arrV
  congr 1
  congr 1
  funext j
  exact h j.val j.isLt
theorem fin_eqv {G : GT} {n : Nat} (hn : n < NC) : eqv (finY G n) (cellR G n (ini n)) := by
  intro D cl a H h
  unfold finY at h
  by_cases h1 : 16 ≤ kd n ∧ kd n ≤ 23
  · rw [if_pos h1] at h
    rw [cell_ref ⟨hn, rfl⟩ h1.1 h1.2]
    show H[a]? = some (arrV (gY G (kd n)) (ln n) (fun j => va_rf (some (gA G (sp n j)))))
    have h2 : H[a]? = some (arrV (gY G (kd n)) (ln n) (fun j => va_rf (if j < ln n then some (gA G (sp n j)) else none))) := h
    rw [h2]
    congr 1
    exact arrV_on (fun j hj => by rw [if_pos hj])
  · rw [if_neg h1] at h
    by_cases h2 : kd n = 24
    · rw [if_pos h2] at h
      rw [cell_kept ⟨hn, h2⟩]
      have h3 : H[a]? = some (arrV (gY G 17) (ln n) (fun j => va_rf (if j < 0 then some (gA G (sp n j)) else none))) := h
      show H[a]? = some (arrV (gY G 17) (ln n) (fun j => va_rf ((dref (ini n j)).map (gA G))))
      rw [h3]
      congr 1
      have hn2 : n = 235 := (show ∀ n, n < NC → kd n = 24 → n = 235 by decide +kernel) n hn h2
      subst hn2
      refine arrV_on (fun j hj => ?_)
      have e : ini 235 j = -1 := by unfold ini; rw [h2]; simp
      skip
      rw [e]
      rfl
    · rw [if_neg h2] at h
      exact h
section START
variable {G : GT} {own nm : String} {cc : ByteArray} {nL : Nat} {rt : Option FieldType} {F : FT} {cells slots : Nat} {pc d : Nat} {lv lv' : List (Nat × Value)} {st : List Value} {N : Nat} {cs : Nat → va_E}
theorem ry_astore_n {k0 : Fin 4} {i x : Nat} (lv' : List (Nat × Value)) (ks : List Nat) (hd : decode cc pc = .ok (.astore_n k0, 1)) (hi : (k0 : Nat) = i) (hn : i < nL) (hl' : lv_pick ((i, Value.ref x) :: lvK i lv) ks = lv') (kk : RunY G own nm cc nL rt F cells slots (pc + 1) lv' st N cs) : RunY G own nm cc nL rt F cells slots pc lv (.ref x :: st) N cs := fun p l e s m args below meth c H locs ls X hi0 hP hS hl => lv_astore_n X.1.1 X.1.2.1 hd hi hl hn rfl (fun ls' hl2 => kk p l e s m args below meth c H locs ls' X hi0 hP hS (lv_sub hl2 ks hl'))
theorem ry_run {b c k : Nat} (hc : ∀ n, n < NC → cs n = finY G n) (kk : Run G own cc nL rt (lF G b c k) pc lv st ini) : RunY G own nm cc nL rt (lF G b 0 0) c k pc lv st NC cs := by
  intro p l e s m args below meth c0 H locs ls X hi0 hP hS hl
  by_cases hs : s = g0 G
  · subst hs
    refine kk p l e _ m args below meth c0 H locs ls X.1 (fun j q hq => ?_) ⟨hS.1, fun q h1 h2 => hS.2.1 q h1 (fun z => absurd z (Nat.not_le.mpr h1)), fun q hq => Or.inr (hS.2.2 q hq)⟩ hl
    obtain ⟨hj, rfl⟩ := wd_at hq
    have h3 := hP.2 j _ (wS_get hj)
    rw [hc j hj] at h3
    exact fin_eqv hj _ _ _ _ h3
  · intro T hT Xs
    exact ⟨_, Steps.refl _, fun _ a2 => absurd a2 hs⟩
end START
theorem law_start {G : GT} {b L : Nat} {xs : Nat → Int32} (hz : gZ G) (hX : va_X b L xs (g0 G) (g0 G).heap) (hb : b < (g0 G).heap.size) (hL : L ≤ 3072) {INV : Mem → Prop} (hst : LSTEP INV) (hI : INV ini) (cs : Nat → va_E) (nm : String) : RunY G RL nm cL_law 4 (some .boolean) (lF G b 0 0) 0 0 0 [(0, .ref b)] [] 0 cs := by
  refine ry_new (ci := 11) (fs := [.null, .null, .null, .null, .null, .null, .null, .null, .null, .null, .int 0]) tyX11 tyX11_ok rfl i_X11 wc_L_7 wi_11 wn_11 bl_11 (Nat.le_of_ble_eq_true rfl) (Nat.le_of_ble_eq_true rfl) dL_law_0 ?_
  refine ry_dup dL_law_3 rfl ?_
  refine ry_callI (N2 := 0) (As := []) (n := 0) (mc := 268) (ms := 6359) (Kc G 0 269 _) (fun _ _ h => by have := h.1; omega) mw_X11_init rfl win_X11_init wm_L_9 rfl ⟨show 0 + 5 + 1 ≤ 2048 by decide, show 30 * (0 + 5) + 30 ≤ 84000 by decide, Nat.le_of_ble_eq_true rfl, Nat.le_of_ble_eq_true rfl⟩ (Nat.le_of_ble_eq_true rfl) dL_law_4 (kX11_init G 0 (va_up_self _ _ _)) (fun cs1 hK => ?_) rfl
  obtain ⟨-, -, hK2⟩ := hK
  refine ry_astore_n [(0, .ref b), (1, .ref (gA G 0))] [1, 0] dL_law_7 rfl (by decide) rfl ?_
  refine ry_new (ci := 12) (fs := [.int 0, .null, .null, .null, .null, .null, .null, .null, .null, .null, .int 0, .int 0, .int 0, .int 0, .int 0, .long 0, .int 0, .int 0, .int 0, .null, .null, .int 0, .int 0, .int 0, .int 0, .int 0, .int 0, .int 0, .int 0, .int 0, .int 0, .null, .null, .null, .null, .null, .null, .null, .null, .null, .null, .null, .null, .null, .null, .null, .null, .null, .null, .null, .null, .null, .null, .null, .int 0, .int 0, .int 0, .int 0, .int 0, .int 0, .null, .null, .int 0, .int 0, .int 0, .int 0, .int 0, .null, .null, .int 0, .null, .int 0, .int 0, .null, .null, .null, .int 0, .int 0, .int 0, .int 0, .int 0, .int 0, .null, .int 0, .int 0, .int 0, .int 0, .int 0, .int 0, .int 0, .int 0, .null]) tyX12 tyX12_ok rfl i_X12 wc_L_10 wi_12 wn_12 bl_12 (Nat.le_of_ble_eq_true rfl) (Nat.le_of_ble_eq_true rfl) dL_law_8 ?_
  refine ry_dup dL_law_11 rfl ?_
  refine ry_callI (N2 := 0) (As := []) (n := 269) (mc := 44) (ms := 7327) (Kc G 269 45 _) (fun _ _ h => by have := h.1; omega) mw_X12_init rfl win_X12_init wm_L_12 rfl ⟨show 0 + 1 + 1 ≤ 2048 by decide, show 30 * (0 + 1) + 30 ≤ 84000 by decide, Nat.le_of_ble_eq_true rfl, Nat.le_of_ble_eq_true rfl⟩ (Nat.le_of_ble_eq_true rfl) dL_law_12 (kX12_init G 0 (va_up_self _ _ _)) (fun cs2 hK => ?_) rfl
  obtain ⟨-, q1, q2⟩ := hK
  refine ry_astore_n [(0, .ref b), (1, .ref (gA G 0)), (2, .ref (gA G 269))] [1, 2, 0] dL_law_15 rfl (by decide) rfl ?_
  refine ry_iconst (v := 0) dL_law_16 rfl ?_
  refine ry_istore_n [(0, .ref b), (1, .ref (gA G 0)), (2, .ref (gA G 269)), (3, .int (nI 0))] [1, 2, 3, 0] dL_law_17 rfl (by decide) rfl ?_
  refine ry_run (fun n hn => ?_) (law_loop hz hX hb hL (by decide) (by decide) hst (L + 1) 0 ini (by omega) (Nat.zero_le _) hI)
  rcases Nat.lt_or_ge n 269 with h | h
  · rw [q1 n h, va_up_ne _ _ (by omega)]
    exact hK2 n (Nat.zero_le _) (by omega)
  · exact q2 n h hn
set_option maxHeartbeats 4000000 in
theorem start_of {INV : Mem → Prop} (hst : LSTEP INV) (hI : INV ini) {p : Program} {e : Env} {s : State} {m : MethodId} {below : List Frame} {meth : Method} {c : Code} (l : Launch) {b L : Nat} {xs : Nat → Int32} (hL : L ≤ 3072) (C0 : lw_At p s m meth c b L xs) : W p l e room_1 s m #[Value.ref b] below meth c s.heap [] 0 0 (lw_Z below #[Value.ref b] s) (entryFrame m ([Value.ref b] : List Value).toArray 4) := by
  obtain ⟨hx, hb, hr, hml, hown, hts, hX, hbl, hlocks, hgv⟩ := id C0
  have htg : ∀ w ∈ gw, w.before #[Value.ref b] s = true := fun w hw => hts w (List.mem_filter.mp hw).1
  obtain ⟨c0, iS0, hKn0⟩ := u_known (C := RX0) (T := TX0) (N := 6) (n := 6) htg i_X0 (htg _ wk_0)
  obtain ⟨c1, iS1, hKn1⟩ := u_known (C := RX1) (T := TX1) (N := 3) (n := 3) htg i_X1 (htg _ wk_1)
  obtain ⟨c2, iS2, hKn2⟩ := u_known (C := RX2) (T := TX2) (N := 11) (n := 11) htg i_X2 (htg _ wk_2)
  obtain ⟨c3, iS3, hKn3⟩ := u_known (C := RX3) (T := TX3) (N := 20) (n := 20) htg i_X3 (htg _ wk_3)
  obtain ⟨c4, iS4, hKn4⟩ := u_known (C := RX4) (T := TX4) (N := 4) (n := 4) htg i_X4 (htg _ wk_4)
  obtain ⟨c5, iS5, hKn5⟩ := u_known (C := RX5) (T := TX5) (N := 15) (n := 15) htg i_X5 (htg _ wk_5)
  obtain ⟨c6, iS6, hKn6⟩ := u_known (C := RX6) (T := TX6) (N := 4) (n := 4) htg i_X6 (htg _ wk_6)
  obtain ⟨c7, iS7, hKn7⟩ := u_known (C := RX7) (T := TX7) (N := 3) (n := 3) htg i_X7 (htg _ wk_7)
  obtain ⟨c8, iS8, hKn8⟩ := u_known (C := RX8) (T := TX8) (N := 5) (n := 5) htg i_X8 (htg _ wk_8)
  obtain ⟨c9, iS9, hKn9⟩ := u_known (C := RX9) (T := TX9) (N := 9) (n := 9) htg i_X9 (htg _ wk_9)
  obtain ⟨c10, iS10, hKn10⟩ := u_known (C := RX10) (T := TX10) (N := 12) (n := 12) htg i_X10 (htg _ wk_10)
  obtain ⟨c11, iS11, hKn11⟩ := u_known (C := RX11) (T := TX11) (N := 11) (n := 11) htg i_X11 (htg _ wi_11)
  obtain ⟨c12, iS12, hKn12⟩ := u_known (C := RX12) (T := TX12) (N := 92) (n := 92) htg i_X12 (htg _ wi_12)
  obtain ⟨y13, hy13⟩ := arr_prim (ty := .byte) (fun c h => h) (htg _ wa_byte)
  obtain ⟨y14, hy14⟩ := arr_prim (ty := .int) (fun c h => h) (htg _ wa_int)
  obtain ⟨y15, hy15⟩ := arr_prim (ty := .boolean) (fun c h => h) (htg _ wa_boolean)
  obtain ⟨y16, hy16⟩ := arr_obj (hts _ wo_1)
  obtain ⟨y17, hy17⟩ := arr_obj (hts _ wo_2)
  obtain ⟨y18, hy18⟩ := arr_obj (hts _ wo_4)
  obtain ⟨y19, hy19⟩ := arr_obj (hts _ wo_7)
  obtain ⟨y20, hy20⟩ := arr_obj (hts _ wo_8)
  obtain ⟨y21, hy21⟩ := arr_obj (hts _ wo_9)
  obtain ⟨y22, hy22⟩ := arr_obj (hts _ wo_10)
  obtain ⟨y23, hy23⟩ := arr_arr (hts _ wo_ai)
  obtain ⟨dC, hdC⟩ : ∃ f : Nat → ClassId, f 0 = c0 ∧ f 1 = c1 ∧ f 2 = c2 ∧ f 3 = c3 ∧ f 4 = c4 ∧ f 5 = c5 ∧ f 6 = c6 ∧ f 7 = c7 ∧ f 8 = c8 ∧ f 9 = c9 ∧ f 10 = c10 ∧ f 11 = c11 ∧ f 12 = c12 := ⟨fun k => if k = 0 then c0 else if k = 1 then c1 else if k = 2 then c2 else if k = 3 then c3 else if k = 4 then c4 else if k = 5 then c5 else if k = 6 then c6 else if k = 7 then c7 else if k = 8 then c8 else if k = 9 then c9 else if k = 10 then c10 else if k = 11 then c11 else c12, rfl, rfl, rfl, rfl, rfl, rfl, rfl, rfl, rfl, rfl, rfl, rfl, rfl⟩
  obtain ⟨dI, hdI⟩ : ∃ f : Nat → Nat → Nat, f 0 = iS0 ∧ f 1 = iS1 ∧ f 2 = iS2 ∧ f 3 = iS3 ∧ f 4 = iS4 ∧ f 5 = iS5 ∧ f 6 = iS6 ∧ f 7 = iS7 ∧ f 8 = iS8 ∧ f 9 = iS9 ∧ f 10 = iS10 ∧ f 11 = iS11 ∧ f 12 = iS12 := ⟨fun k => if k = 0 then iS0 else if k = 1 then iS1 else if k = 2 then iS2 else if k = 3 then iS3 else if k = 4 then iS4 else if k = 5 then iS5 else if k = 6 then iS6 else if k = 7 then iS7 else if k = 8 then iS8 else if k = 9 then iS9 else if k = 10 then iS10 else if k = 11 then iS11 else iS12, rfl, rfl, rfl, rfl, rfl, rfl, rfl, rfl, rfl, rfl, rfl, rfl, rfl⟩
  obtain ⟨cy, hcy⟩ : ∃ f : Nat → ClassId, f 13 = y13 ∧ f 14 = y14 ∧ f 15 = y15 ∧ f 16 = y16 ∧ f 17 = y17 ∧ f 18 = y18 ∧ f 19 = y19 ∧ f 20 = y20 ∧ f 21 = y21 ∧ f 22 = y22 ∧ f 23 = y23 := ⟨fun k => if k = 13 then y13 else if k = 14 then y14 else if k = 15 then y15 else if k = 16 then y16 else if k = 17 then y17 else if k = 18 then y18 else if k = 19 then y19 else if k = 20 then y20 else if k = 21 then y21 else if k = 22 then y22 else y23, rfl, rfl, rfl, rfl, rfl, rfl, rfl, rfl, rfl, rfl, rfl⟩
  obtain ⟨G, hG⟩ : ∃ G : GT, G = ((dC, dI), (fun n => s.heap.size + n), cy, s) := ⟨_, rfl⟩
  have hz : gZ G := fun n => by rw [hG]; rfl
  have hg0 : g0 G = s := by rw [hG]; rfl
  have hok : gOK G := by
    refine ⟨fun i j _ _ h => ?_, fun n _ => ?_, b, ?_, ?_⟩
    · rw [hz i, hz j] at h; omega
    · rw [hz n]; omega
    · rw [hg0]; exact hgv
    · rw [hg0]; exact hts
  have hK : va_K G.1 vwCl (tysOf G) s := by
    refine ⟨fun k q hq => ?_, fun k q hq => ?_⟩
    · obtain ⟨u0, u1, u2, u3, u4, u5, u6, u7, u8, u9, u10, u11, u12⟩ := hdC
      obtain ⟨v0, v1, v2, v3, v4, v5, v6, v7, v8, v9, v10, v11, v12⟩ := hdI
      rw [hG]
      match k, hq with
      | 0, hq => cases hq; show u_Kn s RX0 TX0 6 (dC 0) (dI 0); rw [u0, v0]; exact hKn0
      | 1, hq => cases hq; show u_Kn s RX1 TX1 3 (dC 1) (dI 1); rw [u1, v1]; exact hKn1
      | 2, hq => cases hq; show u_Kn s RX2 TX2 11 (dC 2) (dI 2); rw [u2, v2]; exact hKn2
      | 3, hq => cases hq; show u_Kn s RX3 TX3 20 (dC 3) (dI 3); rw [u3, v3]; exact hKn3
      | 4, hq => cases hq; show u_Kn s RX4 TX4 4 (dC 4) (dI 4); rw [u4, v4]; exact hKn4
      | 5, hq => cases hq; show u_Kn s RX5 TX5 15 (dC 5) (dI 5); rw [u5, v5]; exact hKn5
      | 6, hq => cases hq; show u_Kn s RX6 TX6 4 (dC 6) (dI 6); rw [u6, v6]; exact hKn6
      | 7, hq => cases hq; show u_Kn s RX7 TX7 3 (dC 7) (dI 7); rw [u7, v7]; exact hKn7
      | 8, hq => cases hq; show u_Kn s RX8 TX8 5 (dC 8) (dI 8); rw [u8, v8]; exact hKn8
      | 9, hq => cases hq; show u_Kn s RX9 TX9 9 (dC 9) (dI 9); rw [u9, v9]; exact hKn9
      | 10, hq => cases hq; show u_Kn s RX10 TX10 12 (dC 10) (dI 10); rw [u10, v10]; exact hKn10
      | 11, hq => cases hq; show u_Kn s RX11 TX11 11 (dC 11) (dI 11); rw [u11, v11]; exact hKn11
      | 12, hq => cases hq; show u_Kn s RX12 TX12 92 (dC 12) (dI 12); rw [u12, v12]; exact hKn12
      | k + 13, hq => simp [vwCl] at hq
    · obtain ⟨u13, u14, u15, u16, u17, u18, u19, u20, u21, u22, u23⟩ := hcy
      have hy : ∀ n, gY G n = cy n := fun n => by rw [hG]; rfl
      unfold tysOf at hq
      simp only [hy, u13, u14, u15, u16, u17, u18, u19, u20, u21, u22, u23] at hq
      match k, hq with
      | 0, hq => cases hq; exact hy13
      | 1, hq => cases hq; exact hy14
      | 2, hq => cases hq; exact hy15
      | 3, hq => cases hq; exact hy16
      | 4, hq => cases hq; exact hy17
      | 5, hq => cases hq; exact hy18
      | 6, hq => cases hq; exact hy19
      | 7, hq => cases hq; exact hy20
      | 8, hq => cases hq; exact hy21
      | 9, hq => cases hq; exact hy22
      | 10, hq => cases hq; exact hy23
      | k + 11, hq => simp at hq
  have hCx : CxS G s := ⟨hok, hK, fun w hw => va_Nw.of (nest_on (List.mem_filter.mp hw).2) (hts w (List.mem_filter.mp hw).1), by rw [hg0]; exact State.WarmedH.refl s⟩
  have hCh : CxH G s.heap := by rw [← hg0]; exact ⟨Nat.le_refl _, fun _ _ => rfl⟩
  have hl := lv_entry ([.ref b]) (n := 4) (Nat.le_of_ble_eq_true rfl)
  rw [lg_entry_eq]
  have K := law_start (G := G) (b := b) (L := L) (xs := xs) hz (by rw [hg0]; exact hX) (by rw [hg0]; exact hbl) hL hst hI (fun _ => .inr (0, [])) meth.name p l e s m #[Value.ref b] below meth c s.heap [] _ ⟨⟨hx, hb, hml, hown, hr, hlocks, htg, hCx, hCh⟩, hz⟩ ⟨rfl, by rw [hg0]⟩ ⟨by rw [hg0] <;> rfl, fun k q h => by simp [wS] at h⟩ va_S.rf hl
  exact W.mono (fun tt h => h rfl hg0.symm) K
