def R_law : String := "EpochEngineLaw"
def lw_P (b : Addr) (xs : List Int32) (args : Array Value) (s : State) : Prop := args = #[.ref b] ∧ s.IntsAt b xs ∧ xs.length ≤ 3072 ∧ (Jvm.Cond.and given_1 narrow_1).before args s = true
def lw_Q (_ : Array Value) (s : State) (o : Outcome) (t : State) : Prop := o = .returned (some (.int 1)) ∧ Framed s o t [] 600000 7302250
def lw_Z (below : List Frame) (a : Array Value) (s : State) : State → Prop := fun t => ∃ o, t.status = .running ∧ Ended t below o ∧ lw_Q a s o t
/-- the law's own end, with 1 on the stack, nothing written that was there before, its room as the claim has it -/
theorem lw_ret {p : Program} {l : Launch} {e : Env} {s : State} {m : MethodId} {below : List Frame} {meth : Method} {c : Code} {b : Nat} (hx : p.tables.exec = Jvm.exec) (hb : c.code = code) (hr : meth.sig.returnType = ret) (hlocks : meth.locks = false) {pc : Nat} {H : Heap} {ls : Array Slot} (hdg : decode code pc = .ok (.ireturn, 1)) : W p l e room_1 s m #[Value.ref b] below meth c H [] 600000 7302250 (lw_Z below #[Value.ref b] s) (F0 m pc ls [.int 1]) := by
  intro T hT X
  obtain ⟨fs, hret, hrun, hended, hW, hframe⟩ := X.leave (v := some (.int 1)) (hlocks := hlocks) (fun h => by rw [hr] at h; cases h)
  have hmeth' : T.vm.method? m = some meth := X.method'
  refine ⟨T.setFrames fs, ?_, .returned (some (.int 1)), hrun, hended, rfl, ⟨_, rfl⟩, hW, hframe⟩
  jvm_step X.here [X.here.top, hx, hb, hdg, hmeth', hr, ret, narrow_b1]
  (try refine ⟨rfl, ?_⟩); (try refine ⟨rfl, ?_⟩)
  first | (intro acts; rw [hret _ acts rfl rfl rfl]) | rw [hret _ _ rfl rfl rfl]
  exact Steps.refl _
/-- what holds at the law's entry: the machine, the code, the tables' words (any of lw_tbl by 'hts w (by decide +kernel)'), the script of L ints xs at the cell b, what the Statement gives of the start (any of its parts by flat_of_before) -/
def lw_At (p : Program) (s : State) (m : MethodId) (meth : Method) (c : Code) (b L : Nat) (xs : Nat → Int32) : Prop :=
  p.tables.exec = Jvm.exec ∧ c.code = code ∧ meth.sig.returnType = ret ∧ c.maxLocals = 4 ∧ s.vm.findClass R_law = some m.cls ∧ (∀ w ∈ lw_tbl, w.before #[Value.ref b] s = true) ∧ va_X b L xs s s.heap ∧ b < s.heap.size ∧ meth.locks = false ∧ (Jvm.Cond.and given_1 narrow_1).before #[Value.ref b] s = true
/-! ===== the law: its loop, over the methods' functions ===== -/
def Qlaw (G : GT) (b : Nat) : List Frame → Array Value → State → State → Prop := fun below args s tt => args = #[Value.ref b] → s = g0 G → lw_Z below args s tt
def lF (G : GT) (b c k : Nat) : FT := (room_1, c, k, Qlaw G b)
theorem W.mono {p : Program} {l : Launch} {e : Env} {R : Room} {s : State} {m : MethodId} {args : Array Value} {below : List Frame} {meth : Method} {c : Code} {H : Heap} {locs : List Loc} {cells slots : Nat} {Q Q' : State → Prop} {g : JFrame} (h : ∀ tt, Q tt → Q' tt) (k : W p l e R s m args below meth c H locs cells slots Q g) : W p l e R s m args below meth c H locs cells slots Q' g := fun T hT X => by
  obtain ⟨t2, a1, b1⟩ := k T hT X
  exact ⟨t2, a1, h _ b1⟩
section LAW
variable {G : GT} {own : String} {cc : ByteArray} {nL : Nat} {rt : Option FieldType} {F : FT} {pc d : Nat} {lv lv' : List (Nat × Value)} {st : List Value} {σ : Mem} {b L : Nat} {xs : Nat → Int32}
theorem scr_at {s : State} (hC : CxS G s) (hH : CxH G s.heap) (hX : va_X b L xs (g0 G) (g0 G).heap) (hb : b < (g0 G).heap.size) : va_X b L xs s s.heap ∧ b < s.heap.size ∧ ¬ aw G s.heap.size b :=
  ⟨(hX.moved hC.2.2.2.alike).kept (hH.2 b hb), Nat.lt_of_lt_of_le hb hH.1, fun z => absurd (aw_old hC.1 hH.1 b z) (Nat.not_le.mpr hb)⟩
theorem run_slen (hX : va_X b L xs (g0 G) (g0 G).heap) (hb : b < (g0 G).heap.size) (hd : decode cc pc = .ok (.arraylength, 1)) (k : Run G own cc nL rt F (pc + 1) lv (.int (nI L) :: st) σ) : Run G own cc nL rt F pc lv (.ref b :: st) σ := by
  intro p l e s m args below meth c H locs ls X hP hS hl
  obtain ⟨h1, h2, h3⟩ := scr_at X.2.2.2.2.2.2.2.1 X.2.2.2.2.2.2.2.2 hX hb
  exact va_slen X.1 X.2.1 h1 h2 h3 hS hd (k p l e s m args below meth c H locs ls X hP hS hl)
theorem run_sld {i : Int32} (hX : va_X b L xs (g0 G) (g0 G).heap) (hb : b < (g0 G).heap.size) (hi : vp_in i L) (hd : decode cc pc = .ok (.iaload, 1)) (k : Run G own cc nL rt F (pc + 1) lv (.int (xs i.toNatClampNeg) :: st) σ) : Run G own cc nL rt F pc lv (.int i :: .ref b :: st) σ := by
  intro p l e s m args below meth c H locs ls X hP hS hl
  obtain ⟨h1, h2, h3⟩ := scr_at X.2.2.2.2.2.2.2.1 X.2.2.2.2.2.2.2.2 hX hb
  exact va_sld X.1 X.2.1 h1 h2 h3 hS hi hd (k p l e s m args below meth c H locs ls X hP hS hl)
/-- script[i + k] -/
theorem run_arg {i k : Nat} {v : Int32} {pc1 pc2 pc3 pc4 : Nat} (hX : va_X b L xs (g0 G) (g0 G).heap) (hb : b < (g0 G).heap.size) (hL : L ≤ 3072) (hik : i + k < L) (h0 : lv[0]? = some (0, .ref b)) (h3 : lv[3]? = some (3, .int (nI i))) (hv : nI k = v) (d1 : decode cc pc = .ok (.aload_n 0, 1)) (d2 : decode cc (pc + 1) = .ok (.iload_n 3, 1)) (d3 : decode cc (pc + 2) = .ok (.iconst (k : Int), 1)) (hk : Int32.ofInt (k : Int) = nI k) (d4 : decode cc (pc + 3) = .ok (.iadd, 1)) (d5 : decode cc (pc + 4) = .ok (.iaload, 1)) (kk : Run G own cc nL rt F (pc + 5) lv (.int (xs (i + k)) :: st) σ) : Run G own cc nL rt F pc lv st σ := by
  refine run_aload_n 0 d1 rfl h0 ?_
  refine run_iload_n 3 d2 rfl h3 ?_
  refine run_iconst (v := nI k) d3 hk ?_
  refine run_iadd d4 ?_
  rw [nI_add]
  refine run_sld hX hb (vp_in_nI hik (by omega)) d5 ?_
  rw [nI_clamp (by omega)]
  exact kk
theorem RF.law {c k : Nat} (hd : d ≤ 60) (h1 : c ≤ 600000) (h2 : k ≤ 7302250) : RF (lF G b c k) d := ⟨by show d + 1 ≤ 2048; omega, by show 30 * d + 30 ≤ 84000; omega, h1, h2⟩
end LAW
theorem law_feed {G : GT} {b L c k : Nat} {xs : Nat → Int32} (hX : va_X b L xs (g0 G) (g0 G).heap) (hb : b < (g0 G).heap.size) (hL : L ≤ 3072) (h1 : c ≤ 600000) (h2 : k ≤ 7302250) {i : Nat} (hi : i + 6 ≤ L) {σ σ1 σ2 : Mem} {r : Int32} (e1 : fX11_feed (xs (i + 1)) (xs (i + 2)) (xs (i + 3)) (xs (i + 4)) (xs (i + 5)) σ = some (r, σ1)) (e2 : fX12_feed (xs (i + 1)) (xs (i + 2)) (xs (i + 3)) (xs (i + 4)) (xs (i + 5)) σ1 = some (r, σ2)) (kk : Run G RL cL_law 4 (some .boolean) (lF G b c k) 1186 [(0, .ref b), (1, .ref (gA G 0)), (2, .ref (gA G 269)), (3, .int (nI i))] [] σ2) : Run G RL cL_law 4 (some .boolean) (lF G b c k) 144 [(0, .ref b), (1, .ref (gA G 0)), (2, .ref (gA G 269)), (3, .int (nI i))] [] σ := by
  refine run_aload_n 1 dL_law_144 rfl rfl ?_
  refine run_arg (k := 1) (v := 1) (pc1 := 0) (pc2 := 0) (pc3 := 0) (pc4 := 0) hX hb hL (by omega) rfl rfl rfl dL_law_145 dL_law_146 dL_law_147 rfl dL_law_148 dL_law_149 ?_
  refine run_arg (k := 2) (v := 2) (pc1 := 0) (pc2 := 0) (pc3 := 0) (pc4 := 0) hX hb hL (by omega) rfl rfl rfl dL_law_150 dL_law_151 dL_law_152 rfl dL_law_153 dL_law_154 ?_
  refine run_arg (k := 3) (v := 3) (pc1 := 0) (pc2 := 0) (pc3 := 0) (pc4 := 0) hX hb hL (by omega) rfl rfl rfl dL_law_155 dL_law_156 dL_law_157 rfl dL_law_158 dL_law_159 ?_
  refine run_arg (k := 4) (v := 4) (pc1 := 0) (pc2 := 0) (pc3 := 0) (pc4 := 0) hX hb hL (by omega) rfl rfl rfl dL_law_160 dL_law_161 dL_law_162 rfl dL_law_163 dL_law_164 ?_
  refine run_arg (k := 5) (v := 5) (pc1 := 0) (pc2 := 0) (pc3 := 0) (pc4 := 0) hX hb hL (by omega) rfl rfl rfl dL_law_165 dL_law_166 dL_law_167 rfl dL_law_168 dL_law_169 ?_
  refine run_callVi (As := [.int (xs (i + 1)), .int (xs (i + 2)), .int (xs (i + 3)), .int (xs (i + 4)), .int (xs (i + 5))]) (fun x z => (x, z) = (r, σ1)) mw_X11_feed mi_X11_feed ml_L_13 is_0 (by decide) rfl rfl rfl (RF.law (d := 0 + HX11_feed) (by decide) h1 h2) (Nat.le_of_ble_eq_true rfl) dL_law_170 (sX11_feed G 0 e1) (fun r9 z h8 => ?_) rfl
  rw [show r9 = r from congrArg Prod.fst h8, show z = σ1 from congrArg Prod.snd h8]
  clear h8
  refine run_aload_n 2 dL_law_173 rfl rfl ?_
  refine run_arg (k := 1) (v := 1) (pc1 := 0) (pc2 := 0) (pc3 := 0) (pc4 := 0) hX hb hL (by omega) rfl rfl rfl dL_law_174 dL_law_175 dL_law_176 rfl dL_law_177 dL_law_178 ?_
  refine run_arg (k := 2) (v := 2) (pc1 := 0) (pc2 := 0) (pc3 := 0) (pc4 := 0) hX hb hL (by omega) rfl rfl rfl dL_law_179 dL_law_180 dL_law_181 rfl dL_law_182 dL_law_183 ?_
  refine run_arg (k := 3) (v := 3) (pc1 := 0) (pc2 := 0) (pc3 := 0) (pc4 := 0) hX hb hL (by omega) rfl rfl rfl dL_law_184 dL_law_185 dL_law_186 rfl dL_law_187 dL_law_188 ?_
  refine run_arg (k := 4) (v := 4) (pc1 := 0) (pc2 := 0) (pc3 := 0) (pc4 := 0) hX hb hL (by omega) rfl rfl rfl dL_law_189 dL_law_190 dL_law_191 rfl dL_law_192 dL_law_193 ?_
  refine run_arg (k := 5) (v := 5) (pc1 := 0) (pc2 := 0) (pc3 := 0) (pc4 := 0) hX hb hL (by omega) rfl rfl rfl dL_law_194 dL_law_195 dL_law_196 rfl dL_law_197 dL_law_198 ?_
  refine run_callVi (As := [.int (xs (i + 1)), .int (xs (i + 2)), .int (xs (i + 3)), .int (xs (i + 4)), .int (xs (i + 5))]) (fun x z => (x, z) = (r, σ2)) mw_X12_feed mi_X12_feed ml_L_17 is_269 (by decide) rfl rfl rfl (RF.law (d := 0 + HX12_feed) (by decide) h1 h2) (Nat.le_of_ble_eq_true rfl) dL_law_199 (sX12_feed G 0 e2) (fun r9 z h8 => ?_) rfl
  rw [show r9 = r from congrArg Prod.fst h8, show z = σ2 from congrArg Prod.snd h8]
  clear h8
  refine run_icmp_eq 1186 dL_law_202 (by decide) (fun _ => ?_) (fun q => absurd rfl q)
  exact kk
theorem law_end {G : GT} {b L c k : Nat} {xs : Nat → Int32} (hX : va_X b L xs (g0 G) (g0 G).heap) (hb : b < (g0 G).heap.size) (hL : L ≤ 3072) (h1 : c ≤ 600000) (h2 : k ≤ 7302250) {i : Nat} (hi : i + 6 ≤ L) {σ σ1 σ2 : Mem} {r : Int32} (e1 : fX11_end (xs (i + 1)) σ = some (r, σ1)) (e2 : fX12_end (xs (i + 1)) σ1 = some (r, σ2)) (kk : Run G RL cL_law 4 (some .boolean) (lF G b c k) 1186 [(0, .ref b), (1, .ref (gA G 0)), (2, .ref (gA G 269)), (3, .int (nI i))] [] σ2) : Run G RL cL_law 4 (some .boolean) (lF G b c k) 207 [(0, .ref b), (1, .ref (gA G 0)), (2, .ref (gA G 269)), (3, .int (nI i))] [] σ := by
  refine run_aload_n 1 dL_law_207 rfl rfl ?_
  refine run_arg (k := 1) (v := 1) (pc1 := 0) (pc2 := 0) (pc3 := 0) (pc4 := 0) hX hb hL (by omega) rfl rfl rfl dL_law_208 dL_law_209 dL_law_210 rfl dL_law_211 dL_law_212 ?_
  refine run_callVi (As := [.int (xs (i + 1))]) (fun x z => (x, z) = (r, σ1)) mw_X11_end mi_X11_end ml_L_18 is_0 (by decide) rfl rfl rfl (RF.law (d := 0 + HX11_end) (by decide) h1 h2) (Nat.le_of_ble_eq_true rfl) dL_law_213 (sX11_end G 0 e1) (fun r9 z h8 => ?_) rfl
  rw [show r9 = r from congrArg Prod.fst h8, show z = σ1 from congrArg Prod.snd h8]
  clear h8
  refine run_aload_n 2 dL_law_216 rfl rfl ?_
  refine run_arg (k := 1) (v := 1) (pc1 := 0) (pc2 := 0) (pc3 := 0) (pc4 := 0) hX hb hL (by omega) rfl rfl rfl dL_law_217 dL_law_218 dL_law_219 rfl dL_law_220 dL_law_221 ?_
  refine run_callVi (As := [.int (xs (i + 1))]) (fun x z => (x, z) = (r, σ2)) mw_X12_end mi_X12_end ml_L_22 is_269 (by decide) rfl rfl rfl (RF.law (d := 0 + HX12_end) (by decide) h1 h2) (Nat.le_of_ble_eq_true rfl) dL_law_222 (sX12_end G 0 e2) (fun r9 z h8 => ?_) rfl
  rw [show r9 = r from congrArg Prod.fst h8, show z = σ2 from congrArg Prod.snd h8]
  clear h8
  refine run_icmp_eq 1186 dL_law_225 (by decide) (fun _ => ?_) (fun q => absurd rfl q)
  exact kk
theorem law_text {G : GT} {b L c k : Nat} {xs : Nat → Int32} (hX : va_X b L xs (g0 G) (g0 G).heap) (hb : b < (g0 G).heap.size) (hL : L ≤ 3072) (h1 : c ≤ 600000) (h2 : k ≤ 7302250) {i : Nat} (hi : i + 6 ≤ L) {σ σ1 σ2 : Mem} {r : Int32} (e1 : fX11_text (xs (i + 1)) (xs (i + 2)) σ = some (r, σ1)) (e2 : fX12_text (xs (i + 1)) (xs (i + 2)) σ1 = some (r, σ2)) (kk : Run G RL cL_law 4 (some .boolean) (lF G b c k) 1186 [(0, .ref b), (1, .ref (gA G 0)), (2, .ref (gA G 269)), (3, .int (nI i))] [] σ2) : Run G RL cL_law 4 (some .boolean) (lF G b c k) 230 [(0, .ref b), (1, .ref (gA G 0)), (2, .ref (gA G 269)), (3, .int (nI i))] [] σ := by
  refine run_aload_n 1 dL_law_230 rfl rfl ?_
  refine run_arg (k := 1) (v := 1) (pc1 := 0) (pc2 := 0) (pc3 := 0) (pc4 := 0) hX hb hL (by omega) rfl rfl rfl dL_law_231 dL_law_232 dL_law_233 rfl dL_law_234 dL_law_235 ?_
  refine run_arg (k := 2) (v := 2) (pc1 := 0) (pc2 := 0) (pc3 := 0) (pc4 := 0) hX hb hL (by omega) rfl rfl rfl dL_law_236 dL_law_237 dL_law_238 rfl dL_law_239 dL_law_240 ?_
  refine run_callVi (As := [.int (xs (i + 1)), .int (xs (i + 2))]) (fun x z => (x, z) = (r, σ1)) mw_X11_text mi_X11_text ml_L_23 is_0 (by decide) rfl rfl rfl (RF.law (d := 0 + HX11_text) (by decide) h1 h2) (Nat.le_of_ble_eq_true rfl) dL_law_241 (sX11_text G 0 e1) (fun r9 z h8 => ?_) rfl
  rw [show r9 = r from congrArg Prod.fst h8, show z = σ1 from congrArg Prod.snd h8]
  clear h8
  refine run_aload_n 2 dL_law_244 rfl rfl ?_
  refine run_arg (k := 1) (v := 1) (pc1 := 0) (pc2 := 0) (pc3 := 0) (pc4 := 0) hX hb hL (by omega) rfl rfl rfl dL_law_245 dL_law_246 dL_law_247 rfl dL_law_248 dL_law_249 ?_
  refine run_arg (k := 2) (v := 2) (pc1 := 0) (pc2 := 0) (pc3 := 0) (pc4 := 0) hX hb hL (by omega) rfl rfl rfl dL_law_250 dL_law_251 dL_law_252 rfl dL_law_253 dL_law_254 ?_
  refine run_callVi (As := [.int (xs (i + 1)), .int (xs (i + 2))]) (fun x z => (x, z) = (r, σ2)) mw_X12_text mi_X12_text ml_L_27 is_269 (by decide) rfl rfl rfl (RF.law (d := 0 + HX12_text) (by decide) h1 h2) (Nat.le_of_ble_eq_true rfl) dL_law_255 (sX12_text G 0 e2) (fun r9 z h8 => ?_) rfl
  rw [show r9 = r from congrArg Prod.fst h8, show z = σ2 from congrArg Prod.snd h8]
  clear h8
  refine run_icmp_eq 1186 dL_law_258 (by decide) (fun _ => ?_) (fun q => absurd rfl q)
  exact kk
theorem law_fault {G : GT} {b L c k : Nat} {xs : Nat → Int32} (hX : va_X b L xs (g0 G) (g0 G).heap) (hb : b < (g0 G).heap.size) (hL : L ≤ 3072) (h1 : c ≤ 600000) (h2 : k ≤ 7302250) {i : Nat} (hi : i + 6 ≤ L) {σ σ1 σ2 : Mem} {r : Int32} (e1 : fX11_fault (xs (i + 1)) σ = some (r, σ1)) (e2 : fX12_fault (xs (i + 1)) σ1 = some (r, σ2)) (kk : Run G RL cL_law 4 (some .boolean) (lF G b c k) 1186 [(0, .ref b), (1, .ref (gA G 0)), (2, .ref (gA G 269)), (3, .int (nI i))] [] σ2) : Run G RL cL_law 4 (some .boolean) (lF G b c k) 263 [(0, .ref b), (1, .ref (gA G 0)), (2, .ref (gA G 269)), (3, .int (nI i))] [] σ := by
  refine run_aload_n 1 dL_law_263 rfl rfl ?_
  refine run_arg (k := 1) (v := 1) (pc1 := 0) (pc2 := 0) (pc3 := 0) (pc4 := 0) hX hb hL (by omega) rfl rfl rfl dL_law_264 dL_law_265 dL_law_266 rfl dL_law_267 dL_law_268 ?_
  refine run_callVi (As := [.int (xs (i + 1))]) (fun x z => (x, z) = (r, σ1)) mw_X11_fault mi_X11_fault ml_L_28 is_0 (by decide) rfl rfl rfl (RF.law (d := 0 + HX11_fault) (by decide) h1 h2) (Nat.le_of_ble_eq_true rfl) dL_law_269 (sX11_fault G 0 e1) (fun r9 z h8 => ?_) rfl
  rw [show r9 = r from congrArg Prod.fst h8, show z = σ1 from congrArg Prod.snd h8]
  clear h8
  refine run_aload_n 2 dL_law_272 rfl rfl ?_
  refine run_arg (k := 1) (v := 1) (pc1 := 0) (pc2 := 0) (pc3 := 0) (pc4 := 0) hX hb hL (by omega) rfl rfl rfl dL_law_273 dL_law_274 dL_law_275 rfl dL_law_276 dL_law_277 ?_
  refine run_callVi (As := [.int (xs (i + 1))]) (fun x z => (x, z) = (r, σ2)) mw_X12_fault mi_X12_fault ml_L_31 is_269 (by decide) rfl rfl rfl (RF.law (d := 0 + HX12_fault) (by decide) h1 h2) (Nat.le_of_ble_eq_true rfl) dL_law_278 (sX12_fault G 0 e2) (fun r9 z h8 => ?_) rfl
  rw [show r9 = r from congrArg Prod.fst h8, show z = σ2 from congrArg Prod.snd h8]
  clear h8
  refine run_icmp_eq 1186 dL_law_281 (by decide) (fun _ => ?_) (fun q => absurd rfl q)
  exact kk
theorem law_store {G : GT} {b L c k : Nat} {xs : Nat → Int32} (hX : va_X b L xs (g0 G) (g0 G).heap) (hb : b < (g0 G).heap.size) (hL : L ≤ 3072) (h1 : c ≤ 600000) (h2 : k ≤ 7302250) {i : Nat} (hi : i + 6 ≤ L) {σ σ1 σ2 : Mem} {r : Int32} (e1 : fX11_store (xs (i + 1)) (xs (i + 2)) σ = some (r, σ1)) (e2 : fX12_store (xs (i + 1)) (xs (i + 2)) σ1 = some (r, σ2)) (kk : Run G RL cL_law 4 (some .boolean) (lF G b c k) 1186 [(0, .ref b), (1, .ref (gA G 0)), (2, .ref (gA G 269)), (3, .int (nI i))] [] σ2) : Run G RL cL_law 4 (some .boolean) (lF G b c k) 286 [(0, .ref b), (1, .ref (gA G 0)), (2, .ref (gA G 269)), (3, .int (nI i))] [] σ := by
  refine run_aload_n 1 dL_law_286 rfl rfl ?_
  refine run_arg (k := 1) (v := 1) (pc1 := 0) (pc2 := 0) (pc3 := 0) (pc4 := 0) hX hb hL (by omega) rfl rfl rfl dL_law_287 dL_law_288 dL_law_289 rfl dL_law_290 dL_law_291 ?_
  refine run_arg (k := 2) (v := 2) (pc1 := 0) (pc2 := 0) (pc3 := 0) (pc4 := 0) hX hb hL (by omega) rfl rfl rfl dL_law_292 dL_law_293 dL_law_294 rfl dL_law_295 dL_law_296 ?_
  refine run_callVi (As := [.int (xs (i + 1)), .int (xs (i + 2))]) (fun x z => (x, z) = (r, σ1)) mw_X11_store mi_X11_store ml_L_32 is_0 (by decide) rfl rfl rfl (RF.law (d := 0 + HX11_store) (by decide) h1 h2) (Nat.le_of_ble_eq_true rfl) dL_law_297 (sX11_store G 0 e1) (fun r9 z h8 => ?_) rfl
  rw [show r9 = r from congrArg Prod.fst h8, show z = σ1 from congrArg Prod.snd h8]
  clear h8
  refine run_aload_n 2 dL_law_300 rfl rfl ?_
  refine run_arg (k := 1) (v := 1) (pc1 := 0) (pc2 := 0) (pc3 := 0) (pc4 := 0) hX hb hL (by omega) rfl rfl rfl dL_law_301 dL_law_302 dL_law_303 rfl dL_law_304 dL_law_305 ?_
  refine run_arg (k := 2) (v := 2) (pc1 := 0) (pc2 := 0) (pc3 := 0) (pc4 := 0) hX hb hL (by omega) rfl rfl rfl dL_law_306 dL_law_307 dL_law_308 rfl dL_law_309 dL_law_310 ?_
  refine run_callVi (As := [.int (xs (i + 1)), .int (xs (i + 2))]) (fun x z => (x, z) = (r, σ2)) mw_X12_store mi_X12_store ml_L_35 is_269 (by decide) rfl rfl rfl (RF.law (d := 0 + HX12_store) (by decide) h1 h2) (Nat.le_of_ble_eq_true rfl) dL_law_311 (sX12_store G 0 e2) (fun r9 z h8 => ?_) rfl
  rw [show r9 = r from congrArg Prod.fst h8, show z = σ2 from congrArg Prod.snd h8]
  clear h8
  refine run_icmp_eq 1186 dL_law_314 (by decide) (fun _ => ?_) (fun q => absurd rfl q)
  exact kk
theorem law_task {G : GT} {b L c k : Nat} {xs : Nat → Int32} (hX : va_X b L xs (g0 G) (g0 G).heap) (hb : b < (g0 G).heap.size) (hL : L ≤ 3072) (h1 : c ≤ 600000) (h2 : k ≤ 7302250) {i : Nat} (hi : i + 6 ≤ L) {σ σ1 σ2 : Mem} {r : Int32} (e1 : fX11_task (xs (i + 1)) (xs (i + 2)) (xs (i + 3)) σ = some (r, σ1)) (e2 : fX12_task (xs (i + 1)) (xs (i + 2)) (xs (i + 3)) σ1 = some (r, σ2)) (kk : Run G RL cL_law 4 (some .boolean) (lF G b c k) 1186 [(0, .ref b), (1, .ref (gA G 0)), (2, .ref (gA G 269)), (3, .int (nI i))] [] σ2) : Run G RL cL_law 4 (some .boolean) (lF G b c k) 319 [(0, .ref b), (1, .ref (gA G 0)), (2, .ref (gA G 269)), (3, .int (nI i))] [] σ := by
  refine run_aload_n 1 dL_law_319 rfl rfl ?_
  refine run_arg (k := 1) (v := 1) (pc1 := 0) (pc2 := 0) (pc3 := 0) (pc4 := 0) hX hb hL (by omega) rfl rfl rfl dL_law_320 dL_law_321 dL_law_322 rfl dL_law_323 dL_law_324 ?_
  refine run_arg (k := 2) (v := 2) (pc1 := 0) (pc2 := 0) (pc3 := 0) (pc4 := 0) hX hb hL (by omega) rfl rfl rfl dL_law_325 dL_law_326 dL_law_327 rfl dL_law_328 dL_law_329 ?_
  refine run_arg (k := 3) (v := 3) (pc1 := 0) (pc2 := 0) (pc3 := 0) (pc4 := 0) hX hb hL (by omega) rfl rfl rfl dL_law_330 dL_law_331 dL_law_332 rfl dL_law_333 dL_law_334 ?_
  refine run_callVi (As := [.int (xs (i + 1)), .int (xs (i + 2)), .int (xs (i + 3))]) (fun x z => (x, z) = (r, σ1)) mw_X11_task mi_X11_task ml_L_36 is_0 (by decide) rfl rfl rfl (RF.law (d := 0 + HX11_task) (by decide) h1 h2) (Nat.le_of_ble_eq_true rfl) dL_law_335 (sX11_task G 0 e1) (fun r9 z h8 => ?_) rfl
  rw [show r9 = r from congrArg Prod.fst h8, show z = σ1 from congrArg Prod.snd h8]
  clear h8
  refine run_aload_n 2 dL_law_338 rfl rfl ?_
  refine run_arg (k := 1) (v := 1) (pc1 := 0) (pc2 := 0) (pc3 := 0) (pc4 := 0) hX hb hL (by omega) rfl rfl rfl dL_law_339 dL_law_340 dL_law_341 rfl dL_law_342 dL_law_343 ?_
  refine run_arg (k := 2) (v := 2) (pc1 := 0) (pc2 := 0) (pc3 := 0) (pc4 := 0) hX hb hL (by omega) rfl rfl rfl dL_law_344 dL_law_345 dL_law_346 rfl dL_law_347 dL_law_348 ?_
  refine run_arg (k := 3) (v := 3) (pc1 := 0) (pc2 := 0) (pc3 := 0) (pc4 := 0) hX hb hL (by omega) rfl rfl rfl dL_law_349 dL_law_350 dL_law_351 rfl dL_law_352 dL_law_353 ?_
  refine run_callVi (As := [.int (xs (i + 1)), .int (xs (i + 2)), .int (xs (i + 3))]) (fun x z => (x, z) = (r, σ2)) mw_X12_task mi_X12_task ml_L_40 is_269 (by decide) rfl rfl rfl (RF.law (d := 0 + HX12_task) (by decide) h1 h2) (Nat.le_of_ble_eq_true rfl) dL_law_354 (sX12_task G 0 e2) (fun r9 z h8 => ?_) rfl
  rw [show r9 = r from congrArg Prod.fst h8, show z = σ2 from congrArg Prod.snd h8]
  clear h8
  refine run_icmp_eq 1186 dL_law_357 (by decide) (fun _ => ?_) (fun q => absurd rfl q)
  exact kk
theorem law_deed {G : GT} {b L c k : Nat} {xs : Nat → Int32} (hX : va_X b L xs (g0 G) (g0 G).heap) (hb : b < (g0 G).heap.size) (hL : L ≤ 3072) (h1 : c ≤ 600000) (h2 : k ≤ 7302250) {i : Nat} (hi : i + 6 ≤ L) {σ σ1 σ2 : Mem} {r : Int32} (e1 : fX11_deed (xs (i + 1)) (xs (i + 2)) (xs (i + 3)) σ = some (r, σ1)) (e2 : fX12_deed (xs (i + 1)) (xs (i + 2)) (xs (i + 3)) σ1 = some (r, σ2)) (kk : Run G RL cL_law 4 (some .boolean) (lF G b c k) 1186 [(0, .ref b), (1, .ref (gA G 0)), (2, .ref (gA G 269)), (3, .int (nI i))] [] σ2) : Run G RL cL_law 4 (some .boolean) (lF G b c k) 362 [(0, .ref b), (1, .ref (gA G 0)), (2, .ref (gA G 269)), (3, .int (nI i))] [] σ := by
  refine run_aload_n 1 dL_law_362 rfl rfl ?_
  refine run_arg (k := 1) (v := 1) (pc1 := 0) (pc2 := 0) (pc3 := 0) (pc4 := 0) hX hb hL (by omega) rfl rfl rfl dL_law_363 dL_law_364 dL_law_365 rfl dL_law_366 dL_law_367 ?_
  refine run_arg (k := 2) (v := 2) (pc1 := 0) (pc2 := 0) (pc3 := 0) (pc4 := 0) hX hb hL (by omega) rfl rfl rfl dL_law_368 dL_law_369 dL_law_370 rfl dL_law_371 dL_law_372 ?_
  refine run_arg (k := 3) (v := 3) (pc1 := 0) (pc2 := 0) (pc3 := 0) (pc4 := 0) hX hb hL (by omega) rfl rfl rfl dL_law_373 dL_law_374 dL_law_375 rfl dL_law_376 dL_law_377 ?_
  refine run_callVi (As := [.int (xs (i + 1)), .int (xs (i + 2)), .int (xs (i + 3))]) (fun x z => (x, z) = (r, σ1)) mw_X11_deed mi_X11_deed ml_L_41 is_0 (by decide) rfl rfl rfl (RF.law (d := 0 + HX11_deed) (by decide) h1 h2) (Nat.le_of_ble_eq_true rfl) dL_law_378 (sX11_deed G 0 e1) (fun r9 z h8 => ?_) rfl
  rw [show r9 = r from congrArg Prod.fst h8, show z = σ1 from congrArg Prod.snd h8]
  clear h8
  refine run_aload_n 2 dL_law_381 rfl rfl ?_
  refine run_arg (k := 1) (v := 1) (pc1 := 0) (pc2 := 0) (pc3 := 0) (pc4 := 0) hX hb hL (by omega) rfl rfl rfl dL_law_382 dL_law_383 dL_law_384 rfl dL_law_385 dL_law_386 ?_
  refine run_arg (k := 2) (v := 2) (pc1 := 0) (pc2 := 0) (pc3 := 0) (pc4 := 0) hX hb hL (by omega) rfl rfl rfl dL_law_387 dL_law_388 dL_law_389 rfl dL_law_390 dL_law_391 ?_
  refine run_arg (k := 3) (v := 3) (pc1 := 0) (pc2 := 0) (pc3 := 0) (pc4 := 0) hX hb hL (by omega) rfl rfl rfl dL_law_392 dL_law_393 dL_law_394 rfl dL_law_395 dL_law_396 ?_
  refine run_callVi (As := [.int (xs (i + 1)), .int (xs (i + 2)), .int (xs (i + 3))]) (fun x z => (x, z) = (r, σ2)) mw_X12_deed mi_X12_deed ml_L_44 is_269 (by decide) rfl rfl rfl (RF.law (d := 0 + HX12_deed) (by decide) h1 h2) (Nat.le_of_ble_eq_true rfl) dL_law_397 (sX12_deed G 0 e2) (fun r9 z h8 => ?_) rfl
  rw [show r9 = r from congrArg Prod.fst h8, show z = σ2 from congrArg Prod.snd h8]
  clear h8
  refine run_icmp_eq 1186 dL_law_400 (by decide) (fun _ => ?_) (fun q => absurd rfl q)
  exact kk
theorem law_stop {G : GT} {b L c k : Nat} {xs : Nat → Int32} (hX : va_X b L xs (g0 G) (g0 G).heap) (hb : b < (g0 G).heap.size) (hL : L ≤ 3072) (h1 : c ≤ 600000) (h2 : k ≤ 7302250) {i : Nat} (hi : i + 6 ≤ L) {σ σ1 σ2 : Mem} {r : Int32} (e1 : fX11_stop (xs (i + 1)) (xs (i + 2)) (xs (i + 3)) σ = some (r, σ1)) (e2 : fX12_stop (xs (i + 1)) (xs (i + 2)) (xs (i + 3)) σ1 = some (r, σ2)) (kk : Run G RL cL_law 4 (some .boolean) (lF G b c k) 1186 [(0, .ref b), (1, .ref (gA G 0)), (2, .ref (gA G 269)), (3, .int (nI i))] [] σ2) : Run G RL cL_law 4 (some .boolean) (lF G b c k) 405 [(0, .ref b), (1, .ref (gA G 0)), (2, .ref (gA G 269)), (3, .int (nI i))] [] σ := by
  refine run_aload_n 1 dL_law_405 rfl rfl ?_
  refine run_arg (k := 1) (v := 1) (pc1 := 0) (pc2 := 0) (pc3 := 0) (pc4 := 0) hX hb hL (by omega) rfl rfl rfl dL_law_406 dL_law_407 dL_law_408 rfl dL_law_409 dL_law_410 ?_
  refine run_arg (k := 2) (v := 2) (pc1 := 0) (pc2 := 0) (pc3 := 0) (pc4 := 0) hX hb hL (by omega) rfl rfl rfl dL_law_411 dL_law_412 dL_law_413 rfl dL_law_414 dL_law_415 ?_
  refine run_arg (k := 3) (v := 3) (pc1 := 0) (pc2 := 0) (pc3 := 0) (pc4 := 0) hX hb hL (by omega) rfl rfl rfl dL_law_416 dL_law_417 dL_law_418 rfl dL_law_419 dL_law_420 ?_
  refine run_callVi (As := [.int (xs (i + 1)), .int (xs (i + 2)), .int (xs (i + 3))]) (fun x z => (x, z) = (r, σ1)) mw_X11_stop mi_X11_stop ml_L_45 is_0 (by decide) rfl rfl rfl (RF.law (d := 0 + HX11_stop) (by decide) h1 h2) (Nat.le_of_ble_eq_true rfl) dL_law_421 (sX11_stop G 0 e1) (fun r9 z h8 => ?_) rfl
  rw [show r9 = r from congrArg Prod.fst h8, show z = σ1 from congrArg Prod.snd h8]
  clear h8
  refine run_aload_n 2 dL_law_424 rfl rfl ?_
  refine run_arg (k := 1) (v := 1) (pc1 := 0) (pc2 := 0) (pc3 := 0) (pc4 := 0) hX hb hL (by omega) rfl rfl rfl dL_law_425 dL_law_426 dL_law_427 rfl dL_law_428 dL_law_429 ?_
  refine run_arg (k := 2) (v := 2) (pc1 := 0) (pc2 := 0) (pc3 := 0) (pc4 := 0) hX hb hL (by omega) rfl rfl rfl dL_law_430 dL_law_431 dL_law_432 rfl dL_law_433 dL_law_434 ?_
  refine run_arg (k := 3) (v := 3) (pc1 := 0) (pc2 := 0) (pc3 := 0) (pc4 := 0) hX hb hL (by omega) rfl rfl rfl dL_law_435 dL_law_436 dL_law_437 rfl dL_law_438 dL_law_439 ?_
  refine run_callVi (As := [.int (xs (i + 1)), .int (xs (i + 2)), .int (xs (i + 3))]) (fun x z => (x, z) = (r, σ2)) mw_X12_stop mi_X12_stop ml_L_48 is_269 (by decide) rfl rfl rfl (RF.law (d := 0 + HX12_stop) (by decide) h1 h2) (Nat.le_of_ble_eq_true rfl) dL_law_440 (sX12_stop G 0 e2) (fun r9 z h8 => ?_) rfl
  rw [show r9 = r from congrArg Prod.fst h8, show z = σ2 from congrArg Prod.snd h8]
  clear h8
  refine run_icmp_eq 1186 dL_law_443 (by decide) (fun _ => ?_) (fun q => absurd rfl q)
  exact kk
theorem law_state {G : GT} {b L c k : Nat} {xs : Nat → Int32} (hX : va_X b L xs (g0 G) (g0 G).heap) (hb : b < (g0 G).heap.size) (hL : L ≤ 3072) (h1 : c ≤ 600000) (h2 : k ≤ 7302250) {i : Nat} (hi : i + 6 ≤ L) {σ σ1 σ2 : Mem} {r : Int32} (e1 : fX11_state (xs (i + 1)) (xs (i + 2)) (xs (i + 3)) (xs (i + 4)) (xs (i + 5)) σ = some (r, σ1)) (e2 : fX12_state (xs (i + 1)) (xs (i + 2)) (xs (i + 3)) (xs (i + 4)) (xs (i + 5)) σ1 = some (r, σ2)) (kk : Run G RL cL_law 4 (some .boolean) (lF G b c k) 1186 [(0, .ref b), (1, .ref (gA G 0)), (2, .ref (gA G 269)), (3, .int (nI i))] [] σ2) : Run G RL cL_law 4 (some .boolean) (lF G b c k) 448 [(0, .ref b), (1, .ref (gA G 0)), (2, .ref (gA G 269)), (3, .int (nI i))] [] σ := by
  refine run_aload_n 1 dL_law_448 rfl rfl ?_
  refine run_arg (k := 1) (v := 1) (pc1 := 0) (pc2 := 0) (pc3 := 0) (pc4 := 0) hX hb hL (by omega) rfl rfl rfl dL_law_449 dL_law_450 dL_law_451 rfl dL_law_452 dL_law_453 ?_
  refine run_arg (k := 2) (v := 2) (pc1 := 0) (pc2 := 0) (pc3 := 0) (pc4 := 0) hX hb hL (by omega) rfl rfl rfl dL_law_454 dL_law_455 dL_law_456 rfl dL_law_457 dL_law_458 ?_
  refine run_arg (k := 3) (v := 3) (pc1 := 0) (pc2 := 0) (pc3 := 0) (pc4 := 0) hX hb hL (by omega) rfl rfl rfl dL_law_459 dL_law_460 dL_law_461 rfl dL_law_462 dL_law_463 ?_
  refine run_arg (k := 4) (v := 4) (pc1 := 0) (pc2 := 0) (pc3 := 0) (pc4 := 0) hX hb hL (by omega) rfl rfl rfl dL_law_464 dL_law_465 dL_law_466 rfl dL_law_467 dL_law_468 ?_
  refine run_arg (k := 5) (v := 5) (pc1 := 0) (pc2 := 0) (pc3 := 0) (pc4 := 0) hX hb hL (by omega) rfl rfl rfl dL_law_469 dL_law_470 dL_law_471 rfl dL_law_472 dL_law_473 ?_
  refine run_callVi (As := [.int (xs (i + 1)), .int (xs (i + 2)), .int (xs (i + 3)), .int (xs (i + 4)), .int (xs (i + 5))]) (fun x z => (x, z) = (r, σ1)) mw_X11_state mi_X11_state ml_L_49 is_0 (by decide) rfl rfl rfl (RF.law (d := 0 + HX11_state) (by decide) h1 h2) (Nat.le_of_ble_eq_true rfl) dL_law_474 (sX11_state G 0 e1) (fun r9 z h8 => ?_) rfl
  rw [show r9 = r from congrArg Prod.fst h8, show z = σ1 from congrArg Prod.snd h8]
  clear h8
  refine run_aload_n 2 dL_law_477 rfl rfl ?_
  refine run_arg (k := 1) (v := 1) (pc1 := 0) (pc2 := 0) (pc3 := 0) (pc4 := 0) hX hb hL (by omega) rfl rfl rfl dL_law_478 dL_law_479 dL_law_480 rfl dL_law_481 dL_law_482 ?_
  refine run_arg (k := 2) (v := 2) (pc1 := 0) (pc2 := 0) (pc3 := 0) (pc4 := 0) hX hb hL (by omega) rfl rfl rfl dL_law_483 dL_law_484 dL_law_485 rfl dL_law_486 dL_law_487 ?_
  refine run_arg (k := 3) (v := 3) (pc1 := 0) (pc2 := 0) (pc3 := 0) (pc4 := 0) hX hb hL (by omega) rfl rfl rfl dL_law_488 dL_law_489 dL_law_490 rfl dL_law_491 dL_law_492 ?_
  refine run_arg (k := 4) (v := 4) (pc1 := 0) (pc2 := 0) (pc3 := 0) (pc4 := 0) hX hb hL (by omega) rfl rfl rfl dL_law_493 dL_law_494 dL_law_495 rfl dL_law_496 dL_law_497 ?_
  refine run_arg (k := 5) (v := 5) (pc1 := 0) (pc2 := 0) (pc3 := 0) (pc4 := 0) hX hb hL (by omega) rfl rfl rfl dL_law_498 dL_law_499 dL_law_500 rfl dL_law_501 dL_law_502 ?_
  refine run_callVi (As := [.int (xs (i + 1)), .int (xs (i + 2)), .int (xs (i + 3)), .int (xs (i + 4)), .int (xs (i + 5))]) (fun x z => (x, z) = (r, σ2)) mw_X12_state mi_X12_state ml_L_52 is_269 (by decide) rfl rfl rfl (RF.law (d := 0 + HX12_state) (by decide) h1 h2) (Nat.le_of_ble_eq_true rfl) dL_law_503 (sX12_state G 0 e2) (fun r9 z h8 => ?_) rfl
  rw [show r9 = r from congrArg Prod.fst h8, show z = σ2 from congrArg Prod.snd h8]
  clear h8
  refine run_icmp_eq 1186 dL_law_506 (by decide) (fun _ => ?_) (fun q => absurd rfl q)
  exact kk
theorem law_why {G : GT} {b L c k : Nat} {xs : Nat → Int32} (hX : va_X b L xs (g0 G) (g0 G).heap) (hb : b < (g0 G).heap.size) (hL : L ≤ 3072) (h1 : c ≤ 600000) (h2 : k ≤ 7302250) {i : Nat} (hi : i + 6 ≤ L) {σ σ1 σ2 : Mem} {r : Int32} (e1 : fX11_why (xs (i + 1)) (xs (i + 2)) (xs (i + 3)) (xs (i + 4)) (xs (i + 5)) σ = some (r, σ1)) (e2 : fX12_why (xs (i + 1)) (xs (i + 2)) (xs (i + 3)) (xs (i + 4)) (xs (i + 5)) σ1 = some (r, σ2)) (kk : Run G RL cL_law 4 (some .boolean) (lF G b c k) 1186 [(0, .ref b), (1, .ref (gA G 0)), (2, .ref (gA G 269)), (3, .int (nI i))] [] σ2) : Run G RL cL_law 4 (some .boolean) (lF G b c k) 511 [(0, .ref b), (1, .ref (gA G 0)), (2, .ref (gA G 269)), (3, .int (nI i))] [] σ := by
  refine run_aload_n 1 dL_law_511 rfl rfl ?_
  refine run_arg (k := 1) (v := 1) (pc1 := 0) (pc2 := 0) (pc3 := 0) (pc4 := 0) hX hb hL (by omega) rfl rfl rfl dL_law_512 dL_law_513 dL_law_514 rfl dL_law_515 dL_law_516 ?_
  refine run_arg (k := 2) (v := 2) (pc1 := 0) (pc2 := 0) (pc3 := 0) (pc4 := 0) hX hb hL (by omega) rfl rfl rfl dL_law_517 dL_law_518 dL_law_519 rfl dL_law_520 dL_law_521 ?_
  refine run_arg (k := 3) (v := 3) (pc1 := 0) (pc2 := 0) (pc3 := 0) (pc4 := 0) hX hb hL (by omega) rfl rfl rfl dL_law_522 dL_law_523 dL_law_524 rfl dL_law_525 dL_law_526 ?_
  refine run_arg (k := 4) (v := 4) (pc1 := 0) (pc2 := 0) (pc3 := 0) (pc4 := 0) hX hb hL (by omega) rfl rfl rfl dL_law_527 dL_law_528 dL_law_529 rfl dL_law_530 dL_law_531 ?_
  refine run_arg (k := 5) (v := 5) (pc1 := 0) (pc2 := 0) (pc3 := 0) (pc4 := 0) hX hb hL (by omega) rfl rfl rfl dL_law_532 dL_law_533 dL_law_534 rfl dL_law_535 dL_law_536 ?_
  refine run_callVi (As := [.int (xs (i + 1)), .int (xs (i + 2)), .int (xs (i + 3)), .int (xs (i + 4)), .int (xs (i + 5))]) (fun x z => (x, z) = (r, σ1)) mw_X11_why mi_X11_why ml_L_53 is_0 (by decide) rfl rfl rfl (RF.law (d := 0 + HX11_why) (by decide) h1 h2) (Nat.le_of_ble_eq_true rfl) dL_law_537 (sX11_why G 0 e1) (fun r9 z h8 => ?_) rfl
  rw [show r9 = r from congrArg Prod.fst h8, show z = σ1 from congrArg Prod.snd h8]
  clear h8
  refine run_aload_n 2 dL_law_540 rfl rfl ?_
  refine run_arg (k := 1) (v := 1) (pc1 := 0) (pc2 := 0) (pc3 := 0) (pc4 := 0) hX hb hL (by omega) rfl rfl rfl dL_law_541 dL_law_542 dL_law_543 rfl dL_law_544 dL_law_545 ?_
  refine run_arg (k := 2) (v := 2) (pc1 := 0) (pc2 := 0) (pc3 := 0) (pc4 := 0) hX hb hL (by omega) rfl rfl rfl dL_law_546 dL_law_547 dL_law_548 rfl dL_law_549 dL_law_550 ?_
  refine run_arg (k := 3) (v := 3) (pc1 := 0) (pc2 := 0) (pc3 := 0) (pc4 := 0) hX hb hL (by omega) rfl rfl rfl dL_law_551 dL_law_552 dL_law_553 rfl dL_law_554 dL_law_555 ?_
  refine run_arg (k := 4) (v := 4) (pc1 := 0) (pc2 := 0) (pc3 := 0) (pc4 := 0) hX hb hL (by omega) rfl rfl rfl dL_law_556 dL_law_557 dL_law_558 rfl dL_law_559 dL_law_560 ?_
  refine run_arg (k := 5) (v := 5) (pc1 := 0) (pc2 := 0) (pc3 := 0) (pc4 := 0) hX hb hL (by omega) rfl rfl rfl dL_law_561 dL_law_562 dL_law_563 rfl dL_law_564 dL_law_565 ?_
  refine run_callVi (As := [.int (xs (i + 1)), .int (xs (i + 2)), .int (xs (i + 3)), .int (xs (i + 4)), .int (xs (i + 5))]) (fun x z => (x, z) = (r, σ2)) mw_X12_why mi_X12_why ml_L_56 is_269 (by decide) rfl rfl rfl (RF.law (d := 0 + HX12_why) (by decide) h1 h2) (Nat.le_of_ble_eq_true rfl) dL_law_566 (sX12_why G 0 e2) (fun r9 z h8 => ?_) rfl
  rw [show r9 = r from congrArg Prod.fst h8, show z = σ2 from congrArg Prod.snd h8]
  clear h8
  refine run_icmp_eq 1186 dL_law_569 (by decide) (fun _ => ?_) (fun q => absurd rfl q)
  exact kk
theorem law_serial {G : GT} {b L c k : Nat} {xs : Nat → Int32} (hX : va_X b L xs (g0 G) (g0 G).heap) (hb : b < (g0 G).heap.size) (hL : L ≤ 3072) (h1 : c ≤ 600000) (h2 : k ≤ 7302250) {i : Nat} (hi : i + 6 ≤ L) {σ σ1 σ2 : Mem} {r : Int32} (e1 : fX11_serial (xs (i + 1)) (xs (i + 2)) (xs (i + 3)) (xs (i + 4)) σ = some (r, σ1)) (e2 : fX12_serial (xs (i + 1)) (xs (i + 2)) (xs (i + 3)) (xs (i + 4)) σ1 = some (r, σ2)) (kk : Run G RL cL_law 4 (some .boolean) (lF G b c k) 1186 [(0, .ref b), (1, .ref (gA G 0)), (2, .ref (gA G 269)), (3, .int (nI i))] [] σ2) : Run G RL cL_law 4 (some .boolean) (lF G b c k) 574 [(0, .ref b), (1, .ref (gA G 0)), (2, .ref (gA G 269)), (3, .int (nI i))] [] σ := by
  refine run_aload_n 1 dL_law_574 rfl rfl ?_
  refine run_arg (k := 1) (v := 1) (pc1 := 0) (pc2 := 0) (pc3 := 0) (pc4 := 0) hX hb hL (by omega) rfl rfl rfl dL_law_575 dL_law_576 dL_law_577 rfl dL_law_578 dL_law_579 ?_
  refine run_arg (k := 2) (v := 2) (pc1 := 0) (pc2 := 0) (pc3 := 0) (pc4 := 0) hX hb hL (by omega) rfl rfl rfl dL_law_580 dL_law_581 dL_law_582 rfl dL_law_583 dL_law_584 ?_
  refine run_arg (k := 3) (v := 3) (pc1 := 0) (pc2 := 0) (pc3 := 0) (pc4 := 0) hX hb hL (by omega) rfl rfl rfl dL_law_585 dL_law_586 dL_law_587 rfl dL_law_588 dL_law_589 ?_
  refine run_arg (k := 4) (v := 4) (pc1 := 0) (pc2 := 0) (pc3 := 0) (pc4 := 0) hX hb hL (by omega) rfl rfl rfl dL_law_590 dL_law_591 dL_law_592 rfl dL_law_593 dL_law_594 ?_
  refine run_callVi (As := [.int (xs (i + 1)), .int (xs (i + 2)), .int (xs (i + 3)), .int (xs (i + 4))]) (fun x z => (x, z) = (r, σ1)) mw_X11_serial mi_X11_serial ml_L_57 is_0 (by decide) rfl rfl rfl (RF.law (d := 0 + HX11_serial) (by decide) h1 h2) (Nat.le_of_ble_eq_true rfl) dL_law_595 (sX11_serial G 0 e1) (fun r9 z h8 => ?_) rfl
  rw [show r9 = r from congrArg Prod.fst h8, show z = σ1 from congrArg Prod.snd h8]
  clear h8
  refine run_aload_n 2 dL_law_598 rfl rfl ?_
  refine run_arg (k := 1) (v := 1) (pc1 := 0) (pc2 := 0) (pc3 := 0) (pc4 := 0) hX hb hL (by omega) rfl rfl rfl dL_law_599 dL_law_600 dL_law_601 rfl dL_law_602 dL_law_603 ?_
  refine run_arg (k := 2) (v := 2) (pc1 := 0) (pc2 := 0) (pc3 := 0) (pc4 := 0) hX hb hL (by omega) rfl rfl rfl dL_law_604 dL_law_605 dL_law_606 rfl dL_law_607 dL_law_608 ?_
  refine run_arg (k := 3) (v := 3) (pc1 := 0) (pc2 := 0) (pc3 := 0) (pc4 := 0) hX hb hL (by omega) rfl rfl rfl dL_law_609 dL_law_610 dL_law_611 rfl dL_law_612 dL_law_613 ?_
  refine run_arg (k := 4) (v := 4) (pc1 := 0) (pc2 := 0) (pc3 := 0) (pc4 := 0) hX hb hL (by omega) rfl rfl rfl dL_law_614 dL_law_615 dL_law_616 rfl dL_law_617 dL_law_618 ?_
  refine run_callVi (As := [.int (xs (i + 1)), .int (xs (i + 2)), .int (xs (i + 3)), .int (xs (i + 4))]) (fun x z => (x, z) = (r, σ2)) mw_X12_serial mi_X12_serial ml_L_61 is_269 (by decide) rfl rfl rfl (RF.law (d := 0 + HX12_serial) (by decide) h1 h2) (Nat.le_of_ble_eq_true rfl) dL_law_619 (sX12_serial G 0 e2) (fun r9 z h8 => ?_) rfl
  rw [show r9 = r from congrArg Prod.fst h8, show z = σ2 from congrArg Prod.snd h8]
  clear h8
  refine run_icmp_eq 1186 dL_law_622 (by decide) (fun _ => ?_) (fun q => absurd rfl q)
  exact kk
theorem law_fact {G : GT} {b L c k : Nat} {xs : Nat → Int32} (hX : va_X b L xs (g0 G) (g0 G).heap) (hb : b < (g0 G).heap.size) (hL : L ≤ 3072) (h1 : c ≤ 600000) (h2 : k ≤ 7302250) {i : Nat} (hi : i + 6 ≤ L) {σ σ1 σ2 : Mem} {r : Int32} (e1 : fX11_fact (xs (i + 1)) (xs (i + 2)) (xs (i + 3)) σ = some (r, σ1)) (e2 : fX12_fact (xs (i + 1)) (xs (i + 2)) (xs (i + 3)) σ1 = some (r, σ2)) (kk : Run G RL cL_law 4 (some .boolean) (lF G b c k) 1186 [(0, .ref b), (1, .ref (gA G 0)), (2, .ref (gA G 269)), (3, .int (nI i))] [] σ2) : Run G RL cL_law 4 (some .boolean) (lF G b c k) 627 [(0, .ref b), (1, .ref (gA G 0)), (2, .ref (gA G 269)), (3, .int (nI i))] [] σ := by
  refine run_aload_n 1 dL_law_627 rfl rfl ?_
  refine run_arg (k := 1) (v := 1) (pc1 := 0) (pc2 := 0) (pc3 := 0) (pc4 := 0) hX hb hL (by omega) rfl rfl rfl dL_law_628 dL_law_629 dL_law_630 rfl dL_law_631 dL_law_632 ?_
  refine run_arg (k := 2) (v := 2) (pc1 := 0) (pc2 := 0) (pc3 := 0) (pc4 := 0) hX hb hL (by omega) rfl rfl rfl dL_law_633 dL_law_634 dL_law_635 rfl dL_law_636 dL_law_637 ?_
  refine run_arg (k := 3) (v := 3) (pc1 := 0) (pc2 := 0) (pc3 := 0) (pc4 := 0) hX hb hL (by omega) rfl rfl rfl dL_law_638 dL_law_639 dL_law_640 rfl dL_law_641 dL_law_642 ?_
  refine run_callVi (As := [.int (xs (i + 1)), .int (xs (i + 2)), .int (xs (i + 3))]) (fun x z => (x, z) = (r, σ1)) mw_X11_fact mi_X11_fact ml_L_62 is_0 (by decide) rfl rfl rfl (RF.law (d := 0 + HX11_fact) (by decide) h1 h2) (Nat.le_of_ble_eq_true rfl) dL_law_643 (sX11_fact G 0 e1) (fun r9 z h8 => ?_) rfl
  rw [show r9 = r from congrArg Prod.fst h8, show z = σ1 from congrArg Prod.snd h8]
  clear h8
  refine run_aload_n 2 dL_law_646 rfl rfl ?_
  refine run_arg (k := 1) (v := 1) (pc1 := 0) (pc2 := 0) (pc3 := 0) (pc4 := 0) hX hb hL (by omega) rfl rfl rfl dL_law_647 dL_law_648 dL_law_649 rfl dL_law_650 dL_law_651 ?_
  refine run_arg (k := 2) (v := 2) (pc1 := 0) (pc2 := 0) (pc3 := 0) (pc4 := 0) hX hb hL (by omega) rfl rfl rfl dL_law_652 dL_law_653 dL_law_654 rfl dL_law_655 dL_law_656 ?_
  refine run_arg (k := 3) (v := 3) (pc1 := 0) (pc2 := 0) (pc3 := 0) (pc4 := 0) hX hb hL (by omega) rfl rfl rfl dL_law_657 dL_law_658 dL_law_659 rfl dL_law_660 dL_law_661 ?_
  refine run_callVi (As := [.int (xs (i + 1)), .int (xs (i + 2)), .int (xs (i + 3))]) (fun x z => (x, z) = (r, σ2)) mw_X12_fact mi_X12_fact ml_L_65 is_269 (by decide) rfl rfl rfl (RF.law (d := 0 + HX12_fact) (by decide) h1 h2) (Nat.le_of_ble_eq_true rfl) dL_law_662 (sX12_fact G 0 e2) (fun r9 z h8 => ?_) rfl
  rw [show r9 = r from congrArg Prod.fst h8, show z = σ2 from congrArg Prod.snd h8]
  clear h8
  refine run_icmp_eq 1186 dL_law_665 (by decide) (fun _ => ?_) (fun q => absurd rfl q)
  exact kk
theorem law_fits {G : GT} {b L c k : Nat} {xs : Nat → Int32} (hX : va_X b L xs (g0 G) (g0 G).heap) (hb : b < (g0 G).heap.size) (hL : L ≤ 3072) (h1 : c ≤ 600000) (h2 : k ≤ 7302250) {i : Nat} (hi : i + 6 ≤ L) {σ σ1 σ2 : Mem} {r : Int32} (e1 : fX11_fits (xs (i + 1)) (xs (i + 2)) (xs (i + 3)) (xs (i + 4)) (xs (i + 5)) σ = some (r, σ1)) (e2 : fX12_fits (xs (i + 1)) (xs (i + 2)) (xs (i + 3)) (xs (i + 4)) (xs (i + 5)) σ1 = some (r, σ2)) (kk : Run G RL cL_law 4 (some .boolean) (lF G b c k) 1186 [(0, .ref b), (1, .ref (gA G 0)), (2, .ref (gA G 269)), (3, .int (nI i))] [] σ2) : Run G RL cL_law 4 (some .boolean) (lF G b c k) 670 [(0, .ref b), (1, .ref (gA G 0)), (2, .ref (gA G 269)), (3, .int (nI i))] [] σ := by
  refine run_aload_n 1 dL_law_670 rfl rfl ?_
  refine run_arg (k := 1) (v := 1) (pc1 := 0) (pc2 := 0) (pc3 := 0) (pc4 := 0) hX hb hL (by omega) rfl rfl rfl dL_law_671 dL_law_672 dL_law_673 rfl dL_law_674 dL_law_675 ?_
  refine run_arg (k := 2) (v := 2) (pc1 := 0) (pc2 := 0) (pc3 := 0) (pc4 := 0) hX hb hL (by omega) rfl rfl rfl dL_law_676 dL_law_677 dL_law_678 rfl dL_law_679 dL_law_680 ?_
  refine run_arg (k := 3) (v := 3) (pc1 := 0) (pc2 := 0) (pc3 := 0) (pc4 := 0) hX hb hL (by omega) rfl rfl rfl dL_law_681 dL_law_682 dL_law_683 rfl dL_law_684 dL_law_685 ?_
  refine run_arg (k := 4) (v := 4) (pc1 := 0) (pc2 := 0) (pc3 := 0) (pc4 := 0) hX hb hL (by omega) rfl rfl rfl dL_law_686 dL_law_687 dL_law_688 rfl dL_law_689 dL_law_690 ?_
  refine run_arg (k := 5) (v := 5) (pc1 := 0) (pc2 := 0) (pc3 := 0) (pc4 := 0) hX hb hL (by omega) rfl rfl rfl dL_law_691 dL_law_692 dL_law_693 rfl dL_law_694 dL_law_695 ?_
  refine run_callVi (As := [.int (xs (i + 1)), .int (xs (i + 2)), .int (xs (i + 3)), .int (xs (i + 4)), .int (xs (i + 5))]) (fun x z => (x, z) = (r, σ1)) mw_X11_fits mi_X11_fits ml_L_66 is_0 (by decide) rfl rfl rfl (RF.law (d := 0 + HX11_fits) (by decide) h1 h2) (Nat.le_of_ble_eq_true rfl) dL_law_696 (sX11_fits G 0 e1) (fun r9 z h8 => ?_) rfl
  rw [show r9 = r from congrArg Prod.fst h8, show z = σ1 from congrArg Prod.snd h8]
  clear h8
  refine run_aload_n 2 dL_law_699 rfl rfl ?_
  refine run_arg (k := 1) (v := 1) (pc1 := 0) (pc2 := 0) (pc3 := 0) (pc4 := 0) hX hb hL (by omega) rfl rfl rfl dL_law_700 dL_law_701 dL_law_702 rfl dL_law_703 dL_law_704 ?_
  refine run_arg (k := 2) (v := 2) (pc1 := 0) (pc2 := 0) (pc3 := 0) (pc4 := 0) hX hb hL (by omega) rfl rfl rfl dL_law_705 dL_law_706 dL_law_707 rfl dL_law_708 dL_law_709 ?_
  refine run_arg (k := 3) (v := 3) (pc1 := 0) (pc2 := 0) (pc3 := 0) (pc4 := 0) hX hb hL (by omega) rfl rfl rfl dL_law_710 dL_law_711 dL_law_712 rfl dL_law_713 dL_law_714 ?_
  refine run_arg (k := 4) (v := 4) (pc1 := 0) (pc2 := 0) (pc3 := 0) (pc4 := 0) hX hb hL (by omega) rfl rfl rfl dL_law_715 dL_law_716 dL_law_717 rfl dL_law_718 dL_law_719 ?_
  refine run_arg (k := 5) (v := 5) (pc1 := 0) (pc2 := 0) (pc3 := 0) (pc4 := 0) hX hb hL (by omega) rfl rfl rfl dL_law_720 dL_law_721 dL_law_722 rfl dL_law_723 dL_law_724 ?_
  refine run_callVi (As := [.int (xs (i + 1)), .int (xs (i + 2)), .int (xs (i + 3)), .int (xs (i + 4)), .int (xs (i + 5))]) (fun x z => (x, z) = (r, σ2)) mw_X12_fits mi_X12_fits ml_L_69 is_269 (by decide) rfl rfl rfl (RF.law (d := 0 + HX12_fits) (by decide) h1 h2) (Nat.le_of_ble_eq_true rfl) dL_law_725 (sX12_fits G 0 e2) (fun r9 z h8 => ?_) rfl
  rw [show r9 = r from congrArg Prod.fst h8, show z = σ2 from congrArg Prod.snd h8]
  clear h8
  refine run_icmp_eq 1186 dL_law_728 (by decide) (fun _ => ?_) (fun q => absurd rfl q)
  exact kk
theorem law_drawn {G : GT} {b L c k : Nat} {xs : Nat → Int32} (hX : va_X b L xs (g0 G) (g0 G).heap) (hb : b < (g0 G).heap.size) (hL : L ≤ 3072) (h1 : c ≤ 600000) (h2 : k ≤ 7302250) {i : Nat} (hi : i + 6 ≤ L) {σ σ1 σ2 : Mem} {r : Int32} (e1 : fX11_drawn (xs (i + 1)) (xs (i + 2)) (xs (i + 3)) (xs (i + 4)) (xs (i + 5)) σ = some (r, σ1)) (e2 : fX12_drawn (xs (i + 1)) (xs (i + 2)) (xs (i + 3)) (xs (i + 4)) (xs (i + 5)) σ1 = some (r, σ2)) (kk : Run G RL cL_law 4 (some .boolean) (lF G b c k) 1186 [(0, .ref b), (1, .ref (gA G 0)), (2, .ref (gA G 269)), (3, .int (nI i))] [] σ2) : Run G RL cL_law 4 (some .boolean) (lF G b c k) 733 [(0, .ref b), (1, .ref (gA G 0)), (2, .ref (gA G 269)), (3, .int (nI i))] [] σ := by
  refine run_aload_n 1 dL_law_733 rfl rfl ?_
  refine run_arg (k := 1) (v := 1) (pc1 := 0) (pc2 := 0) (pc3 := 0) (pc4 := 0) hX hb hL (by omega) rfl rfl rfl dL_law_734 dL_law_735 dL_law_736 rfl dL_law_737 dL_law_738 ?_
  refine run_arg (k := 2) (v := 2) (pc1 := 0) (pc2 := 0) (pc3 := 0) (pc4 := 0) hX hb hL (by omega) rfl rfl rfl dL_law_739 dL_law_740 dL_law_741 rfl dL_law_742 dL_law_743 ?_
  refine run_arg (k := 3) (v := 3) (pc1 := 0) (pc2 := 0) (pc3 := 0) (pc4 := 0) hX hb hL (by omega) rfl rfl rfl dL_law_744 dL_law_745 dL_law_746 rfl dL_law_747 dL_law_748 ?_
  refine run_arg (k := 4) (v := 4) (pc1 := 0) (pc2 := 0) (pc3 := 0) (pc4 := 0) hX hb hL (by omega) rfl rfl rfl dL_law_749 dL_law_750 dL_law_751 rfl dL_law_752 dL_law_753 ?_
  refine run_arg (k := 5) (v := 5) (pc1 := 0) (pc2 := 0) (pc3 := 0) (pc4 := 0) hX hb hL (by omega) rfl rfl rfl dL_law_754 dL_law_755 dL_law_756 rfl dL_law_757 dL_law_758 ?_
  refine run_callVi (As := [.int (xs (i + 1)), .int (xs (i + 2)), .int (xs (i + 3)), .int (xs (i + 4)), .int (xs (i + 5))]) (fun x z => (x, z) = (r, σ1)) mw_X11_drawn mi_X11_drawn ml_L_70 is_0 (by decide) rfl rfl rfl (RF.law (d := 0 + HX11_drawn) (by decide) h1 h2) (Nat.le_of_ble_eq_true rfl) dL_law_759 (sX11_drawn G 0 e1) (fun r9 z h8 => ?_) rfl
  rw [show r9 = r from congrArg Prod.fst h8, show z = σ1 from congrArg Prod.snd h8]
  clear h8
  refine run_aload_n 2 dL_law_762 rfl rfl ?_
  refine run_arg (k := 1) (v := 1) (pc1 := 0) (pc2 := 0) (pc3 := 0) (pc4 := 0) hX hb hL (by omega) rfl rfl rfl dL_law_763 dL_law_764 dL_law_765 rfl dL_law_766 dL_law_767 ?_
  refine run_arg (k := 2) (v := 2) (pc1 := 0) (pc2 := 0) (pc3 := 0) (pc4 := 0) hX hb hL (by omega) rfl rfl rfl dL_law_768 dL_law_769 dL_law_770 rfl dL_law_771 dL_law_772 ?_
  refine run_arg (k := 3) (v := 3) (pc1 := 0) (pc2 := 0) (pc3 := 0) (pc4 := 0) hX hb hL (by omega) rfl rfl rfl dL_law_773 dL_law_774 dL_law_775 rfl dL_law_776 dL_law_777 ?_
  refine run_arg (k := 4) (v := 4) (pc1 := 0) (pc2 := 0) (pc3 := 0) (pc4 := 0) hX hb hL (by omega) rfl rfl rfl dL_law_778 dL_law_779 dL_law_780 rfl dL_law_781 dL_law_782 ?_
  refine run_arg (k := 5) (v := 5) (pc1 := 0) (pc2 := 0) (pc3 := 0) (pc4 := 0) hX hb hL (by omega) rfl rfl rfl dL_law_783 dL_law_784 dL_law_785 rfl dL_law_786 dL_law_787 ?_
  refine run_callVi (As := [.int (xs (i + 1)), .int (xs (i + 2)), .int (xs (i + 3)), .int (xs (i + 4)), .int (xs (i + 5))]) (fun x z => (x, z) = (r, σ2)) mw_X12_drawn mi_X12_drawn ml_L_73 is_269 (by decide) rfl rfl rfl (RF.law (d := 0 + HX12_drawn) (by decide) h1 h2) (Nat.le_of_ble_eq_true rfl) dL_law_788 (sX12_drawn G 0 e2) (fun r9 z h8 => ?_) rfl
  rw [show r9 = r from congrArg Prod.fst h8, show z = σ2 from congrArg Prod.snd h8]
  clear h8
  refine run_icmp_eq 1186 dL_law_791 (by decide) (fun _ => ?_) (fun q => absurd rfl q)
  exact kk
theorem law_keys {G : GT} {b L c k : Nat} {xs : Nat → Int32} (hX : va_X b L xs (g0 G) (g0 G).heap) (hb : b < (g0 G).heap.size) (hL : L ≤ 3072) (h1 : c ≤ 600000) (h2 : k ≤ 7302250) {i : Nat} (hi : i + 6 ≤ L) {σ σ1 σ2 : Mem} {r : Int32} (e1 : fX11_keys (xs (i + 1)) (xs (i + 2)) (xs (i + 3)) σ = some (r, σ1)) (e2 : fX12_keys (xs (i + 1)) (xs (i + 2)) (xs (i + 3)) σ1 = some (r, σ2)) (kk : Run G RL cL_law 4 (some .boolean) (lF G b c k) 1186 [(0, .ref b), (1, .ref (gA G 0)), (2, .ref (gA G 269)), (3, .int (nI i))] [] σ2) : Run G RL cL_law 4 (some .boolean) (lF G b c k) 796 [(0, .ref b), (1, .ref (gA G 0)), (2, .ref (gA G 269)), (3, .int (nI i))] [] σ := by
  refine run_aload_n 1 dL_law_796 rfl rfl ?_
  refine run_arg (k := 1) (v := 1) (pc1 := 0) (pc2 := 0) (pc3 := 0) (pc4 := 0) hX hb hL (by omega) rfl rfl rfl dL_law_797 dL_law_798 dL_law_799 rfl dL_law_800 dL_law_801 ?_
  refine run_arg (k := 2) (v := 2) (pc1 := 0) (pc2 := 0) (pc3 := 0) (pc4 := 0) hX hb hL (by omega) rfl rfl rfl dL_law_802 dL_law_803 dL_law_804 rfl dL_law_805 dL_law_806 ?_
  refine run_arg (k := 3) (v := 3) (pc1 := 0) (pc2 := 0) (pc3 := 0) (pc4 := 0) hX hb hL (by omega) rfl rfl rfl dL_law_807 dL_law_808 dL_law_809 rfl dL_law_810 dL_law_811 ?_
  refine run_callVi (As := [.int (xs (i + 1)), .int (xs (i + 2)), .int (xs (i + 3))]) (fun x z => (x, z) = (r, σ1)) mw_X11_keys mi_X11_keys ml_L_74 is_0 (by decide) rfl rfl rfl (RF.law (d := 0 + HX11_keys) (by decide) h1 h2) (Nat.le_of_ble_eq_true rfl) dL_law_812 (sX11_keys G 0 e1) (fun r9 z h8 => ?_) rfl
  rw [show r9 = r from congrArg Prod.fst h8, show z = σ1 from congrArg Prod.snd h8]
  clear h8
  refine run_aload_n 2 dL_law_815 rfl rfl ?_
  refine run_arg (k := 1) (v := 1) (pc1 := 0) (pc2 := 0) (pc3 := 0) (pc4 := 0) hX hb hL (by omega) rfl rfl rfl dL_law_816 dL_law_817 dL_law_818 rfl dL_law_819 dL_law_820 ?_
  refine run_arg (k := 2) (v := 2) (pc1 := 0) (pc2 := 0) (pc3 := 0) (pc4 := 0) hX hb hL (by omega) rfl rfl rfl dL_law_821 dL_law_822 dL_law_823 rfl dL_law_824 dL_law_825 ?_
  refine run_arg (k := 3) (v := 3) (pc1 := 0) (pc2 := 0) (pc3 := 0) (pc4 := 0) hX hb hL (by omega) rfl rfl rfl dL_law_826 dL_law_827 dL_law_828 rfl dL_law_829 dL_law_830 ?_
  refine run_callVi (As := [.int (xs (i + 1)), .int (xs (i + 2)), .int (xs (i + 3))]) (fun x z => (x, z) = (r, σ2)) mw_X12_keys mi_X12_keys ml_L_77 is_269 (by decide) rfl rfl rfl (RF.law (d := 0 + HX12_keys) (by decide) h1 h2) (Nat.le_of_ble_eq_true rfl) dL_law_831 (sX12_keys G 0 e2) (fun r9 z h8 => ?_) rfl
  rw [show r9 = r from congrArg Prod.fst h8, show z = σ2 from congrArg Prod.snd h8]
  clear h8
  refine run_icmp_eq 1186 dL_law_834 (by decide) (fun _ => ?_) (fun q => absurd rfl q)
  exact kk
theorem law_free {G : GT} {b L c k : Nat} {xs : Nat → Int32} (hX : va_X b L xs (g0 G) (g0 G).heap) (hb : b < (g0 G).heap.size) (hL : L ≤ 3072) (h1 : c ≤ 600000) (h2 : k ≤ 7302250) {i : Nat} (hi : i + 6 ≤ L) {σ σ1 σ2 : Mem} {r : Int32} (e1 : fX11_free (xs (i + 1)) (xs (i + 2)) σ = some (r, σ1)) (e2 : fX12_free (xs (i + 1)) (xs (i + 2)) σ1 = some (r, σ2)) (kk : Run G RL cL_law 4 (some .boolean) (lF G b c k) 1186 [(0, .ref b), (1, .ref (gA G 0)), (2, .ref (gA G 269)), (3, .int (nI i))] [] σ2) : Run G RL cL_law 4 (some .boolean) (lF G b c k) 839 [(0, .ref b), (1, .ref (gA G 0)), (2, .ref (gA G 269)), (3, .int (nI i))] [] σ := by
  refine run_aload_n 1 dL_law_839 rfl rfl ?_
  refine run_arg (k := 1) (v := 1) (pc1 := 0) (pc2 := 0) (pc3 := 0) (pc4 := 0) hX hb hL (by omega) rfl rfl rfl dL_law_840 dL_law_841 dL_law_842 rfl dL_law_843 dL_law_844 ?_
  refine run_arg (k := 2) (v := 2) (pc1 := 0) (pc2 := 0) (pc3 := 0) (pc4 := 0) hX hb hL (by omega) rfl rfl rfl dL_law_845 dL_law_846 dL_law_847 rfl dL_law_848 dL_law_849 ?_
  refine run_callVi (As := [.int (xs (i + 1)), .int (xs (i + 2))]) (fun x z => (x, z) = (r, σ1)) mw_X11_free mi_X11_free ml_L_78 is_0 (by decide) rfl rfl rfl (RF.law (d := 0 + HX11_free) (by decide) h1 h2) (Nat.le_of_ble_eq_true rfl) dL_law_850 (sX11_free G 0 e1) (fun r9 z h8 => ?_) rfl
  rw [show r9 = r from congrArg Prod.fst h8, show z = σ1 from congrArg Prod.snd h8]
  clear h8
  refine run_aload_n 2 dL_law_853 rfl rfl ?_
  refine run_arg (k := 1) (v := 1) (pc1 := 0) (pc2 := 0) (pc3 := 0) (pc4 := 0) hX hb hL (by omega) rfl rfl rfl dL_law_854 dL_law_855 dL_law_856 rfl dL_law_857 dL_law_858 ?_
  refine run_arg (k := 2) (v := 2) (pc1 := 0) (pc2 := 0) (pc3 := 0) (pc4 := 0) hX hb hL (by omega) rfl rfl rfl dL_law_859 dL_law_860 dL_law_861 rfl dL_law_862 dL_law_863 ?_
  refine run_callVi (As := [.int (xs (i + 1)), .int (xs (i + 2))]) (fun x z => (x, z) = (r, σ2)) mw_X12_free mi_X12_free ml_L_81 is_269 (by decide) rfl rfl rfl (RF.law (d := 0 + HX12_free) (by decide) h1 h2) (Nat.le_of_ble_eq_true rfl) dL_law_864 (sX12_free G 0 e2) (fun r9 z h8 => ?_) rfl
  rw [show r9 = r from congrArg Prod.fst h8, show z = σ2 from congrArg Prod.snd h8]
  clear h8
  refine run_icmp_eq 1186 dL_law_867 (by decide) (fun _ => ?_) (fun q => absurd rfl q)
  exact kk
theorem law_alone {G : GT} {b L c k : Nat} {xs : Nat → Int32} (hX : va_X b L xs (g0 G) (g0 G).heap) (hb : b < (g0 G).heap.size) (hL : L ≤ 3072) (h1 : c ≤ 600000) (h2 : k ≤ 7302250) {i : Nat} (hi : i + 6 ≤ L) {σ σ1 σ2 : Mem} {r : Int32} (e1 : fX11_alone (xs (i + 1)) (xs (i + 2)) (xs (i + 3)) (xs (i + 4)) σ = some (r, σ1)) (e2 : fX12_alone (xs (i + 1)) (xs (i + 2)) (xs (i + 3)) (xs (i + 4)) σ1 = some (r, σ2)) (kk : Run G RL cL_law 4 (some .boolean) (lF G b c k) 1186 [(0, .ref b), (1, .ref (gA G 0)), (2, .ref (gA G 269)), (3, .int (nI i))] [] σ2) : Run G RL cL_law 4 (some .boolean) (lF G b c k) 872 [(0, .ref b), (1, .ref (gA G 0)), (2, .ref (gA G 269)), (3, .int (nI i))] [] σ := by
  refine run_aload_n 1 dL_law_872 rfl rfl ?_
  refine run_arg (k := 1) (v := 1) (pc1 := 0) (pc2 := 0) (pc3 := 0) (pc4 := 0) hX hb hL (by omega) rfl rfl rfl dL_law_873 dL_law_874 dL_law_875 rfl dL_law_876 dL_law_877 ?_
  refine run_arg (k := 2) (v := 2) (pc1 := 0) (pc2 := 0) (pc3 := 0) (pc4 := 0) hX hb hL (by omega) rfl rfl rfl dL_law_878 dL_law_879 dL_law_880 rfl dL_law_881 dL_law_882 ?_
  refine run_arg (k := 3) (v := 3) (pc1 := 0) (pc2 := 0) (pc3 := 0) (pc4 := 0) hX hb hL (by omega) rfl rfl rfl dL_law_883 dL_law_884 dL_law_885 rfl dL_law_886 dL_law_887 ?_
  refine run_arg (k := 4) (v := 4) (pc1 := 0) (pc2 := 0) (pc3 := 0) (pc4 := 0) hX hb hL (by omega) rfl rfl rfl dL_law_888 dL_law_889 dL_law_890 rfl dL_law_891 dL_law_892 ?_
  refine run_callVi (As := [.int (xs (i + 1)), .int (xs (i + 2)), .int (xs (i + 3)), .int (xs (i + 4))]) (fun x z => (x, z) = (r, σ1)) mw_X11_alone mi_X11_alone ml_L_82 is_0 (by decide) rfl rfl rfl (RF.law (d := 0 + HX11_alone) (by decide) h1 h2) (Nat.le_of_ble_eq_true rfl) dL_law_893 (sX11_alone G 0 e1) (fun r9 z h8 => ?_) rfl
  rw [show r9 = r from congrArg Prod.fst h8, show z = σ1 from congrArg Prod.snd h8]
  clear h8
  refine run_aload_n 2 dL_law_896 rfl rfl ?_
  refine run_arg (k := 1) (v := 1) (pc1 := 0) (pc2 := 0) (pc3 := 0) (pc4 := 0) hX hb hL (by omega) rfl rfl rfl dL_law_897 dL_law_898 dL_law_899 rfl dL_law_900 dL_law_901 ?_
  refine run_arg (k := 2) (v := 2) (pc1 := 0) (pc2 := 0) (pc3 := 0) (pc4 := 0) hX hb hL (by omega) rfl rfl rfl dL_law_902 dL_law_903 dL_law_904 rfl dL_law_905 dL_law_906 ?_
  refine run_arg (k := 3) (v := 3) (pc1 := 0) (pc2 := 0) (pc3 := 0) (pc4 := 0) hX hb hL (by omega) rfl rfl rfl dL_law_907 dL_law_908 dL_law_909 rfl dL_law_910 dL_law_911 ?_
  refine run_arg (k := 4) (v := 4) (pc1 := 0) (pc2 := 0) (pc3 := 0) (pc4 := 0) hX hb hL (by omega) rfl rfl rfl dL_law_912 dL_law_913 dL_law_914 rfl dL_law_915 dL_law_916 ?_
  refine run_callVi (As := [.int (xs (i + 1)), .int (xs (i + 2)), .int (xs (i + 3)), .int (xs (i + 4))]) (fun x z => (x, z) = (r, σ2)) mw_X12_alone mi_X12_alone ml_L_85 is_269 (by decide) rfl rfl rfl (RF.law (d := 0 + HX12_alone) (by decide) h1 h2) (Nat.le_of_ble_eq_true rfl) dL_law_917 (sX12_alone G 0 e2) (fun r9 z h8 => ?_) rfl
  rw [show r9 = r from congrArg Prod.fst h8, show z = σ2 from congrArg Prod.snd h8]
  clear h8
  refine run_icmp_eq 1186 dL_law_920 (by decide) (fun _ => ?_) (fun q => absurd rfl q)
  exact kk
theorem law_swaps {G : GT} {b L c k : Nat} {xs : Nat → Int32} (hX : va_X b L xs (g0 G) (g0 G).heap) (hb : b < (g0 G).heap.size) (hL : L ≤ 3072) (h1 : c ≤ 600000) (h2 : k ≤ 7302250) {i : Nat} (hi : i + 6 ≤ L) {σ σ1 σ2 : Mem} {r : Int32} (e1 : fX11_swaps (xs (i + 1)) (xs (i + 2)) σ = some (r, σ1)) (e2 : fX12_swaps (xs (i + 1)) (xs (i + 2)) σ1 = some (r, σ2)) (kk : Run G RL cL_law 4 (some .boolean) (lF G b c k) 1186 [(0, .ref b), (1, .ref (gA G 0)), (2, .ref (gA G 269)), (3, .int (nI i))] [] σ2) : Run G RL cL_law 4 (some .boolean) (lF G b c k) 925 [(0, .ref b), (1, .ref (gA G 0)), (2, .ref (gA G 269)), (3, .int (nI i))] [] σ := by
  refine run_aload_n 1 dL_law_925 rfl rfl ?_
  refine run_arg (k := 1) (v := 1) (pc1 := 0) (pc2 := 0) (pc3 := 0) (pc4 := 0) hX hb hL (by omega) rfl rfl rfl dL_law_926 dL_law_927 dL_law_928 rfl dL_law_929 dL_law_930 ?_
  refine run_arg (k := 2) (v := 2) (pc1 := 0) (pc2 := 0) (pc3 := 0) (pc4 := 0) hX hb hL (by omega) rfl rfl rfl dL_law_931 dL_law_932 dL_law_933 rfl dL_law_934 dL_law_935 ?_
  refine run_callVi (As := [.int (xs (i + 1)), .int (xs (i + 2))]) (fun x z => (x, z) = (r, σ1)) mw_X11_swaps mi_X11_swaps ml_L_86 is_0 (by decide) rfl rfl rfl (RF.law (d := 0 + HX11_swaps) (by decide) h1 h2) (Nat.le_of_ble_eq_true rfl) dL_law_936 (sX11_swaps G 0 e1) (fun r9 z h8 => ?_) rfl
  rw [show r9 = r from congrArg Prod.fst h8, show z = σ1 from congrArg Prod.snd h8]
  clear h8
  refine run_aload_n 2 dL_law_939 rfl rfl ?_
  refine run_arg (k := 1) (v := 1) (pc1 := 0) (pc2 := 0) (pc3 := 0) (pc4 := 0) hX hb hL (by omega) rfl rfl rfl dL_law_940 dL_law_941 dL_law_942 rfl dL_law_943 dL_law_944 ?_
  refine run_arg (k := 2) (v := 2) (pc1 := 0) (pc2 := 0) (pc3 := 0) (pc4 := 0) hX hb hL (by omega) rfl rfl rfl dL_law_945 dL_law_946 dL_law_947 rfl dL_law_948 dL_law_949 ?_
  refine run_callVi (As := [.int (xs (i + 1)), .int (xs (i + 2))]) (fun x z => (x, z) = (r, σ2)) mw_X12_swaps mi_X12_swaps ml_L_89 is_269 (by decide) rfl rfl rfl (RF.law (d := 0 + HX12_swaps) (by decide) h1 h2) (Nat.le_of_ble_eq_true rfl) dL_law_950 (sX12_swaps G 0 e2) (fun r9 z h8 => ?_) rfl
  rw [show r9 = r from congrArg Prod.fst h8, show z = σ2 from congrArg Prod.snd h8]
  clear h8
  refine run_icmp_eq 1186 dL_law_953 (by decide) (fun _ => ?_) (fun q => absurd rfl q)
  exact kk
theorem law_weave {G : GT} {b L c k : Nat} {xs : Nat → Int32} (hX : va_X b L xs (g0 G) (g0 G).heap) (hb : b < (g0 G).heap.size) (hL : L ≤ 3072) (h1 : c ≤ 600000) (h2 : k ≤ 7302250) {i : Nat} (hi : i + 6 ≤ L) {σ σ1 σ2 : Mem} {r : Int32} (e1 : fX11_weave (xs (i + 1)) (xs (i + 2)) (xs (i + 3)) (xs (i + 4)) (xs (i + 5)) σ = some (r, σ1)) (e2 : fX12_weave (xs (i + 1)) (xs (i + 2)) (xs (i + 3)) (xs (i + 4)) (xs (i + 5)) σ1 = some (r, σ2)) (kk : Run G RL cL_law 4 (some .boolean) (lF G b c k) 1186 [(0, .ref b), (1, .ref (gA G 0)), (2, .ref (gA G 269)), (3, .int (nI i))] [] σ2) : Run G RL cL_law 4 (some .boolean) (lF G b c k) 958 [(0, .ref b), (1, .ref (gA G 0)), (2, .ref (gA G 269)), (3, .int (nI i))] [] σ := by
  refine run_aload_n 1 dL_law_958 rfl rfl ?_
  refine run_arg (k := 1) (v := 1) (pc1 := 0) (pc2 := 0) (pc3 := 0) (pc4 := 0) hX hb hL (by omega) rfl rfl rfl dL_law_959 dL_law_960 dL_law_961 rfl dL_law_962 dL_law_963 ?_
  refine run_arg (k := 2) (v := 2) (pc1 := 0) (pc2 := 0) (pc3 := 0) (pc4 := 0) hX hb hL (by omega) rfl rfl rfl dL_law_964 dL_law_965 dL_law_966 rfl dL_law_967 dL_law_968 ?_
  refine run_arg (k := 3) (v := 3) (pc1 := 0) (pc2 := 0) (pc3 := 0) (pc4 := 0) hX hb hL (by omega) rfl rfl rfl dL_law_969 dL_law_970 dL_law_971 rfl dL_law_972 dL_law_973 ?_
  refine run_arg (k := 4) (v := 4) (pc1 := 0) (pc2 := 0) (pc3 := 0) (pc4 := 0) hX hb hL (by omega) rfl rfl rfl dL_law_974 dL_law_975 dL_law_976 rfl dL_law_977 dL_law_978 ?_
  refine run_arg (k := 5) (v := 5) (pc1 := 0) (pc2 := 0) (pc3 := 0) (pc4 := 0) hX hb hL (by omega) rfl rfl rfl dL_law_979 dL_law_980 dL_law_981 rfl dL_law_982 dL_law_983 ?_
  refine run_callVi (As := [.int (xs (i + 1)), .int (xs (i + 2)), .int (xs (i + 3)), .int (xs (i + 4)), .int (xs (i + 5))]) (fun x z => (x, z) = (r, σ1)) mw_X11_weave mi_X11_weave ml_L_90 is_0 (by decide) rfl rfl rfl (RF.law (d := 0 + HX11_weave) (by decide) h1 h2) (Nat.le_of_ble_eq_true rfl) dL_law_984 (sX11_weave G 0 e1) (fun r9 z h8 => ?_) rfl
  rw [show r9 = r from congrArg Prod.fst h8, show z = σ1 from congrArg Prod.snd h8]
  clear h8
  refine run_aload_n 2 dL_law_987 rfl rfl ?_
  refine run_arg (k := 1) (v := 1) (pc1 := 0) (pc2 := 0) (pc3 := 0) (pc4 := 0) hX hb hL (by omega) rfl rfl rfl dL_law_988 dL_law_989 dL_law_990 rfl dL_law_991 dL_law_992 ?_
  refine run_arg (k := 2) (v := 2) (pc1 := 0) (pc2 := 0) (pc3 := 0) (pc4 := 0) hX hb hL (by omega) rfl rfl rfl dL_law_993 dL_law_994 dL_law_995 rfl dL_law_996 dL_law_997 ?_
  refine run_arg (k := 3) (v := 3) (pc1 := 0) (pc2 := 0) (pc3 := 0) (pc4 := 0) hX hb hL (by omega) rfl rfl rfl dL_law_998 dL_law_999 dL_law_1000 rfl dL_law_1001 dL_law_1002 ?_
  refine run_arg (k := 4) (v := 4) (pc1 := 0) (pc2 := 0) (pc3 := 0) (pc4 := 0) hX hb hL (by omega) rfl rfl rfl dL_law_1003 dL_law_1004 dL_law_1005 rfl dL_law_1006 dL_law_1007 ?_
  refine run_arg (k := 5) (v := 5) (pc1 := 0) (pc2 := 0) (pc3 := 0) (pc4 := 0) hX hb hL (by omega) rfl rfl rfl dL_law_1008 dL_law_1009 dL_law_1010 rfl dL_law_1011 dL_law_1012 ?_
  refine run_callVi (As := [.int (xs (i + 1)), .int (xs (i + 2)), .int (xs (i + 3)), .int (xs (i + 4)), .int (xs (i + 5))]) (fun x z => (x, z) = (r, σ2)) mw_X12_weave mi_X12_weave ml_L_93 is_269 (by decide) rfl rfl rfl (RF.law (d := 0 + HX12_weave) (by decide) h1 h2) (Nat.le_of_ble_eq_true rfl) dL_law_1013 (sX12_weave G 0 e2) (fun r9 z h8 => ?_) rfl
  rw [show r9 = r from congrArg Prod.fst h8, show z = σ2 from congrArg Prod.snd h8]
  clear h8
  refine run_icmp_eq 1186 dL_law_1016 (by decide) (fun _ => ?_) (fun q => absurd rfl q)
  exact kk
theorem law_risk {G : GT} {b L c k : Nat} {xs : Nat → Int32} (hX : va_X b L xs (g0 G) (g0 G).heap) (hb : b < (g0 G).heap.size) (hL : L ≤ 3072) (h1 : c ≤ 600000) (h2 : k ≤ 7302250) {i : Nat} (hi : i + 6 ≤ L) {σ σ1 σ2 : Mem} {r : Int32} (e1 : fX11_risk (xs (i + 1)) (xs (i + 2)) (xs (i + 3)) σ = some (r, σ1)) (e2 : fX12_risk (xs (i + 1)) (xs (i + 2)) (xs (i + 3)) σ1 = some (r, σ2)) (kk : Run G RL cL_law 4 (some .boolean) (lF G b c k) 1186 [(0, .ref b), (1, .ref (gA G 0)), (2, .ref (gA G 269)), (3, .int (nI i))] [] σ2) : Run G RL cL_law 4 (some .boolean) (lF G b c k) 1021 [(0, .ref b), (1, .ref (gA G 0)), (2, .ref (gA G 269)), (3, .int (nI i))] [] σ := by
  refine run_aload_n 1 dL_law_1021 rfl rfl ?_
  refine run_arg (k := 1) (v := 1) (pc1 := 0) (pc2 := 0) (pc3 := 0) (pc4 := 0) hX hb hL (by omega) rfl rfl rfl dL_law_1022 dL_law_1023 dL_law_1024 rfl dL_law_1025 dL_law_1026 ?_
  refine run_arg (k := 2) (v := 2) (pc1 := 0) (pc2 := 0) (pc3 := 0) (pc4 := 0) hX hb hL (by omega) rfl rfl rfl dL_law_1027 dL_law_1028 dL_law_1029 rfl dL_law_1030 dL_law_1031 ?_
  refine run_arg (k := 3) (v := 3) (pc1 := 0) (pc2 := 0) (pc3 := 0) (pc4 := 0) hX hb hL (by omega) rfl rfl rfl dL_law_1032 dL_law_1033 dL_law_1034 rfl dL_law_1035 dL_law_1036 ?_
  refine run_callVi (As := [.int (xs (i + 1)), .int (xs (i + 2)), .int (xs (i + 3))]) (fun x z => (x, z) = (r, σ1)) mw_X11_risk mi_X11_risk ml_L_94 is_0 (by decide) rfl rfl rfl (RF.law (d := 0 + HX11_risk) (by decide) h1 h2) (Nat.le_of_ble_eq_true rfl) dL_law_1037 (sX11_risk G 0 e1) (fun r9 z h8 => ?_) rfl
  rw [show r9 = r from congrArg Prod.fst h8, show z = σ1 from congrArg Prod.snd h8]
  clear h8
  refine run_aload_n 2 dL_law_1040 rfl rfl ?_
  refine run_arg (k := 1) (v := 1) (pc1 := 0) (pc2 := 0) (pc3 := 0) (pc4 := 0) hX hb hL (by omega) rfl rfl rfl dL_law_1041 dL_law_1042 dL_law_1043 rfl dL_law_1044 dL_law_1045 ?_
  refine run_arg (k := 2) (v := 2) (pc1 := 0) (pc2 := 0) (pc3 := 0) (pc4 := 0) hX hb hL (by omega) rfl rfl rfl dL_law_1046 dL_law_1047 dL_law_1048 rfl dL_law_1049 dL_law_1050 ?_
  refine run_arg (k := 3) (v := 3) (pc1 := 0) (pc2 := 0) (pc3 := 0) (pc4 := 0) hX hb hL (by omega) rfl rfl rfl dL_law_1051 dL_law_1052 dL_law_1053 rfl dL_law_1054 dL_law_1055 ?_
  refine run_callVi (As := [.int (xs (i + 1)), .int (xs (i + 2)), .int (xs (i + 3))]) (fun x z => (x, z) = (r, σ2)) mw_X12_risk mi_X12_risk ml_L_97 is_269 (by decide) rfl rfl rfl (RF.law (d := 0 + HX12_risk) (by decide) h1 h2) (Nat.le_of_ble_eq_true rfl) dL_law_1056 (sX12_risk G 0 e2) (fun r9 z h8 => ?_) rfl
  rw [show r9 = r from congrArg Prod.fst h8, show z = σ2 from congrArg Prod.snd h8]
  clear h8
  refine run_icmp_eq 1186 dL_law_1059 (by decide) (fun _ => ?_) (fun q => absurd rfl q)
  exact kk
theorem law_after {G : GT} {b L c k : Nat} {xs : Nat → Int32} (hX : va_X b L xs (g0 G) (g0 G).heap) (hb : b < (g0 G).heap.size) (hL : L ≤ 3072) (h1 : c ≤ 600000) (h2 : k ≤ 7302250) {i : Nat} (hi : i + 6 ≤ L) {σ σ1 σ2 : Mem} {r : Int32} (e1 : fX11_after (xs (i + 1)) (xs (i + 2)) (xs (i + 3)) (xs (i + 4)) σ = some (r, σ1)) (e2 : fX12_after (xs (i + 1)) (xs (i + 2)) (xs (i + 3)) (xs (i + 4)) σ1 = some (r, σ2)) (kk : Run G RL cL_law 4 (some .boolean) (lF G b c k) 1186 [(0, .ref b), (1, .ref (gA G 0)), (2, .ref (gA G 269)), (3, .int (nI i))] [] σ2) : Run G RL cL_law 4 (some .boolean) (lF G b c k) 1064 [(0, .ref b), (1, .ref (gA G 0)), (2, .ref (gA G 269)), (3, .int (nI i))] [] σ := by
  refine run_aload_n 1 dL_law_1064 rfl rfl ?_
  refine run_arg (k := 1) (v := 1) (pc1 := 0) (pc2 := 0) (pc3 := 0) (pc4 := 0) hX hb hL (by omega) rfl rfl rfl dL_law_1065 dL_law_1066 dL_law_1067 rfl dL_law_1068 dL_law_1069 ?_
  refine run_arg (k := 2) (v := 2) (pc1 := 0) (pc2 := 0) (pc3 := 0) (pc4 := 0) hX hb hL (by omega) rfl rfl rfl dL_law_1070 dL_law_1071 dL_law_1072 rfl dL_law_1073 dL_law_1074 ?_
  refine run_arg (k := 3) (v := 3) (pc1 := 0) (pc2 := 0) (pc3 := 0) (pc4 := 0) hX hb hL (by omega) rfl rfl rfl dL_law_1075 dL_law_1076 dL_law_1077 rfl dL_law_1078 dL_law_1079 ?_
  refine run_arg (k := 4) (v := 4) (pc1 := 0) (pc2 := 0) (pc3 := 0) (pc4 := 0) hX hb hL (by omega) rfl rfl rfl dL_law_1080 dL_law_1081 dL_law_1082 rfl dL_law_1083 dL_law_1084 ?_
  refine run_callVi (As := [.int (xs (i + 1)), .int (xs (i + 2)), .int (xs (i + 3)), .int (xs (i + 4))]) (fun x z => (x, z) = (r, σ1)) mw_X11_after mi_X11_after ml_L_98 is_0 (by decide) rfl rfl rfl (RF.law (d := 0 + HX11_after) (by decide) h1 h2) (Nat.le_of_ble_eq_true rfl) dL_law_1085 (sX11_after G 0 e1) (fun r9 z h8 => ?_) rfl
  rw [show r9 = r from congrArg Prod.fst h8, show z = σ1 from congrArg Prod.snd h8]
  clear h8
  refine run_aload_n 2 dL_law_1088 rfl rfl ?_
  refine run_arg (k := 1) (v := 1) (pc1 := 0) (pc2 := 0) (pc3 := 0) (pc4 := 0) hX hb hL (by omega) rfl rfl rfl dL_law_1089 dL_law_1090 dL_law_1091 rfl dL_law_1092 dL_law_1093 ?_
  refine run_arg (k := 2) (v := 2) (pc1 := 0) (pc2 := 0) (pc3 := 0) (pc4 := 0) hX hb hL (by omega) rfl rfl rfl dL_law_1094 dL_law_1095 dL_law_1096 rfl dL_law_1097 dL_law_1098 ?_
  refine run_arg (k := 3) (v := 3) (pc1 := 0) (pc2 := 0) (pc3 := 0) (pc4 := 0) hX hb hL (by omega) rfl rfl rfl dL_law_1099 dL_law_1100 dL_law_1101 rfl dL_law_1102 dL_law_1103 ?_
  refine run_arg (k := 4) (v := 4) (pc1 := 0) (pc2 := 0) (pc3 := 0) (pc4 := 0) hX hb hL (by omega) rfl rfl rfl dL_law_1104 dL_law_1105 dL_law_1106 rfl dL_law_1107 dL_law_1108 ?_
  refine run_callVi (As := [.int (xs (i + 1)), .int (xs (i + 2)), .int (xs (i + 3)), .int (xs (i + 4))]) (fun x z => (x, z) = (r, σ2)) mw_X12_after mi_X12_after ml_L_101 is_269 (by decide) rfl rfl rfl (RF.law (d := 0 + HX12_after) (by decide) h1 h2) (Nat.le_of_ble_eq_true rfl) dL_law_1109 (sX12_after G 0 e2) (fun r9 z h8 => ?_) rfl
  rw [show r9 = r from congrArg Prod.fst h8, show z = σ2 from congrArg Prod.snd h8]
  clear h8
  refine run_icmp_eq 1186 dL_law_1112 (by decide) (fun _ => ?_) (fun q => absurd rfl q)
  exact kk
theorem law_count {G : GT} {b L c k : Nat} {xs : Nat → Int32} (hX : va_X b L xs (g0 G) (g0 G).heap) (hb : b < (g0 G).heap.size) (hL : L ≤ 3072) (h1 : c ≤ 600000) (h2 : k ≤ 7302250) {i : Nat} (hi : i + 6 ≤ L) {σ σ1 σ2 : Mem} {r : Int32} (e1 : fX11_count (xs (i + 1)) σ = some (r, σ1)) (e2 : fX12_count (xs (i + 1)) σ1 = some (r, σ2)) (kk : Run G RL cL_law 4 (some .boolean) (lF G b c k) 1186 [(0, .ref b), (1, .ref (gA G 0)), (2, .ref (gA G 269)), (3, .int (nI i))] [] σ2) : Run G RL cL_law 4 (some .boolean) (lF G b c k) 1117 [(0, .ref b), (1, .ref (gA G 0)), (2, .ref (gA G 269)), (3, .int (nI i))] [] σ := by
  refine run_aload_n 1 dL_law_1117 rfl rfl ?_
  refine run_arg (k := 1) (v := 1) (pc1 := 0) (pc2 := 0) (pc3 := 0) (pc4 := 0) hX hb hL (by omega) rfl rfl rfl dL_law_1118 dL_law_1119 dL_law_1120 rfl dL_law_1121 dL_law_1122 ?_
  refine run_callVi (As := [.int (xs (i + 1))]) (fun x z => (x, z) = (r, σ1)) mw_X11_count mi_X11_count ml_L_102 is_0 (by decide) rfl rfl rfl (RF.law (d := 0 + HX11_count) (by decide) h1 h2) (Nat.le_of_ble_eq_true rfl) dL_law_1123 (sX11_count G 0 e1) (fun r9 z h8 => ?_) rfl
  rw [show r9 = r from congrArg Prod.fst h8, show z = σ1 from congrArg Prod.snd h8]
  clear h8
  refine run_aload_n 2 dL_law_1126 rfl rfl ?_
  refine run_arg (k := 1) (v := 1) (pc1 := 0) (pc2 := 0) (pc3 := 0) (pc4 := 0) hX hb hL (by omega) rfl rfl rfl dL_law_1127 dL_law_1128 dL_law_1129 rfl dL_law_1130 dL_law_1131 ?_
  refine run_callVi (As := [.int (xs (i + 1))]) (fun x z => (x, z) = (r, σ2)) mw_X12_count mi_X12_count ml_L_105 is_269 (by decide) rfl rfl rfl (RF.law (d := 0 + HX12_count) (by decide) h1 h2) (Nat.le_of_ble_eq_true rfl) dL_law_1132 (sX12_count G 0 e2) (fun r9 z h8 => ?_) rfl
  rw [show r9 = r from congrArg Prod.fst h8, show z = σ2 from congrArg Prod.snd h8]
  clear h8
  refine run_icmp_eq 1186 dL_law_1135 (by decide) (fun _ => ?_) (fun q => absurd rfl q)
  exact kk
theorem law_image {G : GT} {b L c k : Nat} {xs : Nat → Int32} (hX : va_X b L xs (g0 G) (g0 G).heap) (hb : b < (g0 G).heap.size) (hL : L ≤ 3072) (h1 : c ≤ 600000) (h2 : k ≤ 7302250) {i : Nat} (hi : i + 6 ≤ L) {σ σ1 σ2 : Mem} {r : Bool} (e1 : fX11_image (xs (i + 1)) σ = some (r, σ1)) (e2 : fX12_image (xs (i + 1)) σ1 = some (r, σ2)) (kk : Run G RL cL_law 4 (some .boolean) (lF G b c k) 1186 [(0, .ref b), (1, .ref (gA G 0)), (2, .ref (gA G 269)), (3, .int (nI i))] [] σ2) : Run G RL cL_law 4 (some .boolean) (lF G b c k) 1140 [(0, .ref b), (1, .ref (gA G 0)), (2, .ref (gA G 269)), (3, .int (nI i))] [] σ := by
  refine run_aload_n 1 dL_law_1140 rfl rfl ?_
  refine run_arg (k := 1) (v := 1) (pc1 := 0) (pc2 := 0) (pc3 := 0) (pc4 := 0) hX hb hL (by omega) rfl rfl rfl dL_law_1141 dL_law_1142 dL_law_1143 rfl dL_law_1144 dL_law_1145 ?_
  refine run_callVb (As := [.int (xs (i + 1))]) (fun x z => (x, z) = (r, σ1)) mw_X11_image mi_X11_image ml_L_106 is_0 (by decide) rfl rfl rfl (RF.law (d := 0 + HX11_image) (by decide) h1 h2) (Nat.le_of_ble_eq_true rfl) dL_law_1146 (sX11_image G 0 e1) (fun r9 z h8 => ?_) rfl
  rw [show r9 = r from congrArg Prod.fst h8, show z = σ1 from congrArg Prod.snd h8]
  clear h8
  refine run_aload_n 2 dL_law_1149 rfl rfl ?_
  refine run_arg (k := 1) (v := 1) (pc1 := 0) (pc2 := 0) (pc3 := 0) (pc4 := 0) hX hb hL (by omega) rfl rfl rfl dL_law_1150 dL_law_1151 dL_law_1152 rfl dL_law_1153 dL_law_1154 ?_
  refine run_callVb (As := [.int (xs (i + 1))]) (fun x z => (x, z) = (r, σ2)) mw_X12_image mi_X12_image ml_L_110 is_269 (by decide) rfl rfl rfl (RF.law (d := 0 + HX12_image) (by decide) h1 h2) (Nat.le_of_ble_eq_true rfl) dL_law_1155 (sX12_image G 0 e2) (fun r9 z h8 => ?_) rfl
  rw [show r9 = r from congrArg Prod.fst h8, show z = σ2 from congrArg Prod.snd h8]
  clear h8
  refine run_icmp_eq 1186 dL_law_1158 (by decide) (fun _ => ?_) (fun q => absurd rfl q)
  exact kk
theorem law_again {G : GT} {b L c k : Nat} {xs : Nat → Int32} (hX : va_X b L xs (g0 G) (g0 G).heap) (hb : b < (g0 G).heap.size) (hL : L ≤ 3072) (h1 : c ≤ 600000) (h2 : k ≤ 7302250) {i : Nat} (hi : i + 6 ≤ L) {σ σ1 σ2 : Mem} {r : Bool} (e1 : fX11_again (xs (i + 1)) σ = some (r, σ1)) (e2 : fX12_again (xs (i + 1)) σ1 = some (r, σ2)) (kk : Run G RL cL_law 4 (some .boolean) (lF G b c k) 1186 [(0, .ref b), (1, .ref (gA G 0)), (2, .ref (gA G 269)), (3, .int (nI i))] [] σ2) : Run G RL cL_law 4 (some .boolean) (lF G b c k) 1163 [(0, .ref b), (1, .ref (gA G 0)), (2, .ref (gA G 269)), (3, .int (nI i))] [] σ := by
  refine run_aload_n 1 dL_law_1163 rfl rfl ?_
  refine run_arg (k := 1) (v := 1) (pc1 := 0) (pc2 := 0) (pc3 := 0) (pc4 := 0) hX hb hL (by omega) rfl rfl rfl dL_law_1164 dL_law_1165 dL_law_1166 rfl dL_law_1167 dL_law_1168 ?_
  refine run_callVb (As := [.int (xs (i + 1))]) (fun x z => (x, z) = (r, σ1)) mw_X11_again mi_X11_again ml_L_111 is_0 (by decide) rfl rfl rfl (RF.law (d := 0 + HX11_again) (by decide) h1 h2) (Nat.le_of_ble_eq_true rfl) dL_law_1169 (sX11_again G 0 e1) (fun r9 z h8 => ?_) rfl
  rw [show r9 = r from congrArg Prod.fst h8, show z = σ1 from congrArg Prod.snd h8]
  clear h8
  refine run_aload_n 2 dL_law_1172 rfl rfl ?_
  refine run_arg (k := 1) (v := 1) (pc1 := 0) (pc2 := 0) (pc3 := 0) (pc4 := 0) hX hb hL (by omega) rfl rfl rfl dL_law_1173 dL_law_1174 dL_law_1175 rfl dL_law_1176 dL_law_1177 ?_
  refine run_callVb (As := [.int (xs (i + 1))]) (fun x z => (x, z) = (r, σ2)) mw_X12_again mi_X12_again ml_L_114 is_269 (by decide) rfl rfl rfl (RF.law (d := 0 + HX12_again) (by decide) h1 h2) (Nat.le_of_ble_eq_true rfl) dL_law_1178 (sX12_again G 0 e2) (fun r9 z h8 => ?_) rfl
  rw [show r9 = r from congrArg Prod.fst h8, show z = σ2 from congrArg Prod.snd h8]
  clear h8
  refine run_icmp_eq 1186 dL_law_1181 (by decide) (fun _ => ?_) (fun q => absurd rfl q)
  exact kk
def LSTEP (INV : Mem → Prop) : Prop :=
  (∀ (a0 a1 a2 a3 a4 : Int32) (σ : Mem), INV σ → ∃ r σ1 σ2, fX11_feed a0 a1 a2 a3 a4 σ = some (r, σ1) ∧ fX12_feed a0 a1 a2 a3 a4 σ1 = some (r, σ2) ∧ INV σ2) ∧
  (∀ (a0 : Int32) (σ : Mem), INV σ → ∃ r σ1 σ2, fX11_end a0 σ = some (r, σ1) ∧ fX12_end a0 σ1 = some (r, σ2) ∧ INV σ2) ∧
  (∀ (a0 a1 : Int32) (σ : Mem), INV σ → ∃ r σ1 σ2, fX11_text a0 a1 σ = some (r, σ1) ∧ fX12_text a0 a1 σ1 = some (r, σ2) ∧ INV σ2) ∧
  (∀ (a0 : Int32) (σ : Mem), INV σ → ∃ r σ1 σ2, fX11_fault a0 σ = some (r, σ1) ∧ fX12_fault a0 σ1 = some (r, σ2) ∧ INV σ2) ∧
  (∀ (a0 a1 : Int32) (σ : Mem), INV σ → ∃ r σ1 σ2, fX11_store a0 a1 σ = some (r, σ1) ∧ fX12_store a0 a1 σ1 = some (r, σ2) ∧ INV σ2) ∧
  (∀ (a0 a1 a2 : Int32) (σ : Mem), INV σ → ∃ r σ1 σ2, fX11_task a0 a1 a2 σ = some (r, σ1) ∧ fX12_task a0 a1 a2 σ1 = some (r, σ2) ∧ INV σ2) ∧
  (∀ (a0 a1 a2 : Int32) (σ : Mem), INV σ → ∃ r σ1 σ2, fX11_deed a0 a1 a2 σ = some (r, σ1) ∧ fX12_deed a0 a1 a2 σ1 = some (r, σ2) ∧ INV σ2) ∧
  (∀ (a0 a1 a2 : Int32) (σ : Mem), INV σ → ∃ r σ1 σ2, fX11_stop a0 a1 a2 σ = some (r, σ1) ∧ fX12_stop a0 a1 a2 σ1 = some (r, σ2) ∧ INV σ2) ∧
  (∀ (a0 a1 a2 a3 a4 : Int32) (σ : Mem), INV σ → ∃ r σ1 σ2, fX11_state a0 a1 a2 a3 a4 σ = some (r, σ1) ∧ fX12_state a0 a1 a2 a3 a4 σ1 = some (r, σ2) ∧ INV σ2) ∧
  (∀ (a0 a1 a2 a3 a4 : Int32) (σ : Mem), INV σ → ∃ r σ1 σ2, fX11_why a0 a1 a2 a3 a4 σ = some (r, σ1) ∧ fX12_why a0 a1 a2 a3 a4 σ1 = some (r, σ2) ∧ INV σ2) ∧
  (∀ (a0 a1 a2 a3 : Int32) (σ : Mem), INV σ → ∃ r σ1 σ2, fX11_serial a0 a1 a2 a3 σ = some (r, σ1) ∧ fX12_serial a0 a1 a2 a3 σ1 = some (r, σ2) ∧ INV σ2) ∧
  (∀ (a0 a1 a2 : Int32) (σ : Mem), INV σ → ∃ r σ1 σ2, fX11_fact a0 a1 a2 σ = some (r, σ1) ∧ fX12_fact a0 a1 a2 σ1 = some (r, σ2) ∧ INV σ2) ∧
  (∀ (a0 a1 a2 a3 a4 : Int32) (σ : Mem), INV σ → ∃ r σ1 σ2, fX11_fits a0 a1 a2 a3 a4 σ = some (r, σ1) ∧ fX12_fits a0 a1 a2 a3 a4 σ1 = some (r, σ2) ∧ INV σ2) ∧
  (∀ (a0 a1 a2 a3 a4 : Int32) (σ : Mem), INV σ → ∃ r σ1 σ2, fX11_drawn a0 a1 a2 a3 a4 σ = some (r, σ1) ∧ fX12_drawn a0 a1 a2 a3 a4 σ1 = some (r, σ2) ∧ INV σ2) ∧
  (∀ (a0 a1 a2 : Int32) (σ : Mem), INV σ → ∃ r σ1 σ2, fX11_keys a0 a1 a2 σ = some (r, σ1) ∧ fX12_keys a0 a1 a2 σ1 = some (r, σ2) ∧ INV σ2) ∧
  (∀ (a0 a1 : Int32) (σ : Mem), INV σ → ∃ r σ1 σ2, fX11_free a0 a1 σ = some (r, σ1) ∧ fX12_free a0 a1 σ1 = some (r, σ2) ∧ INV σ2) ∧
  (∀ (a0 a1 a2 a3 : Int32) (σ : Mem), INV σ → ∃ r σ1 σ2, fX11_alone a0 a1 a2 a3 σ = some (r, σ1) ∧ fX12_alone a0 a1 a2 a3 σ1 = some (r, σ2) ∧ INV σ2) ∧
  (∀ (a0 a1 : Int32) (σ : Mem), INV σ → ∃ r σ1 σ2, fX11_swaps a0 a1 σ = some (r, σ1) ∧ fX12_swaps a0 a1 σ1 = some (r, σ2) ∧ INV σ2) ∧
  (∀ (a0 a1 a2 a3 a4 : Int32) (σ : Mem), INV σ → ∃ r σ1 σ2, fX11_weave a0 a1 a2 a3 a4 σ = some (r, σ1) ∧ fX12_weave a0 a1 a2 a3 a4 σ1 = some (r, σ2) ∧ INV σ2) ∧
  (∀ (a0 a1 a2 : Int32) (σ : Mem), INV σ → ∃ r σ1 σ2, fX11_risk a0 a1 a2 σ = some (r, σ1) ∧ fX12_risk a0 a1 a2 σ1 = some (r, σ2) ∧ INV σ2) ∧
  (∀ (a0 a1 a2 a3 : Int32) (σ : Mem), INV σ → ∃ r σ1 σ2, fX11_after a0 a1 a2 a3 σ = some (r, σ1) ∧ fX12_after a0 a1 a2 a3 σ1 = some (r, σ2) ∧ INV σ2) ∧
  (∀ (a0 : Int32) (σ : Mem), INV σ → ∃ r σ1 σ2, fX11_count a0 σ = some (r, σ1) ∧ fX12_count a0 σ1 = some (r, σ2) ∧ INV σ2) ∧
  (∀ (a0 : Int32) (σ : Mem), INV σ → ∃ r σ1 σ2, fX11_image a0 σ = some (r, σ1) ∧ fX12_image a0 σ1 = some (r, σ2) ∧ INV σ2) ∧
  (∀ (a0 : Int32) (σ : Mem), INV σ → ∃ r σ1 σ2, fX11_again a0 σ = some (r, σ1) ∧ fX12_again a0 σ1 = some (r, σ2) ∧ INV σ2)
theorem lw_gt {i L : Nat} (h : L < i + 6) (hi : i ≤ L) (hL : L ≤ 3072) : nI L - 6 < nI i := by
  rw [Int32.lt_iff_toInt_lt, nI_toInt (by omega)]
  have h6 : (6 : Int32) = nI 6 := rfl
  rw [h6, pk_sub_toInt (by omega) (by omega)]
  omega
theorem law_ret {G : GT} {b c k : Nat} (hz : gZ G) (h1 : c ≤ 600000) (h2 : k ≤ 7302250) {lv : List (Nat × Value)} {σ : Mem} : Run G RL cL_law 4 (some .boolean) (lF G b c k) 1193 lv [.int 1] σ := by
  intro p l e s m args below meth c0 H locs ls X hP hS hl
  by_cases hq : args = #[Value.ref b] ∧ s = g0 G
  · obtain ⟨rfl, rfl⟩ := hq
    refine W.mono (Q := lw_Z below #[Value.ref b] (g0 G)) (fun tt h _ _ => h) ?_
    refine va_forget (fun q hq => ?_) ?_
    · rcases hS.2.2 q hq with ⟨n, hn, h⟩ | h
      · rw [h, hz]; omega
      · exact h
    · refine W.widen (k := 600000) (n := 7302250) h1 h2 ?_
      exact lw_ret X.1 X.2.1 X.2.2.2.2.1 X.2.2.2.2.2.1 dL_law_1193
  · intro T hT Xs
    exact ⟨_, Steps.refl _, fun a1 a2 => absurd ⟨a1, a2⟩ hq⟩
theorem law_loop {G : GT} {b L c k : Nat} {xs : Nat → Int32} (hz : gZ G) (hX : va_X b L xs (g0 G) (g0 G).heap) (hb : b < (g0 G).heap.size) (hL : L ≤ 3072) (h1 : c ≤ 600000) (h2 : k ≤ 7302250) {INV : Mem → Prop} (hst : LSTEP INV) : ∀ (n i : Nat) (σ : Mem), L ≤ i + 6 * n → i ≤ L → INV σ → Run G RL cL_law 4 (some .boolean) (lF G b c k) 18 [(0, .ref b), (1, .ref (gA G 0)), (2, .ref (gA G 269)), (3, .int (nI i))] [] σ := by
  obtain ⟨h_feed, h_end, h_text, h_fault, h_store, h_task, h_deed, h_stop, h_state, h_why, h_serial, h_fact, h_fits, h_drawn, h_keys, h_free, h_alone, h_swaps, h_weave, h_risk, h_after, h_count, h_image, h_again⟩ := hst
  intro n
  induction n with
  | zero =>
    intro i σ hn hi hI
    refine run_iload_n 3 dL_law_18 rfl rfl ?_
    refine run_aload_n 0 dL_law_19 rfl rfl ?_
    refine run_slen hX hb dL_law_20 ?_
    refine run_bipush (v := 6) dL_law_21 rfl ?_
    refine run_isub dL_law_23 ?_
    refine run_icmp_gt 1192 dL_law_24 (by decide) (fun _ => ?_) (fun q => absurd (lw_gt (by omega) (by omega) (by omega)) q)
    refine run_iconst (v := 1) dL_law_1192 rfl ?_
    exact law_ret hz h1 h2
  | succ n ih =>
    intro i σ hn hi hI
    refine run_iload_n 3 dL_law_18 rfl rfl ?_
    refine run_aload_n 0 dL_law_19 rfl rfl ?_
    refine run_slen hX hb dL_law_20 ?_
    refine run_bipush (v := 6) dL_law_21 rfl ?_
    refine run_isub dL_law_23 ?_
    refine run_icmp_gt 1192 dL_law_24 (by decide) (fun _ => ?_) (fun q => ?_)
    · refine run_iconst (v := 1) dL_law_1192 rfl ?_
      exact law_ret hz h1 h2
    have hi6 : i + 6 ≤ L := by
      rcases Nat.lt_or_ge L (i + 6) with h | h
      · exact absurd (lw_gt h (by omega) (by omega)) q
      · exact h
    have next : ∀ σ2, INV σ2 → Run G RL cL_law 4 (some .boolean) (lF G b c k) 1186 [(0, .ref b), (1, .ref (gA G 0)), (2, .ref (gA G 269)), (3, .int (nI i))] [] σ2 := by
      intro σ2 hI2
      refine run_iinc 3 [(0, .ref b), (1, .ref (gA G 0)), (2, .ref (gA G 269)), (3, .int (nI (i + 6)))] [1, 2, 3, 0] dL_law_1186 rfl (nI_add i 6) (by decide) rfl ?_
      refine run_goto 18 dL_law_1189 (by decide) ?_
      exact ih (i + 6) σ2 (by omega) hi6 hI2
    refine run_aload_n 0 dL_law_27 rfl rfl ?_
    refine run_iload_n 3 dL_law_28 rfl rfl ?_
    refine run_sld hX hb (vp_in_nI (by omega) (by omega)) dL_law_29 ?_
    refine run_bipush (v := 31) dL_law_30 rfl ?_
    refine run_iand dL_law_32 ?_
    refine run_topi (fun y ey => ?_)
    clear ey
    by_cases c0 : y = 0
    · refine run_tblIn 144 dL_law_33 (by rw [c0]; decide) (by rw [c0]; decide) (off := 111) (by rw [c0]; rfl) (by decide) ?_
      obtain ⟨r, σ1, σ2, q1, q2, q3⟩ := h_feed (xs (i + 1)) (xs (i + 2)) (xs (i + 3)) (xs (i + 4)) (xs (i + 5)) σ hI
      exact law_feed hX hb hL h1 h2 hi6 q1 q2 (next σ2 q3)
    by_cases c1 : y = 1
    · refine run_tblIn 207 dL_law_33 (by rw [c1]; decide) (by rw [c1]; decide) (off := 174) (by rw [c1]; rfl) (by decide) ?_
      obtain ⟨r, σ1, σ2, q1, q2, q3⟩ := h_end (xs (i + 1)) σ hI
      exact law_end hX hb hL h1 h2 hi6 q1 q2 (next σ2 q3)
    by_cases c2 : y = 2
    · refine run_tblIn 230 dL_law_33 (by rw [c2]; decide) (by rw [c2]; decide) (off := 197) (by rw [c2]; rfl) (by decide) ?_
      obtain ⟨r, σ1, σ2, q1, q2, q3⟩ := h_text (xs (i + 1)) (xs (i + 2)) σ hI
      exact law_text hX hb hL h1 h2 hi6 q1 q2 (next σ2 q3)
    by_cases c3 : y = 3
    · refine run_tblIn 263 dL_law_33 (by rw [c3]; decide) (by rw [c3]; decide) (off := 230) (by rw [c3]; rfl) (by decide) ?_
      obtain ⟨r, σ1, σ2, q1, q2, q3⟩ := h_fault (xs (i + 1)) σ hI
      exact law_fault hX hb hL h1 h2 hi6 q1 q2 (next σ2 q3)
    by_cases c4 : y = 4
    · refine run_tblIn 286 dL_law_33 (by rw [c4]; decide) (by rw [c4]; decide) (off := 253) (by rw [c4]; rfl) (by decide) ?_
      obtain ⟨r, σ1, σ2, q1, q2, q3⟩ := h_store (xs (i + 1)) (xs (i + 2)) σ hI
      exact law_store hX hb hL h1 h2 hi6 q1 q2 (next σ2 q3)
    by_cases c5 : y = 5
    · refine run_tblIn 319 dL_law_33 (by rw [c5]; decide) (by rw [c5]; decide) (off := 286) (by rw [c5]; rfl) (by decide) ?_
      obtain ⟨r, σ1, σ2, q1, q2, q3⟩ := h_task (xs (i + 1)) (xs (i + 2)) (xs (i + 3)) σ hI
      exact law_task hX hb hL h1 h2 hi6 q1 q2 (next σ2 q3)
    by_cases c6 : y = 6
    · refine run_tblIn 362 dL_law_33 (by rw [c6]; decide) (by rw [c6]; decide) (off := 329) (by rw [c6]; rfl) (by decide) ?_
      obtain ⟨r, σ1, σ2, q1, q2, q3⟩ := h_deed (xs (i + 1)) (xs (i + 2)) (xs (i + 3)) σ hI
      exact law_deed hX hb hL h1 h2 hi6 q1 q2 (next σ2 q3)
    by_cases c7 : y = 7
    · refine run_tblIn 405 dL_law_33 (by rw [c7]; decide) (by rw [c7]; decide) (off := 372) (by rw [c7]; rfl) (by decide) ?_
      obtain ⟨r, σ1, σ2, q1, q2, q3⟩ := h_stop (xs (i + 1)) (xs (i + 2)) (xs (i + 3)) σ hI
      exact law_stop hX hb hL h1 h2 hi6 q1 q2 (next σ2 q3)
    by_cases c8 : y = 8
    · refine run_tblIn 448 dL_law_33 (by rw [c8]; decide) (by rw [c8]; decide) (off := 415) (by rw [c8]; rfl) (by decide) ?_
      obtain ⟨r, σ1, σ2, q1, q2, q3⟩ := h_state (xs (i + 1)) (xs (i + 2)) (xs (i + 3)) (xs (i + 4)) (xs (i + 5)) σ hI
      exact law_state hX hb hL h1 h2 hi6 q1 q2 (next σ2 q3)
    by_cases c9 : y = 9
    · refine run_tblIn 511 dL_law_33 (by rw [c9]; decide) (by rw [c9]; decide) (off := 478) (by rw [c9]; rfl) (by decide) ?_
      obtain ⟨r, σ1, σ2, q1, q2, q3⟩ := h_why (xs (i + 1)) (xs (i + 2)) (xs (i + 3)) (xs (i + 4)) (xs (i + 5)) σ hI
      exact law_why hX hb hL h1 h2 hi6 q1 q2 (next σ2 q3)
    by_cases c10 : y = 10
    · refine run_tblIn 574 dL_law_33 (by rw [c10]; decide) (by rw [c10]; decide) (off := 541) (by rw [c10]; rfl) (by decide) ?_
      obtain ⟨r, σ1, σ2, q1, q2, q3⟩ := h_serial (xs (i + 1)) (xs (i + 2)) (xs (i + 3)) (xs (i + 4)) σ hI
      exact law_serial hX hb hL h1 h2 hi6 q1 q2 (next σ2 q3)
    by_cases c11 : y = 11
    · refine run_tblIn 627 dL_law_33 (by rw [c11]; decide) (by rw [c11]; decide) (off := 594) (by rw [c11]; rfl) (by decide) ?_
      obtain ⟨r, σ1, σ2, q1, q2, q3⟩ := h_fact (xs (i + 1)) (xs (i + 2)) (xs (i + 3)) σ hI
      exact law_fact hX hb hL h1 h2 hi6 q1 q2 (next σ2 q3)
    by_cases c12 : y = 12
    · refine run_tblIn 670 dL_law_33 (by rw [c12]; decide) (by rw [c12]; decide) (off := 637) (by rw [c12]; rfl) (by decide) ?_
      obtain ⟨r, σ1, σ2, q1, q2, q3⟩ := h_fits (xs (i + 1)) (xs (i + 2)) (xs (i + 3)) (xs (i + 4)) (xs (i + 5)) σ hI
      exact law_fits hX hb hL h1 h2 hi6 q1 q2 (next σ2 q3)
    by_cases c13 : y = 13
    · refine run_tblIn 733 dL_law_33 (by rw [c13]; decide) (by rw [c13]; decide) (off := 700) (by rw [c13]; rfl) (by decide) ?_
      obtain ⟨r, σ1, σ2, q1, q2, q3⟩ := h_drawn (xs (i + 1)) (xs (i + 2)) (xs (i + 3)) (xs (i + 4)) (xs (i + 5)) σ hI
      exact law_drawn hX hb hL h1 h2 hi6 q1 q2 (next σ2 q3)
    by_cases c14 : y = 14
    · refine run_tblIn 796 dL_law_33 (by rw [c14]; decide) (by rw [c14]; decide) (off := 763) (by rw [c14]; rfl) (by decide) ?_
      obtain ⟨r, σ1, σ2, q1, q2, q3⟩ := h_keys (xs (i + 1)) (xs (i + 2)) (xs (i + 3)) σ hI
      exact law_keys hX hb hL h1 h2 hi6 q1 q2 (next σ2 q3)
    by_cases c15 : y = 15
    · refine run_tblIn 839 dL_law_33 (by rw [c15]; decide) (by rw [c15]; decide) (off := 806) (by rw [c15]; rfl) (by decide) ?_
      obtain ⟨r, σ1, σ2, q1, q2, q3⟩ := h_free (xs (i + 1)) (xs (i + 2)) σ hI
      exact law_free hX hb hL h1 h2 hi6 q1 q2 (next σ2 q3)
    by_cases c16 : y = 16
    · refine run_tblIn 872 dL_law_33 (by rw [c16]; decide) (by rw [c16]; decide) (off := 839) (by rw [c16]; rfl) (by decide) ?_
      obtain ⟨r, σ1, σ2, q1, q2, q3⟩ := h_alone (xs (i + 1)) (xs (i + 2)) (xs (i + 3)) (xs (i + 4)) σ hI
      exact law_alone hX hb hL h1 h2 hi6 q1 q2 (next σ2 q3)
    by_cases c17 : y = 17
    · refine run_tblIn 925 dL_law_33 (by rw [c17]; decide) (by rw [c17]; decide) (off := 892) (by rw [c17]; rfl) (by decide) ?_
      obtain ⟨r, σ1, σ2, q1, q2, q3⟩ := h_swaps (xs (i + 1)) (xs (i + 2)) σ hI
      exact law_swaps hX hb hL h1 h2 hi6 q1 q2 (next σ2 q3)
    by_cases c18 : y = 18
    · refine run_tblIn 958 dL_law_33 (by rw [c18]; decide) (by rw [c18]; decide) (off := 925) (by rw [c18]; rfl) (by decide) ?_
      obtain ⟨r, σ1, σ2, q1, q2, q3⟩ := h_weave (xs (i + 1)) (xs (i + 2)) (xs (i + 3)) (xs (i + 4)) (xs (i + 5)) σ hI
      exact law_weave hX hb hL h1 h2 hi6 q1 q2 (next σ2 q3)
    by_cases c19 : y = 19
    · refine run_tblIn 1021 dL_law_33 (by rw [c19]; decide) (by rw [c19]; decide) (off := 988) (by rw [c19]; rfl) (by decide) ?_
      obtain ⟨r, σ1, σ2, q1, q2, q3⟩ := h_risk (xs (i + 1)) (xs (i + 2)) (xs (i + 3)) σ hI
      exact law_risk hX hb hL h1 h2 hi6 q1 q2 (next σ2 q3)
    by_cases c20 : y = 20
    · refine run_tblIn 1064 dL_law_33 (by rw [c20]; decide) (by rw [c20]; decide) (off := 1031) (by rw [c20]; rfl) (by decide) ?_
      obtain ⟨r, σ1, σ2, q1, q2, q3⟩ := h_after (xs (i + 1)) (xs (i + 2)) (xs (i + 3)) (xs (i + 4)) σ hI
      exact law_after hX hb hL h1 h2 hi6 q1 q2 (next σ2 q3)
    by_cases c21 : y = 21
    · refine run_tblIn 1117 dL_law_33 (by rw [c21]; decide) (by rw [c21]; decide) (off := 1084) (by rw [c21]; rfl) (by decide) ?_
      obtain ⟨r, σ1, σ2, q1, q2, q3⟩ := h_count (xs (i + 1)) σ hI
      exact law_count hX hb hL h1 h2 hi6 q1 q2 (next σ2 q3)
    by_cases c22 : y = 22
    · refine run_tblIn 1140 dL_law_33 (by rw [c22]; decide) (by rw [c22]; decide) (off := 1107) (by rw [c22]; rfl) (by decide) ?_
      obtain ⟨r, σ1, σ2, q1, q2, q3⟩ := h_image (xs (i + 1)) σ hI
      exact law_image hX hb hL h1 h2 hi6 q1 q2 (next σ2 q3)
    by_cases c23 : y = 23
    · refine run_tblIn 1163 dL_law_33 (by rw [c23]; decide) (by rw [c23]; decide) (off := 1130) (by rw [c23]; rfl) (by decide) ?_
      obtain ⟨r, σ1, σ2, q1, q2, q3⟩ := h_again (xs (i + 1)) σ hI
      exact law_again hX hb hL h1 h2 hi6 q1 q2 (next σ2 q3)
    have hout : y.toInt < 0 ∨ 23 < y.toInt := by have t0 := tbl_ne c0 (z := 0) rfl; have t1 := tbl_ne c1 (z := 1) rfl; have t2 := tbl_ne c2 (z := 2) rfl; have t3 := tbl_ne c3 (z := 3) rfl; have t4 := tbl_ne c4 (z := 4) rfl; have t5 := tbl_ne c5 (z := 5) rfl; have t6 := tbl_ne c6 (z := 6) rfl; have t7 := tbl_ne c7 (z := 7) rfl; have t8 := tbl_ne c8 (z := 8) rfl; have t9 := tbl_ne c9 (z := 9) rfl; have t10 := tbl_ne c10 (z := 10) rfl; have t11 := tbl_ne c11 (z := 11) rfl; have t12 := tbl_ne c12 (z := 12) rfl; have t13 := tbl_ne c13 (z := 13) rfl; have t14 := tbl_ne c14 (z := 14) rfl; have t15 := tbl_ne c15 (z := 15) rfl; have t16 := tbl_ne c16 (z := 16) rfl; have t17 := tbl_ne c17 (z := 17) rfl; have t18 := tbl_ne c18 (z := 18) rfl; have t19 := tbl_ne c19 (z := 19) rfl; have t20 := tbl_ne c20 (z := 20) rfl; have t21 := tbl_ne c21 (z := 21) rfl; have t22 := tbl_ne c22 (z := 22) rfl; have t23 := tbl_ne c23 (z := 23) rfl; omega
    refine run_tblOut 1186 dL_law_33 hout (by decide) ?_
    exact next σ hI
