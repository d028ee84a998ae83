/-! methods, translated -/
def HX12_commits : Nat := 3
theorem HX12_commits_X12_stampFor_lt (d : Nat) : d + HX12_stampFor < d + HX12_commits := Nat.add_lt_add_left (by decide) d
theorem HX12_commits_X12_writes_lt (d : Nat) : d + HX12_writes < d + HX12_commits := Nat.add_lt_add_left (by decide) d
theorem HX12_commits_0 (d : Nat) : 0 < d + HX12_commits := Nat.lt_of_lt_of_le (by decide) (Nat.le_add_left _ d)
def lX12_commits_102 (x1 : Int32) (x2 : Int32) : Nat → Int32 → Mem → Option (Mem)
  | 0, _, _ => none
  | n + 1, x3, σ => if 10 ≤ x3 then (some σ) else (gd (inb (((10 : Int32) * x1) + x3) 40) (gd (inb (((10 : Int32) * (σ 269 54)) + x3) 640) (gd (inb ((st2 σ 303 (Int32.toNatClampNeg (((10 : Int32) * (σ 269 54)) + x3)) (σ 294 (Int32.toNatClampNeg (((10 : Int32) * x1) + x3)))) 269 54) 64) (gd (inb (((10 : Int32) * x1) + x3) 40) ((if ((st2 σ 303 (Int32.toNatClampNeg (((10 : Int32) * (σ 269 54)) + x3)) (σ 294 (Int32.toNatClampNeg (((10 : Int32) * x1) + x3)))) 292 (Int32.toNatClampNeg (((10 : Int32) * x1) + x3))) = (-1) then (some 0) else (some ((1 : Int32) <<< (x3 &&& 31))) : Option (Int32)).bind fun q40 => gd (inb ((st2 σ 303 (Int32.toNatClampNeg (((10 : Int32) * (σ 269 54)) + x3)) (σ 294 (Int32.toNatClampNeg (((10 : Int32) * x1) + x3)))) 269 54) 64) ((some (st2 (st2 σ 303 (Int32.toNatClampNeg (((10 : Int32) * (σ 269 54)) + x3)) (σ 294 (Int32.toNatClampNeg (((10 : Int32) * x1) + x3)))) 300 (Int32.toNatClampNeg ((st2 σ 303 (Int32.toNatClampNeg (((10 : Int32) * (σ 269 54)) + x3)) (σ 294 (Int32.toNatClampNeg (((10 : Int32) * x1) + x3)))) 269 54)) (((st2 σ 303 (Int32.toNatClampNeg (((10 : Int32) * (σ 269 54)) + x3)) (σ 294 (Int32.toNatClampNeg (((10 : Int32) * x1) + x3)))) 300 (Int32.toNatClampNeg ((st2 σ 303 (Int32.toNatClampNeg (((10 : Int32) * (σ 269 54)) + x3)) (σ 294 (Int32.toNatClampNeg (((10 : Int32) * x1) + x3)))) 269 54))) ||| q40))).bind fun s42 => gd (inb (s42 269 54) 64) (gd (inb (((10 : Int32) * x1) + x3) 40) ((if (s42 293 (Int32.toNatClampNeg (((10 : Int32) * x1) + x3))) = (-1) then (some 0) else (some ((1 : Int32) <<< (x3 &&& 31))) : Option (Int32)).bind fun q46 => gd (inb (s42 269 54) 64) (gd (inb (((10 : Int32) * x1) + x3) 40) ((if ((st2 s42 301 (Int32.toNatClampNeg (s42 269 54)) ((s42 301 (Int32.toNatClampNeg (s42 269 54))) ||| q46)) 294 (Int32.toNatClampNeg (((10 : Int32) * x1) + x3))) = (-2) then (some (st2 s42 301 (Int32.toNatClampNeg (s42 269 54)) ((s42 301 (Int32.toNatClampNeg (s42 269 54))) ||| q46))) else (gd (inb (((10 : Int32) * x1) + x3) 40) ((fX12_writes x3 ((st2 s42 301 (Int32.toNatClampNeg (s42 269 54)) ((s42 301 (Int32.toNatClampNeg (s42 269 54))) ||| q46)) 294 (Int32.toNatClampNeg (((10 : Int32) * x1) + x3))) x2 (st2 s42 301 (Int32.toNatClampNeg (s42 269 54)) ((s42 301 (Int32.toNatClampNeg (s42 269 54))) ||| q46))).bind fun q51 => some q51)) : Option (Mem)).bind fun q53 => lX12_commits_102 x1 x2 n (x3 + 1) q53))))))))))
set_option maxRecDepth 20000 in
theorem lpX12_commits_102 (G : GT) (d : Nat) (x1 : Int32) (x2 : Int32)  {K : Option Value → Mem → Prop} : ∀ (n : Nat) (x3 : Int32) (σ : Mem) (o : Mem), lX12_commits_102 x1 x2 n x3 σ = some o → (Run G RX12 cX12_commits 5 none (mF G (d + HX12_commits) K) 228 [(0, .ref (gA G 269)), (1, .int x1)] [] o) → Run G RX12 cX12_commits 5 none (mF G (d + HX12_commits) K) 102 [(0, .ref (gA G 269)), (1, .int x1), (2, .int x2), (3, .int x3)] [] σ := by
  intro n
  induction n with
  | zero => intro x3 σ o h; exact absurd h (by simp [lX12_commits_102])
  | succ n ih =>
    intro x3 σ o h kx
    rw [lX12_commits_102] at h
    refine run_iload_n 3 dX12_commits_102 rfl rfl ?_
    refine run_bipush (v := 10) dX12_commits_103 rfl ?_
    refine run_icmp_ge 228 dX12_commits_105 (by decide) (fun c34 => ?_) (fun c34 => ?_)
    · rw [if_pos c34] at h
      rw [← Option.some.inj h] at kx
      refine run_forget [0, 1] rfl ?_
      exact kx
    · rw [if_neg c34] at h
      refine run_bipush (v := 10) dX12_commits_108 rfl ?_
      refine run_iload_n 1 dX12_commits_110 rfl rfl ?_
      refine run_imul dX12_commits_111 ?_
      refine run_iload_n 3 dX12_commits_112 rfl rfl ?_
      refine run_iadd dX12_commits_113 ?_
      refine run_istore [(0, .ref (gA G 269)), (1, .int x1), (2, .int x2), (3, .int x3), (4, .int (((10 : Int32) * x1) + x3))] [1, 2, 3, 4, 0] dX12_commits_114 (by decide) rfl ?_
      refine run_aload_n 0 dX12_commits_116 rfl rfl ?_
      refine run_getr fl_X12_110 is_269 (by decide) rfl ce_269_53 dX12_commits_117 ?_
      refine run_bipush (v := 10) dX12_commits_120 rfl ?_
      refine run_aload_n 0 dX12_commits_122 rfl rfl ?_
      refine run_geti fl_X12_345 is_269 (by decide) rfl dX12_commits_123 ?_
      refine run_imul dX12_commits_126 ?_
      refine run_iload_n 3 dX12_commits_127 rfl rfl ?_
      refine run_iadd dX12_commits_128 ?_
      refine run_aload_n 0 dX12_commits_129 rfl rfl ?_
      refine run_getr fl_X12_83 is_269 (by decide) rfl ce_269_44 dX12_commits_130 ?_
      refine run_iload 4 dX12_commits_133 rfl ?_
      obtain ⟨g35, h⟩ := gd_s h
      refine run_iald' is_294 ln_294 g35 rfl dX12_commits_135 ?_
      obtain ⟨g36, h⟩ := gd_s h
      refine run_iast' is_303 ln_303 g36 rfl dX12_commits_136 ?_
      refine run_aload_n 0 dX12_commits_137 rfl rfl ?_
      refine run_getr fl_X12_101 is_269 (by decide) rfl ce_269_50 dX12_commits_138 ?_
      refine run_aload_n 0 dX12_commits_141 rfl rfl ?_
      refine run_geti fl_X12_345 is_269 (by decide) rfl dX12_commits_142 ?_
      refine run_dup2 dX12_commits_145 rfl rfl ?_
      obtain ⟨g37, h⟩ := gd_s h
      refine run_iald' is_300 ln_300 g37 rfl dX12_commits_146 ?_
      refine run_aload_n 0 dX12_commits_147 rfl rfl ?_
      refine run_getr fl_X12_77 is_269 (by decide) rfl ce_269_42 dX12_commits_148 ?_
      refine run_iload 4 dX12_commits_151 rfl ?_
      obtain ⟨g38, h⟩ := gd_s h
      refine run_iald' is_292 ln_292 g38 rfl dX12_commits_153 ?_
      refine run_iconst (v := -1) dX12_commits_154 rfl ?_
      obtain ⟨q40, h, h9⟩ := Option.bind_eq_some_iff.mp h
      have hj56 : Run G RX12 cX12_commits 5 none (mF G (d + HX12_commits) K) 165 [(0, .ref (gA G 269)), (1, .int x1), (2, .int x2), (3, .int x3), (4, .int (((10 : Int32) * x1) + x3))] [.int q40, .int ((st2 σ 303 (Int32.toNatClampNeg (((10 : Int32) * (σ 269 54)) + x3)) (σ 294 (Int32.toNatClampNeg (((10 : Int32) * x1) + x3)))) 300 (Int32.toNatClampNeg ((st2 σ 303 (Int32.toNatClampNeg (((10 : Int32) * (σ 269 54)) + x3)) (σ 294 (Int32.toNatClampNeg (((10 : Int32) * x1) + x3)))) 269 54))), .int ((st2 σ 303 (Int32.toNatClampNeg (((10 : Int32) * (σ 269 54)) + x3)) (σ 294 (Int32.toNatClampNeg (((10 : Int32) * x1) + x3)))) 269 54), .ref (gA G 300)] (st2 σ 303 (Int32.toNatClampNeg (((10 : Int32) * (σ 269 54)) + x3)) (σ 294 (Int32.toNatClampNeg (((10 : Int32) * x1) + x3)))) := by
        clear h
        have h := h9
        clear h9
        refine run_ior dX12_commits_165 ?_
        obtain ⟨g41, h⟩ := gd_s h
        refine run_iast' is_300 ln_300 g41 rfl dX12_commits_166 ?_
        rw [Option.bind_some] at h
        refine run_mem (fun s42 es42 => ?_)
        rw [← es42] at h
        refine run_aload_n 0 dX12_commits_167 rfl rfl ?_
        refine run_getr fl_X12_104 is_269 (by decide) rfl ce_269_51 dX12_commits_168 ?_
        refine run_aload_n 0 dX12_commits_171 rfl rfl ?_
        refine run_geti fl_X12_345 is_269 (by decide) rfl dX12_commits_172 ?_
        refine run_dup2 dX12_commits_175 rfl rfl ?_
        obtain ⟨g43, h⟩ := gd_s h
        refine run_iald' is_301 ln_301 g43 rfl dX12_commits_176 ?_
        refine run_aload_n 0 dX12_commits_177 rfl rfl ?_
        refine run_getr fl_X12_80 is_269 (by decide) rfl ce_269_43 dX12_commits_178 ?_
        refine run_iload 4 dX12_commits_181 rfl ?_
        obtain ⟨g44, h⟩ := gd_s h
        refine run_iald' is_293 ln_293 g44 rfl dX12_commits_183 ?_
        refine run_iconst (v := -1) dX12_commits_184 rfl ?_
        obtain ⟨q46, h, h9⟩ := Option.bind_eq_some_iff.mp h
        have hj55 : Run G RX12 cX12_commits 5 none (mF G (d + HX12_commits) K) 195 [(0, .ref (gA G 269)), (1, .int x1), (2, .int x2), (3, .int x3), (4, .int (((10 : Int32) * x1) + x3))] [.int q46, .int (s42 301 (Int32.toNatClampNeg (s42 269 54))), .int (s42 269 54), .ref (gA G 301)] s42 := by
          clear h
          have h := h9
          clear h9
          refine run_ior dX12_commits_195 ?_
          obtain ⟨g47, h⟩ := gd_s h
          refine run_iast' is_301 ln_301 g47 rfl dX12_commits_196 ?_
          refine run_aload_n 0 dX12_commits_197 rfl rfl ?_
          refine run_getr fl_X12_83 is_269 (by decide) rfl ce_269_44 dX12_commits_198 ?_
          refine run_iload 4 dX12_commits_201 rfl ?_
          obtain ⟨g48, h⟩ := gd_s h
          refine run_iald' is_294 ln_294 g48 rfl dX12_commits_203 ?_
          refine run_bipush (v := -2) dX12_commits_204 rfl ?_
          obtain ⟨q53, h, h9⟩ := Option.bind_eq_some_iff.mp h
          have hj54 : Run G RX12 cX12_commits 5 none (mF G (d + HX12_commits) K) 222 [(0, .ref (gA G 269)), (1, .int x1), (2, .int x2), (3, .int x3)] [] q53 := by
            clear h
            have h := h9
            clear h9
            refine run_iinc 3 [(0, .ref (gA G 269)), (1, .int x1), (2, .int x2), (3, .int (x3 + 1))] [1, 2, 3, 0] dX12_commits_222 rfl rfl (by decide) rfl ?_
            refine run_goto 102 dX12_commits_225 (by decide) ?_
            exact ih _ _ _ h kx
          clear h9
          refine run_icmp_eq 222 dX12_commits_206 (by decide) (fun c49 => ?_) (fun c49 => ?_)
          · rw [if_pos c49] at h
            rw [← Option.some.inj h] at hj54
            refine run_forget [0, 1, 2, 3] rfl ?_
            exact hj54
          · rw [if_neg c49] at h
            refine run_aload_n 0 dX12_commits_209 rfl rfl ?_
            refine run_iload_n 3 dX12_commits_210 rfl rfl ?_
            refine run_aload_n 0 dX12_commits_211 rfl rfl ?_
            refine run_getr fl_X12_83 is_269 (by decide) rfl ce_269_44 dX12_commits_212 ?_
            refine run_iload 4 dX12_commits_215 rfl ?_
            obtain ⟨g50, h⟩ := gd_s h
            refine run_iald' is_294 ln_294 g50 rfl dX12_commits_217 ?_
            refine run_iload_n 2 dX12_commits_218 rfl rfl ?_
            obtain ⟨q51, h52, h⟩ := Option.bind_eq_some_iff.mp h
            refine run_callVv (As := [.int x3, .int ((st2 s42 301 (Int32.toNatClampNeg (s42 269 54)) ((s42 301 (Int32.toNatClampNeg (s42 269 54))) ||| q46)) 294 (Int32.toNatClampNeg (((10 : Int32) * x1) + x3))), .int x2]) (fun z => z = q51) mw_X12_writes mi_X12_writes ml_X12_421 is_269 (by decide) rfl rfl rfl (RF.lt (HX12_commits_X12_writes_lt d)) (Nat.le_of_ble_eq_true rfl) dX12_commits_219 (sX12_writes G d  h52) (fun z h8 => ?_) rfl
            rw [h8]
            clear h8
            rw [← Option.some.inj h] at hj54
            refine run_forget [0, 1, 2, 3] rfl ?_
            exact hj54
        clear h9
        refine run_icmp_ne 192 dX12_commits_185 (by decide) (fun c45 => ?_) (fun c45 => ?_)
        · rw [if_neg c45] at h
          refine run_iconst (v := 1) dX12_commits_192 rfl ?_
          refine run_iload_n 3 dX12_commits_193 rfl rfl ?_
          refine run_ishl dX12_commits_194 ?_
          rw [← Option.some.inj h] at hj55
          exact hj55
        · rw [if_pos c45] at h
          refine run_iconst (v := 0) dX12_commits_188 rfl ?_
          refine run_goto 195 dX12_commits_189 (by decide) ?_
          rw [← Option.some.inj h] at hj55
          exact hj55
      clear h9
      refine run_icmp_ne 162 dX12_commits_155 (by decide) (fun c39 => ?_) (fun c39 => ?_)
      · rw [if_neg c39] at h
        refine run_iconst (v := 1) dX12_commits_162 rfl ?_
        refine run_iload_n 3 dX12_commits_163 rfl rfl ?_
        refine run_ishl dX12_commits_164 ?_
        rw [← Option.some.inj h] at hj56
        exact hj56
      · rw [if_pos c39] at h
        refine run_iconst (v := 0) dX12_commits_158 rfl ?_
        refine run_goto 165 dX12_commits_159 (by decide) ?_
        rw [← Option.some.inj h] at hj56
        exact hj56
def fX12_commits (x1 : Int32) (x2 : Int32) (σ : Mem) : Option Mem := (fX12_stampFor x1 σ).bind fun q1 => gd (inb ((st2 q1.2 269 65 q1.1) 269 54) 64) (gd (inb x1 4) (gd (inb ((st2 (st2 q1.2 269 65 q1.1) 295 (Int32.toNatClampNeg ((st2 q1.2 269 65 q1.1) 269 54)) x1) 269 54) 64) ((some (st2 (st2 (st2 q1.2 269 65 q1.1) 295 (Int32.toNatClampNeg ((st2 q1.2 269 65 q1.1) 269 54)) x1) 296 (Int32.toNatClampNeg ((st2 (st2 q1.2 269 65 q1.1) 295 (Int32.toNatClampNeg ((st2 q1.2 269 65 q1.1) 269 54)) x1) 269 54)) ((st2 (st2 q1.2 269 65 q1.1) 295 (Int32.toNatClampNeg ((st2 q1.2 269 65 q1.1) 269 54)) x1) 286 (Int32.toNatClampNeg x1)))).bind fun s5 => gd (inb (s5 269 54) 64) (gd (inb ((st2 s5 297 (Int32.toNatClampNeg (s5 269 54)) (s5 269 29)) 269 54) 64) ((some (st2 (st2 s5 297 (Int32.toNatClampNeg (s5 269 54)) (s5 269 29)) 298 (Int32.toNatClampNeg ((st2 s5 297 (Int32.toNatClampNeg (s5 269 54)) (s5 269 29)) 269 54)) ((st2 s5 297 (Int32.toNatClampNeg (s5 269 54)) (s5 269 29)) 269 65))).bind fun s8 => gd (inb (s8 269 54) 64) (gd (inb ((st2 s8 299 (Int32.toNatClampNeg (s8 269 54)) 0) 269 54) 64) (gd (inb ((st2 (st2 s8 299 (Int32.toNatClampNeg (s8 269 54)) 0) 300 (Int32.toNatClampNeg ((st2 s8 299 (Int32.toNatClampNeg (s8 269 54)) 0) 269 54)) 0) 269 54) 64) ((some (st2 (st2 (st2 s8 299 (Int32.toNatClampNeg (s8 269 54)) 0) 300 (Int32.toNatClampNeg ((st2 s8 299 (Int32.toNatClampNeg (s8 269 54)) 0) 269 54)) 0) 301 (Int32.toNatClampNeg ((st2 (st2 s8 299 (Int32.toNatClampNeg (s8 269 54)) 0) 300 (Int32.toNatClampNeg ((st2 s8 299 (Int32.toNatClampNeg (s8 269 54)) 0) 269 54)) 0) 269 54)) 0)).bind fun s12 => gd (inb (s12 269 54) 64) ((lX12_commits_102 x1 x2 FU 0 (st2 s12 302 (Int32.toNatClampNeg (s12 269 54)) 0)).bind fun q57 => gd (inb x1 4) ((some (st2 (st2 (st2 q57 269 54 ((q57 269 54) + 1)) 290 (Int32.toNatClampNeg x1) ((st2 q57 269 54 ((q57 269 54) + 1)) 269 65)) 269 55 (((st2 (st2 q57 269 54 ((q57 269 54) + 1)) 290 (Int32.toNatClampNeg x1) ((st2 q57 269 54 ((q57 269 54) + 1)) 269 65)) 269 55) + 1))).bind fun s59 => gd (inb x1 4) (gd (inb (s59 286 (Int32.toNatClampNeg x1)) 7) (gd (inb (s59 286 (Int32.toNatClampNeg x1)) 7) (some (st2 s59 304 (Int32.toNatClampNeg (s59 286 (Int32.toNatClampNeg x1))) ((s59 304 (Int32.toNatClampNeg (s59 286 (Int32.toNatClampNeg x1)))) + 1)))))))))))))))
set_option maxRecDepth 20000 in
theorem sX12_commits (G : GT) (d : Nat) {x1 : Int32} {x2 : Int32}  {σ : Mem} {o : Mem} (h : fX12_commits x1 x2 σ = some o) : Spec G yX12_commits cX12_commits 5 none (d + HX12_commits) [.ref (gA G 269), .int x1, .int x2] σ (kV fun z => z = o) := by
  refine spec_run (by decide) (Nat.le_of_ble_eq_true rfl) ?_
  unfold fX12_commits at h
  show Run G RX12 cX12_commits 5 none _ 0 [(0, .ref (gA G 269)), (1, .int x1), (2, .int x2)] [] σ
  refine run_aload_n 0 dX12_commits_0 rfl rfl ?_
  refine run_aload_n 0 dX12_commits_1 rfl rfl ?_
  refine run_iload_n 1 dX12_commits_2 rfl rfl ?_
  obtain ⟨q1, h64, h⟩ := Option.bind_eq_some_iff.mp h
  refine run_callVi (As := [.int x1]) (fun r z => (r, z) = q1) mw_X12_stampFor mi_X12_stampFor ml_X12_418 is_269 (by decide) rfl rfl rfl (RF.lt (HX12_commits_X12_stampFor_lt d)) (Nat.le_of_ble_eq_true rfl) dX12_commits_3 (sX12_stampFor G d  h64) (fun r z h8 => ?_) rfl
  rw [show r = q1.1 from congrArg Prod.fst h8, show z = q1.2 from congrArg Prod.snd h8]
  clear h8
  refine run_puti fp_X12_412 is_269 (by decide) rfl dX12_commits_6 ?_
  refine run_aload_n 0 dX12_commits_9 rfl rfl ?_
  refine run_getr fl_X12_86 is_269 (by decide) rfl ce_269_45 dX12_commits_10 ?_
  refine run_aload_n 0 dX12_commits_13 rfl rfl ?_
  refine run_geti fl_X12_345 is_269 (by decide) rfl dX12_commits_14 ?_
  refine run_iload_n 1 dX12_commits_17 rfl rfl ?_
  obtain ⟨g2, h⟩ := gd_s h
  refine run_iast' is_295 ln_295 g2 rfl dX12_commits_18 ?_
  refine run_aload_n 0 dX12_commits_19 rfl rfl ?_
  refine run_getr fl_X12_89 is_269 (by decide) rfl ce_269_46 dX12_commits_20 ?_
  refine run_aload_n 0 dX12_commits_23 rfl rfl ?_
  refine run_geti fl_X12_345 is_269 (by decide) rfl dX12_commits_24 ?_
  refine run_aload_n 0 dX12_commits_27 rfl rfl ?_
  refine run_getr fl_X12_59 is_269 (by decide) rfl ce_269_36 dX12_commits_28 ?_
  refine run_iload_n 1 dX12_commits_31 rfl rfl ?_
  obtain ⟨g3, h⟩ := gd_s h
  refine run_iald' is_286 ln_286 g3 rfl dX12_commits_32 ?_
  obtain ⟨g4, h⟩ := gd_s h
  refine run_iast' is_296 ln_296 g4 rfl dX12_commits_33 ?_
  rw [Option.bind_some] at h
  refine run_mem (fun s5 es5 => ?_)
  rw [← es5] at h
  refine run_aload_n 0 dX12_commits_34 rfl rfl ?_
  refine run_getr fl_X12_92 is_269 (by decide) rfl ce_269_47 dX12_commits_35 ?_
  refine run_aload_n 0 dX12_commits_38 rfl rfl ?_
  refine run_geti fl_X12_345 is_269 (by decide) rfl dX12_commits_39 ?_
  refine run_aload_n 0 dX12_commits_42 rfl rfl ?_
  refine run_geti fl_X12_342 is_269 (by decide) rfl dX12_commits_43 ?_
  obtain ⟨g6, h⟩ := gd_s h
  refine run_iast' is_297 ln_297 g6 rfl dX12_commits_46 ?_
  refine run_aload_n 0 dX12_commits_47 rfl rfl ?_
  refine run_getr fl_X12_95 is_269 (by decide) rfl ce_269_48 dX12_commits_48 ?_
  refine run_aload_n 0 dX12_commits_51 rfl rfl ?_
  refine run_geti fl_X12_345 is_269 (by decide) rfl dX12_commits_52 ?_
  refine run_aload_n 0 dX12_commits_55 rfl rfl ?_
  refine run_geti fl_X12_412 is_269 (by decide) rfl dX12_commits_56 ?_
  obtain ⟨g7, h⟩ := gd_s h
  refine run_iast' is_298 ln_298 g7 rfl dX12_commits_59 ?_
  rw [Option.bind_some] at h
  refine run_mem (fun s8 es8 => ?_)
  rw [← es8] at h
  refine run_aload_n 0 dX12_commits_60 rfl rfl ?_
  refine run_getr fl_X12_98 is_269 (by decide) rfl ce_269_49 dX12_commits_61 ?_
  refine run_aload_n 0 dX12_commits_64 rfl rfl ?_
  refine run_geti fl_X12_345 is_269 (by decide) rfl dX12_commits_65 ?_
  refine run_iconst (v := 0) dX12_commits_68 rfl ?_
  obtain ⟨g9, h⟩ := gd_s h
  refine run_iast' is_299 ln_299 g9 rfl dX12_commits_69 ?_
  refine run_aload_n 0 dX12_commits_70 rfl rfl ?_
  refine run_getr fl_X12_101 is_269 (by decide) rfl ce_269_50 dX12_commits_71 ?_
  refine run_aload_n 0 dX12_commits_74 rfl rfl ?_
  refine run_geti fl_X12_345 is_269 (by decide) rfl dX12_commits_75 ?_
  refine run_iconst (v := 0) dX12_commits_78 rfl ?_
  obtain ⟨g10, h⟩ := gd_s h
  refine run_iast' is_300 ln_300 g10 rfl dX12_commits_79 ?_
  refine run_aload_n 0 dX12_commits_80 rfl rfl ?_
  refine run_getr fl_X12_104 is_269 (by decide) rfl ce_269_51 dX12_commits_81 ?_
  refine run_aload_n 0 dX12_commits_84 rfl rfl ?_
  refine run_geti fl_X12_345 is_269 (by decide) rfl dX12_commits_85 ?_
  refine run_iconst (v := 0) dX12_commits_88 rfl ?_
  obtain ⟨g11, h⟩ := gd_s h
  refine run_iast' is_301 ln_301 g11 rfl dX12_commits_89 ?_
  rw [Option.bind_some] at h
  refine run_mem (fun s12 es12 => ?_)
  rw [← es12] at h
  refine run_aload_n 0 dX12_commits_90 rfl rfl ?_
  refine run_getr fl_X12_107 is_269 (by decide) rfl ce_269_52 dX12_commits_91 ?_
  refine run_aload_n 0 dX12_commits_94 rfl rfl ?_
  refine run_geti fl_X12_345 is_269 (by decide) rfl dX12_commits_95 ?_
  refine run_iconst (v := 0) dX12_commits_98 rfl ?_
  obtain ⟨g13, h⟩ := gd_s h
  refine run_iast' is_302 ln_302 g13 rfl dX12_commits_99 ?_
  refine run_iconst (v := 0) dX12_commits_100 rfl ?_
  refine run_istore_n [(0, .ref (gA G 269)), (1, .int x1), (2, .int x2), (3, .int 0)] [1, 2, 3, 0] dX12_commits_101 rfl (by decide) rfl ?_
  obtain ⟨q57, h63, h⟩ := Option.bind_eq_some_iff.mp h
  refine lpX12_commits_102 G d _ _ _ _ _ _ h63 ?_
  refine run_aload_n 0 dX12_commits_228 rfl rfl ?_
  refine run_dup dX12_commits_229 rfl ?_
  refine run_geti fl_X12_345 is_269 (by decide) rfl dX12_commits_230 ?_
  refine run_iconst (v := 1) dX12_commits_233 rfl ?_
  refine run_iadd dX12_commits_234 ?_
  refine run_puti fp_X12_345 is_269 (by decide) rfl dX12_commits_235 ?_
  refine run_aload_n 0 dX12_commits_238 rfl rfl ?_
  refine run_getr fl_X12_71 is_269 (by decide) rfl ce_269_40 dX12_commits_239 ?_
  refine run_iload_n 1 dX12_commits_242 rfl rfl ?_
  refine run_aload_n 0 dX12_commits_243 rfl rfl ?_
  refine run_geti fl_X12_412 is_269 (by decide) rfl dX12_commits_244 ?_
  obtain ⟨g58, h⟩ := gd_s h
  refine run_iast' is_290 ln_290 g58 rfl dX12_commits_247 ?_
  refine run_aload_n 0 dX12_commits_248 rfl rfl ?_
  refine run_dup dX12_commits_249 rfl ?_
  refine run_geti fl_X12_348 is_269 (by decide) rfl dX12_commits_250 ?_
  refine run_iconst (v := 1) dX12_commits_253 rfl ?_
  refine run_iadd dX12_commits_254 ?_
  refine run_puti fp_X12_348 is_269 (by decide) rfl dX12_commits_255 ?_
  rw [Option.bind_some] at h
  refine run_mem (fun s59 es59 => ?_)
  rw [← es59] at h
  refine run_aload_n 0 dX12_commits_258 rfl rfl ?_
  refine run_getr fl_X12_113 is_269 (by decide) rfl ce_269_60 dX12_commits_259 ?_
  refine run_aload_n 0 dX12_commits_262 rfl rfl ?_
  refine run_getr fl_X12_59 is_269 (by decide) rfl ce_269_36 dX12_commits_263 ?_
  refine run_iload_n 1 dX12_commits_266 rfl rfl ?_
  obtain ⟨g60, h⟩ := gd_s h
  refine run_iald' is_286 ln_286 g60 rfl dX12_commits_267 ?_
  refine run_dup2 dX12_commits_268 rfl rfl ?_
  obtain ⟨g61, h⟩ := gd_s h
  refine run_iald' is_304 ln_304 g61 rfl dX12_commits_269 ?_
  refine run_iconst (v := 1) dX12_commits_270 rfl ?_
  refine run_iadd dX12_commits_271 ?_
  obtain ⟨g62, h⟩ := gd_s h
  refine run_iast' is_304 ln_304 g62 rfl dX12_commits_272 ?_
  exact run_vret dX12_commits_273 ⟨rfl, Option.some.inj h⟩
def HX12_tries : Nat := 4
theorem HX12_tries_X12_checks_lt (d : Nat) : d + HX12_checks < d + HX12_tries := Nat.add_lt_add_left (by decide) d
theorem HX12_tries_X12_commits_lt (d : Nat) : d + HX12_commits < d + HX12_tries := Nat.add_lt_add_left (by decide) d
theorem HX12_tries_X12_idle_lt (d : Nat) : d + HX12_idle < d + HX12_tries := Nat.add_lt_add_left (by decide) d
theorem HX12_tries_X12_stepsOf_lt (d : Nat) : d + HX12_stepsOf < d + HX12_tries := Nat.add_lt_add_left (by decide) d
theorem HX12_tries_0 (d : Nat) : 0 < d + HX12_tries := Nat.lt_of_lt_of_le (by decide) (Nat.le_add_left _ d)
def fX12_tries (x1 : Int32) (x2 : Int32) (σ : Mem) : Option (Bool × Mem) := gd (inb x1 4) (if (σ 286 (Int32.toNatClampNeg x1)) = (-1) then (some (false, σ)) else (gd (inb x1 4) ((fX12_stepsOf (σ 286 (Int32.toNatClampNeg x1)) σ).bind fun q4 => if q4.1 ≤ (σ 287 (Int32.toNatClampNeg x1)) then ((fX12_checks x1 q4.2).bind fun q6 => (if (q6 269 62) = 1 then ((fX12_commits x1 x2 q6).bind fun q15 => some q15) else (gd (inb x1 4) ((some (st2 (st2 q6 269 56 ((q6 269 56) + 1)) 269 57 (((st2 q6 269 56 ((q6 269 56) + 1)) 269 57) + ((st2 q6 269 56 ((q6 269 56) + 1)) 287 (Int32.toNatClampNeg x1))))).bind fun s9 => gd (inb (s9 269 63) 10) ((if (s9 269 62) = 2 then (some true) else (some false) : Option (Bool)).bind fun q12 => gd (inb (s9 269 63) 10) (some (st2 s9 305 (Int32.toNatClampNeg (s9 269 63)) ((s9 305 (Int32.toNatClampNeg (s9 269 63))) + (b2 q12))))))) : Option (Mem)).bind fun q17 => (fX12_idle x1 q17).bind fun q18 => some (true, q18)) else (some (false, q4.2)))))
set_option maxRecDepth 20000 in
theorem sX12_tries (G : GT) (d : Nat) {x1 : Int32} {x2 : Int32}  {σ : Mem} {o : (Bool × Mem)} (h : fX12_tries x1 x2 σ = some o) : Spec G yX12_tries cX12_tries 4 (some .boolean) (d + HX12_tries) [.ref (gA G 269), .int x1, .int x2] σ (kB fun x z => (x, z) = o) := by
  refine spec_run (by decide) (Nat.le_of_ble_eq_true rfl) ?_
  unfold fX12_tries at h
  show Run G RX12 cX12_tries 4 (some .boolean) _ 0 [(0, .ref (gA G 269)), (1, .int x1), (2, .int x2)] [] σ
  refine run_aload_n 0 dX12_tries_0 rfl rfl ?_
  refine run_getr fl_X12_59 is_269 (by decide) rfl ce_269_36 dX12_tries_1 ?_
  refine run_iload_n 1 dX12_tries_4 rfl rfl ?_
  obtain ⟨g1, h⟩ := gd_s h
  refine run_iald' is_286 ln_286 g1 rfl dX12_tries_5 ?_
  refine run_istore_n [(0, .ref (gA G 269)), (1, .int x1), (2, .int x2), (3, .int (σ 286 (Int32.toNatClampNeg x1)))] [1, 2, 3, 0] dX12_tries_6 rfl (by decide) rfl ?_
  refine run_iload_n 3 dX12_tries_7 rfl rfl ?_
  refine run_iconst (v := -1) dX12_tries_8 rfl ?_
  refine run_icmp_eq 26 dX12_tries_9 (by decide) (fun c2 => ?_) (fun c2 => ?_)
  · rw [if_pos c2] at h
    refine run_iconst (v := 0) dX12_tries_26 rfl ?_
    exact run_bret (b := false) dX12_tries_27 ⟨_, rfl, Option.some.inj h⟩
  · rw [if_neg c2] at h
    refine run_aload_n 0 dX12_tries_12 rfl rfl ?_
    refine run_getr fl_X12_62 is_269 (by decide) rfl ce_269_37 dX12_tries_13 ?_
    refine run_iload_n 1 dX12_tries_16 rfl rfl ?_
    obtain ⟨g3, h⟩ := gd_s h
    refine run_iald' is_287 ln_287 g3 rfl dX12_tries_17 ?_
    refine run_aload_n 0 dX12_tries_18 rfl rfl ?_
    refine run_iload_n 3 dX12_tries_19 rfl rfl ?_
    obtain ⟨q4, h22, h⟩ := Option.bind_eq_some_iff.mp h
    refine run_callVi (As := [.int (σ 286 (Int32.toNatClampNeg x1))]) (fun r z => (r, z) = q4) mw_X12_stepsOf mi_X12_stepsOf ml_X12_381 is_269 (by decide) rfl rfl rfl (RF.lt (HX12_tries_X12_stepsOf_lt d)) (Nat.le_of_ble_eq_true rfl) dX12_tries_20 (sX12_stepsOf G d  h22) (fun r z h8 => ?_) rfl
    rw [show r = q4.1 from congrArg Prod.fst h8, show z = q4.2 from congrArg Prod.snd h8]
    clear h8
    refine run_icmp_ge 28 dX12_tries_23 (by decide) (fun c5 => ?_) (fun c5 => ?_)
    · rw [if_pos c5] at h
      refine run_aload_n 0 dX12_tries_28 rfl rfl ?_
      refine run_iload_n 1 dX12_tries_29 rfl rfl ?_
      obtain ⟨q6, h21, h⟩ := Option.bind_eq_some_iff.mp h
      refine run_callVv (As := [.int x1]) (fun z => z = q6) mw_X12_checks mi_X12_checks ml_X12_424 is_269 (by decide) rfl rfl rfl (RF.lt (HX12_tries_X12_checks_lt d)) (Nat.le_of_ble_eq_true rfl) dX12_tries_30 (sX12_checks G d  h21) (fun z h8 => ?_) rfl
      rw [h8]
      clear h8
      refine run_aload_n 0 dX12_tries_33 rfl rfl ?_
      refine run_geti fl_X12_403 is_269 (by decide) rfl dX12_tries_34 ?_
      refine run_iconst (v := 1) dX12_tries_37 rfl ?_
      obtain ⟨q17, h, h9⟩ := Option.bind_eq_some_iff.mp h
      have hj20 : Run G RX12 cX12_tries 4 (some .boolean) (mF G (d + HX12_tries) (kB fun x z => (x, z) = o)) 100 [(0, .ref (gA G 269)), (1, .int x1)] [] q17 := by
        clear h
        have h := h9
        clear h9
        refine run_aload_n 0 dX12_tries_100 rfl rfl ?_
        refine run_iload_n 1 dX12_tries_101 rfl rfl ?_
        obtain ⟨q18, h19, h⟩ := Option.bind_eq_some_iff.mp h
        refine run_callVv (As := [.int x1]) (fun z => z = q18) mw_X12_idle mi_X12_idle ml_X12_363 is_269 (by decide) rfl rfl rfl (RF.lt (HX12_tries_X12_idle_lt d)) (Nat.le_of_ble_eq_true rfl) dX12_tries_102 (sX12_idle G d  h19) (fun z h8 => ?_) rfl
        rw [h8]
        clear h8
        refine run_iconst (v := 1) dX12_tries_105 rfl ?_
        exact run_bret (b := true) dX12_tries_106 ⟨_, rfl, Option.some.inj h⟩
      clear h9
      refine run_icmp_ne 50 dX12_tries_38 (by decide) (fun c7 => ?_) (fun c7 => ?_)
      · rw [if_neg c7] at h
        refine run_aload_n 0 dX12_tries_50 rfl rfl ?_
        refine run_dup dX12_tries_51 rfl ?_
        refine run_geti fl_X12_351 is_269 (by decide) rfl dX12_tries_52 ?_
        refine run_iconst (v := 1) dX12_tries_55 rfl ?_
        refine run_iadd dX12_tries_56 ?_
        refine run_puti fp_X12_351 is_269 (by decide) rfl dX12_tries_57 ?_
        refine run_aload_n 0 dX12_tries_60 rfl rfl ?_
        refine run_dup dX12_tries_61 rfl ?_
        refine run_geti fl_X12_354 is_269 (by decide) rfl dX12_tries_62 ?_
        refine run_aload_n 0 dX12_tries_65 rfl rfl ?_
        refine run_getr fl_X12_62 is_269 (by decide) rfl ce_269_37 dX12_tries_66 ?_
        refine run_iload_n 1 dX12_tries_69 rfl rfl ?_
        obtain ⟨g8, h⟩ := gd_s h
        refine run_iald' is_287 ln_287 g8 rfl dX12_tries_70 ?_
        refine run_iadd dX12_tries_71 ?_
        refine run_puti fp_X12_354 is_269 (by decide) rfl dX12_tries_72 ?_
        rw [Option.bind_some] at h
        refine run_mem (fun s9 es9 => ?_)
        rw [← es9] at h
        refine run_aload_n 0 dX12_tries_75 rfl rfl ?_
        refine run_getr fl_X12_116 is_269 (by decide) rfl ce_269_61 dX12_tries_76 ?_
        refine run_aload_n 0 dX12_tries_79 rfl rfl ?_
        refine run_geti fl_X12_406 is_269 (by decide) rfl dX12_tries_80 ?_
        refine run_dup2 dX12_tries_83 rfl rfl ?_
        obtain ⟨g10, h⟩ := gd_s h
        refine run_iald' is_305 ln_305 g10 rfl dX12_tries_84 ?_
        refine run_aload_n 0 dX12_tries_85 rfl rfl ?_
        refine run_geti fl_X12_403 is_269 (by decide) rfl dX12_tries_86 ?_
        refine run_iconst (v := 2) dX12_tries_89 rfl ?_
        obtain ⟨q12, h, h9⟩ := Option.bind_eq_some_iff.mp h
        have hj14 : Run G RX12 cX12_tries 4 (some .boolean) (mF G (d + HX12_tries) (kB fun x z => (x, z) = o)) 98 [(0, .ref (gA G 269)), (1, .int x1)] [.int (b2 q12), .int (s9 305 (Int32.toNatClampNeg (s9 269 63))), .int (s9 269 63), .ref (gA G 305)] s9 := by
          clear h
          have h := h9
          clear h9
          refine run_iadd dX12_tries_98 ?_
          obtain ⟨g13, h⟩ := gd_s h
          refine run_iast' is_305 ln_305 g13 rfl dX12_tries_99 ?_
          rw [← Option.some.inj h] at hj20
          exact hj20
        clear h9
        refine run_icmp_ne 97 dX12_tries_90 (by decide) (fun c11 => ?_) (fun c11 => ?_)
        · rw [if_neg c11] at h
          refine run_iconst (v := 0) dX12_tries_97 rfl ?_
          rw [← Option.some.inj h] at hj14
          refine run_forget [0, 1] rfl ?_
          exact hj14
        · rw [if_pos c11] at h
          refine run_iconst (v := 1) dX12_tries_93 rfl ?_
          refine run_goto 98 dX12_tries_94 (by decide) ?_
          rw [← Option.some.inj h] at hj14
          refine run_forget [0, 1] rfl ?_
          exact hj14
      · rw [if_pos c7] at h
        refine run_aload_n 0 dX12_tries_41 rfl rfl ?_
        refine run_iload_n 1 dX12_tries_42 rfl rfl ?_
        refine run_iload_n 2 dX12_tries_43 rfl rfl ?_
        obtain ⟨q15, h16, h⟩ := Option.bind_eq_some_iff.mp h
        refine run_callVv (As := [.int x1, .int x2]) (fun z => z = q15) mw_X12_commits mi_X12_commits ml_X12_427 is_269 (by decide) rfl rfl rfl (RF.lt (HX12_tries_X12_commits_lt d)) (Nat.le_of_ble_eq_true rfl) dX12_tries_44 (sX12_commits G d  h16) (fun z h8 => ?_) rfl
        rw [h8]
        clear h8
        refine run_goto 100 dX12_tries_47 (by decide) ?_
        rw [← Option.some.inj h] at hj20
        refine run_forget [0, 1] rfl ?_
        exact hj20
    · rw [if_neg c5] at h
      refine run_iconst (v := 0) dX12_tries_26 rfl ?_
      exact run_bret (b := false) dX12_tries_27 ⟨_, rfl, Option.some.inj h⟩
def HX12_durable : Nat := 2
theorem HX12_durable_X12_lesser_lt (d : Nat) : d + HX12_lesser < d + HX12_durable := Nat.add_lt_add_left (by decide) d
theorem HX12_durable_0 (d : Nat) : 0 < d + HX12_durable := Nat.lt_of_lt_of_le (by decide) (Nat.le_add_left _ d)
def lX12_durable_9  : Nat → Int32 → Int32 → Mem → Option (Int32 × Mem)
  | 0, _, _, _ => none
  | n + 1, x1, x2, σ => if (σ 269 26) ≤ x2 then (some (x1, σ)) else (gd (inb x2 4) ((fX12_lesser x1 (σ 291 (Int32.toNatClampNeg x2)) σ).bind fun q6 => lX12_durable_9 n q6.1 (x2 + 1) q6.2))
set_option maxRecDepth 20000 in
theorem lpX12_durable_9 (G : GT) (d : Nat)   {K : Option Value → Mem → Prop} : ∀ (n : Nat) (x1 : Int32) (x2 : Int32) (σ : Mem) (o : Int32 × Mem), lX12_durable_9 n x1 x2 σ = some o → (Run G RX12 cX12_durable 3 (some .int) (mF G (d + HX12_durable) K) 34 [(1, .int (o.1))] [] (o.2)) → Run G RX12 cX12_durable 3 (some .int) (mF G (d + HX12_durable) K) 9 [(0, .ref (gA G 269)), (1, .int x1), (2, .int x2)] [] σ := by
  intro n
  induction n with
  | zero => intro x1 x2 σ o h; exact absurd h (by simp [lX12_durable_9])
  | succ n ih =>
    intro x1 x2 σ o h kx
    rw [lX12_durable_9] at h
    refine run_iload_n 2 dX12_durable_9 rfl rfl ?_
    refine run_aload_n 0 dX12_durable_10 rfl rfl ?_
    refine run_geti fl_X12_326 is_269 (by decide) rfl dX12_durable_11 ?_
    refine run_icmp_ge 34 dX12_durable_14 (by decide) (fun c4 => ?_) (fun c4 => ?_)
    · rw [if_pos c4] at h
      rw [← Option.some.inj h] at kx
      refine run_forget [1] rfl ?_
      exact kx
    · rw [if_neg c4] at h
      refine run_iload_n 1 dX12_durable_17 rfl rfl ?_
      refine run_aload_n 0 dX12_durable_18 rfl rfl ?_
      refine run_getr fl_X12_74 is_269 (by decide) rfl ce_269_41 dX12_durable_19 ?_
      refine run_iload_n 2 dX12_durable_22 rfl rfl ?_
      obtain ⟨g5, h⟩ := gd_s h
      refine run_iald' is_291 ln_291 g5 rfl dX12_durable_23 ?_
      obtain ⟨q6, h7, h⟩ := Option.bind_eq_some_iff.mp h
      refine run_callSi (As := [.int x1, .int (σ 291 (Int32.toNatClampNeg x2))]) (fun r z => (r, z) = q6) mw_X12_lesser ms_X12_lesser ml_X12_239 rfl (RF.lt (HX12_durable_X12_lesser_lt d)) (Nat.le_of_ble_eq_true rfl) dX12_durable_24 (sX12_lesser G d  h7) (fun r z h8 => ?_) rfl
      rw [show r = q6.1 from congrArg Prod.fst h8, show z = q6.2 from congrArg Prod.snd h8]
      clear h8
      refine run_istore_n [(0, .ref (gA G 269)), (1, .int q6.1), (2, .int x2)] [1, 0, 2] dX12_durable_27 rfl (by decide) rfl ?_
      refine run_iinc 2 [(0, .ref (gA G 269)), (1, .int q6.1), (2, .int (x2 + 1))] [1, 2, 0] dX12_durable_28 rfl rfl (by decide) rfl ?_
      refine run_goto 9 dX12_durable_31 (by decide) ?_
      exact ih _ _ _ _ h kx
def fX12_durable  (σ : Mem) : Option (Int32 × Mem) := (lX12_durable_9 FU (σ 291 0) 1 σ).bind fun q8 => some ((q8.1), (q8.2))
set_option maxRecDepth 20000 in
theorem sX12_durable (G : GT) (d : Nat)   {σ : Mem} {o : (Int32 × Mem)} (h : fX12_durable σ = some o) : Spec G yX12_durable cX12_durable 3 (some .int) (d + HX12_durable) [.ref (gA G 269)] σ (kI fun x z => (x, z) = o) := by
  refine spec_run (by decide) (Nat.le_of_ble_eq_true rfl) ?_
  unfold fX12_durable at h
  show Run G RX12 cX12_durable 3 (some .int) _ 0 [(0, .ref (gA G 269))] [] σ
  refine run_aload_n 0 dX12_durable_0 rfl rfl ?_
  refine run_getr fl_X12_74 is_269 (by decide) rfl ce_269_41 dX12_durable_1 ?_
  refine run_iconst (v := 0) dX12_durable_4 rfl ?_
  refine run_iald' (j := 0) is_291 ln_291 (by decide) rfl dX12_durable_5 ?_
  refine run_istore_n [(0, .ref (gA G 269)), (1, .int (σ 291 0))] [1, 0] dX12_durable_6 rfl (by decide) rfl ?_
  refine run_iconst (v := 1) dX12_durable_7 rfl ?_
  refine run_istore_n [(0, .ref (gA G 269)), (1, .int (σ 291 0)), (2, .int 1)] [1, 2, 0] dX12_durable_8 rfl (by decide) rfl ?_
  obtain ⟨q8, h9, h⟩ := Option.bind_eq_some_iff.mp h
  refine lpX12_durable_9 G d _ _ _ _ _ h9 ?_
  refine run_iload_n 0 dX12_durable_34 rfl rfl ?_
  exact run_iret dX12_durable_35 ⟨_, rfl, Option.some.inj h⟩
def HX12_nextEpoch : Nat := 1
theorem HX12_nextEpoch_0 (d : Nat) : 0 < d + HX12_nextEpoch := Nat.lt_of_lt_of_le (by decide) (Nat.le_add_left _ d)
def lX12_nextEpoch_13  : Nat → Int32 → Mem → Option ((Bool × Mem) ⊕ (Mem))
  | 0, _, _ => none
  | n + 1, x1, σ => if (σ 269 26) ≤ x1 then (some (.inr σ)) else (gd (inb x1 4) (if (σ 286 (Int32.toNatClampNeg x1)) = (-1) then (lX12_nextEpoch_13 n (x1 + 1) σ) else (gd (inb x1 4) (if (σ 269 29) ≤ (σ 289 (Int32.toNatClampNeg x1)) then (lX12_nextEpoch_13 n (x1 + 1) σ) else (some (.inl (false, σ)))))))
set_option maxRecDepth 20000 in
theorem lpX12_nextEpoch_13 (G : GT) (d : Nat)   {K : Option Value → Mem → Prop} : ∀ (n : Nat) (x1 : Int32) (σ : Mem) (o : (Bool × Mem) ⊕ (Mem)), lX12_nextEpoch_13 n x1 σ = some o → (∀ r, o = .inl r → K (some (.int (b2 r.1))) r.2) → (∀ t, o = .inr t → Run G RX12 cX12_nextEpoch 2 (some .boolean) (mF G (d + HX12_nextEpoch) K) 52 [(0, .ref (gA G 269))] [] t) → Run G RX12 cX12_nextEpoch 2 (some .boolean) (mF G (d + HX12_nextEpoch) K) 13 [(0, .ref (gA G 269)), (1, .int x1)] [] σ := by
  intro n
  induction n with
  | zero => intro x1 σ o h; exact absurd h (by simp [lX12_nextEpoch_13])
  | succ n ih =>
    intro x1 σ o h kr kx
    rw [lX12_nextEpoch_13] at h
    refine run_iload_n 1 dX12_nextEpoch_13 rfl rfl ?_
    refine run_aload_n 0 dX12_nextEpoch_14 rfl rfl ?_
    refine run_geti fl_X12_326 is_269 (by decide) rfl dX12_nextEpoch_15 ?_
    refine run_icmp_ge 52 dX12_nextEpoch_18 (by decide) (fun c5 => ?_) (fun c5 => ?_)
    · rw [if_pos c5] at h
      refine run_forget [0] rfl ?_
      exact kx _ (Option.some.inj h).symm
    · rw [if_neg c5] at h
      refine run_aload_n 0 dX12_nextEpoch_21 rfl rfl ?_
      refine run_getr fl_X12_59 is_269 (by decide) rfl ce_269_36 dX12_nextEpoch_22 ?_
      refine run_iload_n 1 dX12_nextEpoch_25 rfl rfl ?_
      obtain ⟨g6, h⟩ := gd_s h
      refine run_iald' is_286 ln_286 g6 rfl dX12_nextEpoch_26 ?_
      refine run_iconst (v := -1) dX12_nextEpoch_27 rfl ?_
      refine run_icmp_eq 46 dX12_nextEpoch_28 (by decide) (fun c7 => ?_) (fun c7 => ?_)
      · rw [if_pos c7] at h
        refine run_iinc 1 [(0, .ref (gA G 269)), (1, .int (x1 + 1))] [1, 0] dX12_nextEpoch_46 rfl rfl (by decide) rfl ?_
        refine run_goto 13 dX12_nextEpoch_49 (by decide) ?_
        exact ih _ _ _ h kr kx
      · rw [if_neg c7] at h
        refine run_aload_n 0 dX12_nextEpoch_31 rfl rfl ?_
        refine run_getr fl_X12_68 is_269 (by decide) rfl ce_269_39 dX12_nextEpoch_32 ?_
        refine run_iload_n 1 dX12_nextEpoch_35 rfl rfl ?_
        obtain ⟨g8, h⟩ := gd_s h
        refine run_iald' is_289 ln_289 g8 rfl dX12_nextEpoch_36 ?_
        refine run_aload_n 0 dX12_nextEpoch_37 rfl rfl ?_
        refine run_geti fl_X12_342 is_269 (by decide) rfl dX12_nextEpoch_38 ?_
        refine run_icmp_ge 46 dX12_nextEpoch_41 (by decide) (fun c9 => ?_) (fun c9 => ?_)
        · rw [if_pos c9] at h
          refine run_iinc 1 [(0, .ref (gA G 269)), (1, .int (x1 + 1))] [1, 0] dX12_nextEpoch_46 rfl rfl (by decide) rfl ?_
          refine run_goto 13 dX12_nextEpoch_49 (by decide) ?_
          exact ih _ _ _ h kr kx
        · rw [if_neg c9] at h
          refine run_iconst (v := 0) dX12_nextEpoch_44 rfl ?_
          exact run_bret (b := false) dX12_nextEpoch_45 (kr _ (Option.some.inj h).symm)
def fX12_nextEpoch  (σ : Mem) : Option (Bool × Mem) := if (σ 269 29) = 50 then (some (false, σ)) else ((lX12_nextEpoch_13 FU 0 σ).bind fun q10 => Sum.elim (fun q12 => some q12) (fun q10 => some (true, (st2 q10 269 29 ((q10 269 29) + 1)))) q10)
set_option maxRecDepth 20000 in
theorem sX12_nextEpoch (G : GT) (d : Nat)   {σ : Mem} {o : (Bool × Mem)} (h : fX12_nextEpoch σ = some o) : Spec G yX12_nextEpoch cX12_nextEpoch 2 (some .boolean) (d + HX12_nextEpoch) [.ref (gA G 269)] σ (kB fun x z => (x, z) = o) := by
  refine spec_run (by decide) (Nat.le_of_ble_eq_true rfl) ?_
  unfold fX12_nextEpoch at h
  show Run G RX12 cX12_nextEpoch 2 (some .boolean) _ 0 [(0, .ref (gA G 269))] [] σ
  refine run_aload_n 0 dX12_nextEpoch_0 rfl rfl ?_
  refine run_geti fl_X12_342 is_269 (by decide) rfl dX12_nextEpoch_1 ?_
  refine run_bipush (v := 50) dX12_nextEpoch_4 rfl ?_
  refine run_icmp_ne 11 dX12_nextEpoch_6 (by decide) (fun c1 => ?_) (fun c1 => ?_)
  · rw [if_neg c1] at h
    refine run_iconst (v := 0) dX12_nextEpoch_11 rfl ?_
    refine run_istore_n [(0, .ref (gA G 269)), (1, .int 0)] [1, 0] dX12_nextEpoch_12 rfl (by decide) rfl ?_
    obtain ⟨q10a, h11, h⟩ := Option.bind_eq_some_iff.mp h
    refine lpX12_nextEpoch_13 G d _ _ _ _ h11 (fun q12 e9 => ?_) (fun q10 e9 => ?_)
    · rw [e9, Sum.elim_inl] at h
      rw [← Option.some.inj h]
      exact ⟨_, rfl, rfl⟩
    · rw [e9, Sum.elim_inr] at h
      refine run_aload_n 0 dX12_nextEpoch_52 rfl rfl ?_
      refine run_dup dX12_nextEpoch_53 rfl ?_
      refine run_geti fl_X12_342 is_269 (by decide) rfl dX12_nextEpoch_54 ?_
      refine run_iconst (v := 1) dX12_nextEpoch_57 rfl ?_
      refine run_iadd dX12_nextEpoch_58 ?_
      refine run_puti fp_X12_342 is_269 (by decide) rfl dX12_nextEpoch_59 ?_
      refine run_iconst (v := 1) dX12_nextEpoch_62 rfl ?_
      exact run_bret (b := true) dX12_nextEpoch_63 ⟨_, rfl, Option.some.inj h⟩
  · rw [if_pos c1] at h
    refine run_iconst (v := 0) dX12_nextEpoch_9 rfl ?_
    exact run_bret (b := false) dX12_nextEpoch_10 ⟨_, rfl, Option.some.inj h⟩
def HX12_flushes : Nat := 1
theorem HX12_flushes_0 (d : Nat) : 0 < d + HX12_flushes := Nat.lt_of_lt_of_le (by decide) (Nat.le_add_left _ d)
def lX12_flushes_2 (x1 : Int32) : Nat → Int32 → Mem → Option (Mem)
  | 0, _, _ => none
  | n + 1, x2, σ => if (σ 269 54) ≤ x2 then (some σ) else (gd (inb x2 64) ((if (σ 295 (Int32.toNatClampNeg x2)) = x1 then (some 1) else (gd (inb x2 64) (some (σ 299 (Int32.toNatClampNeg x2)))) : Option (Int32)).bind fun q11 => gd (inb x2 64) (lX12_flushes_2 x1 n (x2 + 1) (st2 σ 299 (Int32.toNatClampNeg x2) q11))))
set_option maxRecDepth 20000 in
theorem lpX12_flushes_2 (G : GT) (d : Nat) (x1 : Int32)  {K : Option Value → Mem → Prop} : ∀ (n : Nat) (x2 : Int32) (σ : Mem) (o : Mem), lX12_flushes_2 x1 n x2 σ = some o → (Run G RX12 cX12_flushes 3 none (mF G (d + HX12_flushes) K) 42 [(0, .ref (gA G 269)), (1, .int x1)] [] o) → Run G RX12 cX12_flushes 3 none (mF G (d + HX12_flushes) K) 2 [(0, .ref (gA G 269)), (1, .int x1), (2, .int x2)] [] σ := by
  intro n
  induction n with
  | zero => intro x2 σ o h; exact absurd h (by simp [lX12_flushes_2])
  | succ n ih =>
    intro x2 σ o h kx
    rw [lX12_flushes_2] at h
    refine run_iload_n 2 dX12_flushes_2 rfl rfl ?_
    refine run_aload_n 0 dX12_flushes_3 rfl rfl ?_
    refine run_geti fl_X12_345 is_269 (by decide) rfl dX12_flushes_4 ?_
    refine run_icmp_ge 42 dX12_flushes_7 (by decide) (fun c7 => ?_) (fun c7 => ?_)
    · rw [if_pos c7] at h
      rw [← Option.some.inj h] at kx
      refine run_forget [0, 1] rfl ?_
      exact kx
    · rw [if_neg c7] at h
      refine run_aload_n 0 dX12_flushes_10 rfl rfl ?_
      refine run_getr fl_X12_98 is_269 (by decide) rfl ce_269_49 dX12_flushes_11 ?_
      refine run_iload_n 2 dX12_flushes_14 rfl rfl ?_
      refine run_aload_n 0 dX12_flushes_15 rfl rfl ?_
      refine run_getr fl_X12_86 is_269 (by decide) rfl ce_269_45 dX12_flushes_16 ?_
      refine run_iload_n 2 dX12_flushes_19 rfl rfl ?_
      obtain ⟨g8, h⟩ := gd_s h
      refine run_iald' is_295 ln_295 g8 rfl dX12_flushes_20 ?_
      refine run_iload_n 1 dX12_flushes_21 rfl rfl ?_
      obtain ⟨q11, h, h9⟩ := Option.bind_eq_some_iff.mp h
      have hj13 : Run G RX12 cX12_flushes 3 none (mF G (d + HX12_flushes) K) 35 [(0, .ref (gA G 269)), (1, .int x1), (2, .int x2)] [.int q11, .int x2, .ref (gA G 299)] σ := by
        clear h
        have h := h9
        clear h9
        obtain ⟨g12, h⟩ := gd_s h
        refine run_iast' is_299 ln_299 g12 rfl dX12_flushes_35 ?_
        refine run_iinc 2 [(0, .ref (gA G 269)), (1, .int x1), (2, .int (x2 + 1))] [1, 2, 0] dX12_flushes_36 rfl rfl (by decide) rfl ?_
        refine run_goto 2 dX12_flushes_39 (by decide) ?_
        exact ih _ _ _ h kx
      clear h9
      refine run_icmp_ne 29 dX12_flushes_22 (by decide) (fun c9 => ?_) (fun c9 => ?_)
      · rw [if_neg c9] at h
        refine run_aload_n 0 dX12_flushes_29 rfl rfl ?_
        refine run_getr fl_X12_98 is_269 (by decide) rfl ce_269_49 dX12_flushes_30 ?_
        refine run_iload_n 2 dX12_flushes_33 rfl rfl ?_
        obtain ⟨g10, h⟩ := gd_s h
        refine run_iald' is_299 ln_299 g10 rfl dX12_flushes_34 ?_
        rw [← Option.some.inj h] at hj13
        exact hj13
      · rw [if_pos c9] at h
        refine run_iconst (v := 1) dX12_flushes_25 rfl ?_
        refine run_goto 35 dX12_flushes_26 (by decide) ?_
        rw [← Option.some.inj h] at hj13
        exact hj13
def fX12_flushes (x1 : Int32) (σ : Mem) : Option Mem := (lX12_flushes_2 x1 FU 0 σ).bind fun q14 => gd (inb x1 4) (some (st2 q14 291 (Int32.toNatClampNeg x1) ((q14 269 29) - 1)))
set_option maxRecDepth 20000 in
theorem sX12_flushes (G : GT) (d : Nat) {x1 : Int32}  {σ : Mem} {o : Mem} (h : fX12_flushes x1 σ = some o) : Spec G yX12_flushes cX12_flushes 3 none (d + HX12_flushes) [.ref (gA G 269), .int x1] σ (kV fun z => z = o) := by
  refine spec_run (by decide) (Nat.le_of_ble_eq_true rfl) ?_
  unfold fX12_flushes at h
  show Run G RX12 cX12_flushes 3 none _ 0 [(0, .ref (gA G 269)), (1, .int x1)] [] σ
  refine run_iconst (v := 0) dX12_flushes_0 rfl ?_
  refine run_istore_n [(0, .ref (gA G 269)), (1, .int x1), (2, .int 0)] [1, 2, 0] dX12_flushes_1 rfl (by decide) rfl ?_
  obtain ⟨q14, h16, h⟩ := Option.bind_eq_some_iff.mp h
  refine lpX12_flushes_2 G d _ _ _ _ _ h16 ?_
  refine run_aload_n 0 dX12_flushes_42 rfl rfl ?_
  refine run_getr fl_X12_74 is_269 (by decide) rfl ce_269_41 dX12_flushes_43 ?_
  refine run_iload_n 1 dX12_flushes_46 rfl rfl ?_
  refine run_aload_n 0 dX12_flushes_47 rfl rfl ?_
  refine run_geti fl_X12_342 is_269 (by decide) rfl dX12_flushes_48 ?_
  refine run_iconst (v := 1) dX12_flushes_51 rfl ?_
  refine run_isub dX12_flushes_52 ?_
  obtain ⟨g15, h⟩ := gd_s h
  refine run_iast' is_291 ln_291 g15 rfl dX12_flushes_53 ?_
  exact run_vret dX12_flushes_54 ⟨rfl, Option.some.inj h⟩
def HX12_isSafe : Nat := 1
theorem HX12_isSafe_0 (d : Nat) : 0 < d + HX12_isSafe := Nat.lt_of_lt_of_le (by decide) (Nat.le_add_left _ d)
def fX12_isSafe (x1 : Int32) (x2 : Int32) (σ : Mem) : Option (Bool × Mem) := gd (inb x1 64) (if (σ 295 (Int32.toNatClampNeg x1)) = (-1) then (some (false, σ)) else (gd (inb x1 64) (if (σ 299 (Int32.toNatClampNeg x1)) = 1 then (gd (inb x1 64) (if x2 < (σ 297 (Int32.toNatClampNeg x1)) then (some (false, σ)) else (some (true, σ)))) else (some (false, σ)))))
set_option maxRecDepth 20000 in
theorem sX12_isSafe (G : GT) (d : Nat) {x1 : Int32} {x2 : Int32}  {σ : Mem} {o : (Bool × Mem)} (h : fX12_isSafe x1 x2 σ = some o) : Spec G yX12_isSafe cX12_isSafe 3 (some .boolean) (d + HX12_isSafe) [.ref (gA G 269), .int x1, .int x2] σ (kB fun x z => (x, z) = o) := by
  refine spec_run (by decide) (Nat.le_of_ble_eq_true rfl) ?_
  unfold fX12_isSafe at h
  show Run G RX12 cX12_isSafe 3 (some .boolean) _ 0 [(0, .ref (gA G 269)), (1, .int x1), (2, .int x2)] [] σ
  refine run_aload_n 0 dX12_isSafe_0 rfl rfl ?_
  refine run_getr fl_X12_86 is_269 (by decide) rfl ce_269_45 dX12_isSafe_1 ?_
  refine run_iload_n 1 dX12_isSafe_4 rfl rfl ?_
  obtain ⟨g1, h⟩ := gd_s h
  refine run_iald' is_295 ln_295 g1 rfl dX12_isSafe_5 ?_
  refine run_iconst (v := -1) dX12_isSafe_6 rfl ?_
  refine run_icmp_eq 34 dX12_isSafe_7 (by decide) (fun c2 => ?_) (fun c2 => ?_)
  · rw [if_pos c2] at h
    refine run_iconst (v := 0) dX12_isSafe_34 rfl ?_
    exact run_bret (b := false) dX12_isSafe_35 ⟨_, rfl, Option.some.inj h⟩
  · rw [if_neg c2] at h
    refine run_aload_n 0 dX12_isSafe_10 rfl rfl ?_
    refine run_getr fl_X12_98 is_269 (by decide) rfl ce_269_49 dX12_isSafe_11 ?_
    refine run_iload_n 1 dX12_isSafe_14 rfl rfl ?_
    obtain ⟨g3, h⟩ := gd_s h
    refine run_iald' is_299 ln_299 g3 rfl dX12_isSafe_15 ?_
    refine run_iconst (v := 1) dX12_isSafe_16 rfl ?_
    refine run_icmp_ne 34 dX12_isSafe_17 (by decide) (fun c4 => ?_) (fun c4 => ?_)
    · rw [if_neg c4] at h
      refine run_iconst (v := 0) dX12_isSafe_34 rfl ?_
      exact run_bret (b := false) dX12_isSafe_35 ⟨_, rfl, Option.some.inj h⟩
    · rw [if_pos c4] at h
      refine run_aload_n 0 dX12_isSafe_20 rfl rfl ?_
      refine run_getr fl_X12_92 is_269 (by decide) rfl ce_269_47 dX12_isSafe_21 ?_
      refine run_iload_n 1 dX12_isSafe_24 rfl rfl ?_
      obtain ⟨g5, h⟩ := gd_s h
      refine run_iald' is_297 ln_297 g5 rfl dX12_isSafe_25 ?_
      refine run_iload_n 2 dX12_isSafe_26 rfl rfl ?_
      refine run_icmp_gt 34 dX12_isSafe_27 (by decide) (fun c6 => ?_) (fun c6 => ?_)
      · rw [if_pos c6] at h
        refine run_iconst (v := 0) dX12_isSafe_34 rfl ?_
        exact run_bret (b := false) dX12_isSafe_35 ⟨_, rfl, Option.some.inj h⟩
      · rw [if_neg c6] at h
        refine run_iconst (v := 1) dX12_isSafe_30 rfl ?_
        refine run_goto 35 dX12_isSafe_31 (by decide) ?_
        exact run_bret (b := true) dX12_isSafe_35 ⟨_, rfl, Option.some.inj h⟩
def HX12_isBehind : Nat := 1
theorem HX12_isBehind_0 (d : Nat) : 0 < d + HX12_isBehind := Nat.lt_of_lt_of_le (by decide) (Nat.le_add_left _ d)
def fX12_isBehind (x1 : Int32) (x2 : Int32) (σ : Mem) : Option (Bool × Mem) := gd (inb x1 64) (gd (inb x2 64) (if (σ 298 (Int32.toNatClampNeg x1)) = (σ 298 (Int32.toNatClampNeg x2)) then (gd (inb x1 64) (gd (inb x2 64) (if (σ 295 (Int32.toNatClampNeg x1)) ≤ (σ 295 (Int32.toNatClampNeg x2)) then (some (false, σ)) else (some (true, σ))))) else (gd (inb x1 64) (gd (inb x2 64) (if (σ 298 (Int32.toNatClampNeg x1)) ≤ (σ 298 (Int32.toNatClampNeg x2)) then (some (false, σ)) else (some (true, σ)))))))
set_option maxRecDepth 20000 in
theorem sX12_isBehind (G : GT) (d : Nat) {x1 : Int32} {x2 : Int32}  {σ : Mem} {o : (Bool × Mem)} (h : fX12_isBehind x1 x2 σ = some o) : Spec G yX12_isBehind cX12_isBehind 3 (some .boolean) (d + HX12_isBehind) [.ref (gA G 269), .int x1, .int x2] σ (kB fun x z => (x, z) = o) := by
  refine spec_run (by decide) (Nat.le_of_ble_eq_true rfl) ?_
  unfold fX12_isBehind at h
  show Run G RX12 cX12_isBehind 3 (some .boolean) _ 0 [(0, .ref (gA G 269)), (1, .int x1), (2, .int x2)] [] σ
  refine run_aload_n 0 dX12_isBehind_0 rfl rfl ?_
  refine run_getr fl_X12_95 is_269 (by decide) rfl ce_269_48 dX12_isBehind_1 ?_
  refine run_iload_n 1 dX12_isBehind_4 rfl rfl ?_
  obtain ⟨g1, h⟩ := gd_s h
  refine run_iald' is_298 ln_298 g1 rfl dX12_isBehind_5 ?_
  refine run_aload_n 0 dX12_isBehind_6 rfl rfl ?_
  refine run_getr fl_X12_95 is_269 (by decide) rfl ce_269_48 dX12_isBehind_7 ?_
  refine run_iload_n 2 dX12_isBehind_10 rfl rfl ?_
  obtain ⟨g2, h⟩ := gd_s h
  refine run_iald' is_298 ln_298 g2 rfl dX12_isBehind_11 ?_
  refine run_icmp_eq 38 dX12_isBehind_12 (by decide) (fun c3 => ?_) (fun c3 => ?_)
  · rw [if_pos c3] at h
    refine run_aload_n 0 dX12_isBehind_38 rfl rfl ?_
    refine run_getr fl_X12_86 is_269 (by decide) rfl ce_269_45 dX12_isBehind_39 ?_
    refine run_iload_n 1 dX12_isBehind_42 rfl rfl ?_
    obtain ⟨g4, h⟩ := gd_s h
    refine run_iald' is_295 ln_295 g4 rfl dX12_isBehind_43 ?_
    refine run_aload_n 0 dX12_isBehind_44 rfl rfl ?_
    refine run_getr fl_X12_86 is_269 (by decide) rfl ce_269_45 dX12_isBehind_45 ?_
    refine run_iload_n 2 dX12_isBehind_48 rfl rfl ?_
    obtain ⟨g5, h⟩ := gd_s h
    refine run_iald' is_295 ln_295 g5 rfl dX12_isBehind_49 ?_
    refine run_icmp_le 57 dX12_isBehind_50 (by decide) (fun c6 => ?_) (fun c6 => ?_)
    · rw [if_pos c6] at h
      refine run_iconst (v := 0) dX12_isBehind_57 rfl ?_
      exact run_bret (b := false) dX12_isBehind_58 ⟨_, rfl, Option.some.inj h⟩
    · rw [if_neg c6] at h
      refine run_iconst (v := 1) dX12_isBehind_53 rfl ?_
      refine run_goto 58 dX12_isBehind_54 (by decide) ?_
      exact run_bret (b := true) dX12_isBehind_58 ⟨_, rfl, Option.some.inj h⟩
  · rw [if_neg c3] at h
    refine run_aload_n 0 dX12_isBehind_15 rfl rfl ?_
    refine run_getr fl_X12_95 is_269 (by decide) rfl ce_269_48 dX12_isBehind_16 ?_
    refine run_iload_n 1 dX12_isBehind_19 rfl rfl ?_
    obtain ⟨g7, h⟩ := gd_s h
    refine run_iald' is_298 ln_298 g7 rfl dX12_isBehind_20 ?_
    refine run_aload_n 0 dX12_isBehind_21 rfl rfl ?_
    refine run_getr fl_X12_95 is_269 (by decide) rfl ce_269_48 dX12_isBehind_22 ?_
    refine run_iload_n 2 dX12_isBehind_25 rfl rfl ?_
    obtain ⟨g8, h⟩ := gd_s h
    refine run_iald' is_298 ln_298 g8 rfl dX12_isBehind_26 ?_
    refine run_icmp_le 34 dX12_isBehind_27 (by decide) (fun c9 => ?_) (fun c9 => ?_)
    · rw [if_pos c9] at h
      refine run_iconst (v := 0) dX12_isBehind_34 rfl ?_
      refine run_goto 58 dX12_isBehind_35 (by decide) ?_
      exact run_bret (b := false) dX12_isBehind_58 ⟨_, rfl, Option.some.inj h⟩
    · rw [if_neg c9] at h
      refine run_iconst (v := 1) dX12_isBehind_30 rfl ?_
      refine run_goto 58 dX12_isBehind_31 (by decide) ?_
      exact run_bret (b := true) dX12_isBehind_58 ⟨_, rfl, Option.some.inj h⟩
