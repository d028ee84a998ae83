/-! more rows -/
section RUNM
variable {G : GT} {own : String} {cc : ByteArray} {nL : Nat} {rt : Option FieldType} {F : FT} {pc d : Nat} {lv lv' : List (Nat × Value)} {st : List Value} {σ : Mem} {K : Option Value → Mem → Prop}
theorem run_copyi' {idx a b N0 N1 : Nat} {s0 d0 n : Int32} (s1 d1 n1 : Nat) (e1 : s0.toNatClampNeg = s1) (e2 : d0.toNatClampNeg = d1) (e3 : n.toNatClampNeg = n1) (hw : MC own idx) (ha : Is a 14) (hb : Is b 14) (hN0 : ln a = N0) (hN1 : ln b = N1) (h1 : ¬ s0 < 0) (h2 : ¬ d0 < 0) (h3 : ¬ n < 0) (h4 : s1 + n1 ≤ N0) (h5 : d1 + n1 ≤ N1) (hR : RF F d) (hst : (st.map fun v => v.category).sum ≤ 8) (hd : decode cc pc = .ok (.invokestatic idx, 3))
    (k : Run G own cc nL rt F (pc + 3) lv st (cp2 σ a b s1 d1 n1)) : Run G own cc nL rt F pc lv (.int n :: .int d0 :: .ref (gA G b) :: .int s0 :: .ref (gA G a) :: st) σ := by
  subst e1; subst e2; subst e3; exact run_copyi hw ha hb hN0 hN1 h1 h2 h3 h4 h5 hR hst hd k
theorem run_copyb' {idx a b N0 N1 : Nat} {s0 d0 n : Int32} (s1 d1 n1 : Nat) (e1 : s0.toNatClampNeg = s1) (e2 : d0.toNatClampNeg = d1) (e3 : n.toNatClampNeg = n1) (hw : MC own idx) (ha : Is a 13) (hb : Is b 13) (hN0 : ln a = N0) (hN1 : ln b = N1) (h1 : ¬ s0 < 0) (h2 : ¬ d0 < 0) (h3 : ¬ n < 0) (h4 : s1 + n1 ≤ N0) (h5 : d1 + n1 ≤ N1) (hfit : ∀ i, i < n1 → fits .byte (.int (σ a (s1 + i))) = true) (hR : RF F d) (hst : (st.map fun v => v.category).sum ≤ 8) (hd : decode cc pc = .ok (.invokestatic idx, 3))
    (k : Run G own cc nL rt F (pc + 3) lv st (cp2 σ a b s1 d1 n1)) : Run G own cc nL rt F pc lv (.int n :: .int d0 :: .ref (gA G b) :: .int s0 :: .ref (gA G a) :: st) σ := by
  subst e1; subst e2; subst e3; exact run_copyb hw ha hb hN0 hN1 h1 h2 h3 h4 h5 hfit hR hst hd k
end RUNM
