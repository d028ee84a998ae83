/-! ===== ints by Nats: nI n, vI c (c less one), wI d (d less two) ===== -/
def vI (c : Nat) : Int32 := if c = 0 then -1 else nI (c - 1)
def wI (d : Nat) : Int32 := if d = 0 then -2 else vI (d - 1)
theorem n_ti {n : Nat} (h : n < 2147483648) : (nI n).toInt = (n : Int) := nI_toInt (by omega)
theorem v_ti {c : Nat} (h : c < 2147483648) : (vI c).toInt = (c : Int) - 1 := by
  unfold vI
  by_cases h0 : c = 0
  · rw [if_pos h0, h0]; rfl
  · rw [if_neg h0, n_ti (by omega)]; omega
theorem w_ti {d : Nat} (h : d < 2147483648) : (wI d).toInt = (d : Int) - 2 := by
  unfold wI
  by_cases h0 : d = 0
  · rw [if_pos h0, h0]; rfl
  · rw [if_neg h0, v_ti (by omega)]; omega
theorem v0 : (-1 : Int32) = vI 0 := rfl
theorem w0 : (-2 : Int32) = wI 0 := rfl
theorem vI_s (c : Nat) : vI (c + 1) = nI c := rfl
theorem vI_p {c : Nat} (h : 0 < c) : vI c = nI (c - 1) := if_neg (by omega)
theorem wI_s (d : Nat) : wI (d + 1) = vI d := rfl
theorem wI_p {d : Nat} (h : 0 < d) : wI d = vI (d - 1) := if_neg (by omega)
theorem eq_nn {a b : Nat} (ha : a < 2147483648) (hb : b < 2147483648) : nI a = nI b ↔ a = b := by rw [← Int32.toInt_inj, n_ti ha, n_ti hb]; omega
theorem le_nn {a b : Nat} (ha : a < 2147483648) (hb : b < 2147483648) : nI a ≤ nI b ↔ a ≤ b := by rw [Int32.le_iff_toInt_le, n_ti ha, n_ti hb]; omega
theorem lt_nn {a b : Nat} (ha : a < 2147483648) (hb : b < 2147483648) : nI a < nI b ↔ a < b := by rw [Int32.lt_iff_toInt_lt, n_ti ha, n_ti hb]; omega
theorem eq_nv {a b : Nat} (ha : a < 2147483648) (hb : b < 2147483648) : nI a = vI b ↔ a + 1 = b := by rw [← Int32.toInt_inj, n_ti ha, v_ti hb]; omega
theorem le_nv {a b : Nat} (ha : a < 2147483648) (hb : b < 2147483648) : nI a ≤ vI b ↔ a + 1 ≤ b := by rw [Int32.le_iff_toInt_le, n_ti ha, v_ti hb]; omega
theorem lt_nv {a b : Nat} (ha : a < 2147483648) (hb : b < 2147483648) : nI a < vI b ↔ a + 1 < b := by rw [Int32.lt_iff_toInt_lt, n_ti ha, v_ti hb]; omega
theorem eq_nw {a b : Nat} (ha : a < 2147483648) (hb : b < 2147483648) : nI a = wI b ↔ a + 2 = b := by rw [← Int32.toInt_inj, n_ti ha, w_ti hb]; omega
theorem le_nw {a b : Nat} (ha : a < 2147483648) (hb : b < 2147483648) : nI a ≤ wI b ↔ a + 2 ≤ b := by rw [Int32.le_iff_toInt_le, n_ti ha, w_ti hb]; omega
theorem lt_nw {a b : Nat} (ha : a < 2147483648) (hb : b < 2147483648) : nI a < wI b ↔ a + 2 < b := by rw [Int32.lt_iff_toInt_lt, n_ti ha, w_ti hb]; omega
theorem eq_vn {a b : Nat} (ha : a < 2147483648) (hb : b < 2147483648) : vI a = nI b ↔ a = b + 1 := by rw [← Int32.toInt_inj, v_ti ha, n_ti hb]; omega
theorem le_vn {a b : Nat} (ha : a < 2147483648) (hb : b < 2147483648) : vI a ≤ nI b ↔ a ≤ b + 1 := by rw [Int32.le_iff_toInt_le, v_ti ha, n_ti hb]; omega
theorem lt_vn {a b : Nat} (ha : a < 2147483648) (hb : b < 2147483648) : vI a < nI b ↔ a < b + 1 := by rw [Int32.lt_iff_toInt_lt, v_ti ha, n_ti hb]; omega
theorem eq_vv {a b : Nat} (ha : a < 2147483648) (hb : b < 2147483648) : vI a = vI b ↔ a = b := by rw [← Int32.toInt_inj, v_ti ha, v_ti hb]; omega
theorem le_vv {a b : Nat} (ha : a < 2147483648) (hb : b < 2147483648) : vI a ≤ vI b ↔ a ≤ b := by rw [Int32.le_iff_toInt_le, v_ti ha, v_ti hb]; omega
theorem lt_vv {a b : Nat} (ha : a < 2147483648) (hb : b < 2147483648) : vI a < vI b ↔ a < b := by rw [Int32.lt_iff_toInt_lt, v_ti ha, v_ti hb]; omega
theorem eq_vw {a b : Nat} (ha : a < 2147483648) (hb : b < 2147483648) : vI a = wI b ↔ a + 1 = b := by rw [← Int32.toInt_inj, v_ti ha, w_ti hb]; omega
theorem le_vw {a b : Nat} (ha : a < 2147483648) (hb : b < 2147483648) : vI a ≤ wI b ↔ a + 1 ≤ b := by rw [Int32.le_iff_toInt_le, v_ti ha, w_ti hb]; omega
theorem lt_vw {a b : Nat} (ha : a < 2147483648) (hb : b < 2147483648) : vI a < wI b ↔ a + 1 < b := by rw [Int32.lt_iff_toInt_lt, v_ti ha, w_ti hb]; omega
theorem eq_wn {a b : Nat} (ha : a < 2147483648) (hb : b < 2147483648) : wI a = nI b ↔ a = b + 2 := by rw [← Int32.toInt_inj, w_ti ha, n_ti hb]; omega
theorem le_wn {a b : Nat} (ha : a < 2147483648) (hb : b < 2147483648) : wI a ≤ nI b ↔ a ≤ b + 2 := by rw [Int32.le_iff_toInt_le, w_ti ha, n_ti hb]; omega
theorem lt_wn {a b : Nat} (ha : a < 2147483648) (hb : b < 2147483648) : wI a < nI b ↔ a < b + 2 := by rw [Int32.lt_iff_toInt_lt, w_ti ha, n_ti hb]; omega
theorem eq_wv {a b : Nat} (ha : a < 2147483648) (hb : b < 2147483648) : wI a = vI b ↔ a = b + 1 := by rw [← Int32.toInt_inj, w_ti ha, v_ti hb]; omega
theorem le_wv {a b : Nat} (ha : a < 2147483648) (hb : b < 2147483648) : wI a ≤ vI b ↔ a ≤ b + 1 := by rw [Int32.le_iff_toInt_le, w_ti ha, v_ti hb]; omega
theorem lt_wv {a b : Nat} (ha : a < 2147483648) (hb : b < 2147483648) : wI a < vI b ↔ a < b + 1 := by rw [Int32.lt_iff_toInt_lt, w_ti ha, v_ti hb]; omega
theorem eq_ww {a b : Nat} (ha : a < 2147483648) (hb : b < 2147483648) : wI a = wI b ↔ a = b := by rw [← Int32.toInt_inj, w_ti ha, w_ti hb]; omega
theorem le_ww {a b : Nat} (ha : a < 2147483648) (hb : b < 2147483648) : wI a ≤ wI b ↔ a ≤ b := by rw [Int32.le_iff_toInt_le, w_ti ha, w_ti hb]; omega
theorem lt_ww {a b : Nat} (ha : a < 2147483648) (hb : b < 2147483648) : wI a < wI b ↔ a < b := by rw [Int32.lt_iff_toInt_lt, w_ti ha, w_ti hb]; omega
theorem li0 : (0 : Int32) = nI 0 := rfl
theorem li1 : (1 : Int32) = nI 1 := rfl
theorem li2 : (2 : Int32) = nI 2 := rfl
theorem li3 : (3 : Int32) = nI 3 := rfl
theorem li4 : (4 : Int32) = nI 4 := rfl
theorem li5 : (5 : Int32) = nI 5 := rfl
theorem li6 : (6 : Int32) = nI 6 := rfl
theorem li7 : (7 : Int32) = nI 7 := rfl
theorem li8 : (8 : Int32) = nI 8 := rfl
theorem li9 : (9 : Int32) = nI 9 := rfl
theorem li10 : (10 : Int32) = nI 10 := rfl
theorem li11 : (11 : Int32) = nI 11 := rfl
theorem li12 : (12 : Int32) = nI 12 := rfl
theorem li13 : (13 : Int32) = nI 13 := rfl
theorem li14 : (14 : Int32) = nI 14 := rfl
theorem li15 : (15 : Int32) = nI 15 := rfl
theorem li16 : (16 : Int32) = nI 16 := rfl
theorem li17 : (17 : Int32) = nI 17 := rfl
theorem li18 : (18 : Int32) = nI 18 := rfl
theorem li19 : (19 : Int32) = nI 19 := rfl
theorem li20 : (20 : Int32) = nI 20 := rfl
theorem li21 : (21 : Int32) = nI 21 := rfl
theorem li22 : (22 : Int32) = nI 22 := rfl
theorem li23 : (23 : Int32) = nI 23 := rfl
theorem li24 : (24 : Int32) = nI 24 := rfl
theorem li25 : (25 : Int32) = nI 25 := rfl
theorem li26 : (26 : Int32) = nI 26 := rfl
theorem li27 : (27 : Int32) = nI 27 := rfl
theorem li28 : (28 : Int32) = nI 28 := rfl
theorem li29 : (29 : Int32) = nI 29 := rfl
theorem li30 : (30 : Int32) = nI 30 := rfl
theorem li31 : (31 : Int32) = nI 31 := rfl
theorem li32 : (32 : Int32) = nI 32 := rfl
theorem li39 : (39 : Int32) = nI 39 := rfl
theorem li40 : (40 : Int32) = nI 40 := rfl
theorem li42 : (42 : Int32) = nI 42 := rfl
theorem li48 : (48 : Int32) = nI 48 := rfl
theorem li49 : (49 : Int32) = nI 49 := rfl
theorem li50 : (50 : Int32) = nI 50 := rfl
theorem li57 : (57 : Int32) = nI 57 := rfl
theorem li59 : (59 : Int32) = nI 59 := rfl
theorem li60 : (60 : Int32) = nI 60 := rfl
theorem li61 : (61 : Int32) = nI 61 := rfl
theorem li62 : (62 : Int32) = nI 62 := rfl
theorem li64 : (64 : Int32) = nI 64 := rfl
theorem li97 : (97 : Int32) = nI 97 := rfl
theorem li99 : (99 : Int32) = nI 99 := rfl
theorem li100 : (100 : Int32) = nI 100 := rfl
theorem li101 : (101 : Int32) = nI 101 := rfl
theorem li104 : (104 : Int32) = nI 104 := rfl
theorem li109 : (109 : Int32) = nI 109 := rfl
theorem li110 : (110 : Int32) = nI 110 := rfl
theorem li119 : (119 : Int32) = nI 119 := rfl
theorem li121 : (121 : Int32) = nI 121 := rfl
theorem li122 : (122 : Int32) = nI 122 := rfl
theorem li134 : (134 : Int32) = nI 134 := rfl
theorem li136 : (136 : Int32) = nI 136 := rfl
theorem li255 : (255 : Int32) = nI 255 := rfl
theorem li600 : (600 : Int32) = nI 600 := rfl
theorem li640 : (640 : Int32) = nI 640 := rfl
theorem li968 : (968 : Int32) = nI 968 := rfl
theorem li1010 : (1010 : Int32) = nI 1010 := rfl
theorem li1072 : (1072 : Int32) = nI 1072 := rfl
theorem li2400 : (2400 : Int32) = nI 2400 := rfl
theorem li12345 : (12345 : Int32) = nI 12345 := rfl
theorem li1000000 : (1000000 : Int32) = nI 1000000 := rfl
theorem nI_sub {a b : Nat} (h : b ≤ a) : nI a - nI b = nI (a - b) := pk_sub h
theorem nI_sv {a : Nat} (h : a < 2147483648) : nI a - nI 1 = vI a := by
  by_cases h0 : a = 0
  · subst h0; rfl
  · rw [vI_p (by omega), pk_sub (by omega)]
theorem vI_1 {c : Nat} : vI c + nI 1 = nI c := by
  by_cases h0 : c = 0
  · subst h0; rfl
  · rw [vI_p (by omega), nI_add]; congr 1; omega
theorem nI_dv {a d : Nat} (ha : a < 2147483648) (h0 : 0 < d) (hd : d < 2147483648) : nI a / nI d = nI (a / d) := pk_div (by omega) h0 (by omega)
theorem nI_md {a d : Nat} (ha : a < 2147483648) (h0 : 0 < d) (hd : d < 2147483648) : nI a % nI d = nI (a % d) := by
  apply Int32.toInt_inj.mp
  rw [Int32.toInt_mod, n_ti ha, n_ti hd, n_ti (Nat.lt_of_le_of_lt (Nat.mod_le _ _) ha)]
  rw [Int.tmod_eq_emod_of_nonneg (by omega)]
  omega
theorem nI_ck {n : Nat} (h : n < 2147483648) : (nI n).toNatClampNeg = n := nI_clamp (by omega)
theorem rfN_n {n : Nat} (h : n < 2147483648) : rfN (nI n) = n := nI_clamp (by omega)
theorem inb_T {j N : Nat} (h : j < N) (hN : N < 2147483648) : inb (nI j) N = true := inb_nI h (by omega)
theorem inb_v {c N : Nat} (h : c < N + 1) (h0 : 0 < c) (hN : N < 2147483648) : inb (vI c) N = true := by rw [vI_p h0]; exact inb_T (by omega) hN
theorem mx_n {a b : Nat} (ha : a < 2147483648) (hb : b < 2147483648) : mx (nI a) (nI b) = nI (max a b) := by
  unfold mx
  by_cases h : a < b
  · rw [if_pos ((lt_nn ha hb).mpr h), Nat.max_eq_right (by omega)]
  · rw [if_neg (fun z => h ((lt_nn ha hb).mp z)), Nat.max_eq_left (by omega)]
theorem mn_n {a b : Nat} (ha : a < 2147483648) (hb : b < 2147483648) : mn (nI a) (nI b) = nI (min a b) := by
  unfold mn
  by_cases h : b < a
  · rw [if_pos ((lt_nn hb ha).mpr h), Nat.min_eq_right (by omega)]
  · rw [if_neg (fun z => h ((lt_nn hb ha).mp z)), Nat.min_eq_left (by omega)]
theorem mx_v {c : Nat} (hc : c < 2147483648) : mx (vI c) (nI 0) = nI (c - 1) := by
  unfold mx
  by_cases h : c = 0
  · subst h; rfl
  · rw [vI_p (by omega), if_neg (by rw [lt_nn (by omega) (by omega)]; omega)]
theorem gd_ite {α : Type} (b : Bool) (x : Option α) (h : b = true) : gd b x = x := if_pos h
/-- any int: below nought, or a number -/
theorem i_cases (x : Int32) : (∃ m : Nat, m < 2147483648 ∧ x.toInt = -1 - (m : Int)) ∨ ∃ j : Nat, j < 2147483648 ∧ x = nI j := by
  by_cases h : x < 0
  · left
    have := Int32.lt_iff_toInt_lt.mp h
    have h0 : (0 : Int32).toInt = 0 := rfl
    rw [h0] at this
    have h1 := Int32.le_toInt x
    refine ⟨(-1 - x.toInt).toNat, by omega, by omega⟩
  · right
    obtain ⟨j, hj, e⟩ := nI_of h
    exact ⟨j, by omega, e⟩
theorem b2T : b2 true = nI 1 := rfl
theorem b2F : b2 false = nI 0 := rfl
theorem iteT {α : Type} {c : Prop} {h : Decidable c} (a b : α) (hc : c) : @ite α c h a b = a := if_pos hc
theorem iteF {α : Type} {c : Prop} {h : Decidable c} (a b : α) (hc : ¬ c) : @ite α c h a b = b := if_neg hc
theorem st2_k (σ : Mem) {n k a j : Nat} (v : Int32) (h : a = n ∧ j = k) : st2 σ n k v a j = v := by rw [st2_g, if_pos h]
theorem st2_o (σ : Mem) {n k a j : Nat} (v : Int32) (h : ¬ (a = n ∧ j = k)) : st2 σ n k v a j = σ a j := by rw [st2_g, if_neg h]
theorem st2_c (σ : Mem) {n k a : Nat} (v : Int32) (h : ¬ a = n) : st2 σ n k v a = σ a := st2_ne σ k v h
