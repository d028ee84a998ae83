/-! ===== bits ===== -/
theorem sh_ok : ∀ k, k < 32 → ((nI k &&& 31).toBitVec.smod 32).toNat = k := by decide +kernel
theorem nI_or (a b : Nat) : nI a ||| nI b = nI (a ||| b) := by
  apply Int32.toBitVec_inj.mp
  apply BitVec.eq_of_toNat_eq
  show (BitVec.ofNat 32 a ||| BitVec.ofNat 32 b).toNat = (BitVec.ofNat 32 (a ||| b)).toNat
  rw [BitVec.toNat_or, BitVec.toNat_ofNat, BitVec.toNat_ofNat, BitVec.toNat_ofNat, Nat.or_mod_two_pow]
theorem nI_and (a b : Nat) : nI a &&& nI b = nI (a &&& b) := by
  apply Int32.toBitVec_inj.mp
  apply BitVec.eq_of_toNat_eq
  show (BitVec.ofNat 32 a &&& BitVec.ofNat 32 b).toNat = (BitVec.ofNat 32 (a &&& b)).toNat
  rw [BitVec.toNat_and, BitVec.toNat_ofNat, BitVec.toNat_ofNat, BitVec.toNat_ofNat, Nat.and_mod_two_pow]
theorem sh1 {k : Nat} (hk : k < 31) : (1 : Int32) <<< (nI k &&& 31) = nI (2 ^ k) := by
  have h : 1 * 2 ^ k < 2 ^ 32 := by
    rw [Nat.one_mul]
    exact Nat.pow_lt_pow_right (by decide) (by omega)
  have := pk_shlN (n := 1) (nI k &&& 31) k (sh_ok k (by omega)) h
  rw [Nat.one_mul] at this
  exact this
theorem bit_nI {x k : Nat} (hx : x < 2 ^ 31) (hk : k < 32) : (nI x >>> (nI k &&& 31)) &&& 1 = nI (x / 2 ^ k % 2) := by
  rw [pk_shrN hx _ k (sh_ok k hk)]
  exact pk_andN (n := x / 2 ^ k) (Nat.lt_of_le_of_lt (Nat.div_le_self _ _) (by omega)) (m := 1) 1 (by decide)
theorem bit_t {x k : Nat} : x / 2 ^ k % 2 = 1 ↔ x.testBit k = true := by
  rw [Nat.testBit_eq_decide_div_mod_eq]
  simp
theorem f_hasBit {x k : Nat} (hx : x < 2 ^ 31) (hk : k < 32) (σ : Mem) : fX11_hasBit (nI x) (nI k) σ = some (x.testBit k, σ) := by
  unfold fX11_hasBit
  rw [bit_nI hx hk]
  by_cases h : x.testBit k = true
  · rw [bit_t.mpr h, if_neg (by decide), h]
  · have h2 : x / 2 ^ k % 2 = 0 := by
      exact (Nat.mod_two_eq_zero_or_one _).resolve_right (fun z => h (bit_t.mp z))
    rw [h2, if_pos (by decide), Bool.eq_false_iff.mpr h]
theorem f_has {x k : Nat} (hx : x < 2 ^ 31) (hk : k < 32) (σ : Mem) : fX12_has (nI x) (nI k) σ = some (x.testBit k, σ) := by
  unfold fX12_has
  rw [bit_nI hx hk]
  by_cases h : x.testBit k = true
  · rw [bit_t.mpr h, if_pos (by decide), h]
  · have h2 : x / 2 ^ k % 2 = 0 := by
      exact (Nat.mod_two_eq_zero_or_one _).resolve_right (fun z => h (bit_t.mp z))
    rw [h2, if_neg (by decide), Bool.eq_false_iff.mpr h]
theorem f_inTen (x l : Int32) (σ : Mem) : fX11_inTen x l σ = some (decide (¬ x < l ∧ ¬ l + 10 ≤ x), σ) := by
  unfold fX11_inTen
  by_cases h1 : x < l
  · rw [if_pos h1]; simp [h1]
  · rw [if_neg h1]
    by_cases h2 : l + 10 ≤ x
    · rw [if_pos h2]; simp [h2]
    · rw [if_neg h2]; simp [h1, h2]
theorem mod_up {th k : Nat} : th % 2 ^ (k + 1) = if th.testBit k = true then th % 2 ^ k ||| 2 ^ k else th % 2 ^ k := by
  rw [Nat.mod_pow_succ]
  by_cases h : th.testBit k = true
  · have h3 := Nat.two_pow_add_eq_or_of_lt (b := th % 2 ^ k) (i := k) (Nat.mod_lt _ (Nat.two_pow_pos k)) 1
    rw [Nat.mul_one] at h3
    rw [if_pos h, bit_t.mpr h, Nat.mul_one, Nat.or_comm, ← h3, Nat.add_comm]
  · have h2 : th / 2 ^ k % 2 = 0 := by
      exact (Nat.mod_two_eq_zero_or_one _).resolve_right (fun z => h (bit_t.mp z))
    rw [if_neg h, h2, Nat.mul_zero, Nat.add_zero]
/-- the class's set of keys, from its values -/
theorem kt_loop {n0 th : Nat} {σ : Mem} (hv : ∀ k, k < 10 → (σ n0 k = -1 ↔ ¬ th.testBit k = true)) : ∀ (m f j : Nat), j + m = 10 → m < f → lX11_keysThere_4 n0 f (nI (th % 2 ^ j)) (nI j) σ = some (nI (th % 2 ^ 10), σ) := by
  intro m
  induction m with
  | zero =>
    intro f j hj hf
    obtain ⟨g, rfl⟩ : ∃ g, f = g + 1 := ⟨f - 1, by omega⟩
    have e : j = 10 := by omega
    subst e
    rw [lX11_keysThere_4, if_pos (by decide)]
  | succ m ih =>
    intro f j hj hf
    obtain ⟨g, rfl⟩ : ∃ g, f = g + 1 := ⟨f - 1, by omega⟩
    have hj10 : j < 10 := by omega
    have h10 : ¬ (10 : Int32) ≤ nI j := nI_ge (a := j) (b := 10) hj10 (by decide)
    rw [lX11_keysThere_4, if_neg h10, inb_nI hj10 (by decide), gdT, cl_nI (by omega)]
    have hi := ih g (j + 1) (by omega) (by omega)
    by_cases h : th.testBit j = true
    · rw [if_neg (fun z => (hv j hj10).mp z h), bq, sh1 (by omega), nI_or, nI_1]
      rw [mod_up, if_pos h] at hi
      exact hi
    · rw [if_pos ((hv j hj10).mpr h), bq, nI_1]
      rw [mod_up, if_neg h] at hi
      exact hi
theorem f_keysThere {n0 th : Nat} {σ : Mem} (ht : th < 1024) (hv : ∀ k, k < 10 → (σ n0 k = -1 ↔ ¬ th.testBit k = true)) : fX11_keysThere n0 σ = some (nI th, σ) := by
  unfold fX11_keysThere
  have h := kt_loop hv 10 FU 0 (by omega) (by decide)
  rw [Nat.pow_zero, Nat.mod_one, show th % 2 ^ 10 = th from Nat.mod_eq_of_lt ht] at h
  have h2 : lX11_keysThere_4 n0 FU 0 0 σ = some (nI th, σ) := h
  rw [h2, bq]
theorem nI_m1 {v : Nat} (hv : v < 2 ^ 31) : nI v ≠ -1 := fun e => absurd (show nI v < 0 by rw [e]; decide) (nI_pos hv)
theorem SRf.key {p v r : Nat → Int32} (h : SRf p v r) : ∃ th : Nat, th < 1024 ∧ r 2 = nI th ∧ ∀ k, k < 10 → (v k = -1 ↔ ¬ th.testBit k = true) := by
  obtain ⟨sp, w, th, h1, h2, h3, h4, h5, h6, h7, h8, h9⟩ := h
  refine ⟨th, h3, h8, fun k hk => ?_⟩
  have h := h9 k hk
  by_cases hb : th.testBit k = true
  · rw [if_pos hb] at h
    obtain ⟨x, hx, e1, e2⟩ := h
    rw [e1]
    exact ⟨fun e => absurd e (nI_m1 (by omega)), fun z => absurd hb z⟩
  · rw [if_neg hb] at h
    exact ⟨fun _ => hb, fun _ => h.1⟩
