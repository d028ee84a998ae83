/-! ===== text: rows of the reference ===== -/
theorem m_full {b : Mem} {f : Nat × Nat} {S cap x : Nat} (h0 : b 279 0 = nI S) (hS : S < 1000) (hc : cap < 1000) (hF : FS b f.1 f.2) (hx : x < 1000) (hlt : f.1 ≠ 0 → f.2 < x) : ∃ b', fX12_full 0 (nI cap) (nI x) b = some b' ∧ FS b' (af (!decide (S < cap)) 3 x f).1 (af (!decide (S < cap)) 3 x f).2 ∧ frm jF b b' := by
  unfold fX12_full
  rw [show inb 0 134 = true from rfl, gdT, show Int32.toNatClampNeg 0 = 0 from rfl, h0]
  by_cases z : S < cap
  · rw [if_pos (by rw [lt_nn (by omega) (by omega)]; exact z), decide_eq_true z]
    refine ⟨b, rfl, ?_, frm.rf⟩
    unfold af
    rw [if_neg (fun q => absurd q.1 (by decide))]
    exact hF
  · obtain ⟨b', r1, r2, r3⟩ := m_add (k := 3) hF (by omega) hx hlt
    have r1' : fX12_addsFault 3 (nI x) b = some b' := r1
    rw [if_neg (by rw [lt_nn (by omega) (by omega)]; exact z), r1', bq, decide_eq_false z]
    exact ⟨b', rfl, r2, r3⟩
theorem f_lesser {x y : Nat} (hx : x < 1000) (hy : y < 1000) (σ : Mem) : fX12_lesser (nI x) (nI y) σ = some (nI (min x y), σ) := by
  unfold fX12_lesser
  by_cases z : y ≤ x
  · rw [if_pos (by rw [le_nn (by omega) (by omega)]; exact z), Nat.min_eq_right z]
  · rw [if_neg (by rw [le_nn (by omega) (by omega)]; exact z), Nat.min_eq_left (by omega)]
theorem m_keepRow {b : Mem} {k cap S : Nat} (hk : k ≤ 3) (hcap : cap ≤ 100) (hkc : 1 + k * cap ≤ 134) (h0 : b 279 0 = nI S) (hS : S ≤ cap) : ∃ b', fX12_keepRow (nI k) (nI cap) b = some b' ∧ b' 279 0 = nI (min cap (S + 1)) ∧ (S < cap → ∀ t, t < k → b' 279 (1 + k * S + t) = b 280 t) ∧ (∀ j, j ≠ 0 → (S < cap → ¬ (1 + k * S ≤ j ∧ j < 1 + k * S + k)) → b' 279 j = b 279 j) ∧ ∀ m, m ≠ 279 → b' m = b m := by
  unfold fX12_keepRow
  rw [h0]
  have lp : ∃ c, lX12_keepRow_10 (nI k) (nI cap) (nI S) FU 0 b = some c ∧ (S < cap → ∀ t, t < k → c 279 (1 + k * S + t) = b 280 t) ∧ (∀ j, (S < cap → ¬ (1 + k * S ≤ j ∧ j < 1 + k * S + k)) → c 279 j = b 279 j) ∧ ∀ m, m ≠ 279 → c m = b m := by
    by_cases z : S < cap
    · have hm : k * S + k ≤ k * cap := by
        have := Nat.mul_le_mul_left k (show S + 1 ≤ cap by omega)
        rw [Nat.mul_add, Nat.mul_one] at this
        exact this
      refine loop_k (fun f j (q : Mem) => lX12_keepRow_10 (nI k) (nI cap) (nI S) f (nI j) q) k (fun i c => (∀ t, t < i → c 279 (1 + k * S + t) = b 280 t) ∧ (∀ j, ¬ (1 + k * S ≤ j ∧ j < 1 + k * S + i) → c 279 j = b 279 j) ∧ ∀ m, m ≠ 279 → c m = b m) (fun c => (S < cap → ∀ t, t < k → c 279 (1 + k * S + t) = b 280 t) ∧ (∀ j, (S < cap → ¬ (1 + k * S ≤ j ∧ j < 1 + k * S + k)) → c 279 j = b 279 j) ∧ ∀ m, m ≠ 279 → c m = b m) (Nat.zero_le _) (by omega) (s := b) ⟨fun t ht => absurd ht (by omega), fun _ _ => rfl, fun _ _ => rfl⟩ ?_ ?_ ?_
      · intro c e1 e2; exact ⟨c, e1, e2⟩
      · rintro f c ⟨g1, g2, g3⟩
        refine ⟨c, ?_, fun _ => g1, fun j hj => g2 j (hj z), g3⟩
        show lX12_keepRow_10 _ _ _ _ _ _ = _
        rw [lX12_keepRow_10, if_pos (by rw [le_nn (by omega) (by omega)]; omega)]
      · rintro f i c hi ⟨g1, g2, g3⟩
        refine ⟨st2 c 279 (1 + k * S + i) (c 280 i), ?_, fun t ht => ?_, fun j hj => ?_, fun m hm => by rw [st2_c _ _ hm]; exact g3 m hm⟩
        · show lX12_keepRow_10 _ _ _ _ _ _ = lX12_keepRow_10 _ _ _ _ _ _
          rw [lX12_keepRow_10, if_neg (by rw [le_nn (by omega) (by omega)]; omega), if_neg (by rw [le_nn (by omega) (by omega)]; omega), pk_mul, show (1 : Int32) = nI 1 from rfl, nI_add, nI_add, nI_add, inb_T (show i < 3 by omega) (by omega), gdT, inb_T (show 1 + k * S + i < 134 by omega) (by omega), gdT, nI_ck (by omega), nI_ck (by omega)]
        · by_cases e : t = i
          · rw [e, st2_eq, g3 280 (by omega)]
          · rw [st2_o _ _ (by omega)]; exact g1 t (by omega)
        · rw [st2_o _ _ (by omega)]; exact g2 j (by omega)
    · refine ⟨b, ?_, fun q => absurd q z, fun _ _ => rfl, fun _ _ => rfl⟩
      show lX12_keepRow_10 _ _ _ (4999 + 1) _ _ = _
      rw [lX12_keepRow_10]
      by_cases e : nI k ≤ 0
      · rw [if_pos e]
      · rw [if_neg e, if_pos (by rw [le_nn (by omega) (by omega)]; omega)]
  obtain ⟨c, c1, c2, c3, c4⟩ := lp
  rw [c1, bq, nI_1, f_lesser (by omega) (by omega), bq]
  exact ⟨_, rfl, st2_eq _ _ _ _, fun q t ht => by rw [st2_o _ _ (by omega)]; exact c2 q t ht, fun j hj hj2 => by rw [st2_o _ _ (by omega)]; exact c3 j hj2, fun m hm => by rw [st2_c _ _ hm]; exact c4 m hm⟩
