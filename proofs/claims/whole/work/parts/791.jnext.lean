/-! ===== text: the relation after a line without a fault ===== -/
theorem af_z {c : Bool} {k x : Nat} {f : Nat × Nat} (hk : k ≠ 0) (hf : f.1 = 0 → f = (0, 0)) (h : (af c k x f).1 = 0) : af c k x f = (0, 0) := by
  unfold af at h ⊢
  by_cases z : c = true ∧ f.1 = 0
  · rw [if_pos z] at h; exact absurd h hk
  · rw [if_neg z] at h ⊢; exact hf h
theorem lft_z {T : Nat → Nat} {n i w : Nat} {tm : Bool} (h : (lft T n i w tm (0, 0)).1 = 0) : lft T n i w tm (0, 0) = (0, 0) := by
  have h1 : (lf1 T n i w tm (0, 0)).1 = 0 → lf1 T n i w tm (0, 0) = (0, 0) := fun q => by
    unfold lf1 at q ⊢
    by_cases z : 1 ≤ nwd w
    · rw [if_pos z] at q ⊢; exact af_z (by omega) (fun q => af_z (by omega) (fun _ => rfl) q) q
    · rw [if_neg z] at q ⊢; exact af_z (by omega) (fun _ => rfl) q
  unfold lft at h ⊢
  by_cases z : 2 ≤ nwd w
  · rw [if_pos z] at h ⊢; exact af_z (by omega) h1 h
  · rw [if_neg z] at h ⊢; exact h1 h
theorem JC_next {T : Nat → Nat} {n i i' s w t u S tt ll t' u' S' : Nat} {a2 b b2 : Mem} (hs : s < 4) (hi : i + 2 ≤ i') (hC : CN s b t u S) (hE : EF T n i s w t u S b b2) (j3 : tt ≤ 7) (j4 : ll ≤ i) (j5 : s = 1 → tt = t ∧ t = u ∧ ll = S ∧ S ≤ 6 ∧ ∀ v, u ≤ v → v < 7 → b 279 (1 + 19 * v) = nI 0) (j6 : s = 2 → ll = S) (j7 : s = 3 → ll = S) (htm : tmC s w tt ll = false) (s3 : a2 143 11 = nI (ttC s w tt)) (s4 : a2 143 12 = nI (llC s w ll))
    (n2 : s = 1 → w = 9 → t < 7 → b 279 (1 + 19 * t) = nI 0 → t' = t + 1 ∧ u' = t + 1 ∧ S' = 0) (n3 : s = 1 → w ≠ 9 → t' = t ∧ u' = u ∧ S' = min 6 (S + 1)) (n4 : s = 2 → S' = min 40 (S + 1)) (n5 : s = 3 → S' = min 8 (S + 1)) : JC s a2 b2 i' t' u' S' := by
  unfold tmC at htm
  refine ⟨ttC s w tt, llC s w ll, s3, s4, ?_, ?_, fun es => ?_, fun es => ?_, fun es => ?_⟩
  · unfold ttC
    by_cases c : s = 1 ∧ w = 9
    · rw [if_pos c]
      rw [if_pos c.1, if_pos c.2] at htm
      have := of_decide_eq_false htm
      omega
    · rw [if_neg c]; exact j3
  · unfold llC; split <;> omega
  · obtain ⟨e1, e2, e3, e4, e5⟩ := j5 es
    rw [if_pos es] at htm
    by_cases z : w = 9
    · rw [if_pos z] at htm
      have h7 := of_decide_eq_false htm
      obtain ⟨y1, y2, y3⟩ := n2 es z (by omega) (e5 t (by omega) (by omega))
      have hr := (hE.2.1 es z).2.2
      rw [show ttC s w tt = tt + 1 from if_pos ⟨es, z⟩, show llC s w ll = 0 from if_pos ⟨es, z⟩]
      exact ⟨by omega, by omega, by omega, by omega, fun v v1 v2 => by rw [hr _ (by omega)]; exact e5 v (by omega) v2⟩
    · rw [if_neg z] at htm
      have h7 := of_decide_eq_false htm
      obtain ⟨y1, y2, y3⟩ := n3 es z
      have hu : 1 ≤ u ∧ u ≤ 7 := by omega
      have hr := ((hE.2.2.1 es z).2.2 hu.1 hu.2).2.2
      rw [show ttC s w tt = tt from if_neg (fun q => z q.2), show llC s w ll = ll + 1 from if_neg (fun q => z q.2)]
      exact ⟨by omega, by omega, by omega, by omega, fun v v1 v2 => by rw [hr _ (by omega) (fun _ => by omega)]; exact e5 v (by omega) v2⟩
  · rw [if_neg (by omega), if_pos es] at htm
    have h7 := of_decide_eq_false htm
    have y := n4 es
    have := j6 es
    rw [show llC s w ll = ll + 1 from if_neg (fun q => by omega)]
    omega
  · rw [if_neg (by omega), if_neg (by omega), if_pos es] at htm
    have h7 := of_decide_eq_false htm
    have y := n5 es
    have := j7 es
    rw [show llC s w ll = ll + 1 from if_neg (fun q => by omega)]
    omega
