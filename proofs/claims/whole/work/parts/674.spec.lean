/-! ===== a run of deeds, as functions of numbers ===== -/
abbrev F2 : Type := Nat → Nat → Nat
def fnd (p : Nat → Bool) (i : Nat) : Nat → Nat
  | 0 => 0
  | n + 1 => if fnd p i n = 0 then (if p (i + n) = true then i + n + 1 else 0) else fnd p i n
theorem fnd_le (p : Nat → Bool) : ∀ n, fnd p 0 n ≤ n
  | 0 => Nat.le_refl _
  | n + 1 => by
    have := fnd_le p n
    unfold fnd
    split
    · split
      · omega
      · omega
    · omega
theorem fnd_no {p : Nat → Bool} : ∀ n, (∀ k, k < n → ¬ p k = true) → fnd p 0 n = 0
  | 0, _ => rfl
  | n + 1, h => by
    unfold fnd
    rw [if_pos (fnd_no n (fun k hk => h k (by omega))), Nat.zero_add, if_neg (h n (by omega))]
theorem fnd_yes {p : Nat → Bool} {m : Nat} (hm : p m = true) (h : ∀ k, k < m → ¬ p k = true) : ∀ n, m < n → fnd p 0 n = m + 1
  | 0, hn => absurd hn (by omega)
  | n + 1, hn => by
    unfold fnd
    by_cases e : m = n
    · subst e; rw [if_pos (fnd_no m h), Nat.zero_add, if_pos hm]
    · rw [fnd_yes hm h n (by omega), if_neg (by omega)]
theorem fnd_z {p : Nat → Bool} : ∀ n, fnd p 0 n = 0 → ∀ k, k < n → ¬ p k = true
  | 0, _, k, hk => absurd hk (by omega)
  | n + 1, h, k, hk => by
    unfold fnd at h
    by_cases e : fnd p 0 n = 0
    · rw [if_pos e, Nat.zero_add] at h
      by_cases ek : k = n
      · subst ek; intro z; rw [if_pos z] at h; omega
      · exact fnd_z n e k (by omega)
    · rw [if_neg e] at h; exact absurd h e
theorem fnd_p {p : Nat → Bool} {m : Nat} : ∀ n, fnd p 0 n = m + 1 → p m = true ∧ m < n
  | 0, h => absurd h (by unfold fnd; omega)
  | n + 1, h => by
    unfold fnd at h
    by_cases e : fnd p 0 n = 0
    · rw [if_pos e, Nat.zero_add] at h
      by_cases z : p n = true
      · rw [if_pos z] at h; have : n = m := by omega
        subst this; exact ⟨z, by omega⟩
      · rw [if_neg z] at h; omega
    · rw [if_neg e] at h
      have := fnd_p n h
      exact ⟨this.1, by omega⟩
def stl (G L : F2) : Nat := fnd (fun k => (L 0 6).testBit k && (decide (G 0 k = 0) || decide (G 1 k ≠ L 1 k))) 0 10
def pha (G L : F2) : Nat := fnd (fun n => (L 0 7).testBit n && decide (G 2 n ≠ L 2 n)) 0 10
def nxt (G L : F2) (e : Nat) : Nat := itr (fun k m => if (L 0 6 ||| L 0 8).testBit k = true then max m (G 1 k) else m) 0 10 (max (L 0 4) (100 * e)) + 1
def prM (M : F2) : F2 := up (up (up (up M 154 (M 146 12) 0) 155 (M 146 12) 0) 156 (M 146 12) 0) 157 (M 146 12) 0
def nxM (M : F2) : F2 := up M 146 12 (M 146 12 + 1)
def epM (M : F2) : F2 := up M 146 3 (M 146 3 + 1)
def rtM (w : Nat) (M : F2) : F2 := pt M (Wc w) (tkL 0 0 (gW M (Wc w)))
def spM (sp : Nat) (B : F2) (w : Nat) (M : F2) : F2 := pt M (Wc w) (dst sp (gG M) B (gW M (Wc w)))
def quM (w : Nat) (M : F2) : F2 := rtM w (up M 146 17 (M 146 17 + M (Wc w) 2))
def flS (w i : Nat) (M : F2) : F2 := if M (174 + 2 * i) 0 = w then up M (174 + 2 * i) 8 1 else M
def flM (w : Nat) (M : F2) : F2 := up (itr (flS w) 0 (M 146 11) M) (Wc w) 5 (M 146 3 - 1)
def bgM (w t : Nat) (M : F2) : F2 := pt M (Wc w) (tkL (t + 1) (M 146 3) (gW M (Wc w)))
def rfM (w how what by_ : Nat) (M : F2) : F2 := up (up (up (up M 154 (M 146 12) how) 155 (M 146 12) (what + 1)) 156 (M 146 12) by_) 146 17 (M 146 17 + M (Wc w) 2)
def brS (sp d x : Nat) (L : F2) (k : Nat) (q : Nat × F2) : Nat × F2 :=
  if (L 0 8).testBit k = true then
    (if (q.2 147 k = 0 ↔ L 3 k = 0) then (q.1, up (up (up q.2 147 k (L 3 k)) 148 k x) 150 k (d + 1))
     else (q.1 ||| 2 ^ (k / sp), up (up (up (up (up q.2 149 (k / sp) (q.2 149 (k / sp) + 1)) 151 (k / sp) (d + 1)) 147 k (L 3 k)) 148 k x) 150 k (d + 1)))
  else q
def lnM (w x ch : Nat) (L : F2) (M : F2) : F2 := up (upr (up (up (up (up (up (up (up (up (up (up M (174 + 2 * M 146 11) 0 w) (174 + 2 * M 146 11) 1 (L 0 0 - 1)) (174 + 2 * M 146 11) 2 (M 146 3)) (174 + 2 * M 146 11) 3 x) (174 + 2 * M 146 11) 4 (L 0 6)) (174 + 2 * M 146 11) 5 (L 0 7)) (174 + 2 * M 146 11) 6 (L 0 8)) (174 + 2 * M 146 11) 7 ch) (174 + 2 * M 146 11) 8 0) (174 + 2 * M 146 11) 9 0) (175 + 2 * M 146 11) 10 (L 3)) 146 11 (M 146 11 + 1)
/-- behind the verdict and the stamp -/
def mkA (w x : Nat) (M : F2) : F2 := up (up (up M 154 (M 146 12) 1) 157 (M 146 12) (x + 1)) (Wc w) 4 x
def mkM (sp w : Nat) (M : F2) : F2 :=
  let x := nxt (gG M) (gW M (Wc w)) (M 146 3)
  let q := itr (brS sp (M 146 12) x (gW M (Wc w))) 0 10 (0, mkA w x M)
  lnM w x q.1 (gW M (Wc w)) q.2
def cmM (sp w : Nat) (M : F2) : F2 :=
  rtM w (if stl (gG M) (gW M (Wc w)) = 0 then (if pha (gG M) (gW M (Wc w)) = 0 then mkM sp w M else rfM w 3 (pha (gG M) (gW M (Wc w)) - 1) (M 151 (pha (gG M) (gW M (Wc w)) - 1)) M)
    else rfM w 2 (stl (gG M) (gW M (Wc w)) - 1) (M 150 (stl (gG M) (gW M (Wc w)) - 1)) M)
/-- DURABLE, were a set flushed -/
def dur (f : Nat) (M : F2) : Nat := itr (fun w m => min m (if f.testBit w = true then M 146 3 - 1 else M (Wc w) 5)) 0 (M 146 2) 50
def srv (f d : Nat) (M : F2) (i : Nat) : Bool := decide (M (174 + 2 * i) 9 = 0) && (decide (M (174 + 2 * i) 8 ≠ 0) || f.testBit (M (174 + 2 * i) 0)) && decide (M (174 + 2 * i) 2 ≤ d)
def lst (M : F2) : Nat := sm (fun i => if M (174 + 2 * i) 9 = 0 ∧ srv 0 (dur 0 M) M i = false then 1 else 0) (M 146 11)
/-- a line done again: values, stamps -/
def rdS (M : F2) (i k : Nat) (q : F2) : F2 := if (M (174 + 2 * i) 6).testBit k = true ∧ q 1 k ≤ M (174 + 2 * i) 3 then up (up q 0 k (M (175 + 2 * i) k)) 1 k (M (174 + 2 * i) 3) else q
def rcL (f d w : Nat) (M : F2) (i : Nat) (q : F2) : F2 := if M (174 + 2 * i) 0 = w ∧ srv f d M i = true then itr (rdS M i) 0 10 q else q
def rcv (f : Nat) (c : Nat → Nat) (M : F2) : F2 := itr (fun w q => itr (rcL f (dur f M) w M) 0 (M 146 11) q) 0 (M 146 2) (G0 c)
def gnS (d i : Nat) (M : F2) : F2 := up M (174 + 2 * i) 9 (if srv 0 d M i = true then 0 else 1)
def rsS (d w : Nat) (M : F2) : F2 := pt (up M 146 17 (M 146 17 + M (Wc w) 2)) (Wc w) (rsL d (gW M (Wc w)))
def crM (c : Nat → Nat) (M : F2) : F2 :=
  let d := dur 0 M
  let M1 := up (up M 146 18 (M 146 18 + 1)) 146 19 (M 146 19 + lst M)
  let M2 := itr (gnS d) 0 (M 146 11) M1
  let q := rcv 0 c M2
  let M3 := upr (upr (upr M2 147 10 (q 0)) 148 10 (q 1)) 149 10 (fun _ => 0)
  up (itr (rsS d) 0 (M 146 2) M3) 146 3 (d + 1)
def opM (sp : Nat) (B : F2) (c : Nat → Nat) (kind w t : Nat) (M : F2) : F2 :=
  if kind = 0 then epM M else if kind = 1 then crM c M else if kind = 2 then spM sp B (w - 1) M else if kind = 3 then cmM sp (w - 1) M else if kind = 4 then quM (w - 1) M else if kind = 5 then flM (w - 1) M else bgM (w - 1) (t - 1) M
def doM (sp : Nat) (B : F2) (c : Nat → Nat) (kind w t : Nat) (M : F2) : F2 := nxM (opM sp B c kind w t (prM M))
def epOK (M : F2) : Bool := decide (M 146 3 < 50) && decide (fnd (fun w => decide (M (Wc w) 0 ≠ 0) && decide (M (Wc w) 1 < M 146 3)) 0 (M 146 2) = 0)
def can (B : F2) (kind w t : Nat) (M : F2) : Bool :=
  if kind = 0 then epOK M else if kind = 1 then true else
  if w = 0 ∨ M 146 2 < w then false else
  if kind = 2 then decide (M (Wc (w - 1)) 0 ≠ 0) && decide (M (Wc (w - 1)) 2 < B 1 (M (Wc (w - 1)) 0 - 1))
  else if kind = 3 then decide (M (Wc (w - 1)) 0 ≠ 0) && decide (B 1 (M (Wc (w - 1)) 0 - 1) ≤ M (Wc (w - 1)) 2)
  else if kind = 4 then decide (M (Wc (w - 1)) 0 ≠ 0) else if kind = 5 then true
  else decide (M (Wc (w - 1)) 0 = 0) && (decide (t ≠ 0) && decide (t ≤ B 0 0))
/-! what holds of every run -/
def wkO (sp nw : Nat) (B M : F2) (w : Nat) : Prop := okL (gW M (Wc w)) ∧ M (Wc w) 7 < 2 ^ (9 / sp + 1) ∧ M (Wc w) 4 ≤ 100 * M 146 3 + M 146 11 ∧ M (Wc w) 5 < M 146 3 ∧ (M (Wc w) 0 ≠ 0 → w < nw ∧ M (Wc w) 0 ≤ B 0 0 ∧ M (Wc w) 2 ≤ B 1 (M (Wc w) 0 - 1) ∧ M (Wc w) 1 ≤ M 146 3)
def lnO (nw : Nat) (B M : F2) (i : Nat) : Prop := M (174 + 2 * i) 0 < nw ∧ M (174 + 2 * i) 1 < B 0 0 ∧ M (174 + 2 * i) 2 ≤ 50 ∧ M (174 + 2 * i) 3 ≤ 5100 ∧ M (174 + 2 * i) 4 < 1024 ∧ M (174 + 2 * i) 5 < 1024 ∧ M (174 + 2 * i) 6 < 1024 ∧ M (174 + 2 * i) 7 < 1024 ∧ M (174 + 2 * i) 8 ≤ 1 ∧ M (174 + 2 * i) 9 ≤ 1 ∧ (∀ k, k < 10 → (M (174 + 2 * i) 6).testBit k = true → M (175 + 2 * i) k ≤ 100) ∧
  (M (174 + 2 * i) 9 = 0 → 100 * M (174 + 2 * i) 2 < M (174 + 2 * i) 3 ∧ M (174 + 2 * i) 3 ≤ 100 * M (174 + 2 * i) 2 + i + 1 ∧ M (174 + 2 * i) 2 ≤ M 146 3 ∧ (M (174 + 2 * i) 3 ≤ M (Wc (M (174 + 2 * i) 0)) 4 ∨ M (174 + 2 * i) 3 ≤ 100 * M 146 3))
def bzy (M : F2) : Nat := sm (fun w => if M (Wc w) 0 = 0 then 0 else 1) 4
def okM (sp nw D : Nat) (B M : F2) : Prop := (1 ≤ nw ∧ nw ≤ 4 ∧ M 146 2 = nw) ∧ (1 ≤ M 146 3 ∧ M 146 3 ≤ 50) ∧ (2 * M 146 11 + bzy M ≤ D ∧ D ≤ 60) ∧
  (∀ k, k < 10 → M 147 k ≤ 100 ∧ M 148 k ≤ 100 * M 146 3 + M 146 11 ∧ M 149 k ≤ 10 * M 146 11) ∧ (∀ w, w < 4 → wkO sp nw B M w) ∧ (∀ i, i < M 146 11 → lnO nw B M i) ∧
  (∀ i j, i < j → j < M 146 11 → M (174 + 2 * i) 9 = 0 → M (174 + 2 * j) 9 = 0 → M (174 + 2 * i) 0 = M (174 + 2 * j) 0 → M (174 + 2 * i) 3 < M (174 + 2 * j) 3) ∧
  (∀ d, d < M 146 12 → M 154 d ≤ 3 ∧ M 155 d ≤ 10) ∧ ∀ w, nw ≤ w → w < 4 → M (Wc w) 4 = 0 ∧ M (Wc w) 5 = 0
theorem okM.G {sp nw D : Nat} {B M : F2} (h : okM sp nw D B M) : okG (gG M) := fun k hk => by
  obtain ⟨h1, h2, h3, h4, -⟩ := h
  have := h4 k hk
  exact ⟨this.1, by show M 148 k ≤ 9999; omega, by show M 149 k ≤ 9999; omega⟩
