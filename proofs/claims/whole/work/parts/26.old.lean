/-! ===== what was there before the law: static tables, strings ===== -/
def saT : List (List Int32) := [[0, 3, 10, 17, 19], [1, 1, 2, 1, 1, 1, 2, 2, 2, 0, 0, 0, 1, 1, 1, 1, 2, 2, 1], [1, 1, 0, 0, 0, 0, 0, 0, 0, 0, 0, 0, 0, 0, 0, 0, 0, 0, 0], [5, 4, 9, 9, 9, 9, 9, 9, 9, 0, 0, 0, 3, 3, 3, 3, 3, 9, 9], [0, 0, 99, 0, 0, 0, 99, 99, 9, 0, 0, 0, 0, 0, 0, 0, 6, 99, 0]]
def saV (k j : Nat) : Int32 := (saT.getD k []).getD j 0
def saL (k : Nat) : Nat := (saT.getD k []).length
def saN : List String := ["FIRST_WORD", "NUMBERS_OF", "LEAST_FIRST", "MOST_FIRST", "MOST_SECOND"]
def stT : List (List Int32) := [[115, 112, 97, 110], [119, 111, 114, 107, 101, 114, 115], [107, 101, 121], [114, 101, 97, 100], [99, 117, 116], [115, 97, 118, 101], [112, 117, 116], [97, 100, 100], [115, 99, 97, 110], [116, 97, 115, 107], [101, 112, 111, 99, 104], [99, 114, 97, 115, 104], [115, 116, 101, 112], [99, 111, 109, 109, 105, 116], [113, 117, 105, 116], [102, 108, 117, 115, 104], [98, 101, 103, 105, 110], [104, 97, 115], [108, 97, 99, 107, 115]]
def stB (k j : Nat) : Int32 := (stT.getD k []).getD j 0
def stL (k : Nat) : Nat := (stT.getD k []).length
def gOld (G : GT) : Nat → Prop := fun q => (g0 G).heap.size ≤ q
theorem gOld_no (G : GT) : ∀ a, a < (g0 G).heap.size → ¬ gOld G a := fun a h z => absurd z (Nat.not_le.mpr h)
/-- a static table -/
def SA (G : GT) (k a : Nat) : Prop := va_Z "EpochEngine" (saN.getD k "") "[I" (.ref a) (gOld G) (g0 G) (g0 G).heap ∧ va_T .int a (saL k) (fun j => .int (saV k j)) (gOld G) (g0 G) (g0 G).heap
/-- a word of the language, as a string -/
def STR (G : GT) (k a : Nat) : Prop := va_O "java/lang/String" a (gOld G) (g0 G) (g0 G).heap ∧ va_OF "java/lang/String" "coder" "B" (.int 0) a (gOld G) (g0 G) (g0 G).heap ∧ ∃ t, va_OF "java/lang/String" "value" "[B" (.ref t) a (gOld G) (g0 G) (g0 G).heap ∧ va_T .byte t (stL k) (fun j => .int (stB k j)) (gOld G) (g0 G) (g0 G).heap
def fl1 : List Cond := flatC (Jvm.Cond.and given_1 narrow_1)
theorem pre_fl {G : GT} {b : Addr} (h : (Jvm.Cond.and given_1 narrow_1).before #[Value.ref b] (g0 G) = true) : ∀ c ∈ fl1, c.before #[Value.ref b] (g0 G) = true := flat_of_before _ h
theorem sa_0 (G : GT) (hg : gPre G) : ∃ a, SA G 0 a := by
  obtain ⟨b, h1, h2⟩ := hg
  have hs := pre_fl h1
  have he : ∀ j, j < 5 → Cond.eq (.elem (Term.static "EpochEngine" "FIRST_WORD" "[I") (.int (Int32.ofNat j))) (.int (saV 0 j)) ∈ fl1 := by decide +kernel
  obtain ⟨t, ht, hT⟩ := va_Tof (tm := (Term.static "EpochEngine" "FIRST_WORD" "[I")) (ty := .int) (N := 5) (f := fun j => .int (saV 0 j)) (A := gOld G) (by decide) (hs _ (by decide +kernel)) (va_eqt (z := 5) (hs (Cond.eq (.length (Term.static "EpochEngine" "FIRST_WORD" "[I")) (.int 5)) (by decide +kernel))) (fun j hj => va_eqt (hs _ (he j hj))) (gOld_no G)
  exact ⟨t, va_Zof (h2 _ (List.mem_of_getElem? (i := 721) (by decide +kernel))) (h2 _ (List.mem_of_getElem? (i := 140) (by decide +kernel))) ht (gOld_no G), hT⟩
theorem sa_1 (G : GT) (hg : gPre G) : ∃ a, SA G 1 a := by
  obtain ⟨b, h1, h2⟩ := hg
  have hs := pre_fl h1
  have he : ∀ j, j < 19 → Cond.eq (.elem (Term.static "EpochEngine" "NUMBERS_OF" "[I") (.int (Int32.ofNat j))) (.int (saV 1 j)) ∈ fl1 := by decide +kernel
  obtain ⟨t, ht, hT⟩ := va_Tof (tm := (Term.static "EpochEngine" "NUMBERS_OF" "[I")) (ty := .int) (N := 19) (f := fun j => .int (saV 1 j)) (A := gOld G) (by decide) (hs _ (by decide +kernel)) (va_eqt (z := 19) (hs (Cond.eq (.length (Term.static "EpochEngine" "NUMBERS_OF" "[I")) (.int 19)) (by decide +kernel))) (fun j hj => va_eqt (hs _ (he j hj))) (gOld_no G)
  exact ⟨t, va_Zof (h2 _ (List.mem_of_getElem? (i := 797) (by decide +kernel))) (h2 _ (List.mem_of_getElem? (i := 140) (by decide +kernel))) ht (gOld_no G), hT⟩
theorem sa_2 (G : GT) (hg : gPre G) : ∃ a, SA G 2 a := by
  obtain ⟨b, h1, h2⟩ := hg
  have hs := pre_fl h1
  have he : ∀ j, j < 19 → Cond.eq (.elem (Term.static "EpochEngine" "LEAST_FIRST" "[I") (.int (Int32.ofNat j))) (.int (saV 2 j)) ∈ fl1 := by decide +kernel
  obtain ⟨t, ht, hT⟩ := va_Tof (tm := (Term.static "EpochEngine" "LEAST_FIRST" "[I")) (ty := .int) (N := 19) (f := fun j => .int (saV 2 j)) (A := gOld G) (by decide) (hs _ (by decide +kernel)) (va_eqt (z := 19) (hs (Cond.eq (.length (Term.static "EpochEngine" "LEAST_FIRST" "[I")) (.int 19)) (by decide +kernel))) (fun j hj => va_eqt (hs _ (he j hj))) (gOld_no G)
  exact ⟨t, va_Zof (h2 _ (List.mem_of_getElem? (i := 811) (by decide +kernel))) (h2 _ (List.mem_of_getElem? (i := 140) (by decide +kernel))) ht (gOld_no G), hT⟩
theorem sa_3 (G : GT) (hg : gPre G) : ∃ a, SA G 3 a := by
  obtain ⟨b, h1, h2⟩ := hg
  have hs := pre_fl h1
  have he : ∀ j, j < 19 → Cond.eq (.elem (Term.static "EpochEngine" "MOST_FIRST" "[I") (.int (Int32.ofNat j))) (.int (saV 3 j)) ∈ fl1 := by decide +kernel
  obtain ⟨t, ht, hT⟩ := va_Tof (tm := (Term.static "EpochEngine" "MOST_FIRST" "[I")) (ty := .int) (N := 19) (f := fun j => .int (saV 3 j)) (A := gOld G) (by decide) (hs _ (by decide +kernel)) (va_eqt (z := 19) (hs (Cond.eq (.length (Term.static "EpochEngine" "MOST_FIRST" "[I")) (.int 19)) (by decide +kernel))) (fun j hj => va_eqt (hs _ (he j hj))) (gOld_no G)
  exact ⟨t, va_Zof (h2 _ (List.mem_of_getElem? (i := 813) (by decide +kernel))) (h2 _ (List.mem_of_getElem? (i := 140) (by decide +kernel))) ht (gOld_no G), hT⟩
theorem sa_4 (G : GT) (hg : gPre G) : ∃ a, SA G 4 a := by
  obtain ⟨b, h1, h2⟩ := hg
  have hs := pre_fl h1
  have he : ∀ j, j < 19 → Cond.eq (.elem (Term.static "EpochEngine" "MOST_SECOND" "[I") (.int (Int32.ofNat j))) (.int (saV 4 j)) ∈ fl1 := by decide +kernel
  obtain ⟨t, ht, hT⟩ := va_Tof (tm := (Term.static "EpochEngine" "MOST_SECOND" "[I")) (ty := .int) (N := 19) (f := fun j => .int (saV 4 j)) (A := gOld G) (by decide) (hs _ (by decide +kernel)) (va_eqt (z := 19) (hs (Cond.eq (.length (Term.static "EpochEngine" "MOST_SECOND" "[I")) (.int 19)) (by decide +kernel))) (fun j hj => va_eqt (hs _ (he j hj))) (gOld_no G)
  exact ⟨t, va_Zof (h2 _ (List.mem_of_getElem? (i := 815) (by decide +kernel))) (h2 _ (List.mem_of_getElem? (i := 140) (by decide +kernel))) ht (gOld_no G), hT⟩
theorem st_0 (G : GT) (hg : gPre G) : ∃ a, vk_R "EpochEngine$Reader" 148 "span" a (g0 G) ∧ STR G 0 a := by
  obtain ⟨b, h1, h2⟩ := hg
  have hs := pre_fl h1
  have he : ∀ j, j < 4 → Cond.eq (.elem (.field (Term.string "EpochEngine$Reader" 148) "java/lang/String" "value" "[B") (.int (Int32.ofNat j))) (.int (stB 0 j)) ∈ fl1 := by decide +kernel
  obtain ⟨adK, adV, hS, ha⟩ := vk_Sof (args := #[Value.ref b]) (s := g0 G) (N := 1) (tm := fun _ => (Term.string "EpochEngine$Reader" 148)) (len := [4]) (byt := [stT.getD 0 []]) (A := gOld G) (fun i hi => by rcases (show i = 0 by omega) with rfl; decide) (fun _ _ => hs _ (by decide +kernel)) (fun _ _ => hs _ (by decide +kernel)) (fun _ _ => hs _ (by decide +kernel)) (fun i hi => by rcases (show i = 0 by omega) with rfl; exact hs (Cond.eq (.length (.field (Term.string "EpochEngine$Reader" 148) "java/lang/String" "value" "[B")) (.int 4)) (by decide +kernel)) (fun i hi j hj => by rcases (show i = 0 by omega) with rfl; exact hs _ (he j hj)) (fun i j hi hj hn => absurd (show i = j by omega) hn) (gOld_no G)
  obtain ⟨q1, q2, q3, q4⟩ := hS.1 0 (by decide)
  exact ⟨adK 0, vk_R.of (A := #[Value.ref b]) (h2 _ (List.mem_of_getElem? (i := 725) (by decide +kernel))) (ha 0 (by decide)), q1, q2, adV 0, q3, q4⟩
theorem st_1 (G : GT) (hg : gPre G) : ∃ a, vk_R "EpochEngine$Reader" 150 "workers" a (g0 G) ∧ STR G 1 a := by
  obtain ⟨b, h1, h2⟩ := hg
  have hs := pre_fl h1
  have he : ∀ j, j < 7 → Cond.eq (.elem (.field (Term.string "EpochEngine$Reader" 150) "java/lang/String" "value" "[B") (.int (Int32.ofNat j))) (.int (stB 1 j)) ∈ fl1 := by decide +kernel
  obtain ⟨adK, adV, hS, ha⟩ := vk_Sof (args := #[Value.ref b]) (s := g0 G) (N := 1) (tm := fun _ => (Term.string "EpochEngine$Reader" 150)) (len := [7]) (byt := [stT.getD 1 []]) (A := gOld G) (fun i hi => by rcases (show i = 0 by omega) with rfl; decide) (fun _ _ => hs _ (by decide +kernel)) (fun _ _ => hs _ (by decide +kernel)) (fun _ _ => hs _ (by decide +kernel)) (fun i hi => by rcases (show i = 0 by omega) with rfl; exact hs (Cond.eq (.length (.field (Term.string "EpochEngine$Reader" 150) "java/lang/String" "value" "[B")) (.int 7)) (by decide +kernel)) (fun i hi j hj => by rcases (show i = 0 by omega) with rfl; exact hs _ (he j hj)) (fun i j hi hj hn => absurd (show i = j by omega) hn) (gOld_no G)
  obtain ⟨q1, q2, q3, q4⟩ := hS.1 0 (by decide)
  exact ⟨adK 0, vk_R.of (A := #[Value.ref b]) (h2 _ (List.mem_of_getElem? (i := 726) (by decide +kernel))) (ha 0 (by decide)), q1, q2, adV 0, q3, q4⟩
theorem st_2 (G : GT) (hg : gPre G) : ∃ a, vk_R "EpochEngine$Reader" 152 "key" a (g0 G) ∧ STR G 2 a := by
  obtain ⟨b, h1, h2⟩ := hg
  have hs := pre_fl h1
  have he : ∀ j, j < 3 → Cond.eq (.elem (.field (Term.string "EpochEngine$Reader" 152) "java/lang/String" "value" "[B") (.int (Int32.ofNat j))) (.int (stB 2 j)) ∈ fl1 := by decide +kernel
  obtain ⟨adK, adV, hS, ha⟩ := vk_Sof (args := #[Value.ref b]) (s := g0 G) (N := 1) (tm := fun _ => (Term.string "EpochEngine$Reader" 152)) (len := [3]) (byt := [stT.getD 2 []]) (A := gOld G) (fun i hi => by rcases (show i = 0 by omega) with rfl; decide) (fun _ _ => hs _ (by decide +kernel)) (fun _ _ => hs _ (by decide +kernel)) (fun _ _ => hs _ (by decide +kernel)) (fun i hi => by rcases (show i = 0 by omega) with rfl; exact hs (Cond.eq (.length (.field (Term.string "EpochEngine$Reader" 152) "java/lang/String" "value" "[B")) (.int 3)) (by decide +kernel)) (fun i hi j hj => by rcases (show i = 0 by omega) with rfl; exact hs _ (he j hj)) (fun i j hi hj hn => absurd (show i = j by omega) hn) (gOld_no G)
  obtain ⟨q1, q2, q3, q4⟩ := hS.1 0 (by decide)
  exact ⟨adK 0, vk_R.of (A := #[Value.ref b]) (h2 _ (List.mem_of_getElem? (i := 727) (by decide +kernel))) (ha 0 (by decide)), q1, q2, adV 0, q3, q4⟩
theorem st_3 (G : GT) (hg : gPre G) : ∃ a, vk_R "EpochEngine$Reader" 154 "read" a (g0 G) ∧ STR G 3 a := by
  obtain ⟨b, h1, h2⟩ := hg
  have hs := pre_fl h1
  have he : ∀ j, j < 4 → Cond.eq (.elem (.field (Term.string "EpochEngine$Reader" 154) "java/lang/String" "value" "[B") (.int (Int32.ofNat j))) (.int (stB 3 j)) ∈ fl1 := by decide +kernel
  obtain ⟨adK, adV, hS, ha⟩ := vk_Sof (args := #[Value.ref b]) (s := g0 G) (N := 1) (tm := fun _ => (Term.string "EpochEngine$Reader" 154)) (len := [4]) (byt := [stT.getD 3 []]) (A := gOld G) (fun i hi => by rcases (show i = 0 by omega) with rfl; decide) (fun _ _ => hs _ (by decide +kernel)) (fun _ _ => hs _ (by decide +kernel)) (fun _ _ => hs _ (by decide +kernel)) (fun i hi => by rcases (show i = 0 by omega) with rfl; exact hs (Cond.eq (.length (.field (Term.string "EpochEngine$Reader" 154) "java/lang/String" "value" "[B")) (.int 4)) (by decide +kernel)) (fun i hi j hj => by rcases (show i = 0 by omega) with rfl; exact hs _ (he j hj)) (fun i j hi hj hn => absurd (show i = j by omega) hn) (gOld_no G)
  obtain ⟨q1, q2, q3, q4⟩ := hS.1 0 (by decide)
  exact ⟨adK 0, vk_R.of (A := #[Value.ref b]) (h2 _ (List.mem_of_getElem? (i := 728) (by decide +kernel))) (ha 0 (by decide)), q1, q2, adV 0, q3, q4⟩
theorem st_4 (G : GT) (hg : gPre G) : ∃ a, vk_R "EpochEngine$Reader" 156 "cut" a (g0 G) ∧ STR G 4 a := by
  obtain ⟨b, h1, h2⟩ := hg
  have hs := pre_fl h1
  have he : ∀ j, j < 3 → Cond.eq (.elem (.field (Term.string "EpochEngine$Reader" 156) "java/lang/String" "value" "[B") (.int (Int32.ofNat j))) (.int (stB 4 j)) ∈ fl1 := by decide +kernel
  obtain ⟨adK, adV, hS, ha⟩ := vk_Sof (args := #[Value.ref b]) (s := g0 G) (N := 1) (tm := fun _ => (Term.string "EpochEngine$Reader" 156)) (len := [3]) (byt := [stT.getD 4 []]) (A := gOld G) (fun i hi => by rcases (show i = 0 by omega) with rfl; decide) (fun _ _ => hs _ (by decide +kernel)) (fun _ _ => hs _ (by decide +kernel)) (fun _ _ => hs _ (by decide +kernel)) (fun i hi => by rcases (show i = 0 by omega) with rfl; exact hs (Cond.eq (.length (.field (Term.string "EpochEngine$Reader" 156) "java/lang/String" "value" "[B")) (.int 3)) (by decide +kernel)) (fun i hi j hj => by rcases (show i = 0 by omega) with rfl; exact hs _ (he j hj)) (fun i j hi hj hn => absurd (show i = j by omega) hn) (gOld_no G)
  obtain ⟨q1, q2, q3, q4⟩ := hS.1 0 (by decide)
  exact ⟨adK 0, vk_R.of (A := #[Value.ref b]) (h2 _ (List.mem_of_getElem? (i := 729) (by decide +kernel))) (ha 0 (by decide)), q1, q2, adV 0, q3, q4⟩
theorem st_5 (G : GT) (hg : gPre G) : ∃ a, vk_R "EpochEngine$Reader" 158 "save" a (g0 G) ∧ STR G 5 a := by
  obtain ⟨b, h1, h2⟩ := hg
  have hs := pre_fl h1
  have he : ∀ j, j < 4 → Cond.eq (.elem (.field (Term.string "EpochEngine$Reader" 158) "java/lang/String" "value" "[B") (.int (Int32.ofNat j))) (.int (stB 5 j)) ∈ fl1 := by decide +kernel
  obtain ⟨adK, adV, hS, ha⟩ := vk_Sof (args := #[Value.ref b]) (s := g0 G) (N := 1) (tm := fun _ => (Term.string "EpochEngine$Reader" 158)) (len := [4]) (byt := [stT.getD 5 []]) (A := gOld G) (fun i hi => by rcases (show i = 0 by omega) with rfl; decide) (fun _ _ => hs _ (by decide +kernel)) (fun _ _ => hs _ (by decide +kernel)) (fun _ _ => hs _ (by decide +kernel)) (fun i hi => by rcases (show i = 0 by omega) with rfl; exact hs (Cond.eq (.length (.field (Term.string "EpochEngine$Reader" 158) "java/lang/String" "value" "[B")) (.int 4)) (by decide +kernel)) (fun i hi j hj => by rcases (show i = 0 by omega) with rfl; exact hs _ (he j hj)) (fun i j hi hj hn => absurd (show i = j by omega) hn) (gOld_no G)
  obtain ⟨q1, q2, q3, q4⟩ := hS.1 0 (by decide)
  exact ⟨adK 0, vk_R.of (A := #[Value.ref b]) (h2 _ (List.mem_of_getElem? (i := 730) (by decide +kernel))) (ha 0 (by decide)), q1, q2, adV 0, q3, q4⟩
theorem st_6 (G : GT) (hg : gPre G) : ∃ a, vk_R "EpochEngine$Reader" 160 "put" a (g0 G) ∧ STR G 6 a := by
  obtain ⟨b, h1, h2⟩ := hg
  have hs := pre_fl h1
  have he : ∀ j, j < 3 → Cond.eq (.elem (.field (Term.string "EpochEngine$Reader" 160) "java/lang/String" "value" "[B") (.int (Int32.ofNat j))) (.int (stB 6 j)) ∈ fl1 := by decide +kernel
  obtain ⟨adK, adV, hS, ha⟩ := vk_Sof (args := #[Value.ref b]) (s := g0 G) (N := 1) (tm := fun _ => (Term.string "EpochEngine$Reader" 160)) (len := [3]) (byt := [stT.getD 6 []]) (A := gOld G) (fun i hi => by rcases (show i = 0 by omega) with rfl; decide) (fun _ _ => hs _ (by decide +kernel)) (fun _ _ => hs _ (by decide +kernel)) (fun _ _ => hs _ (by decide +kernel)) (fun i hi => by rcases (show i = 0 by omega) with rfl; exact hs (Cond.eq (.length (.field (Term.string "EpochEngine$Reader" 160) "java/lang/String" "value" "[B")) (.int 3)) (by decide +kernel)) (fun i hi j hj => by rcases (show i = 0 by omega) with rfl; exact hs _ (he j hj)) (fun i j hi hj hn => absurd (show i = j by omega) hn) (gOld_no G)
  obtain ⟨q1, q2, q3, q4⟩ := hS.1 0 (by decide)
  exact ⟨adK 0, vk_R.of (A := #[Value.ref b]) (h2 _ (List.mem_of_getElem? (i := 731) (by decide +kernel))) (ha 0 (by decide)), q1, q2, adV 0, q3, q4⟩
theorem st_7 (G : GT) (hg : gPre G) : ∃ a, vk_R "EpochEngine$Reader" 162 "add" a (g0 G) ∧ STR G 7 a := by
  obtain ⟨b, h1, h2⟩ := hg
  have hs := pre_fl h1
  have he : ∀ j, j < 3 → Cond.eq (.elem (.field (Term.string "EpochEngine$Reader" 162) "java/lang/String" "value" "[B") (.int (Int32.ofNat j))) (.int (stB 7 j)) ∈ fl1 := by decide +kernel
  obtain ⟨adK, adV, hS, ha⟩ := vk_Sof (args := #[Value.ref b]) (s := g0 G) (N := 1) (tm := fun _ => (Term.string "EpochEngine$Reader" 162)) (len := [3]) (byt := [stT.getD 7 []]) (A := gOld G) (fun i hi => by rcases (show i = 0 by omega) with rfl; decide) (fun _ _ => hs _ (by decide +kernel)) (fun _ _ => hs _ (by decide +kernel)) (fun _ _ => hs _ (by decide +kernel)) (fun i hi => by rcases (show i = 0 by omega) with rfl; exact hs (Cond.eq (.length (.field (Term.string "EpochEngine$Reader" 162) "java/lang/String" "value" "[B")) (.int 3)) (by decide +kernel)) (fun i hi j hj => by rcases (show i = 0 by omega) with rfl; exact hs _ (he j hj)) (fun i j hi hj hn => absurd (show i = j by omega) hn) (gOld_no G)
  obtain ⟨q1, q2, q3, q4⟩ := hS.1 0 (by decide)
  exact ⟨adK 0, vk_R.of (A := #[Value.ref b]) (h2 _ (List.mem_of_getElem? (i := 732) (by decide +kernel))) (ha 0 (by decide)), q1, q2, adV 0, q3, q4⟩
theorem st_8 (G : GT) (hg : gPre G) : ∃ a, vk_R "EpochEngine$Reader" 164 "scan" a (g0 G) ∧ STR G 8 a := by
  obtain ⟨b, h1, h2⟩ := hg
  have hs := pre_fl h1
  have he : ∀ j, j < 4 → Cond.eq (.elem (.field (Term.string "EpochEngine$Reader" 164) "java/lang/String" "value" "[B") (.int (Int32.ofNat j))) (.int (stB 8 j)) ∈ fl1 := by decide +kernel
  obtain ⟨adK, adV, hS, ha⟩ := vk_Sof (args := #[Value.ref b]) (s := g0 G) (N := 1) (tm := fun _ => (Term.string "EpochEngine$Reader" 164)) (len := [4]) (byt := [stT.getD 8 []]) (A := gOld G) (fun i hi => by rcases (show i = 0 by omega) with rfl; decide) (fun _ _ => hs _ (by decide +kernel)) (fun _ _ => hs _ (by decide +kernel)) (fun _ _ => hs _ (by decide +kernel)) (fun i hi => by rcases (show i = 0 by omega) with rfl; exact hs (Cond.eq (.length (.field (Term.string "EpochEngine$Reader" 164) "java/lang/String" "value" "[B")) (.int 4)) (by decide +kernel)) (fun i hi j hj => by rcases (show i = 0 by omega) with rfl; exact hs _ (he j hj)) (fun i j hi hj hn => absurd (show i = j by omega) hn) (gOld_no G)
  obtain ⟨q1, q2, q3, q4⟩ := hS.1 0 (by decide)
  exact ⟨adK 0, vk_R.of (A := #[Value.ref b]) (h2 _ (List.mem_of_getElem? (i := 733) (by decide +kernel))) (ha 0 (by decide)), q1, q2, adV 0, q3, q4⟩
theorem st_9 (G : GT) (hg : gPre G) : ∃ a, vk_R "EpochEngine$Reader" 166 "task" a (g0 G) ∧ STR G 9 a := by
  obtain ⟨b, h1, h2⟩ := hg
  have hs := pre_fl h1
  have he : ∀ j, j < 4 → Cond.eq (.elem (.field (Term.string "EpochEngine$Reader" 166) "java/lang/String" "value" "[B") (.int (Int32.ofNat j))) (.int (stB 9 j)) ∈ fl1 := by decide +kernel
  obtain ⟨adK, adV, hS, ha⟩ := vk_Sof (args := #[Value.ref b]) (s := g0 G) (N := 1) (tm := fun _ => (Term.string "EpochEngine$Reader" 166)) (len := [4]) (byt := [stT.getD 9 []]) (A := gOld G) (fun i hi => by rcases (show i = 0 by omega) with rfl; decide) (fun _ _ => hs _ (by decide +kernel)) (fun _ _ => hs _ (by decide +kernel)) (fun _ _ => hs _ (by decide +kernel)) (fun i hi => by rcases (show i = 0 by omega) with rfl; exact hs (Cond.eq (.length (.field (Term.string "EpochEngine$Reader" 166) "java/lang/String" "value" "[B")) (.int 4)) (by decide +kernel)) (fun i hi j hj => by rcases (show i = 0 by omega) with rfl; exact hs _ (he j hj)) (fun i j hi hj hn => absurd (show i = j by omega) hn) (gOld_no G)
  obtain ⟨q1, q2, q3, q4⟩ := hS.1 0 (by decide)
  exact ⟨adK 0, vk_R.of (A := #[Value.ref b]) (h2 _ (List.mem_of_getElem? (i := 734) (by decide +kernel))) (ha 0 (by decide)), q1, q2, adV 0, q3, q4⟩
theorem st_10 (G : GT) (hg : gPre G) : ∃ a, vk_R "EpochEngine$Reader" 168 "epoch" a (g0 G) ∧ STR G 10 a := by
  obtain ⟨b, h1, h2⟩ := hg
  have hs := pre_fl h1
  have he : ∀ j, j < 5 → Cond.eq (.elem (.field (Term.string "EpochEngine$Reader" 168) "java/lang/String" "value" "[B") (.int (Int32.ofNat j))) (.int (stB 10 j)) ∈ fl1 := by decide +kernel
  obtain ⟨adK, adV, hS, ha⟩ := vk_Sof (args := #[Value.ref b]) (s := g0 G) (N := 1) (tm := fun _ => (Term.string "EpochEngine$Reader" 168)) (len := [5]) (byt := [stT.getD 10 []]) (A := gOld G) (fun i hi => by rcases (show i = 0 by omega) with rfl; decide) (fun _ _ => hs _ (by decide +kernel)) (fun _ _ => hs _ (by decide +kernel)) (fun _ _ => hs _ (by decide +kernel)) (fun i hi => by rcases (show i = 0 by omega) with rfl; exact hs (Cond.eq (.length (.field (Term.string "EpochEngine$Reader" 168) "java/lang/String" "value" "[B")) (.int 5)) (by decide +kernel)) (fun i hi j hj => by rcases (show i = 0 by omega) with rfl; exact hs _ (he j hj)) (fun i j hi hj hn => absurd (show i = j by omega) hn) (gOld_no G)
  obtain ⟨q1, q2, q3, q4⟩ := hS.1 0 (by decide)
  exact ⟨adK 0, vk_R.of (A := #[Value.ref b]) (h2 _ (List.mem_of_getElem? (i := 735) (by decide +kernel))) (ha 0 (by decide)), q1, q2, adV 0, q3, q4⟩
theorem st_11 (G : GT) (hg : gPre G) : ∃ a, vk_R "EpochEngine$Reader" 170 "crash" a (g0 G) ∧ STR G 11 a := by
  obtain ⟨b, h1, h2⟩ := hg
  have hs := pre_fl h1
  have he : ∀ j, j < 5 → Cond.eq (.elem (.field (Term.string "EpochEngine$Reader" 170) "java/lang/String" "value" "[B") (.int (Int32.ofNat j))) (.int (stB 11 j)) ∈ fl1 := by decide +kernel
  obtain ⟨adK, adV, hS, ha⟩ := vk_Sof (args := #[Value.ref b]) (s := g0 G) (N := 1) (tm := fun _ => (Term.string "EpochEngine$Reader" 170)) (len := [5]) (byt := [stT.getD 11 []]) (A := gOld G) (fun i hi => by rcases (show i = 0 by omega) with rfl; decide) (fun _ _ => hs _ (by decide +kernel)) (fun _ _ => hs _ (by decide +kernel)) (fun _ _ => hs _ (by decide +kernel)) (fun i hi => by rcases (show i = 0 by omega) with rfl; exact hs (Cond.eq (.length (.field (Term.string "EpochEngine$Reader" 170) "java/lang/String" "value" "[B")) (.int 5)) (by decide +kernel)) (fun i hi j hj => by rcases (show i = 0 by omega) with rfl; exact hs _ (he j hj)) (fun i j hi hj hn => absurd (show i = j by omega) hn) (gOld_no G)
  obtain ⟨q1, q2, q3, q4⟩ := hS.1 0 (by decide)
  exact ⟨adK 0, vk_R.of (A := #[Value.ref b]) (h2 _ (List.mem_of_getElem? (i := 736) (by decide +kernel))) (ha 0 (by decide)), q1, q2, adV 0, q3, q4⟩
theorem st_12 (G : GT) (hg : gPre G) : ∃ a, vk_R "EpochEngine$Reader" 172 "step" a (g0 G) ∧ STR G 12 a := by
  obtain ⟨b, h1, h2⟩ := hg
  have hs := pre_fl h1
  have he : ∀ j, j < 4 → Cond.eq (.elem (.field (Term.string "EpochEngine$Reader" 172) "java/lang/String" "value" "[B") (.int (Int32.ofNat j))) (.int (stB 12 j)) ∈ fl1 := by decide +kernel
  obtain ⟨adK, adV, hS, ha⟩ := vk_Sof (args := #[Value.ref b]) (s := g0 G) (N := 1) (tm := fun _ => (Term.string "EpochEngine$Reader" 172)) (len := [4]) (byt := [stT.getD 12 []]) (A := gOld G) (fun i hi => by rcases (show i = 0 by omega) with rfl; decide) (fun _ _ => hs _ (by decide +kernel)) (fun _ _ => hs _ (by decide +kernel)) (fun _ _ => hs _ (by decide +kernel)) (fun i hi => by rcases (show i = 0 by omega) with rfl; exact hs (Cond.eq (.length (.field (Term.string "EpochEngine$Reader" 172) "java/lang/String" "value" "[B")) (.int 4)) (by decide +kernel)) (fun i hi j hj => by rcases (show i = 0 by omega) with rfl; exact hs _ (he j hj)) (fun i j hi hj hn => absurd (show i = j by omega) hn) (gOld_no G)
  obtain ⟨q1, q2, q3, q4⟩ := hS.1 0 (by decide)
  exact ⟨adK 0, vk_R.of (A := #[Value.ref b]) (h2 _ (List.mem_of_getElem? (i := 737) (by decide +kernel))) (ha 0 (by decide)), q1, q2, adV 0, q3, q4⟩
theorem st_13 (G : GT) (hg : gPre G) : ∃ a, vk_R "EpochEngine$Reader" 174 "commit" a (g0 G) ∧ STR G 13 a := by
  obtain ⟨b, h1, h2⟩ := hg
  have hs := pre_fl h1
  have he : ∀ j, j < 6 → Cond.eq (.elem (.field (Term.string "EpochEngine$Reader" 174) "java/lang/String" "value" "[B") (.int (Int32.ofNat j))) (.int (stB 13 j)) ∈ fl1 := by decide +kernel
  obtain ⟨adK, adV, hS, ha⟩ := vk_Sof (args := #[Value.ref b]) (s := g0 G) (N := 1) (tm := fun _ => (Term.string "EpochEngine$Reader" 174)) (len := [6]) (byt := [stT.getD 13 []]) (A := gOld G) (fun i hi => by rcases (show i = 0 by omega) with rfl; decide) (fun _ _ => hs _ (by decide +kernel)) (fun _ _ => hs _ (by decide +kernel)) (fun _ _ => hs _ (by decide +kernel)) (fun i hi => by rcases (show i = 0 by omega) with rfl; exact hs (Cond.eq (.length (.field (Term.string "EpochEngine$Reader" 174) "java/lang/String" "value" "[B")) (.int 6)) (by decide +kernel)) (fun i hi j hj => by rcases (show i = 0 by omega) with rfl; exact hs _ (he j hj)) (fun i j hi hj hn => absurd (show i = j by omega) hn) (gOld_no G)
  obtain ⟨q1, q2, q3, q4⟩ := hS.1 0 (by decide)
  exact ⟨adK 0, vk_R.of (A := #[Value.ref b]) (h2 _ (List.mem_of_getElem? (i := 738) (by decide +kernel))) (ha 0 (by decide)), q1, q2, adV 0, q3, q4⟩
theorem st_14 (G : GT) (hg : gPre G) : ∃ a, vk_R "EpochEngine$Reader" 176 "quit" a (g0 G) ∧ STR G 14 a := by
  obtain ⟨b, h1, h2⟩ := hg
  have hs := pre_fl h1
  have he : ∀ j, j < 4 → Cond.eq (.elem (.field (Term.string "EpochEngine$Reader" 176) "java/lang/String" "value" "[B") (.int (Int32.ofNat j))) (.int (stB 14 j)) ∈ fl1 := by decide +kernel
  obtain ⟨adK, adV, hS, ha⟩ := vk_Sof (args := #[Value.ref b]) (s := g0 G) (N := 1) (tm := fun _ => (Term.string "EpochEngine$Reader" 176)) (len := [4]) (byt := [stT.getD 14 []]) (A := gOld G) (fun i hi => by rcases (show i = 0 by omega) with rfl; decide) (fun _ _ => hs _ (by decide +kernel)) (fun _ _ => hs _ (by decide +kernel)) (fun _ _ => hs _ (by decide +kernel)) (fun i hi => by rcases (show i = 0 by omega) with rfl; exact hs (Cond.eq (.length (.field (Term.string "EpochEngine$Reader" 176) "java/lang/String" "value" "[B")) (.int 4)) (by decide +kernel)) (fun i hi j hj => by rcases (show i = 0 by omega) with rfl; exact hs _ (he j hj)) (fun i j hi hj hn => absurd (show i = j by omega) hn) (gOld_no G)
  obtain ⟨q1, q2, q3, q4⟩ := hS.1 0 (by decide)
  exact ⟨adK 0, vk_R.of (A := #[Value.ref b]) (h2 _ (List.mem_of_getElem? (i := 739) (by decide +kernel))) (ha 0 (by decide)), q1, q2, adV 0, q3, q4⟩
theorem st_15 (G : GT) (hg : gPre G) : ∃ a, vk_R "EpochEngine$Reader" 178 "flush" a (g0 G) ∧ STR G 15 a := by
  obtain ⟨b, h1, h2⟩ := hg
  have hs := pre_fl h1
  have he : ∀ j, j < 5 → Cond.eq (.elem (.field (Term.string "EpochEngine$Reader" 178) "java/lang/String" "value" "[B") (.int (Int32.ofNat j))) (.int (stB 15 j)) ∈ fl1 := by decide +kernel
  obtain ⟨adK, adV, hS, ha⟩ := vk_Sof (args := #[Value.ref b]) (s := g0 G) (N := 1) (tm := fun _ => (Term.string "EpochEngine$Reader" 178)) (len := [5]) (byt := [stT.getD 15 []]) (A := gOld G) (fun i hi => by rcases (show i = 0 by omega) with rfl; decide) (fun _ _ => hs _ (by decide +kernel)) (fun _ _ => hs _ (by decide +kernel)) (fun _ _ => hs _ (by decide +kernel)) (fun i hi => by rcases (show i = 0 by omega) with rfl; exact hs (Cond.eq (.length (.field (Term.string "EpochEngine$Reader" 178) "java/lang/String" "value" "[B")) (.int 5)) (by decide +kernel)) (fun i hi j hj => by rcases (show i = 0 by omega) with rfl; exact hs _ (he j hj)) (fun i j hi hj hn => absurd (show i = j by omega) hn) (gOld_no G)
  obtain ⟨q1, q2, q3, q4⟩ := hS.1 0 (by decide)
  exact ⟨adK 0, vk_R.of (A := #[Value.ref b]) (h2 _ (List.mem_of_getElem? (i := 740) (by decide +kernel))) (ha 0 (by decide)), q1, q2, adV 0, q3, q4⟩
theorem st_16 (G : GT) (hg : gPre G) : ∃ a, vk_R "EpochEngine$Reader" 180 "begin" a (g0 G) ∧ STR G 16 a := by
  obtain ⟨b, h1, h2⟩ := hg
  have hs := pre_fl h1
  have he : ∀ j, j < 5 → Cond.eq (.elem (.field (Term.string "EpochEngine$Reader" 180) "java/lang/String" "value" "[B") (.int (Int32.ofNat j))) (.int (stB 16 j)) ∈ fl1 := by decide +kernel
  obtain ⟨adK, adV, hS, ha⟩ := vk_Sof (args := #[Value.ref b]) (s := g0 G) (N := 1) (tm := fun _ => (Term.string "EpochEngine$Reader" 180)) (len := [5]) (byt := [stT.getD 16 []]) (A := gOld G) (fun i hi => by rcases (show i = 0 by omega) with rfl; decide) (fun _ _ => hs _ (by decide +kernel)) (fun _ _ => hs _ (by decide +kernel)) (fun _ _ => hs _ (by decide +kernel)) (fun i hi => by rcases (show i = 0 by omega) with rfl; exact hs (Cond.eq (.length (.field (Term.string "EpochEngine$Reader" 180) "java/lang/String" "value" "[B")) (.int 5)) (by decide +kernel)) (fun i hi j hj => by rcases (show i = 0 by omega) with rfl; exact hs _ (he j hj)) (fun i j hi hj hn => absurd (show i = j by omega) hn) (gOld_no G)
  obtain ⟨q1, q2, q3, q4⟩ := hS.1 0 (by decide)
  exact ⟨adK 0, vk_R.of (A := #[Value.ref b]) (h2 _ (List.mem_of_getElem? (i := 741) (by decide +kernel))) (ha 0 (by decide)), q1, q2, adV 0, q3, q4⟩
theorem st_17 (G : GT) (hg : gPre G) : ∃ a, vk_R "EpochEngine$Reader" 182 "has" a (g0 G) ∧ STR G 17 a := by
  obtain ⟨b, h1, h2⟩ := hg
  have hs := pre_fl h1
  have he : ∀ j, j < 3 → Cond.eq (.elem (.field (Term.string "EpochEngine$Reader" 182) "java/lang/String" "value" "[B") (.int (Int32.ofNat j))) (.int (stB 17 j)) ∈ fl1 := by decide +kernel
  obtain ⟨adK, adV, hS, ha⟩ := vk_Sof (args := #[Value.ref b]) (s := g0 G) (N := 1) (tm := fun _ => (Term.string "EpochEngine$Reader" 182)) (len := [3]) (byt := [stT.getD 17 []]) (A := gOld G) (fun i hi => by rcases (show i = 0 by omega) with rfl; decide) (fun _ _ => hs _ (by decide +kernel)) (fun _ _ => hs _ (by decide +kernel)) (fun _ _ => hs _ (by decide +kernel)) (fun i hi => by rcases (show i = 0 by omega) with rfl; exact hs (Cond.eq (.length (.field (Term.string "EpochEngine$Reader" 182) "java/lang/String" "value" "[B")) (.int 3)) (by decide +kernel)) (fun i hi j hj => by rcases (show i = 0 by omega) with rfl; exact hs _ (he j hj)) (fun i j hi hj hn => absurd (show i = j by omega) hn) (gOld_no G)
  obtain ⟨q1, q2, q3, q4⟩ := hS.1 0 (by decide)
  exact ⟨adK 0, vk_R.of (A := #[Value.ref b]) (h2 _ (List.mem_of_getElem? (i := 742) (by decide +kernel))) (ha 0 (by decide)), q1, q2, adV 0, q3, q4⟩
theorem st_18 (G : GT) (hg : gPre G) : ∃ a, vk_R "EpochEngine$Reader" 184 "lacks" a (g0 G) ∧ STR G 18 a := by
  obtain ⟨b, h1, h2⟩ := hg
  have hs := pre_fl h1
  have he : ∀ j, j < 5 → Cond.eq (.elem (.field (Term.string "EpochEngine$Reader" 184) "java/lang/String" "value" "[B") (.int (Int32.ofNat j))) (.int (stB 18 j)) ∈ fl1 := by decide +kernel
  obtain ⟨adK, adV, hS, ha⟩ := vk_Sof (args := #[Value.ref b]) (s := g0 G) (N := 1) (tm := fun _ => (Term.string "EpochEngine$Reader" 184)) (len := [5]) (byt := [stT.getD 18 []]) (A := gOld G) (fun i hi => by rcases (show i = 0 by omega) with rfl; decide) (fun _ _ => hs _ (by decide +kernel)) (fun _ _ => hs _ (by decide +kernel)) (fun _ _ => hs _ (by decide +kernel)) (fun i hi => by rcases (show i = 0 by omega) with rfl; exact hs (Cond.eq (.length (.field (Term.string "EpochEngine$Reader" 184) "java/lang/String" "value" "[B")) (.int 5)) (by decide +kernel)) (fun i hi j hj => by rcases (show i = 0 by omega) with rfl; exact hs _ (he j hj)) (fun i j hi hj hn => absurd (show i = j by omega) hn) (gOld_no G)
  obtain ⟨q1, q2, q3, q4⟩ := hS.1 0 (by decide)
  exact ⟨adK 0, vk_R.of (A := #[Value.ref b]) (h2 _ (List.mem_of_getElem? (i := 743) (by decide +kernel))) (ha 0 (by decide)), q1, q2, adV 0, q3, q4⟩
theorem cs_at (G : GT) (hg : gPre G) : va_Z "java/lang/String" "COMPACT_STRINGS" "Z" (.int 1) (gOld G) (g0 G) (g0 G).heap := by
  obtain ⟨b, h1, h2⟩ := hg
  exact va_Zof (h2 _ (List.mem_of_getElem? (i := 757) (by decide +kernel))) (h2 _ (List.mem_of_getElem? (i := 155) (by decide +kernel))) (va_eqi (pre_fl h1 _ (by decide +kernel))) (gOld_no G)
theorem sf_at (G : GT) (hg : gPre G) : va_Zq "jdk/internal/util/Preconditions" "SIOOBE_FORMATTER" "Ljava/util/function/BiFunction;" (gOld G) (g0 G) (g0 G).heap := by
  obtain ⟨b, h1, h2⟩ := hg
  exact va_Zqof (h2 _ (List.mem_of_getElem? (i := 773) (by decide +kernel))) (h2 _ (List.mem_of_getElem? (i := 157) (by decide +kernel))) (pre_fl h1 _ (by decide +kernel)) (gOld_no G)
