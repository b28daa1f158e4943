/-! the words of the Statement about the start -/
section START2
variable {s : State} {args : Array Value} {b L : Nat} {xs : Nat → Int32} {A : Nat → Prop}
def nwF : List Cond := flatC (Jvm.Cond.and given_1 narrow_1)
abbrev tmD : Term := .static "KeepForget$Dates" "DAYS_BEFORE" "[I"
abbrev tmS (j : Nat) : Term := .string (sO j) (sI j)
theorem nw_D : ∀ j, j < 12 → Cond.eq (.elem tmD (.int (Int32.ofNat j))) (.int (dB.getD j 0)) ∈ nwF := by decide +kernel
theorem nw_D1 : Cond.arrayOf tmD .int ∈ nwF ∧ Cond.eq (.length tmD) (.int (Int32.ofNat 12)) ∈ nwF := by decide +kernel
def ixS (j : Nat) : Nat := match j with
  | 0 => 631 | 1 => 640 | 2 => 648 | 3 => 658 | 4 => 666 | 5 => 674 | 6 => 683 | 7 => 694 | 8 => 704 | 9 => 713 | 10 => 720 | 11 => 728 | 12 => 235 | 13 => 243 | 14 => 250 | 15 => 259 | 16 => 266 | 17 => 273 | 18 => 281 | 19 => 291 | 20 => 300 | 21 => 308 | 22 => 314 | 23 => 321 | _ => 0
theorem nx_S1 : ∀ j, j < 24 → nwF[ixS j]? = some (Cond.exactly (tmS j) "java/lang/String") ∧ nwF[ixS j + 1]? = some (Cond.eq (.field (tmS j) "java/lang/String" "coder" "B") (.int 0)) ∧ nwF[ixS j + 2]? = some (Cond.arrayOf (.field (tmS j) "java/lang/String" "value" "[B") .byte) ∧ nwF[ixS j + 3]? = some (Cond.eq (.length (.field (tmS j) "java/lang/String" "value" "[B")) (.int (Int32.ofNat (sW j).length))) := by decide +kernel
theorem nx_S2 : ∀ j, j < 24 → ∀ i, i < (sW j).length → nwF[ixS j + 4 + i]? = some (Cond.eq (.elem (.field (tmS j) "java/lang/String" "value" "[B") (.int (Int32.ofNat i))) (.int ((sW j).getD i 0))) := by decide +kernel
theorem nw_S1 : ∀ j, j < 24 → Cond.exactly (tmS j) "java/lang/String" ∈ nwF ∧ Cond.eq (.field (tmS j) "java/lang/String" "coder" "B") (.int 0) ∈ nwF ∧ Cond.arrayOf (.field (tmS j) "java/lang/String" "value" "[B") .byte ∈ nwF ∧ Cond.eq (.length (.field (tmS j) "java/lang/String" "value" "[B")) (.int (Int32.ofNat (sW j).length)) ∈ nwF := fun j hj => ⟨List.mem_of_getElem? (nx_S1 j hj).1, List.mem_of_getElem? (nx_S1 j hj).2.1, List.mem_of_getElem? (nx_S1 j hj).2.2.1, List.mem_of_getElem? (nx_S1 j hj).2.2.2⟩
theorem nw_S2 : ∀ j, j < 24 → ∀ i, i < (sW j).length → Cond.eq (.elem (.field (tmS j) "java/lang/String" "value" "[B") (.int (Int32.ofNat i))) (.int ((sW j).getD i 0)) ∈ nwF := fun j hj i hi => List.mem_of_getElem? (nx_S2 j hj i hi)
theorem nw_M : ∀ j, j < 22 → Cond.exactly (.string "KeepForget" (xI j)) "java/lang/String" ∈ nwF := by decide +kernel
theorem tb_M : ∀ j, j < 22 → Cond.stringRef "KeepForget" (xI j) (xT j) ∈ lw_tbl := by decide +kernel
theorem tb_S : ∀ j, j < 24 → Cond.stringRef (sO j) (sI j) (sT j) ∈ lw_tbl := by decide +kernel
theorem tb_B : ∀ w ∈ xB, w ∈ lw_tbl := by decide +kernel
theorem tb_A : ∀ C ∈ xAO, Cond.arrayOver (.object C) ∈ lw_tbl := by decide +kernel
theorem lenS : ∀ j, j < 24 → (sW j).length < 2 ^ 31 := by decide +kernel
theorem str_at (hs : ∀ w ∈ nwF, w.before args s = true) (hA : ∀ a : Nat, a < s.heap.size → ¬ A a) {j : Nat} (hj : j < 24) : ∃ q : Nat × Nat, (tmS j).eval args s none [] s = some (.ref q.1) ∧ sAt A q.1 q.2 (sW j) s s.heap := by
  obtain ⟨adK, adV, h1, h2⟩ := vk_Sof (args := args) (s := s) (N := 1) (tm := fun _ => tmS j) (len := [(sW j).length]) (byt := [sW j]) (A := A) (fun i hi => by rw [show i = 0 by omega]; exact lenS j hj) (fun i hi => hs _ (nw_S1 j hj).1) (fun i hi => hs _ (nw_S1 j hj).2.1) (fun i hi => hs _ (nw_S1 j hj).2.2.1) (fun i hi => by rw [show i = 0 by omega]; exact hs _ (nw_S1 j hj).2.2.2) (fun i hi k hk => by rw [show i = 0 by omega] at hk ⊢; exact hs _ (nw_S2 j hj k hk)) (fun i k hi hk hne => absurd (show i = k by omega) hne) hA
  exact ⟨(adK 0, adV 0), h2 0 (by omega), h1.1 0 (by omega)⟩
theorem E_start (hs : ∀ w ∈ nwF, w.before args s = true) (hts : ∀ w ∈ lw_tbl, w.before args s = true) (hX : va_X b L xs s s.heap) (hb : b < s.heap.size) (hA : ∀ a : Nat, a < s.heap.size → ¬ A a) : ∃ (adM adS adV : Nat → Nat) (adD : Nat), kKe adM adS s ∧ kEo A adS adV adD b L xs s s.heap := by
  have m0 : ∀ j : Nat, ∃ a : Nat, j < 22 → vk_R "KeepForget" (xI j) (xT j) a s := by
    intro j
    by_cases hj : j < 22
    · obtain ⟨a, c, cA, kA, q1, -⟩ := Cond.exactly_spec (args := args) (first := s) (o := none) (s := s) (idx := []) (t := .string "KeepForget" (xI j)) (cls := "java/lang/String") (hs _ (nw_M j hj))
      exact ⟨a, fun _ => vk_R.of (hts _ (tb_M j hj)) q1⟩
    · exact ⟨0, fun z => absurd z hj⟩
  have s0 : ∀ j : Nat, ∃ q : Nat × Nat, j < 24 → (tmS j).eval args s none [] s = some (.ref q.1) ∧ sAt A q.1 q.2 (sW j) s s.heap := by
    intro j
    by_cases hj : j < 24
    · obtain ⟨q, h⟩ := str_at hs hA hj
      exact ⟨q, fun _ => h⟩
    · exact ⟨(0, 0), fun z => absurd z hj⟩
  obtain ⟨adM, hM⟩ := Classical.axiomOfChoice m0
  obtain ⟨ad, hS⟩ := Classical.axiomOfChoice s0
  obtain ⟨t, ht, hT⟩ := va_Tof (tm := tmD) (ty := .int) (N := 12) (f := fun j => .int (dB.getD j 0)) (A := A) (by decide) (hs _ nw_D1.1) (va_eqt (hs _ nw_D1.2)) (fun j hj => va_eqt (hs _ (nw_D j hj))) hA
  refine ⟨adM, fun j => (ad j).1, fun j => (ad j).2, t, ⟨⟨hM, fun w hw => va_Nw.of (xB_ot w hw) (hts w (tb_B w hw)), fun C hC => va_AO.of (hts _ (tb_A C hC))⟩, fun j hj => vk_R.of (hts _ (tb_S j hj)) (hS j hj).1, va_Nc.of (hs (.not (.castable "java/lang/IllegalArgumentException" "java/util/NoSuchElementException")) (by decide +kernel))⟩, ⟨?_, ?_, ?_, hT⟩, ⟨?_, ?_⟩, fun j hj => (hS j hj).2, ?_⟩
  · exact vx_Zqof (hts (.laysStatic Bundle.tN "UNASSIGNED_STACK" Bundle.steD) (by decide +kernel)) (hts (.initialized Bundle.tN) (by decide +kernel)) (hs (.isRef (.static Bundle.tN "UNASSIGNED_STACK" Bundle.steD)) (by decide +kernel)) hA
  · exact vx_Zqof (hts (.laysStatic Bundle.tN "SUPPRESSED_SENTINEL" Bundle.listD) (by decide +kernel)) (hts (.initialized Bundle.tN) (by decide +kernel)) (hs (.isRef (.static Bundle.tN "SUPPRESSED_SENTINEL" Bundle.listD)) (by decide +kernel)) hA
  · exact va_Zof (hts (.laysStatic "KeepForget$Dates" "DAYS_BEFORE" "[I") (by decide +kernel)) (hts (.initialized "KeepForget$Dates") (by decide +kernel)) ht hA
  · exact va_Zof (hts (.laysStatic "java/lang/String" "COMPACT_STRINGS" "Z") (by decide +kernel)) (hts (.initialized "java/lang/String") (by decide +kernel)) (va_eqt (hs (.eq (.static "java/lang/String" "COMPACT_STRINGS" "Z") (.int 1)) (by decide +kernel))) hA
  · exact va_Zqof (hts (.laysStatic "jdk/internal/util/Preconditions" "SIOOBE_FORMATTER" "Ljava/util/function/BiFunction;") (by decide +kernel)) (hts (.initialized "jdk/internal/util/Preconditions") (by decide +kernel)) (hs (.isRef (.static "jdk/internal/util/Preconditions" "SIOOBE_FORMATTER" "Ljava/util/function/BiFunction;")) (by decide +kernel)) hA
  · obtain ⟨scr, h1, h2, h3, h4, h5⟩ := hX
    exact ⟨scr, h1, h2, h3, by omega, by rw [h4], h5, hA b hb⟩
end START2
