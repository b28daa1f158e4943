/-! what is known at the law's entry -/
section START
def kKe (adM adS : Nat → Nat) (U : State) : Prop := ((∀ j, j < 22 → vk_R "KeepForget" (xI j) (xT j) (adM j) U) ∧ (∀ w ∈ xB, va_Nw w U) ∧ ∀ C ∈ xAO, va_AO C U) ∧ (∀ j, j < 24 → vk_R (sO j) (sI j) (sT j) (adS j) U) ∧ va_Nc "java/lang/IllegalArgumentException" "java/util/NoSuchElementException" U
theorem kKe_w (adM adS : Nat → Nat) : gKw (kKe adM adS) := by
  intro u U hW h
  refine ⟨⟨fun j hj => vk_R.warm hW (h.1.1 j hj), fun w hw => ?_, fun C hC => va_AO.moved hW.alike (h.1.2.2 C hC)⟩, fun j hj => vk_R.warm hW (h.2.1 j hj), va_Nc.moved hW.alike h.2.2⟩
  have g := h.1.2.1 w hw
  simp only [xB, List.mem_cons, List.not_mem_nil, or_false] at hw
  rcases hw with rfl | rfl | rfl | rfl | rfl
  · exact va_Nw.warmC hW g
  · exact va_Nw.warmC hW g
  · exact va_Nw.warmD hW g
  · exact va_Nw.warmD hW g
  · exact va_Nw.warmD hW g
def kEo (A : Nat → Prop) (adS adV : Nat → Nat) (adD b L : Nat) (xs : Nat → Int32) (U : State) (H : Heap) : Prop := (vx_Zq Bundle.tN "UNASSIGNED_STACK" Bundle.steD A U H ∧ vx_Zq Bundle.tN "SUPPRESSED_SENTINEL" Bundle.listD A U H ∧ va_Z "KeepForget$Dates" "DAYS_BEFORE" "[I" (.ref adD) A U H ∧ va_T .int adD 12 (fun j => .int (dB.getD j 0)) A U H) ∧ (va_Z "java/lang/String" "COMPACT_STRINGS" "Z" (.int 1) A U H ∧ va_Zq "jdk/internal/util/Preconditions" "SIOOBE_FORMATTER" "Ljava/util/function/BiFunction;" A U H) ∧ (∀ j, j < 24 → sAt A (adS j) (adV j) (sW j) U H) ∧ va_T .int b L (fun j => .int (xs j)) A U H
theorem sAt.narrow {A B : Nat → Prop} {a v : Nat} {w : List Int32} {U : State} {H : Heap} (h : sAt A a v w U H) (hAB : ∀ q, B q → A q) : sAt B a v w U H := ⟨h.1.narrow hAB, h.2.1.narrow hAB, h.2.2.1.narrow hAB, h.2.2.2.narrow hAB⟩
variable {A B : Nat → Prop} {adS adV adM : Nat → Nat} {adD b L : Nat} {xs : Nat → Int32}
theorem kEo_ok : mEok (kEo A adS adV adD b L xs) A := by
  refine ⟨fun u U H hvm h => ⟨⟨h.1.1.moved hvm, h.1.2.1.moved hvm, h.1.2.2.1.moved hvm, h.1.2.2.2.moved hvm⟩, ⟨h.2.1.1.moved hvm, va_Zq.moved hvm h.2.1.2⟩, fun j hj => (h.2.2.1 j hj).moved hvm, h.2.2.2.moved hvm⟩, fun U H H1 hq h => ⟨⟨h.1.1.kept hq, h.1.2.1.kept hq, h.1.2.2.1.kept hq, h.1.2.2.2.kept hq⟩, ⟨h.2.1.1.kept hq, va_Zq.kept h.2.1.2 hq⟩, fun j hj => (h.2.2.1 j hj).kept hq, h.2.2.2.kept hq⟩⟩
theorem kEo.narrow {U : State} {H : Heap} (h : kEo A adS adV adD b L xs U H) (hAB : ∀ q, B q → A q) : kEo B adS adV adD b L xs U H := ⟨⟨h.1.1.narrow hAB, h.1.2.1.narrow hAB, h.1.2.2.1.narrow hAB, h.1.2.2.2.narrow hAB⟩, ⟨h.2.1.1.narrow hAB, va_Zq.narrow h.2.1.2 hAB⟩, fun j hj => (h.2.2.1 j hj).narrow hAB, h.2.2.2.narrow hAB⟩
theorem xSt_of {l : Launch} {E : State → Heap → Prop} (hl : l.stackTraces = false) (hAB : ∀ q, B q → A q) (hE : ∀ U H, E U H → kEo A adS adV adD b L xs U H) : xSt l (kKe adM adS) E B adM adD := ⟨hl, fun U h => h.1, fun U H h => ((hE U H h).narrow hAB).1⟩
theorem sSt_of {S : Type} {Wd : S → State → Heap → Prop} (hAB : ∀ q, B q → A q) (hE : ∀ σ U H, Wd σ U H → kEo A adS adV adD b L xs U H) : sSt (kKe adM adS) B Wd adS adV := ⟨fun σ U H h => ((hE σ U H h).narrow hAB).2.1, fun j hj σ U H h => ((hE σ U H h).narrow hAB).2.2.1 j hj, fun U h => h.2.1⟩
/-! the start -/
variable {s : State} {args : Array Value}
theorem arr_of {ty : FieldType} (h : (Cond.arrayClass ty).before args s = true) : ∃ c, ArrOfT s c ty ∧ s.vm.findClass ("[" ++ ty.toString) = some c := by
  obtain ⟨c, k, comp, h1, h2, h3⟩ := Cond.arrayClass_spec h
  exact ⟨c, fun n z => ⟨fun k h => (by cases h), k, h2, comp, h3⟩, h1⟩
theorem arr_ov {C : String} (h : va_AO C s) : ∃ c, ArrOfT s c (.object C) ∧ va_RA s c (.object C) := by
  obtain ⟨comp, c, k, h1, h2, h3, h4, h5⟩ := Cond.arrayOver_spec h
  exact ⟨c, fun n z => ⟨fun k h => (by cases h), k, h3, comp, h4⟩, k, comp, h3, h4, h1, h5⟩
theorem tb_lw {w : Cond} (h : w ∈ tb) : w ∈ lw_tbl := (List.mem_filter.mp h).1
theorem K_start (hts : ∀ w ∈ lw_tbl, w.before args s = true) : ∃ (D : va_G) (cA : Nat → ClassId) (cJ : ClassId), va_K D vwCl (kTys cA) s ∧ va_K D vwCl [(cJ, .long)] s := by
  have ht : ∀ w ∈ tb, w.before args s = true := fun w h => hts w (tb_lw h)
  obtain ⟨c0, i0, k0⟩ := u_known (C := RX1) (T := TX1) (N := 3) (n := 3) ht hinX1 (hts (.instantiable RX1 3) (by decide +kernel))
  obtain ⟨c1, i1, k1⟩ := u_known (C := RX2) (T := TX2) (N := 3) (n := 3) ht hinX2 (hts (.instantiable RX2 3) (by decide +kernel))
  obtain ⟨c2, i2, k2⟩ := u_known (C := RX3) (T := TX3) (N := 12) (n := 12) ht hinX3 (hts (.instantiable RX3 12) (by decide +kernel))
  obtain ⟨c3, i3, k3⟩ := u_known (C := RX4) (T := TX4) (N := 7) (n := 7) ht hinX4 (hts (.instantiable RX4 7) (by decide +kernel))
  obtain ⟨c4, i4, k4⟩ := u_known (C := RX5) (T := TX5) (N := 5) (n := 5) ht hinX5 (hts (.instantiable RX5 5) (by decide +kernel))
  obtain ⟨c5, i5, k5⟩ := u_known (C := RX6) (T := TX6) (N := 8) (n := 8) ht hinX6 (hts (.instantiable RX6 8) (by decide +kernel))
  obtain ⟨c6, i6, k6⟩ := u_known (C := RX7) (T := TX7) (N := 2) (n := 2) ht hinX7 (hts (.instantiable RX7 2) (by decide +kernel))
  obtain ⟨c7, i7, k7⟩ := u_known (C := RX8) (T := TX8) (N := 6) (n := 6) ht hinX8 (hts (.instantiable RX8 6) (by decide +kernel))
  obtain ⟨c8, i8, k8⟩ := u_known (C := RX9) (T := TX9) (N := 13) (n := 13) ht hinX9 (hts (.instantiable RX9 13) (by decide +kernel))
  obtain ⟨c9, i9, k9⟩ := u_known (C := RX10) (T := TX10) (N := 60) (n := 60) ht hinX10 (hts (.instantiable RX10 60) (by decide +kernel))
  obtain ⟨aB, b1, b2⟩ := arr_of (hts (.arrayClass .byte) (by decide +kernel))
  obtain ⟨aI, d1, d2⟩ := arr_of (hts (.arrayClass .int) (by decide +kernel))
  obtain ⟨aZ, e1, e2⟩ := arr_of (hts (.arrayClass .boolean) (by decide +kernel))
  obtain ⟨aJ, f1, f2⟩ := arr_of (hts (.arrayClass .long) (by decide +kernel))
  obtain ⟨a14, g1, g2⟩ := arr_ov (C := "KeepForget$Hold") (hts (.arrayOver (.object "KeepForget$Hold")) (by decide +kernel))
  obtain ⟨a15, h1, h2⟩ := arr_ov (C := "KeepForget$Rule") (hts (.arrayOver (.object "KeepForget$Rule")) (by decide +kernel))
  obtain ⟨a16, j1, j2⟩ := arr_ov (C := "KeepForget$RuleSet") (hts (.arrayOver (.object "KeepForget$RuleSet")) (by decide +kernel))
  obtain ⟨a17, l1, l2⟩ := arr_ov (C := "KeepForget$Sweeper") (hts (.arrayOver (.object "KeepForget$Sweeper")) (by decide +kernel))
  obtain ⟨a18, m1, m2⟩ := arr_ov (C := "KeepForget$Thing") (hts (.arrayOver (.object "KeepForget$Thing")) (by decide +kernel))
  have hc : ∃ D : va_G, ∀ (c : Nat) (q : vw_C), vwCl[c]? = some q → u_Kn s q.1 q.2.1 q.2.2 (D.1 c) (D.2 c) := by
    refine ⟨(fun k => [c0, c1, c2, c3, c4, c5, c6, c7, c8, c9].getD k 0, fun k => [i0, i1, i2, i3, i4, i5, i6, i7, i8, i9].getD k (fun _ => 0)), fun k q hq => ?_⟩
    match k, hq with
    | 0, hq => cases hq; exact k0
    | 1, hq => cases hq; exact k1
    | 2, hq => cases hq; exact k2
    | 3, hq => cases hq; exact k3
    | 4, hq => cases hq; exact k4
    | 5, hq => cases hq; exact k5
    | 6, hq => cases hq; exact k6
    | 7, hq => cases hq; exact k7
    | 8, hq => cases hq; exact k8
    | 9, hq => cases hq; exact k9
    | k + 10, hq => simp at hq
  obtain ⟨D, hD⟩ := hc
  refine ⟨D, fun k => [aB, aI, aZ, a14, a15, a16, a17, a18].getD (k - 11) 0, aJ, ⟨hD, fun k q hq => ?_⟩, hD, fun k q hq => ?_⟩
  · match k, hq with
    | 0, hq => cases hq; exact ⟨b1, b2⟩
    | 1, hq => cases hq; exact ⟨d1, d2⟩
    | 2, hq => cases hq; exact ⟨e1, e2⟩
    | 3, hq => cases hq; exact ⟨g1, g2⟩
    | 4, hq => cases hq; exact ⟨h1, h2⟩
    | 5, hq => cases hq; exact ⟨j1, j2⟩
    | 6, hq => cases hq; exact ⟨l1, l2⟩
    | 7, hq => cases hq; exact ⟨m1, m2⟩
    | k + 8, hq => simp [kTys] at hq
  · match k, hq with
    | 0, hq => cases hq; exact ⟨f1, f2⟩
    | k + 1, hq => simp at hq
end START
