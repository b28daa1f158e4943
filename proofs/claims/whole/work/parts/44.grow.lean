/-! new cells of the class -/
section GROW
variable {a0 : Nat} {μ ν : Km} {σ σ' : Ms} {B B' : Nat → Nat → Nat → Nat} {tg tg' : Nat → Nat × Nat × Nat} {nT nS nH nP nw nL nT' nS' nH' nP' nw' nL' : Nat} {A A' : Ar}
theorem kK_setR (μ : Km) (a j : Nat) (x : Option Nat) : kK (kSetR μ a j x) = kK μ := rfl
theorem kI_setR (μ : Km) (a j : Nat) (x : Option Nat) : kI (kSetR μ a j x) = kI μ := rfl
theorem kN_setR (μ : Km) (a j : Nat) (x : Option Nat) : kN (kSetR μ a j x) = kN μ := rfl
theorem kn_setR (μ : Km) (a j : Nat) (x : Option Nat) : kn (kSetR μ a j x) = kn μ := rfl
theorem kn_new (μ : Km) (k z : Nat) : kn (kNew μ k z) = kn μ + 1 := rfl
theorem kK_new (μ : Km) (k z q : Nat) : kK (kNew μ k z) q = if q = kn μ then k else kK μ q := by
  unfold kNew kK kn va_up
  by_cases h : q = μ.2.2.2.2 <;> simp [h]
theorem kN_new (μ : Km) (k z q : Nat) : kN (kNew μ k z) q = if q = kn μ then z else kN μ q := by
  unfold kNew kN kn va_up
  by_cases h : q = μ.2.2.2.2 <;> simp [h]
theorem kI_new (μ : Km) (k z q j : Nat) : kI (kNew μ k z) q j = if q = kn μ then 0 else kI μ q j := by
  unfold kNew kI kn va_up
  by_cases h : q = μ.2.2.2.2 <;> simp [h]
theorem kR_new (μ : Km) (k z q j : Nat) : kR (kNew μ k z) q j = if q = kn μ then none else kR μ q j := by
  unfold kNew kR kn va_up
  by_cases h : q = μ.2.2.2.2 <;> simp [h]
theorem kdc_ne (c : Nat) : kdc c ≠ 0 := by
  unfold kdc
  split <;> decide
theorem RepB.lt (h : RepB a0 μ σ B tg nT nS nH nP nw nL) {c i j : Nat} (hv : vld σ.2 nT nS nH c i j) : B c i j < kn μ := by
  rcases Nat.lt_or_ge (B c i j) (kn μ) with q | q
  · exact q
  · have h1 := h.2.1.2.1 _ q
    rw [(h.2.1.2.2.1 c i j hv).1] at h1
    exact absurd h1 (kdc_ne c)
/-- what a told reference names is there -/
theorem rft_ext (hB : ∀ c i j, vld A nT nS nH c i j → B' c i j = B c i j) (h16 : ∀ i, i < nH → ibt (A 16 i) nT) (hT : nT ≤ 30) {c i j e : Nat} (hv : rfv A nT nS nH c i j e) : rft A B' c i j e = rft A B c i j e := by
  unfold rfv at hv
  split at hv
  · exact hB 15 e 0 ⟨hv.1, rfl⟩
  · exact hB 10 e 0 ⟨hv.1, rfl⟩
  · exact hB 9 e 0 ⟨hv.1, rfl⟩
  · exact hB 14 e 0 ⟨hv.1, rfl⟩
  · exact hB 6 0 0 ⟨by omega, rfl, rfl⟩
  · exact hB 8 0 0 ⟨by omega, rfl, rfl⟩
  · obtain ⟨h1, h2, h3⟩ := hv
    rcases h3 with rfl | rfl | rfl
    · exact hB 11 i 0 ⟨h1, rfl⟩
    · exact hB 12 i 0 ⟨h1, rfl⟩
    · exact hB 13 i 0 ⟨h1, rfl⟩
  · exact hB 10 _ 0 ⟨(ibt_c (h16 i hv.1) (by omega)).2, rfl⟩
  · obtain ⟨h1, h2, h3⟩ := hv
    rcases h3 with rfl | rfl
    · exact hB 16 i 0 ⟨h1, rfl⟩
    · exact hB 17 i 0 ⟨h1, rfl⟩
  · exact hB 18 i e ⟨hv.1, hv.2.2⟩
  · obtain ⟨h1, h2, h3⟩ := hv
    rcases h3 with rfl | rfl | rfl
    · exact hB 19 i j ⟨h1, h2⟩
    · exact hB 20 i j ⟨h1, h2⟩
    · exact hB 21 i j ⟨h1, h2⟩
  · obtain ⟨h1, h2, h3⟩ := hv
    rcases h3 with rfl | rfl | rfl | rfl | rfl | rfl | rfl
    · exact hB 0 0 0 ⟨by omega, rfl, rfl⟩
    · exact hB 1 0 0 ⟨by omega, rfl, rfl⟩
    · exact hB 2 0 0 ⟨by omega, rfl, rfl⟩
    · exact hB 3 0 0 ⟨by omega, rfl, rfl⟩
    · exact hB 4 0 0 ⟨by omega, rfl, rfl⟩
    · exact hB 5 0 0 ⟨by omega, rfl, rfl⟩
    · exact hB 7 0 0 ⟨by omega, rfl, rfl⟩
  · exact hv.elim
theorem rfv_vld {c i j e : Nat} (hv : rfv A nT nS nH c i j e) : vld A nT nS nH c i j := by
  unfold rfv at hv
  unfold vld
  split at hv
  · exact ⟨by omega, hv.2⟩
  · exact ⟨by omega, hv.2⟩
  · exact ⟨by omega, hv.2⟩
  · exact ⟨by omega, hv.2⟩
  · exact ⟨by omega, hv.2⟩
  · exact ⟨by omega, hv.2⟩
  · exact ⟨hv.1, hv.2.1⟩
  · exact ⟨hv.1, hv.2.1⟩
  · exact ⟨hv.1, hv.2.1⟩
  · exact ⟨hv.1, hv.2.1⟩
  · exact ⟨hv.1, hv.2.1⟩
  · exact ⟨by omega, hv.1, hv.2.1⟩
  · exact hv.elim
theorem RepB_grow (h : RepB a0 μ σ B tg nT nS nH nP nw nL) {N : Nat → Nat → Nat → Prop} (hI : mInv σ' nT' nS' nH' nP' nw' nL') (hz : ∀ q, kn ν ≤ q → kK ν q = 0) (hB : ∀ c i j, vld σ.2 nT nS nH c i j → B' c i j = B c i j) (ht : ∀ q, q < kn μ → tg' q = tg q) (hK : ∀ q, q < kn μ → kK ν q = kK μ q ∧ kN ν q = kN μ q) (hv : ∀ c i j, vld σ'.2 nT' nS' nH' c i j → vld σ.2 nT nS nH c i j ∨ N c i j) (hN : ∀ c i j, N c i j → kK ν (B' c i j) = kdc c ∧ kN ν (B' c i j) = lnc c ∧ tg' (B' c i j) = (c, i, j)) (hr : ∀ c i j e, rfv σ'.2 nT' nS' nH' c i j e → kR ν (B' c i j) e = some (rft σ'.2 B' c i j e)) (hw : ∀ c i j e, vwv σ'.2 nT' nS' nH' c i j e → kI ν (B' c i j) e = vwt σ' c i j e) : RepB a0 ν σ' B' tg' nT' nS' nH' nP' nw' nL' := by
  refine ⟨hI, ⟨?_, hz, fun c i j hc => ?_, hr⟩, hw⟩
  · rw [hB 22 0 0 ⟨by omega, rfl, rfl⟩]; exact h.2.1.1
  · rcases hv c i j hc with q | q
    · have h1 := h.lt q
      rw [hB c i j q, (hK _ h1).1, (hK _ h1).2, ht _ h1]
      exact h.2.1.2.2.1 c i j q
    · exact hN c i j q
theorem hv_2 {x : Int32} : ∀ c i j e, vwv σ.2 nT nS nH c i j e → vwt (mSet σ 2 x) c i j e = if c = 22 ∧ i = 0 ∧ j = 0 ∧ e = 6 then x else vwt σ c i j e := by
  intro c i j e hve
  unfold vwv at hve
  unfold vwt
  split at hve
  all_goals first | exact hve.elim | (simp [mSet_2, mSet_at]; done) | skip
  obtain ⟨h1, h2, h3⟩ := hve
  rcases h3 with rfl | rfl | rfl | rfl | rfl | rfl <;> simp [mSet_2, mSet_at, h1, h2]
theorem hv_3 {x : Int32} : ∀ c i j e, vwv σ.2 nT nS nH c i j e → vwt (mSet σ 3 x) c i j e = if c = 22 ∧ i = 0 ∧ j = 0 ∧ e = 4 then x else vwt σ c i j e := by
  intro c i j e hve
  unfold vwv at hve
  unfold vwt
  split at hve
  all_goals first | exact hve.elim | (simp [mSet_2, mSet_at]; done) | skip
  obtain ⟨h1, h2, h3⟩ := hve
  rcases h3 with rfl | rfl | rfl | rfl | rfl | rfl <;> simp [mSet_2, mSet_at, h1, h2]
theorem hv_4 {x : Int32} : ∀ c i j e, vwv σ.2 nT nS nH c i j e → vwt (mSet σ 4 x) c i j e = if c = 22 ∧ i = 0 ∧ j = 0 ∧ e = 9 then x else vwt σ c i j e := by
  intro c i j e hve
  unfold vwv at hve
  unfold vwt
  split at hve
  all_goals first | exact hve.elim | (simp [mSet_2, mSet_at]; done) | skip
  obtain ⟨h1, h2, h3⟩ := hve
  rcases h3 with rfl | rfl | rfl | rfl | rfl | rfl <;> simp [mSet_2, mSet_at, h1, h2]
end GROW
