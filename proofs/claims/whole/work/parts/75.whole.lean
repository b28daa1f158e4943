/-! from the law's entry to its loop -/
section WHOLE
theorem mArr_rg {k : Nat} (h : mArr k = true) : (9 ≤ k ∧ k ≤ 38) ∨ k = 53 ∨ (55 ≤ k ∧ k ≤ 59) := by
  unfold mArr at h
  split at h
  all_goals first | omega | cases h
theorem mOf_in {k : Nat} (h : mArr k = true) : 1 ≤ mOf k ∧ mOf k ≤ 36 := by
  have := mArr_rg h
  unfold mOf
  split
  · omega
  · split <;> omega
theorem mOf_inj {i j : Nat} (hi : mArr i = true) (hj : mArr j = true) (h : mOf i = mOf j) : i = j := by
  have a := mArr_rg hi
  have b := mArr_rg hj
  unfold mOf at h
  split at h
  · split at h
    · omega
    · split at h <;> omega
  · split at h
    · split at h
      · omega
      · split at h <;> omega
    · split at h
      · omega
      · split at h <;> omega
theorem mO_1 : ∀ k, k < 60 → (kL 9)[k]? = some (mArr k) := by decide +kernel
theorem mO_2 : ∀ k, k < 60 → (mArr k = false ∨ (0, k, mOf k) ∈ rf10) := by decide +kernel
theorem mO_3 : ∀ k, k < 60 → (mArr k = false ∨ (kd10 (mOf k) = (if mZ k = true then 13 else 12) ∧ ln10 (mOf k) = mLen k)) := by decide +kernel
theorem mOf_tab (k : Nat) (hk : k < 60) : (kL 9)[k]? = some (mArr k) ∧ (mArr k = true → (0, k, mOf k) ∈ rf10 ∧ kd10 (mOf k) = (if mZ k = true then 13 else 12) ∧ ln10 (mOf k) = mLen k) := by
  refine ⟨mO_1 k hk, fun h => ⟨(mO_2 k hk).resolve_left (fun z => by rw [h] at z; cases z), ?_⟩⟩
  exact (mO_3 k hk).resolve_left (fun z => by rw [h] at z; cases z)
variable {D : va_G} {cA : Nat → ClassId} {μ9 μ10 : Km} {n0 h0 : Nat}
/-- the reference's object and arrays, as its own world has them -/
theorem M_cells (h10 : Bld μ9 h0 kd10 ln10 37 vi10 rf10 μ10) : kFl μ10 h0 0 (kL 9) = mFs sM0.1 (fun k => h0 + mOf k) := by
  apply List.ext_getElem?
  intro i
  by_cases hi : i < 60
  · rw [kFl_get, mFs_get hi, (mOf_tab i hi).1]
    show some _ = some _
    congr 1
    show (if mArr i = true then va_rf (kR μ10 h0 (0 + i)) else Value.int (kI μ10 h0 (0 + i))) = mF sM0.1 (fun k => h0 + mOf k) i
    unfold mF
    rw [Nat.zero_add]
    by_cases c : mArr i = true
    · rw [if_pos c, if_pos c]
      have t : kR μ10 h0 i = some (h0 + mOf i) := (h10.2.2.2.2 _ ((mOf_tab i hi).2 c).1).1
      rw [t]
      rfl
    · rw [if_neg c, if_neg c]
      have t : kI μ10 h0 i = vi10 0 i := (h10.2.2.2.1 0 (by omega)).2.2 i
      rw [t]
      rfl
  · rw [List.getElem?_eq_none (by rw [kFl_len]; exact Nat.le_trans (by decide) (Nat.le_of_not_lt hi)), List.getElem?_eq_none (by rw [mFs_len]; omega)]
theorem M_arr (h10 : Bld μ9 h0 kd10 ln10 37 vi10 rf10 μ10) {k : Nat} (hk : mArr k = true) : kK μ10 (h0 + mOf k) ≠ 0 ∧ kE cA μ10 (h0 + mOf k) = .inl (mCA (cA 12) (cA 13) k, mLen k, .inl (sM0.2 k)) := by
  have r := mArr_rg hk
  have m := mOf_in hk
  obtain ⟨t1, t2, t3⟩ := (mOf_tab k (by omega)).2 hk
  obtain ⟨g1, g2, g3⟩ := h10.2.2.2.1 (mOf k) (by omega)
  have g4 : kI μ10 (h0 + mOf k) = sM0.2 k := by
    funext j
    exact g3 j
  rw [t2] at g1
  rw [t3] at g2
  by_cases c : mZ k = true
  · rw [if_pos c] at g1
    refine ⟨by rw [g1]; decide, ?_⟩
    rw [kE_int g1 (by omega) (by omega), g2, g4]
    unfold mCA
    rw [if_pos c]
  · rw [if_neg c] at g1
    refine ⟨by rw [g1]; decide, ?_⟩
    rw [kE_int g1 (by omega) (by omega), g2, g4]
    unfold mCA
    rw [if_neg c]
def kCut (μ : Km) (h0 n : Nat) : Km := (fun q => if h0 ≤ q then 0 else kK μ q, kI μ, kR μ, kN μ, n)
theorem kCut_E (μ : Km) {h0 n q : Nat} (hq : q < h0) : kE cA (kCut μ h0 n) q = kE cA μ q := kE_cong (show (if h0 ≤ q then 0 else kK μ q) = kK μ q by rw [if_neg (by omega)]) rfl rfl rfl
end WHOLE
