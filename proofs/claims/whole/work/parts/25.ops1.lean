section OPS1
theorem i_nlt {a b : Int32} (h : ¬ a < b) : b ≤ a := by
  rw [Int32.lt_iff_toInt_lt] at h; rw [Int32.le_iff_toInt_le]; omega
theorem i_nle {a b : Int32} (h : ¬ a ≤ b) : b < a := by
  rw [Int32.le_iff_toInt_le] at h; rw [Int32.lt_iff_toInt_lt]; omega
theorem i_lt_n {a b : Int32} (h : a < b) : ¬ b ≤ a := by
  rw [Int32.lt_iff_toInt_lt] at h; rw [Int32.le_iff_toInt_le]; omega
theorem i_le_n {a b : Int32} (h : a ≤ b) : ¬ b < a := by
  rw [Int32.le_iff_toInt_le] at h; rw [Int32.lt_iff_toInt_lt]; omega
theorem i_rng {x : Int32} {lo hi : Nat} (hlo : ¬ x < nI lo) (hhi : x ≤ nI hi) (h2 : hi < 2 ^ 31) (h1 : lo < 2 ^ 31) : ∃ v : Nat, lo ≤ v ∧ v ≤ hi ∧ x = nI v := by
  rw [Int32.lt_iff_toInt_lt, nI_toInt h1] at hlo
  rw [Int32.le_iff_toInt_le, nI_toInt h2] at hhi
  refine ⟨x.toInt.toNat, by omega, by omega, ?_⟩
  rw [← Int32.toInt_inj, nI_toInt (by omega)]
  omega
/-- a day of ours, or none -/
theorem i_day (x : Int32) : (x < 0 ∨ (200000 : Int32) < x) ∨ ∃ d : Nat, d ≤ 200000 ∧ x = nI d := by
  by_cases h1 : x < 0
  · exact Or.inl (Or.inl h1)
  · by_cases h2 : (200000 : Int32) < x
    · exact Or.inl (Or.inr h2)
    · obtain ⟨v, -, h3, h4⟩ := i_rng (lo := 0) (hi := 200000) h1 (i_nlt h2) (by omega) (by omega)
      exact Or.inr ⟨v, h3, h4⟩
theorem i_below (x : Int32) {n : Nat} (hn : n < 2 ^ 31) : (x < 0 ∨ nI n ≤ x) ∨ ∃ d : Nat, d < n ∧ x = nI d := by
  by_cases h1 : x < 0
  · exact Or.inl (Or.inl h1)
  · by_cases h2 : nI n ≤ x
    · exact Or.inl (Or.inr h2)
    · have h3 := i_nle h2
      obtain ⟨v, -, h4, h5⟩ := i_rng (lo := 0) (hi := n) h1 (by rw [Int32.lt_iff_toInt_lt] at h3; rw [Int32.le_iff_toInt_le]; omega) hn (by omega)
      refine Or.inr ⟨v, ?_, h5⟩
      rw [h5, nI_ltI (by omega) hn] at h3
      exact h3
theorem nI_dayOk {d : Nat} (h : d ≤ 200000) : ¬ (nI d < 0 ∨ (200000 : Int32) < nI d) := by
  rintro (q | q)
  · exact nI_pos (by omega) q
  · exact nI_nlt (a := 200000) (b := d) h (by omega) q
variable {a0 : Nat}
theorem K9_checkDay_no {μ : Km} {x : Int32} (h : x < 0 ∨ (200000 : Int32) < x) : K9_checkDay μ x = some (.inr (false, μ)) := by
  unfold K9_checkDay K9_checkDay_B10
  by_cases h1 : x < 0
  · rw [if_pos h1]
  · rcases h with h | h
    · exact absurd h h1
    · rw [if_neg h1, if_neg (i_lt_n h)]
theorem K9_checkDay_ok {μ : Km} {d : Nat} (h : d ≤ 200000) : K9_checkDay μ (nI d) = some (.inl μ) := by
  unfold K9_checkDay
  rw [if_neg (nI_pos (by omega)), show (200000 : Int32) = nI 200000 from rfl, if_pos (nI_le h (by omega))]
theorem M_isDay_no {S : Type} {s : S} {x : Int32} (h : x < 0 ∨ (200000 : Int32) < x) : M_isDay s x = some 0 := by
  rw [M_isDay_eq]; simp [h, bI]
theorem M_isDay_ok {S : Type} {s : S} {d : Nat} (h : d ≤ 200000) : M_isDay s (nI d) = some 1 := by
  have := nI_dayOk h
  rw [M_isDay_eq]; simp [this, bI]
theorem op_later_ok : op_later (Rep a0) a0 := by
  intro μ σ a1 a2 h
  have hno : ∀ (μ : Km), (∃ s : Km, K9_later μ a0 a1 a2 = some (.inr (false, s)) ∧ s = μ) → M_later σ a1 a2 = some (0, mSet (mSet σ 0 0) 0 1) → Rep a0 μ σ → opI (Rep a0) (fun _ => 1) (fun b => !b) (K9_later μ a0 a1 a2) (M_later σ a1 a2) := by
    rintro μ ⟨s, e1, rfl⟩ e2 h
    exact opI_no e1 e2 rfl (mSet_0v _ _) (Rep_code (Rep_code h _) _)
  rcases i_day a1 with hd | ⟨d, hd, rfl⟩
  · refine hno μ ⟨μ, ?_, rfl⟩ ?_ h
    · unfold K9_later; rw [K9_checkDay_no hd]; rfl
    · unfold M_later; rw [bnd_eq, M_isDay_no hd, ob_some, if_pos rfl]; rfl
  · by_cases c1 : a2 < 0
    · refine hno μ ⟨μ, ?_, rfl⟩ ?_ h
      · unfold K9_later; rw [K9_checkDay_ok hd]; show (if a2 < 0 then _ else _) = _; rw [if_pos c1]; rfl
      · unfold M_later; rw [bnd_eq, M_isDay_ok hd, ob_some, if_neg (by decide), if_pos c1]; rfl
    · by_cases c2 : a2 ≤ 119988
      · obtain ⟨m, -, hm, rfl⟩ := i_rng (lo := 0) (hi := 119988) c1 c2 (by omega) (by omega)
        refine opI_ok (r := nI (cBh d m)) (μ' := μ) (σ' := mSet σ 0 0) ?_ ?_ (mSet_0v _ _) (Rep_code h _)
        · unfold K9_later; rw [K9_checkDay_ok hd]; show (if nI m < 0 then _ else _) = _; rw [if_neg c1, if_pos c2, K0_monthsAfter_eq hd (by omega)]; rfl
        · unfold M_later; rw [bnd_eq, M_isDay_ok hd, ob_some, if_neg (by decide), if_neg c1, if_pos c2, M_behind_eq hd (by omega)]; rfl
      · refine hno μ ⟨μ, ?_, rfl⟩ ?_ h
        · unfold K9_later; rw [K9_checkDay_ok hd]; show (if a2 < 0 then _ else _) = _; rw [if_neg c1, if_neg c2]; rfl
        · unfold M_later; rw [bnd_eq, M_isDay_ok hd, ob_some, if_neg (by decide), if_neg c1, if_neg c2]; rfl
theorem op_date_ok : op_date (Rep a0) a0 := by
  intro μ σ a1 a2 h
  rcases i_day a1 with hd | ⟨d, hd, rfl⟩
  · refine opI_no (b := false) (r := 0) (μ' := μ) (σ' := mSet (mSet σ 0 0) 0 1) ?_ ?_ rfl (mSet_0v _ _) (Rep_code (Rep_code h _) _)
    · unfold K9_date; rw [K9_checkDay_no hd]; rfl
    · unfold M_date; rw [bnd_eq, M_isDay_no hd, ob_some, if_pos rfl]; rfl
  · have h7 := mI_ok hd
    have kst : K9_date μ a0 (nI d) a2 = (if a2 = 0 then some (.inl ((2000 : Int32) + (nI (mI d) / (12 : Int32)), μ)) else if a2 = 1 then some (.inl ((nI (mI d) - nI (mI d) / (12 : Int32) * (12 : Int32)) + (1 : Int32), μ)) else if a2 = 2 then (K0_monthStart μ (nI (mI d))).bind (fun r_54 => some (.inl ((nI d - r_54) + (1 : Int32), μ))) else some (.inr (false, μ))) := by
      unfold K9_date; rw [K9_checkDay_ok hd]; show (K0_monthOf μ (nI d)).bind _ = _; rw [K0_monthOf_eq hd]; rfl
    by_cases c1 : a2 < 0
    · refine opI_no (b := false) (r := 0) (μ' := μ) (σ' := mSet (mSet σ 0 0) 0 1) ?_ ?_ rfl (mSet_0v _ _) (Rep_code (Rep_code h _) _)
      · rw [kst, if_neg (fun q => by subst q; exact absurd c1 (by decide)), if_neg (fun q => by subst q; exact absurd c1 (by decide)), if_neg (fun q => by subst q; exact absurd c1 (by decide))]
      · unfold M_date; rw [bnd_eq, M_isDay_ok hd, ob_some, if_neg (by decide), if_pos c1]; rfl
    · by_cases c2 : a2 ≤ 2
      · obtain ⟨m, -, hm, rfl⟩ := i_rng (lo := 0) (hi := 2) c1 c2 (by omega) (by omega)
        have mst : M_date σ (nI d) (nI m) = (if nI m = 0 then M_date_B67 (mSet σ 0 0) (nI (2000 + mI d / 12)) else if nI m = 1 then M_date_B67 (mSet σ 0 0) (nI (mI d % 12 + 1)) else (M_dayOf (mSet σ 0 0) (nI (2000 + mI d / 12)) (nI (mI d % 12 + 1)) (1 : Int32)).bind (fun r_63 => M_date_B67 (mSet σ 0 0) (((1 : Int32) + nI d) - r_63))) := by
          unfold M_date
          rw [bnd_eq, M_isDay_ok hd, ob_some, if_neg (by decide), if_neg c1, if_pos c2, M_yearOf_eq hd, ob_some, M_monthOf_eq hd, ob_some]
        rcases (show m = 0 ∨ m = 1 ∨ m = 2 by omega) with rfl | rfl | rfl
        · refine opI_ok (r := nI (2000 + mI d / 12)) (μ' := μ) (σ' := mSet σ 0 0) ?_ ?_ (mSet_0v _ _) (Rep_code h _)
          · rw [kst, if_pos (by decide), show (12 : Int32) = nI 12 from rfl, pk_div (by omega) (by omega) (by omega), show (2000 : Int32) = nI 2000 from rfl, nI_add]
          · rw [mst, if_pos (by decide)]; rfl
        · refine opI_ok (r := nI (mI d % 12 + 1)) (μ' := μ) (σ' := mSet σ 0 0) ?_ ?_ (mSet_0v _ _) (Rep_code h _)
          · rw [kst, if_neg (by decide), if_pos (by decide), show (12 : Int32) = nI 12 from rfl, pk_rem (by omega) (by omega) (by omega), nI_1]
          · rw [mst, if_neg (by decide), if_pos (by decide)]; rfl
        · refine opI_ok (r := nI (d - mS (mI d) + 1)) (μ' := μ) (σ' := mSet σ 0 0) ?_ ?_ (mSet_0v _ _) (Rep_code h _)
          · rw [kst, if_neg (by decide), if_neg (by decide), if_pos (by decide), K0_monthStart_eq (by omega), ob_some, pk_sub h7.1, nI_1]
          · rw [mst, if_neg (by decide), if_neg (by decide), show (1 : Int32) = nI 1 from rfl, M_dayOf_eq (by omega) (by omega) (by omega) (by omega), ob_some, show 12 * (mI d / 12) + (mI d % 12 + 1) - 1 = mI d by omega, nI_add, pk_sub (by omega), show 1 + d - (mS (mI d) + 1 - 1) = d - mS (mI d) + 1 by omega]; rfl
      · have c3 := i_nle c2
        refine opI_no (b := false) (r := 0) (μ' := μ) (σ' := mSet (mSet σ 0 0) 0 1) ?_ ?_ rfl (mSet_0v _ _) (Rep_code (Rep_code h _) _)
        · rw [kst, if_neg (fun q => by subst q; exact absurd c3 (by decide)), if_neg (fun q => by subst q; exact absurd c3 (by decide)), if_neg (fun q => by subst q; exact absurd c3 (by decide))]
        · unfold M_date; rw [bnd_eq, M_isDay_ok hd, ob_some, if_neg (by decide), if_neg c1, if_neg c2]; rfl
theorem op_day_ok : op_day (Rep a0) a0 := by
  intro μ σ a1 a2 a3 h
  have no : ∀ {k : Option ((Int32 × Km) ⊕ (Bool × Km))} {mr : Option (Int32 × Ms)}, k = some (.inr (false, μ)) → mr = some (0, mSet (mSet σ 0 0) 0 1) → opI (Rep a0) (fun _ => 1) (fun b => !b) k mr := fun e1 e2 => opI_no e1 e2 rfl (mSet_0v _ _) (Rep_code (Rep_code h _) _)
  by_cases c1 : a1 < 2000
  · exact no (by unfold K9_day; rw [if_pos c1]; rfl) (by unfold M_day; rw [bnd_eq, if_pos c1]; rfl)
  by_cases c2 : 2600 < a1
  · have c9 : 2547 < a1 := by rw [Int32.lt_iff_toInt_lt] at *; exact Int.lt_trans (by decide) c2
    exact no (by unfold K9_day; rw [if_neg c1, if_pos c9]; rfl) (by unfold M_day; rw [bnd_eq, if_neg c1, if_pos c2]; rfl)
  obtain ⟨y, hy1, hy2, rfl⟩ := i_rng (lo := 2000) (hi := 2600) c1 (i_nlt c2) (by omega) (by omega)
  obtain ⟨Y, rfl⟩ : ∃ Y, y = 2000 + Y := ⟨y - 2000, by omega⟩
  by_cases c3 : a2 < 1
  · refine no ?_ (by unfold M_day; rw [bnd_eq, if_neg c1, if_neg c2, if_pos c3]; rfl)
    unfold K9_day
    rw [if_neg c1]
    by_cases c4 : 2547 < nI (2000 + Y)
    · rw [if_pos c4]; rfl
    · rw [if_neg c4, if_pos c3]; rfl
  by_cases c5 : 12 < a2
  · refine no ?_ (by unfold M_day; rw [bnd_eq, if_neg c1, if_neg c2, if_neg c3, if_pos c5]; rfl)
    unfold K9_day
    rw [if_neg c1]
    by_cases c4 : 2547 < nI (2000 + Y)
    · rw [if_pos c4]; rfl
    · rw [if_neg c4, if_neg c3, if_neg (i_lt_n c5)]; rfl
  obtain ⟨m, hm1, hm2, rfl⟩ := i_rng (lo := 1) (hi := 12) c3 (i_nlt c5) (by omega) (by omega)
  have kst : ¬ 2547 < nI (2000 + Y) → K9_day μ a0 (nI (2000 + Y)) (nI m) a3 = (if a3 < (1 : Int32) then K9_day_B63 μ else if a3 ≤ nI (mS (12 * Y + m) - mS (12 * Y + m - 1)) then (if (nI (mS (12 * Y + m - 1)) + a3) - (1 : Int32) ≤ (200000 : Int32) then some (.inl ((nI (mS (12 * Y + m - 1)) + a3) - (1 : Int32), μ)) else some (.inr (false, μ))) else K9_day_B63 μ) := by
    intro c4
    unfold K9_day
    rw [if_neg c1, if_neg c4, if_neg c3, if_pos (i_nlt c5), bnd_eq, show (2000 : Int32) = nI 2000 from rfl, pk_sub (by omega), show (12 : Int32) = nI 12 from rfl, pk_mul, nI_add, show (1 : Int32) = nI 1 from rfl, pk_sub (by omega), show (2000 + Y - 2000) * 12 + m - 1 = 12 * Y + m - 1 by omega, K0_monthLength_eq (by omega), ob_some, K0_monthStart_eq (by omega), ob_some, show 12 * Y + m - 1 + 1 = 12 * Y + m by omega]
    rfl
  have mst : M_day σ (nI (2000 + Y)) (nI m) a3 = (if a3 < (1 : Int32) then M_day_B55 (mSet σ 0 0) else if nI (mS (12 * Y + m) - mS (12 * Y + m - 1)) < a3 then M_day_B55 (mSet σ 0 0) else (M_dayOf (mSet σ 0 0) (nI (2000 + Y)) (nI m) a3).bind (fun r_47 => if r_47 ≤ (200000 : Int32) then (M_dayOf (mSet σ 0 0) (nI (2000 + Y)) (nI m) a3).bind (fun r_64 => some (r_64, mSet σ 0 0)) else M_day_B55 (mSet σ 0 0))) := by
    unfold M_day
    rw [bnd_eq, if_neg c1, if_neg c2, if_neg c3, if_neg c5, M_monthDays_eq (by omega) hm1 hm2, ob_some]
  have hst := mS_step (12 * Y + m - 1)
  rw [show 12 * Y + m - 1 + 1 = 12 * Y + m by omega] at hst
  have hsm := mS_small (i := 12 * Y + m) (by omega)
  by_cases c4 : 2547 < nI (2000 + Y)
  · refine no (by unfold K9_day; rw [if_neg c1, if_pos c4]; rfl) ?_
    rw [mst]
    by_cases c6 : a3 < 1
    · rw [if_pos c6]; rfl
    rw [if_neg c6]
    by_cases c7 : nI (mS (12 * Y + m) - mS (12 * Y + m - 1)) < a3
    · rw [if_pos c7]; rfl
    rw [if_neg c7]
    obtain ⟨d, hd1, hd2, rfl⟩ := i_rng (lo := 1) (hi := mS (12 * Y + m) - mS (12 * Y + m - 1)) c6 (i_nlt c7) (by omega) (by omega)
    have hY : 548 ≤ Y := by
      have c8 : nI 2547 < nI (2000 + Y) := c4
      rw [nI_ltI (by omega) (by omega)] at c8
      omega
    have h8 := mS_mono (show 12 * 548 + 0 ≤ 12 * Y + m - 1 by omega)
    have e9 : mS (12 * 548 + 0) = 200153 := by decide
    rw [M_dayOf_eq (by omega) hm1 hm2 hd1, ob_some, show (200000 : Int32) = nI 200000 from rfl, if_neg (nI_ge (by omega) (by omega))]
    rfl
  · rw [kst c4, mst]
    by_cases c6 : a3 < 1
    · exact no (by rw [if_pos c6]; rfl) (by rw [if_pos c6]; rfl)
    by_cases c7 : nI (mS (12 * Y + m) - mS (12 * Y + m - 1)) < a3
    · exact no (by rw [if_neg c6, if_neg (i_lt_n c7)]; rfl) (by rw [if_neg c6, if_pos c7]; rfl)
    obtain ⟨d, hd1, hd2, rfl⟩ := i_rng (lo := 1) (hi := mS (12 * Y + m) - mS (12 * Y + m - 1)) c6 (i_nlt c7) (by omega) (by omega)
    rw [if_neg c6, if_neg c6, if_pos (i_nlt c7), if_neg c7, M_dayOf_eq (by omega) hm1 hm2 hd1, ob_some, ob_some, nI_add, show (1 : Int32) = nI 1 from rfl, pk_sub (by omega)]
    by_cases c8 : nI (mS (12 * Y + m - 1) + d - 1) ≤ 200000
    · rw [if_pos c8, if_pos c8]
      exact opI_ok rfl rfl (mSet_0v _ _) (Rep_code h _)
    · rw [if_neg c8, if_neg c8]
      exact no rfl rfl
theorem op_fault_ok : op_fault (Rep a0) a0 := by
  intro μ σ h
  have h9 := (Rep_ok a0).1 μ σ h
  obtain ⟨B, tg, nT, nS, nH, nP, nw, nL, hR⟩ := h
  have e := hR.2.2 22 0 0 2 ⟨rfl, rfl, by omega⟩
  rw [hR.2.1.1] at e
  refine ⟨kI μ a0 2, mSet σ 0 0, ?_, ?_, ⟨B, tg, nT, nS, nH, nP, nw, nL, RepB_code hR _⟩⟩
  · unfold K9_fault; rw [if_pos h9]
  · rw [e]; rfl
end OPS1
