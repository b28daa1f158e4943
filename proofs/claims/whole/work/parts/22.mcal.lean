/-! the reference's calendar -/
section MCAL
variable {S : Type}
theorem M_isLeap_eq {s : S} {y : Nat} (h : y < 100000) : M_isLeap s (nI y) = some (bI (decide (y % 4 = 0 ∧ (y % 100 ≠ 0 ∨ y % 400 = 0)))) := by
  unfold M_isLeap M_isLeap_B21 M_isLeap_B25 M_isLeap_B26
  rw [show (4 : Int32) = nI 4 from rfl, show (100 : Int32) = nI 100 from rfl, show (400 : Int32) = nI 400 from rfl, pk_rem (by omega) (by omega) (by omega), pk_rem (by omega) (by omega) (by omega), pk_rem (by omega) (by omega) (by omega), show (0 : Int32) = nI 0 from rfl]
  simp only [nI_eq (show y % 4 < 2 ^ 31 by omega) (show 0 < 2 ^ 31 by omega), nI_eq (show y % 100 < 2 ^ 31 by omega) (show 0 < 2 ^ 31 by omega), nI_eq (show y % 400 < 2 ^ 31 by omega) (show 0 < 2 ^ 31 by omega)]
  by_cases h1 : y % 4 = 0 <;> by_cases h2 : y % 100 = 0 <;> by_cases h3 : y % 400 = 0 <;> simp [h1, h2, h3, bI] <;> decide
theorem M_yearDay_eq {s : S} {Y : Nat} (h : Y < 10000) : M_yearDay s (nI (2000 + Y)) = some (nI (mS (12 * Y))) := by
  unfold M_yearDay M_leaps
  rw [ob_some, ob_some]
  have e0 : (1999 : Int32) / 4 - 1999 / 100 + 1999 / 400 = nI 484 := by decide
  rw [e0, show (1 : Int32) = nI 1 from rfl, pk_sub (by omega), show (2000 : Int32) = nI 2000 from rfl, pk_sub (by omega), show (4 : Int32) = nI 4 from rfl, show (100 : Int32) = nI 100 from rfl, show (400 : Int32) = nI 400 from rfl, show (365 : Int32) = nI 365 from rfl]
  rw [pk_div (by omega) (by omega) (by omega), pk_div (by omega) (by omega) (by omega), pk_div (by omega) (by omega) (by omega), pk_sub (by omega), nI_add, pk_mul, nI_add, pk_sub (by omega)]
  have e1 := mS_at Y 0 (by omega)
  rw [Nat.add_zero] at e1
  rw [e1, mS2_0]
  refine congrArg (fun n => some (nI n)) ?_
  unfold lpn
  omega
theorem M_monthDays_eq {s : S} {Y m : Nat} (hY : Y < 10000) (h1 : 1 ≤ m) (h2 : m ≤ 12) : M_monthDays s (nI (2000 + Y)) (nI m) = some (nI (mS (12 * Y + m) - mS (12 * Y + m - 1))) := by
  have hup := lpn_up Y
  unfold M_monthDays M_monthDays_B45 M_monthDays_B52
  rw [M_isLeap_eq (by omega), ob_some]
  rcases (show m = 1 ∨ m = 2 ∨ m = 3 ∨ m = 4 ∨ m = 5 ∨ m = 6 ∨ m = 7 ∨ m = 8 ∨ m = 9 ∨ m = 10 ∨ m = 11 ∨ m = 12 by omega) with rfl | rfl | rfl | rfl | rfl | rfl | rfl | rfl | rfl | rfl | rfl | rfl
  · rw [if_neg (by decide), if_neg (by decide), if_neg (by decide), if_neg (by decide), if_neg (by decide), mS_at _ _ (by omega), show 12 * Y + 1 - 1 = 12 * Y + 0 by omega, mS_at _ _ (by omega), mS2_0, mS2_1, show Y * 365 + 31 + lpn Y - (Y * 365 + lpn Y) = 31 by omega]; rfl
  · rw [if_pos (by decide), mS_at _ _ (by omega), show 12 * Y + 2 - 1 = 12 * Y + 1 by omega, mS_at _ _ (by omega), mS2_1, mS2_2]
    by_cases hl : (2000 + Y) % 4 = 0 ∧ ((2000 + Y) % 100 ≠ 0 ∨ (2000 + Y) % 400 = 0)
    · have e : lpn (Y + 1) = lpn Y + 1 := by unfold lpn; omega
      rw [if_neg (by simp [hl, bI]), e, show Y * 365 + 59 + (lpn Y + 1) - (Y * 365 + 31 + lpn Y) = 29 by omega]; rfl
    · have e : lpn (Y + 1) = lpn Y := by unfold lpn; omega
      rw [if_pos (by simp [hl, bI]), e, show Y * 365 + 59 + lpn Y - (Y * 365 + 31 + lpn Y) = 28 by omega]; rfl
  · rw [if_neg (by decide), if_neg (by decide), if_neg (by decide), if_neg (by decide), if_neg (by decide), mS_at _ _ (by omega), show 12 * Y + 3 - 1 = 12 * Y + 2 by omega, mS_at _ _ (by omega), mS2_2, mS2_3, show Y * 365 + 90 + lpn (Y + 1) - (Y * 365 + 59 + lpn (Y + 1)) = 31 by omega]; rfl
  · rw [if_neg (by decide), if_pos (by decide), mS_at _ _ (by omega), show 12 * Y + 4 - 1 = 12 * Y + 3 by omega, mS_at _ _ (by omega), mS2_3, mS2_4, show Y * 365 + 120 + lpn (Y + 1) - (Y * 365 + 90 + lpn (Y + 1)) = 30 by omega]; rfl
  · rw [if_neg (by decide), if_neg (by decide), if_neg (by decide), if_neg (by decide), if_neg (by decide), mS_at _ _ (by omega), show 12 * Y + 5 - 1 = 12 * Y + 4 by omega, mS_at _ _ (by omega), mS2_4, mS2_5, show Y * 365 + 151 + lpn (Y + 1) - (Y * 365 + 120 + lpn (Y + 1)) = 31 by omega]; rfl
  · rw [if_neg (by decide), if_neg (by decide), if_pos (by decide), mS_at _ _ (by omega), show 12 * Y + 6 - 1 = 12 * Y + 5 by omega, mS_at _ _ (by omega), mS2_5, mS2_6, show Y * 365 + 181 + lpn (Y + 1) - (Y * 365 + 151 + lpn (Y + 1)) = 30 by omega]; rfl
  · rw [if_neg (by decide), if_neg (by decide), if_neg (by decide), if_neg (by decide), if_neg (by decide), mS_at _ _ (by omega), show 12 * Y + 7 - 1 = 12 * Y + 6 by omega, mS_at _ _ (by omega), mS2_6, mS2_7, show Y * 365 + 212 + lpn (Y + 1) - (Y * 365 + 181 + lpn (Y + 1)) = 31 by omega]; rfl
  · rw [if_neg (by decide), if_neg (by decide), if_neg (by decide), if_neg (by decide), if_neg (by decide), mS_at _ _ (by omega), show 12 * Y + 8 - 1 = 12 * Y + 7 by omega, mS_at _ _ (by omega), mS2_7, mS2_8, show Y * 365 + 243 + lpn (Y + 1) - (Y * 365 + 212 + lpn (Y + 1)) = 31 by omega]; rfl
  · rw [if_neg (by decide), if_neg (by decide), if_neg (by decide), if_pos (by decide), mS_at _ _ (by omega), show 12 * Y + 9 - 1 = 12 * Y + 8 by omega, mS_at _ _ (by omega), mS2_8, mS2_9, show Y * 365 + 273 + lpn (Y + 1) - (Y * 365 + 243 + lpn (Y + 1)) = 30 by omega]; rfl
  · rw [if_neg (by decide), if_neg (by decide), if_neg (by decide), if_neg (by decide), if_neg (by decide), mS_at _ _ (by omega), show 12 * Y + 10 - 1 = 12 * Y + 9 by omega, mS_at _ _ (by omega), mS2_9, mS2_10, show Y * 365 + 304 + lpn (Y + 1) - (Y * 365 + 273 + lpn (Y + 1)) = 31 by omega]; rfl
  · rw [if_neg (by decide), if_neg (by decide), if_neg (by decide), if_neg (by decide), if_pos (by decide), mS_at _ _ (by omega), show 12 * Y + 11 - 1 = 12 * Y + 10 by omega, mS_at _ _ (by omega), mS2_10, mS2_11, show Y * 365 + 334 + lpn (Y + 1) - (Y * 365 + 304 + lpn (Y + 1)) = 30 by omega]; rfl
  · rw [if_neg (by decide), if_neg (by decide), if_neg (by decide), if_neg (by decide), if_neg (by decide), show 12 * Y + 12 = 12 * (Y + 1) + 0 by omega, mS_at _ _ (by omega), show 12 * (Y + 1) + 0 - 1 = 12 * Y + 11 by omega, mS_at _ _ (by omega), mS2_0, mS2_11, show (Y + 1) * 365 + lpn (Y + 1) - (Y * 365 + 334 + lpn (Y + 1)) = 31 by omega]; rfl
theorem M_dayOf_L {Rt : Type} {s : S} {k : Int32 → Option Rt} {Y m : Nat} (hY : Y < 10000) (h2 : m ≤ 12) : ∀ (F j e : Nat), 1 ≤ j → j ≤ m → m < j + F → M_dayOf_L12 s (nI (2000 + Y)) (nI m) k F (nI (mS (12 * Y + j - 1) + e)) (nI j) = k (nI (mS (12 * Y + m - 1) + e)) := by
  intro F
  induction F with
  | zero => intro j e h1 h3 h4; omega
  | succ F ih =>
    intro j e h1 h3 h4
    unfold M_dayOf_L12
    by_cases hj : j = m
    · subst hj
      rw [if_pos (nI_le (Nat.le_refl _) (by omega))]
    · rw [if_neg (nI_ge (by omega) (by omega)), M_monthDays_eq hY h1 (by omega), ob_some, bnd_eq, nI_add, nI_1]
      have h5 := (mS_step (12 * Y + j - 1)).1
      rw [show 12 * Y + j - 1 + 1 = 12 * Y + j by omega] at h5
      have h6 := ih (j + 1) e (by omega) (by omega) (by omega)
      rw [show 12 * Y + (j + 1) - 1 = 12 * Y + j by omega] at h6
      rw [show mS (12 * Y + j - 1) + e + (mS (12 * Y + j) - mS (12 * Y + j - 1)) = mS (12 * Y + j) + e by omega]
      exact h6
theorem M_dayOf_eq {s : S} {Y m d : Nat} (hY : Y < 10000) (h1 : 1 ≤ m) (h2 : m ≤ 12) (hd : 1 ≤ d) : M_dayOf s (nI (2000 + Y)) (nI m) (nI d) = some (nI (mS (12 * Y + m - 1) + d - 1)) := by
  unfold M_dayOf
  rw [M_yearDay_eq hY, ob_some, bnd_eq, nI_add, show (1 : Int32) = nI 1 from rfl, pk_sub (by omega)]
  have h := M_dayOf_L (s := s) (k := fun v3_33 => some v3_33) hY h2 gF 1 (d - 1) (by omega) h1 (by unfold gF; omega)
  rw [show 12 * Y + 1 - 1 = 12 * Y by omega] at h
  rw [show mS (12 * Y) + d - 1 = mS (12 * Y) + (d - 1) by omega, h, show mS (12 * Y + m - 1) + d - 1 = mS (12 * Y + m - 1) + (d - 1) by omega]
theorem M_isDay_eq {s : S} (x : Int32) : M_isDay s x = some (bI (decide (¬ (x < 0 ∨ 200000 < x)))) := by
  unfold M_isDay M_isDay_B14 M_isDay_B15
  by_cases h1 : x < 0
  · rw [if_pos h1, if_pos (by decide)]; simp [h1, bI]
  · rw [if_neg h1]
    by_cases h2 : 200000 < x
    · rw [if_pos h2, if_pos (by decide)]; simp [h2, bI]
    · rw [if_neg h2, if_pos (by decide)]; simp [h1, h2, bI]
theorem M_yearOf_L {Rt : Type} {s : S} {k : Int32 → Option Rt} {d : Nat} (hd : d ≤ 200000) : ∀ (F Y : Nat), Y ≤ mI d / 12 → mI d / 12 < Y + F → M_yearOf_L10 s (nI d) k F (nI (2000 + Y)) = k (nI (2000 + mI d / 12)) := by
  have h7 := mI_ok hd
  intro F
  induction F with
  | zero => intro Y h1 h2; omega
  | succ F ih =>
    intro Y h1 h2
    unfold M_yearOf_L10
    rw [nI_1, show 2000 + Y + 1 = 2000 + (Y + 1) by omega, M_yearDay_eq (by omega), ob_some]
    have hb := mS_small (i := 12 * (Y + 1)) (by omega)
    by_cases hy : Y = mI d / 12
    · have := mS_mono (show mI d + 1 ≤ 12 * (Y + 1) by omega)
      rw [if_pos (nI_lt (by omega) (by omega)), hy]
    · have := mS_mono (show 12 * (Y + 1) ≤ mI d by omega)
      rw [if_neg (nI_nlt (by omega) (by omega))]
      exact ih (Y + 1) (by omega) (by omega)
theorem M_yearOf_eq {s : S} {d : Nat} (hd : d ≤ 200000) : M_yearOf s (nI d) = some (nI (2000 + mI d / 12)) := by
  have h7 := mI_ok hd
  unfold M_yearOf
  rw [bnd_eq, show (366 : Int32) = nI 366 from rfl, show (2000 : Int32) = nI 2000 from rfl, pk_div (by omega) (by omega) (by omega), nI_add]
  refine M_yearOf_L hd gF _ ?_ (by unfold gF; omega)
  have e1 := mS_at (d / 366) 0 (by omega)
  rw [Nat.add_zero] at e1
  have h1 : mS (12 * (d / 366)) ≤ d := by
    rw [e1, mS2_0]
    have := lpn_hi (d / 366)
    unfold lpn at *
    omega
  rcases Nat.lt_or_ge (mI d / 12) (d / 366) with q | q
  · have := mS_mono (show mI d + 1 ≤ 12 * (d / 366) by omega)
    omega
  · exact q
theorem M_monthOf_L {Rt : Type} {s : S} {k : Int32 → Option Rt} {d : Nat} (hd : d ≤ 200000) : ∀ (F m : Nat), 1 ≤ m → m ≤ mI d % 12 + 1 → mI d % 12 + 1 < m + F → M_monthOf_L7 s (nI d) (nI (2000 + mI d / 12)) k F (nI m) = k (nI (mI d % 12 + 1)) := by
  have h7 := mI_ok hd
  intro F
  induction F with
  | zero => intro m h1 h2 h3; omega
  | succ F ih =>
    intro m h1 h2 h3
    unfold M_monthOf_L7
    rw [show (12 : Int32) = nI 12 from rfl]
    by_cases h12 : m = 12
    · subst h12
      rw [if_pos (nI_le (Nat.le_refl _) (by omega)), show mI d % 12 + 1 = 12 by omega]
    · rw [if_neg (nI_ge (by omega) (by omega)), nI_1, show (1 : Int32) = nI 1 from rfl, M_dayOf_eq (by omega) (by omega) (by omega) (by omega), ob_some]
      have hb := mS_small (i := 12 * (mI d / 12) + (m + 1) - 1) (by omega)
      by_cases hm : m = mI d % 12 + 1
      · rw [if_pos (nI_lt (by rw [show 12 * (mI d / 12) + (m + 1) - 1 = mI d + 1 by omega]; omega) (by omega)), hm]
      · have := mS_mono (show 12 * (mI d / 12) + (m + 1) - 1 ≤ mI d by omega)
        rw [if_neg (nI_nlt (by omega) (by omega))]
        exact ih (m + 1) (by omega) (by omega) (by omega)
theorem M_monthOf_eq {s : S} {d : Nat} (hd : d ≤ 200000) : M_monthOf s (nI d) = some (nI (mI d % 12 + 1)) := by
  unfold M_monthOf
  rw [M_yearOf_eq hd, ob_some]
  exact M_monthOf_L hd gF 1 (by omega) (by omega) (by unfold gF; omega)
theorem M_behind_eq {s : S} {d m : Nat} (hd : d ≤ 200000) (hm : m ≤ 200000) : M_behind s (nI d) (nI m) = some (nI (cBh d m)) := by
  have h7 := mI_ok hd
  have hs := mS_step (mI d + m)
  have hb := mS_small (i := mI d + m + 1) (by omega)
  unfold M_behind
  rw [M_yearOf_eq hd, ob_some, M_monthOf_eq hd, ob_some, show (1 : Int32) = nI 1 from rfl, M_dayOf_eq (by omega) (by omega) (by omega) (by omega), ob_some, bnd_eq, bnd_eq, bnd_eq, bnd_eq, show (12 : Int32) = nI 12 from rfl, show (2600 : Int32) = nI 2600 from rfl, show (200000 : Int32) = nI 200000 from rfl, show (999999 : Int32) = nI 999999 from rfl]
  rw [show 12 * (mI d / 12) + (mI d % 12 + 1) - 1 = mI d by omega, show mS (mI d) + 1 - 1 = mS (mI d) by omega, nI_add, pk_sub (by omega), pk_mul, nI_add, pk_sub (by omega), nI_add, pk_rem (by omega) (by omega) (by omega), pk_div (by omega) (by omega) (by omega), nI_add]
  rw [show (12 * (2000 + mI d / 12) + (mI d % 12 + 1) - 1 + m) / 12 = 2000 + (mI d + m) / 12 by omega, show 1 + (12 * (2000 + mI d / 12) + (mI d % 12 + 1) - 1 + m) % 12 = 1 + (mI d + m) % 12 by omega]
  unfold M_behind_B96 cBh
  dsimp only
  by_cases hy : (mI d + m) / 12 ≤ 600
  · rw [if_pos (nI_le (by omega) (by omega)), M_monthDays_eq (by omega) (by omega) (by omega), ob_some]
    rw [show 12 * ((mI d + m) / 12) + (1 + (mI d + m) % 12) = mI d + m + 1 by omega, show mI d + m + 1 - 1 = mI d + m by omega]
    have fin : ∀ e : Nat, 1 ≤ e → ((M_dayOf s (nI (2000 + (mI d + m) / 12)) (nI (1 + (mI d + m) % 12)) (nI e)).bind fun r_77 => if r_77 ≤ nI 200000 then some r_77 else some (nI 999999)) = some (nI (if mS (mI d + m) + e - 1 ≤ 200000 then mS (mI d + m) + e - 1 else 999999)) ∨ 40000000 < e := by
      intro e he
      rcases Nat.lt_or_ge 40000000 e with q | q
      · exact Or.inr q
      · refine Or.inl ?_
        rw [M_dayOf_eq (by omega) (by omega) (by omega) he, ob_some, show 12 * ((mI d + m) / 12) + (1 + (mI d + m) % 12) - 1 = mI d + m by omega]
        by_cases hn : mS (mI d + m) + e - 1 ≤ 200000
        · rw [if_pos (nI_le hn (by omega)), if_pos hn]
        · rw [if_neg (nI_ge (by omega) (by omega)), if_neg hn]
    by_cases hc : mS (mI d + m + 1) - mS (mI d + m) < 1 + d - mS (mI d)
    · rw [if_pos (nI_lt hc (by omega))]
      rcases fin (mS (mI d + m + 1) - mS (mI d + m)) (by omega) with q | q
      · rw [q, Nat.min_eq_right (by omega), show mS (mI d + m) + (mS (mI d + m + 1) - mS (mI d + m)) - 1 = mS (mI d + m) + (mS (mI d + m + 1) - mS (mI d + m) - 1) by omega]
      · omega
    · rw [if_neg (nI_nlt (by omega) (by omega))]
      rcases fin (1 + d - mS (mI d)) (by omega) with q | q
      · rw [q, Nat.min_eq_left (by omega), show mS (mI d + m) + (1 + d - mS (mI d)) - 1 = mS (mI d + m) + (d - mS (mI d)) by omega]
      · omega
  · rw [if_neg (nI_ge (by omega) (by omega)), if_neg ?_]
    have h8 := mS_mono (show 12 * 601 ≤ mI d + m by omega)
    have h9 := mS_lo (12 * 601)
    omega
end MCAL
