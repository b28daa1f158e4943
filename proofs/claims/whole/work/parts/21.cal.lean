/-! the calendar, in months from January 2000 on -/
section CAL
def DBn (m : Nat) : Nat := [0, 31, 59, 90, 120, 151, 181, 212, 243, 273, 304, 334].getD m 0
def lpn (Y : Nat) : Nat := (Y + 3) / 4 - (Y + 99) / 100 + (Y + 399) / 400
def mS2 (Y m : Nat) : Nat := Y * 365 + DBn m + lpn (if m < 2 then Y else Y + 1)
def mS (i : Nat) : Nat := mS2 (i / 12) (i % 12)
theorem dB_n : ∀ m, m < 12 → dB.getD m 0 = nI (DBn m) := by decide
theorem DBn_le : ∀ m, m < 12 → DBn m ≤ 334 := by decide
theorem mS_at (Y m : Nat) (h : m < 12) : mS (12 * Y + m) = mS2 Y m := by
  unfold mS
  rw [show (12 * Y + m) / 12 = Y by omega, show (12 * Y + m) % 12 = m by omega]
theorem mS_split (i : Nat) : ∃ Y m : Nat, m < 12 ∧ i = 12 * Y + m := ⟨i / 12, i % 12, by omega, by omega⟩
theorem mlt12 {m : Nat} (h : m < 12) : m = 0 ∨ m = 1 ∨ m = 2 ∨ m = 3 ∨ m = 4 ∨ m = 5 ∨ m = 6 ∨ m = 7 ∨ m = 8 ∨ m = 9 ∨ m = 10 ∨ m = 11 := by omega
theorem mS2_0 (Y : Nat) : mS2 Y 0 = Y * 365 + lpn Y := by simp [mS2, DBn]
theorem mS2_1 (Y : Nat) : mS2 Y 1 = Y * 365 + 31 + lpn Y := by simp [mS2, DBn]
theorem mS2_2 (Y : Nat) : mS2 Y 2 = Y * 365 + 59 + lpn (Y + 1) := by simp [mS2, DBn]
theorem mS2_3 (Y : Nat) : mS2 Y 3 = Y * 365 + 90 + lpn (Y + 1) := by simp [mS2, DBn]
theorem mS2_4 (Y : Nat) : mS2 Y 4 = Y * 365 + 120 + lpn (Y + 1) := by simp [mS2, DBn]
theorem mS2_5 (Y : Nat) : mS2 Y 5 = Y * 365 + 151 + lpn (Y + 1) := by simp [mS2, DBn]
theorem mS2_6 (Y : Nat) : mS2 Y 6 = Y * 365 + 181 + lpn (Y + 1) := by simp [mS2, DBn]
theorem mS2_7 (Y : Nat) : mS2 Y 7 = Y * 365 + 212 + lpn (Y + 1) := by simp [mS2, DBn]
theorem mS2_8 (Y : Nat) : mS2 Y 8 = Y * 365 + 243 + lpn (Y + 1) := by simp [mS2, DBn]
theorem mS2_9 (Y : Nat) : mS2 Y 9 = Y * 365 + 273 + lpn (Y + 1) := by simp [mS2, DBn]
theorem mS2_10 (Y : Nat) : mS2 Y 10 = Y * 365 + 304 + lpn (Y + 1) := by simp [mS2, DBn]
theorem mS2_11 (Y : Nat) : mS2 Y 11 = Y * 365 + 334 + lpn (Y + 1) := by simp [mS2, DBn]
theorem lpn_up (Y : Nat) : lpn Y ≤ lpn (Y + 1) ∧ lpn (Y + 1) ≤ lpn Y + 1 := by unfold lpn; omega
theorem mS_step (i : Nat) : mS i + 28 ≤ mS (i + 1) ∧ mS (i + 1) ≤ mS i + 31 := by
  obtain ⟨Y, m, hm, rfl⟩ := mS_split i
  have h1 := lpn_up Y
  by_cases h11 : m = 11
  · subst h11
    rw [show 12 * Y + 11 + 1 = 12 * (Y + 1) + 0 by omega, mS_at _ _ (by omega), mS_at _ _ (by omega), mS2_0, mS2_11]
    omega
  · rw [show 12 * Y + m + 1 = 12 * Y + (m + 1) by omega, mS_at _ _ (by omega), mS_at _ _ (by omega)]
    rcases mlt12 hm with rfl | rfl | rfl | rfl | rfl | rfl | rfl | rfl | rfl | rfl | rfl | rfl
    · rw [mS2_0, mS2_1]; omega
    · rw [mS2_1, mS2_2]; omega
    · rw [mS2_2, mS2_3]; omega
    · rw [mS2_3, mS2_4]; omega
    · rw [mS2_4, mS2_5]; omega
    · rw [mS2_5, mS2_6]; omega
    · rw [mS2_6, mS2_7]; omega
    · rw [mS2_7, mS2_8]; omega
    · rw [mS2_8, mS2_9]; omega
    · rw [mS2_9, mS2_10]; omega
    · rw [mS2_10, mS2_11]; omega
    · exact absurd rfl h11
theorem mS_add (i : Nat) : ∀ k : Nat, mS i + k ≤ mS (i + k)
  | 0 => by rw [Nat.add_zero, Nat.add_zero]; exact Nat.le_refl (mS i)
  | k + 1 => by
    have h1 := mS_add i k
    have h2 := (mS_step (i + k)).1
    rw [show i + (k + 1) = i + k + 1 by omega]
    omega
theorem mS_mono {i j : Nat} (h : i ≤ j) : mS i ≤ mS j := by
  have h1 := mS_add i (j - i)
  rw [show i + (j - i) = j by omega] at h1
  omega
theorem mS_lt {i j : Nat} (h : i < j) : mS i < mS j := by
  have h1 := mS_add i (j - i)
  rw [show i + (j - i) = j by omega] at h1
  omega
theorem mS_uniq {d i j : Nat} (h1 : mS i ≤ d) (h2 : d < mS (i + 1)) (h3 : mS j ≤ d) (h4 : d < mS (j + 1)) : i = j := by
  rcases Nat.lt_trichotomy i j with h | h | h
  · have := mS_mono (show i + 1 ≤ j from h); omega
  · exact h
  · have := mS_mono (show j + 1 ≤ i from h); omega
theorem lpn_lo (Y : Nat) : 1164 * Y ≤ 4800 * lpn Y + 4800 := by unfold lpn; omega
theorem lpn_hi (Y : Nat) : 4800 * lpn Y ≤ 1164 * Y + 9600 := by unfold lpn; omega
theorem mS_hi (i : Nat) : 4800 * mS i ≤ 146097 * (i + 1) := by
  obtain ⟨Y, m, hm, rfl⟩ := mS_split i
  have h1 := lpn_hi Y
  have h2 := lpn_hi (Y + 1)
  rw [mS_at _ _ hm]
  rcases mlt12 hm with rfl | rfl | rfl | rfl | rfl | rfl | rfl | rfl | rfl | rfl | rfl | rfl <;> first | rw [mS2_0] | rw [mS2_1] | rw [mS2_2] | rw [mS2_3] | rw [mS2_4] | rw [mS2_5] | rw [mS2_6] | rw [mS2_7] | rw [mS2_8] | rw [mS2_9] | rw [mS2_10] | rw [mS2_11]
  all_goals omega
theorem mS_lo (i : Nat) : 146097 * i ≤ 4800 * mS i + 146097 * 2 := by
  obtain ⟨Y, m, hm, rfl⟩ := mS_split i
  have h1 := lpn_lo Y
  have h2 := lpn_lo (Y + 1)
  rw [mS_at _ _ hm]
  rcases mlt12 hm with rfl | rfl | rfl | rfl | rfl | rfl | rfl | rfl | rfl | rfl | rfl | rfl <;> first | rw [mS2_0] | rw [mS2_1] | rw [mS2_2] | rw [mS2_3] | rw [mS2_4] | rw [mS2_5] | rw [mS2_6] | rw [mS2_7] | rw [mS2_8] | rw [mS2_9] | rw [mS2_10] | rw [mS2_11]
  all_goals omega
/-- the month of a day -/
def mIx (d : Nat) : Nat → Nat
  | 0 => 0
  | n + 1 => if mS (n + 1) ≤ d then n + 1 else mIx d n
def mI (d : Nat) : Nat := mIx d 7000
theorem mS_0 : mS 0 = 0 := by decide
theorem mIx_ok {d : Nat} (n : Nat) : d < mS (n + 1) → mS (mIx d n) ≤ d ∧ d < mS (mIx d n + 1) ∧ mIx d n ≤ n := by
  induction n with
  | zero =>
    intro h
    have e : mIx d 0 = 0 := rfl
    rw [e, mS_0]
    exact ⟨Nat.zero_le _, h, Nat.le_refl _⟩
  | succ n ih =>
    intro h
    unfold mIx
    by_cases h1 : mS (n + 1) ≤ d
    · rw [if_pos h1]; exact ⟨h1, h, Nat.le_refl _⟩
    · rw [if_neg h1]
      have h2 := ih (by omega)
      exact ⟨h2.1, h2.2.1, by omega⟩
theorem mI_ok {d : Nat} (h : d ≤ 200000) : mS (mI d) ≤ d ∧ d < mS (mI d + 1) ∧ mI d ≤ 6572 := by
  have h7 := mS_lo (7000 + 1)
  have h1 := mIx_ok (d := d) 7000 (by omega)
  refine ⟨h1.1, h1.2.1, ?_⟩
  have h2 := mS_lo (mIx d 7000)
  show mIx d 7000 ≤ 6572
  omega
theorem mI_eq {d i : Nat} (h : d ≤ 200000) (h1 : mS i ≤ d) (h2 : d < mS (i + 1)) : i = mI d := mS_uniq h1 h2 (mI_ok h).1 (mI_ok h).2.1
/-- so many months behind a day -/
def cBh (d m : Nat) : Nat := let n := mS (mI d + m) + min (d - mS (mI d)) (mS (mI d + m + 1) - mS (mI d + m) - 1); if n ≤ 200000 then n else 999999
theorem mS_small {i : Nat} (h : i < 1000000) : mS i < 40000000 := by have := mS_hi i; omega
theorem DBn_lt (m : Nat) (h : m < 12) : DBn m < 400 := by have := DBn_le m h; omega
set_option maxHeartbeats 1000000 in
theorem K0_monthStart_eq {μ : Km} {i : Nat} (h : i < 1000000) : K0_monthStart μ (nI i) = some (nI (mS i)) := by
  unfold K0_monthStart
  rw [bnd_eq, show (0 : Int32) = nI 0 from rfl, show (12 : Int32) = nI 12 from rfl, if_pos (nI_le (by omega) (by omega)), pk_rem (by omega) (by omega) (by omega), pk_div (by omega) (by omega) (by omega)]
  unfold K0_monthStart_B17
  have key : ∀ ly : Nat, ly ≤ i / 12 + 1 → K0_monthStart_B30 μ (nI ly) (nI (i / 12)) (nI (i % 12)) = some (nI (i / 12 * 365 + DBn (i % 12) + lpn ly)) := by
    intro ly hly
    unfold K0_monthStart_B30
    rw [bnd_eq, show (3 : Int32) = nI 3 from rfl, show (4 : Int32) = nI 4 from rfl, show (99 : Int32) = nI 99 from rfl, show (100 : Int32) = nI 100 from rfl, show (399 : Int32) = nI 399 from rfl, show (400 : Int32) = nI 400 from rfl, show (365 : Int32) = nI 365 from rfl]
    rw [nI_add, nI_add, nI_add, pk_div (by omega) (by omega) (by omega), pk_div (by omega) (by omega) (by omega), pk_div (by omega) (by omega) (by omega), pk_sub (by omega), nI_add, if_pos ((okI_nI (by omega)).mpr (by omega)), nI_clamp (by omega), dB_n _ (by omega), pk_mul, nI_add, nI_add]
    rfl
  rw [show (2 : Int32) = nI 2 from rfl, show (1 : Int32) = nI 1 from rfl]
  by_cases h2 : i % 12 < 2
  · rw [if_neg (nI_ge h2 (by omega)), key _ (by omega)]
    unfold mS mS2
    rw [if_pos h2]
  · rw [if_pos (nI_le (by omega) (by omega)), nI_add, key _ (by omega)]
    unfold mS mS2
    rw [if_neg h2]
theorem K0_monthLength_eq {μ : Km} {i : Nat} (h : i < 900000) : K0_monthLength μ (nI i) = some (nI (mS (i + 1) - mS i)) := by
  unfold K0_monthLength
  rw [nI_1, K0_monthStart_eq (by omega), K0_monthStart_eq (by omega), ob_some, ob_some, pk_sub (by have := (mS_step i).1; omega)]
theorem K0_monthOf_L {Rt : Type} {μ : Km} {k : Int32 → Option Rt} {d : Nat} (hd : d ≤ 200000) : ∀ (F s i : Nat), s ≤ 3 → 3 < s + F → i ≤ mI d → mI d ≤ i + (3 - s) → K0_monthOf_L20 μ (nI d) k F (nI i) (nI s) = k (nI (mI d)) := by
  have h7 := mI_ok hd
  intro F
  induction F with
  | zero => intro s i h1 h2; omega
  | succ F ih =>
    intro s i h1 h2 h3 h4
    unfold K0_monthOf_L20
    rw [show (3 : Int32) = nI 3 from rfl]
    by_cases hs : s = 3
    · subst hs
      rw [if_pos (nI_le (Nat.le_refl _) (by omega)), show i = mI d by omega]
    · rw [if_neg (nI_ge (by omega) (by omega)), nI_1, nI_1, K0_monthStart_eq (by omega), ob_some]
      have hb := mS_small (i := i + 1) (by omega)
      by_cases hi : i = mI d
      · subst hi
        rw [if_pos (nI_lt h7.2.1 (by omega))]
      · have h8 := mS_mono (show i + 1 ≤ mI d by omega)
        rw [if_neg (nI_nlt (by omega) (by omega))]
        exact ih (s + 1) (i + 1) (by omega) (by omega) (by omega) (by omega)
theorem K0_monthOf_eq {μ : Km} {d : Nat} (hd : d ≤ 200000) : K0_monthOf μ (nI d) = some (nI (mI d)) := by
  have h7 := mI_ok hd
  unfold K0_monthOf
  rw [bnd_eq, nI_l (by omega), show (4800 : Int64) = lN 4800 from rfl, show (146097 : Int64) = lN 146097 from rfl, lN_mul, pk_lDiv (by omega) (by omega) (by omega), lN_i, show (1 : Int32) = nI 1 from rfl, show (0 : Int32) = nI 0 from rfl]
  have hi1 := mS_hi (mI d)
  have hi2 := mS_lo (mI d + 1)
  have e1 : ∀ e : Nat, e = d * 4800 / 146097 → (if nI 0 < nI e - nI 1 then nI e - nI 1 else nI 0) = nI (e - 1) := by
    intro e he
    by_cases h0 : e = 0
    · subst h0
      rw [if_neg (by decide)]
    · rw [pk_sub (by omega)]
      by_cases h1 : e = 1
      · rw [h1]; rfl
      · rw [if_pos (nI_lt (by omega) (by omega))]
  rw [e1 _ rfl]
  have hup := mS_hi (d * 4800 / 146097 - 1)
  have hlo := mS_lo (d * 4800 / 146097 - 1 + 4)
  refine K0_monthOf_L hd gF 0 _ (by omega) (by unfold gF; omega) ?_ ?_
  · rcases Nat.lt_or_ge (mI d) (d * 4800 / 146097 - 1) with q | q
    · have := mS_mono (show mI d + 1 ≤ d * 4800 / 146097 - 1 from q)
      omega
    · exact q
  · rcases Nat.lt_or_ge (d * 4800 / 146097 - 1 + 3) (mI d) with q | q
    · have := mS_mono (show d * 4800 / 146097 - 1 + 4 ≤ mI d by omega)
      omega
    · omega
theorem K0_monthsAfter_eq {μ : Km} {d m : Nat} (hd : d ≤ 200000) (hm : m ≤ 200000) : K0_monthsAfter μ (nI d) (nI m) = some (nI (cBh d m)) := by
  have h7 := mI_ok hd
  have hs := mS_step (mI d + m)
  have hb := mS_small (i := mI d + m + 1) (by omega)
  unfold K0_monthsAfter
  rw [K0_monthOf_eq hd, ob_some, K0_monthStart_eq (by omega), ob_some, bnd_eq, nI_add, K0_monthStart_eq (by omega), ob_some, K0_monthLength_eq (by omega), ob_some, bnd_eq, pk_sub h7.1, show (1 : Int32) = nI 1 from rfl, pk_sub (by omega)]
  unfold K0_monthsAfter_B47 cBh
  dsimp only
  rw [show (200000 : Int32) = nI 200000 from rfl, show (999999 : Int32) = nI 999999 from rfl]
  by_cases hc : mS (mI d + m + 1) - mS (mI d + m) - 1 < d - mS (mI d)
  · rw [if_pos (nI_lt hc (by omega)), nI_add, Nat.min_eq_right (by omega)]
    by_cases hn : mS (mI d + m) + (mS (mI d + m + 1) - mS (mI d + m) - 1) ≤ 200000
    · rw [if_pos (nI_le hn (by omega)), if_pos hn]
    · rw [if_neg (nI_ge (by omega) (by omega)), if_neg hn]
  · rw [if_neg (nI_nlt (by omega) (by omega)), nI_add, Nat.min_eq_left (by omega)]
    by_cases hn : mS (mI d + m) + (d - mS (mI d)) ≤ 200000
    · rw [if_pos (nI_le hn (by omega)), if_pos hn]
    · rw [if_neg (nI_ge (by omega) (by omega)), if_neg hn]
end CAL
