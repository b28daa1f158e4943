section HW
variable {σ : Ms} {nT nS nH : Nat} {x : Int32}
theorem hw_10 {t a : Nat} (ha : a < 4) : ∀ c i j e, vwv σ.2 nT nS nH c i j e → vwt (mSto σ 10 (4 * t + a) x) c i j e = if c = 11 ∧ i = t ∧ j = 0 ∧ e = a then x else vwt σ c i j e := by
  intro c i j e hve
  have ho : ord (mSto σ 10 (4 * t + a) x).2 = ord σ.2 := ord_cg (mSto_ne _ _ _ _ (by decide)) (mSto_ne _ _ _ _ (by decide)) (mSto_ne _ _ _ _ (by decide))
  unfold vwv at hve
  unfold vwt
  split at hve
  all_goals first | exact hve.elim | (simp [mSto_at, mSto_1, ho]; done) | skip
  obtain ⟨h1, h2, h3⟩ := hve
  simp only [mSto_at]
  by_cases q : i = t ∧ e = a
  · obtain ⟨rfl, rfl⟩ := q
    simp [h2]
  · rw [if_neg (by omega), if_neg (by omega)]
theorem hw_11 {t a : Nat} (ha : a < 4) : ∀ c i j e, vwv σ.2 nT nS nH c i j e → vwt (mSto σ 11 (4 * t + a) x) c i j e = if c = 12 ∧ i = t ∧ j = 0 ∧ e = a then x else vwt σ c i j e := by
  intro c i j e hve
  have ho : ord (mSto σ 11 (4 * t + a) x).2 = ord σ.2 := ord_cg (mSto_ne _ _ _ _ (by decide)) (mSto_ne _ _ _ _ (by decide)) (mSto_ne _ _ _ _ (by decide))
  unfold vwv at hve
  unfold vwt
  split at hve
  all_goals first | exact hve.elim | (simp [mSto_at, mSto_1, ho]; done) | skip
  obtain ⟨h1, h2, h3⟩ := hve
  simp only [mSto_at]
  by_cases q : i = t ∧ e = a
  · obtain ⟨rfl, rfl⟩ := q
    simp [h2]
  · rw [if_neg (by omega), if_neg (by omega)]
theorem hw_12 {t a : Nat} (ha : a < 8) : ∀ c i j e, vwv σ.2 nT nS nH c i j e → vwt (mSto σ 12 (8 * t + a) x) c i j e = if c = 13 ∧ i = t ∧ j = 0 ∧ e = a then x else vwt σ c i j e := by
  intro c i j e hve
  have ho : ord (mSto σ 12 (8 * t + a) x).2 = ord σ.2 := ord_cg (mSto_ne _ _ _ _ (by decide)) (mSto_ne _ _ _ _ (by decide)) (mSto_ne _ _ _ _ (by decide))
  unfold vwv at hve
  unfold vwt
  split at hve
  all_goals first | exact hve.elim | (simp [mSto_at, mSto_1, ho]; done) | skip
  obtain ⟨h1, h2, h3⟩ := hve
  simp only [mSto_at]
  by_cases q : i = t ∧ e = a
  · obtain ⟨rfl, rfl⟩ := q
    simp [h2]
  · rw [if_neg (by omega), if_neg (by omega)]
theorem hw_13 {t : Nat} : ∀ c i j e, vwv σ.2 nT nS nH c i j e → vwt (mSto σ 13 t x) c i j e = if c = 10 ∧ i = t ∧ j = 0 ∧ e = 5 then x else vwt σ c i j e := by
  intro c i j e hve
  have ho : ord (mSto σ 13 t x).2 = ord σ.2 := ord_cg (mSto_ne _ _ _ _ (by decide)) (mSto_ne _ _ _ _ (by decide)) (mSto_ne _ _ _ _ (by decide))
  unfold vwv at hve
  unfold vwt
  split at hve
  all_goals first | exact hve.elim | (simp [mSto_at, mSto_1, ho]; done) | skip
  obtain ⟨h1, h2, h3⟩ := hve
  rcases h3 with rfl | rfl | rfl
  · by_cases q : i = t <;> simp [mSto_at, h2, q]
  · by_cases q : i = t <;> simp [mSto_at, h2, q]
  · by_cases q : i = t <;> simp [mSto_at, h2, q]
theorem hw_59 {t : Nat} : ∀ c i j e, vwv σ.2 nT nS nH c i j e → vwt (mSto σ 59 t x) c i j e = if c = 10 ∧ i = t ∧ j = 0 ∧ e = 4 then x else vwt σ c i j e := by
  intro c i j e hve
  have ho : ord (mSto σ 59 t x).2 = ord σ.2 := ord_cg (mSto_ne _ _ _ _ (by decide)) (mSto_ne _ _ _ _ (by decide)) (mSto_ne _ _ _ _ (by decide))
  unfold vwv at hve
  unfold vwt
  split at hve
  all_goals first | exact hve.elim | (simp [mSto_at, mSto_1, ho]; done) | skip
  obtain ⟨h1, h2, h3⟩ := hve
  rcases h3 with rfl | rfl | rfl
  · by_cases q : i = t <;> simp [mSto_at, h2, q]
  · by_cases q : i = t <;> simp [mSto_at, h2, q]
  · by_cases q : i = t <;> simp [mSto_at, h2, q]
theorem hw_14 {t : Nat} : ∀ c i j e, vwv σ.2 nT nS nH c i j e → vwt (mSto σ 14 t x) c i j e = if c = 9 ∧ i = t ∧ j = 0 ∧ e = 0 then x else vwt σ c i j e := by
  intro c i j e hve
  have ho : ord (mSto σ 14 t x).2 = ord σ.2 := ord_cg (mSto_ne _ _ _ _ (by decide)) (mSto_ne _ _ _ _ (by decide)) (mSto_ne _ _ _ _ (by decide))
  unfold vwv at hve
  unfold vwt
  split at hve
  all_goals first | exact hve.elim | (simp [mSto_at, mSto_1, ho]; done) | skip
  obtain ⟨h1, h2, h3⟩ := hve
  rcases (show e = 0 ∨ e = 1 by omega) with rfl | rfl
  · by_cases q : i = t <;> simp [mSto_at, h2, q]
  · by_cases q : i = t <;> simp [mSto_at, h2, q]
theorem hw_15 {t : Nat} : ∀ c i j e, vwv σ.2 nT nS nH c i j e → vwt (mSto σ 15 t x) c i j e = if c = 9 ∧ i = t ∧ j = 0 ∧ e = 1 then x else vwt σ c i j e := by
  intro c i j e hve
  have ho : ord (mSto σ 15 t x).2 = ord σ.2 := ord_cg (mSto_ne _ _ _ _ (by decide)) (mSto_ne _ _ _ _ (by decide)) (mSto_ne _ _ _ _ (by decide))
  unfold vwv at hve
  unfold vwt
  split at hve
  all_goals first | exact hve.elim | (simp [mSto_at, mSto_1, ho]; done) | skip
  obtain ⟨h1, h2, h3⟩ := hve
  rcases (show e = 0 ∨ e = 1 by omega) with rfl | rfl
  · by_cases q : i = t <;> simp [mSto_at, h2, q]
  · by_cases q : i = t <;> simp [mSto_at, h2, q]
theorem hw_17 {t : Nat} : ∀ c i j e, vwv σ.2 nT nS nH c i j e → vwt (mSto σ 17 t x) c i j e = if c = 14 ∧ i = t ∧ j = 0 ∧ e = 1 then x else vwt σ c i j e := by
  intro c i j e hve
  have ho : ord (mSto σ 17 t x).2 = ord σ.2 := ord_cg (mSto_ne _ _ _ _ (by decide)) (mSto_ne _ _ _ _ (by decide)) (mSto_ne _ _ _ _ (by decide))
  unfold vwv at hve
  unfold vwt
  split at hve
  all_goals first | exact hve.elim | (simp [mSto_at, mSto_1, ho]; done) | skip
  obtain ⟨h1, h2, h3⟩ := hve
  rcases h3 with rfl | rfl
  · by_cases q : i = t <;> simp [mSto_at, h2, q]
  · by_cases q : i = t <;> simp [mSto_at, h2, q]
theorem hw_18 {t : Nat} : ∀ c i j e, vwv σ.2 nT nS nH c i j e → vwt (mSto σ 18 t x) c i j e = if c = 14 ∧ i = t ∧ j = 0 ∧ e = 2 then x else vwt σ c i j e := by
  intro c i j e hve
  have ho : ord (mSto σ 18 t x).2 = ord σ.2 := ord_cg (mSto_ne _ _ _ _ (by decide)) (mSto_ne _ _ _ _ (by decide)) (mSto_ne _ _ _ _ (by decide))
  unfold vwv at hve
  unfold vwt
  split at hve
  all_goals first | exact hve.elim | (simp [mSto_at, mSto_1, ho]; done) | skip
  obtain ⟨h1, h2, h3⟩ := hve
  rcases h3 with rfl | rfl
  · by_cases q : i = t <;> simp [mSto_at, h2, q]
  · by_cases q : i = t <;> simp [mSto_at, h2, q]
theorem hw_9 {t : Nat} : ∀ c i j e, vwv σ.2 nT nS nH c i j e → vwt (mSto σ 9 t x) c i j e = if c = 10 ∧ i = t ∧ j = 0 ∧ e = 0 then x else vwt σ c i j e := by
  intro c i j e hve
  have ho : ord (mSto σ 9 t x).2 = ord σ.2 := ord_cg (mSto_ne _ _ _ _ (by decide)) (mSto_ne _ _ _ _ (by decide)) (mSto_ne _ _ _ _ (by decide))
  unfold vwv at hve
  unfold vwt
  split at hve
  all_goals first | exact hve.elim | (simp [mSto_at, mSto_1, ho]; done) | skip
  obtain ⟨h1, h2, h3⟩ := hve
  rcases h3 with rfl | rfl | rfl
  · by_cases q : i = t <;> simp [mSto_at, h2, q]
  · by_cases q : i = t <;> simp [mSto_at, h2, q]
  · by_cases q : i = t <;> simp [mSto_at, h2, q]
theorem hw_19 {t : Nat} : ∀ c i j e, vwv σ.2 nT nS nH c i j e → vwt (mSto σ 19 t x) c i j e = if c = 6 ∧ i = 0 ∧ j = 0 ∧ e = 5 * t + 0 then x else vwt σ c i j e := by
  intro c i j e hve
  have ho : ord (mSto σ 19 t x).2 = ord σ.2 := ord_cg (mSto_ne _ _ _ _ (by decide)) (mSto_ne _ _ _ _ (by decide)) (mSto_ne _ _ _ _ (by decide))
  unfold vwv at hve
  unfold vwt
  split at hve
  all_goals first | exact hve.elim | (simp [mSto_at, mSto_1, ho]; done) | skip
  obtain ⟨h1, h2, h3⟩ := hve
  subst h1; subst h2
  obtain ⟨a, b, hb, rfl⟩ : ∃ a b : Nat, b < 5 ∧ e = 5 * a + b := ⟨e / 5, e % 5, by omega, by omega⟩
  rw [show (5 * a + b) % 5 = b by omega, show (5 * a + b) / 5 = a by omega]
  by_cases q : a = t ∧ b = 0
  · obtain ⟨rfl, rfl⟩ := q
    simp [mSto_at]
  · rw [if_neg (by omega)]
    rcases (show b = 0 ∨ b = 1 ∨ b = 2 ∨ b = 3 ∨ b = 4 by omega) with rfl | rfl | rfl | rfl | rfl <;> simp_all [mSto_at]
theorem hw_20 {t : Nat} : ∀ c i j e, vwv σ.2 nT nS nH c i j e → vwt (mSto σ 20 t x) c i j e = if c = 6 ∧ i = 0 ∧ j = 0 ∧ e = 5 * t + 1 then x else vwt σ c i j e := by
  intro c i j e hve
  have ho : ord (mSto σ 20 t x).2 = ord σ.2 := ord_cg (mSto_ne _ _ _ _ (by decide)) (mSto_ne _ _ _ _ (by decide)) (mSto_ne _ _ _ _ (by decide))
  unfold vwv at hve
  unfold vwt
  split at hve
  all_goals first | exact hve.elim | (simp [mSto_at, mSto_1, ho]; done) | skip
  obtain ⟨h1, h2, h3⟩ := hve
  subst h1; subst h2
  obtain ⟨a, b, hb, rfl⟩ : ∃ a b : Nat, b < 5 ∧ e = 5 * a + b := ⟨e / 5, e % 5, by omega, by omega⟩
  rw [show (5 * a + b) % 5 = b by omega, show (5 * a + b) / 5 = a by omega]
  by_cases q : a = t ∧ b = 1
  · obtain ⟨rfl, rfl⟩ := q
    simp [mSto_at]
  · rw [if_neg (by omega)]
    rcases (show b = 0 ∨ b = 1 ∨ b = 2 ∨ b = 3 ∨ b = 4 by omega) with rfl | rfl | rfl | rfl | rfl <;> simp_all [mSto_at]
theorem hw_21 {t : Nat} : ∀ c i j e, vwv σ.2 nT nS nH c i j e → vwt (mSto σ 21 t x) c i j e = if c = 6 ∧ i = 0 ∧ j = 0 ∧ e = 5 * t + 2 then x else vwt σ c i j e := by
  intro c i j e hve
  have ho : ord (mSto σ 21 t x).2 = ord σ.2 := ord_cg (mSto_ne _ _ _ _ (by decide)) (mSto_ne _ _ _ _ (by decide)) (mSto_ne _ _ _ _ (by decide))
  unfold vwv at hve
  unfold vwt
  split at hve
  all_goals first | exact hve.elim | (simp [mSto_at, mSto_1, ho]; done) | skip
  obtain ⟨h1, h2, h3⟩ := hve
  subst h1; subst h2
  obtain ⟨a, b, hb, rfl⟩ : ∃ a b : Nat, b < 5 ∧ e = 5 * a + b := ⟨e / 5, e % 5, by omega, by omega⟩
  rw [show (5 * a + b) % 5 = b by omega, show (5 * a + b) / 5 = a by omega]
  by_cases q : a = t ∧ b = 2
  · obtain ⟨rfl, rfl⟩ := q
    simp [mSto_at]
  · rw [if_neg (by omega)]
    rcases (show b = 0 ∨ b = 1 ∨ b = 2 ∨ b = 3 ∨ b = 4 by omega) with rfl | rfl | rfl | rfl | rfl <;> simp_all [mSto_at]
theorem hw_22 {t : Nat} : ∀ c i j e, vwv σ.2 nT nS nH c i j e → vwt (mSto σ 22 t x) c i j e = if c = 6 ∧ i = 0 ∧ j = 0 ∧ e = 5 * t + 3 then x else vwt σ c i j e := by
  intro c i j e hve
  have ho : ord (mSto σ 22 t x).2 = ord σ.2 := ord_cg (mSto_ne _ _ _ _ (by decide)) (mSto_ne _ _ _ _ (by decide)) (mSto_ne _ _ _ _ (by decide))
  unfold vwv at hve
  unfold vwt
  split at hve
  all_goals first | exact hve.elim | (simp [mSto_at, mSto_1, ho]; done) | skip
  obtain ⟨h1, h2, h3⟩ := hve
  subst h1; subst h2
  obtain ⟨a, b, hb, rfl⟩ : ∃ a b : Nat, b < 5 ∧ e = 5 * a + b := ⟨e / 5, e % 5, by omega, by omega⟩
  rw [show (5 * a + b) % 5 = b by omega, show (5 * a + b) / 5 = a by omega]
  by_cases q : a = t ∧ b = 3
  · obtain ⟨rfl, rfl⟩ := q
    simp [mSto_at]
  · rw [if_neg (by omega)]
    rcases (show b = 0 ∨ b = 1 ∨ b = 2 ∨ b = 3 ∨ b = 4 by omega) with rfl | rfl | rfl | rfl | rfl <;> simp_all [mSto_at]
theorem hw_23 {t : Nat} : ∀ c i j e, vwv σ.2 nT nS nH c i j e → vwt (mSto σ 23 t x) c i j e = if c = 6 ∧ i = 0 ∧ j = 0 ∧ e = 5 * t + 4 then x else vwt σ c i j e := by
  intro c i j e hve
  have ho : ord (mSto σ 23 t x).2 = ord σ.2 := ord_cg (mSto_ne _ _ _ _ (by decide)) (mSto_ne _ _ _ _ (by decide)) (mSto_ne _ _ _ _ (by decide))
  unfold vwv at hve
  unfold vwt
  split at hve
  all_goals first | exact hve.elim | (simp [mSto_at, mSto_1, ho]; done) | skip
  obtain ⟨h1, h2, h3⟩ := hve
  subst h1; subst h2
  obtain ⟨a, b, hb, rfl⟩ : ∃ a b : Nat, b < 5 ∧ e = 5 * a + b := ⟨e / 5, e % 5, by omega, by omega⟩
  rw [show (5 * a + b) % 5 = b by omega, show (5 * a + b) / 5 = a by omega]
  by_cases q : a = t ∧ b = 4
  · obtain ⟨rfl, rfl⟩ := q
    simp [mSto_at]
  · rw [if_neg (by omega)]
    rcases (show b = 0 ∨ b = 1 ∨ b = 2 ∨ b = 3 ∨ b = 4 by omega) with rfl | rfl | rfl | rfl | rfl <;> simp_all [mSto_at]
theorem hw_38 {t : Nat} : ∀ c i j e, vwv σ.2 nT nS nH c i j e → vwt (mSto σ 38 t x) c i j e = if c = 0 ∧ i = 0 ∧ j = 0 ∧ e = t then x.toInt8.toInt32 else vwt σ c i j e := by
  intro c i j e hve
  have ho : ord (mSto σ 38 t x).2 = ord σ.2 := ord_cg (mSto_ne _ _ _ _ (by decide)) (mSto_ne _ _ _ _ (by decide)) (mSto_ne _ _ _ _ (by decide))
  unfold vwv at hve
  unfold vwt
  split at hve
  all_goals first | exact hve.elim | (simp [mSto_at, mSto_1, ho]; done) | skip
  obtain ⟨h1, h2, h3⟩ := hve
  by_cases q : e = t <;> simp [mSto_at, h1, h2, q]
theorem hw_16 {t : Nat} : ∀ c i j e, vwv σ.2 nT nS nH c i j e → vwt (mSto σ 16 t x) c i j e = vwt σ c i j e := by
  intro c i j e hve
  have ho : ord (mSto σ 16 t x).2 = ord σ.2 := ord_cg (mSto_ne _ _ _ _ (by decide)) (mSto_ne _ _ _ _ (by decide)) (mSto_ne _ _ _ _ (by decide))
  unfold vwt
  rw [ho]
  simp [mSto_at, mSto_1]
theorem hw_53 {t : Nat} : ∀ c i j e, vwv σ.2 nT nS nH c i j e → vwt (mSto σ 53 t x) c i j e = vwt σ c i j e := by
  intro c i j e hve
  have ho : ord (mSto σ 53 t x).2 = ord σ.2 := ord_cg (mSto_ne _ _ _ _ (by decide)) (mSto_ne _ _ _ _ (by decide)) (mSto_ne _ _ _ _ (by decide))
  unfold vwt
  rw [ho]
  simp [mSto_at, mSto_1]
theorem hw_55 {t : Nat} : ∀ c i j e, vwv σ.2 nT nS nH c i j e → vwt (mSto σ 55 t x) c i j e = vwt σ c i j e := by
  intro c i j e hve
  have ho : ord (mSto σ 55 t x).2 = ord σ.2 := ord_cg (mSto_ne _ _ _ _ (by decide)) (mSto_ne _ _ _ _ (by decide)) (mSto_ne _ _ _ _ (by decide))
  unfold vwt
  rw [ho]
  simp [mSto_at, mSto_1]
theorem hw_56 {t : Nat} : ∀ c i j e, vwv σ.2 nT nS nH c i j e → vwt (mSto σ 56 t x) c i j e = vwt σ c i j e := by
  intro c i j e hve
  have ho : ord (mSto σ 56 t x).2 = ord σ.2 := ord_cg (mSto_ne _ _ _ _ (by decide)) (mSto_ne _ _ _ _ (by decide)) (mSto_ne _ _ _ _ (by decide))
  unfold vwt
  rw [ho]
  simp [mSto_at, mSto_1]
theorem hw_57 {t : Nat} : ∀ c i j e, vwv σ.2 nT nS nH c i j e → vwt (mSto σ 57 t x) c i j e = vwt σ c i j e := by
  intro c i j e hve
  have ho : ord (mSto σ 57 t x).2 = ord σ.2 := ord_cg (mSto_ne _ _ _ _ (by decide)) (mSto_ne _ _ _ _ (by decide)) (mSto_ne _ _ _ _ (by decide))
  unfold vwt
  rw [ho]
  simp [mSto_at, mSto_1]
theorem hw_58 {t : Nat} : ∀ c i j e, vwv σ.2 nT nS nH c i j e → vwt (mSto σ 58 t x) c i j e = vwt σ c i j e := by
  intro c i j e hve
  have ho : ord (mSto σ 58 t x).2 = ord σ.2 := ord_cg (mSto_ne _ _ _ _ (by decide)) (mSto_ne _ _ _ _ (by decide)) (mSto_ne _ _ _ _ (by decide))
  unfold vwt
  rw [ho]
  simp [mSto_at, mSto_1]
theorem hv_1 : ∀ c i j e, vwv σ.2 nT nS nH c i j e → vwt (mSet σ 1 x) c i j e = if c = 22 ∧ i = 0 ∧ j = 0 ∧ e = 12 then x else vwt σ c i j e := by
  intro c i j e hve
  unfold vwv at hve
  unfold vwt
  split at hve
  all_goals first | exact hve.elim | (simp [mSet_2, mSet_at]; done) | skip
  obtain ⟨h1, h2, h3⟩ := hve
  rcases h3 with rfl | rfl | rfl | rfl | rfl | rfl <;> simp [mSet_2, mSet_at, h1, h2]
theorem hv_7 : ∀ c i j e, vwv σ.2 nT nS nH c i j e → vwt (mSet σ 7 x) c i j e = if c = 22 ∧ i = 0 ∧ j = 0 ∧ e = 1 then x else vwt σ c i j e := by
  intro c i j e hve
  unfold vwv at hve
  unfold vwt
  split at hve
  all_goals first | exact hve.elim | (simp [mSet_2, mSet_at]; done) | skip
  obtain ⟨h1, h2, h3⟩ := hve
  rcases h3 with rfl | rfl | rfl | rfl | rfl | rfl <;> simp [mSet_2, mSet_at, h1, h2]
theorem hv_8 : ∀ c i j e, vwv σ.2 nT nS nH c i j e → vwt (mSet σ 8 x) c i j e = if c = 22 ∧ i = 0 ∧ j = 0 ∧ e = 2 then x else vwt σ c i j e := by
  intro c i j e hve
  unfold vwv at hve
  unfold vwt
  split at hve
  all_goals first | exact hve.elim | (simp [mSet_2, mSet_at]; done) | skip
  obtain ⟨h1, h2, h3⟩ := hve
  rcases h3 with rfl | rfl | rfl | rfl | rfl | rfl <;> simp [mSet_2, mSet_at, h1, h2]
theorem hv_5 : ∀ c i j e, vwv σ.2 nT nS nH c i j e → vwt (mSet σ 5 x) c i j e = if c = 5 ∧ i = 0 ∧ j = 0 ∧ e = 1 then x else vwt σ c i j e := by
  intro c i j e hve
  unfold vwv at hve
  unfold vwt
  split at hve
  all_goals first | exact hve.elim | (simp [mSet_2, mSet_at]; done) | skip
  obtain ⟨h1, h2, h3⟩ := hve
  rcases h3 with rfl | rfl <;> simp [mSet_2, mSet_at, h1, h2]
theorem hv_6 : ∀ c i j e, vwv σ.2 nT nS nH c i j e → vwt (mSet σ 6 x) c i j e = if c = 5 ∧ i = 0 ∧ j = 0 ∧ e = 2 then x else vwt σ c i j e := by
  intro c i j e hve
  unfold vwv at hve
  unfold vwt
  split at hve
  all_goals first | exact hve.elim | (simp [mSet_2, mSet_at]; done) | skip
  obtain ⟨h1, h2, h3⟩ := hve
  rcases h3 with rfl | rfl <;> simp [mSet_2, mSet_at, h1, h2]
end HW
