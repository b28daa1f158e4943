/-! the set in force, and where copies may be: both sides -/
section PLC
variable {a0 : Nat} {μ : Km} {σ : Ms} {B : Nat → Nat → Nat → Nat} {tg : Nat → Nat × Nat × Nat} {nT nS nH nP nw nL : Nat} {A : Ar}
/-- a set's object -/
theorem RepB.st (h : RepB a0 μ σ B tg nT nS nH nP nw nL) {s : Nat} (hs : s < nS) : kR μ (B 1 0 0) s = some (B 15 s 0) ∧ kK μ (B 15 s 0) = 5 ∧ kR μ (B 15 s 0) 1 = some (B 16 s 0) ∧ kR μ (B 15 s 0) 3 = some (B 17 s 0) ∧ (kK μ (B 16 s 0) = 15 ∧ kN μ (B 16 s 0) = 24) ∧ (kK μ (B 17 s 0) = 12 ∧ kN μ (B 17 s 0) = 24) ∧ kI μ (B 15 s 0) 0 = σ.2 24 s ∧ kI μ (B 15 s 0) 2 = σ.2 25 s ∧ kI μ (B 15 s 0) 4 = nI (ord σ.2 s).length := by
  have r2 := h.2.1.2.2.2
  have k2 := h.2.1.2.2.1
  exact ⟨r2 1 0 0 s ⟨hs, rfl, rfl⟩, (k2 15 s 0 ⟨hs, rfl⟩).1, r2 15 s 0 1 ⟨hs, rfl, by omega⟩, r2 15 s 0 3 ⟨hs, rfl, by omega⟩, ⟨(k2 16 s 0 ⟨hs, rfl⟩).1, (k2 16 s 0 ⟨hs, rfl⟩).2.1⟩, ⟨(k2 17 s 0 ⟨hs, rfl⟩).1, (k2 17 s 0 ⟨hs, rfl⟩).2.1⟩, h.2.2 15 s 0 0 ⟨hs, rfl, by omega⟩, h.2.2 15 s 0 2 ⟨hs, rfl, by omega⟩, h.2.2 15 s 0 4 ⟨hs, rfl, by omega⟩⟩
theorem RepB.sets (h : RepB a0 μ σ B tg nT nS nH nP nw nL) : kR μ a0 3 = some (B 1 0 0) ∧ kK μ (B 1 0 0) = 16 ∧ kN μ (B 1 0 0) = 8 := ⟨h.r (by omega), (h.one (c := 1) (by omega)).1, (h.one (c := 1) (by omega)).2⟩
theorem RepB.thgs (h : RepB a0 μ σ B tg nT nS nH nP nw nL) : kR μ a0 5 = some (B 2 0 0) ∧ kK μ (B 2 0 0) = 18 ∧ kN μ (B 2 0 0) = 30 := ⟨h.r (by omega), (h.one (c := 2) (by omega)).1, (h.one (c := 2) (by omega)).2⟩
theorem RepB.now (h : RepB a0 μ σ B tg nT nS nH nP nw nL) : kI μ a0 12 = σ.1 1 := h.i12.trans h.1.1.2.2.2.2.2.2.2.2.1.symm
def frc (σ : Ms) (nS : Nat) : Int32 := mFrc (σ.2 24) (σ.1 1) nS
theorem frc_in (σ : Ms) (nS : Nat) : frc σ nS = -1 ∨ ibt (frc σ nS) nS := by
  rcases mFrc_in (σ.2 24) (σ.1 1) nS with e | ⟨b, h1, h2⟩
  · exact Or.inl e
  · exact Or.inr ⟨b, h1, h2⟩
theorem K9_numberInForce_L {Rt : Type} {kk : Int32 → Option Rt} (h : RepB a0 μ σ B tg nT nS nH nP nw nL) : ∀ (F s : Nat), s ≤ nS → nS < s + F → K9_numberInForce_L4 μ a0 kk F (mFrc (σ.2 24) (σ.1 1) s) (nI s) = kk (mFrc (σ.2 24) (σ.1 1) nS) := by
  have h8 := h.nS8
  obtain ⟨s1, s2, s3⟩ := h.sets
  intro F
  induction F with
  | zero => intro s h1 h2; omega
  | succ F ih =>
    intro s h1 h2
    unfold K9_numberInForce_L4
    rw [if_pos h.k9, h.i4]
    by_cases hs : s = nS
    · subst hs
      rw [if_pos (nI_le (Nat.le_refl _) (by omega))]
    · obtain ⟨q1, q2, q3, q4, q5, q6, q7, q8, q9⟩ := h.st (show s < nS by omega)
      have ih' := ih (s + 1) (by omega) (by omega)
      rw [nI_succ, mFrc_succ] at ih'
      have o1 := (okI_nI (show s < 2 ^ 31 by omega)).mpr (show s < 8 by omega)
      rw [if_neg (nI_ge (by omega) (by omega))]
      simp only [s1, ob_some, s2, s3, if_true, o1, nI_clamp (show s < 2 ^ 31 by omega), q1, q2, q7, h.now]
      unfold K9_numberInForce_B54 K9_numberInForce_B56
      by_cases c1 : σ.1 1 < σ.2 24 s
      · rw [if_pos c1]; rw [if_pos c1] at ih'; exact ih'
      · rw [if_neg c1]; rw [if_neg c1] at ih'
        by_cases c2 : mFrc (σ.2 24) (σ.1 1) s = -1
        · rw [if_pos c2]; rw [if_pos c2] at ih'; exact ih'
        · rw [if_neg c2]; rw [if_neg c2] at ih'
          rcases mFrc_in (σ.2 24) (σ.1 1) s with e | ⟨b, hb, e⟩
          · exact absurd e c2
          · obtain ⟨p1, p2, p3, p4, p5, p6, p7, p8, p9⟩ := h.st (show b < nS by omega)
            have o2 := (okI_nI (show b < 2 ^ 31 by omega)).mpr (show b < 8 by omega)
            rw [e] at ih' ⊢
            rw [nI_clamp (show b < 2 ^ 31 by omega)] at ih'
            simp only [o2, if_true, nI_clamp (show b < 2 ^ 31 by omega), p1, ob_some, p2, p7]
            by_cases c3 : σ.2 24 s < σ.2 24 b
            · rw [if_pos c3]; rw [if_pos c3] at ih'; exact ih'
            · rw [if_neg c3]; rw [if_neg c3] at ih'; exact ih'
theorem K9_numberInForce_eq (h : RepB a0 μ σ B tg nT nS nH nP nw nL) : K9_numberInForce μ a0 = some (frc σ nS) := by
  have h8 := h.nS8
  exact K9_numberInForce_L h gF 0 (Nat.zero_le _) (by unfold gF; omega)
def bSet (B : Nat → Nat → Nat → Nat) (s : Int32) : Option Nat := if s = -1 then none else some (B 15 s.toNatClampNeg 0)
theorem K9_setInForce_eq (h : RepB a0 μ σ B tg nT nS nH nP nw nL) : K9_setInForce μ a0 = some (bSet B (frc σ nS)) := by
  have h8 := h.nS8
  obtain ⟨s1, s2, s3⟩ := h.sets
  unfold K9_setInForce K9_setInForce_B20 bSet
  rw [if_pos h.k9, K9_numberInForce_eq h, ob_some]
  rcases frc_in σ nS with e | e
  · rw [if_pos e, if_pos e]
  · have e2 := ibt_c e (by omega)
    have e3 : ¬ frc σ nS = -1 := by rw [e2.1]; exact i_m1_ne (by omega)
    obtain ⟨q1, q2, -⟩ := h.st e2.2
    rw [if_neg e3, if_neg e3, s1, ob_some, if_pos s2, s3, if_pos (by rw [e2.1]; exact (okI_nI (by omega)).mpr (by omega)), q1, ob_some]
theorem M_force_now (h : mInv σ nT nS nH nP nw nL) : M_force σ (σ.1 1) = some (frc σ nS) := M_force_eq h.1.2.2.2.1 h.1.2.2.1
theorem an16b : ∀ a, a < 16 → ∀ b, b < 16 → ∃ v, v < 16 ∧ nI a &&& nI b = nI v := by decide
theorem an16c : ∀ a, a < 16 → ∀ b, b < 16 → ∃ v, v < 16 ∧ nI a &&& (nI b ^^^ (-1)) = nI v := by decide
theorem mPls_succ (t f s k : Nat) : mPls A t f s (k + 1) = if A 26 (24 * s + k) = 2 ∧ mFor A (24 * s + k) t f = true then mPls A t f s k &&& A 32 (24 * s + k) else mPls A t f s k := rfl
theorem mPls_in (h : ∀ k j, mRg A nT nS nH k j) {t f s : Nat} (hs : s < nS) : ∀ m, m ≤ (A 25 s).toNatClampNeg → ibt (mPls A t f s m) 16
  | 0, _ => ⟨15, by omega, rfl⟩
  | m + 1, hm => by
    obtain ⟨a, ha, e⟩ := mPls_in h (t := t) (f := f) hs m (by omega)
    have hl := (lvr_of h hs (show m < _ from hm)).1
    obtain ⟨b, hb, e2⟩ := h 32 (24 * s + m) hl
    unfold mPls plRule
    split
    · rw [e, e2]
      obtain ⟨v, h1, h2⟩ := an16b a ha b hb
      exact ⟨v, h1, h2⟩
    · exact ⟨a, ha, e⟩
theorem mPlc_in (h : ∀ k j, mRg A nT nS nH k j) (hS : nS ≤ 8) {t f : Nat} {s : Int32} (hs : s = -1 ∨ ibt s nS) : ibt (mPlc A t f s) 16 := by
  unfold mPlc
  rcases hs with e | e
  · rw [if_pos e]; exact ⟨15, by omega, rfl⟩
  · have e2 := ibt_c e (by omega)
    rw [if_neg (by rw [e2.1]; exact i_m1_ne (by omega))]
    exact mPls_in h e2.2 _ (Nat.le_refl _)
theorem M_placesOf_L {Rt : Type} {kk : Int32 → Option Rt} {s t f : Nat} (h : ∀ k j, mRg σ.2 nT nS nH k j) (hS : nS ≤ 8) (hT : nT ≤ 30) (hs : s < nS) (ht : t < nT) : ∀ (F i : Nat), i ≤ (σ.2 25 s).toNatClampNeg → (σ.2 25 s).toNatClampNeg < i + F → M_placesOf_L16 σ (nI t) (nI f) (nI s) kk F (mPls σ.2 t f s i) (nI i) = kk (mPls σ.2 t f s (σ.2 25 s).toNatClampNeg) := by
  have h25 := ibt_c (h 25 s hs) (by decide)
  intro F
  induction F with
  | zero => intro i h1 h2; omega
  | succ F ih =>
    intro i h1 h2
    unfold M_placesOf_L16
    rw [if_neg (i_m1_ne (by omega)), if_pos ((okI_nI (by omega)).mpr (by omega)), nI_clamp (show s < 2 ^ 31 by omega)]
    by_cases hi : i = (σ.2 25 s).toNatClampNeg
    · rw [if_pos (by rw [h25.1, hi]; exact nI_le (Nat.le_refl _) (by omega)), hi]
    · have hlt : i < (σ.2 25 s).toNatClampNeg := by omega
      have hl := (lvr_of h hs hlt).1
      have ih' := ih (i + 1) (by omega) (by omega)
      rw [mPls_succ] at ih'
      have o1 := (okI_nI (show 24 * s + i < 2 ^ 31 by omega)).mpr (show 24 * s + i < 192 by omega)
      rw [if_neg (by rw [h25.1]; exact nI_ge hlt (by omega)), show (24 : Int32) = nI 24 from rfl, pk_mul, nI_add, if_pos o1, nI_clamp (show 24 * s + i < 2 ^ 31 by omega)]
      unfold M_placesOf_B81
      rw [nI_1]
      by_cases c1 : σ.2 26 (24 * s + i) = 2
      · rw [if_pos c1, M_isFor_eq h hS hT hl ht, ob_some]
        cases hm : mFor σ.2 (24 * s + i) t f with
        | false =>
          rw [if_neg (fun q => by rw [hm] at q; cases q.2)] at ih'
          rw [if_pos (by decide)]
          exact ih'
        | true =>
          rw [if_pos ⟨c1, hm⟩] at ih'
          rw [if_neg (by decide), if_pos o1, bnd_eq]
          exact ih'
      · rw [if_neg c1]
        rw [if_neg (fun q => c1 q.1)] at ih'
        exact ih'
theorem M_placesOf_eq (h : mInv σ nT nS nH nP nw nL) {t f : Nat} (ht : t < nT) : M_placesOf σ (nI t) (nI f) = some (mPlc σ.2 t f (frc σ nS)) := by
  have h8 : nS ≤ 8 := h.1.2.2.2.1
  have h30 : nT ≤ 30 := h.1.2.1
  unfold M_placesOf
  rw [M_force_now h, ob_some]
  unfold M_placesOf_B87 mPlc
  rcases frc_in σ nS with e | e
  · rw [if_pos e, e, show gF = 1048575 + 1 from rfl]
    unfold M_placesOf_L16
    rw [if_pos rfl]
  · have e2 := ibt_c e (by omega)
    rw [if_neg (by rw [e2.1]; exact i_m1_ne (by omega)), e2.1, nI_clamp (by omega)]
    have h25 := ibt_c (h.2.1 25 _ e2.2) (by decide)
    exact M_placesOf_L (f := f) h.2.1 h8 h30 e2.2 ht gF 0 (Nat.zero_le _) (by unfold gF; omega)
theorem K5_storesFor_L {Rt : Type} {kk : Int32 → Option Rt} {s t f : Nat} (h : RepB a0 μ σ B tg nT nS nH nP nw nL) (hs : s < nS) (ht : t < nT) (hf : f < 8) : ∀ (F i : Nat), i ≤ (σ.2 25 s).toNatClampNeg → (σ.2 25 s).toNatClampNeg < i + F → K5_storesFor_L6 μ (B 15 s 0) (B 10 t 0) (nI f) kk F (mPls σ.2 t f s i) (nI i) = kk (mPls σ.2 t f s (σ.2 25 s).toNatClampNeg) := by
  have h25 := ibt_c (h.1.2.1 25 s hs) (by decide)
  obtain ⟨q1, q2, q3, q4, q5, q6, q7, q8, q9⟩ := h.st hs
  intro F
  induction F with
  | zero => intro i h1 h2; omega
  | succ F ih =>
    intro i h1 h2
    unfold K5_storesFor_L6
    rw [if_pos q2, q8]
    by_cases hi : i = (σ.2 25 s).toNatClampNeg
    · rw [if_pos (by rw [h25.1, hi]; exact nI_le (Nat.le_refl _) (by omega)), hi]
    · have hlt : i < (σ.2 25 s).toNatClampNeg := by omega
      have hl := (lvr_of h.1.2.1 hs hlt).1
      obtain ⟨r1, r2, -⟩ := h.ru hs (show i < rmy σ.2 s from hlt)
      have v0 : kI μ (B 18 s i) 0 = σ.2 26 (24 * s + i) := h.2.2 18 s i 0 ⟨hs, hlt, by omega⟩
      have v3 : kI μ (B 18 s i) 3 = σ.2 32 (24 * s + i) := h.2.2 18 s i 3 ⟨hs, hlt, by omega⟩
      have ih' := ih (i + 1) (by omega) (by omega)
      rw [mPls_succ] at ih'
      have o1 := (okI_nI (show i < 2 ^ 31 by omega)).mpr (show i < 24 by omega)
      rw [if_neg (by rw [h25.1]; exact nI_ge hlt (by omega))]
      simp only [q3, ob_some, q5.1, q5.2, if_true, o1, nI_clamp (show i < 2 ^ 31 by omega), r1, r2, v0, v3, K3_isFor_eq h hs (show i < rmy σ.2 s from hlt) ht hf, bnd_eq]
      unfold K5_storesFor_B57
      rw [nI_1]
      by_cases c1 : σ.2 26 (24 * s + i) = 2
      · rw [if_pos c1]
        cases hm : mFor σ.2 (24 * s + i) t f with
        | false =>
          rw [if_neg (fun q => by rw [hm] at q; cases q.2)] at ih'
          rw [if_pos (by decide)]
          exact ih'
        | true =>
          rw [if_pos ⟨c1, hm⟩] at ih'
          rw [if_neg (by decide)]
          exact ih'
      · rw [if_neg c1]
        rw [if_neg (fun q => c1 q.1)] at ih'
        exact ih'
theorem K9_placesOf_eq (h : RepB a0 μ σ B tg nT nS nH nP nw nL) {t f : Nat} (ht : t < nT) (hf : f < 8) : K9_placesOf μ a0 (B 10 t 0) (nI f) = some (mPlc σ.2 t f (frc σ nS)) := by
  have h8 := h.nS8
  unfold K9_placesOf K9_placesOf_B20 mPlc
  rw [if_pos h.k9, K9_setInForce_eq h, ob_some]
  unfold bSet
  rcases frc_in σ nS with e | e
  · rw [if_pos e, if_pos e, om_none]
  · have e2 := ibt_c e (by omega)
    have e3 : ¬ frc σ nS = -1 := by rw [e2.1]; exact i_m1_ne (by omega)
    obtain ⟨q1, q2, -⟩ := h.st e2.2
    have h25 := ibt_c (h.1.2.1 25 _ e2.2) (by decide)
    rw [if_neg e3, if_neg e3, om_some, if_pos q2]
    unfold K5_storesFor
    rw [show (0 : Int32) = nI 0 from rfl, show (15 : Int32) = mPls σ.2 t f (frc σ nS).toNatClampNeg 0 from rfl, K5_storesFor_L h e2.2 ht hf gF 0 (Nat.zero_le _) (by unfold gF; omega), ob_some]
end PLC
