section OPS6
variable {a0 : Nat} {μ : Km} {σ : Ms} {B : Nat → Nat → Nat → Nat} {tg : Nat → Nat × Nat × Nat} {nT nS nH nP nw nL : Nat} {A : Ar}
theorem isum_split (g : Nat → Int32) (x : Int32) (m : Nat) : ∀ n, isum g x (m + n) = isum (fun k => g (m + k)) (isum g x m) n
  | 0 => rfl
  | n + 1 => by
    rw [show m + (n + 1) = m + n + 1 by omega, isum_succ, isum_succ, isum_split g x m n]
theorem osum_flat (g : Nat → Int32) : ∀ t, osum (fun t f => g (8 * t + f)) t = isum g 0 (8 * t)
  | 0 => rfl
  | t + 1 => by
    rw [osum_succ, osum_flat g t, show 8 * (t + 1) = 8 * t + 8 by omega, isum_split]
theorem isum_zero {g : Nat → Int32} {x : Int32} : ∀ n, (∀ k, k < n → g k = 0) → isum g x n = x
  | 0, _ => rfl
  | n + 1, h => by
    rw [isum_succ, isum_zero n (fun k hk => h k (by omega)), h n (by omega), i_add0]
def gCpy (A : Ar) (j : Nat) : Int32 := pc (A 12 j)
theorem M_count_Lc {Rt : Type} {kk : Int32 → Option Rt} {a : Int32} (h : mInv σ nT nS nH nP nw nL) : ∀ (F j : Nat), j ≤ 240 → 240 < j + F → M_count_L9 σ a kk F (isum (gCpy σ.2) 0 j) (nI j) = kk (isum (gCpy σ.2) 0 240) := by
  intro F
  induction F with
  | zero => intro j h1 h2; omega
  | succ F ih =>
    intro j h1 h2
    unfold M_count_L9
    rw [show (240 : Int32) = nI 240 from rfl]
    by_cases hj : j = 240
    · subst hj
      rw [if_pos (nI_le (Nat.le_refl _) (by omega))]
    · have ih' := ih (j + 1) (by omega) (by omega)
      obtain ⟨⟨v, hv, ev⟩, -⟩ := h.2.1 12 j (by omega)
      rw [isum_succ, gCpy, ev] at ih'
      rw [if_neg (nI_ge (by omega) (by omega)), if_pos ((okI_nI (by omega)).mpr (by omega)), nI_clamp (by omega), ev, on16 hv, ob_some, bnd_eq, nI_1]
      exact ih'
def gHld (A : Ar) (j : Nat) : Int32 := if A 18 j = 0 then 1 else 0
theorem M_count_Lh {Rt : Type} {kk : Int32 → Option Rt} {a b : Int32} (h : mInv σ nT nS nH nP nw nL) : ∀ (F j : Nat), j ≤ nH → nH < j + F → M_count_L39 σ a b kk F (isum (gHld σ.2) 0 j) (nI j) = kk (isum (gHld σ.2) 0 nH) := by
  have h40 : nH ≤ 40 := h.1.2.2.2.2.2.1
  intro F
  induction F with
  | zero => intro j h1 h2; omega
  | succ F ih =>
    intro j h1 h2
    unfold M_count_L39
    rw [h.1.2.2.2.2.1]
    by_cases hj : j = nH
    · subst hj
      rw [if_pos (nI_le (Nat.le_refl _) (by omega))]
    · have ih' := ih (j + 1) (by omega) (by omega)
      rw [isum_succ, gHld] at ih'
      rw [if_neg (nI_ge (by omega) (by omega)), if_pos ((okI_nI (by omega)).mpr (by omega)), nI_clamp (by omega)]
      unfold M_count_B64
      rw [nI_1, bnd_eq, bnd_eq]
      by_cases c : σ.2 18 j = 0
      · rw [if_pos c]; rw [if_pos c] at ih'; exact ih'
      · rw [if_neg c]; rw [if_neg c] at ih'; exact ih'
theorem K9_copyCount_Li {Rt : Type} {kk : Int32 → Option Rt} {t : Nat} (h : RepB a0 μ σ B tg nT nS nH nP nw nL) (ht : t < nT) (x : Int32) : ∀ (F f : Nat), f ≤ 8 → 8 < f + F → K9_copyCount_L14 μ a0 (nI t) kk F (isum (fun f => gCpy σ.2 (8 * t + f)) x f) (nI f) = kk (isum (fun f => gCpy σ.2 (8 * t + f)) x 8) := by
  have h30 := h.nT30
  obtain ⟨s1, s2, s3⟩ := h.thgs
  obtain ⟨t1, t2, t3, t4, t5, t6, t7, t8, t9⟩ := h.th ht
  intro F
  induction F with
  | zero => intro f h1 h2; omega
  | succ F ih =>
    intro f h1 h2
    unfold K9_copyCount_L14
    rw [show (8 : Int32) = nI 8 from rfl]
    by_cases hf : f = 8
    · subst hf
      rw [if_pos (nI_le (Nat.le_refl _) (by omega))]
    · have hf8 : f < 8 := by omega
      have ih' := ih (f + 1) (by omega) (by omega)
      obtain ⟨⟨v, hv, ev⟩, -⟩ := h.1.2.1 12 (8 * t + f) (by omega)
      rw [isum_succ, gCpy, ev] at ih'
      have o1 := (okI_nI (show t < 2 ^ 31 by omega)).mpr (show t < 30 by omega)
      have o2 := (okI_nI (show f < 2 ^ 31 by omega)).mpr hf8
      have vf : kI μ (B 13 t 0) f = nI v := (h.2.2 13 t 0 f ⟨ht, rfl, hf8⟩).trans ev
      rw [if_neg (nI_ge hf8 (by omega))]
      simp only [if_pos h.k9, s1, ob_some, s2, s3, if_true, o1, o2, nI_clamp (show t < 2 ^ 31 by omega), nI_clamp (show f < 2 ^ 31 by omega), t1, t2, t5, t8, t9, vf, bnd_eq, bC16 hv, nI_1]
      exact ih'
theorem K9_copyCount_Lo {Rt : Type} {kk : Int32 → Option Rt} (h : RepB a0 μ σ B tg nT nS nH nP nw nL) : ∀ (F t : Nat), t ≤ nT → nT < t + F → K9_copyCount_L4 μ a0 kk F (osum (fun t f => gCpy σ.2 (8 * t + f)) t) (nI t) = kk (osum (fun t f => gCpy σ.2 (8 * t + f)) nT) := by
  have h30 := h.nT30
  intro F
  induction F with
  | zero => intro t h1 h2; omega
  | succ F ih =>
    intro t h1 h2
    unfold K9_copyCount_L4
    rw [if_pos h.k9, h.i6]
    by_cases ht : t = nT
    · subst ht
      rw [if_pos (nI_le (Nat.le_refl _) (by omega))]
    · have hi := K9_copyCount_Li (kk := fun v1_43 => K9_copyCount_L4 μ a0 kk F v1_43 (nI t + 1)) h (show t < nT by omega) (osum (fun t f => gCpy σ.2 (8 * t + f)) t) gF 0 (by omega) (by unfold gF; omega)
      rw [if_neg (nI_ge (by omega) (by omega))]
      refine Eq.trans hi ?_
      rw [nI_1]
      exact ih (t + 1) (by omega) (by omega)
theorem K9_copyCount_eq (h : RepB a0 μ σ B tg nT nS nH nP nw nL) : K9_copyCount μ a0 = some (isum (gCpy σ.2) 0 240) := by
  have h30 := h.nT30
  have hi := K9_copyCount_Lo (kk := fun v1_49 => some v1_49) h gF 0 (Nat.zero_le _) (by unfold gF; omega)
  rw [show osum (fun t f => gCpy σ.2 (8 * t + f)) 0 = (0 : Int32) from rfl, show nI 0 = (0 : Int32) from rfl, osum_flat] at hi
  unfold K9_copyCount
  rw [hi, show 240 = 8 * nT + (240 - 8 * nT) by omega, isum_split, isum_zero (g := fun k => gCpy σ.2 (8 * nT + k)) (240 - 8 * nT)]
  intro k hk
  have := (h.1.2.1 12 (8 * nT + k) (by omega)).2 (by omega)
  unfold gCpy
  rw [this]
  rfl
theorem RepB.hlds (h : RepB a0 μ σ B tg nT nS nH nP nw nL) : kR μ a0 8 = some (B 4 0 0) ∧ kK μ (B 4 0 0) = 14 ∧ kN μ (B 4 0 0) = 40 := ⟨h.r (by omega), (h.one (c := 4) (by omega)).1, (h.one (c := 4) (by omega)).2⟩
theorem RepB.hd (h : RepB a0 μ σ B tg nT nS nH nP nw nL) {j : Nat} (hj : j < nH) : kR μ (B 4 0 0) j = some (B 14 j 0) ∧ kK μ (B 14 j 0) = 1 ∧ kR μ (B 14 j 0) 0 = some (B 10 (σ.2 16 j).toNatClampNeg 0) ∧ kI μ (B 14 j 0) 1 = σ.2 17 j ∧ kI μ (B 14 j 0) 2 = σ.2 18 j := by
  have r2 := h.2.1.2.2.2
  have k2 := h.2.1.2.2.1
  exact ⟨r2 4 0 0 j ⟨hj, rfl, rfl⟩, (k2 14 j 0 ⟨hj, rfl⟩).1, r2 14 j 0 0 ⟨hj, rfl, rfl⟩, h.2.2 14 j 0 1 ⟨hj, rfl, by omega⟩, h.2.2 14 j 0 2 ⟨hj, rfl, by omega⟩⟩
theorem K9_openHoldCount_L {Rt : Type} {kk : Int32 → Option Rt} (h : RepB a0 μ σ B tg nT nS nH nP nw nL) : ∀ (F j : Nat), j ≤ nH → nH < j + F → K9_openHoldCount_L4 μ a0 kk F (isum (gHld σ.2) 0 j) (nI j) = kk (isum (gHld σ.2) 0 nH) := by
  have h40 := h.nH40
  obtain ⟨s1, s2, s3⟩ := h.hlds
  intro F
  induction F with
  | zero => intro j h1 h2; omega
  | succ F ih =>
    intro j h1 h2
    unfold K9_openHoldCount_L4
    rw [if_pos h.k9, h.i9]
    by_cases hj : j = nH
    · subst hj
      rw [if_pos (nI_le (Nat.le_refl _) (by omega))]
    · have ih' := ih (j + 1) (by omega) (by omega)
      rw [isum_succ, gHld] at ih'
      obtain ⟨q1, q2, q3, q4, q5⟩ := h.hd (show j < nH by omega)
      have o1 := (okI_nI (show j < 2 ^ 31 by omega)).mpr (show j < 40 by omega)
      rw [if_neg (nI_ge (by omega) (by omega))]
      simp only [s1, ob_some, s2, s3, if_true, o1, nI_clamp (show j < 2 ^ 31 by omega), q1, q2, q5]
      unfold K9_openHoldCount_B30
      rw [nI_1, bnd_eq, bnd_eq]
      by_cases c : σ.2 18 j = 0
      · rw [if_pos c]; rw [if_pos c] at ih'; exact ih'
      · rw [if_neg c]; rw [if_neg c] at ih'; exact ih'
theorem M_count_eq {a1 : Int32} (h : mInv σ nT nS nH nP nw nL) : M_count σ a1 = (if a1 = 0 then some (σ.1 1, mSet σ 0 0) else if a1 = 1 then some (σ.1 2, mSet σ 0 0) else if a1 = 2 then some (σ.1 3, mSet σ 0 0) else if a1 = 3 then some (frc σ nS, mSet σ 0 0) else if a1 = 4 then some (σ.1 5, mSet σ 0 0) else if a1 = 5 then some (σ.1 6, mSet σ 0 0) else if a1 = 6 then some (isum (gCpy σ.2) 0 240, mSet σ 0 0) else if a1 = 7 then some (isum (gHld σ.2) 0 nH, mSet σ 0 0) else if a1 = 8 then some (σ.1 7, mSet σ 0 0) else if a1 = 9 then some (if frc σ nS = -1 then 0 else σ.2 25 (frc σ nS).toNatClampNeg, mSet σ 0 0) else some (0, mSet (mSet σ 0 0) 0 1)) := by
  have h8 : nS ≤ 8 := h.1.2.2.2.1
  have h40 : nH ≤ 40 := h.1.2.2.2.2.2.1
  unfold M_count
  rw [bnd_eq]
  refine Eq.trans (M_count_Lc (mInv_code h 0) gF 0 (by omega) (by unfold gF; omega)) ?_
  refine Eq.trans (M_count_Lh (mInv_code h 0) gF 0 (by omega) (by unfold gF; omega)) ?_
  rw [M_force_now (mInv_code h 0), ob_some]
  have e9 : (if frc (mSet σ 0 0) nS = (-1 : Int32) then M_count_B190 (mSet σ 0 0) (0 : Int32) else if okI (frc (mSet σ 0 0) nS) 8 = true then M_count_B190 (mSet σ 0 0) ((mSet σ 0 0).2 25 (frc (mSet σ 0 0) nS).toNatClampNeg) else none) = some (if frc σ nS = -1 then 0 else σ.2 25 (frc σ nS).toNatClampNeg, mSet σ 0 0) := by
    show (if frc σ nS = (-1 : Int32) then M_count_B190 (mSet σ 0 0) (0 : Int32) else if okI (frc σ nS) 8 = true then M_count_B190 (mSet σ 0 0) (σ.2 25 (frc σ nS).toNatClampNeg) else none) = _
    rcases frc_in σ nS with e | e
    · rw [if_pos e, if_pos e]; rfl
    · have e2 := ibt_c e (by omega)
      have e3 : ¬ frc σ nS = -1 := by rw [e2.1]; exact i_m1_ne (by omega)
      rw [if_neg e3, if_neg e3, if_pos (by rw [e2.1]; exact (okI_nI (by omega)).mpr (by omega))]; rfl
  rw [e9]
  rfl
theorem op_count_ok : op_count (Rep a0) a0 := by
  rintro μ σ a1 ⟨B, tg, nT, nS, nH, nP, nw, nL, h⟩
  have h8 := h.nS8
  have h40 := h.nH40
  have e10 : kR μ a0 10 = some (B 5 0 0) := h.r (by omega)
  have k5 : kK μ (B 5 0 0) = 2 := (h.one (c := 5) (by omega)).1
  have i1 : kI μ (B 5 0 0) 1 = σ.1 5 := h.2.2 5 0 0 1 ⟨rfl, rfl, by omega⟩
  have i2 : kI μ (B 5 0 0) 2 = σ.1 6 := h.2.2 5 0 0 2 ⟨rfl, rfl, by omega⟩
  have x1 : kI μ a0 1 = σ.1 7 := by have e := h.2.2 22 0 0 1 ⟨rfl, rfl, by omega⟩; rw [h.2.1.1] at e; exact e
  have x4 : kI μ a0 4 = σ.1 3 := by have e := h.2.2 22 0 0 4 ⟨rfl, rfl, by omega⟩; rw [h.2.1.1] at e; exact e
  have x6 : kI μ a0 6 = σ.1 2 := by have e := h.2.2 22 0 0 6 ⟨rfl, rfl, by omega⟩; rw [h.2.1.1] at e; exact e
  have eo : K9_openHoldCount μ a0 = some (isum (gHld σ.2) 0 nH) := by
    have hi := K9_openHoldCount_L (kk := fun v1_38 => some v1_38) h gF 0 (Nat.zero_le _) (by unfold gF; omega)
    unfold K9_openHoldCount
    exact hi
  have e9 : ((K9_setInForce μ a0).bind (fun r_108 => om r_108 (K9_count_B124 μ (0 : Int32)) (fun b113 => if kK μ b113 = 5 then K9_count_B124 μ (kI μ b113 2) else none))) = some (.inl (if frc σ nS = -1 then 0 else σ.2 25 (frc σ nS).toNatClampNeg, μ)) := by
    rw [K9_setInForce_eq h, ob_some]
    unfold bSet
    rcases frc_in σ nS with e | e
    · rw [if_pos e, if_pos e, om_none]; rfl
    · have e2 := ibt_c e (by omega)
      have e3 : ¬ frc σ nS = -1 := by rw [e2.1]; exact i_m1_ne (by omega)
      obtain ⟨q1, q2, q3, q4, q5, q6, q7, q8, q9⟩ := h.st e2.2
      rw [if_neg e3, if_neg e3, om_some, if_pos q2, q8]; rfl
  have kst : K9_count μ a0 a1 = (if a1 = 0 then some (.inl (σ.1 1, μ)) else if a1 = 1 then some (.inl (σ.1 2, μ)) else if a1 = 2 then some (.inl (σ.1 3, μ)) else if a1 = 3 then some (.inl (frc σ nS, μ)) else if a1 = 4 then some (.inl (σ.1 5, μ)) else if a1 = 5 then some (.inl (σ.1 6, μ)) else if a1 = 6 then some (.inl (isum (gCpy σ.2) 0 240, μ)) else if a1 = 7 then some (.inl (isum (gHld σ.2) 0 nH, μ)) else if a1 = 8 then some (.inl (σ.1 7, μ)) else if a1 = 9 then some (.inl (if frc σ nS = -1 then 0 else σ.2 25 (frc σ nS).toNatClampNeg, μ)) else some (.inr (true, μ))) := by
    unfold K9_count
    simp only [if_pos h.k9, h.now, x6, x4, K9_numberInForce_eq h, ob_some, e10, k5, if_true, i1, i2, K9_copyCount_eq h, eo, x1, e9]
  have fin : ∀ r : Int32, opI (Rep a0) (fun _ => 1) (fun b => b) (some (.inl (r, μ))) (some (r, mSet σ 0 0)) := fun r => opI_ok rfl rfl (mSet_0v _ _) (Rep_code h.rep _)
  show opI (Rep a0) (fun _ => 1) (fun b => b) (K9_count μ a0 a1) (M_count σ a1)
  rw [kst, M_count_eq h.1]
  by_cases c0 : a1 = 0
  · rw [if_pos c0, if_pos c0]; exact fin _
  rw [if_neg c0, if_neg c0]
  by_cases c1 : a1 = 1
  · rw [if_pos c1, if_pos c1]; exact fin _
  rw [if_neg c1, if_neg c1]
  by_cases c2 : a1 = 2
  · rw [if_pos c2, if_pos c2]; exact fin _
  rw [if_neg c2, if_neg c2]
  by_cases c3 : a1 = 3
  · rw [if_pos c3, if_pos c3]; exact fin _
  rw [if_neg c3, if_neg c3]
  by_cases c4 : a1 = 4
  · rw [if_pos c4, if_pos c4]; exact fin _
  rw [if_neg c4, if_neg c4]
  by_cases c5 : a1 = 5
  · rw [if_pos c5, if_pos c5]; exact fin _
  rw [if_neg c5, if_neg c5]
  by_cases c6 : a1 = 6
  · rw [if_pos c6, if_pos c6]; exact fin _
  rw [if_neg c6, if_neg c6]
  by_cases c7 : a1 = 7
  · rw [if_pos c7, if_pos c7]; exact fin _
  rw [if_neg c7, if_neg c7]
  by_cases c8 : a1 = 8
  · rw [if_pos c8, if_pos c8]; exact fin _
  rw [if_neg c8, if_neg c8]
  by_cases c9 : a1 = 9
  · rw [if_pos c9, if_pos c9]; exact fin _
  rw [if_neg c9, if_neg c9]
  exact opI_no rfl rfl rfl (mSet_0v _ _) (Rep_code (Rep_code h.rep _) _)
end OPS6
