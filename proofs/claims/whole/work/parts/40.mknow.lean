section MKNOW
variable {a0 : Nat} {μ : Km} {σ τ : Ms} {B : Nat → Nat → Nat → Nat} {tg : Nat → Nat × Nat × Nat} {nT nS nH nP nw nL : Nat} {A A' : Ar}
def kmo (τ σ : Ms) : Prop := (∀ k, k < 48 ∨ k = 53 ∨ 54 < k → τ.1 k = σ.1 k) ∧ ∀ k, k ≠ 53 → k < 55 ∨ 58 < k → τ.2 k = σ.2 k
theorem mRg_same (h1 : ∀ k, k ≠ 53 → k < 55 ∨ 58 < k → A' k = A k) (h : ∀ k j, mRg A nT nS nH k j) : ∀ k j, mRg A' nT nS nH k j := by
  intro k j
  by_cases e : k = 53 ∨ (55 ≤ k ∧ k ≤ 58)
  · rcases e with rfl | ⟨h2, h3⟩
    · trivial
    · rcases (show k = 55 ∨ k = 56 ∨ k = 57 ∨ k = 58 by omega) with rfl | rfl | rfl | rfl <;> trivial
  · rw [mRg_cg (A := A) (h1 25 (by decide) (by decide)) (h1 26 (by decide) (by decide)) (h1 34 (by decide) (by decide)) (by rw [h1 k (by omega) (by omega)])]
    exact h k j
theorem mSpan_same (h : ∀ k j, mRg A nT nS nH k j) (hS : nS ≤ 8) (h1 : ∀ k, k ≠ 53 → k < 55 ∨ 58 < k → A' k = A k) {t f : Nat} {s : Int32} (hs : s = -1 ∨ ibt s nS) : mSpan A' t f s = mSpan A t f s :=
  mSpan_cg h hS (fun k q1 q2 => h1 k (by omega) (by omega)) hs (by rw [h1 9 (by decide) (by decide)]) (fun a _ => by rw [h1 10 (by decide) (by decide)]) (fun a _ => by rw [h1 11 (by decide) (by decide)])
theorem M_know_Lz {Rt : Type} {kk : Ms → Option Rt} {t f : Nat} {r : Int32} : ∀ (F i : Nat) (ρ : Ms), i ≤ 30 → 30 < i + F → ρ.1 = σ.1 → (∀ k, k ≠ 55 → ρ.2 k = σ.2 k) → (∀ j, j < i → ρ.2 55 j = 0) → ∃ ρ', M_know_L20 (nI t) (nI f) r kk F ρ (nI i) = kk ρ' ∧ ρ'.1 = σ.1 ∧ (∀ k, k ≠ 55 → ρ'.2 k = σ.2 k) ∧ ∀ j, j < 30 → ρ'.2 55 j = 0 := by
  intro F
  induction F with
  | zero => intro i ρ h1 h2; omega
  | succ F ih =>
    intro i ρ h1 h2 e1 e2 e3
    unfold M_know_L20
    rw [show (30 : Int32) = nI 30 from rfl]
    by_cases hi : i = 30
    · subst hi
      rw [if_pos (nI_le (Nat.le_refl _) (by omega))]
      exact ⟨ρ, rfl, e1, e2, e3⟩
    · rw [if_neg (nI_ge (by omega) (by omega)), if_pos ((okI_nI (by omega)).mpr (by omega)), nI_clamp (by omega), bnd_eq, nI_1]
      refine ih (i + 1) (mSto ρ 55 i 0) (by omega) (by omega) e1 (fun k hk => (mSto_ne _ _ _ _ hk).trans (e2 k hk)) (fun j hj => ?_)
      rw [mSto_at]
      by_cases e : j = i
      · rw [if_pos ⟨rfl, e⟩]
      · rw [if_neg (fun z => e z.2)]; exact e3 j (by omega)
def kin (ρ ρ1 : Ms) (A : Ar) (t : Nat) (r : Int32) (g : Nat) : Prop := (∀ k, k < 48 ∨ 52 < k → ρ.1 k = ρ1.1 k) ∧ (∀ k, k ≠ 53 → k ≠ 56 → k ≠ 57 → k ≠ 58 → ρ.2 k = ρ1.2 k) ∧ (∀ j, j < 8 * t ∨ 8 * t + 8 ≤ j → ρ.2 56 j = ρ1.2 56 j ∧ ρ.2 57 j = ρ1.2 57 j ∧ ρ.2 58 j = ρ1.2 58 j) ∧ ∀ g', g' < g → ρ.2 56 (8 * t + g') = (mSpan A t g' r).1 ∧ ρ.2 57 (8 * t + g') = (mSpan A t g' r).2.1 ∧ ρ.2 58 (8 * t + g') = (mSpan A t g' r).2.2.2.1
theorem M_know_Lk {Rt : Type} {kk : Ms → Option Rt} {t f : Nat} {r : Int32} {ρ1 : Ms} (h : ∀ k j, mRg A nT nS nH k j) (hS : nS ≤ 8) (hT : nT ≤ 30) (hr : r = -1 ∨ ibt r nS) (ht : t < nT) (h1 : ∀ k, k ≠ 53 → k < 55 ∨ 58 < k → ρ1.2 k = A k) (h55 : ρ1.2 55 t = 0) : ∀ (F g : Nat) (ρ : Ms), g ≤ 8 → 8 < g + F → kin ρ ρ1 A t r g → ∃ ρ', M_know_L49 (nI t) (nI f) r kk F ρ (nI g) = kk ρ' ∧ kin ρ' ρ1 A t r 8 := by
  intro F
  induction F with
  | zero => intro g ρ q1 q2; omega
  | succ F ih =>
    intro g ρ q1 q2 hk
    unfold M_know_L49
    rw [show (8 : Int32) = nI 8 from rfl]
    by_cases hg : g = 8
    · subst hg
      rw [if_pos (nI_le (Nat.le_refl _) (by omega))]
      exact ⟨ρ, rfl, hk⟩
    · have hA : ∀ k, k ≠ 53 → k < 55 ∨ 58 < k → ρ.2 k = A k := fun k z1 z2 => (hk.2.1 k z1 (by omega) (by omega) (by omega)).trans (h1 k z1 z2)
      have hρ := mRg_same hA h
      obtain ⟨τ1, e1, hc1, hq1⟩ := M_tell_eq0 (σ := ρ) (t := t) (f := g) hS hT hρ hr ht
      rw [mSpan_same h hS hA hr] at hq1
      have o1 := (okI_nI (show 8 * t + g < 2 ^ 31 by omega)).mpr (show 8 * t + g < 240 by omega)
      rw [if_neg (nI_ge (by omega) (by omega)), if_pos ((okI_nI (by omega)).mpr (by omega)), nI_clamp (show t < 2 ^ 31 by omega), hk.2.1 55 (by decide) (by decide) (by decide) (by decide), if_pos h55, e1, ob_some, pk_mul, nI_add, if_pos o1, nI_clamp (by omega), bnd_eq, bnd_eq, bnd_eq, nI_1, if_pos o1, if_pos o1]
      refine ih (g + 1) _ (by omega) (by omega) ⟨fun k z => ?_, fun k z1 z2 z3 z4 => ?_, fun j z => ?_, fun g' z => ?_⟩
      · exact (hc1.1 k z).trans (hk.1 k z)
      · rw [mSto_ne _ _ _ _ z4, mSto_ne _ _ _ _ z3, mSto_ne _ _ _ _ z2, hc1.2 k z1]
        exact hk.2.1 k z1 z2 z3 z4
      · rw [mSto_at, if_neg (by omega), mSto_at, if_neg (by omega), mSto_at, if_neg (by omega), mSto_at, if_neg (by omega), mSto_at, if_neg (by omega), mSto_at, if_neg (by omega), mSto_at, if_neg (by omega), mSto_at, if_neg (by omega), mSto_at, if_neg (by omega), hc1.2 56 (by decide), hc1.2 57 (by decide), hc1.2 58 (by decide)]
        exact hk.2.2.1 j z
      · simp only [mSto_at, mSto_1]
        by_cases e : g' = g
        · subst e
          simp [hq1.1, hq1.2.1, hq1.2.2.2.1]
        · have hne : ¬ 8 * t + g' = 8 * t + g := by omega
          simp only [hne, and_false, if_false]
          rw [hc1.2 56 (by decide), hc1.2 57 (by decide), hc1.2 58 (by decide)]
          exact hk.2.2.2 g' (by omega)
theorem M_know_eq {t f : Nat} (h : mInv σ nT nS nH nP nw nL) (ht : t < nT) (hf : f < 8) : ∃ τ, M_know σ (nI t) (nI f) = some τ ∧ kmo τ σ ∧ mInv τ nT nS nH nP nw nL ∧ τ.1 48 = (mSpan σ.2 t f (frc σ nS)).1 ∧ τ.1 49 = (mSpan σ.2 t f (frc σ nS)).2.1 ∧ τ.1 51 = (mSpan σ.2 t f (frc σ nS)).2.2.2.1 := by
  have hS : nS ≤ 8 := h.1.2.2.2.1
  have hT : nT ≤ 30 := h.1.2.1
  have hr := frc_in σ nS
  have key : ∀ ρ : Ms, ρ.1 = σ.1 → (∀ k, k ≠ 55 → ρ.2 k = σ.2 k) → mKep (mSet ρ 54 (frc σ nS)) nT nS → ∃ τ, M_know_B41 ρ (nI t) (nI f) (frc σ nS) = some τ ∧ kmo τ σ ∧ mInv τ nT nS nH nP nw nL ∧ τ.1 48 = (mSpan σ.2 t f (frc σ nS)).1 ∧ τ.1 49 = (mSpan σ.2 t f (frc σ nS)).2.1 ∧ τ.1 51 = (mSpan σ.2 t f (frc σ nS)).2.2.2.1 := by
    intro ρ e1 e2 hK
    have h54 : (mSet ρ 54 (frc σ nS)).1 54 = frc σ nS := by rw [mSet_at, if_pos rfl]
    have hA : ∀ k, k ≠ 53 → k < 55 ∨ 58 < k → (mSet ρ 54 (frc σ nS)).2 k = σ.2 k := fun k z1 z2 => e2 k (by omega)
    -- behind the loop
    have fin : ∀ ρ2 : Ms, kin ρ2 (mSet ρ 54 (frc σ nS)) σ.2 t (frc σ nS) 8 → ∃ τ, M_know_B127 ρ2 (nI t) (nI f) = some τ ∧ kmo τ σ ∧ mInv τ nT nS nH nP nw nL ∧ τ.1 48 = (mSpan σ.2 t f (frc σ nS)).1 ∧ τ.1 49 = (mSpan σ.2 t f (frc σ nS)).2.1 ∧ τ.1 51 = (mSpan σ.2 t f (frc σ nS)).2.2.2.1 := by
      intro ρ2 hk
      obtain ⟨k1, k2, k3, k4⟩ := hk
      have o1 := (okI_nI (show 8 * t + f < 2 ^ 31 by omega)).mpr (show 8 * t + f < 240 by omega)
      have hB : ∀ k, k ≠ 53 → k < 55 ∨ 58 < k → (mSto ρ2 55 t 1).2 k = σ.2 k := fun k z1 z2 => by
        rw [mSto_ne _ _ _ _ (by omega), k2 k z1 (by omega) (by omega) (by omega)]
        exact hA k z1 z2
      refine ⟨mSet (mSet (mSet (mSto ρ2 55 t 1) 48 (mSpan σ.2 t f (frc σ nS)).1) 49 (mSpan σ.2 t f (frc σ nS)).2.1) 51 (mSpan σ.2 t f (frc σ nS)).2.2.2.1, ?_, ⟨fun k z => ?_, hB⟩, ⟨?_, mRg_same hB h.2.1, ?_⟩, ?_, ?_, ?_⟩
      · unfold M_know_B127
        rw [if_pos ((okI_nI (by omega)).mpr (by omega)), nI_clamp (show t < 2 ^ 31 by omega), bnd_eq, show (8 : Int32) = nI 8 from rfl, pk_mul, nI_add, if_pos o1, nI_clamp (by omega), bnd_eq, bnd_eq, bnd_eq]
        have q4 := k4 f hf
        simp only [mSet_2, mSto_ne ρ2 55 t 1 (show 56 ≠ 55 by decide), mSto_ne ρ2 55 t 1 (show 57 ≠ 55 by decide), mSto_ne ρ2 55 t 1 (show 58 ≠ 55 by decide), q4.1, q4.2.1, q4.2.2, o1, if_true]
      · rw [mSet_at, if_neg (by omega), mSet_at, if_neg (by omega), mSet_at, if_neg (by omega), mSto_1, k1 k (by omega), mSet_at, if_neg (by omega), e1]
      · have hz : ∀ k, k < 48 → (mSet (mSet (mSet (mSto ρ2 55 t 1) 48 (mSpan σ.2 t f (frc σ nS)).1) 49 (mSpan σ.2 t f (frc σ nS)).2.1) 51 (mSpan σ.2 t f (frc σ nS)).2.2.2.1).1 k = σ.1 k := fun k z => by
          rw [mSet_at, if_neg (by omega), mSet_at, if_neg (by omega), mSet_at, if_neg (by omega), mSto_1, k1 k (by omega), mSet_at, if_neg (by omega), e1]
        unfold mCnt
        rw [hz 2 (by decide), hz 3 (by decide), hz 4 (by decide), hz 7 (by decide), hz 1 (by decide), hz 5 (by decide)]
        exact h.1
      · intro u hu
        have g54 : (mSet (mSet (mSet (mSto ρ2 55 t 1) 48 (mSpan σ.2 t f (frc σ nS)).1) 49 (mSpan σ.2 t f (frc σ nS)).2.1) 51 (mSpan σ.2 t f (frc σ nS)).2.2.2.1).1 54 = frc σ nS := by
          rw [mSet_at, if_neg (by omega), mSet_at, if_neg (by omega), mSet_at, if_neg (by omega), mSto_1, k1 54 (by omega), h54]
        rw [g54]
        simp only [mSet_2]
        rw [mSto_ne ρ2 55 t 1 (show 56 ≠ 55 by decide), mSto_ne ρ2 55 t 1 (show 57 ≠ 55 by decide), mSto_ne ρ2 55 t 1 (show 58 ≠ 55 by decide)]
        by_cases e : u = t
        · subst e
          refine Or.inr ⟨by rw [mSto_at, if_pos ⟨rfl, rfl⟩], ht, hr, fun g hg => ?_⟩
          rw [mSpan_same h.2.1 hS hB hr]
          exact k4 g hg
        · have := hK u hu
          rw [h54] at this
          simp only [mSet_2] at this
          rw [mSto_at, if_neg (fun z => e z.2), k2 55 (by decide) (by decide) (by decide) (by decide)]
          rcases this with q | ⟨q1, q2, q3, q4⟩
          · exact Or.inl q
          · refine Or.inr ⟨q1, q2, q3, fun g hg => ?_⟩
            rw [mSpan_same h.2.1 hS hB hr]
            have q5 := q4 g hg
            rw [mSpan_same (A' := ρ.2) h.2.1 hS hA hr] at q5
            obtain ⟨w1, w2, w3⟩ := k3 (8 * u + g) (by omega)
            rw [w1, w2, w3]
            exact q5
      · rw [mSet_at, if_neg (by decide), mSet_at, if_neg (by decide), mSet_at, if_pos rfl]
      · rw [mSet_at, if_neg (by decide), mSet_at, if_pos rfl]
      · rw [mSet_at, if_pos rfl]
    unfold M_know_B41
    rw [bnd_eq]
    by_cases c : ρ.2 55 t = 0
    · obtain ⟨ρ2, e3, hk⟩ := M_know_Lk (kk := fun s_127 => M_know_B127 s_127 (nI t) (nI f)) (f := f) (ρ1 := mSet ρ 54 (frc σ nS)) h.2.1 hS hT hr ht hA c gF 0 (mSet ρ 54 (frc σ nS)) (by omega) (by unfold gF; omega) ⟨fun _ _ => rfl, fun _ _ _ _ _ => rfl, fun _ _ => ⟨rfl, rfl, rfl⟩, fun g' z => absurd z (Nat.not_lt_zero g')⟩
      rw [show (0 : Int32) = nI 0 from rfl, e3]
      exact fin ρ2 hk
    · rw [show gF = 1048575 + 1 from rfl]
      unfold M_know_L49
      rw [if_neg (by decide), if_pos ((okI_nI (by omega)).mpr (by omega)), nI_clamp (show t < 2 ^ 31 by omega), mSet_2, if_neg c]
      refine fin _ ⟨fun _ _ => rfl, fun _ _ _ _ _ => rfl, fun _ _ => ⟨rfl, rfl, rfl⟩, fun g' z => ?_⟩
      rcases hK t (by omega) with q | ⟨q1, q2, q3, q4⟩
      · exact absurd q c
      · have q5 := q4 g' z
        rw [h54, mSpan_same (A' := (mSet ρ 54 (frc σ nS)).2) h.2.1 hS hA hr] at q5
        exact q5
  unfold M_know
  rw [M_force_now h, ob_some]
  by_cases c : frc σ nS = σ.1 54
  · rw [if_pos c]
    refine key σ rfl (fun _ _ => rfl) (fun u hu => ?_)
    have e54 : (mSet σ 54 (frc σ nS)).1 54 = σ.1 54 := by rw [mSet_at, if_pos rfl, c]
    rw [e54]
    exact h.2.2 u hu
  · rw [if_neg c]
    obtain ⟨ρ', e1, e2, e3, e4⟩ := M_know_Lz (σ := σ) (kk := fun s_41 => M_know_B41 s_41 (nI t) (nI f) (frc σ nS)) (t := t) (f := f) (r := frc σ nS) gF 0 σ (by omega) (by unfold gF; omega) rfl (fun _ _ => rfl) (fun j z => absurd z (Nat.not_lt_zero j))
    rw [show (0 : Int32) = nI 0 from rfl, e1]
    exact key ρ' e2 e3 (fun u hu => Or.inl (e4 u hu))
/-- the class is not touched by it -/
theorem RepB_kmo (h : RepB a0 μ σ B tg nT nS nH nP nw nL) (hk : kmo τ σ) (hI : mInv τ nT nS nH nP nw nL) : RepB a0 μ τ B tg nT nS nH nP nw nL := by
  refine RepB_id h hI (fun k q1 q2 => hk.2 k (by omega) (by omega)) (hk.2 16 (by decide) (by decide)) (fun c i j e hv => ?_)
  have ho : ord τ.2 = ord σ.2 := ord_cg (hk.2 25 (by decide) (by decide)) (hk.2 26 (by decide) (by decide)) (hk.2 33 (by decide) (by decide))
  have i1 := hk.1 1 (by omega)
  have i2 := hk.1 2 (by omega)
  have i3 := hk.1 3 (by omega)
  have i4 := hk.1 4 (by omega)
  have i5 := hk.1 5 (by omega)
  have i6 := hk.1 6 (by omega)
  have i7 := hk.1 7 (by omega)
  have i8 := hk.1 8 (by omega)
  unfold vwt
  rw [ho, i1, i2, i3, i4, i5, i6, i7, i8, hk.2 38 (by decide) (by decide), hk.2 19 (by decide) (by decide), hk.2 20 (by decide) (by decide), hk.2 21 (by decide) (by decide), hk.2 22 (by decide) (by decide), hk.2 23 (by decide) (by decide), hk.2 14 (by decide) (by decide), hk.2 15 (by decide) (by decide), hk.2 9 (by decide) (by decide), hk.2 59 (by decide) (by decide), hk.2 13 (by decide) (by decide), hk.2 10 (by decide) (by decide), hk.2 11 (by decide) (by decide), hk.2 12 (by decide) (by decide), hk.2 17 (by decide) (by decide), hk.2 18 (by decide) (by decide), hk.2 24 (by decide) (by decide), hk.2 25 (by decide) (by decide), hk.2 26 (by decide) (by decide), hk.2 27 (by decide) (by decide), hk.2 28 (by decide) (by decide), hk.2 29 (by decide) (by decide), hk.2 30 (by decide) (by decide), hk.2 31 (by decide) (by decide), hk.2 32 (by decide) (by decide), hk.2 33 (by decide) (by decide), hk.2 34 (by decide) (by decide), hk.2 35 (by decide) (by decide), hk.2 36 (by decide) (by decide), hk.2 37 (by decide) (by decide)]
theorem kmo_scr (h : scr τ σ) : kmo τ σ := ⟨fun k z => h.1 k (by omega), fun k z1 z2 => h.2 k z1⟩
theorem mInv_scr (hI : mInv σ nT nS nH nP nw nL) (h : scr τ σ) : mInv τ nT nS nH nP nw nL := by
  refine ⟨?_, mRg_same (fun k z1 z2 => h.2 k z1) hI.2.1, mKep_same hI (h.1 54 (by omega)) (h.2 55 (by decide)) (h.2 56 (by decide)) (h.2 57 (by decide)) (h.2 58 (by decide)) (fun k q1 q2 => h.2 k (by omega)) (h.2 9 (by decide)) (h.2 10 (by decide)) (h.2 11 (by decide))⟩
  unfold mCnt
  rw [h.1 2 (by omega), h.1 3 (by omega), h.1 4 (by omega), h.1 7 (by omega), h.1 1 (by omega), h.1 5 (by omega)]
  exact hI.1
theorem frc_kmo (h : kmo τ σ) : frc τ nS = frc σ nS := by
  unfold frc
  rw [h.2 24 (by decide) (by decide), h.1 1 (by omega)]
end MKNOW
