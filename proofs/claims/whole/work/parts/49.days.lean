section DAYS
variable {a0 : Nat} {μ ν : Km} {σ τ ρ : Ms} {B : Nat → Nat → Nat → Nat} {tg : Nat → Nat × Nat × Nat} {nT nS nH nP nw nL : Nat} {A : Ar}
def hasC (A : Ar) (t f s : Nat) : Prop := ¬ (A 12 (8 * t + f) >>> (nI s &&& 31)) &&& 1 = 0
theorem nxt_ge {e b d : Nat} (he : 1 ≤ e) : d ≤ nxt e b d := by
  unfold nxt
  have h4 := Nat.mod_lt (d - b) (show 0 < e by omega)
  split <;> omega
theorem nxt_le {e b : Nat} (he : 1 ≤ e) : ∀ (k d : Nat), b ≤ d → (d + k - b) % e = 0 → nxt e b d ≤ d + k := by
  intro k
  induction k with
  | zero =>
    intro d h1 h2
    rw [Nat.add_zero] at h2
    unfold nxt
    rw [if_pos h2]
    omega
  | succ k ih =>
    intro d h1 h2
    by_cases c : (d - b) % e = 0
    · unfold nxt
      rw [if_pos c]
      omega
    · rw [← nxt_suc he h1 c]
      have := ih (d + 1) (by omega) (by rw [show d + 1 + k - b = d + (k + 1) - b by omega]; exact h2)
      omega
theorem fF_le {e b d D : Nat} (he : 1 ≤ e) (hd : d ≤ D) (hb : b ≤ D) (hm : (D - b) % e = 0) (hD : D ≤ 200000) : fF e b d ≤ D := by
  unfold fF
  by_cases c : d ≤ b
  · rw [if_pos c]; exact hb
  · have h1 := nxt_le (b := b) he (D - d) d (by omega) (by rw [show d + (D - d) = D by omega]; exact hm)
    rw [if_neg c, if_pos (by omega)]
    omega
theorem fF_ge {e b d : Nat} (he : 1 ≤ e) (hd : d ≤ 999999) : d ≤ fF e b d := by
  have := nxt_ge (e := e) (b := b) (d := d) he
  unfold fF
  split
  · assumption
  · split <;> omega
theorem fF_up {e b d : Nat} (hb : b < 400) : fF e b d ≤ 999999 := by
  unfold fF
  split
  · omega
  · split <;> omega
theorem fF_eq {e b D : Nat} (he : 1 ≤ e) (hD : D ≤ 200000) : fF e b D = D ↔ (b ≤ D ∧ (D - b) % e = 0) := by
  have h4 := Nat.mod_lt (D - b) (show 0 < e by omega)
  unfold fF nxt
  by_cases c : D ≤ b
  · rw [if_pos c]
    constructor
    · intro z
      subst z
      exact ⟨Nat.le_refl _, by rw [Nat.sub_self, Nat.zero_mod]⟩
    · intro z
      omega
  · rw [if_neg c]
    by_cases c2 : (D - b) % e = 0
    · rw [if_pos c2, if_pos hD]
      exact ⟨fun _ => ⟨by omega, c2⟩, fun _ => rfl⟩
    · rw [if_neg c2]
      refine ⟨fun z => ?_, fun z => absurd z.2 c2⟩
      split at z <;> omega
theorem pDay_in (h : ∀ k j, mRg A nT nS nH k j) {t f s : Nat} {ss : Int32} (hs : s < 4) (hw : nw ≤ 200000) : nw < pDay A t f s ss nw ∧ pDay A t f s ss nw ≤ 999999 := by
  obtain ⟨e, he1, he2, ee⟩ := h 14 s hs
  obtain ⟨b, hb, eb⟩ := h 15 s hs
  obtain ⟨⟨v, hv, ev⟩, -⟩ := mSpan_in (A := A) t f ss
  unfold pDay
  rw [ee, eb, ev, nI_clamp (show e < 2 ^ 31 by omega), nI_clamp (show b < 2 ^ 31 by omega), nI_clamp (show v < 2 ^ 31 by omega)]
  split
  · have h1 := fF_ge (e := e) (b := b) (d := max (nw + 1) v) he1 (by omega)
    have h2 := fF_up (e := e) (b := b) (d := max (nw + 1) v) hb
    omega
  · omega
/-- on a day before the next busy one nothing is due where it is swept -/
theorem idle_due (h : ∀ k j, mRg A nT nS nH k j) {t f s D : Nat} {ss : Int32} (hs : s < 4) (hD : nw < D) (hD2 : D ≤ 200000) {e b : Nat} (ee : A 14 s = nI e) (eb : A 15 s = nI b) (he : 1 ≤ e) (he2 : e ≤ 400) (hb4 : b < 400) (hb : b ≤ D) (hm : (D - b) % e = 0) (hp : D < pDay A t f s ss nw) : sDue (mSpan A t f ss) (hel A t f) (A 13 t) (nI D) = false := by
  obtain ⟨⟨v, hv, ev⟩, -⟩ := mSpan_in (A := A) t f ss
  cases hc : sDue (mSpan A t f ss) (hel A t f) (A 13 t) (nI D) with
  | false => rfl
  | true =>
    have hv2 : v ≤ D := by
      unfold sDue at hc
      rw [ev] at hc
      by_cases z : nI D < nI v
      · rw [decide_eq_false (fun w => w z), Bool.false_and, Bool.and_false] at hc
        cases hc
      · rcases Nat.lt_or_ge D v with w | w
        · exact absurd (nI_lt w (by omega)) z
        · exact w
    have h9 : sDue (mSpan A t f ss) (hel A t f) (A 13 t) 999999 = true := by
      rw [← hc]
      refine sDue_ge ?_ ?_
      · rw [ev, show (999999 : Int32) = nI 999999 from rfl]; exact nI_nlt (by omega) (by omega)
      · rw [ev]; exact nI_nlt hv2 (by omega)
    unfold pDay at hp
    rw [h9, if_pos rfl, ee, eb, ev, nI_clamp (show e < 2 ^ 31 by omega), nI_clamp (show b < 2 ^ 31 by omega), nI_clamp (show v < 2 ^ 31 by omega)] at hp
    have := fF_le (e := e) (b := b) (d := max (nw + 1) v) (D := D) he (by omega) hb hm hD2
    omega
/-! the class's next busy day -/
theorem nb_L4 {Rt : Type} {kk : Int32 → Option Rt} (h : RepB a0 μ σ B tg nT nS nH nP nw nL) : ∀ (F j x : Nat), j ≤ nS → nS < j + F → nw < x → x ≤ 200000 → ∃ x', K9_nextBusyDay_L4 μ a0 kk F (nI x) (nI j) = kk (nI x') ∧ nw < x' ∧ x' ≤ x ∧ ∀ s, j ≤ s → s < nS → nw < (σ.2 24 s).toNatClampNeg → x' ≤ (σ.2 24 s).toNatClampNeg := by
  have h8 := h.nS8
  have hw : nw ≤ 200000 := h.1.1.2.2.2.2.2.2.2.2.2.1
  obtain ⟨s1, s2, s3⟩ := h.sets
  intro F
  induction F with
  | zero => intro j x h1 h2; omega
  | succ F ih =>
    intro j x h1 h2 h3 h4
    unfold K9_nextBusyDay_L4
    rw [if_pos h.k9, h.i4]
    by_cases hj : j = nS
    · rw [if_pos (by rw [hj]; exact nI_le (Nat.le_refl _) (by omega))]
      exact ⟨x, rfl, h3, Nat.le_refl _, fun s z1 z2 => by omega⟩
    · have hjn : j < nS := by omega
      obtain ⟨q1, q2, q3, q4, q5, q6, q7, q8, q9⟩ := h.st hjn
      have e24 := ibt_c (h.1.2.1 24 j hjn) (by decide)
      have o1 := (okI_nI (show j < 2 ^ 31 by omega)).mpr (show j < 8 by omega)
      rw [if_neg (nI_ge hjn (by omega))]
      simp only [s1, ob_some, s2, s3, if_true, o1, nI_clamp (show j < 2 ^ 31 by omega), q1, q2, q7, h.i12]
      unfold K9_nextBusyDay_B42
      rw [nI_1, bnd_eq, e24.1]
      generalize hy : (σ.2 24 j).toNatClampNeg = y at e24
      have key : ∀ x1, nw < x1 → x1 ≤ x → (nw < y → x1 ≤ y) → ∃ x', K9_nextBusyDay_L4 μ a0 kk F (nI x1) (nI (j + 1)) = kk (nI x') ∧ nw < x' ∧ x' ≤ x ∧ ∀ s, j ≤ s → s < nS → nw < (σ.2 24 s).toNatClampNeg → x' ≤ (σ.2 24 s).toNatClampNeg := by
        intro x1 z1 z2 z3
        obtain ⟨x', r1, r2, r3, r4⟩ := ih (j + 1) x1 (by omega) (by omega) z1 (by omega)
        refine ⟨x', r1, r2, by omega, fun s w1 w2 w3 => ?_⟩
        rcases Nat.lt_or_ge j s with w | w
        · exact r4 s w w2 w3
        · have : s = j := by omega
          subst this
          rw [hy] at w3 ⊢
          have := z3 w3
          omega
      by_cases c : y ≤ nw
      · rw [if_pos (nI_le c (by omega))]
        exact key x h3 (Nat.le_refl _) (fun z => by omega)
      · rw [if_neg (nI_ge (by omega) (by omega))]
        by_cases c2 : y < x
        · rw [if_pos (nI_lt c2 (by omega))]
          exact key y (by omega) (by omega) (fun _ => Nat.le_refl _)
        · rw [if_neg (nI_nlt (by omega) (by omega))]
          exact key x h3 (Nat.le_refl _) (fun _ => by omega)
theorem sh_zero : ∀ s, s < 4 → ((0 : Int32) >>> (nI s &&& 31)) &&& 1 = 0 := by decide
theorem fs_L6 {Rt : Type} {kk : Int32 → Option Rt} {t f : Nat} {ss : Int32} (hν : RepB a0 ν σ B tg nT nS nH nP nw nL) (hq : kSp ν B (mSpan σ.2 t f ss)) (f6 : kI ν (B 7 0 0) 6 = bI (hel σ.2 t f)) (f7 : kI ν (B 7 0 0) 7 = σ.2 13 t) : ∀ (F s x : Nat), s ≤ 4 → 4 < s + F → nw < x → x ≤ 999999 → ∃ x', K9_firstSettledDay_L6 ν a0 (σ.2 12 (8 * t + f)) kk F (nI x) (nI s) = kk (nI x') ∧ nw < x' ∧ x' ≤ x ∧ ∀ s', s ≤ s' → s' < 4 → hasC σ.2 t f s' → x' ≤ pDay σ.2 t f s' ss nw := by
  have hw : nw ≤ 200000 := hν.1.1.2.2.2.2.2.2.2.2.2.1
  intro F
  induction F with
  | zero => intro s x h1 h2; omega
  | succ F ih =>
    intro s x h1 h2 h3 h4
    unfold K9_firstSettledDay_L6
    rw [show (4 : Int32) = nI 4 from rfl]
    by_cases hs : s = 4
    · rw [if_pos (by rw [hs]; exact nI_le (Nat.le_refl _) (by omega))]
      exact ⟨x, rfl, h3, Nat.le_refl _, fun s' z1 z2 => by omega⟩
    · have hs4 : s < 4 := by omega
      have e1 := K9_settledDay_eq hν hs4 hq f6 f7
      have hpd := pDay_in (t := t) (f := f) (ss := ss) hν.1.2.1 hs4 hw
      rw [if_neg (nI_ge hs4 (by omega))]
      unfold K9_firstSettledDay_B29
      rw [nI_1]
      have key : ∀ x1, nw < x1 → x1 ≤ x → (hasC σ.2 t f s → x1 ≤ pDay σ.2 t f s ss nw) → ∃ x', K9_firstSettledDay_L6 ν a0 (σ.2 12 (8 * t + f)) kk F (nI x1) (nI (s + 1)) = kk (nI x') ∧ nw < x' ∧ x' ≤ x ∧ ∀ s', s ≤ s' → s' < 4 → hasC σ.2 t f s' → x' ≤ pDay σ.2 t f s' ss nw := by
        intro x1 z1 z2 z3
        obtain ⟨x', r1, r2, r3, r4⟩ := ih (s + 1) x1 (by omega) (by omega) z1 (by omega)
        refine ⟨x', r1, r2, by omega, fun s' w1 w2 w3 => ?_⟩
        rcases Nat.lt_or_ge s s' with w | w
        · exact r4 s' w w2 w3
        · have : s' = s := by omega
          subst this
          have := z3 w3
          omega
      by_cases c : (σ.2 12 (8 * t + f) >>> (nI s &&& 31)) &&& 1 = 0
      · rw [if_pos c]
        exact key x h3 (Nat.le_refl _) (fun z => absurd c z)
      · rw [if_neg c, if_pos hν.k9, e1, ob_some, bnd_eq]
        by_cases c2 : pDay σ.2 t f s ss nw < x
        · rw [if_pos (nI_lt c2 (by omega))]
          exact key _ hpd.1 (by omega) (fun _ => Nat.le_refl _)
        · rw [if_neg (nI_nlt (by omega) (by omega))]
          exact key x h3 (Nat.le_refl _) (fun _ => by omega)
theorem fs_eq {t f : Nat} {ss : Int32} (hν : RepB a0 ν σ B tg nT nS nH nP nw nL) (hq : kSp ν B (mSpan σ.2 t f ss)) (f6 : kI ν (B 7 0 0) 6 = bI (hel σ.2 t f)) (f7 : kI ν (B 7 0 0) 7 = σ.2 13 t) : ∃ y, K9_firstSettledDay ν a0 (σ.2 12 (8 * t + f)) = some (nI y) ∧ nw < y ∧ y ≤ 999999 ∧ ∀ s', s' < 4 → hasC σ.2 t f s' → y ≤ pDay σ.2 t f s' ss nw := by
  have hw : nw ≤ 200000 := hν.1.1.2.2.2.2.2.2.2.2.2.1
  obtain ⟨y, r1, r2, r3, r4⟩ := fs_L6 (kk := fun v2_35 => some v2_35) hν hq f6 f7 gF 0 999999 (by omega) (by unfold gF; omega) (by omega) (Nat.le_refl _)
  exact ⟨y, r1, r2, r3, fun s' z1 z2 => r4 s' (by omega) z1 z2⟩
theorem nb_L68 {Rt : Type} {kk : Km → Int32 → Option Rt} {t : Nat} (h : RepB a0 μ σ B tg nT nS nH nP nw nL) (ht : t < nT) : ∀ (F f x : Nat) (ν : Km), f ≤ 8 → 8 < f + F → kscr ν μ B → nw < x → x ≤ 200000 → ∃ ν' x', K9_nextBusyDay_L68 a0 (bSet B (frc σ nS)) (nI t) kk F ν (nI x) (nI f) = kk ν' (nI x') ∧ kscr ν' μ B ∧ nw < x' ∧ x' ≤ x ∧ ∀ f' s', f ≤ f' → f' < 8 → s' < 4 → hasC σ.2 t f' s' → x' ≤ pDay σ.2 t f' s' (frc σ nS) nw := by
  have h30 := h.nT30
  intro F
  induction F with
  | zero => intro f x ν h1 h2; omega
  | succ F ih =>
    intro f x ν h1 h2 hk h3 h4
    unfold K9_nextBusyDay_L68
    rw [show (8 : Int32) = nI 8 from rfl]
    by_cases hf : f = 8
    · rw [if_pos (by rw [hf]; exact nI_le (Nat.le_refl _) (by omega))]
      exact ⟨ν, x, rfl, hk, h3, Nat.le_refl _, fun f' s' z1 z2 => by omega⟩
    · have hf8 : f < 8 := by omega
      have hν := RepB_kscr h hk
      obtain ⟨g1, g2, g3⟩ := hν.thgs
      obtain ⟨t1, t2, t3, t4, t5, t6, t7, t8, t9⟩ := hν.th ht
      obtain ⟨u1, u2, -⟩ := hν.spn
      have vf : kI ν (B 13 t 0) f = σ.2 12 (8 * t + f) := hν.2.2 13 t 0 f ⟨ht, rfl, hf8⟩
      have o1 := (okI_nI (show t < 2 ^ 31 by omega)).mpr (show t < 30 by omega)
      have o2 := (okI_nI (show f < 2 ^ 31 by omega)).mpr hf8
      rw [if_neg (nI_ge hf8 (by omega)), if_pos hν.k9, g1, ob_some, if_pos g2, g3, if_pos o1, nI_clamp (show t < 2 ^ 31 by omega), t1, ob_some, if_pos t2, t5, ob_some, if_pos t8, t9, if_pos o2, nI_clamp (show f < 2 ^ 31 by omega), vf]
      unfold K9_nextBusyDay_B130
      rw [nI_1]
      have key : ∀ ν2 x1, kscr ν2 μ B → nw < x1 → x1 ≤ x → (∀ s', s' < 4 → hasC σ.2 t f s' → x1 ≤ pDay σ.2 t f s' (frc σ nS) nw) → ∃ ν' x', K9_nextBusyDay_L68 a0 (bSet B (frc σ nS)) (nI t) kk F ν2 (nI x1) (nI (f + 1)) = kk ν' (nI x') ∧ kscr ν' μ B ∧ nw < x' ∧ x' ≤ x ∧ ∀ f' s', f ≤ f' → f' < 8 → s' < 4 → hasC σ.2 t f' s' → x' ≤ pDay σ.2 t f' s' (frc σ nS) nw := by
        intro ν2 x1 z0 z1 z2 z3
        obtain ⟨ν', x', r1, r0, r2, r3, r4⟩ := ih (f + 1) x1 ν2 (by omega) (by omega) z0 z1 (by omega)
        refine ⟨ν', x', r1, r0, r2, by omega, fun f' s' w1 w2 w3 w4 => ?_⟩
        rcases Nat.lt_or_ge f f' with w | w
        · exact r4 f' s' w w2 w3 w4
        · have : f' = f := by omega
          subst this
          have := z3 s' w3 w4
          omega
      by_cases c : σ.2 12 (8 * t + f) = 0
      · rw [if_pos c]
        exact key ν x hk h3 (Nat.le_refl _) (fun s' z1 z2 => absurd (by rw [c]; exact sh_zero s' z1) z2)
      · obtain ⟨ν1, e1, hk1, hq, f6, f7⟩ := K6_settle_eq hν (frc_in σ nS) ht hf8
        have hν1 := RepB_kscr hν hk1
        obtain ⟨y, e2, y1, y2, y3⟩ := fs_eq hν1 hq f6 f7
        obtain ⟨d1, d2, d3⟩ := hν1.thgs
        obtain ⟨p1, p2, p3, p4, p5, p6, p7, p8, p9⟩ := hν1.th ht
        have vg : kI ν1 (B 13 t 0) f = σ.2 12 (8 * t + f) := hν1.2.2 13 t 0 f ⟨ht, rfl, hf8⟩
        rw [if_neg c, u1, ob_some, ob_some, if_pos g2, g3, if_pos o1, t1, ob_some, if_pos u2, e1, ob_some, if_pos hν1.k9, d1, ob_some, if_pos d2, d3, if_pos o1, p1, ob_some, if_pos p2, p5, ob_some, if_pos p8, p9, if_pos o2, vg, e2, ob_some, bnd_eq]
        by_cases c2 : y < x
        · rw [if_pos (nI_lt c2 (by omega))]
          exact key ν1 y (kscr_tr hk1 hk) y1 (by omega) y3
        · rw [if_neg (nI_nlt (by omega) (by omega))]
          exact key ν1 x (kscr_tr hk1 hk) h3 (Nat.le_refl _) (fun s' z1 z2 => by have := y3 s' z1 z2; omega)
theorem nb_L56 {Rt : Type} {kk : Km → Int32 → Option Rt} (h : RepB a0 μ σ B tg nT nS nH nP nw nL) : ∀ (F t x : Nat) (ν : Km), t ≤ nT → nT < t + F → kscr ν μ B → nw < x → x ≤ 200000 → ∃ ν' x', K9_nextBusyDay_L56 a0 (bSet B (frc σ nS)) kk F ν (nI x) (nI t) = kk ν' (nI x') ∧ kscr ν' μ B ∧ nw < x' ∧ x' ≤ x ∧ ∀ t' f' s', t ≤ t' → t' < nT → f' < 8 → s' < 4 → hasC σ.2 t' f' s' → x' ≤ pDay σ.2 t' f' s' (frc σ nS) nw := by
  have h30 := h.nT30
  intro F
  induction F with
  | zero => intro t x ν h1 h2; omega
  | succ F ih =>
    intro t x ν h1 h2 hk h3 h4
    have hν := RepB_kscr h hk
    unfold K9_nextBusyDay_L56
    rw [if_pos hν.k9, hν.i6]
    by_cases ht : t = nT
    · rw [if_pos (by rw [ht]; exact nI_le (Nat.le_refl _) (by omega))]
      exact ⟨ν, x, rfl, hk, h3, Nat.le_refl _, fun t' f' s' z1 z2 => by omega⟩
    · rw [if_neg (nI_ge (by omega) (by omega))]
      obtain ⟨ν1, x1, q1, q0, q2, q3, q4⟩ := nb_L68 (kk := fun s_134 v2_134 => K9_nextBusyDay_L56 a0 (bSet B (frc σ nS)) kk F s_134 v2_134 (nI t + 1)) h (show t < nT by omega) gF 0 x ν (by omega) (by unfold gF; omega) hk h3 h4
      obtain ⟨ν', x', r1, r0, r2, r3, r4⟩ := ih (t + 1) x1 ν1 (by omega) (by omega) q0 q2 (by omega)
      refine ⟨ν', x', Eq.trans q1 ?_, r0, r2, by omega, fun t' f' s' w1 w2 w3 w4 w5 => ?_⟩
      · rw [nI_1]; exact r1
      · rcases Nat.lt_or_ge t t' with w | w
        · exact r4 t' f' s' w w2 w3 w4 w5
        · have : t' = t := by omega
          subst this
          have := q4 f' s' (by omega) w3 w4 w5
          omega
theorem nb_eq {last : Nat} (h : RepB a0 μ σ B tg nT nS nH nP nw nL) (hl : nw < last) (hl2 : last ≤ 200000) : ∃ ν x, K9_nextBusyDay μ a0 (nI last) = some (nI x, ν) ∧ kscr ν μ B ∧ nw < x ∧ x ≤ last ∧ (∀ s, s < nS → nw < (σ.2 24 s).toNatClampNeg → x ≤ (σ.2 24 s).toNatClampNeg) ∧ ∀ t f s, t < nT → f < 8 → s < 4 → hasC σ.2 t f s → x ≤ pDay σ.2 t f s (frc σ nS) nw := by
  have h30 := h.nT30
  have h8 := h.nS8
  obtain ⟨x1, e1, a1, a2, a3⟩ := nb_L4 (kk := fun v2_48 => if kK μ a0 = 9 then (K9_setInForce μ a0).bind (fun r_49 => K9_nextBusyDay_L56 a0 r_49 (fun s_140 v2_140 => some (v2_140, s_140)) gF μ v2_48 (0 : Int32)) else none) h gF 0 last (by omega) (by unfold gF; omega) hl hl2
  obtain ⟨ν, x, e2, b0, b1, b2, b3⟩ := nb_L56 (kk := fun s_140 v2_140 => some (v2_140, s_140)) h gF 0 x1 μ (by omega) (by unfold gF; omega) (kscr_rf μ) a1 (by omega)
  refine ⟨ν, x, ?_, b0, b1, by omega, fun s z1 z2 => ?_, fun t f s z1 z2 z3 z4 => b3 t f s (by omega) z1 z2 z3 z4⟩
  · unfold K9_nextBusyDay
    refine Eq.trans e1 ?_
    rw [if_pos h.k9, K9_setInForce_eq h, ob_some]
    exact e2
  · have := a3 s (by omega) z1 z2
    omega
end DAYS
