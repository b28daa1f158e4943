section ASK2
variable {a0 : Nat} {μ ν : Km} {σ τ ρ : Ms} {B : Nat → Nat → Nat → Nat} {tg : Nat → Nat × Nat × Nat} {nT nS nH nP nw nL : Nat} {A : Ar}
theorem kmo_rf (σ : Ms) : kmo σ σ := ⟨fun _ _ => rfl, fun _ _ _ => rfl⟩
theorem kmo_tr (h1 : kmo ρ τ) (h2 : kmo τ σ) : kmo ρ σ := ⟨fun k hk => (h1.1 k hk).trans (h2.1 k hk), fun k q1 q2 => (h1.2 k q1 q2).trans (h2.2 k q1 q2)⟩
theorem M_isDue_kmo {t f : Nat} {x : Int32} (h : mInv σ nT nS nH nP nw nL) (hk : kmo τ σ) {nL' nw' : Nat} (hI : mInv τ nT nS nH nP nw' nL') (ht : t < nT) (hf : f < 8) : ∃ τ', M_isDue τ (nI t) (nI f) x = some (bI (sDue (mSpan σ.2 t f (frc σ nS)) (hel σ.2 t f) (σ.2 13 t) x), τ') ∧ kmo τ' σ ∧ mInv τ' nT nS nH nP nw' nL' ∧ τ'.1 48 = (mSpan σ.2 t f (frc σ nS)).1 ∧ τ'.1 49 = (mSpan σ.2 t f (frc σ nS)).2.1 ∧ τ'.1 51 = (mSpan σ.2 t f (frc σ nS)).2.2.2.1 := by
  obtain ⟨τ', e, hk', hI', e48, e49, e51⟩ := M_isDue_eq (x := x) hI ht hf
  have es : mSpan τ.2 t f (frc τ nS) = mSpan σ.2 t f (frc σ nS) := by
    rw [frc_kmo hk]
    exact mSpan_same h.2.1 h.1.2.2.2.1 hk.2 (frc_in σ nS)
  have eh : hel τ.2 t f = hel σ.2 t f := by unfold hel; rw [hk.2 59 (by decide) (by decide)]
  rw [es] at e e48 e49 e51
  rw [eh, hk.2 13 (by decide) (by decide)] at e
  exact ⟨τ', e, kmo_tr hk' hk, hI', e48, e49, e51⟩
theorem M_tell_scr {t f : Nat} {s : Int32} (h : mInv σ nT nS nH nP nw nL) (hc : scr τ σ) (hs : s = -1 ∨ ibt s nS) (ht : t < nT) : ∃ τ', M_tell τ (nI t) (nI f) s = some τ' ∧ scr τ' σ ∧ spIs τ' (mSpan σ.2 t f s) := by
  obtain ⟨τ', e, hc', hq⟩ := M_tell_eq (f := f) (mInv_scr h hc) hs ht
  rw [mSpan_same h.2.1 h.1.2.2.2.1 (fun k q1 q2 => hc.2 k q1) hs] at hq
  exact ⟨τ', e, scr_tr hc' hc, hq⟩
theorem bSet_nI {s : Nat} (hs : s < 2 ^ 31) : bSet B (nI s) = some (B 15 s 0) := by
  unfold bSet
  rw [if_neg (i_m1_ne hs), nI_clamp hs]
/-! wishes -/
def wBit (g : Nat → Bool) : Nat → Int32
  | 0 => 0
  | f + 1 => if g f = true then wBit g f ||| ((1 : Int32) <<< (nI f &&& 31)) else wBit g f
theorem wBit_succ (g : Nat → Bool) (f : Nat) : wBit g (f + 1) = if g f = true then wBit g f ||| ((1 : Int32) <<< (nI f &&& 31)) else wBit g f := rfl
def gWi (σ : Ms) (nS t f : Nat) : Bool := decide (¬ σ.2 12 (8 * t + f) = 0) && sDue (mSpan σ.2 t f (frc σ nS)) (hel σ.2 t f) (σ.2 13 t) (σ.1 1)
theorem i_or0 (x : Int32) : x ||| 0 = x := by simp
theorem K9_wish_Lp {Rt : Type} {kk : Km → Int32 → Option Rt} {t : Nat} (h : RepB a0 μ σ B tg nT nS nH nP nw nL) (ht : t < nT) : ∀ (F f : Nat) (ν : Km), f ≤ 8 → 8 < f + F → kscr ν μ B → ∃ ν', K9_wish_L22 a0 (B 10 t 0) (bSet B (frc σ nS)) kk F ν (wBit (gWi σ nS t) f) (nI f) = kk ν' (wBit (gWi σ nS t) 8) ∧ kscr ν' μ B := by
  intro F
  induction F with
  | zero => intro f ν h1 h2; omega
  | succ F ih =>
    intro f ν h1 h2 hk
    unfold K9_wish_L22
    rw [show (8 : Int32) = nI 8 from rfl]
    by_cases hf : f = 8
    · subst hf
      rw [if_pos (nI_le (Nat.le_refl _) (by omega))]
      exact ⟨ν, rfl, hk⟩
    · have hf8 : f < 8 := by omega
      have hν := RepB_kscr h hk
      obtain ⟨t1, t2, t3, t4, t5, t6, t7, t8, t9⟩ := hν.th ht
      obtain ⟨u1, u2, -⟩ := hν.spn
      have vf : kI ν (B 13 t 0) f = σ.2 12 (8 * t + f) := hν.2.2 13 t 0 f ⟨ht, rfl, hf8⟩
      have o2 := (okI_nI (show f < 2 ^ 31 by omega)).mpr hf8
      rw [if_neg (nI_ge hf8 (by omega)), if_pos t2, t5, ob_some, if_pos t8, t9, if_pos o2, nI_clamp (by omega), vf]
      unfold K9_wish_B74 K9_wish_B77
      by_cases c : σ.2 12 (8 * t + f) = 0
      · have ih' := ih (f + 1) ν (by omega) (by omega) hk
        rw [wBit_succ, if_neg (by unfold gWi; rw [decide_eq_false (fun z => z c), Bool.false_and]; decide)] at ih'
        rw [if_pos c, nI_1]
        exact ih'
      · obtain ⟨ν1, e1, hk1, hq, f6, f7⟩ := K6_settle_eq hν (frc_in σ nS) ht hf8
        have hν1 := RepB_kscr hν hk1
        obtain ⟨v1, v2, -⟩ := hν1.spn
        have ed := K6_isDue_eq (x := σ.1 1) v2 hq f6 f7
        have ih' := ih (f + 1) ν1 (by omega) (by omega) (kscr_tr hk1 hk)
        rw [wBit_succ] at ih'
        rw [if_neg c, if_pos hν.k9, u1, ob_some, if_pos u2, e1, ob_some, if_pos hν1.k9, v1, ob_some, if_pos v2, hν1.now, ed, ob_some, nI_1, bnd_eq, bnd_eq]
        cases hd : sDue (mSpan σ.2 t f (frc σ nS)) (hel σ.2 t f) (σ.2 13 t) (σ.1 1) with
        | true =>
          rw [if_pos (by unfold gWi; rw [decide_eq_true c, hd]; rfl)] at ih'
          rw [if_neg (by decide)]
          exact ih'
        | false =>
          rw [if_neg (by unfold gWi; rw [hd, Bool.and_false]; decide)] at ih'
          rw [if_pos (by decide), i_or0]
          exact ih'
theorem M_wish_Lp {Rt : Type} {kk : Ms → Int32 → Option Rt} {t : Nat} (h : mInv σ nT nS nH nP nw nL) (ht : t < nT) : ∀ (F f : Nat) (τ : Ms), f ≤ 8 → 8 < f + F → kmo τ σ → mInv τ nT nS nH nP nw nL → ∃ τ', M_wish_L30 (nI t) kk F τ (wBit (gWi σ nS t) f) (nI f) = kk τ' (wBit (gWi σ nS t) 8) ∧ kmo τ' σ ∧ mInv τ' nT nS nH nP nw nL := by
  have h30 : nT ≤ 30 := h.1.2.1
  intro F
  induction F with
  | zero => intro f τ h1 h2; omega
  | succ F ih =>
    intro f τ h1 h2 hk hI
    unfold M_wish_L30
    rw [show (8 : Int32) = nI 8 from rfl]
    by_cases hf : f = 8
    · subst hf
      rw [if_pos (nI_le (Nat.le_refl _) (by omega))]
      exact ⟨τ, rfl, hk, hI⟩
    · have hf8 : f < 8 := by omega
      rw [if_neg (nI_ge hf8 (by omega)), pk_mul, nI_add, if_pos ((okI_nI (by omega)).mpr (by omega)), nI_clamp (by omega), hk.2 12 (by decide) (by decide), hk.1 1 (by omega)]
      unfold M_wish_B69
      by_cases c : σ.2 12 (8 * t + f) = 0
      · have ih' := ih (f + 1) τ (by omega) (by omega) hk hI
        rw [wBit_succ, if_neg (by unfold gWi; rw [decide_eq_false (fun z => z c), Bool.false_and]; decide)] at ih'
        rw [if_pos c, nI_1]
        exact ih'
      · obtain ⟨τ1, e1, hk1, hI1, -⟩ := M_isDue_kmo (x := σ.1 1) h hk hI ht hf8
        have ih' := ih (f + 1) τ1 (by omega) (by omega) hk1 hI1
        rw [wBit_succ] at ih'
        rw [if_neg c, e1, bi_some, nI_1, bnd_eq]
        cases hd : sDue (mSpan σ.2 t f (frc σ nS)) (hel σ.2 t f) (σ.2 13 t) (σ.1 1) with
        | true =>
          rw [if_pos (by unfold gWi; rw [decide_eq_true c, hd]; rfl)] at ih'
          rw [if_neg (by decide)]
          exact ih'
        | false =>
          rw [if_neg (by unfold gWi; rw [hd, Bool.and_false]; decide)] at ih'
          rw [if_pos (by decide)]
          exact ih'
theorem op_wish_ok : op_wish (Rep a0) a0 := by
  rintro μ σ a1 ⟨B, tg, nT, nS, nH, nP, nw, nL, h⟩
  have h30 := h.nT30
  rcases i_below a1 (n := nT) (by omega) with hx | ⟨t, ht, rfl⟩
  · refine opI_no (b := true) (r := 0) (μ' := μ) (σ' := mSet (mSet σ 0 0) 0 1) ?_ ?_ rfl (mSet_0v _ _) (Rep_code (Rep_code h.rep _) _)
    · unfold K9_wish; rw [if_pos h.k9, K9_thingAt_no h hx]; rfl
    · unfold M_wish; rw [bnd_eq, M_isThing_no (σ := mSet σ 0 0) (h.1.1.1) hx, ob_some, if_pos rfl]; rfl
  obtain ⟨t1, t2, -⟩ := h.th ht
  have h0 := RepB_code h 0
  have h1 : RepB a0 (kSetI μ (B 10 t 0) 5 1) (mSto (mSet σ 0 0) 13 t 1) B tg nT nS nH nP nw nL := RepB_put (c0 := 10) (i0 := t) (j0 := 0) (e0 := 5) (x := 1) h0 (mInv_put (k0 := 13) (j0 := t) (x := 1) h0.1 (by omega) (fun _ => ⟨Or.inr (by rw [mSto_at, if_pos ⟨rfl, rfl⟩]), fun q => by omega⟩)) (sameR_put (by omega)) (mSto_ne _ _ _ _ (by decide)) ⟨ht, rfl⟩ hw_13
  obtain ⟨ν, e1, hk⟩ := K9_wish_Lp (Rt := (Int32 × Km) ⊕ (Bool × Km)) (kk := fun s_83 v4_83 => some (.inl (v4_83, s_83))) h1 ht gF 0 _ (by omega) (by unfold gF; omega) (kscr_rf _)
  obtain ⟨τ, e2, km, hI⟩ := M_wish_Lp (kk := fun s_75 v2_75 => some (v2_75, s_75)) h1.1 ht gF 0 _ (by omega) (by unfold gF; omega) (kmo_rf _) h1.1
  have hτ : RepB a0 ν τ B tg nT nS nH nP nw nL := RepB_kmo (RepB_kscr h1 hk) km hI
  refine opI_ok (r := wBit (gWi (mSto (mSet σ 0 0) 13 t 1) nS t) 8) (μ' := ν) (σ' := τ) ?_ ?_ ((km.1 0 (by omega)).trans (mSet_0v σ 0)) hτ.rep
  · unfold K9_wish
    rw [if_pos h.k9, K9_thingAt_ok h ht, bxq_ok, ob_some, if_pos t2, bnd_eq, if_pos h1.k9, K9_setInForce_eq h1, ob_some]
    exact e1
  · unfold M_wish
    rw [bnd_eq, M_isThing_ok (σ := mSet σ 0 0) (h.1.1.1) h30 ht, ob_some, if_neg (by decide), if_pos ((okI_nI (by omega)).mpr (by omega)), nI_clamp (by omega), bnd_eq]
    exact e2
/-! differ -/
def gD (A : Ar) (s o t f : Nat) : Int32 := if (mSpan A t f (nI s)).1 = (mSpan A t f (nI o)).1 ∧ (mSpan A t f (nI s)).2.1 = (mSpan A t f (nI o)).2.1 then 0 else 1
theorem K9_differ_Li {Rt : Type} {kk : Km → Int32 → Option Rt} {s o t : Nat} (h : RepB a0 μ σ B tg nT nS nH nP nw nL) (hs : s < nS) (ho : o < nS) (ht : t < nT) (x : Int32) : ∀ (F f : Nat) (ν : Km), f ≤ 8 → 8 < f + F → kscr ν μ B → ∃ ν', K9_differ_L31 a0 (B 15 s 0) (B 15 o 0) (nI t) kk F ν (isum (gD σ.2 s o t) x f) (nI f) = kk ν' (isum (gD σ.2 s o t) x 8) ∧ kscr ν' μ B := by
  have h30 := h.nT30
  have h8 := h.nS8
  intro F
  induction F with
  | zero => intro f ν h1 h2; omega
  | succ F ih =>
    intro f ν h1 h2 hk
    unfold K9_differ_L31
    rw [show (8 : Int32) = nI 8 from rfl]
    by_cases hf : f = 8
    · subst hf
      rw [if_pos (nI_le (Nat.le_refl _) (by omega))]
      exact ⟨ν, rfl, hk⟩
    · have hf8 : f < 8 := by omega
      have hν := RepB_kscr h hk
      obtain ⟨g1, g2, g3⟩ := hν.thgs
      obtain ⟨t1, t2, -⟩ := hν.th ht
      obtain ⟨u1, u2, -⟩ := hν.spn
      obtain ⟨ν1, e1, hk1, hq1, -⟩ := K6_settle_eq (s := nI s) hν (Or.inr ⟨s, hs, rfl⟩) ht hf8
      have hν1 := RepB_kscr hν hk1
      obtain ⟨v1, v2, -⟩ := hν1.spn
      obtain ⟨d1, d2, d3⟩ := hν1.thgs
      obtain ⟨p1, -⟩ := hν1.th ht
      obtain ⟨ν2, e2, hk2, hq2, -⟩ := K6_settle_eq (s := nI o) hν1 (Or.inr ⟨o, ho, rfl⟩) ht hf8
      have hν2 := RepB_kscr hν1 hk2
      obtain ⟨w1, w2, -⟩ := hν2.spn
      have o1 := (okI_nI (show t < 2 ^ 31 by omega)).mpr (show t < 30 by omega)
      rw [bSet_nI (by omega)] at e1 e2
      have ih' := ih (f + 1) ν2 (by omega) (by omega) (kscr_tr hk2 (kscr_tr hk1 hk))
      rw [isum_succ] at ih'
      rw [if_neg (nI_ge hf8 (by omega)), if_pos hν.k9, u1, ob_some, g1, ob_some, if_pos g2, g3, if_pos o1, nI_clamp (show t < 2 ^ 31 by omega), t1, ob_some, if_pos u2, e1, ob_some, if_pos hν1.k9, v1, ob_some, if_pos v2, bnd_eq, ob_some, if_pos v2, bnd_eq, ob_some, d1, ob_some, if_pos d2, d3, if_pos o1, p1, ob_some, if_pos v2, e2, ob_some, if_pos hν2.k9, w1, ob_some, if_pos w2, ob_some, if_pos w2, hq1.1, hq1.2.1, hq2.1, hq2.2.1]
      unfold K9_differ_B117 K9_differ_B122
      rw [nI_1, bnd_eq, bnd_eq]
      unfold gD at ih' ⊢
      by_cases c1 : (mSpan σ.2 t f (nI s)).1 = (mSpan σ.2 t f (nI o)).1
      · rw [if_pos c1]
        by_cases c2 : (mSpan σ.2 t f (nI s)).2.1 = (mSpan σ.2 t f (nI o)).2.1
        · rw [if_pos c2]
          rw [if_pos ⟨c1, c2⟩] at ih'
          exact ih'
        · rw [if_neg c2]
          rw [if_neg (fun z => c2 z.2)] at ih'
          exact ih'
      · rw [if_neg c1]
        rw [if_neg (fun z => c1 z.1)] at ih'
        exact ih'
theorem K9_differ_Lo {Rt : Type} {kk : Km → Int32 → Option Rt} {s o : Nat} (h : RepB a0 μ σ B tg nT nS nH nP nw nL) (hs : s < nS) (ho : o < nS) : ∀ (F t : Nat) (ν : Km), t ≤ nT → nT < t + F → kscr ν μ B → ∃ ν', K9_differ_L19 a0 (B 15 s 0) (B 15 o 0) kk F ν (osum (gD σ.2 s o) t) (nI t) = kk ν' (osum (gD σ.2 s o) nT) ∧ kscr ν' μ B := by
  have h30 := h.nT30
  intro F
  induction F with
  | zero => intro t ν h1 h2; omega
  | succ F ih =>
    intro t ν h1 h2 hk
    have hν := RepB_kscr h hk
    unfold K9_differ_L19
    rw [if_pos hν.k9, hν.i6]
    by_cases ht : t = nT
    · subst ht
      rw [if_pos (nI_le (Nat.le_refl _) (by omega))]
      exact ⟨ν, rfl, hk⟩
    · obtain ⟨ν1, e1, hk1⟩ := K9_differ_Li (kk := fun s_131 v5_131 => K9_differ_L19 a0 (B 15 s 0) (B 15 o 0) kk F s_131 v5_131 (nI t + 1)) h hs ho (show t < nT by omega) (osum (gD σ.2 s o) t) gF 0 ν (by omega) (by unfold gF; omega) hk
      obtain ⟨ν2, e2, hk2⟩ := ih (t + 1) ν1 (by omega) (by omega) hk1
      rw [if_neg (nI_ge (by omega) (by omega))]
      refine ⟨ν2, Eq.trans e1 ?_, hk2⟩
      rw [← osum_succ, nI_1]
      exact e2
theorem M_differ_Li {Rt : Type} {kk : Ms → Int32 → Option Rt} {s o t : Nat} (h : mInv σ nT nS nH nP nw nL) (hs : s < nS) (ho : o < nS) (ht : t < nT) (x : Int32) : ∀ (F f : Nat) (τ : Ms), f ≤ 8 → 8 < f + F → scr τ σ → ∃ τ', M_differ_L44 (nI s) (nI o) (nI t) kk F τ (isum (gD σ.2 s o t) x f) (nI f) = kk τ' (isum (gD σ.2 s o t) x 8) ∧ scr τ' σ := by
  intro F
  induction F with
  | zero => intro f τ h1 h2; omega
  | succ F ih =>
    intro f τ h1 h2 hc
    unfold M_differ_L44
    rw [show (8 : Int32) = nI 8 from rfl]
    by_cases hf : f = 8
    · subst hf
      rw [if_pos (nI_le (Nat.le_refl _) (by omega))]
      exact ⟨τ, rfl, hc⟩
    · obtain ⟨τ1, e1, hc1, hq1⟩ := M_tell_scr (f := f) (s := nI s) h hc (Or.inr ⟨s, hs, rfl⟩) ht
      obtain ⟨τ2, e2, hc2, hq2⟩ := M_tell_scr (f := f) (s := nI o) h hc1 (Or.inr ⟨o, ho, rfl⟩) ht
      have ih' := ih (f + 1) τ2 (by omega) (by omega) hc2
      rw [isum_succ] at ih'
      rw [if_neg (nI_ge (by omega) (by omega)), e1, ob_some, bnd_eq, bnd_eq, e2, ob_some, hq1.1, hq1.2.1, hq2.1, hq2.2.1]
      unfold M_differ_B100 M_differ_B105
      rw [nI_1, bnd_eq, bnd_eq]
      unfold gD at ih' ⊢
      by_cases c1 : (mSpan σ.2 t f (nI s)).1 = (mSpan σ.2 t f (nI o)).1
      · rw [if_pos c1]
        by_cases c2 : (mSpan σ.2 t f (nI s)).2.1 = (mSpan σ.2 t f (nI o)).2.1
        · rw [if_pos c2]
          rw [if_pos ⟨c1, c2⟩] at ih'
          exact ih'
        · rw [if_neg c2]
          rw [if_neg (fun z => c2 z.2)] at ih'
          exact ih'
      · rw [if_neg c1]
        rw [if_neg (fun z => c1 z.1)] at ih'
        exact ih'
theorem M_differ_Lo {Rt : Type} {kk : Ms → Int32 → Option Rt} {s o : Nat} (h : mInv σ nT nS nH nP nw nL) (hs : s < nS) (ho : o < nS) : ∀ (F t : Nat) (τ : Ms), t ≤ nT → nT < t + F → scr τ σ → ∃ τ', M_differ_L32 (nI s) (nI o) kk F τ (osum (gD σ.2 s o) t) (nI t) = kk τ' (osum (gD σ.2 s o) nT) ∧ scr τ' σ := by
  have h30 : nT ≤ 30 := h.1.2.1
  intro F
  induction F with
  | zero => intro t τ h1 h2; omega
  | succ F ih =>
    intro t τ h1 h2 hc
    unfold M_differ_L32
    rw [hc.1 2 (by omega), h.1.1]
    by_cases ht : t = nT
    · subst ht
      rw [if_pos (nI_le (Nat.le_refl _) (by omega))]
      exact ⟨τ, rfl, hc⟩
    · obtain ⟨τ1, e1, hc1⟩ := M_differ_Li (kk := fun s_113 v3_113 => M_differ_L32 (nI s) (nI o) kk F s_113 v3_113 (nI t + 1)) h hs ho (show t < nT by omega) (osum (gD σ.2 s o) t) gF 0 τ (by omega) (by unfold gF; omega) hc
      obtain ⟨τ2, e2, hc2⟩ := ih (t + 1) τ1 (by omega) (by omega) hc1
      rw [if_neg (nI_ge (by omega) (by omega))]
      refine ⟨τ2, Eq.trans e1 ?_, hc2⟩
      rw [← osum_succ, nI_1]
      exact e2
theorem op_differ_ok : op_differ (Rep a0) a0 := by
  rintro μ σ a1 a2 ⟨B, tg, nT, nS, nH, nP, nw, nL, h⟩
  have h30 := h.nT30
  have h8 := h.nS8
  have no : ∀ {k : Option ((Int32 × Km) ⊕ (Bool × Km))} {mr : Option (Int32 × Ms)}, k = some (.inr (true, μ)) → mr = some (0, mSet (mSet σ 0 0) 0 1) → opI (Rep a0) (fun _ => 1) (fun b => b) k mr := fun e1 e2 => opI_no e1 e2 rfl (mSet_0v _ _) (Rep_code (Rep_code h.rep _) _)
  rcases i_below a1 (n := nS) (by omega) with hx | ⟨s, hs, rfl⟩
  · refine no ?_ ?_
    · unfold K9_differ; rw [if_pos h.k9, K9_setAt_no h hx]; rfl
    · unfold M_differ; rw [bnd_eq, M_isSet_no (σ := mSet σ 0 0) (h.1.1.2.2.1) hx, ob_some, if_pos rfl]; rfl
  rcases i_below a2 (n := nS) (by omega) with hx | ⟨o, ho, rfl⟩
  · refine no ?_ ?_
    · unfold K9_differ; rw [if_pos h.k9, K9_setAt_ok h hs, bxq_ok, ob_some, if_pos h.k9, K9_setAt_no h hx]; rfl
    · unfold M_differ; rw [bnd_eq, M_isSet_ok (σ := mSet σ 0 0) (h.1.1.2.2.1) h8 hs, ob_some, if_neg (by decide), M_isSet_no (σ := mSet σ 0 0) (h.1.1.2.2.1) hx, ob_some, if_pos rfl]; rfl
  obtain ⟨ν, e1, hk⟩ := K9_differ_Lo (Rt := (Int32 × Km) ⊕ (Bool × Km)) (kk := fun s_137 v5_137 => some (.inl (v5_137, s_137))) h hs ho gF 0 μ (by omega) (by unfold gF; omega) (kscr_rf _)
  obtain ⟨τ, e2, sc⟩ := M_differ_Lo (kk := fun s_119 v3_119 => some (v3_119, s_119)) (mInv_code h.1 0) hs ho gF 0 (mSet σ 0 0) (by omega) (by unfold gF; omega) (scr_rf _)
  have hτ : RepB a0 ν τ B tg nT nS nH nP nw nL := RepB_kmo (RepB_code (RepB_kscr h hk) 0) (kmo_scr sc) (mInv_scr (mInv_code h.1 0) sc)
  refine opI_ok (r := osum (gD σ.2 s o) nT) (μ' := ν) (σ' := τ) ?_ ?_ ((sc.1 0 (by omega)).trans (mSet_0v σ 0)) hτ.rep
  · unfold K9_differ
    rw [if_pos h.k9, K9_setAt_ok h hs, bxq_ok, ob_some, if_pos h.k9, K9_setAt_ok h ho, bxq_ok, ob_some]
    exact e1
  · unfold M_differ
    rw [bnd_eq, M_isSet_ok (σ := mSet σ 0 0) (h.1.1.2.2.1) h8 hs, ob_some, if_neg (by decide), M_isSet_ok (σ := mSet σ 0 0) (h.1.1.2.2.1) h8 ho, ob_some, if_neg (by decide)]
    exact e2
end ASK2
