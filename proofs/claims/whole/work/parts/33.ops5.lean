section OPS5
variable {a0 : Nat} {μ : Km} {σ : Ms} {B : Nat → Nat → Nat → Nat} {tg : Nat → Nat × Nat × Nat} {nT nS nH nP nw nL : Nat} {A : Ar}
def isum (g : Nat → Int32) (x : Int32) : Nat → Int32
  | 0 => x
  | n + 1 => isum g x n + g n
theorem isum_succ (g : Nat → Int32) (x : Int32) (n : Nat) : isum g x (n + 1) = isum g x n + g n := rfl
def osum (g : Nat → Nat → Int32) : Nat → Int32
  | 0 => 0
  | t + 1 => isum (g t) (osum g t) 8
theorem osum_succ (g : Nat → Nat → Int32) (t : Nat) : osum g (t + 1) = isum (g t) (osum g t) 8 := rfl
theorem i_add0 (x : Int32) : x + 0 = x := by simp
def gMis (A : Ar) (s : Int32) (t f : Nat) : Int32 := pc (A 12 (8 * t + f) &&& (mPlc A t f s ^^^ (-1)))
theorem gMis_of (h : mInv σ nT nS nH nP nw nL) {t f : Nat} (ht : t < nT) (hf : f < 8) : ∃ v : Nat, v < 16 ∧ σ.2 12 (8 * t + f) &&& (mPlc σ.2 t f (frc σ nS) ^^^ (-1)) = nI v := by
  have h30 : nT ≤ 30 := h.1.2.1
  obtain ⟨⟨a, ha, ea⟩, -⟩ := h.2.1 12 (8 * t + f) (by omega)
  obtain ⟨b, hb, eb⟩ := mPlc_in h.2.1 h.1.2.2.2.1 (t := t) (f := f) (frc_in σ nS)
  rw [ea, eb]
  exact an16c a ha b hb
theorem M_misplaced_Li {Rt : Type} {kk : Int32 → Option Rt} {t : Nat} (h : mInv σ nT nS nH nP nw nL) (ht : t < nT) (x : Int32) : ∀ (F f : Nat), f ≤ 8 → 8 < f + F → M_misplaced_L19 σ (nI t) kk F (isum (gMis σ.2 (frc σ nS) t) x f) (nI f) = kk (isum (gMis σ.2 (frc σ nS) t) x 8) := by
  have h30 : nT ≤ 30 := h.1.2.1
  intro F
  induction F with
  | zero => intro f h1 h2; omega
  | succ F ih =>
    intro f h1 h2
    unfold M_misplaced_L19
    rw [show (8 : Int32) = nI 8 from rfl]
    by_cases hf : f = 8
    · subst hf
      rw [if_pos (nI_le (Nat.le_refl _) (by omega))]
    · have ih' := ih (f + 1) (by omega) (by omega)
      rw [isum_succ] at ih'
      obtain ⟨v, hv, ev⟩ := gMis_of h ht (show f < 8 by omega)
      unfold gMis at ih' ⊢
      rw [ev] at ih'
      rw [if_neg (nI_ge (by omega) (by omega)), pk_mul, nI_add, if_pos ((okI_nI (by omega)).mpr (by omega)), nI_clamp (by omega), M_placesOf_eq h ht, ob_some, ev, on16 hv, ob_some, bnd_eq, nI_1]
      exact ih'
theorem M_misplaced_Lo {Rt : Type} {kk : Int32 → Option Rt} (h : mInv σ nT nS nH nP nw nL) : ∀ (F t : Nat), t ≤ nT → nT < t + F → M_misplaced_L9 σ kk F (osum (gMis σ.2 (frc σ nS)) t) (nI t) = kk (osum (gMis σ.2 (frc σ nS)) nT) := by
  have h30 : nT ≤ 30 := h.1.2.1
  intro F
  induction F with
  | zero => intro t h1 h2; omega
  | succ F ih =>
    intro t h1 h2
    unfold M_misplaced_L9
    rw [h.1.1]
    by_cases ht : t = nT
    · subst ht
      rw [if_pos (nI_le (Nat.le_refl _) (by omega))]
    · have hi := M_misplaced_Li (kk := fun v1_57 => M_misplaced_L9 σ kk F v1_57 (nI t + 1)) h (show t < nT by omega) (osum (gMis σ.2 (frc σ nS)) t) gF 0 (by omega) (by unfold gF; omega)
      rw [if_neg (nI_ge (by omega) (by omega))]
      refine Eq.trans hi ?_
      rw [← osum_succ, nI_1]
      exact ih (t + 1) (by omega) (by omega)
theorem K9_misplaced_Li {Rt : Type} {kk : Int32 → Option Rt} {t : Nat} (h : RepB a0 μ σ B tg nT nS nH nP nw nL) (ht : t < nT) (x : Int32) : ∀ (F f : Nat), f ≤ 8 → 8 < f + F → K9_misplaced_L14 μ a0 (nI t) kk F (isum (gMis σ.2 (frc σ nS) t) x f) (nI f) = kk (isum (gMis σ.2 (frc σ nS) t) x 8) := by
  have h30 := h.nT30
  obtain ⟨s1, s2, s3⟩ := h.thgs
  obtain ⟨t1, t2, t3, t4, t5, t6, t7, t8, t9⟩ := h.th ht
  intro F
  induction F with
  | zero => intro f h1 h2; omega
  | succ F ih =>
    intro f h1 h2
    unfold K9_misplaced_L14
    rw [show (8 : Int32) = nI 8 from rfl]
    by_cases hf : f = 8
    · subst hf
      rw [if_pos (nI_le (Nat.le_refl _) (by omega))]
    · have hf8 : f < 8 := by omega
      have ih' := ih (f + 1) (by omega) (by omega)
      rw [isum_succ] at ih'
      obtain ⟨v, hv, ev⟩ := gMis_of h.1 ht hf8
      have o1 := (okI_nI (show t < 2 ^ 31 by omega)).mpr (show t < 30 by omega)
      have o2 := (okI_nI (show f < 2 ^ 31 by omega)).mpr hf8
      have vf : kI μ (B 13 t 0) f = σ.2 12 (8 * t + f) := h.2.2 13 t 0 f ⟨ht, rfl, hf8⟩
      rw [if_neg (nI_ge hf8 (by omega))]
      simp only [if_pos h.k9, s1, ob_some, s2, s3, if_true, o1, o2, nI_clamp (show t < 2 ^ 31 by omega), nI_clamp (show f < 2 ^ 31 by omega), t1, t2, t5, t8, t9, vf, bnd_eq, K9_placesOf_eq h ht hf8, ev, bC16 hv]
      unfold K9_misplaced_B60
      rw [nI_1]
      unfold gMis at ih' ⊢
      by_cases c : σ.2 12 (8 * t + f) = 0
      · rw [if_pos c]
        rw [c, show (0 : Int32) &&& (mPlc σ.2 t f (frc σ nS) ^^^ (-1)) = 0 by simp, show pc 0 = 0 from rfl, i_add0] at ih'
        exact ih'
      · rw [if_neg c]
        rw [ev] at ih'
        exact ih'
theorem K9_misplaced_Lo {Rt : Type} {kk : Int32 → Option Rt} (h : RepB a0 μ σ B tg nT nS nH nP nw nL) : ∀ (F t : Nat), t ≤ nT → nT < t + F → K9_misplaced_L4 μ a0 kk F (osum (gMis σ.2 (frc σ nS)) t) (nI t) = kk (osum (gMis σ.2 (frc σ nS)) nT) := by
  have h30 := h.nT30
  intro F
  induction F with
  | zero => intro t h1 h2; omega
  | succ F ih =>
    intro t h1 h2
    unfold K9_misplaced_L4
    rw [if_pos h.k9, h.i6]
    by_cases ht : t = nT
    · subst ht
      rw [if_pos (nI_le (Nat.le_refl _) (by omega))]
    · have hi := K9_misplaced_Li (kk := fun v1_66 => K9_misplaced_L4 μ a0 kk F v1_66 (nI t + 1)) h (show t < nT by omega) (osum (gMis σ.2 (frc σ nS)) t) gF 0 (by omega) (by unfold gF; omega)
      rw [if_neg (nI_ge (by omega) (by omega))]
      refine Eq.trans hi ?_
      rw [← osum_succ, nI_1]
      exact ih (t + 1) (by omega) (by omega)
theorem op_misplaced_ok : op_misplaced (Rep a0) a0 := by
  rintro μ σ ⟨B, tg, nT, nS, nH, nP, nw, nL, h⟩
  have h30 := h.nT30
  refine ⟨osum (gMis σ.2 (frc σ nS)) nT, mSet σ 0 0, ?_, ?_, Rep_code h.rep _⟩
  · have hi := K9_misplaced_Lo (kk := fun v1_72 => some v1_72) h gF 0 (Nat.zero_le _) (by unfold gF; omega)
    rw [show osum (gMis σ.2 (frc σ nS)) 0 = (0 : Int32) from rfl, show nI 0 = (0 : Int32) from rfl] at hi
    unfold K9_misplaced
    exact hi
  · have hi := M_misplaced_Lo (kk := fun v1_63 => some (v1_63, mSet σ 0 0)) (mInv_code h.1 0) gF 0 (Nat.zero_le _) (by unfold gF; omega)
    rw [show osum (gMis (mSet σ 0 0).2 (frc (mSet σ 0 0) nS)) 0 = (0 : Int32) from rfl, show nI 0 = (0 : Int32) from rfl] at hi
    unfold M_misplaced
    rw [bnd_eq]
    exact hi
/-! bites -/
def anyb (p : Nat → Bool) : Nat → Bool
  | 0 => false
  | n + 1 => anyb p n || p n
theorem anyb_succ (p : Nat → Bool) (n : Nat) : anyb p (n + 1) = (anyb p n || p n) := rfl
theorem anyb_mono {p : Nat → Bool} : ∀ {i n : Nat}, i ≤ n → anyb p i = true → anyb p n = true := by
  intro i n
  induction n with
  | zero => intro h1 h2; rw [show i = 0 by omega] at h2; exact h2
  | succ n ih =>
    intro h1 h2
    rcases Nat.lt_or_ge n i with q | q
    · rw [show n + 1 = i by omega]; exact h2
    · rw [anyb_succ, ih q h2]; rfl
def gBit (A : Ar) (r t f : Nat) : Bool := decide (¬ A 12 (8 * t + f) = 0) && mFor A r t f
def gBitT (A : Ar) (r t : Nat) : Bool := anyb (gBit A r t) 8
theorem M_bites_Li {Rt : Type} {kk : Int32 → Option Rt} {s k t : Nat} (h : mInv σ nT nS nH nP nw nL) (hs : s < nS) (hk : k < (σ.2 25 s).toNatClampNeg) (ht : t < nT) (b : Bool) : ∀ (F f : Nat), f ≤ 8 → 8 < f + F → M_bites_L52 σ (nI s) (nI k) (nI t) kk F (bI (b || anyb (gBit σ.2 (24 * s + k) t) f)) (nI f) = kk (bI (b || gBitT σ.2 (24 * s + k) t)) := by
  have h30 : nT ≤ 30 := h.1.2.1
  have h8 : nS ≤ 8 := h.1.2.2.2.1
  have hl := lvr_of h.2.1 hs hk
  intro F
  induction F with
  | zero => intro f h1 h2; omega
  | succ F ih =>
    intro f h1 h2
    unfold M_bites_L52
    rw [show (8 : Int32) = nI 8 from rfl]
    by_cases hf : f = 8
    · subst hf
      rw [if_pos (nI_le (Nat.le_refl _) (by omega))]; rfl
    · have ih' := ih (f + 1) (by omega) (by omega)
      rw [anyb_succ, ← Bool.or_assoc] at ih'
      rw [if_neg (nI_ge (by omega) (by omega)), pk_mul, nI_add, if_pos ((okI_nI (by omega)).mpr (by omega)), nI_clamp (by omega), show (24 : Int32) = nI 24 from rfl, pk_mul, nI_add, M_isFor_eq h.2.1 h8 h30 hl.1 ht, ob_some]
      unfold M_bites_B94
      rw [nI_1]
      unfold gBit at ih' ⊢
      by_cases c : σ.2 12 (8 * t + f) = 0
      · rw [if_pos c]
        rw [decide_eq_false (fun q => q c), Bool.false_and, Bool.or_false] at ih'
        exact ih'
      · rw [if_neg c]
        rw [decide_eq_true c, Bool.true_and] at ih'
        cases hm : mFor σ.2 (24 * s + k) t f with
        | false =>
          rw [if_pos (by decide)]
          rw [hm, Bool.or_false] at ih'
          exact ih'
        | true =>
          rw [if_neg (by decide)]
          rw [hm, Bool.or_true] at ih'
          exact ih'
theorem M_bites_Lo {Rt : Type} {kk : Int32 → Option Rt} {s k : Nat} (h : mInv σ nT nS nH nP nw nL) (hs : s < nS) (hk : k < (σ.2 25 s).toNatClampNeg) : ∀ (F t : Nat), t ≤ nT → nT < t + F → M_bites_L40 σ (nI s) (nI k) kk F (bI (anyb (gBitT σ.2 (24 * s + k)) t)) (nI t) = kk (bI (anyb (gBitT σ.2 (24 * s + k)) nT)) := by
  have h30 : nT ≤ 30 := h.1.2.1
  intro F
  induction F with
  | zero => intro t h1 h2; omega
  | succ F ih =>
    intro t h1 h2
    unfold M_bites_L40
    rw [h.1.1]
    by_cases ht : t = nT
    · subst ht
      rw [if_pos (nI_le (Nat.le_refl _) (by omega))]
    · have hi := M_bites_Li (kk := fun v3_100 => M_bites_L40 σ (nI s) (nI k) kk F v3_100 (nI t + 1)) h hs hk (show t < nT by omega) (anyb (gBitT σ.2 (24 * s + k)) t) gF 0 (by omega) (by unfold gF; omega)
      rw [show anyb (gBit σ.2 (24 * s + k) t) 0 = false from rfl, Bool.or_false] at hi
      rw [if_neg (nI_ge (by omega) (by omega))]
      refine Eq.trans hi ?_
      rw [← anyb_succ, nI_1]
      exact ih (t + 1) (by omega) (by omega)
theorem K9_bites_Li {Rt : Type} {k1 k2 : Option Rt} {s k t : Nat} (h : RepB a0 μ σ B tg nT nS nH nP nw nL) (hs : s < nS) (hk : k < (σ.2 25 s).toNatClampNeg) (ht : t < nT) : ∀ (F f : Nat), f ≤ 8 → 8 < f + F → anyb (gBit σ.2 (24 * s + k) t) f = false → K9_bites_L43 μ a0 (nI k) (B 15 s 0) (nI t) k1 k2 F (nI f) = if gBitT σ.2 (24 * s + k) t = true then k1 else k2 := by
  have h30 := h.nT30
  have hl := lvr_of h.1.2.1 hs hk
  obtain ⟨s1, s2, s3⟩ := h.thgs
  obtain ⟨t1, t2, t3, t4, t5, t6, t7, t8, t9⟩ := h.th ht
  obtain ⟨q1, q2, q3, q4, q5, q6, q7, q8, q9⟩ := h.st hs
  obtain ⟨r1, r2, -⟩ := h.ru hs (show k < rmy σ.2 s from hk)
  intro F
  induction F with
  | zero => intro f h1 h2; omega
  | succ F ih =>
    intro f h1 h2 h3
    unfold K9_bites_L43
    rw [show (8 : Int32) = nI 8 from rfl]
    by_cases hf : f = 8
    · subst hf
      rw [if_pos (nI_le (Nat.le_refl _) (by omega)), if_neg (by unfold gBitT; rw [h3]; decide)]
    · have hf8 : f < 8 := by omega
      have ih' := ih (f + 1) (by omega) (by omega)
      rw [anyb_succ, h3, Bool.false_or] at ih'
      have o1 := (okI_nI (show t < 2 ^ 31 by omega)).mpr (show t < 30 by omega)
      have o2 := (okI_nI (show f < 2 ^ 31 by omega)).mpr hf8
      have o3 := (okI_nI (show k < 2 ^ 31 by omega)).mpr hl.2
      have vf : kI μ (B 13 t 0) f = σ.2 12 (8 * t + f) := h.2.2 13 t 0 f ⟨ht, rfl, hf8⟩
      rw [if_neg (nI_ge hf8 (by omega))]
      simp only [if_pos h.k9, s1, ob_some, s2, s3, if_true, o1, o2, o3, nI_clamp (show t < 2 ^ 31 by omega), nI_clamp (show f < 2 ^ 31 by omega), nI_clamp (show k < 2 ^ 31 by omega), t1, t2, t5, t8, t9, vf, q2, q3, q5.1, q5.2, r1, r2, K3_isFor_eq h hs (show k < rmy σ.2 s from hk) ht hf8]
      unfold K9_bites_B89
      rw [nI_1]
      by_cases c : σ.2 12 (8 * t + f) = 0
      · rw [if_pos c]
        exact ih' (by unfold gBit; rw [decide_eq_false (fun q => q c), Bool.false_and])
      · rw [if_neg c]
        cases hm : mFor σ.2 (24 * s + k) t f with
        | false =>
          rw [if_pos (by decide)]
          exact ih' (by unfold gBit; rw [hm, Bool.and_false])
        | true =>
          rw [if_neg (by decide), if_pos]
          exact anyb_mono (show f + 1 ≤ 8 by omega) (by rw [anyb_succ, gBit, hm, decide_eq_true c, Bool.true_and, Bool.or_true])
theorem K9_bites_Lo {Rt : Type} {k1 k2 : Option Rt} {s k : Nat} (h : RepB a0 μ σ B tg nT nS nH nP nw nL) (hs : s < nS) (hk : k < (σ.2 25 s).toNatClampNeg) : ∀ (F t : Nat), t ≤ nT → nT < t + F → anyb (gBitT σ.2 (24 * s + k)) t = false → K9_bites_L31 μ a0 (nI k) (B 15 s 0) k1 k2 F (nI t) = if anyb (gBitT σ.2 (24 * s + k)) nT = true then k1 else k2 := by
  have h30 := h.nT30
  intro F
  induction F with
  | zero => intro t h1 h2; omega
  | succ F ih =>
    intro t h1 h2 h3
    unfold K9_bites_L31
    rw [if_pos h.k9, h.i6]
    by_cases ht : t = nT
    · subst ht
      rw [if_pos (nI_le (Nat.le_refl _) (by omega)), if_neg (by rw [h3]; decide)]
    · rw [if_neg (nI_ge (by omega) (by omega)), show (0 : Int32) = nI 0 from rfl, K9_bites_Li h hs hk (show t < nT by omega) gF 0 (by omega) (by unfold gF; omega) rfl, nI_1]
      cases hg : gBitT σ.2 (24 * s + k) t with
      | true =>
        rw [if_pos rfl, if_pos]
        exact anyb_mono (show t + 1 ≤ nT by omega) (by rw [anyb_succ, hg, Bool.or_true])
      | false =>
        rw [if_neg (by decide)]
        exact ih (t + 1) (by omega) (by omega) (by rw [anyb_succ, h3, hg]; rfl)
theorem K9_setAt_no (h : RepB a0 μ σ B tg nT nS nH nP nw nL) {x : Int32} (hx : x < 0 ∨ nI nS ≤ x) : K9_setAt μ a0 x = some (.inr (true, μ)) := by
  unfold K9_setAt K9_setAt_B12
  by_cases h1 : x < 0
  · rw [if_pos h1]
  · rcases hx with hx | hx
    · exact absurd hx h1
    · rw [if_neg h1, if_pos h.k9, h.i4, if_neg (i_le_n hx)]
theorem K9_setAt_ok (h : RepB a0 μ σ B tg nT nS nH nP nw nL) {s : Nat} (hs : s < nS) : K9_setAt μ a0 (nI s) = some (.inl (some (B 15 s 0), μ)) := by
  have h8 := h.nS8
  obtain ⟨s1, s2, s3⟩ := h.sets
  obtain ⟨q1, -⟩ := h.st hs
  unfold K9_setAt
  rw [if_neg (nI_pos (by omega)), if_pos h.k9, h.i4, if_pos (nI_lt hs (by omega)), s1, ob_some, if_pos s2, s3, if_pos ((okI_nI (by omega)).mpr (by omega)), nI_clamp (by omega), q1, ob_some]
theorem M_isSet_no (h2 : σ.1 3 = nI nS) {x : Int32} (hx : x < 0 ∨ nI nS ≤ x) : M_isSet σ x = some 0 := by
  unfold M_isSet M_isSet_B16 M_isSet_B17
  by_cases h1 : x < 0
  · rw [if_pos h1]; rfl
  · rcases hx with hx | hx
    · exact absurd hx h1
    · rw [if_neg h1, h2, if_pos hx]; rfl
theorem M_isSet_ok (h2 : σ.1 3 = nI nS) (hS : nS ≤ 8) {s : Nat} (hs : s < nS) : M_isSet σ (nI s) = some 1 := by
  unfold M_isSet M_isSet_B17
  rw [if_neg (nI_pos (by omega)), h2, if_neg (nI_ge hs (by omega))]; rfl
theorem op_bites_ok : op_bites (Rep a0) a0 := by
  rintro μ σ a1 a2 ⟨B, tg, nT, nS, nH, nP, nw, nL, h⟩
  have h30 := h.nT30
  have h8 := h.nS8
  have no : ∀ {k : Option ((Int32 × Km) ⊕ (Bool × Km))} {mr : Option (Int32 × Ms)}, k = some (.inr (true, μ)) → mr = some (0, mSet (mSet σ 0 0) 0 1) → opI (Rep a0) (fun _ => 1) (fun b => b) k mr := fun e1 e2 => opI_no e1 e2 rfl (mSet_0v _ _) (Rep_code (Rep_code h.rep _) _)
  rcases i_below a1 (n := nS) (by omega) with hx | ⟨s, hs, rfl⟩
  · refine no ?_ ?_
    · unfold K9_bites; rw [if_pos h.k9, K9_setAt_no h hx]; rfl
    · unfold M_bites; rw [bnd_eq, M_isSet_no (σ := mSet σ 0 0) (h.1.1.2.2.1) hx, ob_some, if_pos rfl]; rfl
  obtain ⟨q1, q2, q3, q4, q5, q6, q7, q8, q9⟩ := h.st hs
  have h25 := ibt_c (h.1.2.1 25 s hs) (by decide)
  have o1 := (okI_nI (show s < 2 ^ 31 by omega)).mpr (show s < 8 by omega)
  rcases i_below a2 (n := (σ.2 25 s).toNatClampNeg) (by omega) with hx | ⟨k, hk, rfl⟩
  · rw [← h25.1] at hx
    refine no ?_ ?_
    · unfold K9_bites; rw [if_pos h.k9, K9_setAt_ok h hs, bxq_ok, ob_some]
      by_cases c : a2 < 0
      · rw [if_pos c]; rfl
      · rw [if_neg c, if_pos q2, q8, if_neg (i_le_n (hx.resolve_left c))]; rfl
    · unfold M_bites; rw [bnd_eq, M_isSet_ok (σ := mSet σ 0 0) (h.1.1.2.2.1) h8 hs, ob_some, if_neg (by decide)]
      by_cases c : a2 < 0
      · rw [if_pos c]; rfl
      · rw [if_neg c, if_pos o1, nI_clamp (by omega), mSet_2, if_neg (i_le_n (hx.resolve_left c))]; rfl
  · refine opI_ok (r := bI (anyb (gBitT σ.2 (24 * s + k)) nT)) (μ' := μ) (σ' := mSet σ 0 0) ?_ ?_ (mSet_0v _ _) (Rep_code h.rep _)
    · unfold K9_bites
      rw [if_pos h.k9, K9_setAt_ok h hs, bxq_ok, ob_some, if_neg (nI_pos (by omega)), if_pos q2, q8, if_pos (by rw [h25.1]; exact nI_lt hk (by omega)), show (0 : Int32) = nI 0 from rfl, K9_bites_Lo h hs hk gF 0 (by omega) (by unfold gF; omega) rfl]
      cases anyb (gBitT σ.2 (24 * s + k)) nT <;> rfl
    · unfold M_bites
      have hM := M_bites_Lo (kk := fun v3_106 => if okZ v3_106 = true then some (v3_106, mSet σ 0 0) else none) (mInv_code h.1 0) hs hk gF 0 (by omega) (by unfold gF; omega)
      rw [bnd_eq, M_isSet_ok (σ := mSet σ 0 0) (h.1.1.2.2.1) h8 hs, ob_some, if_neg (by decide), if_neg (nI_pos (by omega)), if_pos o1, nI_clamp (by omega), mSet_2, if_pos (by rw [h25.1]; exact nI_lt hk (by omega))]
      refine Eq.trans hM ?_
      rw [if_pos (okZ_bI _)]
      rfl
end OPS5
