section SWEEP
variable {a0 : Nat} {μ ν : Km} {σ τ ρ : Ms} {B : Nat → Nat → Nat → Nat} {tg : Nat → Nat × Nat × Nat} {nT nS nH nP nw nL : Nat} {A : Ar}
theorem mSet_self (σ : Ms) (k : Nat) : mSet σ k (σ.1 k) = σ := by
  refine Prod.ext (funext fun j => ?_) rfl
  rw [mSet_at]
  by_cases e : j = k
  · rw [if_pos e, e]
  · rw [if_neg e]
theorem mSet_comm (σ : Ms) {i j : Nat} (h : i ≠ j) (x y : Int32) : mSet (mSet σ i x) j y = mSet (mSet σ j y) i x := by
  refine Prod.ext (funext fun k => ?_) rfl
  rw [mSet_at, mSet_at, mSet_at, mSet_at]
  by_cases e : k = j
  · subst e
    rw [if_pos rfl, if_neg (fun z => h z.symm), if_pos rfl]
  · rw [if_neg e]
    by_cases e2 : k = i
    · rw [if_pos e2, if_pos e2]
    · rw [if_neg e2, if_neg e2, if_neg e]
theorem mInv_set5 (h : mInv σ nT nS nH nP nw nL) {n : Nat} (hn : n ≤ 960 * nw) : mInv (mSet σ 5 (nI n)) nT nS nH nP nw n := by
  obtain ⟨⟨c1, c2, c3, c4, c5, c6, c7, c8, c9, c10, c11, c12⟩, h2, h3⟩ := h
  exact ⟨⟨c1, c2, c3, c4, c5, c6, c7, c8, c9, c10, rfl, hn⟩, h2, h3⟩
theorem mInv_set6 (h : mInv σ nT nS nH nP nw nL) (x : Int32) : mInv (mSet σ 6 x) nT nS nH nP nw nL := h
theorem mInv_set1 (h : mInv σ nT nS nH nP nw nL) {n : Nat} (hn : n ≤ 200000) (hL : nL ≤ 960 * n) : mInv (mSet σ 1 (nI n)) nT nS nH nP n nL := by
  obtain ⟨⟨c1, c2, c3, c4, c5, c6, c7, c8, c9, c10, c11, c12⟩, h2, h3⟩ := h
  exact ⟨⟨c1, c2, c3, c4, c5, c6, c7, c8, rfl, hn, c11, hL⟩, h2, h3⟩
def lateB (x to : Int32) : Int32 := if x ≤ to then 0 else 1
theorem RepB.lg (h : RepB a0 μ σ B tg nT nS nH nP nw nL) : kR μ a0 10 = some (B 5 0 0) ∧ kK μ (B 5 0 0) = 2 ∧ kR μ (B 5 0 0) 0 = some (B 6 0 0) ∧ kK μ (B 6 0 0) = 12 ∧ kN μ (B 6 0 0) = 2000 ∧ kI μ (B 5 0 0) 1 = nI nL ∧ kI μ (B 5 0 0) 2 = σ.1 6 ∧ B 5 0 0 ≠ B 7 0 0 ∧ B 6 0 0 ≠ B 7 0 0 ∧ B 6 0 0 ≠ B 5 0 0 := by
  have k5 : kK μ (B 5 0 0) = 2 := (h.one (c := 5) (by omega)).1
  have k6 : kK μ (B 6 0 0) = 12 := (h.one (c := 6) (by omega)).1
  have k7 : kK μ (B 7 0 0) = 6 := (h.one (c := 7) (by omega)).1
  refine ⟨h.r (by omega), k5, h.2.1.2.2.2 5 0 0 0 ⟨rfl, rfl, rfl⟩, k6, (h.one (c := 6) (by omega)).2, ?_, h.2.2 5 0 0 2 ⟨rfl, rfl, by omega⟩, fun z => ?_, fun z => ?_, fun z => ?_⟩
  · exact (h.2.2 5 0 0 1 ⟨rfl, rfl, by omega⟩).trans h.1.1.2.2.2.2.2.2.2.2.2.2.1
  · rw [z, k7] at k5; cases k5
  · rw [z, k7] at k6; cases k6
  · rw [z, k5] at k6; cases k6
theorem K2_add_end (h : RepB a0 ν τ B tg nT nS nH nP nw nL) (hL : nL + 1 ≤ 960 * nw) {x to : Int32} (ht : kI ν (B 7 0 0) 1 = to) : ∃ ν', K2_add_B71 ν (B 5 0 0) x (B 7 0 0) = some ν' ∧ RepB a0 ν' (mSet (mSet τ 5 (nI (nL + 1))) 6 (τ.1 6 + lateB x to)) B tg nT nS nH nP nw (nL + 1) := by
  obtain ⟨l1, l2, l3, l4, l5, l6, l7, l8, l9, l10⟩ := h.lg
  obtain ⟨s1, s2, -⟩ := h.spn
  have h1 := RepB_put (σ' := mSet τ 5 (nI (nL + 1))) (c0 := 5) (i0 := 0) (j0 := 0) (e0 := 1) (x := nI (nL + 1)) h (mInv_set5 h.1 hL) (fun _ _ _ => rfl) rfl ⟨by omega, rfl, rfl⟩ hv_5
  have h2 := RepB_put (σ' := mSet (mSet τ 5 (nI (nL + 1))) 6 (τ.1 6 + lateB x to)) (c0 := 5) (i0 := 0) (j0 := 0) (e0 := 2) (x := τ.1 6 + lateB x to) h1 (mInv_set6 h1.1 _) (fun _ _ _ => rfl) rfl ⟨by omega, rfl, rfl⟩ hv_6
  refine ⟨_, ?_, h2⟩
  have g1 : kI (kSetI ν (B 5 0 0) 1 (nI (nL + 1))) (B 7 0 0) 1 = to := by rw [kI_set, if_neg (fun z => l8 z.1.symm)]; exact ht
  have g2 : kI (kSetI ν (B 5 0 0) 1 (nI (nL + 1))) (B 5 0 0) 2 = τ.1 6 := by rw [kI_set, if_neg (by simp)]; exact l7
  unfold K2_add_B71 K2_add_B101 lateB
  rw [if_pos l2, l6, nI_1, bnd_eq, if_pos (by exact s2), g1, g2]
  by_cases c : x ≤ to
  · rw [if_pos c, if_pos c, if_pos (by exact l2), bnd_eq]
  · rw [if_neg c, if_neg c, if_pos (by exact l2), bnd_eq]
def logW (τ : Ms) (n : Nat) (t f s d r : Int32) : Ms := mSto (mSto (mSto (mSto (mSto τ 19 n t) 20 n f) 21 n s) 22 n d) 23 n r
def logM (τ : Ms) (n : Nat) (t f s d r : Int32) : Ms := if n < 400 then logW τ n t f s d r else τ
theorem K2_add_eq (h : RepB a0 ν τ B tg nT nS nH nP nw nL) (hw : nw ≤ 200000) (hL : nL + 1 ≤ 960 * nw) {t f s x to rl : Int32} (h1 : kI ν (B 7 0 0) 1 = to) (h3 : kI ν (B 7 0 0) 3 = rl) : ∃ ν', K2_add ν (B 5 0 0) t f s x (B 7 0 0) = some ν' ∧ RepB a0 ν' (mSet (mSet (logM τ nL t f s x rl) 5 (nI (nL + 1))) 6 (τ.1 6 + lateB x to)) B tg nT nS nH nP nw (nL + 1) := by
  obtain ⟨l1, l2, l3, l4, l5, l6, l7, l8, l9, l10⟩ := h.lg
  obtain ⟨s1, s2, -⟩ := h.spn
  unfold K2_add logM
  rw [if_pos l2, l6, show (400 : Int32) = nI 400 from rfl]
  by_cases c : nL < 400
  · rw [if_neg (nI_ge c (by omega)), if_pos c]
    have stp : ∀ {ν' : Km} {τ' : Ms} (b : Nat) (hb : b < 5) (y : Int32), RepB a0 ν' τ' B tg nT nS nH nP nw nL → RepB a0 (kSetI ν' (B 6 0 0) (nL * 5 + b) y) (mSto τ' (19 + b) nL y) B tg nT nS nH nP nw nL := by
      intro ν' τ' b hb y q
      have e5 : nL * 5 + b = 5 * nL + b := by omega
      rw [e5]
      refine RepB_put (c0 := 6) (i0 := 0) (j0 := 0) (e0 := 5 * nL + b) (x := y) q (mInv_put (k0 := 19 + b) (j0 := nL) (x := y) q.1 (by omega) ?_) (sameR_put (by omega)) (mSto_ne _ _ _ _ (by omega)) ⟨by omega, rfl, rfl⟩ ?_
      · rcases (show b = 0 ∨ b = 1 ∨ b = 2 ∨ b = 3 ∨ b = 4 by omega) with rfl | rfl | rfl | rfl | rfl <;> trivial
      · rcases (show b = 0 ∨ b = 1 ∨ b = 2 ∨ b = 3 ∨ b = 4 by omega) with rfl | rfl | rfl | rfl | rfl
        · exact hw_19
        · exact hw_20
        · exact hw_21
        · exact hw_22
        · exact hw_23
    have p1 := stp 0 (by omega) t h
    have p2 := stp 1 (by omega) f p1
    have p3 := stp 2 (by omega) s p2
    have p4 := stp 3 (by omega) x p3
    have p5 := stp 4 (by omega) rl p4
    have n67 : ∀ j, ¬ (B 7 0 0 = B 6 0 0 ∧ j) := fun j z => l9 z.1.symm
    have q3 : kI (kSetI (kSetI (kSetI (kSetI ν (B 6 0 0) (nL * 5 + 0) t) (B 6 0 0) (nL * 5 + 1) f) (B 6 0 0) (nL * 5 + 2) s) (B 6 0 0) (nL * 5 + 3) x) (B 7 0 0) 3 = rl := by
      rw [kI_set, if_neg (n67 _), kI_set, if_neg (n67 _), kI_set, if_neg (n67 _), kI_set, if_neg (n67 _)]; exact h3
    have q1 : kI (kSetI (kSetI (kSetI (kSetI (kSetI ν (B 6 0 0) (nL * 5 + 0) t) (B 6 0 0) (nL * 5 + 1) f) (B 6 0 0) (nL * 5 + 2) s) (B 6 0 0) (nL * 5 + 3) x) (B 6 0 0) (nL * 5 + 4) rl) (B 7 0 0) 1 = to := by
      rw [kI_set, if_neg (n67 _), kI_set, if_neg (n67 _), kI_set, if_neg (n67 _), kI_set, if_neg (n67 _), kI_set, if_neg (n67 _)]; exact h1
    have ix : ∀ b, b < 5 → okI (nI (nL * 5 + b)) 2000 = true := fun b hb => (okI_nI (by omega)).mpr (by omega)
    have ix0 : okI (nI (nL * 5)) 2000 = true := ix 0 (by omega)
    obtain ⟨ν', e1, r1⟩ := K2_add_end (x := x) p5 hL q1
    refine ⟨ν', ?_, r1⟩
    rw [show (5 : Int32) = nI 5 from rfl, pk_mul, bnd_eq, l3, ob_some, if_pos l4, l5, if_pos ix0, nI_clamp (show nL * 5 < 2 ^ 31 by omega), bnd_eq, kR_setI, l3, ob_some, kK_setI, if_pos l4, kN_setI, l5, show (1 : Int32) = nI 1 from rfl, show (2 : Int32) = nI 2 from rfl, show (3 : Int32) = nI 3 from rfl, show (4 : Int32) = nI 4 from rfl, nI_add, if_pos (ix 1 (by omega)), nI_clamp (show nL * 5 + 1 < 2 ^ 31 by omega), bnd_eq, kR_setI, kR_setI, l3, ob_some, kK_setI, kK_setI, if_pos l4, kN_setI, kN_setI, l5, nI_add, if_pos (ix 2 (by omega)), nI_clamp (show nL * 5 + 2 < 2 ^ 31 by omega), bnd_eq, kR_setI, kR_setI, kR_setI, l3, ob_some, kK_setI, kK_setI, kK_setI, if_pos l4, kN_setI, kN_setI, kN_setI, l5, nI_add, if_pos (ix 3 (by omega)), nI_clamp (show nL * 5 + 3 < 2 ^ 31 by omega), bnd_eq, kR_setI, kR_setI, kR_setI, kR_setI, l3, ob_some, kK_setI, kK_setI, kK_setI, kK_setI, if_pos s2, if_pos l4, kN_setI, kN_setI, kN_setI, kN_setI, l5, nI_add, if_pos (ix 4 (by omega)), nI_clamp (show nL * 5 + 4 < 2 ^ 31 by omega), bnd_eq]
    rw [show kI (kSetI (kSetI (kSetI (kSetI ν (B 6 0 0) (nL * 5) t) (B 6 0 0) (nL * 5 + 1) f) (B 6 0 0) (nL * 5 + 2) s) (B 6 0 0) (nL * 5 + 3) x) (B 7 0 0) 3 = rl from q3]
    exact e1
  · rw [if_pos (nI_le (by omega) (by omega)), if_neg c]
    exact K2_add_end h hL h1
theorem M_sweep_log {Rt : Type} {rec : Ms → Int32 → Option Rt} {kk : Ms → Option Rt} {t f s : Nat} {to rl : Int32} (h5 : τ.1 5 = nI nL) (hL : nL ≤ 200000000) (h1 : τ.1 1 = nI nw) (h51 : τ.1 51 = rl) : (if τ.1 1 ≤ to then M_sweep_B92 τ rec kk (nI s) (nI t) (nI f) else bnd (mSet τ 6 ((τ.1 6) + (1 : Int32))) (fun s_89 => M_sweep_B92 s_89 rec kk (nI s) (nI t) (nI f))) = rec (mSet (mSet (logM τ nL (nI t) (nI f) (nI s) (nI nw) rl) 5 (nI (nL + 1))) 6 (τ.1 6 + lateB (nI nw) to)) (nI (f + 1)) := by
  have hB : ∀ ρ : Ms, ρ.1 5 = nI nL → ρ.1 1 = nI nw → ρ.1 51 = rl → M_sweep_B92 ρ rec kk (nI s) (nI t) (nI f) = rec (mSet (logM ρ nL (nI t) (nI f) (nI s) (nI nw) rl) 5 (nI (nL + 1))) (nI (f + 1)) := by
    intro ρ g5 g1 g51
    unfold M_sweep_B92 M_sweep_B158 M_sweep_B168 logM logW
    rw [g5, show (400 : Int32) = nI 400 from rfl]
    by_cases c : nL < 400
    · have o1 := (okI_nI (show nL < 2 ^ 31 by omega)).mpr c
      rw [if_neg (nI_ge c (by omega)), if_pos c, if_pos o1]
      simp only [bnd_eq, mSto_1, g5, o1, if_true, nI_clamp (show nL < 2 ^ 31 by omega), g1, g51, nI_1]
    · rw [if_pos (nI_le (by omega) (by omega)), if_neg c, bnd_eq, nI_1, nI_1]
  have hlg : ∀ (ρ : Ms) (x : Int32), logM (mSet ρ 6 x) nL (nI t) (nI f) (nI s) (nI nw) rl = mSet (logM ρ nL (nI t) (nI f) (nI s) (nI nw) rl) 6 x := by
    intro ρ x
    unfold logM logW
    by_cases c : nL < 400
    · rw [if_pos c, if_pos c]; rfl
    · rw [if_neg c, if_neg c]
  have e6 : (logM τ nL (nI t) (nI f) (nI s) (nI nw) rl).1 6 = τ.1 6 := by
    unfold logM logW
    by_cases c : nL < 400
    · rw [if_pos c]; rfl
    · rw [if_neg c]
  unfold lateB
  rw [h1]
  by_cases c : nI nw ≤ to
  · rw [if_pos c, if_pos c, hB τ h5 h1 h51, i_add0]
    congr 1
    rw [mSet_comm _ (by decide), ← e6, mSet_self]
  · rw [if_neg c, if_neg c, bnd_eq, hB (mSet τ 6 (τ.1 6 + 1)) h5 h1 h51, hlg, mSet_comm _ (show (6 : Nat) ≠ 5 by decide)]
theorem an16d : ∀ v, v < 16 → ∀ s, s < 4 → ∃ u, u < 16 ∧ nI v &&& (((1 : Int32) <<< (nI s &&& 31)) ^^^ (-1)) = nI u := by decide
theorem sweep_Li {Rt Rt' : Type} {kk : Km → Option Rt} {km : Ms → Option Rt'} {t s : Nat} {fr : Int32} (ht : t < nT) (hs : s < 4) : ∀ (F f : Nat) (ν : Km) (τ : Ms) (nL : Nat), f ≤ 8 → 8 < f + F → RepB a0 ν τ B tg nT nS nH nP nw nL → frc τ nS = fr → nL + (8 - f) ≤ 960 * nw → ∃ ν' τ' nL', K9_sweep_L18 a0 (nI s) (bSet B fr) (nI t) kk F ν (nI f) = kk ν' ∧ M_sweep_L12 (nI s) (nI t) km F τ (nI f) = km τ' ∧ RepB a0 ν' τ' B tg nT nS nH nP nw nL' ∧ frc τ' nS = fr ∧ nL' ≤ nL + (8 - f) ∧ τ'.1 0 = τ.1 0 := by
  intro F
  induction F with
  | zero => intro f ν τ nL h1 h2; omega
  | succ F ih =>
    intro f ν τ nL h1 h2 h hfr hL
    unfold K9_sweep_L18 M_sweep_L12
    rw [show (8 : Int32) = nI 8 from rfl]
    by_cases hf : f = 8
    · subst hf
      rw [if_pos (nI_le (Nat.le_refl _) (by omega)), if_pos (nI_le (Nat.le_refl _) (by omega))]
      exact ⟨ν, τ, nL, rfl, rfl, h, hfr, by omega, rfl⟩
    · have hf8 : f < 8 := by omega
      have h30 := h.nT30
      have hw : nw ≤ 200000 := h.1.1.2.2.2.2.2.2.2.2.2.1
      have e1 : τ.1 1 = nI nw := h.1.1.2.2.2.2.2.2.2.2.1
      obtain ⟨g1, g2, g3⟩ := h.thgs
      obtain ⟨t1, t2, t3, t4, t5, t6, t7, t8, t9⟩ := h.th ht
      obtain ⟨u1, u2, -⟩ := h.spn
      have o1 := (okI_nI (show t < 2 ^ 31 by omega)).mpr (show t < 30 by omega)
      have o2 := (okI_nI (show f < 2 ^ 31 by omega)).mpr hf8
      have o3 := (okI_nI (show 8 * t + f < 2 ^ 31 by omega)).mpr (show 8 * t + f < 240 by omega)
      rw [if_neg (nI_ge hf8 (by omega)), if_pos h.k9, g1, ob_some, if_pos g2, g3, if_pos o1, nI_clamp (show t < 2 ^ 31 by omega), t1, ob_some, if_pos t2, K8_hasCopy_eq h ht hf8, ob_some]
      rw [if_neg (nI_ge hf8 (by omega)), pk_mul, nI_add, if_pos o3, nI_clamp (show 8 * t + f < 2 ^ 31 by omega)]
      unfold K9_sweep_B109 M_sweep_B168
      rw [nI_1]
      by_cases c : (τ.2 12 (8 * t + f) >>> (nI s &&& 31)) &&& 1 = 0
      · rw [decide_eq_false (fun z => z c), if_pos (by decide), if_pos c]
        obtain ⟨ν', τ', nL', r1, r2, r3, r4, r5, r6⟩ := ih (f + 1) ν τ nL (by omega) (by omega) h hfr (by omega)
        exact ⟨ν', τ', nL', r1, r2, r3, r4, by omega, r6⟩
      · obtain ⟨ν1, e2, hk, hq, f6, f7⟩ := K6_settle_eq h (frc_in τ nS) ht hf8
        have hν1 := RepB_kscr h hk
        obtain ⟨v1, v2, -⟩ := hν1.spn
        have ed := K6_isDue_eq (x := τ.1 1) v2 hq f6 f7
        obtain ⟨τ1, e3, km1, hI1, w48, w49, w51⟩ := M_isDue_eq (x := τ.1 1) h.1 ht hf8
        have hR1 : RepB a0 ν1 τ1 B tg nT nS nH nP nw nL := RepB_kmo hν1 km1 hI1
        have fr1 : frc τ1 nS = fr := (frc_kmo km1).trans hfr
        rw [hfr] at e2 e3 ed hq w49 w51
        rw [decide_eq_true c, if_neg (by decide), u1, ob_some, ob_some, if_pos g2, g3, if_pos o1, t1, ob_some, if_pos u2, e2, ob_some, if_pos hν1.k9, v1, ob_some, if_pos v2, hν1.now, ed, ob_some, if_neg c, e3, bi_some]
        cases hd : sDue (mSpan τ.2 t f fr) (hel τ.2 t f) (τ.2 13 t) (τ.1 1) with
        | false =>
          rw [if_pos (by decide), if_pos (by decide)]
          obtain ⟨ν', τ', nL', r1, r2, r3, r4, r5, r6⟩ := ih (f + 1) ν1 τ1 nL (by omega) (by omega) hR1 fr1 (by omega)
          exact ⟨ν', τ', nL', r1, r2, r3, r4, by omega, r6.trans (km1.1 0 (by omega))⟩
        | true =>
          rw [if_neg (by decide), if_neg (by decide)]
          obtain ⟨d1, d2, d3⟩ := hR1.thgs
          obtain ⟨p1, p2, p3, p4, p5, p6, p7, p8, p9⟩ := hR1.th ht
          have vf : kI ν1 (B 13 t 0) f = τ1.2 12 (8 * t + f) := hR1.2.2 13 t 0 f ⟨ht, rfl, hf8⟩
          obtain ⟨⟨v, hv, ev⟩, -⟩ := hR1.1.2.1 12 (8 * t + f) (by omega)
          obtain ⟨u, hu, eu⟩ := an16d v hv s hs
          rw [← ev] at eu
          have hR2 := RepB_put (c0 := 13) (i0 := t) (j0 := 0) (e0 := f) (x := τ1.2 12 (8 * t + f) &&& (((1 : Int32) <<< (nI s &&& 31)) ^^^ (-1))) hR1 (mInv_put (k0 := 12) (j0 := 8 * t + f) hR1.1 (by omega) (fun _ => ⟨⟨u, hu, by rw [mSto_at, if_pos ⟨rfl, rfl⟩, eu]⟩, fun q => by omega⟩)) (sameR_put (by omega)) (mSto_ne _ _ _ _ (by decide)) ⟨ht, rfl⟩ (hw_12 hf8)
          obtain ⟨x1, x2, -⟩ := hR2.lg
          obtain ⟨y1, y2, -⟩ := hR2.spn
          have n137 : ¬ B 7 0 0 = B 13 t 0 := fun z => by rw [z, p8] at v2; cases v2
          have to1 : kI (kSetI ν1 (B 13 t 0) f (τ1.2 12 (8 * t + f) &&& (((1 : Int32) <<< (nI s &&& 31)) ^^^ (-1)))) (B 7 0 0) 1 = (mSpan τ.2 t f fr).2.1 := by rw [kI_set, if_neg (fun z => n137 z.1)]; exact hq.2.1
          have rl1 : kI (kSetI ν1 (B 13 t 0) f (τ1.2 12 (8 * t + f) &&& (((1 : Int32) <<< (nI s &&& 31)) ^^^ (-1)))) (B 7 0 0) 3 = (mSpan τ.2 t f fr).2.2.2.1 := by rw [kI_set, if_neg (fun z => n137 z.1)]; exact hq.2.2.2.1
          obtain ⟨ν3, e4, hR3⟩ := K2_add_eq (t := nI t) (f := nI f) (s := nI s) (x := nI nw) hR2 hw (by omega) to1 rl1
          have lgM := M_sweep_log (τ := mSto τ1 12 (8 * t + f) (τ1.2 12 (8 * t + f) &&& (((1 : Int32) <<< (nI s &&& 31)) ^^^ (-1)))) (rec := M_sweep_L12 (nI s) (nI t) km F) (kk := km) (t := t) (f := f) (s := s) (to := (mSpan τ.2 t f fr).2.1) (rl := (mSpan τ.2 t f fr).2.2.2.1) (nL := nL) (nw := nw) hR2.1.1.2.2.2.2.2.2.2.2.2.2.1 (by omega) hR2.1.1.2.2.2.2.2.2.2.2.1 (by rw [mSto_1]; exact w51)
          have fr3 : frc (mSet (mSet (logM (mSto τ1 12 (8 * t + f) (τ1.2 12 (8 * t + f) &&& (((1 : Int32) <<< (nI s &&& 31)) ^^^ (-1)))) nL (nI t) (nI f) (nI s) (nI nw) (mSpan τ.2 t f fr).2.2.2.1) 5 (nI (nL + 1))) 6 ((mSto τ1 12 (8 * t + f) (τ1.2 12 (8 * t + f) &&& (((1 : Int32) <<< (nI s &&& 31)) ^^^ (-1)))).1 6 + lateB (nI nw) (mSpan τ.2 t f fr).2.1)) nS = fr := by
            rw [← fr1]
            unfold frc logM logW
            by_cases z : nL < 400
            · rw [if_pos z]; rfl
            · rw [if_neg z]; rfl
          have c03 : (mSet (mSet (logM (mSto τ1 12 (8 * t + f) (τ1.2 12 (8 * t + f) &&& (((1 : Int32) <<< (nI s &&& 31)) ^^^ (-1)))) nL (nI t) (nI f) (nI s) (nI nw) (mSpan τ.2 t f fr).2.2.2.1) 5 (nI (nL + 1))) 6 ((mSto τ1 12 (8 * t + f) (τ1.2 12 (8 * t + f) &&& (((1 : Int32) <<< (nI s &&& 31)) ^^^ (-1)))).1 6 + lateB (nI nw) (mSpan τ.2 t f fr).2.1)).1 0 = τ.1 0 := by
            rw [← km1.1 0 (by omega)]
            unfold logM logW
            by_cases z : nL < 400
            · rw [if_pos z]; rfl
            · rw [if_neg z]; rfl
          obtain ⟨ν', τ', nL', r1, r2, r3, r4, r5, r6⟩ := ih (f + 1) ν3 _ (nL + 1) (by omega) (by omega) hR3 fr3 (by omega)
          refine ⟨ν', τ', nL', ?_, ?_, r3, r4, by omega, r6.trans c03⟩
          · rw [d1, ob_some, if_pos d2, d3, if_pos o1, p1, ob_some, if_pos p2, p5, ob_some, if_pos p8, p9, if_pos o2, if_pos o2, bnd_eq, nI_clamp (show f < 2 ^ 31 by omega), vf, x1, ob_some, y1, ob_some, if_pos x2, hR2.i12, e4, ob_some]
            exact r1
          · rw [if_pos o3, if_pos o3, bnd_eq]
            rw [show (mSto τ1 12 (8 * t + f) (τ1.2 12 (8 * t + f) &&& (((1 : Int32) <<< (nI s &&& 31)) ^^^ (-1)))).1 49 = (mSpan τ.2 t f fr).2.1 from w49]
            rw [lgM]
            exact r2
theorem sweep_Lo {Rt Rt' : Type} {kk : Km → Option Rt} {km : Ms → Option Rt'} {s : Nat} {fr : Int32} (hs : s < 4) : ∀ (F t : Nat) (ν : Km) (τ : Ms) (nL : Nat), t ≤ nT → nT < t + F → RepB a0 ν τ B tg nT nS nH nP nw nL → frc τ nS = fr → nL + 8 * (nT - t) ≤ 960 * nw → ∃ ν' τ' nL', K9_sweep_L7 a0 (nI s) (bSet B fr) kk F ν (nI t) = kk ν' ∧ M_sweep_L2 (nI s) km F τ (nI t) = km τ' ∧ RepB a0 ν' τ' B tg nT nS nH nP nw nL' ∧ nL' ≤ nL + 8 * (nT - t) ∧ τ'.1 0 = τ.1 0 := by
  intro F
  induction F with
  | zero => intro t ν τ nL h1 h2; omega
  | succ F ih =>
    intro t ν τ nL h1 h2 h hfr hL
    have h30 := h.nT30
    unfold K9_sweep_L7 M_sweep_L2
    rw [if_pos h.k9, h.i6, h.1.1.1]
    by_cases ht : t = nT
    · subst ht
      rw [if_pos (nI_le (Nat.le_refl _) (by omega)), if_pos (nI_le (Nat.le_refl _) (by omega))]
      exact ⟨ν, τ, nL, rfl, rfl, h, by omega, rfl⟩
    · rw [if_neg (nI_ge (by omega) (by omega)), if_neg (nI_ge (by omega) (by omega))]
      obtain ⟨ν1, τ1, nL1, r1, r2, r3, r4, r5, r6⟩ := sweep_Li (kk := fun s_115 => K9_sweep_L7 a0 (nI s) (bSet B fr) kk F s_115 (nI t + 1)) (km := fun s_174 => M_sweep_L2 (nI s) km F s_174 (nI t + 1)) (show t < nT by omega) hs gF 0 ν τ nL (by omega) (by unfold gF; omega) h hfr (by omega)
      obtain ⟨ν2, τ2, nL2, q1, q2, q3, q4, q5⟩ := ih (t + 1) ν1 τ1 nL1 (by omega) (by omega) r3 r4 (by omega)
      refine ⟨ν2, τ2, nL2, Eq.trans r1 ?_, Eq.trans r2 ?_, q3, by omega, q5.trans r6⟩
      · rw [nI_1]; exact q1
      · rw [nI_1]; exact q2
theorem sweep_eq {s : Nat} (hs : s < 4) (h : RepB a0 ν τ B tg nT nS nH nP nw nL) (hL : nL + 240 ≤ 960 * nw) : ∃ ν' τ' nL', K9_sweep ν a0 (nI s) = some ν' ∧ M_sweep τ (nI s) = some τ' ∧ RepB a0 ν' τ' B tg nT nS nH nP nw nL' ∧ nL' ≤ nL + 240 ∧ τ'.1 0 = τ.1 0 := by
  have h30 := h.nT30
  obtain ⟨ν', τ', nL', r1, r2, r3, r4, r5⟩ := sweep_Lo (kk := fun s_121 => some s_121) (km := fun s_180 => some s_180) (fr := frc τ nS) hs gF 0 ν τ nL (by omega) (by unfold gF; omega) h rfl (by omega)
  refine ⟨ν', τ', nL', ?_, r2, r3, by omega, r5⟩
  unfold K9_sweep
  rw [if_pos h.k9, K9_setInForce_eq h, ob_some]
  exact r1
end SWEEP
