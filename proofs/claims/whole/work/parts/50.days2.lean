section DAYS2
variable {a0 : Nat} {μ ν : Km} {σ τ ρ : Ms} {B : Nat → Nat → Nat → Nat} {tg : Nat → Nat × Nat × Nat} {nT nS nH nP nw nL : Nat} {A : Ar}
/-- a sweep in which nothing is due -/
theorem idle_Li {Rt : Type} {km : Ms → Option Rt} {t s : Nat} (h : mInv σ nT nS nH nP nw nL) (ht : t < nT) (hd : ∀ f, f < 8 → hasC σ.2 t f s → sDue (mSpan σ.2 t f (frc σ nS)) (hel σ.2 t f) (σ.2 13 t) (σ.1 1) = false) : ∀ (F f : Nat) (τ : Ms), f ≤ 8 → 8 < f + F → kmo τ σ → mInv τ nT nS nH nP nw nL → ∃ τ', M_sweep_L12 (nI s) (nI t) km F τ (nI f) = km τ' ∧ kmo τ' σ ∧ mInv τ' nT nS nH nP nw nL := by
  have h30 : nT ≤ 30 := h.1.2.1
  intro F
  induction F with
  | zero => intro f τ h1 h2; omega
  | succ F ih =>
    intro f τ h1 h2 hk hI
    unfold M_sweep_L12
    rw [show (8 : Int32) = nI 8 from rfl]
    by_cases hf : f = 8
    · rw [if_pos (by rw [hf]; exact nI_le (Nat.le_refl _) (by omega))]
      exact ⟨τ, rfl, hk, hI⟩
    · have hf8 : f < 8 := by omega
      have o3 := (okI_nI (show 8 * t + f < 2 ^ 31 by omega)).mpr (show 8 * t + f < 240 by omega)
      rw [if_neg (nI_ge hf8 (by omega)), pk_mul, nI_add, if_pos o3, nI_clamp (show 8 * t + f < 2 ^ 31 by omega), hk.2 12 (by decide) (by decide), hk.1 1 (by omega)]
      unfold M_sweep_B168
      rw [nI_1]
      by_cases c : (σ.2 12 (8 * t + f) >>> (nI s &&& 31)) &&& 1 = 0
      · rw [if_pos c]
        exact ih (f + 1) τ (by omega) (by omega) hk hI
      · obtain ⟨τ1, e1, hk1, hI1, -⟩ := M_isDue_kmo (x := σ.1 1) h hk hI ht hf8
        rw [if_neg c, e1, bi_some, hd f hf8 c, if_pos (by decide)]
        exact ih (f + 1) τ1 (by omega) (by omega) hk1 hI1
theorem idle_Lo {Rt : Type} {km : Ms → Option Rt} {s : Nat} (h : mInv σ nT nS nH nP nw nL) (hd : ∀ t f, t < nT → f < 8 → hasC σ.2 t f s → sDue (mSpan σ.2 t f (frc σ nS)) (hel σ.2 t f) (σ.2 13 t) (σ.1 1) = false) : ∀ (F t : Nat) (τ : Ms), t ≤ nT → nT < t + F → kmo τ σ → mInv τ nT nS nH nP nw nL → ∃ τ', M_sweep_L2 (nI s) km F τ (nI t) = km τ' ∧ kmo τ' σ ∧ mInv τ' nT nS nH nP nw nL := by
  have h30 : nT ≤ 30 := h.1.2.1
  intro F
  induction F with
  | zero => intro t τ h1 h2; omega
  | succ F ih =>
    intro t τ h1 h2 hk hI
    unfold M_sweep_L2
    rw [hI.1.1]
    by_cases ht : t = nT
    · rw [if_pos (by rw [ht]; exact nI_le (Nat.le_refl _) (by omega))]
      exact ⟨τ, rfl, hk, hI⟩
    · rw [if_neg (nI_ge (by omega) (by omega))]
      obtain ⟨τ1, r1, r2, r3⟩ := idle_Li (km := fun s_174 => M_sweep_L2 (nI s) km F s_174 (nI t + 1)) h (show t < nT by omega) (fun f hf => hd t f (by omega) hf) gF 0 τ (by omega) (by unfold gF; omega) hk hI
      obtain ⟨τ2, q1, q2, q3⟩ := ih (t + 1) τ1 (by omega) (by omega) r2 r3
      refine ⟨τ2, Eq.trans r1 ?_, q2, q3⟩
      rw [nI_1]; exact q1
theorem idle_sw {s : Nat} (h : mInv σ nT nS nH nP nw nL) (hd : ∀ t f, t < nT → f < 8 → hasC σ.2 t f s → sDue (mSpan σ.2 t f (frc σ nS)) (hel σ.2 t f) (σ.2 13 t) (σ.1 1) = false) (hk : kmo τ σ) (hI : mInv τ nT nS nH nP nw nL) : ∃ τ', M_sweep τ (nI s) = some τ' ∧ kmo τ' σ ∧ mInv τ' nT nS nH nP nw nL := by
  have h30 : nT ≤ 30 := h.1.2.1
  exact idle_Lo (km := fun s_180 => some s_180) h hd gF 0 τ (by omega) (by unfold gF; omega) hk hI
/-- a day on which nothing is due where it is swept -/
theorem idle_day {Rt : Type} {km : Ms → Option Rt} {a1 l2 : Int32} (h : mInv σ nT nS nH nP nw nL) (hd : ∀ s t f e b, s < 4 → t < nT → f < 8 → σ.2 14 s = nI e → σ.2 15 s = nI b → 1 ≤ e → e ≤ 400 → b < 400 → b ≤ nw → (nw - b) % e = 0 → hasC σ.2 t f s → sDue (mSpan σ.2 t f (frc σ nS)) (hel σ.2 t f) (σ.2 13 t) (σ.1 1) = false) : ∀ (F s : Nat) (τ : Ms), s ≤ 4 → 4 < s + F → kmo τ σ → mInv τ nT nS nH nP nw nL → ∃ τ', M_days_L52 a1 l2 km F τ (nI s) = km τ' ∧ kmo τ' σ ∧ mInv τ' nT nS nH nP nw nL := by
  have hw : nw ≤ 200000 := h.1.2.2.2.2.2.2.2.2.2.1
  intro F
  induction F with
  | zero => intro s τ h1 h2; omega
  | succ F ih =>
    intro s τ h1 h2 hk hI
    unfold M_days_L52
    rw [show (4 : Int32) = nI 4 from rfl]
    by_cases hs : s = 4
    · rw [if_pos (by rw [hs]; exact nI_le (Nat.le_refl _) (by omega))]
      exact ⟨τ, rfl, hk, hI⟩
    · have hs4 : s < 4 := by omega
      obtain ⟨e, he1, he2, ee⟩ := h.2.1 14 s hs4
      obtain ⟨b, hb, eb⟩ := h.2.1 15 s hs4
      have o1 := (okI_nI (show s < 2 ^ 31 by omega)).mpr hs4
      rw [if_neg (nI_ge hs4 (by omega)), if_pos o1, nI_clamp (show s < 2 ^ 31 by omega), hk.2 15 (by decide) (by decide), hk.2 14 (by decide) (by decide), hI.1.2.2.2.2.2.2.2.2.1, ee, eb]
      unfold M_days_B96
      rw [nI_1]
      by_cases c : nw < b
      · rw [if_pos (nI_lt c (by omega))]
        exact ih (s + 1) τ (by omega) (by omega) hk hI
      · have hm := Nat.mod_lt (nw - b) (show 0 < e by omega)
        rw [if_neg (nI_nlt (by omega) (by omega)), if_pos o1, if_pos o1, if_neg (nI_ne0 (by omega) (by omega)), pk_sub (by omega), pk_rem (by omega) (by omega) (by omega)]
        by_cases c2 : (nw - b) % e = 0
        · obtain ⟨τ1, e1, hk1, hI1⟩ := idle_sw (s := s) h (fun t f ht hf hc => hd s t f e b hs4 ht hf ee eb he1 he2 hb (by omega) c2 hc) hk hI
          rw [c2, if_pos (by decide), e1, ob_some]
          exact ih (s + 1) τ1 (by omega) (by omega) hk1 hI1
        · rw [if_neg (nI_ne0 (by omega) (by omega))]
          exact ih (s + 1) τ (by omega) (by omega) hk hI
/-- a busy day: both sides go through the stores together -/
theorem busy_day {Rt Rt' : Type} {kk : Km → Option Rt} {km : Ms → Option Rt'} {a1 l2 l3 b1 b2 : Int32} : ∀ (F s : Nat) (ν : Km) (τ : Ms) (nL : Nat), s ≤ 4 → 4 < s + F → RepB a0 ν τ B tg nT nS nH nP nw nL → nL + 240 * (4 - s) ≤ 960 * nw → ∃ ν' τ' nL', K9_days_L67 a0 a1 l2 l3 kk F ν (nI s) = kk ν' ∧ M_days_L52 b1 b2 km F τ (nI s) = km τ' ∧ RepB a0 ν' τ' B tg nT nS nH nP nw nL' ∧ τ'.1 0 = τ.1 0 := by
  intro F
  induction F with
  | zero => intro s ν τ nL h1 h2; omega
  | succ F ih =>
    intro s ν τ nL h1 h2 h hL
    have hw : nw ≤ 200000 := h.1.1.2.2.2.2.2.2.2.2.2.1
    unfold K9_days_L67 M_days_L52
    rw [show (4 : Int32) = nI 4 from rfl]
    by_cases hs : s = 4
    · rw [if_pos (by rw [hs]; exact nI_le (Nat.le_refl _) (by omega)), if_pos (by rw [hs]; exact nI_le (Nat.le_refl _) (by omega))]
      exact ⟨ν, τ, nL, rfl, rfl, h, rfl⟩
    · have hs4 : s < 4 := by omega
      obtain ⟨x1, x2, x3, x4, x5, e, b, ⟨he1, he2, hb⟩, ⟨ee, eb⟩, ke, kb⟩ := h.sw hs4
      have o1 := (okI_nI (show s < 2 ^ 31 by omega)).mpr hs4
      have hff := fF_up (e := e) (b := b) (d := nw) hb
      rw [if_neg (nI_ge hs4 (by omega)), if_pos h.k9, x1, ob_some, if_pos x2, x3, if_pos o1, nI_clamp (show s < 2 ^ 31 by omega), x4, ob_some, if_pos x5, h.i12, K7_firstFrom_eq x5 ke kb he1 he2 hb (by omega), ob_some]
      rw [if_neg (nI_ge hs4 (by omega)), if_pos o1, h.1.1.2.2.2.2.2.2.2.2.1, ee, eb]
      unfold K9_days_B100 M_days_B96
      rw [nI_1]
      have go : ∀ (ν2 : Km) (τ2 : Ms) (nL2 : Nat), RepB a0 ν2 τ2 B tg nT nS nH nP nw nL2 → nL2 ≤ nL + 240 → τ2.1 0 = τ.1 0 → ∃ ν' τ' nL', K9_days_L67 a0 a1 l2 l3 kk F ν2 (nI (s + 1)) = kk ν' ∧ M_days_L52 b1 b2 km F τ2 (nI (s + 1)) = km τ' ∧ RepB a0 ν' τ' B tg nT nS nH nP nw nL' ∧ τ'.1 0 = τ.1 0 := by
        intro ν2 τ2 nL2 q1 q2 q3
        obtain ⟨ν', τ', nL', r1, r2, r3, r4⟩ := ih (s + 1) ν2 τ2 nL2 (by omega) (by omega) q1 (by omega)
        exact ⟨ν', τ', nL', r1, r2, r3, r4.trans q3⟩
      by_cases c : nw < b
      · rw [if_neg (fun z => by have z2 := (nI_eq (by omega) (by omega)).mp z; have := (fF_eq he1 hw).mp z2; omega), if_pos (nI_lt c (by omega))]
        exact go ν τ nL h (by omega) rfl
      · have hm := Nat.mod_lt (nw - b) (show 0 < e by omega)
        rw [if_neg (nI_nlt (by omega) (by omega)), if_pos o1, if_pos o1, if_neg (nI_ne0 (by omega) (by omega)), pk_sub (by omega), pk_rem (by omega) (by omega) (by omega)]
        by_cases c2 : (nw - b) % e = 0
        · obtain ⟨ν1, τ1, nL1, q1, q2, q3, q4, q5⟩ := sweep_eq hs4 h (by omega)
          rw [(fF_eq he1 hw).mpr ⟨by omega, c2⟩, if_pos rfl, q1, ob_some, c2, if_pos (by decide), q2, ob_some]
          exact go ν1 τ1 nL1 q3 q4 q5
        · rw [if_neg (fun z => by have z2 := (nI_eq (by omega) (by omega)).mp z; have := (fF_eq he1 hw).mp z2; exact c2 this.2), if_neg (nI_ne0 (by omega) (by omega))]
          exact go ν τ nL h (by omega) rfl
theorem mFrc_cg {sd : Nat → Int32} {n1 n2 : Int32} : ∀ N : Nat, (∀ s, s < N → (n1 < sd s ↔ n2 < sd s)) → mFrc sd n1 N = mFrc sd n2 N
  | 0, _ => rfl
  | N + 1, h => by
    rw [mFrc_succ, mFrc_succ, mFrc_cg N (fun s hs => h s (by omega))]
    have := h N (by omega)
    by_cases c : n1 < sd N
    · rw [if_pos c, if_pos (this.mp c)]
    · rw [if_neg c, if_neg (fun z => c (this.mpr z))]
theorem kmo_set1 {x y : Int32} (h : kmo τ (mSet σ 1 x)) : kmo (mSet τ 1 y) (mSet σ 1 y) := by
  refine ⟨fun k hk => ?_, fun k q1 q2 => h.2 k q1 q2⟩
  have h1 := h.1 k hk
  rw [mSet_at] at h1
  rw [mSet_at, mSet_at]
  by_cases e : k = 1
  · rw [if_pos e, if_pos e]
  · rw [if_neg e, if_neg e]
    rw [if_neg e] at h1
    exact h1
theorem idle_run {Rt : Type} {km : Ms → Option Rt} {n k x : Nat} (h : mInv σ nT nS nH nP nw nL) (hx : x ≤ 200000) (hn : n ≤ 1000) (hS : ∀ s, s < nS → nw < (σ.2 24 s).toNatClampNeg → x ≤ (σ.2 24 s).toNatClampNeg) (hP : ∀ t f s, t < nT → f < 8 → s < 4 → hasC σ.2 t f s → x ≤ pDay σ.2 t f s (frc σ nS) nw) : ∀ d : Nat, nw + d < x → k + d < n → ∃ τ, (∀ F, M_days_L35 (nI n) km (F + d) σ (nI k) = M_days_L35 (nI n) km F τ (nI (k + d))) ∧ kmo τ (mSet σ 1 (nI (nw + d))) ∧ mInv τ nT nS nH nP (nw + d) nL := by
  have h1 : σ.1 1 = nI nw := h.1.2.2.2.2.2.2.2.2.1
  have hL : nL ≤ 960 * nw := h.1.2.2.2.2.2.2.2.2.2.2.2
  intro d
  induction d with
  | zero =>
    intro _ _
    refine ⟨σ, fun F => rfl, ?_, h⟩
    rw [Nat.add_zero, ← h1, mSet_self]
    exact kmo_rf σ
  | succ d ih =>
    intro q1 q2
    obtain ⟨τ, e, hk, hI⟩ := ih (by omega) (by omega)
    have eN : τ.1 1 = nI (nw + d) := hI.1.2.2.2.2.2.2.2.2.1
    have hk' : kmo (mSet τ 1 (nI (nw + (d + 1)))) (mSet σ 1 (nI (nw + (d + 1)))) := kmo_set1 hk
    have hI' : mInv (mSet τ 1 (nI (nw + (d + 1)))) nT nS nH nP (nw + (d + 1)) nL := mInv_set1 hI (by omega) (by omega)
    have hσ' : mInv (mSet σ 1 (nI (nw + (d + 1)))) nT nS nH nP (nw + (d + 1)) nL := mInv_set1 h (by omega) (by omega)
    have efr : frc (mSet σ 1 (nI (nw + (d + 1)))) nS = frc σ nS := by
      unfold frc
      rw [mSet_at, if_pos rfl, mSet_2, h1]
      refine mFrc_cg nS (fun s hs => ?_)
      have e24 := ibt_c (h.2.1 24 s hs) (by decide)
      rw [e24.1, nI_ltI (by omega) (by omega), nI_ltI (by omega) (by omega)]
      constructor
      · intro z; omega
      · intro z
        have := hS s hs z
        omega
    have hid : ∀ (Rt' : Type) (km' : Ms → Option Rt'), ∃ τ', M_days_L52 (nI n) (nI (k + d)) km' gF (mSet τ 1 (nI (nw + (d + 1)))) (nI 0) = km' τ' ∧ kmo τ' (mSet σ 1 (nI (nw + (d + 1)))) ∧ mInv τ' nT nS nH nP (nw + (d + 1)) nL := fun Rt' km' => idle_day hσ' (fun s t f e' b hs ht hf ee eb he1 he2 hb hb2 hm hc => by
      rw [efr]
      exact idle_due (nw := nw) h.2.1 hs (by omega) (by omega) ee eb he1 he2 hb hb2 hm (by have := hP t f s ht hf hs hc; omega)) gF 0 _ (by omega) (by unfold gF; omega) hk' hI'
    -- the state behind the stores doesn't hang on what comes behind
    obtain ⟨τ0, w0, w1, w2⟩ := hid Ms (fun s => some s)
    have same : ∀ (Rt' : Type) (km' : Ms → Option Rt'), M_days_L52 (nI n) (nI (k + d)) km' gF (mSet τ 1 (nI (nw + (d + 1)))) (nI 0) = km' τ0 := fun Rt' km' => by
      have gen : ∀ (F : Nat) (ρ : Ms) (l : Int32), M_days_L52 (nI n) (nI (k + d)) (fun s => some s) F ρ l = some τ0 → M_days_L52 (nI n) (nI (k + d)) km' F ρ l = km' τ0 := by
        intro F
        induction F with
        | zero => intro ρ l z; exact absurd z (by unfold M_days_L52; simp)
        | succ F ih2 =>
          intro ρ l
          unfold M_days_L52 M_days_B96
          split
          · intro z; cases z; rfl
          · split
            · split
              · exact ih2 _ _
              · split
                · intro z; cases z
                · split
                  · cases M_sweep ρ l with
                    | none => intro z; cases z
                    | some s9 => exact ih2 _ _
                  · exact ih2 _ _
            · intro z; cases z
      exact gen _ _ _ w0
    refine ⟨τ0, fun F => ?_, w1, w2⟩
    rw [show F + (d + 1) = F + 1 + d by omega, e (F + 1)]
    conv => lhs; unfold M_days_L35
    rw [if_neg (nI_ge (by omega) (by omega)), bnd_eq, eN, nI_1 (nw + d), show (0 : Int32) = nI 0 from rfl, show nw + d + 1 = nw + (d + 1) by omega, same, nI_1 (k + d), show k + d + 1 = k + (d + 1) by omega]
theorem days_loop {Rt Rt' : Type} {kk : Km → Option Rt} {km : Ms → Option Rt'} {n last : Nat} (hn : n ≤ 1000) (hl : last ≤ 200000) : ∀ (F G k st nw nL : Nat) (ν : Km) (τ : Ms), last - nw < F → last - nw < G → nw ≤ last → k + (last - nw) = n → st + (last - nw) ≤ n → RepB a0 ν τ B tg nT nS nH nP nw nL → ∃ ν' τ' nL', K9_days_L42 a0 (nI n) (nI last) kk F ν (nI st) = kk ν' ∧ M_days_L35 (nI n) km G τ (nI k) = km τ' ∧ RepB a0 ν' τ' B tg nT nS nH nP last nL' ∧ τ'.1 0 = τ.1 0 := by
  intro F
  induction F with
  | zero => intro G k st nw nL ν τ h1; omega
  | succ F ih =>
    intro G k st nw nL ν τ h1 h2 h3 h4 h5 h
    by_cases c : nw = last
    · subst c
      refine ⟨ν, τ, nL, ?_, ?_, h, rfl⟩
      · unfold K9_days_L42
        by_cases c2 : n ≤ st
        · rw [if_pos (nI_le c2 (by omega))]
        · rw [if_neg (nI_ge (by omega) (by omega)), if_pos h.k9, h.i12, if_pos (nI_le (Nat.le_refl _) (by omega))]
      · obtain ⟨G', rfl⟩ : ∃ G', G = G' + 1 := ⟨G - 1, by omega⟩
        conv => lhs; unfold M_days_L35
        rw [if_pos (nI_le (by omega) (by omega))]
    · have hL : nL ≤ 960 * nw := h.1.1.2.2.2.2.2.2.2.2.2.2.2
      obtain ⟨ν1, x, e1, hk, hx1, hx2, hx3, hx4⟩ := nb_eq h (show nw < last by omega) hl
      have hν1 := RepB_kscr h hk
      obtain ⟨τ1, e2, km1, hI1⟩ := idle_run (km := km) (n := n) (k := k) (x := x) h.1 (by omega) hn hx3 hx4 (x - nw - 1) (by omega) (by omega)
      have eN : τ1.1 1 = nI (nw + (x - nw - 1)) := hI1.1.2.2.2.2.2.2.2.2.1
      have hR2 := RepB_put (σ' := mSet τ 1 (nI x)) (c0 := 22) (i0 := 0) (j0 := 0) (e0 := 12) (x := nI x) hν1 (mInv_set1 (n := x) h.1 (by omega) (by omega)) (fun _ _ _ => rfl) rfl ⟨by omega, rfl, rfl⟩ hv_1
      rw [h.2.1.1] at hR2
      have hR3 := RepB_kmo hR2 (kmo_set1 km1) (mInv_set1 (n := x) hI1 (by omega) (by omega))
      have c0 : (mSet τ1 1 (nI x)).1 0 = τ.1 0 := km1.1 0 (by omega)
      obtain ⟨G', rfl⟩ : ∃ G', G = G' + 1 + (x - nw - 1) := ⟨G - 1 - (x - nw - 1), by omega⟩
      obtain ⟨ν4, τ4, nL4, r1, r2, r3, r4⟩ := busy_day (kk := fun s_106 => K9_days_L42 a0 (nI n) (nI last) kk F s_106 (nI st + 1)) (km := fun s_102 => M_days_L35 (nI n) km G' s_102 (nI (k + (x - nw - 1)) + 1)) (a1 := nI n) (l2 := nI last) (l3 := nI st) (b1 := nI n) (b2 := nI (k + (x - nw - 1))) gF 0 _ _ nL (by omega) (by unfold gF; omega) hR3 (by omega)
      obtain ⟨ν5, τ5, nL5, q1, q2, q3, q4⟩ := ih G' (k + (x - nw - 1) + 1) (st + 1) x nL4 ν4 τ4 (by omega) (by omega) (by omega) (by omega) (by omega) r3
      refine ⟨ν5, τ5, nL5, ?_, ?_, q3, q4.trans (r4.trans c0)⟩
      · unfold K9_days_L42
        rw [if_neg (nI_ge (by omega) (by omega)), if_pos h.k9, h.i12, if_neg (nI_ge (by omega) (by omega)), e1, bi_some, if_pos hν1.k9, bnd_eq]
        refine Eq.trans r1 ?_
        rw [nI_1]; exact q1
      · rw [e2 (G' + 1)]
        conv => lhs; unfold M_days_L35
        rw [if_neg (nI_ge (by omega) (by omega)), bnd_eq, eN, nI_1 (nw + (x - nw - 1)), show nw + (x - nw - 1) + 1 = x by omega]
        refine Eq.trans r2 ?_
        rw [nI_1]; exact q2
theorem op_days_ok : op_days (Rep a0) a0 := by
  rintro μ σ a1 ⟨B, tg, nT, nS, nH, nP, nw, nL, h⟩
  have hw : nw ≤ 200000 := h.1.1.2.2.2.2.2.2.2.2.2.1
  have h1 : (mSet σ 0 0).1 1 = nI nw := h.1.1.2.2.2.2.2.2.2.2.1
  have no : opI (Rep a0) (fun _ => 1) (fun b => !b) (some (.inr (false, μ))) (some (0, mSet (mSet σ 0 0) 0 1)) := opI_no rfl rfl rfl (mSet_0v _ _) (Rep_code (Rep_code h.rep _) _)
  unfold K9_days M_days K9_days_B22 M_days_B27
  rw [bnd_eq, bnd_eq, M_fail_eq, bi_some]
  by_cases c1 : a1 < 0
  · rw [if_pos c1, if_pos c1]; exact no
  rw [if_neg c1, if_neg c1]
  by_cases c2 : 1000 < a1
  · rw [if_pos c2, if_pos c2]; exact no
  rw [if_neg c2, if_neg c2]
  obtain ⟨n, -, hn, rfl⟩ := i_rng (lo := 0) (hi := 1000) c1 (i_nlt c2) (by omega) (by omega)
  rw [if_pos h.k9, h.i12, h1, nI_add, show (200000 : Int32) = nI 200000 from rfl]
  by_cases c3 : nw + n ≤ 200000
  · rw [if_pos (nI_le c3 (by omega)), if_pos (nI_le c3 (by omega)), show (0 : Int32) = nI 0 from rfl]
    obtain ⟨ν, τ, nL', r1, r2, r3, r4⟩ := days_loop (Rt := (Int32 × Km) ⊕ (Bool × Km)) (kk := fun s_112 => K9_days_B112 s_112 a0) (km := fun s_108 => some (s_108.1 1, s_108)) (n := n) (last := nw + n) hn c3 gF gF 0 0 nw nL μ (mSet σ 0 0) (by unfold gF; omega) (by unfold gF; omega) (by omega) (by omega) (by omega) (RepB_code h 0)
    have e1 : τ.1 1 = nI (nw + n) := r3.1.1.2.2.2.2.2.2.2.2.1
    refine opI_ok (r := nI (nw + n)) (μ' := ν) (σ' := τ) ?_ ?_ (r4.trans (mSet_0v σ 0)) r3.rep
    · refine Eq.trans r1 ?_
      unfold K9_days_B112
      rw [if_pos r3.k9, r3.i12]
    · refine Eq.trans r2 ?_
      rw [e1]
  · rw [if_neg (nI_ge (by omega) (by omega)), if_neg (nI_ge (by omega) (by omega))]
    exact no
end DAYS2
