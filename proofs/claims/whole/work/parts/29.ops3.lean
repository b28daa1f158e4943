section OPS3
variable {a0 : Nat} {μ : Km} {σ : Ms} {B : Nat → Nat → Nat → Nat} {tg : Nat → Nat × Nat × Nat} {nT nS nH nP nw nL : Nat}
/-- a fact or an event of a thing written, its spans forgotten -/
theorem mInv_fe (hI : mInv σ nT nS nH nP nw nL) {k0 t a : Nat} {x : Int32} (hk : k0 = 10 ∨ k0 = 11) (ht : t < nT) (ha : a < 4) (hx : (k0 = 10 ∧ ibt x 10000) ∨ (k0 = 11 ∧ (x = -1 ∨ ibt x 200001))) : mInv (mSto (mSto σ 55 t 0) k0 (4 * t + a) x) nT nS nH nP nw nL := by
  have h55 : ∀ k j, mRg (mSto σ 55 t 0).2 nT nS nH k j := mRg_put hI.2.1 (by decide) (by decide) (by decide) trivial
  refine ⟨hI.1, mRg_put h55 (by omega) (by omega) (by omega) ?_, mKep_thing hI (t0 := t) rfl (fun u => ?_) ?_ ?_ ?_ ?_ ?_ (fun u b hu hb => ?_) (fun u b hu hb => ?_)⟩
  · rcases hx with ⟨rfl, h1⟩ | ⟨rfl, h1⟩
    · exact fun _ => ⟨by rw [mSto_at, if_pos ⟨rfl, rfl⟩]; exact h1, fun q => by omega⟩
    · exact fun _ => ⟨by rw [mSto_at, if_pos ⟨rfl, rfl⟩]; exact h1, fun q => by omega⟩
  · rw [mSto_at, if_neg (by omega), mSto_at]
    by_cases e : u = t
    · rw [if_pos ⟨rfl, e⟩, if_pos e]
    · rw [if_neg (fun q => e q.2), if_neg e]
  · rw [mSto_ne _ _ _ _ (by omega), mSto_ne _ _ _ _ (by omega)]
  · rw [mSto_ne _ _ _ _ (by omega), mSto_ne _ _ _ _ (by omega)]
  · rw [mSto_ne _ _ _ _ (by omega), mSto_ne _ _ _ _ (by omega)]
  · exact sameR_tr (sameR_put (by omega)) (sameR_put (by omega))
  · rw [mSto_ne _ _ _ _ (by omega), mSto_ne _ _ _ _ (by omega)]
  · rw [mSto_at, if_neg (by omega), mSto_at, if_neg (by omega)]
  · rw [mSto_at, if_neg (by omega), mSto_at, if_neg (by omega)]
theorem op_fact_ok : op_fact (Rep a0) a0 := by
  rintro μ σ a1 a2 a3 ⟨B, tg, nT, nS, nH, nP, nw, nL, h⟩
  have h30 := h.nT30
  rcases i_below a1 (n := nT) (by omega) with hx | ⟨t, ht, rfl⟩
  · refine opI_no (b := true) (r := 0) (μ' := μ) (σ' := mSet (mSet σ 0 0) 0 1) ?_ ?_ rfl (mSet_0v _ _) (Rep_code (Rep_code h.rep _) _)
    · unfold K9_fact; rw [if_pos h.k9, K9_thingAt_no h hx]; rfl
    · unfold M_fact; rw [bnd_eq, M_isThing_no (σ := mSet σ 0 0) (h.1.1.1) hx, ob_some, if_pos rfl]; rfl
  obtain ⟨t1, t2, t3, t4, t5, t6, t7, t8, t9⟩ := h.th ht
  rcases i_below a2 (n := 4) (by omega) with hx | ⟨a, ha, rfl⟩
  · refine opI_no (b := true) (r := 0) (μ' := μ) (σ' := mSet (mSet σ 0 0) 0 1) ?_ ?_ rfl (mSet_0v _ _) (Rep_code (Rep_code h.rep _) _)
    · unfold K9_fact; rw [if_pos h.k9, K9_thingAt_ok h ht, bxq_ok, ob_some]
      by_cases c1 : a2 < 0
      · rw [if_pos c1]; rfl
      · rw [if_neg c1, show (4 : Int32) = nI 4 from rfl, if_neg (by rcases hx with q | q; exact absurd q c1; exact i_le_n q)]; rfl
    · unfold M_fact; rw [bnd_eq, M_isThing_ok (σ := mSet σ 0 0) (h.1.1.1) h30 ht, ob_some, if_neg (by decide)]
      by_cases c1 : a2 < 0
      · rw [if_pos c1]; rfl
      · rw [if_neg c1, if_neg (by rcases hx with q | q; exact absurd q c1; intro q2; rw [Int32.le_iff_toInt_le] at q q2; exact absurd (Int.le_trans q q2) (by decide))]; rfl
  have kst : K9_fact μ a0 (nI t) (nI a) a3 = (if a3 < 0 then some (.inr (false, μ)) else if a3 ≤ (9999 : Int32) then some (.inl (σ.2 10 (4 * t + a), kSetI μ (B 11 t 0) a a3)) else some (.inr (false, μ))) := by
    unfold K9_fact K9_fact_B37
    rw [if_pos h.k9, K9_thingAt_ok h ht, bxq_ok, ob_some, if_neg (nI_pos (by omega)), show (4 : Int32) = nI 4 from rfl, if_pos (nI_lt ha (by omega))]
    simp only [t2, t3, ob_some, t6.1, t6.2, if_true, (okI_nI (show a < 2 ^ 31 by omega)).mpr ha, nI_clamp (show a < 2 ^ 31 by omega), bnd_eq, show kI μ (B 11 t 0) a = σ.2 10 (4 * t + a) from h.2.2 11 t 0 a ⟨ht, rfl, ha⟩]
  have mst : M_fact σ (nI t) (nI a) a3 = (if a3 < 0 then M_fact_B39 (mSet σ 0 0) else if a3 ≤ (9999 : Int32) then some (σ.2 10 (4 * t + a), mSto (mSto (mSet σ 0 0) 55 t 0) 10 (4 * t + a) a3) else M_fact_B39 (mSet σ 0 0)) := by
    unfold M_fact
    rw [bnd_eq, M_isThing_ok (σ := mSet σ 0 0) (h.1.1.1) h30 ht, ob_some, if_neg (by decide), if_neg (nI_pos (by omega)), show (3 : Int32) = nI 3 from rfl, if_pos (nI_le (by omega) (by omega)), show (4 : Int32) = nI 4 from rfl, pk_mul, nI_add]
    simp only [(okI_nI (show 4 * t + a < 2 ^ 31 by omega)).mpr (show 4 * t + a < 120 by omega), (okI_nI (show t < 2 ^ 31 by omega)).mpr (show t < 30 by omega), if_true, nI_clamp (show t < 2 ^ 31 by omega), nI_clamp (show 4 * t + a < 2 ^ 31 by omega), bnd_eq, mSet_2]
  rw [kst, mst]
  by_cases c1 : a3 < 0
  · rw [if_pos c1, if_pos c1]; exact opI_no rfl rfl rfl (mSet_0v _ _) (Rep_code (Rep_code h.rep _) _)
  rw [if_neg c1, if_neg c1]
  by_cases c2 : a3 ≤ 9999
  · rw [if_pos c2, if_pos c2]
    obtain ⟨v, -, hv, rfl⟩ := i_rng (lo := 0) (hi := 9999) c1 c2 (by omega) (by omega)
    have h0 := RepB_code h 0
    have h1 : RepB a0 μ (mSto (mSet σ 0 0) 55 t 0) B tg nT nS nH nP nw nL := by
      refine RepB_id h0 ⟨h0.1.1, mRg_put h0.1.2.1 (by decide) (by decide) (by decide) trivial, mKep_thing h0.1 (t0 := t) rfl (fun u => ?_) (mSto_ne _ _ _ _ (by decide)) (mSto_ne _ _ _ _ (by decide)) (mSto_ne _ _ _ _ (by decide)) (sameR_put (by omega)) (mSto_ne _ _ _ _ (by decide)) (fun u b hu hb => by rw [mSto_ne _ _ _ _ (by decide)]) (fun u b hu hb => by rw [mSto_ne _ _ _ _ (by decide)])⟩ (sameR_put (by omega)) (mSto_ne _ _ _ _ (by decide)) hw_55
      rw [mSto_at]
      by_cases e : u = t
      · rw [if_pos ⟨rfl, e⟩, if_pos e]
      · rw [if_neg (fun q => e q.2), if_neg e]
    have h2 := RepB_put (c0 := 11) (i0 := t) (j0 := 0) (e0 := a) (x := nI v) h1 (mInv_fe h0.1 (k0 := 10) (a := a) (x := nI v) (by omega) ht ha (Or.inl ⟨rfl, v, by omega, rfl⟩)) (sameR_put (by omega)) (mSto_ne _ _ _ _ (by decide)) ⟨ht, rfl⟩ (hw_10 ha)
    exact opI_ok rfl rfl (mSet_0v σ 0) h2.rep
  · rw [if_neg c2, if_neg c2]; exact opI_no rfl rfl rfl (mSet_0v _ _) (Rep_code (Rep_code h.rep _) _)
theorem op_event_ok : op_event (Rep a0) a0 := by
  rintro μ σ a1 a2 a3 ⟨B, tg, nT, nS, nH, nP, nw, nL, h⟩
  have h30 := h.nT30
  rcases i_below a1 (n := nT) (by omega) with hx | ⟨t, ht, rfl⟩
  · refine opI_no (b := true) (r := 0) (μ' := μ) (σ' := mSet (mSet σ 0 0) 0 1) ?_ ?_ rfl (mSet_0v _ _) (Rep_code (Rep_code h.rep _) _)
    · unfold K9_event; rw [if_pos h.k9, K9_thingAt_no h hx]; rfl
    · unfold M_event; rw [bnd_eq, M_isThing_no (σ := mSet σ 0 0) (h.1.1.1) hx, ob_some, if_pos rfl]; rfl
  obtain ⟨t1, t2, t3, t4, t5, t6, t7, t8, t9⟩ := h.th ht
  rcases i_below a2 (n := 4) (by omega) with hx | ⟨a, ha, rfl⟩
  · refine opI_no (b := true) (r := 0) (μ' := μ) (σ' := mSet (mSet σ 0 0) 0 1) ?_ ?_ rfl (mSet_0v _ _) (Rep_code (Rep_code h.rep _) _)
    · unfold K9_event; rw [if_pos h.k9, K9_thingAt_ok h ht, bxq_ok, ob_some]
      by_cases c1 : a2 < 0
      · rw [if_pos c1]; rfl
      · rw [if_neg c1, show (4 : Int32) = nI 4 from rfl, if_neg (by rcases hx with q | q; exact absurd q c1; exact i_le_n q)]; rfl
    · unfold M_event; rw [bnd_eq, M_isThing_ok (σ := mSet σ 0 0) (h.1.1.1) h30 ht, ob_some, if_neg (by decide)]
      by_cases c1 : a2 < 0
      · rw [if_pos c1]; rfl
      · rw [if_neg c1, if_neg (by rcases hx with q | q; exact absurd q c1; intro q2; rw [Int32.le_iff_toInt_le] at q q2; exact absurd (Int.le_trans q q2) (by decide))]; rfl
  have kB : ∀ x, K9_event_B35 μ (nI a) x (B 10 t 0) = some (.inl (σ.2 11 (4 * t + a), kSetI μ (B 12 t 0) a x)) := by
    intro x
    unfold K9_event_B35
    simp only [t2, t4, ob_some, t7.1, t7.2, if_true, (okI_nI (show a < 2 ^ 31 by omega)).mpr ha, nI_clamp (show a < 2 ^ 31 by omega), bnd_eq, show kI μ (B 12 t 0) a = σ.2 11 (4 * t + a) from h.2.2 12 t 0 a ⟨ht, rfl, ha⟩]
  have kst : K9_event μ a0 (nI t) (nI a) a3 = (if a3 = (-1 : Int32) then some (.inl (σ.2 11 (4 * t + a), kSetI μ (B 12 t 0) a a3)) else bxv (K9_checkDay μ a3) (fun s_32 => K9_event_B35 s_32 (nI a) a3 (B 10 t 0))) := by
    unfold K9_event
    rw [if_pos h.k9, K9_thingAt_ok h ht, bxq_ok, ob_some, if_neg (nI_pos (by omega)), show (4 : Int32) = nI 4 from rfl, if_pos (nI_lt ha (by omega)), kB]
  have mB : ∀ x, M_event_B46 (mSet σ 0 0) (nI t) (nI a) x = some (σ.2 11 (4 * t + a), mSto (mSto (mSet σ 0 0) 55 t 0) 11 (4 * t + a) x) := by
    intro x
    unfold M_event_B46
    rw [show (4 : Int32) = nI 4 from rfl, pk_mul, nI_add]
    simp only [(okI_nI (show 4 * t + a < 2 ^ 31 by omega)).mpr (show 4 * t + a < 120 by omega), (okI_nI (show t < 2 ^ 31 by omega)).mpr (show t < 30 by omega), if_true, nI_clamp (show t < 2 ^ 31 by omega), nI_clamp (show 4 * t + a < 2 ^ 31 by omega), bnd_eq, mSet_2]
  have mst : M_event σ (nI t) (nI a) a3 = (if a3 = (-1 : Int32) then some (σ.2 11 (4 * t + a), mSto (mSto (mSet σ 0 0) 55 t 0) 11 (4 * t + a) a3) else (M_isDay (mSet σ 0 0) a3).bind (fun r_34 => if r_34 = 0 then bi (M_fail (mSet σ 0 0) (2 : Int32)) (fun r_42 s_42 => some (r_42, s_42)) else M_event_B46 (mSet σ 0 0) (nI t) (nI a) a3)) := by
    unfold M_event
    rw [bnd_eq, M_isThing_ok (σ := mSet σ 0 0) (h.1.1.1) h30 ht, ob_some, if_neg (by decide), if_neg (nI_pos (by omega)), show (3 : Int32) = nI 3 from rfl, if_pos (nI_le (by omega) (by omega)), mB]
  have h0 := RepB_code h 0
  have h1 : RepB a0 μ (mSto (mSet σ 0 0) 55 t 0) B tg nT nS nH nP nw nL := by
    refine RepB_id h0 ⟨h0.1.1, mRg_put h0.1.2.1 (by decide) (by decide) (by decide) trivial, mKep_thing h0.1 (t0 := t) rfl (fun u => ?_) (mSto_ne _ _ _ _ (by decide)) (mSto_ne _ _ _ _ (by decide)) (mSto_ne _ _ _ _ (by decide)) (sameR_put (by omega)) (mSto_ne _ _ _ _ (by decide)) (fun u b hu hb => by rw [mSto_ne _ _ _ _ (by decide)]) (fun u b hu hb => by rw [mSto_ne _ _ _ _ (by decide)])⟩ (sameR_put (by omega)) (mSto_ne _ _ _ _ (by decide)) hw_55
    rw [mSto_at]
    by_cases e : u = t
    · rw [if_pos ⟨rfl, e⟩, if_pos e]
    · rw [if_neg (fun q => e q.2), if_neg e]
  have ok : ∀ x, (x = -1 ∨ ibt x 200001) → RepB a0 (kSetI μ (B 12 t 0) a x) (mSto (mSto (mSet σ 0 0) 55 t 0) 11 (4 * t + a) x) B tg nT nS nH nP nw nL := fun x hx => RepB_put (c0 := 12) (i0 := t) (j0 := 0) (e0 := a) (x := x) h1 (mInv_fe h0.1 (k0 := 11) (a := a) (x := x) (by omega) ht ha (Or.inr ⟨rfl, hx⟩)) (sameR_put (by omega)) (mSto_ne _ _ _ _ (by decide)) ⟨ht, rfl⟩ (hw_11 ha)
  rw [kst, mst]
  by_cases c0 : a3 = -1
  · rw [if_pos c0, if_pos c0]
    exact opI_ok rfl rfl (mSet_0v σ 0) (ok a3 (Or.inl c0)).rep
  rw [if_neg c0, if_neg c0]
  rcases i_day a3 with hd | ⟨d, hd, rfl⟩
  · rw [K9_checkDay_no hd, bxv_no, M_isDay_no hd, ob_some, if_pos rfl]
    exact opI_no rfl rfl rfl (mSet_0v _ _) (Rep_code (Rep_code h.rep _) _)
  · rw [K9_checkDay_ok hd, bxv_ok, kB, M_isDay_ok hd, ob_some, if_neg (by decide), mB]
    exact opI_ok rfl rfl (mSet_0v σ 0) (ok _ (Or.inr ⟨d, by omega, rfl⟩)).rep
theorem vwt_log {v b : Nat} (hb : b < 5) : vwt σ 6 0 0 (v * 5 + b) = σ.2 (19 + b) v := by
  unfold vwt
  rw [show (v * 5 + b) % 5 = b by omega, show (v * 5 + b) / 5 = v by omega]
  rcases (show b = 0 ∨ b = 1 ∨ b = 2 ∨ b = 3 ∨ b = 4 by omega) with rfl | rfl | rfl | rfl | rfl <;> rfl
theorem op_entry_ok : op_entry (Rep a0) a0 := by
  rintro μ σ a1 a2 ⟨B, tg, nT, nS, nH, nP, nw, nL, h⟩
  have hL : nL ≤ 960 * nw := h.1.1.2.2.2.2.2.2.2.2.2.2.2
  have hw : nw ≤ 200000 := h.1.1.2.2.2.2.2.2.2.2.2.1
  have h5 : σ.1 5 = nI nL := h.1.1.2.2.2.2.2.2.2.2.2.2.1
  have e10 : kR μ a0 10 = some (B 5 0 0) := h.r (by omega)
  have k5 : kK μ (B 5 0 0) = 2 := (h.one (c := 5) (by omega)).1
  have k6 : kK μ (B 6 0 0) = 12 := (h.one (c := 6) (by omega)).1
  have n6 : kN μ (B 6 0 0) = 2000 := (h.one (c := 6) (by omega)).2
  have r5 : kR μ (B 5 0 0) 0 = some (B 6 0 0) := h.2.1.2.2.2 5 0 0 0 ⟨rfl, rfl, rfl⟩
  have i5 : kI μ (B 5 0 0) 1 = nI nL := (h.2.2 5 0 0 1 ⟨rfl, rfl, by omega⟩).trans h5
  have no : ∀ {k : Option ((Int32 × Km) ⊕ (Bool × Km))} {mr : Option (Int32 × Ms)}, k = some (.inr (true, μ)) → mr = some (0, mSet (mSet σ 0 0) 0 1) → opI (Rep a0) (fun _ => 1) (fun b => b) k mr := fun e1 e2 => opI_no e1 e2 rfl (mSet_0v _ _) (Rep_code (Rep_code h.rep _) _)
  have hmin : (if (400 : Int32) < (mSet σ 0 0).1 5 then (400 : Int32) else (mSet σ 0 0).1 5) = nI (min nL 400) := by
    show (if (400 : Int32) < σ.1 5 then (400 : Int32) else σ.1 5) = _
    rw [h5, show (400 : Int32) = nI 400 from rfl]
    by_cases q : 400 < nL
    · rw [if_pos (nI_lt q (by omega)), Nat.min_eq_right (by omega)]
    · rw [if_neg (nI_nlt (by omega) (by omega)), Nat.min_eq_left (by omega)]
  by_cases c1 : a1 < 0
  · exact no (by unfold K9_entry; rw [if_pos c1]; rfl) (by unfold M_entry; rw [bnd_eq, if_pos c1]; rfl)
  have kst : K9_entry μ a0 a1 a2 = (if nI nL ≤ a1 then some (.inr (true, μ)) else if (400 : Int32) ≤ a1 then some (.inr (true, μ)) else if a2 < 0 then some (.inr (true, μ)) else if a2 < (5 : Int32) then (if okI ((a1 * (5 : Int32)) + a2) 2000 = true then some (.inl (kI μ (B 6 0 0) ((a1 * (5 : Int32)) + a2).toNatClampNeg, μ)) else none) else some (.inr (true, μ))) := by
    unfold K9_entry K9_entry_B31
    simp only [if_neg c1, if_pos h.k9, e10, ob_some, k5, if_true, i5, r5, k6, n6]
  by_cases c2 : a1 < nI (min nL 400)
  · obtain ⟨v, -, hv, rfl⟩ := i_rng (lo := 0) (hi := 400) c1 (by rw [Int32.lt_iff_toInt_lt, nI_toInt (by omega)] at c2; rw [Int32.le_iff_toInt_le, nI_toInt (by omega)]; omega) (by omega) (by omega)
    rw [nI_ltI (by omega) (by omega)] at c2
    have q1 : v < nL := by omega
    have q2 : v < 400 := by omega
    have mst : M_entry σ (nI v) a2 = (if a2 = 0 then some (σ.2 19 v, mSet σ 0 0) else if a2 = 1 then some (σ.2 20 v, mSet σ 0 0) else if a2 = 2 then some (σ.2 21 v, mSet σ 0 0) else if a2 = 3 then some (σ.2 22 v, mSet σ 0 0) else if a2 = 4 then some (σ.2 23 v, mSet σ 0 0) else some (0, mSet (mSet σ 0 0) 0 1)) := by
      unfold M_entry
      rw [bnd_eq, if_neg c1, hmin, if_pos (nI_lt c2 (by omega))]
      simp only [(okI_nI (show v < 2 ^ 31 by omega)).mpr q2, if_true, nI_clamp (show v < 2 ^ 31 by omega), mSet_2, M_fail_eq, bi_some]
    rw [kst, mst, if_neg (nI_ge q1 (by omega)), show (400 : Int32) = nI 400 from rfl, if_neg (nI_ge q2 (by omega))]
    by_cases c3 : a2 < 0
    · rw [if_pos c3, if_neg (fun q => by subst q; exact absurd c3 (by decide)), if_neg (fun q => by subst q; exact absurd c3 (by decide)), if_neg (fun q => by subst q; exact absurd c3 (by decide)), if_neg (fun q => by subst q; exact absurd c3 (by decide)), if_neg (fun q => by subst q; exact absurd c3 (by decide))]
      exact no rfl rfl
    rw [if_neg c3]
    by_cases c4 : a2 < 5
    · obtain ⟨b, hb, rfl⟩ : ∃ b : Nat, b < 5 ∧ a2 = nI b := by
        rcases i_below a2 (n := 5) (by omega) with (q | q) | q
        · exact absurd q c3
        · exact absurd c4 (i_le_n q)
        · exact q
      rw [if_pos c4, show (5 : Int32) = nI 5 from rfl, pk_mul, nI_add, if_pos ((okI_nI (by omega)).mpr (by omega)), nI_clamp (by omega), h.2.2 6 0 0 (v * 5 + b) ⟨rfl, rfl, by omega⟩]
      rw [vwt_log hb]
      rcases (show b = 0 ∨ b = 1 ∨ b = 2 ∨ b = 3 ∨ b = 4 by omega) with rfl | rfl | rfl | rfl | rfl
      · rw [if_pos (by decide)]; exact opI_ok rfl rfl (mSet_0v σ 0) (Rep_code h.rep _)
      · rw [if_neg (by decide), if_pos (by decide)]; exact opI_ok rfl rfl (mSet_0v σ 0) (Rep_code h.rep _)
      · rw [if_neg (by decide), if_neg (by decide), if_pos (by decide)]; exact opI_ok rfl rfl (mSet_0v σ 0) (Rep_code h.rep _)
      · rw [if_neg (by decide), if_neg (by decide), if_neg (by decide), if_pos (by decide)]; exact opI_ok rfl rfl (mSet_0v σ 0) (Rep_code h.rep _)
      · rw [if_neg (by decide), if_neg (by decide), if_neg (by decide), if_neg (by decide), if_pos (by decide)]; exact opI_ok rfl rfl (mSet_0v σ 0) (Rep_code h.rep _)
    · rw [if_neg c4, if_neg (fun q => by subst q; exact absurd c4 (by decide)), if_neg (fun q => by subst q; exact absurd c4 (by decide)), if_neg (fun q => by subst q; exact absurd c4 (by decide)), if_neg (fun q => by subst q; exact absurd c4 (by decide)), if_neg (fun q => by subst q; exact absurd c4 (by decide))]
      exact no rfl rfl
  · refine no ?_ (by unfold M_entry; rw [bnd_eq, if_neg c1, hmin, if_neg c2]; rfl)
    rw [kst]
    by_cases c3 : nI nL ≤ a1
    · rw [if_pos c3]
    · rw [if_neg c3, if_pos]
      have c4 := i_nlt c2
      have c5 := i_nle c3
      rw [Int32.le_iff_toInt_le, nI_toInt (by omega)] at c4
      rw [Int32.lt_iff_toInt_lt, nI_toInt (by omega)] at c5
      rw [Int32.le_iff_toInt_le]
      have e4 : (400 : Int32).toInt = 400 := by decide
      omega
end OPS3
