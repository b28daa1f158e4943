section ASK
variable {a0 : Nat} {μ ν : Km} {σ τ : Ms} {B : Nat → Nat → Nat → Nat} {tg : Nat → Nat × Nat × Nat} {nT nS nH nP nw nL : Nat} {A : Ar}
theorem and1 (x : Int32) : x &&& 1 = 0 ∨ x &&& 1 = 1 := by
  obtain ⟨j, hj, e⟩ := pk_andE x (m := 1) 1 (by decide)
  rcases (show j = 0 ∨ j = 1 by omega) with rfl | rfl
  · exact Or.inl e
  · exact Or.inr e
theorem M_isHeld_eq {t f : Nat} (ht : t < 30) : M_isHeld σ (nI t) (nI f) = some (bI (hel σ.2 t f)) := by
  unfold M_isHeld M_isHeld_B19 hel
  rw [if_pos ((okI_nI (by omega)).mpr ht), nI_clamp (by omega)]
  rcases and1 (σ.2 59 t >>> (nI f &&& 31)) with c | c
  · rw [c, if_neg (by decide), if_pos (by decide)]; rfl
  · rw [c, if_pos rfl, if_pos (by decide)]; rfl
theorem M_isDue_eq {t f : Nat} {x : Int32} (h : mInv σ nT nS nH nP nw nL) (ht : t < nT) (hf : f < 8) : ∃ τ, M_isDue σ (nI t) (nI f) x = some (bI (sDue (mSpan σ.2 t f (frc σ nS)) (hel σ.2 t f) (σ.2 13 t) x), τ) ∧ kmo τ σ ∧ mInv τ nT nS nH nP nw nL ∧ τ.1 48 = (mSpan σ.2 t f (frc σ nS)).1 ∧ τ.1 49 = (mSpan σ.2 t f (frc σ nS)).2.1 ∧ τ.1 51 = (mSpan σ.2 t f (frc σ nS)).2.2.2.1 := by
  have hT : nT ≤ 30 := h.1.2.1
  obtain ⟨τ, e, hk, hI, e48, e49, e51⟩ := M_know_eq h ht hf
  refine ⟨τ, ?_, hk, hI, e48, e49, e51⟩
  have eh : hel τ.2 t f = hel σ.2 t f := by unfold hel; rw [hk.2 59 (by decide) (by decide)]
  unfold M_isDue M_isDue_B45 M_isDue_B41 M_isDue_B46 sDue
  rw [e, ob_some, M_isHeld_eq (by omega), ob_some, e48, e49, hk.2 13 (by decide) (by decide), if_pos ((okI_nI (by omega)).mpr (show t < 30 by omega)), nI_clamp (by omega), eh]
  generalize mSpan σ.2 t f (frc σ nS) = q
  cases hel σ.2 t f with
  | true => rw [if_neg (by decide), if_pos (by decide)]; rfl
  | false =>
    rw [if_pos (by decide)]
    by_cases c1 : x < q.1
    · rw [if_pos c1, if_pos (by decide), decide_eq_false (fun z => z c1)]; rfl
    · rw [if_neg c1, decide_eq_true c1]
      by_cases c2 : q.2.1 = 999999
      · rw [if_pos c2, decide_eq_false (fun z => z c2)]
        by_cases c3 : σ.2 13 t = 0
        · rw [if_pos c3, if_pos (by decide), decide_eq_false (fun z => z c3)]; rfl
        · rw [if_neg c3, if_pos (by decide), decide_eq_true c3]; rfl
      · rw [if_neg c2, if_pos (by decide), decide_eq_true c2]; rfl
theorem op_why_ok : op_why (Rep a0) a0 := by
  rintro μ σ a1 a2 ⟨B, tg, nT, nS, nH, nP, nw, nL, h⟩
  have h30 := h.nT30
  have no : ∀ {k : Option ((Int32 × Km) ⊕ (Bool × Km))} {mr : Option (Int32 × Ms)}, k = some (.inr (true, μ)) → mr = some (0, mSet (mSet σ 0 0) 0 1) → opI (Rep a0) (fun _ => 1) (fun b => b) k mr := fun e1 e2 => opI_no e1 e2 rfl (mSet_0v _ _) (Rep_code (Rep_code h.rep _) _)
  rcases i_below a1 (n := nT) (by omega) with hx | ⟨t, ht, rfl⟩
  · refine no ?_ ?_
    · unfold K9_why; rw [if_pos h.k9, K9_thingAt_no h hx]; rfl
    · unfold M_why; rw [bnd_eq, M_isThing_no (σ := mSet σ 0 0) (h.1.1.1) hx, ob_some, if_pos rfl]; rfl
  rcases i_below a2 (n := 8) (by omega) with hx | ⟨f, hf, rfl⟩
  · refine no ?_ ?_
    · unfold K9_why; rw [if_pos h.k9, K9_thingAt_ok h ht, bxq_ok, ob_some, K9_checkField_no hx]; rfl
    · unfold M_why; rw [bnd_eq, M_isThing_ok (σ := mSet σ 0 0) (h.1.1.1) h30 ht, ob_some, if_neg (by decide), M_isField_no hx, ob_some, if_pos rfl]; rfl
  obtain ⟨s1, s2, -⟩ := h.spn
  obtain ⟨ν, e1, hk, hq, f6, f7⟩ := K6_settle_eq h (frc_in σ nS) ht hf
  have hν := RepB_kscr h hk
  obtain ⟨u1, u2, -⟩ := hν.spn
  obtain ⟨τ, e2, km, hI, w48, w49, w51⟩ := M_isDue_eq (x := (mSet σ 0 0).1 1) (mInv_code h.1 0) ht hf
  have hτ : RepB a0 ν τ B tg nT nS nH nP nw nL := RepB_kmo (RepB_code hν 0) km hI
  have t0 : τ.1 0 = 0 := (km.1 0 (by omega)).trans (mSet_0v σ 0)
  have eh : hel τ.2 t f = hel σ.2 t f := by unfold hel; rw [km.2 59 (by decide) (by decide)]; rfl
  have n1 : τ.1 1 = σ.1 1 := km.1 1 (by omega)
  have ed := K6_isDue_eq (x := σ.1 1) u2 hq f6 f7
  have kst : K9_why μ a0 (nI t) (nI f) = (if bI (hel σ.2 t f) = 0 then (if (mSpan σ.2 t f (frc σ nS)).1 ≤ σ.1 1 then (if bI (sDue (mSpan σ.2 t f (frc σ nS)) (hel σ.2 t f) (σ.2 13 t) (σ.1 1)) = 0 then some (.inl (3, ν)) else some (.inl (0, ν))) else some (.inl (2, ν))) else some (.inl (1, ν))) := by
    unfold K9_why K9_why_B70
    rw [if_pos h.k9, K9_thingAt_ok h ht, bxq_ok, ob_some, K9_checkField_ok hf, bxv_ok, if_pos h.k9, s1, ob_some, K9_setInForce_eq h, ob_some, if_pos s2, e1, ob_some, if_pos hν.k9]
    simp only [u1, ob_some, u2, if_true, f6, hq.1, hν.now, ed]
  have mst : M_why σ (nI t) (nI f) = (if bI (sDue (mSpan σ.2 t f (frc σ nS)) (hel σ.2 t f) (σ.2 13 t) (σ.1 1)) = 0 then (if bI (hel σ.2 t f) = 0 then (if (mSpan σ.2 t f (frc σ nS)).1 ≤ σ.1 1 then some (3, τ) else some (2, τ)) else some (1, τ)) else some (0, τ)) := by
    unfold M_why M_why_B70
    rw [bnd_eq, M_isThing_ok (σ := mSet σ 0 0) (h.1.1.1) h30 ht, ob_some, if_neg (by decide), M_isField_ok hf, ob_some, if_neg (by decide), e2, bi_some, M_isHeld_eq (by omega), ob_some, eh, w48, n1]
    rfl
  have fin : ∀ r : Int32, opI (Rep a0) (fun _ => 1) (fun b => b) (some (.inl (r, ν))) (some (r, τ)) := fun r => opI_ok rfl rfl t0 hτ.rep
  show opI (Rep a0) (fun _ => 1) (fun b => b) (K9_why μ a0 (nI t) (nI f)) (M_why σ (nI t) (nI f))
  rw [kst, mst]
  generalize mSpan σ.2 t f (frc σ nS) = q
  cases hel σ.2 t f with
  | true =>
    rw [if_neg (by decide), if_pos (show bI (sDue q true (σ.2 13 t) (σ.1 1)) = 0 from rfl), if_neg (by decide)]
    exact fin 1
  | false =>
    rw [if_pos (by decide), if_pos (show bI false = 0 from rfl)]
    by_cases c : q.1 ≤ σ.1 1
    · rw [if_pos c, if_pos c]
      cases sDue q false (σ.2 13 t) (σ.1 1) with
      | true => rw [if_neg (by decide), if_neg (by decide)]; exact fin 0
      | false => rw [if_pos (by decide), if_pos (by decide)]; exact fin 3
    · have hd : sDue q false (σ.2 13 t) (σ.1 1) = false := by
        unfold sDue
        rw [decide_eq_false (fun z => z (i_nle c))]; rfl
      rw [if_neg c, if_neg c, hd, if_pos (by decide)]
      exact fin 2
theorem chs (h : RepB a0 μ σ B tg nT nS nH nP nw nL) (a3 : Int32) : (¬ a3 = -1 ∧ K9_chosenSet μ a0 a3 = some (.inr (true, μ)) ∧ M_isSet (mSet σ 0 0) a3 = some 0) ∨ ∃ s', (s' = -1 ∨ ibt s' nS) ∧ K9_chosenSet μ a0 a3 = some (.inl (bSet B s', μ)) ∧ ((a3 = -1 ∧ s' = frc σ nS) ∨ (¬ a3 = -1 ∧ s' = a3 ∧ M_isSet (mSet σ 0 0) a3 = some 1)) := by
  have h8 := h.nS8
  by_cases c : a3 = -1
  · refine Or.inr ⟨frc σ nS, frc_in σ nS, ?_, Or.inl ⟨c, rfl⟩⟩
    unfold K9_chosenSet K9_chosenSet_B17
    rw [if_pos c, if_pos h.k9, K9_setInForce_eq h, ob_some]
  · rcases i_below a3 (n := nS) (by omega) with hx | ⟨s, hs, rfl⟩
    · refine Or.inl ⟨c, ?_, M_isSet_no (σ := mSet σ 0 0) (h.1.1.2.2.1) hx⟩
      unfold K9_chosenSet
      rw [if_neg c, if_pos h.k9, K9_setAt_no h hx]; rfl
    · refine Or.inr ⟨nI s, Or.inr ⟨s, hs, rfl⟩, ?_, Or.inr ⟨c, rfl, M_isSet_ok (σ := mSet σ 0 0) (h.1.1.2.2.1) h8 hs⟩⟩
      unfold K9_chosenSet K9_chosenSet_B17 bSet
      rw [if_neg c, if_pos h.k9, K9_setAt_ok h hs, bxq_ok, ob_some, if_neg c, nI_clamp (by omega)]
theorem op_span_ok : op_span (Rep a0) a0 := by
  rintro μ σ a1 a2 a3 a4 ⟨B, tg, nT, nS, nH, nP, nw, nL, h⟩
  have h30 := h.nT30
  have no : ∀ {k : Option ((Int32 × Km) ⊕ (Bool × Km))} {mr : Option (Int32 × Ms)}, k = some (.inr (true, μ)) → mr = some (0, mSet (mSet σ 0 0) 0 1) → opI (Rep a0) (fun _ => 1) (fun b => b) k mr := fun e1 e2 => opI_no e1 e2 rfl (mSet_0v _ _) (Rep_code (Rep_code h.rep _) _)
  rcases i_below a1 (n := nT) (by omega) with hx | ⟨t, ht, rfl⟩
  · refine no ?_ ?_
    · unfold K9_span; rw [if_pos h.k9, K9_thingAt_no h hx]; rfl
    · unfold M_span; rw [bnd_eq, M_isThing_no (σ := mSet σ 0 0) (h.1.1.1) hx, ob_some, if_pos rfl]; rfl
  rcases i_below a2 (n := 8) (by omega) with hx | ⟨f, hf, rfl⟩
  · refine no ?_ ?_
    · unfold K9_span; rw [if_pos h.k9, K9_thingAt_ok h ht, bxq_ok, ob_some, K9_checkField_no hx]; rfl
    · unfold M_span; rw [bnd_eq, M_isThing_ok (σ := mSet σ 0 0) (h.1.1.1) h30 ht, ob_some, if_neg (by decide), M_isField_no hx, ob_some, if_pos rfl]; rfl
  obtain ⟨s1, s2, -⟩ := h.spn
  rcases chs h a3 with ⟨c3, k3, m3⟩ | ⟨s', hs', k3, m3⟩
  · refine no ?_ ?_
    · unfold K9_span; rw [if_pos h.k9, K9_thingAt_ok h ht, bxq_ok, ob_some, K9_checkField_ok hf, bxv_ok, if_pos h.k9, s1, ob_some, k3]; rfl
    · unfold M_span; rw [bnd_eq, M_isThing_ok (σ := mSet σ 0 0) (h.1.1.1) h30 ht, ob_some, if_neg (by decide), M_isField_ok hf, ob_some, if_neg (by decide), if_neg c3, m3, ob_some, if_pos rfl]; rfl
  obtain ⟨ν, e1, hk, hq, f6, f7⟩ := K6_settle_eq h hs' ht hf
  have hν := RepB_kscr h hk
  obtain ⟨u1, u2, -⟩ := hν.spn
  obtain ⟨τ, e2, sc, sq⟩ := M_tell_eq (f := f) (mInv_code h.1 0) hs' ht
  have hτ : RepB a0 ν τ B tg nT nS nH nP nw nL := RepB_kmo (RepB_code hν 0) (kmo_scr sc) (mInv_scr (mInv_code h.1 0) sc)
  have t0 : τ.1 0 = 0 := (sc.1 0 (by omega)).trans (mSet_0v σ 0)
  have fin : ∀ r : Int32, opI (Rep a0) (fun _ => 1) (fun b => b) (some (.inl (r, ν))) (some (r, τ)) := fun r => opI_ok rfl rfl t0 hτ.rep
  have no2 : opI (Rep a0) (fun _ => 1) (fun b => b) (some (.inr (true, ν))) (some (0, mSet (mSet σ 0 0) 0 1)) := opI_no rfl rfl rfl (mSet_0v _ _) (Rep_code (Rep_code hν.rep _) _)
  have kst : K9_span μ a0 (nI t) (nI f) a3 a4 = (if a4 = 0 then some (.inl ((mSpan σ.2 t f s').1, ν)) else if a4 = 1 then some (.inl ((mSpan σ.2 t f s').2.1, ν)) else if a4 = 2 then some (.inl ((mSpan σ.2 t f s').2.2.1, ν)) else if a4 = 3 then some (.inl ((mSpan σ.2 t f s').2.2.2.1, ν)) else if a4 = 4 then some (.inl (nI (mSpan σ.2 t f s').2.2.2.2.length, ν)) else some (.inr (true, ν))) := by
    unfold K9_span
    rw [if_pos h.k9, K9_thingAt_ok h ht, bxq_ok, ob_some, K9_checkField_ok hf, bxv_ok, if_pos h.k9, s1, ob_some, k3, bxq_ok, if_pos s2, e1, ob_some]
    simp only [if_pos hν.k9, u1, ob_some, u2, if_true, hq.1, hq.2.1, hq.2.2.1, hq.2.2.2.1, hq.2.2.2.2.1]
  have mB : M_span_B70 (mSet σ 0 0) s' (nI f) (nI t) a4 = (if a4 = 0 then some ((mSpan σ.2 t f s').1, τ) else if a4 = 1 then some ((mSpan σ.2 t f s').2.1, τ) else if a4 = 2 then some ((mSpan σ.2 t f s').2.2.1, τ) else if a4 = 3 then some ((mSpan σ.2 t f s').2.2.2.1, τ) else some (nI (mSpan σ.2 t f s').2.2.2.2.length, τ)) := by
    unfold M_span_B70 M_span_B128
    rw [e2, ob_some, sq.1, sq.2.1, sq.2.2.1, sq.2.2.2.1, sq.2.2.2.2.1]
    rfl
  have mst : M_span σ (nI t) (nI f) a3 a4 = (if a4 < 0 then some (0, mSet (mSet σ 0 0) 0 1) else if a4 ≤ 4 then M_span_B70 (mSet σ 0 0) s' (nI f) (nI t) a4 else some (0, mSet (mSet σ 0 0) 0 1)) := by
    unfold M_span M_span_B33 M_span_B44
    rw [bnd_eq, M_isThing_ok (σ := mSet σ 0 0) (h.1.1.1) h30 ht, ob_some, if_neg (by decide), M_isField_ok hf, ob_some, if_neg (by decide), M_fail_eq, bi_some]
    rcases m3 with ⟨c3, rfl⟩ | ⟨c3, rfl, m3⟩
    · rw [if_pos c3, if_pos c3, M_force_now (mInv_code h.1 0), ob_some]; rfl
    · rw [if_neg c3, m3, ob_some, if_neg (by decide), if_neg c3]
  show opI (Rep a0) (fun _ => 1) (fun b => b) (K9_span μ a0 (nI t) (nI f) a3 a4) (M_span σ (nI t) (nI f) a3 a4)
  rw [kst, mst]
  by_cases c1 : a4 < 0
  · rw [if_pos c1, if_neg (fun q => by subst q; exact absurd c1 (by decide)), if_neg (fun q => by subst q; exact absurd c1 (by decide)), if_neg (fun q => by subst q; exact absurd c1 (by decide)), if_neg (fun q => by subst q; exact absurd c1 (by decide)), if_neg (fun q => by subst q; exact absurd c1 (by decide))]
    exact no2
  rw [if_neg c1]
  by_cases c2 : a4 ≤ 4
  · obtain ⟨m, -, hm, rfl⟩ := i_rng (lo := 0) (hi := 4) c1 c2 (by omega) (by omega)
    rw [if_pos c2, mB]
    rcases (show m = 0 ∨ m = 1 ∨ m = 2 ∨ m = 3 ∨ m = 4 by omega) with rfl | rfl | rfl | rfl | rfl
    · rw [if_pos (by decide), if_pos (by decide)]; exact fin _
    · rw [if_neg (by decide), if_pos (by decide), if_neg (by decide), if_pos (by decide)]; exact fin _
    · rw [if_neg (by decide), if_neg (by decide), if_pos (by decide), if_neg (by decide), if_neg (by decide), if_pos (by decide)]; exact fin _
    · rw [if_neg (by decide), if_neg (by decide), if_neg (by decide), if_pos (by decide), if_neg (by decide), if_neg (by decide), if_neg (by decide), if_pos (by decide)]; exact fin _
    · rw [if_neg (by decide), if_neg (by decide), if_neg (by decide), if_neg (by decide), if_pos (by decide), if_neg (by decide), if_neg (by decide), if_neg (by decide), if_neg (by decide)]; exact fin _
  · have c3 := i_nle c2
    rw [if_neg c2, if_neg (fun q => by subst q; exact absurd c3 (by decide)), if_neg (fun q => by subst q; exact absurd c3 (by decide)), if_neg (fun q => by subst q; exact absurd c3 (by decide)), if_neg (fun q => by subst q; exact absurd c3 (by decide)), if_neg (fun q => by subst q; exact absurd c3 (by decide))]
    exact no2
theorem op_lost_ok : op_lost (Rep a0) a0 := by
  rintro μ σ a1 a2 a3 a4 ⟨B, tg, nT, nS, nH, nP, nw, nL, h⟩
  have h30 := h.nT30
  have no : ∀ {k : Option ((Int32 × Km) ⊕ (Bool × Km))} {mr : Option (Int32 × Ms)}, k = some (.inr (true, μ)) → mr = some (0, mSet (mSet σ 0 0) 0 1) → opI (Rep a0) (fun _ => 1) (fun b => b) k mr := fun e1 e2 => opI_no e1 e2 rfl (mSet_0v _ _) (Rep_code (Rep_code h.rep _) _)
  rcases i_below a1 (n := nT) (by omega) with hx | ⟨t, ht, rfl⟩
  · refine no ?_ ?_
    · unfold K9_lost; rw [if_pos h.k9, K9_thingAt_no h hx]; rfl
    · unfold M_lost; rw [bnd_eq, M_isThing_no (σ := mSet σ 0 0) (h.1.1.1) hx, ob_some, if_pos rfl]; rfl
  rcases i_below a2 (n := 8) (by omega) with hx | ⟨f, hf, rfl⟩
  · refine no ?_ ?_
    · unfold K9_lost; rw [if_pos h.k9, K9_thingAt_ok h ht, bxq_ok, ob_some, K9_checkField_no hx]; rfl
    · unfold M_lost; rw [bnd_eq, M_isThing_ok (σ := mSet σ 0 0) (h.1.1.1) h30 ht, ob_some, if_neg (by decide), M_isField_no hx, ob_some, if_pos rfl]; rfl
  obtain ⟨s1, s2, -⟩ := h.spn
  rcases chs h a3 with ⟨c3, k3, m3⟩ | ⟨s', hs', k3, m3⟩
  · refine no ?_ ?_
    · unfold K9_lost; rw [if_pos h.k9, K9_thingAt_ok h ht, bxq_ok, ob_some, K9_checkField_ok hf, bxv_ok, if_pos h.k9, s1, ob_some, k3]; rfl
    · unfold M_lost; rw [bnd_eq, M_isThing_ok (σ := mSet σ 0 0) (h.1.1.1) h30 ht, ob_some, if_neg (by decide), M_isField_ok hf, ob_some, if_neg (by decide), if_neg c3, m3, ob_some, if_pos rfl]; rfl
  obtain ⟨ν, e1, hk, hq, f6, f7⟩ := K6_settle_eq h hs' ht hf
  have hν := RepB_kscr h hk
  obtain ⟨u1, u2, u3, u4, u5, -⟩ := hν.spn
  obtain ⟨τ, e2, sc, sq⟩ := M_tell_eq (f := f) (mInv_code h.1 0) hs' ht
  have hτ : RepB a0 ν τ B tg nT nS nH nP nw nL := RepB_kmo (RepB_code hν 0) (kmo_scr sc) (mInv_scr (mInv_code h.1 0) sc)
  have t0 : τ.1 0 = 0 := (sc.1 0 (by omega)).trans (mSet_0v σ 0)
  have kst : K9_lost μ a0 (nI t) (nI f) a3 a4 = (if a4 < 0 then some (.inr (true, ν)) else if a4 < nI (mSpan σ.2 t f s').2.2.2.2.length then (if okI a4 24 = true then some (.inl (kI ν (B 8 0 0) a4.toNatClampNeg, ν)) else none) else some (.inr (true, ν))) := by
    unfold K9_lost K9_lost_B43
    rw [if_pos h.k9, K9_thingAt_ok h ht, bxq_ok, ob_some, K9_checkField_ok hf, bxv_ok, if_pos h.k9, s1, ob_some, k3, bxq_ok, if_pos s2, e1, ob_some]
    simp only [if_pos hν.k9, u1, ob_some, u2, u3, u4, u5, if_true, hq.2.2.2.2.1]
  have mB : M_lost_B59 (mSet σ 0 0) s' (nI f) (nI t) a4 = (if a4 < 0 then some (0, mSet τ 0 1) else if a4 < nI (mSpan σ.2 t f s').2.2.2.2.length then (if okI a4 24 = true then some (τ.2 53 a4.toNatClampNeg, τ) else none) else some (0, mSet τ 0 1)) := by
    unfold M_lost_B59 M_lost_B76 M_lost_B91
    rw [e2, ob_some, sq.2.2.2.2.1, M_fail_eq, bi_some]
    rfl
  have mst : M_lost σ (nI t) (nI f) a3 a4 = M_lost_B59 (mSet σ 0 0) s' (nI f) (nI t) a4 := by
    unfold M_lost M_lost_B39
    rw [bnd_eq, M_isThing_ok (σ := mSet σ 0 0) (h.1.1.1) h30 ht, ob_some, if_neg (by decide), M_isField_ok hf, ob_some, if_neg (by decide)]
    rcases m3 with ⟨c3, rfl⟩ | ⟨c3, rfl, m3⟩
    · rw [if_pos c3, if_pos c3, M_force_now (mInv_code h.1 0), ob_some]; rfl
    · rw [if_neg c3, m3, ob_some, if_neg (by decide), if_neg c3]
  have no2 : opI (Rep a0) (fun _ => 1) (fun b => b) (some (.inr (true, ν))) (some (0, mSet τ 0 1)) := opI_no rfl rfl rfl (mSet_0v _ _) (Rep_code hτ.rep _)
  have hlen : (mSpan σ.2 t f s').2.2.2.2.length ≤ 24 := by
    unfold mSpan
    have h8 := h.nS8
    rcases hs' with e | e
    · rw [if_pos e]; decide
    · have e3 := ibt_c e (by omega)
      rw [if_neg (by rw [e3.1]; exact i_m1_ne (by omega))]
      have q1 := (spFold_ok (A := σ.2) (t := t) (f := f) (s := s'.toNatClampNeg) (l := ord σ.2 s'.toNatClampNeg) sp0_ok).2
      have q2 := ord_len_le h.1.2.1 e3.2
      have q3 : sp0.2.2.2.2.length = 0 := rfl
      unfold spSet
      omega
  show opI (Rep a0) (fun _ => 1) (fun b => b) (K9_lost μ a0 (nI t) (nI f) a3 a4) (M_lost σ (nI t) (nI f) a3 a4)
  rw [kst, mst, mB]
  by_cases c1 : a4 < 0
  · rw [if_pos c1, if_pos c1]; exact no2
  rw [if_neg c1, if_neg c1]
  by_cases c2 : a4 < nI (mSpan σ.2 t f s').2.2.2.2.length
  · rw [if_pos c2, if_pos c2]
    obtain ⟨i, -, hi, rfl⟩ := i_rng (lo := 0) (hi := (mSpan σ.2 t f s').2.2.2.2.length) c1 (i_lt_le c2) (by omega) (by omega)
    rw [nI_ltI (by omega) (by omega)] at c2
    have o1 := (okI_nI (show i < 2 ^ 31 by omega)).mpr (show i < 24 by omega)
    rw [if_pos o1, if_pos o1, nI_clamp (by omega), hq.2.2.2.2.2 i c2, sq.2.2.2.2.2 i c2]
    exact opI_ok rfl rfl t0 hτ.rep
  · rw [if_neg c2, if_neg c2]; exact no2
end ASK
