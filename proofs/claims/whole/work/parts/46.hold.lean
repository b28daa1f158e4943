section HOLD
variable {a0 : Nat} {μ ν : Km} {σ σ' : Ms} {B B' : Nat → Nat → Nat → Nat} {tg tg' : Nat → Nat × Nat × Nat} {nT nS nH nP nw nL : Nat} {A A' : Ar}
theorem nI_or {a b : Nat} (ha : a < 2 ^ 32) (hb : b < 2 ^ 32) : nI a ||| nI b = nI (a ||| b) := by
  have h : (nI a ||| nI b).toBitVec = (nI (a ||| b)).toBitVec := by
    apply BitVec.eq_of_toNat_eq
    rw [Int32.toBitVec_or, BitVec.toNat_or, pk_tn ha, pk_tn hb, pk_tn (Nat.or_lt_two_pow ha hb)]
  exact Int32.toBitVec_inj.mp h
theorem or256 {x y : Int32} (hx : ibt x 256) (hy : ibt y 256) : ibt (x ||| y) 256 := by
  obtain ⟨a, ha, rfl⟩ := hx
  obtain ⟨b, hb, rfl⟩ := hy
  exact ⟨a ||| b, Nat.or_lt_two_pow (n := 8) ha hb, nI_or (by omega) (by omega)⟩
def bHo (B : Nat → Nat → Nat → Nat) (n t : Nat) (c i j : Nat) : Nat := if i = t ∧ j = 0 ∧ c = 14 then n else B c i j
def tHo (tg : Nat → Nat × Nat × Nat) (n t : Nat) (q : Nat) : Nat × Nat × Nat := if q = n then (14, t, 0) else tg q
theorem bHo_old {n : Nat} {c i j : Nat} (h : vld A nT nS nH c i j) : bHo B n nH c i j = B c i j := by
  unfold bHo
  rw [if_neg]
  rintro ⟨h1, h2, rfl⟩
  have h5 : i < nH := h.1
  omega
theorem bHo_new {n t : Nat} : bHo B n t 14 t 0 = n := by
  unfold bHo
  rw [if_pos ⟨rfl, rfl, rfl⟩]
theorem vld_ho {c i j : Nat} (h : vld A nT nS (nH + 1) c i j) : vld A nT nS nH c i j ∨ (i = nH ∧ j = 0 ∧ c = 14) := by
  by_cases e : i = nH ∧ j = 0 ∧ c = 14
  · exact Or.inr e
  · refine Or.inl ?_
    unfold vld at h ⊢
    split at h
    all_goals first | exact h | exact ⟨by omega, h.2⟩
theorem mInv_hold (h : mInv σ nT nS nH nP nw nL) (hH : nH < 40) {t : Nat} (ht : t < nT) {x : Int32} (hx : ibt x 256) : mInv (mSet (mSto (mSto σ 16 nH (nI t)) 17 nH x) 4 (nI (nH + 1))) nT nS (nH + 1) nP nw nL := by
  obtain ⟨⟨c1, c2, c3, c4, c5, c6, c7⟩, h2, h3⟩ := h
  refine ⟨⟨?_, c2, ?_, c4, ?_, by omega, ?_⟩, fun k' j => ?_, ?_⟩
  · rw [mSet_at, if_neg (by decide)]; exact c1
  · rw [mSet_at, if_neg (by decide)]; exact c3
  · rw [mSet_at, if_pos rfl]
  · simp only [mSet_at]
    exact c7
  · have g := h2 k' j
    simp only [mSet_2]
    by_cases e : k' = 16 ∧ j = nH
    · obtain ⟨rfl, rfl⟩ := e
      intro _
      rw [mSto_at, if_neg (by omega), mSto_at, if_pos ⟨rfl, rfl⟩]
      exact ⟨t, ht, rfl⟩
    · by_cases e2 : k' = 17 ∧ j = nH
      · obtain ⟨rfl, rfl⟩ := e2
        intro _
        rw [mSto_at, if_pos ⟨rfl, rfl⟩]
        exact hx
      · have g' : mRg (mSto (mSto σ 16 nH (nI t)) 17 nH x).2 nT nS nH k' j := by
          rw [mRg_cg (A := σ.2) (by rw [mSto_ne _ _ _ _ (by decide), mSto_ne _ _ _ _ (by decide)]) (by rw [mSto_ne _ _ _ _ (by decide), mSto_ne _ _ _ _ (by decide)]) (by rw [mSto_ne _ _ _ _ (by decide), mSto_ne _ _ _ _ (by decide)]) (by rw [mSto_at, if_neg e2, mSto_at, if_neg e])]
          exact g
        unfold mRg at g' ⊢
        split at g'
        all_goals first | exact g' | exact fun z => g' (by omega) | exact fun z => ⟨(g' z).1, fun w => (g' z).2 (by omega)⟩
  · exact mKep_same ⟨⟨c1, c2, c3, c4, c5, c6, c7⟩, h2, h3⟩ rfl (by rw [mSet_2, mSto_ne _ _ _ _ (by decide), mSto_ne _ _ _ _ (by decide)]) (by rw [mSet_2, mSto_ne _ _ _ _ (by decide), mSto_ne _ _ _ _ (by decide)]) (by rw [mSet_2, mSto_ne _ _ _ _ (by decide), mSto_ne _ _ _ _ (by decide)]) (by rw [mSet_2, mSto_ne _ _ _ _ (by decide), mSto_ne _ _ _ _ (by decide)]) (sameR_tr (A1 := (mSto σ 16 nH (nI t)).2) (sameR_put (by omega)) (sameR_put (by omega))) (by rw [mSet_2, mSto_ne _ _ _ _ (by decide), mSto_ne _ _ _ _ (by decide)]) (by rw [mSet_2, mSto_ne _ _ _ _ (by decide), mSto_ne _ _ _ _ (by decide)]) (by rw [mSet_2, mSto_ne _ _ _ _ (by decide), mSto_ne _ _ _ _ (by decide)])
theorem op_hold_ok : op_hold (Rep a0) a0 := by
  rintro μ σ a1 a2 ⟨B, tg, nT, nS, nH, nP, nw, nL, h⟩
  have h30 := h.nT30
  have h8 := h.nS8
  have h40 := h.nH40
  rcases i_below a1 (n := nT) (by omega) with hx | ⟨t, ht, rfl⟩
  · refine opI_no (b := true) (r := 0) (μ' := μ) (σ' := mSet (mSet σ 0 0) 0 1) ?_ ?_ rfl (mSet_0v _ _) (Rep_code (Rep_code h.rep _) _)
    · unfold K9_hold; rw [if_pos h.k9, K9_thingAt_no h hx]; rfl
    · unfold M_hold; rw [bnd_eq, M_isThing_no (σ := mSet σ 0 0) (h.1.1.1) hx, ob_some, if_pos rfl]; rfl
  have e4 : (mSet σ 0 0).1 4 = nI nH := h.1.1.2.2.2.2.1
  have no : opI (Rep a0) (fun _ => 1) (fun b => b) (some (.inl (-1, μ))) (some (-1, mSet σ 0 0)) := opI_ok rfl rfl (mSet_0v _ _) (Rep_code h.rep _)
  unfold K9_hold M_hold K9_hold_B27 M_hold_B40
  rw [if_pos h.k9, K9_thingAt_ok h ht, bxq_ok, ob_some, if_pos h.k9, h.i9, bnd_eq, M_isThing_ok (σ := mSet σ 0 0) (h.1.1.1) h30 ht, ob_some, if_neg (show ¬ (1 : Int32) = 0 by decide), e4]
  by_cases c1 : nH = 40
  · rw [if_pos (by rw [c1]; decide), if_pos (by rw [c1]; rfl)]; exact no
  have hH : nH < 40 := by omega
  rw [show (40 : Int32) = nI 40 from rfl, if_neg (nI_ge hH (by omega)), if_neg (fun z => c1 ((nI_eq (by omega) (by omega)).mp z))]
  by_cases c2 : a2 < 1
  · rw [if_pos c2, if_pos c2]; exact no
  rw [if_neg c2, if_neg c2]
  by_cases c3 : a2 ≤ 255
  · have hx : ibt a2 256 := by
      obtain ⟨k, -, hk, rfl⟩ := i_rng (lo := 1) (hi := 255) c2 c3 (by omega) (by omega)
      exact ⟨k, by omega, rfl⟩
    obtain ⟨t1, t2, -⟩ := h.th ht
    obtain ⟨g1, g2, g3⟩ := h.hlds
    generalize hn : kn μ = n
    have lt : ∀ {c i j}, vld σ.2 nT nS nH c i j → B c i j < n := fun hv => by rw [← hn]; exact h.lt hv
    have hb4 : B 4 0 0 < n := lt ⟨by omega, rfl, rfl⟩
    have ha0 : a0 < n := by rw [← h.2.1.1]; exact lt ⟨by omega, rfl, rfl⟩
    have hbt : B 10 t 0 < n := lt ⟨ht, rfl⟩
    have nat : B 10 t 0 ≠ a0 := fun z => by have q1 := h.k9; rw [← z, t2] at q1; cases q1
    have hR1 : ∀ q j, q < n → kR (kNew μ 1 0) q j = kR μ q j := fun q j hq => by rw [kR_new, hn, if_neg (by omega)]
    have hK1 : ∀ q, q < n → kK (kNew μ 1 0) q = kK μ q ∧ kN (kNew μ 1 0) q = kN μ q := fun q hq => by rw [kK_new, kN_new, hn, if_neg (by omega), if_neg (by omega)]; exact ⟨rfl, rfl⟩
    have hI1 : ∀ q j, q < n → kI (kNew μ 1 0) q j = kI μ q j := fun q j hq => by rw [kI_new, hn, if_neg (by omega)]
    have kn1 : kK (kNew μ 1 0) n = 1 := by rw [kK_new, hn, if_pos rfl]
    have ia9 : kI (kSetI (kSetR (kNew μ 1 0) n 0 (some (B 10 t 0))) n 1 a2) a0 9 = nI nH := by
      rw [kI_set, if_neg (by omega), kI_setR, hI1 _ _ ha0]; exact h.i9
    have it4 : kI μ (B 10 t 0) 4 = σ.2 59 t := h.2.2 10 t 0 4 ⟨ht, rfl, by omega⟩
    have o1 := (okI_nI (show nH < 2 ^ 31 by omega)).mpr hH
    have o2 := (okI_nI (show t < 2 ^ 31 by omega)).mpr (show t < 30 by omega)
    rw [if_pos c3, if_pos c3, g1, ob_some, bnd2_eq]
    unfold K1_init
    rw [if_pos kn1, bnd_eq, bnd_eq, ob_some, if_pos (by rw [kK_setI, kK_setR, (hK1 _ hb4).1]; exact g2), if_pos (by rw [kK_setI, kK_setR]; exact kn1), kN_setI, kN_setR, (hK1 _ hb4).2, g3, if_pos o1, nI_clamp (show nH < 2 ^ 31 by omega), bnd_eq, if_pos (by rw [kK_setR, kK_setI, kK_setR, (hK1 _ ha0).1]; exact h.k9), bnd_eq, kI_setR, ia9, nI_1, if_pos (by rw [kK_setI, kK_setR, kK_setI, kK_setR, (hK1 _ hbt).1]; exact t2), bnd_eq]
    have e4a : (mSto (mSet σ 0 0) 16 nH (nI t)).1 4 = nI nH := e4
    have e4b : (mSto (mSto (mSto (mSet σ 0 0) 16 nH (nI t)) 17 nH a2) 59 t ((mSto (mSto (mSet σ 0 0) 16 nH (nI t)) 17 nH a2).2 59 t ||| a2)).1 4 = nI nH := e4
    rw [if_pos o1, bnd_eq, e4a, if_pos o1, nI_clamp (show nH < 2 ^ 31 by omega), bnd_eq, if_pos o2, if_pos o2, nI_clamp (show t < 2 ^ 31 by omega), bnd_eq, bnd_eq, e4b, nI_1]
    have hI := mInv_hold (x := a2) (mInv_code h.1 0) hH ht hx
    have hRs : sameR (mSet (mSto (mSto (mSet σ 0 0) 16 nH (nI t)) 17 nH a2) 4 (nI (nH + 1))).2 σ.2 := sameR_tr (A1 := (mSto (mSet σ 0 0) 16 nH (nI t)).2) (sameR_put (by omega)) (sameR_put (by omega))
    have main : RepB a0 (kSetI (kSetR (kSetI (kSetR (kNew μ 1 0) n 0 (some (B 10 t 0))) n 1 a2) (B 4 0 0) nH (some n)) a0 9 (nI (nH + 1))) (mSet (mSto (mSto (mSet σ 0 0) 16 nH (nI t)) 17 nH a2) 4 (nI (nH + 1))) (bHo B n nH) (tHo tg n nH) nT nS (nH + 1) nP nw nL := by
      refine RepB_grow (N := fun c i j => i = nH ∧ j = 0 ∧ c = 14) h hI ?_ (fun c i j hv => bHo_old hv) ?_ ?_ ?_ ?_ ?_ ?_
      · intro q hq
        rw [kn_setI, kn_setR, kn_setI, kn_setR, kn_new, hn] at hq
        rw [kK_setI, kK_setR, kK_setI, kK_setR, kK_new, hn, if_neg (by omega)]
        exact h.2.1.2.1 q (by omega)
      · intro q hq
        unfold tHo
        rw [if_neg (by omega)]
      · intro q hq
        rw [kK_setI, kK_setR, kK_setI, kK_setR, kN_setI, kN_setR, kN_setI, kN_setR]
        exact hK1 q (by omega)
      · intro c i j hv
        rw [vld_cg hRs] at hv
        exact vld_ho hv
      · rintro c i j ⟨rfl, rfl, rfl⟩
        rw [kK_setI, kK_setR, kK_setI, kK_setR, kN_setI, kN_setR, kN_setI, kN_setR, bHo_new, kn1, kN_new, hn, if_pos rfl]
        refine ⟨rfl, rfl, ?_⟩
        unfold tHo
        rw [if_pos rfl]
      · intro c i j e hr
        rw [rfv_cg hRs] at hr
        rw [kR_setI, kR_set, kR_setI, kR_set]
        by_cases hold : rfv σ.2 nT nS nH c i j e
        · have hv := rfv_vld hold
          have e16 : rft (mSet (mSto (mSto (mSet σ 0 0) 16 nH (nI t)) 17 nH a2) 4 (nI (nH + 1))).2 (bHo B n nH) c i j e = rft σ.2 (bHo B n nH) c i j e := rft_cg (fun z => by
            subst z
            have : i < nH := hold.1
            rw [mSet_2, mSto_at, if_neg (by omega), mSto_at, if_neg (by omega)]; rfl)
          rw [e16, bHo_old hv, rft_ext (fun c i j hv => bHo_old hv) (h.1.2.1 16) h30 hold, if_neg, if_neg, hR1 _ _ (lt hv)]
          · exact h.2.1.2.2.2 c i j e hold
          · have := lt hv
            omega
          · rintro ⟨z1, z2⟩
            have w1 := (h.2.1.2.2.1 c i j hv).2.2
            have w2 := (h.2.1.2.2.1 4 0 0 ⟨by omega, rfl, rfl⟩).2.2
            rw [z1, w2] at w1
            simp only [Prod.mk.injEq] at w1
            obtain ⟨rfl, -, -⟩ := w1
            have : e < nH := hold.1
            omega
        · unfold rfv at hr hold
          split at hr
          all_goals first | exact absurd hr hold | exact hr.elim | skip
          · obtain ⟨z1, rfl, rfl⟩ := hr
            have ze : e = nH := by
              rcases Nat.lt_or_ge e nH with w | w
              · exact absurd ⟨w, rfl, rfl⟩ hold
              · omega
            subst ze
            rw [show bHo B n e 4 0 0 = B 4 0 0 by unfold bHo; rw [if_neg (by omega)], if_pos ⟨rfl, rfl⟩]
            show _ = some (bHo B n e 14 e 0)
            rw [bHo_new]
          · obtain ⟨z1, rfl, rfl⟩ := hr
            have ze : i = nH := by
              rcases Nat.lt_or_ge i nH with w | w
              · exact absurd ⟨w, rfl, rfl⟩ hold
              · omega
            subst ze
            rw [bHo_new, if_neg (by omega), if_pos ⟨rfl, rfl⟩]
            show _ = some (bHo B n i 10 ((mSto (mSto (mSet σ 0 0) 16 i (nI t)) 17 i a2).2 16 i).toNatClampNeg 0)
            rw [mSto_at, if_neg (by omega), mSto_at, if_pos ⟨rfl, rfl⟩, nI_clamp (by omega)]
            unfold bHo
            rw [if_neg (by omega)]
      · intro c i j e hw
        rw [vwv_cg hRs] at hw
        rw [kI_set, kI_setR, kI_set, kI_setR]
        by_cases hold : vwv σ.2 nT nS nH c i j e
        · have hv := vwv_vld hold
          have ev : vwt (mSet (mSto (mSto (mSet σ 0 0) 16 nH (nI t)) 17 nH a2) 4 (nI (nH + 1))) c i j e = if c = 22 ∧ i = 0 ∧ j = 0 ∧ e = 9 then nI (nH + 1) else vwt σ c i j e := by
            have v0 : vwv (mSto (mSto (mSet σ 0 0) 16 nH (nI t)) 17 nH a2).2 nT nS nH c i j e := by
              show vwv (mSet (mSto (mSto (mSet σ 0 0) 16 nH (nI t)) 17 nH a2) 4 (nI (nH + 1))).2 nT nS nH c i j e
              rw [vwv_cg (A := σ.2) hRs]; exact hold
            have v1 : vwv (mSto (mSet σ 0 0) 16 nH (nI t)).2 nT nS nH c i j e := by
              rw [vwv_cg (A := σ.2) (sameR_put (σ := mSet σ 0 0) (by omega))]; exact hold
            rw [hv_4 (σ := mSto (mSto (mSet σ 0 0) 16 nH (nI t)) 17 nH a2) (nT := nT) (nS := nS) (nH := nH) c i j e v0, hw_17 (σ := mSto (mSet σ 0 0) 16 nH (nI t)) (nT := nT) (nS := nS) (nH := nH) c i j e v1, hw_16 (σ := mSet σ 0 0) (nT := nT) (nS := nS) (nH := nH) c i j e hold]
            by_cases z : c = 22 ∧ i = 0 ∧ j = 0 ∧ e = 9
            · rw [if_pos z, if_pos z]
            · rw [if_neg z, if_neg z, if_neg]
              · rfl
              · rintro ⟨rfl, rfl, -, -⟩
                have : i < i := hold.1
                omega
          rw [bHo_old hv, ev]
          by_cases z : c = 22 ∧ i = 0 ∧ j = 0 ∧ e = 9
          · obtain ⟨rfl, rfl, rfl, rfl⟩ := z
            rw [if_pos ⟨h.2.1.1, rfl⟩, if_pos ⟨rfl, rfl, rfl, rfl⟩]
          · rw [if_neg z, if_neg, if_neg, hI1 _ _ (lt hv)]
            · exact h.2.2 c i j e hold
            · have := lt hv
              omega
            · rintro ⟨z1, z2⟩
              have w1 := (h.2.1.2.2.1 c i j hv).2.2
              have w2 := (h.2.1.2.2.1 22 0 0 ⟨by omega, rfl, rfl⟩).2.2
              rw [h.2.1.1] at w2
              rw [z1, w2] at w1
              simp only [Prod.mk.injEq] at w1
              exact z ⟨w1.1.symm, w1.2.1.symm, w1.2.2.symm, z2⟩
        · unfold vwv at hw hold
          split at hw
          all_goals first | exact absurd hw hold | exact hw.elim | skip
          obtain ⟨z1, rfl, z3⟩ := hw
          have ze : i = nH := by
            rcases Nat.lt_or_ge i nH with w | w
            · exact absurd ⟨w, rfl, z3⟩ hold
            · omega
          subst ze
          rw [bHo_new, if_neg (by omega)]
          rcases z3 with rfl | rfl
          · rw [if_pos ⟨rfl, rfl⟩]
            show _ = (mSto (mSto (mSet σ 0 0) 16 i (nI t)) 17 i a2).2 17 i
            rw [mSto_at, if_pos ⟨rfl, rfl⟩]
          · rw [if_neg (by omega), kI_new, hn, if_pos rfl]
            show _ = (mSto (mSto (mSet σ 0 0) 16 i (nI t)) 17 i a2).2 18 i
            rw [mSto_at, if_neg (by omega), mSto_at, if_neg (by omega)]
            exact ((h.1.2.1 18 i (by omega)).2 (by omega)).symm
    have hb' : bHo B n nH 10 t 0 = B 10 t 0 := bHo_old (A := σ.2) (nT := nT) (nS := nS) ⟨ht, rfl⟩
    have iv : kI (kSetI (kSetR (kSetI (kSetR (kNew μ 1 0) n 0 (some (B 10 t 0))) n 1 a2) (B 4 0 0) nH (some n)) a0 9 (nI (nH + 1))) (B 10 t 0) 4 = σ.2 59 t := by
      rw [kI_set, if_neg (fun z => nat z.1), kI_setR, kI_set, if_neg (by omega), kI_setR, hI1 _ _ hbt, it4]
    have v59 : (mSto (mSto (mSet σ 0 0) 16 nH (nI t)) 17 nH a2).2 59 t = σ.2 59 t := by
      rw [mSto_at, if_neg (by omega), mSto_at, if_neg (by omega)]; rfl
    have r59 := (h.1.2.1 59 t (by omega)).1
    have fin := RepB_put (c0 := 10) (i0 := t) (j0 := 0) (e0 := 4) (x := σ.2 59 t ||| a2) main (mInv_put (k0 := 59) (j0 := t) (x := σ.2 59 t ||| a2) main.1 (by omega) (fun _ => ⟨by rw [mSto_at, if_pos ⟨rfl, rfl⟩]; exact or256 r59 hx, fun q => by omega⟩)) (sameR_put (by omega)) (mSto_ne _ _ _ _ (by decide)) ⟨ht, rfl⟩ hw_59
    rw [hb'] at fin
    rw [iv, v59]
    refine opI_ok rfl ?_ ?_ fin.rep
    · rw [kI_set, if_neg (fun z => nat z.1.symm), kI_set, if_pos ⟨rfl, rfl⟩, mSet_at, if_pos rfl]
      rfl
    · rfl
  · rw [if_neg c3, if_neg c3]; exact no
/-! lift -/
theorem mSto_mSto (σ : Ms) (k j : Nat) (x y : Int32) : mSto (mSto σ k j x) k j y = mSto σ k j y := by
  refine Prod.ext rfl (funext fun k' => funext fun j' => ?_)
  rw [mSto_at, mSto_at, mSto_at]
  by_cases e : k' = k ∧ j' = j
  · rw [if_pos e, if_pos e]
  · rw [if_neg e, if_neg e, if_neg e]
def hFld (A : Ar) (t : Nat) : Nat → Int32
  | 0 => 0
  | j + 1 => if A 16 j = nI t ∧ A 18 j = 0 then hFld A t j ||| A 17 j else hFld A t j
theorem hFld_succ (A : Ar) (t j : Nat) : hFld A t (j + 1) = if A 16 j = nI t ∧ A 18 j = 0 then hFld A t j ||| A 17 j else hFld A t j := rfl
theorem hFld_in (h : ∀ k j, mRg A nT nS nH k j) {t : Nat} : ∀ j, j ≤ nH → ibt (hFld A t j) 256
  | 0, _ => ⟨0, by omega, rfl⟩
  | j + 1, hj => by
    rw [hFld_succ]
    have ih := hFld_in h (t := t) j (by omega)
    split
    · exact or256 ih (h 17 j (by omega))
    · exact ih
theorem K9_heldFields_L {Rt : Type} {kk : Int32 → Option Rt} {t : Nat} (h : RepB a0 μ σ B tg nT nS nH nP nw nL) (ht : t < nT) : ∀ (F j : Nat), j ≤ nH → nH < j + F → K9_heldFields_L4 μ a0 (B 10 t 0) kk F (hFld σ.2 t j) (nI j) = kk (hFld σ.2 t nH) := by
  have h40 := h.nH40
  have h30 := h.nT30
  obtain ⟨s1, s2, s3⟩ := h.hlds
  intro F
  induction F with
  | zero => intro j h1 h2; omega
  | succ F ih =>
    intro j h1 h2
    unfold K9_heldFields_L4
    rw [if_pos h.k9, h.i9]
    by_cases hj : j = nH
    · subst hj
      rw [if_pos (nI_le (Nat.le_refl _) (by omega))]
    · have hjn : j < nH := by omega
      have ih' := ih (j + 1) (by omega) (by omega)
      rw [hFld_succ] at ih'
      obtain ⟨q1, q2, q3, q4, q5⟩ := h.hd hjn
      have o1 := (okI_nI (show j < 2 ^ 31 by omega)).mpr (show j < 40 by omega)
      have e16 := ibt_c (h.1.2.1 16 j hjn) (by omega)
      have inj : B 10 (σ.2 16 j).toNatClampNeg 0 = B 10 t 0 ↔ σ.2 16 j = nI t := by
        constructor
        · intro z
          have w1 := (h.2.1.2.2.1 10 (σ.2 16 j).toNatClampNeg 0 ⟨e16.2, rfl⟩).2.2
          have w2 := (h.2.1.2.2.1 10 t 0 ⟨ht, rfl⟩).2.2
          rw [z, w2] at w1
          simp only [Prod.mk.injEq] at w1
          rw [e16.1, ← w1.2.1]
        · intro z
          rw [z, nI_clamp (by omega)]
      rw [if_neg (nI_ge hjn (by omega))]
      simp only [s1, ob_some, s2, s3, if_true, o1, nI_clamp (show j < 2 ^ 31 by omega), q1, q2, q3, q4, q5]
      unfold K9_heldFields_B49
      rw [nI_1, bnd_eq]
      by_cases c1 : σ.2 16 j = nI t
      · rw [if_pos (inj.mpr c1)]
        by_cases c2 : σ.2 18 j = 0
        · rw [if_pos c2]
          rw [if_pos ⟨c1, c2⟩] at ih'
          exact ih'
        · rw [if_neg c2]
          rw [if_neg (fun z => c2 z.2)] at ih'
          exact ih'
      · rw [if_neg (fun z => c1 (inj.mp z))]
        rw [if_neg (fun z => c1 z.1)] at ih'
        exact ih'
theorem M_lift_Lp {Rt : Type} {kk : Ms → Option Rt} {t : Nat} (h : mInv σ nT nS nH nP nw nL) (ht : t < nT) : ∀ (F j : Nat), j ≤ nH → nH < j + F → M_lift_L59 (nI t) kk F (mSto σ 59 t (hFld σ.2 t j)) (nI j) = kk (mSto σ 59 t (hFld σ.2 t nH)) := by
  have h40 : nH ≤ 40 := h.1.2.2.2.2.2.1
  have h30 : nT ≤ 30 := h.1.2.1
  intro F
  induction F with
  | zero => intro j h1 h2; omega
  | succ F ih =>
    intro j h1 h2
    unfold M_lift_L59
    rw [mSto_1, h.1.2.2.2.2.1]
    by_cases hj : j = nH
    · subst hj
      rw [if_pos (nI_le (Nat.le_refl _) (by omega))]
    · have hjn : j < nH := by omega
      have ih' := ih (j + 1) (by omega) (by omega)
      rw [hFld_succ] at ih'
      have o1 := (okI_nI (show j < 2 ^ 31 by omega)).mpr (show j < 40 by omega)
      have o2 := (okI_nI (show t < 2 ^ 31 by omega)).mpr (show t < 30 by omega)
      have a18 : (mSto σ 59 t (hFld σ.2 t j)).2 18 = σ.2 18 := mSto_ne _ _ _ _ (by decide)
      have a16 : (mSto σ 59 t (hFld σ.2 t j)).2 16 = σ.2 16 := mSto_ne _ _ _ _ (by decide)
      have a17 : (mSto σ 59 t (hFld σ.2 t j)).2 17 = σ.2 17 := mSto_ne _ _ _ _ (by decide)
      have a59 : (mSto σ 59 t (hFld σ.2 t j)).2 59 t = hFld σ.2 t j := by rw [mSto_at, if_pos ⟨rfl, rfl⟩]
      rw [if_neg (nI_ge hjn (by omega))]
      simp only [o1, o2, if_true, nI_clamp (show j < 2 ^ 31 by omega), nI_clamp (show t < 2 ^ 31 by omega), a18, a16, a17, a59, bnd_eq, mSto_mSto]
      unfold M_lift_B101
      rw [nI_1]
      by_cases c2 : σ.2 18 j = 0
      · rw [if_pos c2]
        by_cases c1 : σ.2 16 j = nI t
        · rw [if_pos c1]
          rw [if_pos ⟨c1, c2⟩] at ih'
          exact ih'
        · rw [if_neg c1]
          rw [if_neg (fun z => c1 z.1)] at ih'
          exact ih'
      · rw [if_neg c2]
        rw [if_neg (fun z => c2 z.2)] at ih'
        exact ih'
theorem op_lift_ok : op_lift (Rep a0) a0 := by
  rintro μ σ a1 ⟨B, tg, nT, nS, nH, nP, nw, nL, h⟩
  have h40 := h.nH40
  have h30 := h.nT30
  have e4 : (mSet σ 0 0).1 4 = nI nH := h.1.1.2.2.2.2.1
  rcases i_below a1 (n := nH) (by omega) with hx | ⟨j, hj, rfl⟩
  · refine opI_no (b := true) (r := 0) (μ' := μ) (σ' := mSet (mSet σ 0 0) 0 1) ?_ ?_ rfl (mSet_0v _ _) (Rep_code (Rep_code h.rep _) _)
    · unfold K9_lift K9_lift_B12
      by_cases c : a1 < 0
      · rw [if_pos c]
      · rw [if_neg c, if_pos h.k9, h.i9, if_neg (i_le_n (hx.resolve_left c))]
    · unfold M_lift M_lift_B17
      rw [bnd_eq, M_fail_eq, bi_some]
      by_cases c : a1 < 0
      · rw [if_pos c]
      · rw [if_neg c, e4, if_neg (i_le_n (hx.resolve_left c))]
  obtain ⟨s1, s2, s3⟩ := h.hlds
  obtain ⟨q1, q2, q3, q4, q5⟩ := h.hd hj
  have e16 := ibt_c (h.1.2.1 16 j hj) (by omega)
  have o1 := (okI_nI (show j < 2 ^ 31 by omega)).mpr (show j < 40 by omega)
  by_cases c : σ.2 18 j = 0
  · have h0 := RepB_code h 0
    generalize ht0 : (σ.2 16 j).toNatClampNeg = t at e16 q3
    obtain ⟨e16a, ht⟩ := e16
    have h1 : RepB a0 (kSetI μ (B 14 j 0) 2 1) (mSto (mSet σ 0 0) 18 j 1) B tg nT nS nH nP nw nL := RepB_put (c0 := 14) (i0 := j) (j0 := 0) (e0 := 2) (x := 1) h0 (mInv_put (k0 := 18) (j0 := j) (x := 1) h0.1 (by omega) (fun _ => ⟨Or.inr (by rw [mSto_at, if_pos ⟨rfl, rfl⟩]), fun q => by omega⟩)) (sameR_put (by omega)) (mSto_ne _ _ _ _ (by decide)) ⟨hj, rfl⟩ hw_18
    obtain ⟨t1, t2, -⟩ := h1.th ht
    have eK := K9_heldFields_L (kk := fun v2_55 => some v2_55) h1 ht gF 0 (by omega) (by unfold gF; omega)
    have eM := M_lift_Lp (kk := fun s_107 => some ((1 : Int32), s_107)) h1.1 ht gF 0 (by omega) (by unfold gF; omega)
    have hin := hFld_in h1.1.2.1 (t := t) nH (Nat.le_refl _)
    have h2 := RepB_put (c0 := 10) (i0 := t) (j0 := 0) (e0 := 4) (x := hFld (mSto (mSet σ 0 0) 18 j 1).2 t nH) h1 (mInv_put (k0 := 59) (j0 := t) (x := hFld (mSto (mSet σ 0 0) 18 j 1).2 t nH) h1.1 (by omega) (fun _ => ⟨by rw [mSto_at, if_pos ⟨rfl, rfl⟩]; exact hin, fun q => by omega⟩)) (sameR_put (by omega)) (mSto_ne _ _ _ _ (by decide)) ⟨ht, rfl⟩ hw_59
    refine opI_ok (r := 1) ?_ ?_ ?_ h2.rep
    rotate_right
    · exact mSet_0v σ 0
    · unfold K9_lift
      rw [if_neg (nI_pos (by omega)), if_pos h.k9, h.i9, if_pos (nI_lt hj (by omega)), s1, ob_some, if_pos s2, s3, if_pos o1, nI_clamp (by omega), q1, ob_some, if_pos q2, q5, if_pos c, bnd_eq, kR_setI, q3, ob_some, ob_some]
      unfold K9_heldFields
      rw [show (0 : Int32) = hFld (mSto (mSet σ 0 0) 18 j 1).2 t 0 from rfl, show hFld (mSto (mSet σ 0 0) 18 j 1).2 t 0 = nI 0 from rfl]
      rw [show K9_heldFields_L4 (kSetI μ (B 14 j 0) 2 1) a0 (B 10 t 0) (fun v2_55 => some v2_55) gF (nI 0) (nI 0) = some (hFld (mSto (mSet σ 0 0) 18 j 1).2 t nH) from eK, ob_some, if_pos t2, bnd_eq]
      rfl
    · unfold M_lift
      have a16 : (mSto (mSet σ 0 0) 18 j 1).2 16 j = nI t := by rw [mSto_at, if_neg (by omega)]; exact e16a
      rw [bnd_eq, if_neg (nI_pos (by omega)), e4, if_pos (nI_lt hj (by omega)), if_pos o1, nI_clamp (show j < 2 ^ 31 by omega), mSet_2, if_pos c, if_pos o1, bnd_eq, if_pos o1, bnd_eq, a16, if_pos ((okI_nI (by omega)).mpr (by omega)), bnd_eq, nI_clamp (show t < 2 ^ 31 by omega)]
      exact eM
  · refine opI_ok (r := 0) (μ' := μ) (σ' := mSet σ 0 0) ?_ ?_ (mSet_0v _ _) (Rep_code h.rep _)
    · unfold K9_lift
      rw [if_neg (nI_pos (by omega)), if_pos h.k9, h.i9, if_pos (nI_lt hj (by omega)), s1, ob_some, if_pos s2, s3, if_pos o1, nI_clamp (by omega), q1, ob_some, if_pos q2, q5, if_neg c]
    · unfold M_lift
      rw [bnd_eq, if_neg (nI_pos (by omega)), e4, if_pos (nI_lt hj (by omega)), if_pos o1, nI_clamp (by omega), mSet_2, if_neg c]
end HOLD
