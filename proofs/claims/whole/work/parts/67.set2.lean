section NEWSET2
variable {a0 : Nat} {μ ν μ1 : Km} {σ σ' σ1 τ : Ms} {B B' : Nat → Nat → Nat → Nat} {tg tg' : Nat → Nat × Nat × Nat} {nT nS nH nP nw nL R a m tp n dd : Nat} {A A' : Ar} {T : Nat → Int32} {d : Int32}
theorem vld_se (hm : m ≤ 24) {c i j : Nat} (h : vld (aSe τ nS m dd).2 nT (nS + 1) nH c i j) : vld (aSe τ nS m dd).2 nT nS nH c i j ∨ nSe nS m c i j := by
  by_cases e : i = nS ∧ 15 ≤ c ∧ c ≤ 21
  · obtain ⟨rfl, h1, h2⟩ := e
    refine Or.inr ⟨rfl, ?_⟩
    rcases (show c = 15 ∨ c = 16 ∨ c = 17 ∨ c = 18 ∨ c = 19 ∨ c = 20 ∨ c = 21 by omega) with rfl | rfl | rfl | rfl | rfl | rfl | rfl
    · exact Or.inl ⟨by omega, by omega, h.2⟩
    · exact Or.inl ⟨by omega, by omega, h.2⟩
    · exact Or.inl ⟨by omega, by omega, h.2⟩
    all_goals
      have h3 := h.2
      rw [aSe_25 hm] at h3
      exact Or.inr ⟨by omega, by omega, h3⟩
  · refine Or.inl ?_
    unfold vld at h ⊢
    split at h
    all_goals first | exact h | exact ⟨by omega, h.2⟩
theorem RepB_set (hB : RepB a0 μ1 σ1 B tg nT nS nH nP nw nL) (h8 : nS < 8) (hn : kn μ1 = a) (hd : dd ≤ 200000) (hm : m ≤ 24) (h : PI a (24 * nS) (nI dd) μ1 σ1 tp n T m ν τ) : RepB a0 (kSetI (kSetR ν (B 1 0 0) nS (some a)) a0 4 (nI (nS + 1))) (mSet (aSe τ nS m dd) 3 (nI (nS + 1))) (bSe B a nS) (tSe tg a nS) nT (nS + 1) nH nP nw nL := by
  obtain ⟨⟨hkn, hz⟩, hold, ⟨hst, hN0⟩, ⟨hd0, h2, h4, ht⟩, hru, hmf, hS⟩ := h
  have hl := lwA_fx hmf
  have hl' : lwA nS (aSe τ nS m dd).2 σ1.2 := aSe_lw hl
  have hg := hB.1.2.1
  have h30 := hB.nT30
  have lt : ∀ {c i j}, vld σ1.2 nT nS nH c i j → B c i j < a := fun hv => by rw [← hn]; exact hB.lt hv
  have hb1 : B 1 0 0 < a := lt ⟨by omega, rfl, rfl⟩
  have ha0 : a0 < a := by rw [← hB.2.1.1]; exact lt ⟨by omega, rfl, rfl⟩
  have tg1 := (hB.2.1.2.2.1 1 0 0 ⟨by omega, rfl, rfl⟩).2.2
  have tg22 := (hB.2.1.2.2.1 22 0 0 ⟨by omega, rfl, rfl⟩).2.2
  rw [hB.2.1.1] at tg22
  have f : ∀ k, k < 9 → τ.1 k = σ1.1 k := fun k hk => hmf.1 k (fun z => by have := z.1; omega) (by omega)
  obtain ⟨o1, ⟨o2, o3⟩, ⟨o4, o5⟩, o6, o7⟩ := hst
  refine RepB_grow (N := nSe nS m) hB (mInv_set hB.1 h8 hmf hm hd (fun j hj => (hru j hj).2)) ?_ (fun c i j hv => bSe_old hv) ?_ ?_ ?_ ?_ ?_ ?_
  · intro q hq
    exact hz q hq
  · intro q hq
    unfold tSe
    rw [if_pos (by omega)]
  · intro q hq
    exact (hold q (by omega)).1
  · intro c i j hv
    rcases vld_se hm (show vld (aSe τ nS m dd).2 nT (nS + 1) nH c i j from hv) with q | q
    · exact Or.inl ((vld_lw hl').mp q)
    · exact Or.inr q
  · rintro c i j ⟨rfl, q⟩
    show kK ν _ = _ ∧ kN ν _ = _ ∧ _
    rcases q with ⟨q1, q2, rfl⟩ | ⟨q1, q2, q3⟩
    · rw [bSe_1 q1 q2]
      have et : tSe tg a i (a + (c - 15)) = (c, i, 0) := by
        unfold tSe
        rw [if_neg (by omega), if_pos (by omega), show 15 + (a + (c - 15) - a) = c by omega]
      rw [et]
      rcases (show c = 15 ∨ c = 16 ∨ c = 17 by omega) with rfl | rfl | rfl
      · exact ⟨o1, hN0, rfl⟩
      · exact ⟨o4, o5, rfl⟩
      · exact ⟨o6, o7, rfl⟩
    · rw [bSe_2 q1 q2]
      have et : tSe tg a i (a + 4 + 4 * j + (c - 18)) = (c, i, j) := by
        unfold tSe
        rw [if_neg (by omega), if_neg (by omega), show 18 + (a + 4 + 4 * j + (c - 18) - a - 4) % 4 = c by omega, show (a + 4 + 4 * j + (c - 18) - a - 4) / 4 = j by omega]
      rw [et]
      obtain ⟨⟨w1, w2⟩, -⟩ := (hru j q3).2
      obtain ⟨r1, -, ⟨r2, r3⟩, ⟨r4, r5⟩, r6, r7⟩ := w1
      rcases (show c = 18 ∨ c = 19 ∨ c = 20 ∨ c = 21 by omega) with rfl | rfl | rfl | rfl
      · exact ⟨r1, w2, rfl⟩
      · exact ⟨r2, r3, rfl⟩
      · exact ⟨r4, r5, rfl⟩
      · exact ⟨r6, r7, rfl⟩
  · intro c i j e hr
    have hr' : rfv (aSe τ nS m dd).2 nT (nS + 1) nH c i j e := hr
    have e16 : rft (mSet (aSe τ nS m dd) 3 (nI (nS + 1))).2 (bSe B a nS) c i j e = rft σ1.2 (bSe B a nS) c i j e := rft_cg (fun _ => by rw [mSet_2, hl'.1 16 (by decide)])
    rw [kR_setI, kR_set, e16]
    by_cases old : rfv σ1.2 nT nS nH c i j e
    · have hv := rfv_vld old
      rw [bSe_old hv, rft_ext (fun c i j hv => bSe_old hv) (hg 16) h30 old, if_neg, (hold _ (lt hv)).2.1]
      · exact hB.2.1.2.2.2 c i j e old
      · rintro ⟨z1, z2⟩
        have w1 := (hB.2.1.2.2.1 c i j hv).2.2
        rw [z1, tg1] at w1
        simp only [Prod.mk.injEq] at w1
        obtain ⟨rfl, -, -⟩ := w1
        have : e < nS := old.1
        omega
    · have old' : ¬ rfv (aSe τ nS m dd).2 nT nS nH c i j e := fun z => old ((rfv_lw hl').mp z)
      unfold rfv at hr' old'
      split at hr'
      all_goals first | exact absurd hr' old' | exact hr'.elim | skip
      · obtain ⟨z1, rfl, rfl⟩ := hr'
        have ze : e = nS := by
          rcases Nat.lt_or_ge e nS with w | w
          · exact absurd ⟨w, rfl, rfl⟩ old'
          · omega
        subst ze
        rw [show bSe B a e 1 0 0 = B 1 0 0 by unfold bSe; rw [if_neg (by omega), if_neg (by omega)], if_pos ⟨rfl, rfl⟩]
        show _ = some (bSe B a e 15 e 0)
        rw [bSe_1 (by omega) (by omega)]
        rfl
      · obtain ⟨z1, rfl, z3⟩ := hr'
        have ze : i = nS := by
          rcases Nat.lt_or_ge i nS with w | w
          · exact absurd ⟨w, rfl, z3⟩ old'
          · omega
        subst ze
        rw [bSe_1 (by omega) (by omega), if_neg (by omega), show a + (15 - 15) = a by omega]
        rcases z3 with rfl | rfl
        · rw [o2]; show _ = some (bSe B a i 16 i 0); rw [bSe_1 (by omega) (by omega)]
        · rw [o3]; show _ = some (bSe B a i 17 i 0); rw [bSe_1 (by omega) (by omega)]
      · obtain ⟨z1, rfl, z3⟩ := hr'
        have ze : i = nS := by
          rcases Nat.lt_or_ge i nS with w | w
          · exact absurd ⟨w, rfl, z3⟩ old'
          · omega
        subst ze
        rw [aSe_25 hm] at z3
        rw [bSe_1 (by omega) (by omega), if_neg (by omega), show a + (16 - 15) = a + 1 by omega, (hru e z3).1]
        show _ = some (bSe B a i 18 i e)
        rw [bSe_2 (by omega) (by omega)]
        rfl
      · obtain ⟨z1, z2, z3⟩ := hr'
        have ze : i = nS := by
          rcases Nat.lt_or_ge i nS with w | w
          · exact absurd ⟨w, z2, z3⟩ old'
          · omega
        subst ze
        rw [aSe_25 hm] at z2
        obtain ⟨⟨w1, w2⟩, -⟩ := (hru j z2).2
        rw [bSe_2 (by omega) (by omega), if_neg (by omega), show a + 4 + 4 * j + (18 - 18) = a + 4 + 4 * j by omega]
        rcases z3 with rfl | rfl | rfl
        · rw [w1.2.1.1]; show _ = some (bSe B a i 19 i j); rw [bSe_2 (by omega) (by omega)]
        · rw [w1.2.1.2.1]; show _ = some (bSe B a i 20 i j); rw [bSe_2 (by omega) (by omega)]
        · rw [w1.2.1.2.2]; show _ = some (bSe B a i 21 i j); rw [bSe_2 (by omega) (by omega)]
  · intro c i j e hw
    have hw' : vwv (aSe τ nS m dd).2 nT (nS + 1) nH c i j e := hw
    rw [kI_set, kI_setR]
    by_cases old : vwv σ1.2 nT nS nH c i j e
    · have hv := vwv_vld old
      have old1 : vwv (aSe τ nS m dd).2 nT nS nH c i j e := (vwv_lw hg hl').mpr old
      have hne22 : B c i j = a0 → c = 22 ∧ i = 0 ∧ j = 0 := fun z => by
        have w1 := (hB.2.1.2.2.1 c i j hv).2.2
        rw [z, tg22] at w1
        simp only [Prod.mk.injEq] at w1
        exact ⟨w1.1.symm, w1.2.1.symm, w1.2.2.symm⟩
      rw [bSe_old hv, (hold _ (lt hv)).2.2, hv_3 (σ := aSe τ nS m dd) (nT := nT) (nS := nS) (nH := nH) c i j e old1, vwt_lw (σ := σ1) (σ' := aSe τ nS m dd) hg hl' f old]
      by_cases z : c = 22 ∧ i = 0 ∧ j = 0 ∧ e = 4
      · obtain ⟨rfl, rfl, rfl, rfl⟩ := z
        rw [if_pos ⟨hB.2.1.1, rfl⟩, if_pos ⟨rfl, rfl, rfl, rfl⟩]
      · rw [if_neg z, if_neg]
        · exact hB.2.2 c i j e old
        · rintro ⟨z1, z2⟩
          obtain ⟨w1, w2, w3⟩ := hne22 z1
          exact z ⟨w1, w2, w3, z2⟩
    · have old' : ¬ vwv (aSe τ nS m dd).2 nT nS nH c i j e := fun z => old ((vwv_lw hg hl').mp z)
      have A26 : ∀ k j, k ≠ 24 → k ≠ 25 → (aSe τ nS m dd).2 k j = τ.2 k j := fun k j z1 z2 => by rw [aSe_ne z1 z2]
      unfold vwv at hw' old'
      split at hw'
      all_goals first | exact absurd hw' old' | exact hw'.elim | skip
      · obtain ⟨z1, rfl, z3⟩ := hw'
        have ze : i = nS := by
          rcases Nat.lt_or_ge i nS with w | w
          · exact absurd ⟨w, rfl, z3⟩ old'
          · omega
        subst ze
        rw [bSe_1 (by omega) (by omega), if_neg (by omega), show a + (15 - 15) = a by omega]
        rcases z3 with rfl | rfl | rfl
        · show _ = (aSe τ i m dd).2 24 i
          rw [hd0, aSe_at, if_pos ⟨rfl, rfl⟩]
        · show _ = (aSe τ i m dd).2 25 i
          rw [h2, aSe_at, if_neg (by omega), if_pos ⟨rfl, rfl⟩]
        · show _ = nI (ord (aSe τ i m dd).2 i).length
          rw [h4, aSe_ord hm]
      · obtain ⟨z1, rfl, z3⟩ := hw'
        have ze : i = nS := by
          rcases Nat.lt_or_ge i nS with w | w
          · exact absurd ⟨w, rfl, z3⟩ old'
          · omega
        subst ze
        rw [aSe_ord hm] at z3
        rw [bSe_1 (by omega) (by omega), if_neg (by omega), show a + (17 - 15) = a + 2 by omega, ht e z3]
        show _ = nI ((ord (aSe τ i m dd).2 i).getD e 0)
        rw [aSe_ord hm]
      · obtain ⟨z1, z2, z3⟩ := hw'
        have ze : i = nS := by
          rcases Nat.lt_or_ge i nS with w | w
          · exact absurd ⟨w, z2, z3⟩ old'
          · omega
        subst ze
        rw [aSe_25 hm] at z2
        rw [A26 26 _ (by decide) (by decide)] at z3
        obtain ⟨-, w1, w2, w3, w4, ⟨i4, w5, w6⟩, w7⟩ := (hru j z2).2
        rw [bSe_2 (by omega) (by omega), if_neg (by omega), show a + 4 + 4 * j + (18 - 18) = a + 4 + 4 * j by omega]
        have v4 : e = 0 ∨ e = 1 ∨ e = 2 ∨ e = 3 ∨ e = 7 ∨ e = 8 ∨ (¬ τ.2 26 (24 * i + j) = 2 ∧ (e = 4 ∨ e = 5 ∨ e = 6)) := by
          rcases z3 with q | q | q | q
          · omega
          · exact Or.inr (Or.inr (Or.inr (Or.inr (Or.inl q))))
          · exact Or.inr (Or.inr (Or.inr (Or.inr (Or.inr (Or.inl q)))))
          · exact Or.inr (Or.inr (Or.inr (Or.inr (Or.inr (Or.inr q)))))
        rcases v4 with rfl | rfl | rfl | rfl | rfl | rfl | ⟨y1, rfl | rfl | rfl⟩
        · show _ = (aSe τ i m dd).2 26 (24 * i + j); rw [A26 _ _ (by decide) (by decide)]; exact w1.1
        · show _ = kbit ((aSe τ i m dd).2 27 (24 * i + j)); rw [A26 _ _ (by decide) (by decide)]; exact w2.1.1
        · show _ = fbit ((aSe τ i m dd).2 28 (24 * i + j)); rw [A26 _ _ (by decide) (by decide)]; exact w2.2.1
        · show _ = (aSe τ i m dd).2 32 (24 * i + j); rw [A26 _ _ (by decide) (by decide)]; exact w3.1
        · show _ = (aSe τ i m dd).2 33 (24 * i + j); rw [A26 _ _ (by decide) (by decide)]; exact w4.1
        · show _ = (aSe τ i m dd).2 34 (24 * i + j); rw [A26 _ _ (by decide) (by decide), w6.1, w6.2.1]
        · show _ = (aSe τ i m dd).2 29 (24 * i + j); rw [A26 _ _ (by decide) (by decide)]; exact (w7 y1).1.1
        · show _ = (aSe τ i m dd).2 30 (24 * i + j); rw [A26 _ _ (by decide) (by decide)]; exact (w7 y1).2.1.1
        · show _ = (aSe τ i m dd).2 31 (24 * i + j); rw [A26 _ _ (by decide) (by decide)]; exact (w7 y1).2.2.1
      all_goals
        obtain ⟨z1, z2, z3⟩ := hw'
        have ze : i = nS := by
          rcases Nat.lt_or_ge i nS with w | w
          · exact absurd ⟨w, z2, z3⟩ old'
          · omega
        subst ze
        rw [aSe_25 hm] at z2
        obtain ⟨-, w1, w2, w3, w4, ⟨i4, w5, w6⟩, w7⟩ := (hru j z2).2
        rw [A26 34 _ (by decide) (by decide), w6.2.1, nI_clamp (by omega)] at z3
        have t := w6.2.2 e z3
        rw [bSe_2 (by omega) (by omega), if_neg (by omega)]
      · rw [show a + 4 + 4 * j + (19 - 18) = a + 4 + 4 * j + 1 by omega, t.1.1]
        show _ = (aSe τ i m dd).2 35 (4 * (24 * i + j) + e)
        rw [A26 _ _ (by decide) (by decide)]
      · rw [show a + 4 + 4 * j + (20 - 18) = a + 4 + 4 * j + 2 by omega, t.2.1.1]
        show _ = (aSe τ i m dd).2 37 (4 * (24 * i + j) + e)
        rw [A26 _ _ (by decide) (by decide)]
      · rw [show a + 4 + 4 * j + (21 - 18) = a + 4 + 4 * j + 3 by omega, t.2.2.1]
        show _ = (aSe τ i m dd).2 36 (4 * (24 * i + j) + e)
        rw [A26 _ _ (by decide) (by decide)]
end NEWSET2
