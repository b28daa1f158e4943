/-! the call rules -/
section OPRULES
variable {a0 : Nat} {μ ν μ1 : Km} {σ σ' σ1 τ : Ms} {B B' : Nat → Nat → Nat → Nat} {tg tg' : Nat → Nat × Nat × Nat} {nT nS nH nP nw nL R a m tp n dd p : Nat} {A A' : Ar} {T : Nat → Int32} {d : Int32}
theorem K5_new (x : Int32) (hn : kn ν = p) : ∃ ν', K5_init (kNew ν 5 0) p x = some ν' ∧ kn ν' = p + 3 ∧ (∀ q, q < p → ceq ν' ν q) ∧ (∀ q, p + 3 ≤ q → kK ν' q = kK ν q) ∧ stO ν' p ∧ kN ν' p = 0 ∧ ∀ j, kI ν' p j = if j = 0 then x else 0 := by
  have kA : kK (kNew ν 5 0) p = 5 := by rw [kK_new, hn, if_pos rfl]
  have kB : kK (kNew (kSetI (kNew ν 5 0) p 0 x) 15 24) p = 5 := by rw [kK_new, kn_setI, kn_new, hn, if_neg (by omega), kK_setI, kA]
  have kC : kK (kNew (kSetR (kNew (kSetI (kNew ν 5 0) p 0 x) 15 24) p 1 (some (p + 1))) 12 24) p = 5 := by rw [kK_new, kn_setR, kn_new, kn_setI, kn_new, hn, if_neg (by omega), kK_setR, kB]
  refine ⟨kSetR (kNew (kSetR (kNew (kSetI (kNew ν 5 0) p 0 x) 15 24) p 1 (some (p + 1))) 12 24) p 3 (some (p + 1 + 1)), ?_, ?_, ?_⟩
  · unfold K5_init
    rw [if_pos kA, bnd_eq, bnd2_eq, kn_setI, kn_new, hn, if_pos kB, bnd_eq, bnd2_eq, kn_setR, kn_new, kn_setI, kn_new, hn, if_pos kC, bnd_eq]
  · rw [kn_setR, kn_new, kn_setR, kn_new, kn_setI, kn_new, hn]
  · generalize hν : kSetR (kNew (kSetR (kNew (kSetI (kNew ν 5 0) p 0 x) 15 24) p 1 (some (p + 1))) 12 24) p 3 (some (p + 1 + 1)) = ν'
    have fK : ∀ q, kK ν' q = if q = p + 1 + 1 then 12 else if q = p + 1 then 15 else if q = p then 5 else kK ν q := fun q => by
      rw [← hν, kK_setR, kK_new, kn_setR, kn_new, kn_setI, kn_new, kK_setR, kK_new, kn_setI, kn_new, kK_setI, kK_new, hn]
    have fN : ∀ q, kN ν' q = if q = p + 1 + 1 then 24 else if q = p + 1 then 24 else if q = p then 0 else kN ν q := fun q => by
      rw [← hν, kN_setR, kN_new, kn_setR, kn_new, kn_setI, kn_new, kN_setR, kN_new, kn_setI, kn_new, kN_setI, kN_new, hn]
    have fR : ∀ q j, kR ν' q j = if q = p ∧ j = 3 then some (p + 1 + 1) else if q = p + 1 + 1 then none else if q = p ∧ j = 1 then some (p + 1) else if q = p + 1 then none else if q = p then none else kR ν q j := fun q j => by
      rw [← hν, kR_set, kR_new, kn_setR, kn_new, kn_setI, kn_new, kR_set, kR_new, kn_setI, kn_new, kR_setI, kR_new, hn]
    have fI : ∀ q j, kI ν' q j = if q = p + 1 + 1 then 0 else if q = p + 1 then 0 else if q = p ∧ j = 0 then x else if q = p then 0 else kI ν q j := fun q j => by
      rw [← hν, kI_setR, kI_new, kn_setR, kn_new, kn_setI, kn_new, kI_setR, kI_new, kn_setI, kn_new, kI_set, kI_new, hn]
    refine ⟨fun q hq => ⟨⟨?_, ?_⟩, fun j => ?_, fun j => ?_⟩, fun q hq => ?_, ⟨?_, ⟨?_, ?_⟩, ⟨?_, ?_⟩, ?_, ?_⟩, ?_, fun j => ?_⟩
    · rw [fK, if_neg (by omega), if_neg (by omega), if_neg (by omega)]
    · rw [fN, if_neg (by omega), if_neg (by omega), if_neg (by omega)]
    · rw [fR, if_neg (by omega), if_neg (by omega), if_neg (by omega), if_neg (by omega), if_neg (by omega)]
    · rw [fI, if_neg (by omega), if_neg (by omega), if_neg (by omega), if_neg (by omega)]
    · rw [fK, if_neg (by omega), if_neg (by omega), if_neg (by omega)]
    · rw [fK, if_neg (by omega), if_neg (by omega), if_pos rfl]
    · rw [fR, if_neg (by omega), if_neg (by omega), if_pos ⟨rfl, rfl⟩]
    · rw [fR, if_pos ⟨rfl, rfl⟩]
    · rw [fK, if_neg (by omega), if_pos rfl]
    · rw [fN, if_neg (by omega), if_pos rfl]
    · rw [fK, if_pos rfl]
    · rw [fN, if_pos rfl]
    · rw [fN, if_neg (by omega), if_neg (by omega), if_pos rfl]
    · rw [fI, if_neg (by omega), if_neg (by omega)]
      by_cases z : j = 0
      · rw [if_pos ⟨rfl, z⟩, if_pos z]
      · rw [if_neg (fun w => z w.2), if_pos rfl, if_neg z]
theorem K4_new (hn : kn ν = p) (htp : tp < p) (h11 : kK ν tp = 11) (h1000 : kN ν tp = 1000) (hle : n ≤ 1000) : ∃ ν', K4_init (kNew ν 4 0) p tp (nI n) = some ν' ∧ kn ν' = p + 1 ∧ (∀ q, q < p → ceq ν' ν q) ∧ (∀ q, p + 1 ≤ q → kK ν' q = kK ν q) ∧ kK ν' p = 4 ∧ kR ν' p 0 = some tp ∧ ∀ j, kI ν' p j = if j = 1 then nI n else 0 := by
  have kA : kK (kNew ν 4 0) p = 4 := by rw [kK_new, hn, if_pos rfl]
  have kB : kK (kSetR (kNew ν 4 0) p 0 (some tp)) tp = 11 := by rw [kK_setR, kK_new, hn, if_neg (by omega), h11]
  have kC : kN (kSetR (kNew ν 4 0) p 0 (some tp)) tp = 1000 := by rw [kN_setR, kN_new, hn, if_neg (by omega), h1000]
  refine ⟨kSetI (kSetR (kNew ν 4 0) p 0 (some tp)) p 1 (nI n), ?_, ?_, ?_⟩
  · unfold K4_init
    rw [if_pos kA, bnd_eq, if_pos kB, kC, bnd_eq, if_neg (fun z => i_le_n (nI_le hle (by omega)) z)]
  · rw [kn_setI, kn_setR, kn_new, hn]
  · generalize hν : kSetI (kSetR (kNew ν 4 0) p 0 (some tp)) p 1 (nI n) = ν'
    have fK : ∀ q, kK ν' q = if q = p then 4 else kK ν q := fun q => by rw [← hν, kK_setI, kK_setR, kK_new, hn]
    have fN : ∀ q, kN ν' q = if q = p then 0 else kN ν q := fun q => by rw [← hν, kN_setI, kN_setR, kN_new, hn]
    have fR : ∀ q j, kR ν' q j = if q = p ∧ j = 0 then some tp else if q = p then none else kR ν q j := fun q j => by rw [← hν, kR_setI, kR_set, kR_new, hn]
    have fI : ∀ q j, kI ν' q j = if q = p ∧ j = 1 then nI n else if q = p then 0 else kI ν q j := fun q j => by rw [← hν, kI_set, kI_setR, kI_new, hn]
    refine ⟨fun q hq => ⟨⟨?_, ?_⟩, fun j => ?_, fun j => ?_⟩, fun q hq => ?_, ?_, ?_, fun j => ?_⟩
    · rw [fK, if_neg (by omega)]
    · rw [fN, if_neg (by omega)]
    · rw [fR, if_neg (by omega), if_neg (by omega)]
    · rw [fI, if_neg (by omega), if_neg (by omega)]
    · rw [fK, if_neg (by omega)]
    · rw [fK, if_pos rfl]
    · rw [fR, if_pos ⟨rfl, rfl⟩]
    · rw [fI]
      by_cases z : j = 1
      · rw [if_pos ⟨rfl, z⟩, if_pos z]
      · rw [if_neg (fun w => z w.2), if_pos rfl, if_neg z]
theorem RepB_40 (h : RepB a0 μ σ B tg nT nS nH nP nw nL) (x : Int32) : RepB a0 μ (mSet σ 40 x) B tg nT nS nH nP nw nL := h
theorem mInv_8 (h : mInv σ nT nS nH nP nw nL) (x : Int32) : mInv (mSet σ 8 x) nT nS nH nP nw nL := h
theorem RepB_8 (h : RepB a0 μ σ B tg nT nS nH nP nw nL) (x : Int32) : RepB a0 (kSetI μ a0 2 x) (mSet σ 8 x) B tg nT nS nH nP nw nL := by
  have h2 := RepB_put (σ' := mSet σ 8 x) (c0 := 22) (i0 := 0) (j0 := 0) (e0 := 2) (x := x) h (mInv_8 h.1 x) (fun _ _ _ => rfl) rfl ⟨by omega, rfl, rfl⟩ hv_8
  rw [h.2.1.1] at h2
  exact h2
theorem RepB_7 (h : RepB a0 μ σ B tg nT nS nH nP nw nL) : RepB a0 (kSetI μ a0 1 0) (mSet σ 7 0) B tg nT nS nH 0 nw nL := by
  have h2 := RepB_put (σ' := mSet σ 7 0) (c0 := 22) (i0 := 0) (j0 := 0) (e0 := 1) (x := 0) h (mInv_set7 (n := 0) h.1 (by omega)) (fun _ _ _ => rfl) rfl ⟨by omega, rfl, rfl⟩ hv_7
  rw [h.2.1.1] at h2
  exact h2
/-- a text is read -/
theorem read_both (hB : RepB a0 μ1 σ1 B tg nT nS nH nP nw nL) (h8 : nS < 8) (hle : n ≤ 1000) (hd : dd ≤ 200000) (hn : kn μ1 = a) : ∃ s53 s66 ν' τ' τ1 m', K5_init (kNew μ1 5 0) a (nI dd) = some s53 ∧ kn s53 = a + 3 ∧ (∀ q, q < a → ceq s53 μ1 q) ∧ K4_init (kNew s53 4 0) (a + 3) (B 0 0 0) (nI n) = some s66 ∧ kK s66 (a + 3) = 4 ∧ K4_readInto s66 (a + 3) a = some ν' ∧ M_step (mSet (mSet (mSet σ1 40 (nI n)) 39 0) 45 0) = some τ1 ∧ M_rules_L73 (nI dd) (kEnd (nI dd)) (kEnd (nI dd)) gF τ1 0 = kEnd (nI dd) τ' (nI m') ∧ ((m' ≤ 24 ∧ PI a (24 * nS) (nI dd) μ1 (mSet σ1 40 (nI n)) (B 0 0 0) n (σ1.2 38) m' ν' τ') ∨ PF a (24 * nS) μ1 (mSet σ1 40 (nI n)) ν' τ') := by
  have lt : ∀ {c i j}, vld σ1.2 nT nS nH c i j → B c i j < a := fun hv => by rw [← hn]; exact hB.lt hv
  have htp : B 0 0 0 < a := lt ⟨by omega, rfl, rfl⟩
  have t11 := hB.2.1.2.2.1 0 0 0 ⟨by omega, rfl, rfl⟩
  have k11 : kK μ1 (B 0 0 0) = 11 := t11.1
  have n11 : kN μ1 (B 0 0 0) = 1000 := t11.2.1
  obtain ⟨s53, a1, a2, a3, a4, a5, a6, a7⟩ := K5_new (ν := μ1) (nI dd) hn
  obtain ⟨s66, b1, b2, b3, b4, b5, b6, b7⟩ := K4_new (ν := s53) (p := a + 3) (tp := B 0 0 0) (n := n) a2 (by omega) (by rw [(a3 _ htp).1.1]; exact k11) (by rw [(a3 _ htp).1.2]; exact n11) hle
  have ct := b3 (B 0 0 0) (by omega)
  have ct2 := a3 (B 0 0 0) htp
  have rd0 : rdr s66 (a + 3) (B 0 0 0) n (σ1.2 38) := by
    refine ⟨⟨b5, b6, by rw [ct.1.1, ct2.1.1]; exact k11, by rw [ct.1.2, ct2.1.2]; exact n11⟩, by rw [b7, if_pos rfl], hle, fun j hj => ⟨?_, hB.1.2.1 38 j hj⟩⟩
    rw [ct.2.2, ct2.2.2]
    exact hB.2.2 0 0 0 j ⟨rfl, rfl, hj⟩
  have md0 : mrd (mSet (mSet (mSet σ1 40 (nI n)) 39 0) 45 0) n (σ1.2 38) := ⟨rfl, hle, rfl, fun j hj => hB.1.2.1 38 j hj⟩
  obtain ⟨ν2, τ2, c1, c2, c3, c4, c5⟩ := step_both rd0 md0 rfl (by rw [b7, if_neg (by decide)]) (p := 0) (Nat.zero_le _) (by rw [b7, if_neg (by decide)]; rfl) rfl
  have cq : ∀ q, q ≠ a + 3 → ceq ν2 s66 q := fun q hq => ceq_fr c4 (fun i z => hq z.1)
  have co : ∀ q, q < a + 3 → ceq ν2 s53 q := fun q hq => ceq_tr (cq q (by omega)) (b3 q hq)
  have p0 : PI a (24 * nS) (nI dd) μ1 (mSet σ1 40 (nI n)) (B 0 0 0) n (σ1.2 38) 0 ν2 τ2 := by
    refine ⟨⟨by rw [c4.1.2.2.2, b2], fun q hq => ?_⟩, fun q hq => ceq_tr (co q (by omega)) (a3 q hq), ⟨?_, ?_⟩, ⟨?_, ?_, ?_, fun e he => ?_⟩, fun j hj => by omega, ⟨fun k z1 z2 => ?_, fun k j z => ?_⟩, c3⟩
    · rw [c4.1.2.2.2, b2] at hq
      rw [c4.1.1, b4 q hq, a4 q (by omega)]
      exact hB.2.1.2.1 q (by omega)
    · have ca := co a (by omega)
      have ca1 := co (a + 1) (by omega)
      have ca2 := co (a + 2) (by omega)
      unfold stO
      rw [ca.1.1, ca.2.1, ca.2.1, ca1.1.1, ca1.1.2, ca2.1.1, ca2.1.2]
      exact a5
    · rw [(co a (by omega)).1.2]; exact a6
    · rw [(co a (by omega)).2.2, a7, if_pos rfl]
    · rw [(co a (by omega)).2.2, a7, if_neg (by decide)]; rfl
    · rw [(co a (by omega)).2.2, a7, if_neg (by decide)]; rfl
    · exact absurd he (by unfold lM oLst; simp)
    · rw [c5.1 k z1, mSet_at, if_neg (fun w => z1 (by rw [w]; exact sF_45)), mSet_at, if_neg (fun w => z1 (by rw [w]; exact sF_i (by omega)))]
    · rw [c5.2 k j (fun w => w)]; rfl
  obtain ⟨ν', τ', m', d1, d2, d3⟩ := loop_both (a2 := nI dd) rfl h8 htp (show (mSet σ1 40 (nI n)).1 3 = nI nS from hB.1.1.2.2.1) 26 gF 0 ν2 τ2 (by omega) (by unfold gF; omega) (by omega) p0
  refine ⟨s53, s66, ν', τ', τ2, m', a1, a2, a3, b1, b5, ?_, c2, d2, d3⟩
  unfold K4_readInto
  rw [if_pos b5, c1, ob_some]
  exact d1
theorem op_rules_ok : op_rules (Rep a0) a0 := by
  rintro μ σ a1 a2 ⟨B, tg, nT, nS, nH, nP, nw, nL, h⟩
  have h8 := h.nS8
  have hP : nP ≤ 1000 := h.1.1.2.2.2.2.2.2.2.1
  have e7 : (mSet σ 0 0).1 7 = nI nP := h.1.1.2.2.2.2.2.2.1
  have no : opI (Rep a0) (fun _ => 1) (fun b => !b) (some (.inr (false, μ))) (M_rules_B24 (mSet σ 0 0)) := opI_no (b := false) (r := 0) (μ' := μ) (σ' := mSet (mSet σ 0 0) 0 1) rfl rfl rfl (mSet_0v _ _) (Rep_code (Rep_code h.rep _) _)
  rcases i_day a2 with hx | ⟨dd, hd, rfl⟩
  · have eM : M_rules σ a1 a2 = M_rules_B24 (mSet σ 0 0) := by
      unfold M_rules
      rw [bnd_eq]
      by_cases c1 : a1 < 0
      · rw [if_pos c1]
      · rw [if_neg c1]
        by_cases c2 : (mSet σ 0 0).1 7 < a1
        · rw [if_pos c2]
        · rw [if_neg c2, M_isDay_no hx, ob_some, if_pos rfl]
    unfold K9_rules
    rw [K9_checkDay_no hx, bxv_no, eM]
    exact no
  unfold K9_rules M_rules K9_rules_B16
  rw [K9_checkDay_ok hd, bxv_ok]
  simp only [bnd_eq]
  rw [if_pos h.k9, h.i1, e7, M_isDay_ok hd, ob_some, if_neg (show ¬ (1 : Int32) = 0 by decide)]
  by_cases c1 : a1 < 0
  · rw [if_pos c1, if_pos c1]; exact no
  rw [if_neg c1, if_neg c1]
  by_cases c2 : a1 ≤ nI nP
  · obtain ⟨n, -, hn, rfl⟩ := i_rng (lo := 0) (hi := nP) c1 c2 (by omega) (by omega)
    rw [if_pos c2, if_neg (i_le_n c2)]
    have hB : RepB a0 (kSetI (kSetI μ a0 1 0) a0 2 (-1)) (mSet (mSet (mSet σ 0 0) 7 0) 8 (-1)) B tg nT nS nH 0 nw nL := RepB_8 (RepB_7 (RepB_code h 0)) (-1)
    generalize kSetI (kSetI μ a0 1 0) a0 2 (-1) = μ1 at hB ⊢
    have z0 : (mSet (mSet (mSet σ 0 0) 7 0) 8 (-1)).1 0 = 0 := rfl
    generalize mSet (mSet (mSet σ 0 0) 7 0) 8 (-1) = σ1 at hB z0 ⊢
    have f3 : σ1.1 3 = nI nS := hB.1.1.2.2.1
    rw [hB.i4, f3]
    by_cases c3 : nS = 8
    · rw [if_neg (show ¬ nI nS < (8 : Int32) by rw [c3]; decide), if_pos (show nI nS = (8 : Int32) by rw [c3]; rfl)]
      exact opI_ok rfl rfl z0 hB.rep
    have hS : nS < 8 := by omega
    rw [if_pos (show nI nS < (8 : Int32) from nI_lt (b := 8) hS (by omega)), if_neg (show ¬ nI nS = (8 : Int32) from fun z => c3 ((nI_eq (b := 8) (by omega) (by omega)).mp z))]
    generalize ha : kn μ1 = a
    have lt : ∀ {c i j}, vld σ1.2 nT nS nH c i j → B c i j < a := fun hv => by rw [← ha]; exact hB.lt hv
    have ha0 : a0 < a := by rw [← hB.2.1.1]; exact lt ⟨by omega, rfl, rfl⟩
    have hb1 : B 1 0 0 < a := lt ⟨by omega, rfl, rfl⟩
    obtain ⟨s53, s66, ν', τ', τ1, m', d1, d2, d3, d4, d5, d6, d7, d8, d9⟩ := read_both (n := n) hB hS (by omega) hd ha
    have k57 : kK (kNew s53 4 0) a0 = 9 := by rw [kK_new, d2, if_neg (by omega), (d3 a0 ha0).1.1]; exact hB.k9
    have r57 : kR (kNew s53 4 0) a0 0 = some (B 0 0 0) := by rw [kR_new, d2, if_neg (by omega), (d3 a0 ha0).2.1]; exact hB.r (by omega)
    rw [bnd2_eq, d1, ob_some, bnd2_eq, d2, if_pos k57, r57, ob_some, d4, ob_some, if_pos d5, d6, ob_some, d7, ob_some]
    have eL : M_rules_L73 (nI dd) (fun s_141 v3_141 => M_rules_B167 s_141 (nI dd) v3_141) (fun s_167 v3_167 => M_rules_B167 s_167 (nI dd) v3_167) gF τ1 (0 : Int32) = M_rules_B167 τ' (nI dd) (nI m') := d8
    rw [eL]
    unfold M_rules_B167
    have hB4 := RepB_40 hB (nI n)
    rcases d9 with ⟨hm, hPI⟩ | hPF
    · have hPI' := hPI
      obtain ⟨-, hold, ⟨hst, -⟩, -, -, hmf, hSy⟩ := hPI
      have t3 : τ'.1 3 = nI nS := (hmf.1 3 (fun z => by have := z.1; omega) (by decide)).trans f3
      have c0 := hold a0 ha0
      have c1' := hold (B 1 0 0) hb1
      obtain ⟨g1, g2, g3⟩ := hB.sets
      have i4 : kI ν' a0 4 = nI nS := by rw [c0.2.2]; exact hB.i4
      rw [if_pos (Sy_k4 hSy), Sy_f0 hSy, if_pos rfl, if_pos (by rw [c0.1.1]; exact hB.k9), c0.2.1, g1, ob_some, if_pos (by rw [c1'.1.1]; exact g2), if_pos hst.1, c1'.1.2, g3, i4, if_pos ((okI_nI (by omega)).mpr hS), nI_clamp (show nS < 2 ^ 31 by omega), kI_setR, i4, nI_1, kI_sm]
      rw [if_pos (Sy_bad hSy), t3, if_pos ((okI_nI (by omega)).mpr hS), nI_clamp (show nS < 2 ^ 31 by omega)]
      simp only [bnd_eq]
      have t3' : (mSto τ' 25 nS (nI m')).1 3 = nI nS := t3
      have t3'' : (mSto (mSto τ' 25 nS (nI m')) 24 nS (nI dd)).1 3 = nI nS := t3
      rw [t3', if_pos ((okI_nI (by omega)).mpr hS), nI_clamp (show nS < 2 ^ 31 by omega), t3'', nI_1, mSet_at, if_pos rfl]
      refine opI_ok rfl rfl ?_ (RepB_set hB4 hS ha hd hm hPI').rep
      rw [mSet_at, if_neg (by decide)]
      exact (hmf.1 0 (fun z => by have := z.1; omega) (by decide)).trans z0
    · obtain ⟨p1, p2, p3, p4, ⟨p5, p6, p7⟩, p8⟩ := hPF
      have c0 := p3 a0 ha0
      have r := RepB_8 (RepB_low hB4 p2 (fun q hq => p3 q (by omega)) (lwA_fx p4) (fun k hk => p4.1 k (fun z => by have := z.1; omega) (by omega)) (p4.1 54 (fun z => by have := z.2.1; omega) (by decide))) (τ'.1 46)
      rw [if_pos p8, p6, if_neg p5, if_pos (by rw [c0.1.1]; exact hB.k9), p7, kI_set, if_neg (by omega), p6, if_neg p5]
      simp only [bnd_eq]
      refine opI_ok rfl rfl ?_ r.rep
      rw [mSet_at, if_neg (by decide)]
      exact (p4.1 0 (fun z => by have := z.1; omega) (by decide)).trans z0
  · rw [if_neg c2, if_pos (i_nle c2)]
    exact no
end OPRULES
