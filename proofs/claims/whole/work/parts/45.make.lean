section MAKE
variable {a0 : Nat} {μ ν : Km} {σ σ' : Ms} {B B' : Nat → Nat → Nat → Nat} {tg tg' : Nat → Nat × Nat × Nat} {nT nS nH nP nw nL nT' nS' nH' nP' nw' nL' : Nat} {A A' : Ar}
theorem K8_init_Lp {Rt : Type} {kk : Km → Option Rt} {p r : Nat} : ∀ (F i : Nat) (ν : Km), i ≤ 4 → 4 < i + F → kK ν p = 8 → kR ν p 2 = some r → kK ν r = 12 → kN ν r = 4 → ∃ ν', K8_init_L25 p kk F ν (nI i) = kk ν' ∧ (kK ν' = kK ν ∧ kR ν' = kR ν ∧ kN ν' = kN ν ∧ kn ν' = kn ν) ∧ ∀ q j, kI ν' q j = if q = r ∧ i ≤ j ∧ j < 4 then -1 else kI ν q j := by
  intro F
  induction F with
  | zero => intro i ν h1 h2; omega
  | succ F ih =>
    intro i ν h1 h2 k1 k2 k3 k4
    unfold K8_init_L25
    rw [show (4 : Int32) = nI 4 from rfl]
    by_cases hi : i = 4
    · subst hi
      rw [if_pos (nI_le (Nat.le_refl _) (by omega))]
      exact ⟨ν, rfl, ⟨rfl, rfl, rfl, rfl⟩, fun q j => by rw [if_neg (by omega)]⟩
    · obtain ⟨ν', e, e1, e2⟩ := ih (i + 1) (kSetI ν r i (-1)) (by omega) (by omega) k1 k2 k3 k4
      rw [if_neg (nI_ge (by omega) (by omega)), if_pos k1, k2, ob_some, if_pos k3, k4, if_pos ((okI_nI (by omega)).mpr (by omega)), nI_clamp (by omega), bnd_eq, nI_1]
      refine ⟨ν', e, e1, fun q j => ?_⟩
      rw [e2, kI_set]
      by_cases c1 : q = r ∧ i + 1 ≤ j ∧ j < 4
      · rw [if_pos c1, if_pos ⟨c1.1, by omega, c1.2.2⟩]
      · rw [if_neg c1]
        by_cases c2 : q = r ∧ j = i
        · rw [if_pos c2, if_pos ⟨c2.1, by omega, by omega⟩]
        · rw [if_neg c2, if_neg (fun z => by rcases Nat.lt_or_ge i j with w | w; exact c1 ⟨z.1, w, z.2.2⟩; exact c2 ⟨z.1, by omega⟩)]
theorem K8_init_eq {p : Nat} {x : Int32} (hp : p < kn ν) (hk : kK ν p = 8) : ∃ ν', K8_init ν p x = some ν' ∧ kn ν' = kn ν + 3 ∧ (∀ q, kK ν' q = if q = kn ν ∨ q = kn ν + 1 ∨ q = kn ν + 2 then 12 else kK ν q) ∧ (∀ q, kN ν' q = if q = kn ν + 2 then 8 else if q = kn ν ∨ q = kn ν + 1 then 4 else kN ν q) ∧ (∀ q j, q < kn ν → q ≠ p → kR ν' q j = kR ν q j) ∧ (kR ν' p 1 = some (kn ν) ∧ kR ν' p 2 = some (kn ν + 1) ∧ kR ν' p 3 = some (kn ν + 2)) ∧ (∀ q j, q < kn ν → kI ν' q j = if q = p ∧ j = 0 then x else kI ν q j) ∧ (∀ j, kI ν' (kn ν) j = 0) ∧ (∀ j, j < 4 → kI ν' (kn ν + 1) j = -1) ∧ ∀ j, kI ν' (kn ν + 2) j = 0 := by
  generalize hn : kn ν = n at hp
  generalize hν1 : kSetR (kNew (kSetR (kNew (kSetI ν p 0 x) 12 4) p 1 (some n)) 12 4) p 2 (some (n + 1)) = ν1
  have n1 : kn ν1 = n + 2 := by rw [← hν1, kn_setR, kn_new, kn_setR, kn_new, kn_setI, hn]
  have kk1 : ∀ q, kK ν1 q = if q = n + 1 then 12 else if q = n then 12 else kK ν q := fun q => by
    rw [← hν1, kK_setR, kK_new, kn_setR, kn_new, kn_setI, kK_setR, kK_new, kn_setI, kK_setI, hn]
  have nn1 : ∀ q, kN ν1 q = if q = n + 1 then 4 else if q = n then 4 else kN ν q := fun q => by
    rw [← hν1, kN_setR, kN_new, kn_setR, kn_new, kn_setI, kN_setR, kN_new, kn_setI, kN_setI, hn]
  have rr1 : ∀ q j, kR ν1 q j = if q = p ∧ j = 2 then some (n + 1) else if q = n + 1 then none else if q = p ∧ j = 1 then some n else if q = n then none else kR ν q j := fun q j => by
    rw [← hν1, kR_set, kR_new, kn_setR, kn_new, kn_setI, kR_set, kR_new, kn_setI, kR_setI, hn]
  have ii1 : ∀ q j, kI ν1 q j = if q = n + 1 then 0 else if q = n then 0 else if q = p ∧ j = 0 then x else kI ν q j := fun q j => by
    rw [← hν1, kI_setR, kI_new, kn_setR, kn_new, kn_setI, kI_setR, kI_new, kn_setI, kI_set, hn]
  have k1 : kK ν1 p = 8 := by rw [kk1, if_neg (by omega), if_neg (by omega), hk]
  obtain ⟨ν2, e, ⟨e1, e2, e3, e4⟩, e5⟩ := K8_init_Lp (kk := fun s_43 => bnd2 (kn s_43) (kNew s_43 12 8) (fun q_46 s_46 => if kK s_46 p = 8 then bnd (kSetR s_46 p 3 (some q_46)) (fun s_48 => some s_48) else none)) (p := p) (r := n + 1) gF 0 ν1 (by omega) (by unfold gF; omega) k1 (by rw [rr1, if_pos ⟨rfl, rfl⟩]) (by rw [kk1, if_pos rfl]) (by rw [nn1, if_pos rfl])
  refine ⟨kSetR (kNew ν2 12 8) p 3 (some (n + 2)), ?_, ?_, fun q => ?_, fun q => ?_, fun q j h1 h2 => ?_, ⟨?_, ?_, ?_⟩, fun q j h1 => ?_, fun j => ?_, fun j hj => ?_, fun j => ?_⟩
  · unfold K8_init
    have kA : kK (kNew (kSetI ν p 0 x) 12 4) p = 8 := by rw [kK_new, kn_setI, hn, if_neg (by omega), kK_setI, hk]
    have kB : kK (kNew (kSetR (kNew (kSetI ν p 0 x) 12 4) p 1 (some n)) 12 4) p = 8 := by rw [kK_new, kn_setR, kn_new, kn_setI, hn, if_neg (by omega), kK_setR, kA]
    have kC : kK (kNew ν2 12 8) p = 8 := by rw [kK_new, e4, n1, if_neg (by omega), e1, k1]
    rw [if_pos hk, bnd_eq, bnd2_eq, kn_setI, hn, if_pos kA, bnd_eq, bnd2_eq, kn_setR, kn_new, kn_setI, hn, if_pos kB, bnd_eq, hν1]
    rw [show (0 : Int32) = nI 0 from rfl, e, bnd2_eq, if_pos kC, bnd_eq, e4, n1]
  · rw [kn_setR, kn_new, e4, n1]
  · rw [kK_setR, kK_new, e4, n1, e1, kk1]
    by_cases c1 : q = n + 2
    · rw [if_pos c1, if_pos (by omega)]
    · by_cases c2 : q = n + 1
      · rw [if_neg c1, if_pos c2, if_pos (by omega)]
      · by_cases c3 : q = n
        · rw [if_neg c1, if_neg c2, if_pos c3, if_pos (by omega)]
        · rw [if_neg c1, if_neg c2, if_neg c3, if_neg (by omega)]
  · rw [kN_setR, kN_new, e4, n1, e3, nn1]
    by_cases c1 : q = n + 2
    · rw [if_pos c1, if_pos (by omega)]
    · by_cases c2 : q = n + 1
      · rw [if_neg c1, if_pos c2, if_neg c1, if_pos (by omega)]
      · by_cases c3 : q = n
        · rw [if_neg c1, if_neg c2, if_pos c3, if_neg c1, if_pos (by omega)]
        · rw [if_neg c1, if_neg c2, if_neg c3, if_neg c1, if_neg (by omega)]
  · rw [kR_set, if_neg (fun z => h2 z.1), kR_new, e4, n1, if_neg (by omega), e2, rr1, if_neg (fun z => h2 z.1), if_neg (by omega), if_neg (fun z => h2 z.1), if_neg (by omega)]
  · rw [kR_set, if_neg (by omega), kR_new, e4, n1, if_neg (by omega), e2, rr1, if_neg (by omega), if_neg (by omega), if_pos ⟨rfl, rfl⟩]
  · rw [kR_set, if_neg (by omega), kR_new, e4, n1, if_neg (by omega), e2, rr1, if_pos ⟨rfl, rfl⟩]
  · rw [kR_set, if_pos ⟨rfl, rfl⟩]
  · rw [kI_setR, kI_new, e4, n1, if_neg (by omega), e5, if_neg (by omega), ii1, if_neg (by omega), if_neg (by omega)]
  · rw [kI_setR, kI_new, e4, n1, if_neg (by omega), e5, if_neg (by omega), ii1, if_neg (by omega), if_pos rfl]
  · rw [kI_setR, kI_new, e4, n1, if_neg (by omega), e5, if_pos ⟨rfl, by omega, hj⟩]
  · rw [kI_setR, kI_new, e4, n1, if_pos rfl]
theorem mInv_thing (h : mInv σ nT nS nH nP nw nL) (hT : nT < 30) {k : Nat} (hk : k < 4) : mInv (mSet (mSto σ 9 nT (nI k)) 2 (nI (nT + 1))) (nT + 1) nS nH nP nw nL := by
  obtain ⟨⟨c1, c2, c3, c4⟩, h2, h3⟩ := h
  refine ⟨⟨?_, by omega, ?_⟩, fun k' j => ?_, fun t ht => ?_⟩
  · rw [mSet_at, if_pos rfl]
  · simp only [mSet_at, mSto_1]
    exact ⟨c3, c4⟩
  · have g := h2 k' j
    simp only [mSet_2]
    by_cases e : k' = 9 ∧ j = nT
    · obtain ⟨rfl, rfl⟩ := e
      intro _
      rw [mSto_at, if_pos ⟨rfl, rfl⟩]
      exact ⟨k, hk, rfl⟩
    · have g' : mRg (mSto σ 9 nT (nI k)).2 nT nS nH k' j := by
        rw [mRg_cg (A := σ.2) (mSto_ne _ _ _ _ (by decide)) (mSto_ne _ _ _ _ (by decide)) (mSto_ne _ _ _ _ (by decide)) (by rw [mSto_at, if_neg e])]
        exact g
      unfold mRg at g' ⊢
      split at g'
      · exact fun z => g' (by omega)
      · exact fun z => ⟨(g' z).1, fun w => (g' z).2 (by omega)⟩
      · exact fun z => ⟨(g' z).1, fun w => (g' z).2 (by omega)⟩
      · exact fun z => ⟨(g' z).1, fun w => (g' z).2 (by omega)⟩
      · exact fun z => ⟨(g' z).1, fun w => (g' z).2 (by omega)⟩
      · exact g'
      · exact g'
      · intro z
        obtain ⟨v, hv, ev⟩ := g' z
        exact ⟨v, by omega, ev⟩
      all_goals first | exact g' | exact fun z => ⟨(g' z).1, fun w => (g' z).2 (by omega)⟩
  · have g := h3 t ht
    simp only [mSet_2, mSet_at]
    rw [mSto_ne _ _ _ _ (show 55 ≠ 9 by decide), mSto_ne _ _ _ _ (show 56 ≠ 9 by decide), mSto_ne _ _ _ _ (show 57 ≠ 9 by decide), mSto_ne _ _ _ _ (show 58 ≠ 9 by decide), mSto_1, if_neg (by decide)]
    rcases g with g | ⟨g1, g2, g3, g4⟩
    · exact Or.inl g
    · refine Or.inr ⟨g1, by omega, g3, fun f hf => ?_⟩
      rw [mSpan_cg h2 c4.1 (sameR_put (by omega)) g3 (by rw [mSto_at, if_neg (by omega)]) (fun a _ => by rw [mSto_ne _ _ _ _ (show 10 ≠ 9 by decide)]) (fun a _ => by rw [mSto_ne _ _ _ _ (show 11 ≠ 9 by decide)])]
      exact g4 f hf
def bTh (B : Nat → Nat → Nat → Nat) (n t : Nat) (c i j : Nat) : Nat := if i = t ∧ j = 0 ∧ 10 ≤ c ∧ c ≤ 13 then n + (c - 10) else B c i j
def tTh (tg : Nat → Nat × Nat × Nat) (n t : Nat) (q : Nat) : Nat × Nat × Nat := if n ≤ q then (10 + (q - n), t, 0) else tg q
theorem bTh_old {n : Nat} {c i j : Nat} (h : vld A nT nS nH c i j) : bTh B n nT c i j = B c i j := by
  unfold bTh
  rw [if_neg]
  rintro ⟨h1, h2, h3, h4⟩
  rcases (show c = 10 ∨ c = 11 ∨ c = 12 ∨ c = 13 by omega) with rfl | rfl | rfl | rfl <;> (have h5 : i < nT := h.1; omega)
theorem bTh_new {n t c : Nat} (h1 : 10 ≤ c) (h2 : c ≤ 13) : bTh B n t c t 0 = n + (c - 10) := by
  unfold bTh
  rw [if_pos ⟨rfl, rfl, h1, h2⟩]
theorem vld_th {c i j : Nat} (h : vld A (nT + 1) nS nH c i j) : vld A nT nS nH c i j ∨ (i = nT ∧ j = 0 ∧ 10 ≤ c ∧ c ≤ 13) := by
  by_cases e : i = nT ∧ j = 0 ∧ 10 ≤ c ∧ c ≤ 13
  · exact Or.inr e
  · refine Or.inl ?_
    unfold vld at h ⊢
    split at h
    all_goals first | exact h | exact ⟨by omega, h.2⟩
theorem op_thing_ok : op_thing (Rep a0) a0 := by
  rintro μ σ a1 ⟨B, tg, nT, nS, nH, nP, nw, nL, h⟩
  have h30 := h.nT30
  have h8 := h.nS8
  have h40 := h.nH40
  have e2 : (mSet σ 0 0).1 2 = nI nT := h.1.1.1
  have no : opN (Rep a0) (some (-1, μ)) (some (-1, mSet σ 0 0)) := ⟨-1, μ, mSet σ 0 0, rfl, rfl, Rep_code h.rep _⟩
  unfold K9_thing M_thing K9_thing_B18 M_thing_B23
  rw [if_pos h.k9, h.i6, bnd_eq, e2]
  by_cases c1 : nT = 30
  · rw [if_pos (by rw [c1]; decide), if_pos (by rw [c1]; rfl)]; exact no
  have hT : nT < 30 := by omega
  rw [show (30 : Int32) = nI 30 from rfl, if_neg (nI_ge hT (by omega)), if_neg (fun z => c1 ((nI_eq (by omega) (by omega)).mp z))]
  by_cases c2 : a1 < 0
  · rw [if_pos c2, if_pos c2]; exact no
  rw [if_neg c2, if_neg c2]
  by_cases c3 : a1 < 4
  · obtain ⟨k, -, hk, rfl⟩ := i_rng (lo := 0) (hi := 4) c2 (i_lt_le c3) (by omega) (by omega)
    have hk4 : k < 4 := by
      have c4 : nI k < nI 4 := c3
      rw [nI_ltI (by omega) (by omega)] at c4
      exact c4
    obtain ⟨g1, g2, g3⟩ := h.thgs
    generalize hn : kn μ = n
    have lt : ∀ {c i j}, vld σ.2 nT nS nH c i j → B c i j < n := fun hv => by rw [← hn]; exact h.lt hv
    have hb2 : B 2 0 0 < n := lt ⟨by omega, rfl, rfl⟩
    have ha0 : a0 < n := by rw [← h.2.1.1]; exact lt ⟨by omega, rfl, rfl⟩
    have hne : B 2 0 0 ≠ a0 := fun z => by have q1 := h.k9; rw [← z, g2] at q1; cases q1
    obtain ⟨ν, eK, q1, q2, q3, q4, ⟨r1, r2, r3⟩, q5, q6, q7, q8⟩ := K8_init_eq (ν := kNew μ 8 0) (p := n) (x := nI k) (by rw [kn_new, hn]; omega) (by rw [kK_new, hn, if_pos rfl])
    rw [kn_new, hn] at q1 q2 q3 q4 r1 r2 r3 q5 q6 q7 q8
    have K0 : ∀ q, q < n → kK ν q = kK μ q ∧ kN ν q = kN μ q := fun q hq => by
      rw [q2, q3, if_neg (by omega), if_neg (by omega), if_neg (by omega), kK_new, kN_new, hn, if_neg (by omega), if_neg (by omega)]; exact ⟨rfl, rfl⟩
    have R0 : ∀ q j, q < n → kR ν q j = kR μ q j := fun q j hq => by
      rw [q4 q j (by omega) (by omega), kR_new, hn, if_neg (by omega)]
    have I0 : ∀ q j, q < n → kI ν q j = kI μ q j := fun q j hq => by
      rw [q5 q j (by omega), if_neg (by omega), kI_new, hn, if_neg (by omega)]
    have kn0 : kK ν n = 8 := by rw [q2, if_neg (by omega), kK_new, hn, if_pos rfl]
    have nn0 : kN ν n = 0 := by rw [q3, if_neg (by omega), if_neg (by omega), kN_new, hn, if_pos rfl]
    have i0n : ∀ j, kI ν n j = if j = 0 then nI k else 0 := fun j => by
      rw [q5 n j (by omega)]
      by_cases z : j = 0
      · rw [if_pos ⟨rfl, z⟩, if_pos z]
      · rw [if_neg (fun w => z w.2), if_neg z, kI_new, hn, if_pos rfl]
    have ia6 : kI ν a0 6 = nI nT := by rw [I0 a0 6 ha0]; exact h.i6
    rw [if_pos c3, g1, ob_some, bnd2_eq, eK, ob_some, if_pos (by rw [(K0 _ hb2).1]; exact g2), if_pos kn0, (K0 _ hb2).2, g3, if_pos ((okI_nI (by omega)).mpr hT), nI_clamp (show nT < 2 ^ 31 by omega), bnd_eq, if_pos (by rw [kK_setR, (K0 _ ha0).1]; exact h.k9), bnd_eq, kI_set, if_pos ⟨rfl, rfl⟩, kI_setR, ia6, nI_1]
    rw [if_pos (show nI k ≤ (3 : Int32) from nI_le (a := k) (b := 3) (by omega) (by omega)), if_pos ((okI_nI (by omega)).mpr hT), bnd_eq, bnd_eq, mSet_at, if_pos rfl, mSto_1, e2, nI_1]
    refine ⟨_, _, _, rfl, rfl, bTh B n nT, tTh tg n nT, nT + 1, nS, nH, nP, nw, nL, ?_⟩
    have hI := mInv_thing (mInv_code h.1 0) hT hk4
    have hRs : sameR (mSet (mSto (mSet σ 0 0) 9 nT (nI k)) 2 (nI (nT + 1))).2 σ.2 := sameR_put (by omega)
    have lt' : ∀ {c i j}, vld (mSet (mSto (mSet σ 0 0) 9 nT (nI k)) 2 (nI (nT + 1))).2 nT nS nH c i j → vld σ.2 nT nS nH c i j := fun hv => by rw [vld_cg hRs] at hv; exact hv
    refine RepB_grow (N := fun c i j => i = nT ∧ j = 0 ∧ 10 ≤ c ∧ c ≤ 13) h hI ?_ (fun c i j hv => bTh_old hv) ?_ ?_ ?_ ?_ ?_ ?_
    · intro q hq
      rw [kn_setI, kn_setR, q1] at hq
      rw [kK_setI, kK_setR, q2, if_neg (by omega), kK_new, hn, if_neg (by omega)]
      exact h.2.1.2.1 q (by omega)
    · intro q hq
      unfold tTh
      rw [if_neg (by omega)]
    · intro q hq
      rw [kK_setI, kK_setR, kN_setI, kN_setR]
      exact K0 q (by omega)
    · intro c i j hv
      rcases vld_th hv with q | q
      · exact Or.inl (lt' q)
      · exact Or.inr q
    · rintro c i j ⟨rfl, rfl, hc1, hc2⟩
      rw [kK_setI, kK_setR, kN_setI, kN_setR]
      unfold bTh tTh
      rw [if_pos ⟨rfl, rfl, hc1, hc2⟩, if_pos (by omega)]
      rcases (show c = 10 ∨ c = 11 ∨ c = 12 ∨ c = 13 by omega) with rfl | rfl | rfl | rfl
      · refine ⟨?_, ?_, ?_⟩
        · rw [show n + (10 - 10) = n by omega, kn0]; rfl
        · rw [show n + (10 - 10) = n by omega, nn0]; rfl
        · rw [show n + (10 - 10) - n = 0 by omega]
      · refine ⟨?_, ?_, ?_⟩
        · rw [show n + (11 - 10) = n + 1 by omega, q2, if_pos (by omega)]; rfl
        · rw [show n + (11 - 10) = n + 1 by omega, q3, if_neg (by omega), if_pos (by omega)]; rfl
        · rw [show n + (11 - 10) - n = 1 by omega]
      · refine ⟨?_, ?_, ?_⟩
        · rw [show n + (12 - 10) = n + 2 by omega, q2, if_pos (by omega)]; rfl
        · rw [show n + (12 - 10) = n + 2 by omega, q3, if_neg (by omega), if_pos (by omega)]; rfl
        · rw [show n + (12 - 10) - n = 2 by omega]
      · refine ⟨?_, ?_, ?_⟩
        · rw [show n + (13 - 10) = n + 3 by omega, q2, if_pos (by omega)]; rfl
        · rw [show n + (13 - 10) = n + 3 by omega, q3, if_pos (by omega)]; rfl
        · rw [show n + (13 - 10) - n = 3 by omega]
    · intro c i j e hr
      rw [kR_setI, kR_set]
      rw [rfv_cg hRs] at hr
      have e16 : rft (mSet (mSto (mSet σ 0 0) 9 nT (nI k)) 2 (nI (nT + 1))).2 (bTh B n nT) c i j e = rft σ.2 (bTh B n nT) c i j e := rft_cg (fun _ => by rw [mSet_2, mSto_ne _ _ _ _ (by decide)]; rfl)
      rw [e16]
      by_cases hold : rfv σ.2 nT nS nH c i j e
      · have hv := rfv_vld hold
        rw [bTh_old hv, rft_ext (fun c i j hv => bTh_old hv) (h.1.2.1 16) h30 hold, if_neg, R0 _ _ (lt hv)]
        · exact h.2.1.2.2.2 c i j e hold
        · rintro ⟨z1, z2⟩
          have w1 := (h.2.1.2.2.1 c i j hv).2.2
          have w2 := (h.2.1.2.2.1 2 0 0 ⟨by omega, rfl, rfl⟩).2.2
          rw [z1, w2] at w1
          simp only [Prod.mk.injEq] at w1
          obtain ⟨rfl, -, -⟩ := w1
          have : e < nT := hold.1
          omega
      · unfold rfv at hr hold
        split at hr
        all_goals first | exact absurd hr hold | exact hr.elim | skip
        · obtain ⟨z1, rfl, rfl⟩ := hr
          have ze : e = nT := by
            rcases Nat.lt_or_ge e nT with w | w
            · exact absurd ⟨w, rfl, rfl⟩ hold
            · omega
          subst ze
          rw [show bTh B n e 2 0 0 = B 2 0 0 by unfold bTh; rw [if_neg (by omega)], if_pos ⟨rfl, rfl⟩]
          show _ = some (bTh B n e 10 e 0)
          rw [bTh_new (by omega) (by omega)]
          rfl
        · obtain ⟨z1, rfl, z3⟩ := hr
          have ze : i = nT := by
            rcases Nat.lt_or_ge i nT with w | w
            · exact absurd ⟨w, rfl, z3⟩ hold
            · omega
          subst ze
          have eb : bTh B n i 10 i 0 = n := bTh_new (by omega) (by omega)
          rw [eb, if_neg (by omega)]
          rcases z3 with rfl | rfl | rfl
          · rw [r1]; show _ = some (bTh B n i 11 i 0); rw [bTh_new (by omega) (by omega)]
          · rw [r2]; show _ = some (bTh B n i 12 i 0); rw [bTh_new (by omega) (by omega)]
          · rw [r3]; show _ = some (bTh B n i 13 i 0); rw [bTh_new (by omega) (by omega)]
    · intro c i j e hw
      rw [kI_set, kI_setR]
      rw [vwv_cg hRs] at hw
      by_cases hold : vwv σ.2 nT nS nH c i j e
      · have hv := vwv_vld hold
        have hne22 : B c i j = a0 → c = 22 ∧ i = 0 ∧ j = 0 := fun z => by
          have w1 := (h.2.1.2.2.1 c i j hv).2.2
          have w2 := (h.2.1.2.2.1 22 0 0 ⟨by omega, rfl, rfl⟩).2.2
          rw [h.2.1.1] at w2
          rw [z, w2] at w1
          simp only [Prod.mk.injEq] at w1
          exact ⟨w1.1.symm, w1.2.1.symm, w1.2.2.symm⟩
        have ev : vwt (mSet (mSto (mSet σ 0 0) 9 nT (nI k)) 2 (nI (nT + 1))) c i j e = if c = 22 ∧ i = 0 ∧ j = 0 ∧ e = 6 then nI (nT + 1) else vwt σ c i j e := by
          rw [hv_2 (σ := mSto (mSet σ 0 0) 9 nT (nI k)) (nT := nT) (nS := nS) (nH := nH) c i j e (show vwv (mSet (mSto (mSet σ 0 0) 9 nT (nI k)) 2 (nI (nT + 1))).2 nT nS nH c i j e by rw [vwv_cg (A := σ.2) hRs]; exact hold), hw_9 (σ := mSet σ 0 0) (nT := nT) (nS := nS) (nH := nH) c i j e hold]
          by_cases z : c = 22 ∧ i = 0 ∧ j = 0 ∧ e = 6
          · rw [if_pos z, if_pos z]
          · rw [if_neg z, if_neg z, if_neg]
            · rfl
            · rintro ⟨rfl, rfl, -, -⟩
              have : i < i := hold.1
              omega
        rw [bTh_old hv, ev, I0 _ _ (lt hv)]
        by_cases z : c = 22 ∧ i = 0 ∧ j = 0 ∧ e = 6
        · obtain ⟨rfl, rfl, rfl, rfl⟩ := z
          rw [if_pos ⟨h.2.1.1, rfl⟩, if_pos ⟨rfl, rfl, rfl, rfl⟩]
        · rw [if_neg z, if_neg]
          · exact h.2.2 c i j e hold
          · rintro ⟨z1, z2⟩
            obtain ⟨w1, w2, w3⟩ := hne22 z1
            exact z ⟨w1, w2, w3, z2⟩
      · unfold vwv at hw hold
        split at hw
        all_goals first | exact absurd hw hold | exact hw.elim | skip
        all_goals
          obtain ⟨z1, rfl, z3⟩ := hw
          have ze : i = nT := by
            rcases Nat.lt_or_ge i nT with w | w
            · exact absurd ⟨w, rfl, z3⟩ hold
            · omega
          subst ze
          rw [bTh_new (by omega) (by omega), if_neg (by omega)]
        · rw [show n + (10 - 10) = n by omega, i0n]
          rcases z3 with rfl | rfl | rfl
          · show _ = (mSto (mSet σ 0 0) 9 i (nI k)).2 9 i
            rw [if_pos rfl, mSto_at, if_pos ⟨rfl, rfl⟩]
          · show _ = (mSto (mSet σ 0 0) 9 i (nI k)).2 59 i
            rw [if_neg (by decide), mSto_at, if_neg (by omega)]
            exact ((h.1.2.1 59 i (by omega)).2 (by omega)).symm
          · show _ = (mSto (mSet σ 0 0) 9 i (nI k)).2 13 i
            rw [if_neg (by decide), mSto_at, if_neg (by omega)]
            exact ((h.1.2.1 13 i (by omega)).2 (by omega)).symm
        · rw [show n + (11 - 10) = n + 1 by omega, q6]
          show _ = (mSto (mSet σ 0 0) 9 i (nI k)).2 10 (4 * i + e)
          rw [mSto_at, if_neg (by omega)]
          exact ((h.1.2.1 10 (4 * i + e) (by omega)).2 (by omega)).symm
        · rw [show n + (12 - 10) = n + 1 + 1 by omega, q7 e z3]
          show _ = (mSto (mSet σ 0 0) 9 i (nI k)).2 11 (4 * i + e)
          rw [mSto_at, if_neg (by omega)]
          exact ((h.1.2.1 11 (4 * i + e) (by omega)).2 (by omega)).symm
        · rw [show n + (13 - 10) = n + 1 + 2 by omega, q8]
          show _ = (mSto (mSet σ 0 0) 9 i (nI k)).2 12 (8 * i + e)
          rw [mSto_at, if_neg (by omega)]
          exact ((h.1.2.1 12 (8 * i + e) (by omega)).2 (by omega)).symm
  · rw [if_neg c3, if_neg (fun z => c3 (i_letr z (by decide)))]
    exact no
end MAKE
