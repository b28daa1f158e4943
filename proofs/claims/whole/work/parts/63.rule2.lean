section RULE2
variable {μ ν ν' ν1 μ1 : Km} {σ τ τ' τ1 σ1 : Ms} {rd tp n b e r p a R m : Nat} {T : Nat → Int32} {tk sg d : Int32} {rk wh rk' wh' : Nat → Int32}
def sSet (R : Nat) : Nat → Nat → Prop := fun k j => (26 ≤ k ∧ k ≤ 34 ∧ R ≤ j ∧ j < R + 24) ∨ (35 ≤ k ∧ k ≤ 37 ∧ R ≤ j / 4 ∧ j / 4 < R + 24)
def mFx (R : Nat) (σ1 τ : Ms) : Prop := (∀ k, ¬ sF k → k ≠ 47 → τ.1 k = σ1.1 k) ∧ ∀ k j, ¬ sSet R k j → τ.2 k j = σ1.2 k j
def lM (τ : Ms) (R m : Nat) : List Nat := oLst (fun k => τ.2 26 (R + k)) (fun k => τ.2 33 (R + k)) m
/-- m rules have been read -/
def PI (a R : Nat) (d : Int32) (μ1 : Km) (σ1 : Ms) (tp n : Nat) (T : Nat → Int32) (m : Nat) (ν : Km) (τ : Ms) : Prop := (kn ν = a + 4 + 4 * m ∧ ∀ q, kn ν ≤ q → kK ν q = 0) ∧ (∀ q, q < a → ceq ν μ1 q) ∧ (stO ν a ∧ kN ν a = 0) ∧ (kI ν a 0 = d ∧ kI ν a 2 = nI m ∧ kI ν a 4 = nI (lM τ R m).length ∧ ∀ e, e < (lM τ R m).length → kI ν (a + 2) e = nI ((lM τ R m).getD e 0)) ∧ (∀ j, j < m → kR ν (a + 1) j = some (a + 4 + 4 * j) ∧ rul ν τ (a + 4 + 4 * j) (R + j)) ∧ mFx R σ1 τ ∧ Sy ν τ (a + 3) tp n T
/-- a fault has been found -/
def PF (a R : Nat) (μ1 : Km) (σ1 : Ms) (ν : Km) (τ : Ms) : Prop := a ≤ kn ν ∧ (∀ q, kn ν ≤ q → kK ν q = 0) ∧ (∀ q, q < a → ceq ν μ1 q) ∧ mFx R σ1 τ ∧ Bad ν τ (a + 3) ∧ kK ν (a + 3) = 4
def Kr (ν : Km) (rd a : Nat) (s : Int32) : Option (Int32 × Km) := (K4_next ν rd).bind (fun s_30 => bnd2 (kn s_30) (kNew s_30 3 0) (fun q_33 s_33 => (K3_init s_33 q_33 s).bind (fun s_38 => if kK s_38 rd = 4 then bi (K4_readWhat s_38 rd q_33) (fun r_44 s_44 => if r_44 = 0 then some ((0 : Int32), s_44) else Kmid s_44 rd a q_33 s) else none)))
theorem mFx_row (h : mFx R σ1 τ) (hm : m < 24) (h1 : ∀ k, ¬ sF k → k ≠ 47 → τ'.1 k = τ.1 k) (h2 : ∀ k j, ¬ sRow (R + m) k j → τ'.2 k j = τ.2 k j) : mFx R σ1 τ' := by
  refine ⟨fun k q1 q2 => (h1 k q1 q2).trans (h.1 k q1 q2), fun k j q => (h2 k j (fun z => q ?_)).trans (h.2 k j q)⟩
  rcases z with ⟨z1, z2, z3⟩ | ⟨z1, z2, z3⟩
  · exact Or.inl ⟨z1, z2, by omega, by omega⟩
  · exact Or.inr ⟨z1, z2, by omega, by omega⟩
theorem row_w {f : Nat → Prop} (hf : ∀ k, f k → 26 ≤ k ∧ k ≤ 34) : ∀ k j, sMw r f k j → sRow r k j := fun k j z => Or.inl ⟨(hf k z.1).1, (hf k z.1).2, z.2⟩
theorem row_l : ∀ k j, sMl r k j → sRow r k j := fun k j z => by
  rcases z with z | z
  · exact Or.inl ⟨by omega, by omega, z.2⟩
  · exact Or.inr z
/-- cells that a reading of a rule leaves alone -/
theorem cq_w {f : Nat → Prop} (h : kfr (sKw rd p f) ν' ν) {q : Nat} (h1 : q ≠ rd) (h2 : q ≠ p) : ceq ν' ν q := ceq_fr h (fun i z => by rcases z with z | z; exact h1 z.1; exact h2 z.1)
theorem cq_l (h : kfr (sKl rd p) ν' ν) {q : Nat} (h1 : q ≠ rd) (h2 : q < p) : ceq ν' ν q := ceq_fr h (fun i z => by rcases z with z | z | z | z | z <;> omega)
theorem rule_both (hR : R + 24 ≤ 192) (hm : m < 24) (htp : tp < a) (h : PI a R d μ1 σ1 tp n T m ν τ) (q0 q1 : Bool) : ∃ ν' τ', M_readRule_B39 (mSet τ 47 (nI (R + m))) (srtC q0 q1) ((mSet τ 47 (nI (R + m))).1 47) (bI q0) (bI q1) = some τ' ∧ ((Kr ν (a + 3) a (srtC q0 q1) = some (1, ν') ∧ PI a R d μ1 σ1 tp n T (m + 1) ν' τ') ∨ (Kr ν (a + 3) a (srtC q0 q1) = some (0, ν') ∧ PF a R μ1 σ1 ν' τ')) := by
  obtain ⟨⟨hn, hz⟩, hold, ⟨hst, hN0⟩, ⟨hd, h2, h4, ht⟩, hru, hmf, hS⟩ := h
  have hr : R + m < 192 := by omega
  generalize hs : srtC q0 q1 = s
  have hs3 : s = 0 ∨ s = 1 ∨ s = 2 := by
    rw [← hs]
    cases q0 <;> cases q1 <;> simp [srtC]
  have e47 : (mSet τ 47 (nI (R + m))).1 47 = nI (R + m) := by rw [mSet_at, if_pos rfl]
  have s0 : Sy ν (mSto (mSet τ 47 (nI (R + m))) 26 (R + m) s) (a + 3) tp n T := Sy_mp (Sy_47 hS) (by decide)
  obtain ⟨ν1, τ1, a1, a2, a3, a4, a5⟩ := next_both s0
  have n1 : kn ν1 = a + 4 + 4 * m := a4.1.2.2.2.trans hn
  generalize hp : a + 4 + 4 * m = p at n1
  obtain ⟨ν2, b1, b2, b3, b4, b5, b6, b7⟩ := K3_new (ν := ν1) s n1
  have s2 : Sy ν2 τ1 (a + 3) tp n T := Sy_c a3 (b3 _ (by omega)) (b3 _ (by omega))
  have h471 : τ1.1 47 = nI (R + m) := mfr_47 a5 e47
  have hp1 : p ≠ a + 3 := by omega
  have hp2 : p ≠ tp := by omega
  have c2 : ∀ q, q < p → q ≠ a + 3 → ceq ν2 ν q := fun q z1 z2 => ceq_tr (b3 q z1) (ceq_fr a4 (fun i w => z2 w.1))
  have m1 : mfr (sRow (R + m)) τ1 (mSet τ 47 (nI (R + m))) := mfr_c (mfr_mn a5 (sN_le _)) (mfr_st (sRow_lo (by omega) (by omega)))
  have fin : ∀ τx, mfr (sRow (R + m)) τx (mSet τ 47 (nI (R + m))) → mFx R σ1 τx := fun τx q => mFx_row hmf hm (fun k z1 z2 => by rw [q.1 k z1, mSet_at, if_neg z2]) (fun k j z => by rw [q.2 k j z]; rfl)
  have pf : ∀ νx τx, kn νx = p + 4 → (∀ q, p + 4 ≤ q → kK νx q = kK ν1 q) → (∀ q, q < a → ceq νx ν2 q) → kK νx (a + 3) = 4 → mfr (sRow (R + m)) τx (mSet τ 47 (nI (R + m))) → Bad νx τx (a + 3) → PF a R μ1 σ1 νx τx := by
    intro νx τx z1 z2 z3 z4 z5 z6
    refine ⟨by omega, fun q hq => ?_, fun q hq => ceq_tr (z3 q hq) (ceq_tr (c2 q (by omega) (by omega)) (hold q hq)), fin τx z5, z6, z4⟩
    rw [z2 q (by omega), a4.1.1]
    exact hz q (by omega)
  obtain ⟨ν3, τ2, d1, d2, d3, d4⟩ := what_both hp1 hp2 b5.1 hr h471 s2
  have m2 : mfr (sRow (R + m)) τ2 (mSet τ 47 (nI (R + m))) := mfr_c (mfr_mn d3 (row_w (fun k z => by omega))) m1
  have h472 := mfr_47 d3 h471
  unfold M_readRule_B39
  rw [if_pos (ok47 hr e47).1, (ok47 hr e47).2, bnd_eq, a2, ob_some, d1, ob_some, if_pos (ok47 hr h472).1, (ok47 hr h472).2, bnd_eq, if_pos (show okI ((mSto τ2 32 (R + m) 0).1 47) 192 = true from (ok47 hr h472).1), show ((mSto τ2 32 (R + m) 0).1 47).toNatClampNeg = R + m from (ok47 hr h472).2, bnd_eq, if_pos (show okI ((mSto (mSto τ2 32 (R + m) 0) 34 (R + m) 0).1 47) 192 = true from (ok47 hr h472).1), show ((mSto (mSto τ2 32 (R + m) 0) 34 (R + m) 0).1 47).toNatClampNeg = R + m from (ok47 hr h472).2, bnd_eq]
  generalize hτ3 : mSto (mSto (mSto τ2 32 (R + m) 0) 34 (R + m) 0) 33 (R + m) 0 = τ3
  have m3' : mfr (fun k j => (k = 32 ∨ k = 33 ∨ k = 34) ∧ j = R + m) τ3 τ2 := by
    rw [← hτ3]
    exact mfr_c (mfr_st ⟨by omega, rfl⟩) (mfr_c (mfr_st ⟨by omega, rfl⟩) (mfr_st ⟨by omega, rfl⟩))
  have m3 : mfr (sRow (R + m)) τ3 (mSet τ 47 (nI (R + m))) := mfr_c (mfr_mn m3' (fun k j z => Or.inl ⟨by omega, by omega, z.2⟩)) m2
  have h473 : τ3.1 47 = nI (R + m) := mfr_47 m3 e47
  have eM : (if bI q0 = 0 then if bI q1 = 0 then bi (M_readNumbered τ3 (115 : Int32) (3 : Int32)) (fun r_217 s_217 => M_readRule_L221 (fun s_302 => M_readRule_B302 s_302) gF s_217 r_217) else M_readRule_B86 τ3 else M_readRule_B86 τ3) = Mmid τ3 (bI q0) (bI q1) := rfl
  rw [eM]
  unfold Kr
  rw [a1, ob_some, bnd2_eq, n1, b1, ob_some, if_pos (Sy_k4 s2)]
  rcases d4 with ⟨w1, w2, w3⟩ | ⟨w1, w2⟩
  · rw [w1, bi_some, if_neg (show ¬ (1 : Int32) = 0 by decide)]
    have s3 : Sy ν3 τ3 (a + 3) tp n T := by rw [← hτ3]; exact Sy_mp (Sy_mp (Sy_mp w2 (by decide)) (by decide)) (by decide)
    have z3 : ∀ j, 3 ≤ j → kI ν3 p j = 0 := fun j hj => by
      rw [d2.2 _ _ (fun z => by rcases z with z | z <;> omega), b7, if_neg (by omega)]
    have e32 : τ3.2 32 (R + m) = 0 := by rw [← hτ3, mSto_at, if_neg (by omega), mSto_at, if_neg (by omega), mSto_at, if_pos ⟨rfl, rfl⟩]
    obtain ⟨ν4, τ4, g1, g2, g3, g4⟩ := mid_both (a := a) hp1 hp2 (kfr_k d2 b5.1) hr h473 s3 (z3 3 (by omega)) e32 q0 q1
    rw [hs] at g4
    have m4 : mfr (sRow (R + m)) τ4 (mSet τ 47 (nI (R + m))) := mfr_c (mfr_mn g3 (row_w (fun k z => by unfold gM at z; omega))) m3
    rw [g1]
    rcases g4 with ⟨x1, x2, x3, x4⟩ | ⟨x1, x2⟩
    · have o4 : rob ν4 p := rob_fr (rob_fr b5 d2) g2
      have c4 : ∀ q, q < p → q ≠ a + 3 → ceq ν4 ν q := fun q y1 y2 => ceq_tr (cq_w g2 y2 (by omega)) (ceq_tr (cq_w d2 y2 (by omega)) (c2 q y1 y2))
      have e8 : kI ν4 p 8 = 0 := by rw [g2.2 _ _ (fun z => by rcases z with z | ⟨y1, y2⟩; omega; unfold fM at y2; omega)]; exact z3 8 (by omega)
      have e7 : kI ν4 p 7 = 0 := by rw [g2.2 _ _ (fun z => by rcases z with z | ⟨y1, y2⟩; omega; unfold fM at y2; omega)]; exact z3 7 (by omega)
      have e34 : τ4.2 34 (R + m) = 0 := by rw [g3.2 _ _ (fun z => by have y := z.1; unfold gM at y; omega), ← hτ3, mSto_at, if_neg (by omega), mSto_at, if_pos ⟨rfl, rfl⟩]
      have e33 : τ4.2 33 (R + m) = 0 := by rw [g3.2 _ _ (fun z => by have y := z.1; unfold gM at y; omega), ← hτ3, mSto_at, if_pos ⟨rfl, rfl⟩]
      obtain ⟨ν5, τ5, f1, f2, f3, f4⟩ := tail_both (a := a) (show a + 3 < p by omega) (show tp < p by omega) hr (by rw [(c4 a (by omega) (by omega)).1.1]; exact hst.1) x2 o4 (mfr_47 m4 e47) ⟨e8, e34, fun e he => by omega⟩ e7 e33
      have m5 : mfr (sRow (R + m)) τ5 (mSet τ 47 (nI (R + m))) := mfr_c (mfr_mn f3 row_l) m4
      have c5 : ∀ q, q < p → q ≠ a + 3 → ceq ν5 ν q := fun q y1 y2 => ceq_tr (cq_l f2 y2 y1) (c4 q y1 y2)
      have n5 : kn ν5 = p + 4 := by rw [f2.1.2.2.2, g2.1.2.2.2, d2.1.2.2.2, b2]
      have k5 : ∀ q, p + 4 ≤ q → kK ν5 q = kK ν1 q := fun q hq => by rw [f2.1.1, g2.1.1, d2.1.1, b4 q hq]
      rw [f1, x1]
      have kd5 : kK ν5 (a + 3) = 4 := by rw [f2.1.1, g2.1.1, d2.1.1]; exact Sy_k4 s2
      rcases f4 with ⟨y1, y2, y3, y4⟩ | ⟨y1, y2⟩
      · have nr : ∀ j k i, j < m → sRow (R + j) k i → τ5.2 k i = τ.2 k i := fun j k i hj hz => by
          rw [m5.2 k i (fun w => ?_)]
          · rfl
          · rcases hz with z | z <;> rcases w with w | w <;> omega
        have eL : oLst (fun k => τ5.2 26 (R + k)) (fun k => τ5.2 33 (R + k)) m = lM τ R m := oLst_cg m (fun k hk => nr k 26 _ hk (sRow_lo (by omega) (by omega))) (fun k hk => nr k 33 _ hk (sRow_lo (by omega) (by omega)))
        have r5 : ∀ j, j < m → rul ν5 τ5 (a + 4 + 4 * j) (R + j) := fun j hj => rul_cg (fun q z1 z2 => c5 q (by omega) (by omega)) (fun k i hz => nr j k i hj hz) (hru j hj).2
        have ca := c5 a (by omega) (by omega)
        have ca1 := c5 (a + 1) (by omega) (by omega)
        have ca2 := c5 (a + 2) (by omega) (by omega)
        have st5 : stO ν5 a := by
          unfold stO
          rw [ca.1.1, ca.2.1, ca.2.1, ca1.1.1, ca1.1.2, ca2.1.1, ca2.1.2]
          exact hst
        have i0 : kI ν5 p 0 = s := by
          rw [f2.2 _ _ (fun z => by rcases z with z | z | z | z | z <;> omega), g2.2 _ _ (fun z => by rcases z with z | ⟨z1, z2⟩; omega; unfold fM at z2; omega), d2.2 _ _ (fun z => by rcases z with z | z <;> omega), b7, if_pos rfl]
        have t26 : τ5.2 26 (R + m) = s := by
          rw [f3.2 _ _ (fun z => by rcases z with z | z <;> omega), g3.2 _ _ (fun z => by have y := z.1; unfold gM at y; omega), m3'.2 _ _ (fun z => by omega), d3.2 _ _ (fun z => by have y := z.1; omega), a5.2 _ _ (fun z => z), mSto_at, if_pos ⟨rfl, rfl⟩]
        have rm5 : rul ν5 τ5 p (R + m) := by
          have i1 : ∀ j, j = 1 ∨ j = 2 → kI ν5 p j = kI ν3 p j := fun j hj => by
            rw [f2.2 _ _ (fun z => by rcases z with z | z | z | z | z <;> omega), g2.2 _ _ (fun z => by rcases z with z | ⟨z1, z2⟩; omega; unfold fM at z2; omega)]
          have i2 : ∀ j, 3 ≤ j ∧ j ≤ 6 → kI ν5 p j = kI ν4 p j := fun j hj => by
            rw [f2.2 _ _ (fun z => by rcases z with z | z | z | z | z <;> omega)]
          have u1 : ∀ k, k = 27 ∨ k = 28 → τ5.2 k (R + m) = τ2.2 k (R + m) := fun k hk => by
            rw [f3.2 _ _ (fun z => by rcases z with z | z <;> omega), g3.2 _ _ (fun z => by have y := z.1; unfold gM at y; omega), m3'.2 _ _ (fun z => by omega)]
          have u2 : ∀ k, 29 ≤ k ∧ k ≤ 32 → τ5.2 k (R + m) = τ4.2 k (R + m) := fun k hk => by
            rw [f3.2 _ _ (fun z => by rcases z with z | z <;> omega)]
          refine ⟨⟨rob_fr o4 f2, ?_⟩, ⟨?_, ?_⟩, ?_, ?_, y3, y4, fun z => ?_⟩
          · rw [f2.1.2.2.1, g2.1.2.2.1, d2.1.2.2.1]; exact b6
          · rw [i0, t26]
          · rw [t26]; exact hs3
          · rw [i1 1 (by omega), i1 2 (by omega), u1 27 (by omega), u1 28 (by omega)]; exact w3
          · rw [i2 3 (by omega), u2 32 (by omega)]; exact x3
          · rw [t26] at z
            exact qTim_cg (i2 4 (by omega)) (i2 5 (by omega)) (i2 6 (by omega)) (u2 29 (by omega)) (u2 30 (by omega)) (u2 31 (by omega)) (x4 z)
        obtain ⟨ν6, v1, ⟨v2, v3, v4⟩, v5, v6, v7, v8, v9, v10⟩ := add_eq (ν := ν5) (a := a) (m := m) (wh := fun k => τ5.2 26 (R + k)) (rk := fun k => τ5.2 33 (R + k)) st5 hm (by rw [ca.2.2]; exact h2) (by rw [ca.2.2, eL]; exact h4) (fun e he => by rw [eL] at he ⊢; rw [ca2.2.2]; exact ht e he) (fun j hj => ⟨by rw [ca1.2.1]; exact (hru j hj).1, (r5 j hj).1.1.1, (r5 j hj).2.2.2.2.1.1⟩) (by rw [hp]; exact ⟨(rob_fr o4 f2).1, y3.1, by rw [i0, t26]⟩)
        rw [hp] at v1 v6
        have c6 : ∀ q, q ≠ a → q ≠ a + 1 → q ≠ a + 2 → ceq ν6 ν5 q := fun q z1 z2 z3 => ⟨⟨by rw [v2], by rw [v3]⟩, fun j => v5 q j (fun w => z2 w.1), fun j => v7 q j (fun w => z1 w.1) z3⟩
        rw [y1, v1, ob_some]
        refine ⟨ν6, τ5, rfl, Or.inl ⟨rfl, ⟨by rw [v4, n5]; omega, fun q hq => ?_⟩, fun q hq => ceq_tr (c6 q (by omega) (by omega) (by omega)) (ceq_tr (c5 q (by omega) (by omega)) (hold q hq)), ⟨?_, ?_⟩, ⟨?_, v8, v9, v10⟩, fun j hj => ?_, fin τ5 m5, Sy_c y2 (c6 _ (by omega) (by omega) (by omega)) (c6 _ (by omega) (by omega) (by omega))⟩⟩
        · rw [v4, n5] at hq
          rw [v2, k5 q hq, a4.1.1]
          exact hz q (by omega)
        · unfold stO
          rw [v2, v3, v5 a 1 (by omega), v5 a 3 (by omega)]
          exact st5
        · rw [v3, ca.1.2]; exact hN0
        · rw [v7 a 0 (by omega) (by omega), ca.2.2]; exact hd
        · by_cases ej : j = m
          · subst ej
            rw [hp]
            exact ⟨v6, rul_cg (fun q z1 z2 => c6 q (by omega) (by omega) (by omega)) (fun _ _ _ => rfl) rm5⟩
          · refine ⟨?_, rul_cg (fun q z1 z2 => c6 q (by omega) (by omega) (by omega)) (fun _ _ _ => rfl) (r5 j (by omega))⟩
            rw [v5 _ _ (fun w => ej w.2), ca1.2.1]
            exact (hru j (by omega)).1
      · rw [y1]
        exact ⟨ν5, τ5, rfl, Or.inr ⟨rfl, pf ν5 τ5 n5 k5 (fun q hq => ceq_tr (cq_l f2 (by omega) (by omega)) (ceq_tr (cq_w g2 (by omega) (by omega)) (cq_w d2 (by omega) (by omega)))) kd5 m5 y2⟩⟩
    · rw [x1, B302_bad x2.1]
      exact ⟨ν4, τ4, rfl, Or.inr ⟨rfl, pf ν4 τ4 (by rw [g2.1.2.2.2, d2.1.2.2.2, b2]) (fun q hq => by rw [g2.1.1, d2.1.1, b4 q hq]) (fun q hq => ceq_tr (cq_w g2 (by omega) (by omega)) (cq_w d2 (by omega) (by omega))) (by rw [g2.1.1, d2.1.1]; exact Sy_k4 s2) m4 x2⟩⟩
  · rw [w1, bi_some, if_pos rfl]
    have e1 : τ3.1 = τ2.1 := by rw [← hτ3]; rfl
    obtain ⟨τ4, f1, f2, f3⟩ := Mmid_bad hr h473 (by rw [e1]; exact w2.1) (bI q0) (bI q1)
    rw [f1]
    refine ⟨ν3, τ4, rfl, Or.inr ⟨rfl, pf ν3 τ4 (by rw [d2.1.2.2.2, b2]) (fun q hq => by rw [d2.1.1, b4 q hq]) (fun q hq => cq_w d2 (by omega) (by omega)) (by rw [d2.1.1]; exact Sy_k4 s2) (mfr_c f2 m3) ?_⟩⟩
    unfold Bad
    rw [f3, e1]
    exact w2
end RULE2
