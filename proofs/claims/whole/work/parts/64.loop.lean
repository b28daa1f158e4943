/-! all rules of a text -/
section ALLR
variable {μ ν ν' ν1 μ1 : Km} {σ τ τ' τ1 σ1 : Ms} {tp n a R m nS : Nat} {T : Nat → Int32} {d a2 : Int32}
theorem bI_inj {p q : Bool} (h : bI p = bI q) : p = q := by cases p <;> cases q <;> first | rfl | exact absurd h (by decide)
theorem PI_PF (h : PI a R d μ1 σ1 tp n T m ν τ) (hk : kfr (sBd (a + 3)) ν' ν) (hm : mfr sN τ' τ) (hB : Bad ν' τ' (a + 3)) : PF a R μ1 σ1 ν' τ' := by
  obtain ⟨⟨hn, hz⟩, hold, -, -, -, hmf, hS⟩ := h
  refine ⟨by rw [hk.1.2.2.2]; omega, fun q hq => ?_, fun q hq => ceq_tr (ceq_fr hk (fun i z => by have := z.1; omega)) (hold q hq), ⟨fun k q1 q2 => (hm.1 k q1).trans (hmf.1 k q1 q2), fun k j q => (hm.2 k j (fun z => z)).trans (hmf.2 k j q)⟩, hB, by rw [hk.1.1]; exact Sy_k4 hS⟩
  rw [hk.1.2.2.2] at hq
  rw [hk.1.1]
  exact hz q hq
def kEnd (a2 : Int32) : Ms → Int32 → Option (Int32 × Ms) := fun s v => M_rules_B167 s a2 v
theorem loop_both (hR : R = 24 * nS) (hS8 : nS < 8) (htp : tp < a) (h3 : σ1.1 3 = nI nS) : ∀ (F FM m : Nat) (ν : Km) (τ : Ms), 25 < F + m → 26 < FM + m → m ≤ 24 → PI a R d μ1 σ1 tp n T m ν τ → ∃ ν' τ' m', K4_readInto_L6 (a + 3) a (fun s_27 => some s_27) (fun s_34 => K4_readInto_B34 s_34) F ν (nI m) = some ν' ∧ M_rules_L73 a2 (kEnd a2) (kEnd a2) FM τ (nI m) = kEnd a2 τ' (nI m') ∧ ((m' ≤ 24 ∧ PI a R d μ1 σ1 tp n T m' ν' τ') ∨ PF a R μ1 σ1 ν' τ') := by
  intro F
  induction F with
  | zero => intro FM m ν τ h1 h2 h3; omega
  | succ F ih =>
    intro FM m ν τ h1 h2 hm h
    obtain ⟨FM', rfl⟩ : ∃ FM', FM = FM' + 1 := ⟨FM - 1, by omega⟩
    obtain ⟨-, -, ⟨hst, -⟩, ⟨-, hI2, -⟩, -, hmf, hS⟩ := id h
    have hb := Sy_bad hS
    have k4 := Sy_k4 hS
    have tok := Sy_tok hS
    have f3 : τ.1 3 = nI nS := (hmf.1 3 (fun z => by have := z.1; omega) (by decide)).trans h3
    unfold K4_readInto_L6 M_rules_L73
    rw [if_neg (show ¬ (24 : Int32) < nI m from fun z => i_le_n (nI_le (b := 24) hm (by omega)) z), if_pos k4, tok, if_pos hb]
    by_cases c0 : τ.1 41 = 0
    · rw [if_pos c0, if_pos c0]
      exact ⟨ν, τ, m, rfl, rfl, Or.inl ⟨hm, h⟩⟩
    rw [if_neg c0, if_neg c0]
    obtain ⟨q0, w0, v0⟩ := word_both hS (j := 0) (by omega)
    obtain ⟨q1, w1, v1⟩ := word_both hS (j := 1) (by omega)
    obtain ⟨q2, w2, v2⟩ := word_both hS (j := 2) (by omega)
    have srt : K4_ruleSort ν (a + 3) = some (if q0 = true then 0 else if q1 = true then 1 else if q2 = true then 2 else -1) := by
      unfold K4_ruleSort K4_ruleSort_B36
      rw [if_pos k4, w0, ob_some, w1, ob_some, w2, ob_some]
      cases q0 <;> cases q1 <;> cases q2 <;> rfl
    -- a rule is read, or it is the 25th
    have go : (K4_ruleSort ν (a + 3) = some (srtC q0 q1)) → ∃ ν' τ' m', (bi (K4_readRule ν (a + 3) a) (fun r_21 s_21 => if r_21 = 0 then (fun s_27 => some s_27) s_21 else K4_readInto_L6 (a + 3) a (fun s_27 => some s_27) (fun s_34 => K4_readInto_B34 s_34) F s_21 (nI m + 1))) = some ν' ∧ M_rules_B123 τ (M_rules_L73 a2 (kEnd a2) (kEnd a2) FM') (kEnd a2) (kEnd a2) a2 (nI m) = kEnd a2 τ' (nI m') ∧ ((m' ≤ 24 ∧ PI a R d μ1 σ1 tp n T m' ν' τ') ∨ PF a R μ1 σ1 ν' τ') := by
      intro hs
      have hs1 : ¬ srtC q0 q1 = -1 := by cases q0 <;> cases q1 <;> decide
      unfold K4_readRule M_rules_B123
      rw [if_pos k4, hs, ob_some, if_neg hs1, if_pos hst.1]
      unfold K5_isFull K5_isFull_B14
      rw [if_pos hst.1, hI2]
      by_cases c1 : m = 24
      · obtain ⟨ν2, τ2, b1, b2, b3, b4, b5, b6⟩ := fail_both hS (f := 2) (by decide)
        rw [if_neg (show ¬ nI m < (24 : Int32) by rw [c1]; decide), if_pos (show okZ 1 = true by decide), ob_some, if_neg (show ¬ (1 : Int32) = 0 by decide), b1, bi_some, if_pos (show okZ 0 = true by decide), bi_some, if_pos rfl, if_pos (show nI m = (24 : Int32) by rw [c1]; rfl), b2, ob_some]
        unfold M_rules_B134
        rw [if_neg b3.1]
        exact ⟨ν2, τ2, m, rfl, rfl, Or.inr (PI_PF h b4 b5 b3)⟩
      · have hm24 : m < 24 := by omega
        rw [if_pos (show nI m < (24 : Int32) from nI_lt (b := 24) hm24 (by omega)), if_pos (show okZ 0 = true by decide), ob_some, if_pos rfl, if_neg (show ¬ nI m = (24 : Int32) from fun z => c1 ((nI_eq (b := 24) (by omega) (by omega)).mp z))]
        unfold M_rules_B134
        rw [if_pos hb, f3, show (24 : Int32) * nI nS + nI m = nI (R + m) by rw [show (24 : Int32) = nI 24 from rfl, i_mul, nI_add, hR], bnd_eq]
        obtain ⟨ν2, τ2, b1, b2⟩ := rule_both (by omega) hm24 htp h q0 q1
        obtain ⟨u0, x0, y0⟩ := word_both (Sy_47 (x := nI (R + m)) hS) (j := 0) (by omega)
        obtain ⟨u1, x1, y1⟩ := word_both (Sy_47 (x := nI (R + m)) hS) (j := 1) (by omega)
        have e0 : u0 = q0 := bI_inj (Option.some.inj (x0.symm.trans w0))
        have e1 : u1 = q1 := bI_inj (Option.some.inj (x1.symm.trans w1))
        subst e0
        subst e1
        have eM : M_readRule (mSet τ 47 (nI (R + m))) = some τ2 := by
          rw [← b1]
          unfold M_readRule
          rw [y0, ob_some, y1, ob_some]
          cases u0 <;> cases u1 <;> rfl
        rw [eM, ob_some, nI_1]
        have eK : ((K4_next ν (a + 3)).bind (fun s_30 => bnd2 (kn s_30) (kNew s_30 3 0) (fun q_33 s_33 => (K3_init s_33 q_33 (srtC u0 u1)).bind (fun s_38 => if kK s_38 (a + 3) = 4 then bi (K4_readWhat s_38 (a + 3) q_33) (fun r_44 s_44 => if r_44 = 0 then some ((0 : Int32), s_44) else if srtC u0 u1 = (2 : Int32) then (if kK s_44 (a + 3) = 4 then bi (K4_readStores s_44 (a + 3) q_33) (fun r_59 s_59 => if r_59 = 0 then K4_readRule_B76 s_59 else K4_readRule_B78 s_59 (a + 3) a q_33) else none) else (if kK s_44 (a + 3) = 4 then bi (K4_readTime s_44 (a + 3) q_33) (fun r_70 s_70 => if r_70 = 0 then K4_readRule_B76 s_70 else K4_readRule_B78 s_70 (a + 3) a q_33) else none)) else none)))) = Kr ν (a + 3) a (srtC u0 u1) := rfl
        rw [eK]
        rcases b2 with ⟨z1, z2⟩ | ⟨z1, z2⟩
        · rw [z1, bi_some, if_neg (show ¬ (1 : Int32) = 0 by decide)]
          exact ih FM' (m + 1) ν2 τ2 (by omega) (by omega) (by omega) z2
        · rw [z1, bi_some, if_pos rfl]
          obtain ⟨FM'', rfl⟩ : ∃ FM'', FM' = FM'' + 1 := ⟨FM' - 1, by omega⟩
          unfold M_rules_L73
          rw [if_neg z2.2.2.2.2.1.1]
          exact ⟨ν2, τ2, m + 1, rfl, rfl, Or.inr z2⟩
    rw [v0, ob_some, v1, ob_some, v2, ob_some]
    cases q0 with
    | true =>
      rw [if_neg (show ¬ bI true = 0 by decide)]
      exact go srt
    | false =>
      rw [if_pos (show bI false = 0 by decide)]
      cases q1 with
      | true =>
        rw [if_neg (show ¬ bI true = 0 by decide)]
        exact go srt
      | false =>
        rw [if_pos (show bI false = 0 by decide)]
        cases q2 with
        | true =>
          rw [if_neg (show ¬ bI true = 0 by decide)]
          exact go srt
        | false =>
          rw [if_pos (show bI false = 0 by decide)]
          obtain ⟨ν2, τ2, b1, b2, b3, b4, b5, b6⟩ := fail_both hS (f := 1) (by decide)
          unfold K4_readRule M_rules_B134
          rw [if_pos k4, srt, ob_some, if_neg (show ¬ false = true by decide), if_neg (show ¬ false = true by decide), if_neg (show ¬ false = true by decide), if_pos rfl, b1, bi_some, if_pos (show okZ 0 = true by decide), bi_some, if_pos rfl, b2, ob_some, if_neg b3.1]
          exact ⟨ν2, τ2, m, rfl, rfl, Or.inr (PI_PF h b4 b5 b3)⟩
end ALLR
