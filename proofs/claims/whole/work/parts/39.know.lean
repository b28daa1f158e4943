section KNOW
variable {a0 : Nat} {μ ν : Km} {σ τ : Ms} {B : Nat → Nat → Nat → Nat} {tg : Nat → Nat × Nat × Nat} {nT nS nH nP nw nL : Nat} {A : Ar}
theorem K6_settle_L {Rt : Type} {kk : Km → Option Rt} {s t f : Nat} (h : RepB a0 μ σ B tg nT nS nH nP nw nL) (hs : s < nS) (ht : t < nT) (hf : f < 8) : ∀ (F i : Nat) (ν : Km), i ≤ (ord σ.2 s).length → (ord σ.2 s).length < i + F → kscr ν μ B → kSp ν B (((ord σ.2 s).take i).foldl (spRule σ.2 t f s) sp0) → ∃ ν', K6_settle_L62 (B 7 0 0) (B 10 t 0) (nI f) (B 15 s 0) kk F ν (nI i) = kk ν' ∧ kscr ν' μ B ∧ kSp ν' B (spSet σ.2 t f s) ∧ kI ν' (B 7 0 0) 6 = kI ν (B 7 0 0) 6 ∧ kI ν' (B 7 0 0) 7 = kI ν (B 7 0 0) 7 := by
  have hlen := ord_len_le h.1.2.1 hs
  intro F
  induction F with
  | zero => intro i ν h1 h2; omega
  | succ F ih =>
    intro i ν h1 h2 hk hq
    have hR := RepB_kscr h hk
    obtain ⟨q1, q2, q3, q4, q5, q6, q7, q8, q9⟩ := hR.st hs
    unfold K6_settle_L62
    rw [if_pos q2, q9]
    by_cases hi : i = (ord σ.2 s).length
    · rw [if_pos (by rw [hi]; exact nI_le (Nat.le_refl _) (by omega))]
      rw [hi, List.take_length] at hq
      exact ⟨ν, rfl, hk, hq, rfl, rfl⟩
    · have hlt : i < (ord σ.2 s).length := by omega
      have hmem : (ord σ.2 s).getD i 0 ∈ ord σ.2 s := by
        rw [List.getD_eq_getElem?_getD, List.getElem?_eq_getElem hlt]
        exact List.getElem_mem hlt
      have htk : (ord σ.2 s).take (i + 1) = (ord σ.2 s).take i ++ [(ord σ.2 s).getD i 0] := by
        rw [List.take_succ, List.getD_eq_getElem?_getD, List.getElem?_eq_getElem hlt]
        rfl
      have v17 : kI ν (B 17 s 0) i = nI ((ord σ.2 s).getD i 0) := hR.2.2 17 s 0 i ⟨hs, rfl, hlt⟩
      generalize hk0 : (ord σ.2 s).getD i 0 = k at hmem htk v17
      obtain ⟨m1, m2⟩ := ord_mem.mp hmem
      have hl := lvr_of h.1.2.1 hs m1
      obtain ⟨r1, r2, -⟩ := hR.ru hs (show k < rmy σ.2 s from m1)
      have v0 : kI ν (B 18 s k) 0 = σ.2 26 (24 * s + k) := hR.2.2 18 s k 0 ⟨hs, m1, by omega⟩
      rw [if_neg (nI_ge hlt (by omega)), q4, ob_some, if_pos q6.1, q6.2, if_pos ((okI_nI (by omega)).mpr (by omega)), bnd_eq, nI_clamp (show i < 2 ^ 31 by omega), v17, q3, ob_some, if_pos q5.1, q5.2, if_pos ((okI_nI (by omega)).mpr hl.2), nI_clamp (show k < 2 ^ 31 by omega), r1, ob_some, if_pos r2, K3_isFor_eq hR hs (show k < rmy σ.2 s from m1) ht hf, ob_some]
      unfold K6_settle_B116
      rw [nI_1]
      cases hm : mFor σ.2 (24 * s + k) t f with
      | false =>
        rw [if_pos (by decide)]
        refine ih (i + 1) ν (by omega) (by omega) hk ?_
        rw [htk, List.foldl_append]
        show kSp ν B (spRule σ.2 t f s _ k)
        unfold spRule
        rw [if_neg (by rw [hm]; decide)]
        exact hq
      | true =>
        have hfo := spFold_ok (A := σ.2) (t := t) (f := f) (s := s) (l := (ord σ.2 s).take i) sp0_ok
        have hlo : (((ord σ.2 s).take i).foldl (spRule σ.2 t f s) sp0).2.2.2.2.length < 24 := by
          have h3 := hfo.2
          have e0 : sp0.2.2.2.2.length = 0 := rfl
          have e1 : ((ord σ.2 s).take i).length ≤ i := List.length_take_le _ _
          omega
        rw [if_neg (by decide), K3_dayFor_eq hR hs (show k < rmy σ.2 s from m1) m2 ht, ob_some, if_pos (hR.spn).2.1, v0]
        obtain ⟨ν1, e1, hk1, hq1, f6, f7⟩ := K6_take_eq hR (w := σ.2 26 (24 * s + k)) (k := nI k) (d := rDay σ.2 (24 * s + k) t) hq hlo
        rw [e1, ob_some]
        obtain ⟨ν2, e2, hk2, hq2, g6, g7⟩ := ih (i + 1) ν1 (by omega) (by omega) (kscr_tr hk1 hk) (by
          rw [htk, List.foldl_append]
          show kSp ν1 B (spRule σ.2 t f s _ k)
          unfold spRule
          rw [if_pos hm]
          exact hq1)
        exact ⟨ν2, e2, hk2, hq2, g6.trans f6, g7.trans f7⟩
def hel (A : Ar) (t f : Nat) : Bool := decide (¬ (A 59 t >>> (nI f &&& 31)) &&& 1 = 0)
theorem K6_settle_eq {t f : Nat} {s : Int32} (h : RepB a0 μ σ B tg nT nS nH nP nw nL) (hs : s = -1 ∨ ibt s nS) (ht : t < nT) (hf : f < 8) : ∃ ν, K6_settle μ (B 7 0 0) (B 10 t 0) (nI f) (bSet B s) = some ν ∧ kscr ν μ B ∧ kSp ν B (mSpan σ.2 t f s) ∧ kI ν (B 7 0 0) 6 = bI (hel σ.2 t f) ∧ kI ν (B 7 0 0) 7 = σ.2 13 t := by
  have h8 := h.nS8
  have h30 := h.nT30
  obtain ⟨s1, s2, s3, s4, s5, s6⟩ := h.spn
  have s6' : B 8 0 0 ≠ B 7 0 0 := fun z => s6 z.symm
  obtain ⟨t1, t2, -⟩ := h.th ht
  have n710 : B 10 t 0 ≠ B 7 0 0 := fun z => by rw [z, s2] at t2; cases t2
  have v4 : kI μ (B 10 t 0) 4 = σ.2 59 t := h.2.2 10 t 0 4 ⟨ht, rfl, by omega⟩
  have v5 : kI μ (B 10 t 0) 5 = σ.2 13 t := h.2.2 10 t 0 5 ⟨ht, rfl, by omega⟩
  have hz : okZ (σ.2 13 t) = true := by
    rcases (h.1.2.1 13 t (by omega)).1 with q | q <;> rw [q] <;> decide
  have key : ∀ b : Bool, ∃ ν, K6_settle_B43 (kSetI (kSetI (kSetI (kSetI (kSetI μ (B 7 0 0) 0 0) (B 7 0 0) 1 999999) (B 7 0 0) 2 (-1)) (B 7 0 0) 3 (-1)) (B 7 0 0) 5 0) (bI b) (B 7 0 0) (B 7 0 0) (B 10 t 0) (nI f) (bSet B s) = some ν ∧ kscr ν μ B ∧ kSp ν B (mSpan σ.2 t f s) ∧ kI ν (B 7 0 0) 6 = bI b ∧ kI ν (B 7 0 0) 7 = σ.2 13 t := by
    intro b
    generalize hν : kSetI (kSetI (kSetI (kSetI (kSetI μ (B 7 0 0) 0 0) (B 7 0 0) 1 999999) (B 7 0 0) 2 (-1)) (B 7 0 0) 3 (-1)) (B 7 0 0) 5 0 = ν0
    have kk0 : kscr ν0 μ B := by rw [← hν]; exact kscr_set (Or.inl rfl) (kscr_set (Or.inl rfl) (kscr_set (Or.inl rfl) (kscr_set (Or.inl rfl) (kscr_set (Or.inl rfl) (kscr_rf μ)))))
    have f0 : kI ν0 (B 7 0 0) 0 = 0 := by rw [← hν]; simp [kI_set]
    have f1 : kI ν0 (B 7 0 0) 1 = 999999 := by rw [← hν]; simp [kI_set]
    have f2 : kI ν0 (B 7 0 0) 2 = -1 := by rw [← hν]; simp [kI_set]
    have f3 : kI ν0 (B 7 0 0) 3 = -1 := by rw [← hν]; simp [kI_set]
    have f5 : kI ν0 (B 7 0 0) 5 = 0 := by rw [← hν]; simp [kI_set]
    have n58 : B 10 t 0 ≠ B 8 0 0 := fun z => by rw [z, s4] at t2; cases t2
    have v5' : kI ν0 (B 10 t 0) 5 = σ.2 13 t := by rw [kk0.2 _ n710 n58]; exact v5
    have kk1 : kscr (kSetI (kSetI ν0 (B 7 0 0) 6 (bI b)) (B 7 0 0) 7 (σ.2 13 t)) μ B := kscr_set (Or.inl rfl) (kscr_set (Or.inl rfl) kk0)
    have sp1 : kSp (kSetI (kSetI ν0 (B 7 0 0) 6 (bI b)) (B 7 0 0) 7 (σ.2 13 t)) B sp0 := by
      refine ⟨?_, ?_, ?_, ?_, ?_, fun i hi => absurd hi (Nat.not_lt_zero i)⟩
      · rw [kI_set, if_neg (by simp), kI_set, if_neg (by simp)]; exact f0
      · rw [kI_set, if_neg (by simp), kI_set, if_neg (by simp)]; exact f1
      · rw [kI_set, if_neg (by simp), kI_set, if_neg (by simp)]; exact f2
      · rw [kI_set, if_neg (by simp), kI_set, if_neg (by simp)]; exact f3
      · rw [kI_set, if_neg (by simp), kI_set, if_neg (by simp)]; exact f5
    have g6 : kI (kSetI (kSetI ν0 (B 7 0 0) 6 (bI b)) (B 7 0 0) 7 (σ.2 13 t)) (B 7 0 0) 6 = bI b := by rw [kI_set, if_neg (by simp), kI_set, if_pos ⟨rfl, rfl⟩]
    have g7 : kI (kSetI (kSetI ν0 (B 7 0 0) 6 (bI b)) (B 7 0 0) 7 (σ.2 13 t)) (B 7 0 0) 7 = σ.2 13 t := by rw [kI_set, if_pos ⟨rfl, rfl⟩]
    unfold K6_settle_B43
    have k6 : kK ν0 (B 7 0 0) = 6 := by rw [kk0.1.1]; exact s2
    have k8 : kK ν0 (B 10 t 0) = 8 := by rw [kk0.1.1]; exact t2
    have v5'' : kI (kSetI ν0 (B 7 0 0) 6 (bI b)) (B 10 t 0) 5 = σ.2 13 t := by rw [kI_set, if_neg (fun z => n710 z.1)]; exact v5'
    rw [if_pos k6, if_pos (okZ_bI b), bnd_eq, kK_setI, if_pos k8, if_pos k6, v5'', if_pos hz, bnd_eq]
    unfold bSet mSpan
    rcases hs with e | e
    · rw [if_pos e, if_pos e, om_none]
      exact ⟨_, rfl, kk1, sp1, g6, g7⟩
    · have e2 := ibt_c e (by omega)
      have e3 : ¬ s = -1 := by rw [e2.1]; exact i_m1_ne (by omega)
      have hlen := ord_len_le h.1.2.1 e2.2
      rw [if_neg e3, if_neg e3, om_some]
      obtain ⟨ν2, e4, hk2, hq2, r6, r7⟩ := K6_settle_L (kk := fun s_122 => some s_122) h e2.2 ht hf gF 0 _ (Nat.zero_le _) (by unfold gF; omega) kk1 (by rw [List.take_zero]; exact sp1)
      exact ⟨ν2, e4, hk2, hq2, r6.trans g6, r7.trans g7⟩
  unfold K6_settle
  have h58 : B 10 t 0 ≠ B 8 0 0 := fun z => by rw [z, s4] at t2; cases t2
  have v4' : kI (kSetI (kSetI (kSetI (kSetI (kSetI μ (B 7 0 0) 0 0) (B 7 0 0) 1 999999) (B 7 0 0) 2 (-1)) (B 7 0 0) 3 (-1)) (B 7 0 0) 5 0) (B 10 t 0) 4 = σ.2 59 t := by
    rw [kI_set, if_neg (fun z => n710 z.1), kI_set, if_neg (fun z => n710 z.1), kI_set, if_neg (fun z => n710 z.1), kI_set, if_neg (fun z => n710 z.1), kI_set, if_neg (fun z => n710 z.1)]; exact v4
  rw [if_pos s2, bnd_eq, bnd_eq, bnd_eq, bnd_eq, bnd_eq, if_pos (by exact t2), v4']
  unfold hel
  by_cases c : (σ.2 59 t >>> (nI f &&& 31)) &&& 1 = 0
  · rw [if_pos c, decide_eq_false (fun z => z c)]
    exact key false
  · rw [if_neg c, decide_eq_true c]
    exact key true
def sDue (q : Sp) (hl : Bool) (w x : Int32) : Bool := !hl && (decide (¬ x < q.1) && (decide (¬ q.2.1 = 999999) || decide (¬ w = 0)))
theorem K6_isDue_eq {q : Sp} {hl : Bool} {w x : Int32} (hk : kK ν (B 7 0 0) = 6) (hq : kSp ν B q) (h6 : kI ν (B 7 0 0) 6 = bI hl) (h7 : kI ν (B 7 0 0) 7 = w) : K6_isDue ν (B 7 0 0) x = some (bI (sDue q hl w x)) := by
  unfold K6_isDue K6_isDue_B31 K6_isDue_B35 K6_isDue_B36 sDue
  rw [if_pos hk, h6, h7, hq.1, hq.2.1]
  cases hl with
  | true => rw [if_neg (by decide), if_pos (by decide)]; rfl
  | false =>
    rw [if_pos (by decide)]
    by_cases c1 : x < q.1
    · rw [if_pos c1, if_pos (by decide), decide_eq_false (fun z => z c1)]; rfl
    · rw [if_neg c1, decide_eq_true c1]
      by_cases c2 : q.2.1 = 999999
      · rw [if_pos c2, decide_eq_false (fun z => z c2)]
        by_cases c3 : w = 0
        · rw [if_pos c3, if_pos (by decide), decide_eq_false (fun z => z c3)]; rfl
        · rw [if_neg c3, if_pos (by decide), decide_eq_true c3]; rfl
      · rw [if_neg c2, if_pos (by decide), decide_eq_true c2]; rfl
end KNOW
