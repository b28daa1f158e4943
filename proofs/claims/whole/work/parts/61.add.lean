/-! a rule comes into its set -/
section ADD
variable {μ ν ν' ν1 : Km} {σ τ τ' τ1 : Ms} {a m p : Nat} {rk wh : Nat → Int32}
def ceq (ν' ν : Km) (q : Nat) : Prop := (kK ν' q = kK ν q ∧ kN ν' q = kN ν q) ∧ (∀ j, kR ν' q j = kR ν q j) ∧ ∀ j, kI ν' q j = kI ν q j
theorem ceq_rf (ν : Km) (q : Nat) : ceq ν ν q := ⟨⟨rfl, rfl⟩, fun _ => rfl, fun _ => rfl⟩
theorem ceq_tr {q : Nat} (h1 : ceq ν' ν1 q) (h2 : ceq ν1 ν q) : ceq ν' ν q := ⟨⟨h1.1.1.trans h2.1.1, h1.1.2.trans h2.1.2⟩, fun j => (h1.2.1 j).trans (h2.2.1 j), fun j => (h1.2.2 j).trans (h2.2.2 j)⟩
theorem ceq_fr {S : Nat → Nat → Prop} {q : Nat} (h : kfr S ν' ν) (hq : ∀ i, ¬ S q i) : ceq ν' ν q := ⟨⟨by rw [h.1.1], by rw [h.1.2.2.1]⟩, fun j => by rw [h.1.2.1], fun j => h.2 q j (hq j)⟩
theorem K3_new (x : Int32) (hn : kn ν = p) : ∃ ν', K3_init (kNew ν 3 0) p x = some ν' ∧ kn ν' = p + 4 ∧ (∀ q, q < p → ceq ν' ν q) ∧ (∀ q, p + 4 ≤ q → kK ν' q = kK ν q) ∧ rob ν' p ∧ kN ν' p = 0 ∧ ∀ j, kI ν' p j = if j = 0 then x else 0 := by
  have kA : kK (kNew ν 3 0) p = 3 := by rw [kK_new, hn, if_pos rfl]
  have kB : kK (kNew (kSetI (kNew ν 3 0) p 0 x) 12 4) p = 3 := by rw [kK_new, kn_setI, kn_new, hn, if_neg (by omega), kK_setI, kA]
  have kC : kK (kNew (kSetR (kNew (kSetI (kNew ν 3 0) p 0 x) 12 4) p 9 (some (p + 1))) 13 4) p = 3 := by rw [kK_new, kn_setR, kn_new, kn_setI, kn_new, hn, if_neg (by omega), kK_setR, kB]
  have kD : kK (kNew (kSetR (kNew (kSetR (kNew (kSetI (kNew ν 3 0) p 0 x) 12 4) p 9 (some (p + 1))) 13 4) p 10 (some (p + 1 + 1))) 12 4) p = 3 := by rw [kK_new, kn_setR, kn_new, kn_setR, kn_new, kn_setI, kn_new, hn, if_neg (by omega), kK_setR, kC]
  refine ⟨kSetR (kNew (kSetR (kNew (kSetR (kNew (kSetI (kNew ν 3 0) p 0 x) 12 4) p 9 (some (p + 1))) 13 4) p 10 (some (p + 1 + 1))) 12 4) p 11 (some (p + 1 + 1 + 1)), ?_, ?_, ?_⟩
  · unfold K3_init
    rw [if_pos kA, bnd_eq, bnd2_eq, kn_setI, kn_new, hn, if_pos kB, bnd_eq, bnd2_eq, kn_setR, kn_new, kn_setI, kn_new, hn, if_pos kC, bnd_eq, bnd2_eq, kn_setR, kn_new, kn_setR, kn_new, kn_setI, kn_new, hn, if_pos kD, bnd_eq]
  · rw [kn_setR, kn_new, kn_setR, kn_new, kn_setR, kn_new, kn_setI, kn_new, hn]
  · generalize hν : kSetR (kNew (kSetR (kNew (kSetR (kNew (kSetI (kNew ν 3 0) p 0 x) 12 4) p 9 (some (p + 1))) 13 4) p 10 (some (p + 1 + 1))) 12 4) p 11 (some (p + 1 + 1 + 1)) = ν'
    have fK : ∀ q, kK ν' q = if q = p + 1 + 1 + 1 then 12 else if q = p + 1 + 1 then 13 else if q = p + 1 then 12 else if q = p then 3 else kK ν q := fun q => by
      rw [← hν, kK_setR, kK_new, kn_setR, kn_new, kn_setR, kn_new, kn_setI, kn_new, kK_setR, kK_new, kn_setR, kn_new, kn_setI, kn_new, kK_setR, kK_new, kn_setI, kn_new, kK_setI, kK_new, hn]
    have fN : ∀ q, kN ν' q = if q = p + 1 + 1 + 1 then 4 else if q = p + 1 + 1 then 4 else if q = p + 1 then 4 else if q = p then 0 else kN ν q := fun q => by
      rw [← hν, kN_setR, kN_new, kn_setR, kn_new, kn_setR, kn_new, kn_setI, kn_new, kN_setR, kN_new, kn_setR, kn_new, kn_setI, kn_new, kN_setR, kN_new, kn_setI, kn_new, kN_setI, kN_new, hn]
    have fR : ∀ q j, kR ν' q j = if q = p ∧ j = 11 then some (p + 1 + 1 + 1) else if q = p + 1 + 1 + 1 then none else if q = p ∧ j = 10 then some (p + 1 + 1) else if q = p + 1 + 1 then none else if q = p ∧ j = 9 then some (p + 1) else if q = p + 1 then none else if q = p then none else kR ν q j := fun q j => by
      rw [← hν, kR_set, kR_new, kn_setR, kn_new, kn_setR, kn_new, kn_setI, kn_new, kR_set, kR_new, kn_setR, kn_new, kn_setI, kn_new, kR_set, kR_new, kn_setI, kn_new, kR_setI, kR_new, hn]
    have fI : ∀ q j, kI ν' q j = if q = p + 1 + 1 + 1 then 0 else if q = p + 1 + 1 then 0 else if q = p + 1 then 0 else if q = p ∧ j = 0 then x else if q = p then 0 else kI ν q j := fun q j => by
      rw [← hν, kI_setR, kI_new, kn_setR, kn_new, kn_setR, kn_new, kn_setI, kn_new, kI_setR, kI_new, kn_setR, kn_new, kn_setI, kn_new, kI_setR, kI_new, kn_setI, kn_new, kI_set, kI_new, hn]
    refine ⟨fun q hq => ⟨⟨?_, ?_⟩, fun j => ?_, fun j => ?_⟩, fun q hq => ?_, ⟨?_, ⟨?_, ?_, ?_⟩, ⟨?_, ?_⟩, ⟨?_, ?_⟩, ?_, ?_⟩, ?_, fun j => ?_⟩
    · rw [fK, if_neg (by omega), if_neg (by omega), if_neg (by omega), if_neg (by omega)]
    · rw [fN, if_neg (by omega), if_neg (by omega), if_neg (by omega), if_neg (by omega)]
    · rw [fR, if_neg (by omega), if_neg (by omega), if_neg (by omega), if_neg (by omega), if_neg (by omega), if_neg (by omega), if_neg (by omega)]
    · rw [fI, if_neg (by omega), if_neg (by omega), if_neg (by omega), if_neg (by omega), if_neg (by omega)]
    · rw [fK, if_neg (by omega), if_neg (by omega), if_neg (by omega), if_neg (by omega)]
    · rw [fK, if_neg (by omega), if_neg (by omega), if_neg (by omega), if_pos rfl]
    · rw [fR, if_neg (by omega), if_neg (by omega), if_neg (by omega), if_neg (by omega), if_pos ⟨rfl, rfl⟩]
    · rw [fR, if_neg (by omega), if_neg (by omega), if_pos ⟨rfl, rfl⟩]
    · rw [fR, if_pos ⟨rfl, rfl⟩]
    · rw [fK, if_neg (by omega), if_neg (by omega), if_pos rfl]
    · rw [fN, if_neg (by omega), if_neg (by omega), if_pos rfl]
    · rw [fK, if_neg (by omega), if_pos rfl]
    · rw [fN, if_neg (by omega), if_pos rfl]
    · rw [fK, if_pos rfl]
    · rw [fN, if_pos rfl]
    · rw [fN, if_neg (by omega), if_neg (by omega), if_neg (by omega), if_pos rfl]
    · rw [fI, if_neg (by omega), if_neg (by omega), if_neg (by omega)]
      by_cases z : j = 0
      · rw [if_pos ⟨rfl, z⟩, if_pos z]
      · rw [if_neg (fun w => z w.2), if_pos rfl, if_neg z]
theorem getD_mem : ∀ (L : List Nat) (t : Nat), t < L.length → L.getD t 0 ∈ L
  | [], t, h => absurd h (by simp)
  | x :: xs, 0, _ => List.mem_cons_self
  | x :: xs, t + 1, h => List.mem_cons_of_mem _ (getD_mem xs t (by simpa using h))
/-- where a rule comes to stand -/
theorem oIns_at {k : Nat} : ∀ (L : List Nat) (at_ : Nat), srt rk L → at_ ≤ L.length → (∀ e, at_ ≤ e → e < L.length → rk (L.getD e 0) < rk k) → (at_ = 0 ∨ ¬ rk (L.getD (at_ - 1) 0) < rk k) → ∀ e, (oIns rk k L).getD e 0 = if e < at_ then L.getD e 0 else if e = at_ then k else L.getD (e - 1) 0
  | [], at_, _, h1, _, _ => fun e => by
    have : at_ = 0 := Nat.le_zero.mp h1
    subst this
    unfold oIns
    rw [if_neg (by omega)]
    by_cases c : e = 0
    · rw [if_pos c, c]; rfl
    · rw [if_neg c]
      obtain ⟨e', rfl⟩ : ∃ e', e = e' + 1 := ⟨e - 1, by omega⟩
      rfl
  | x :: xs, at_, hs, h1, h2, h3 => fun e => by
    unfold oIns
    by_cases c : rk x < rk k
    · rw [if_pos c]
      have a0 : at_ = 0 := by
        rcases h3 with q | q
        · exact q
        · rcases Nat.eq_zero_or_pos at_ with z | z
          · exact z
          · exfalso
            apply q
            obtain ⟨a', rfl⟩ : ∃ a', at_ = a' + 1 := ⟨at_ - 1, by omega⟩
            rw [show a' + 1 - 1 = a' by omega]
            cases a' with
            | zero => exact c
            | succ a'' =>
              have hl : a'' < xs.length := by simp at h1; omega
              have hm := getD_mem xs a'' hl
              exact i_letr (hs.1 _ hm) c
      subst a0
      rw [if_neg (by omega)]
      by_cases ce : e = 0
      · rw [if_pos ce, ce]; rfl
      · rw [if_neg ce]
        obtain ⟨e', rfl⟩ : ∃ e', e = e' + 1 := ⟨e - 1, by omega⟩
        rfl
    · rw [if_neg c]
      cases at_ with
      | zero => exact absurd (h2 0 (Nat.le_refl _) (by simp)) c
      | succ a' =>
        have hl : a' ≤ xs.length := by simpa using h1
        have ih := oIns_at xs a' hs.2 hl (fun e q1 q2 => by have := h2 (e + 1) (by omega) (by simpa using q2); exact this) (by
          rcases Nat.eq_zero_or_pos a' with z | z
          · exact Or.inl z
          · right
            rcases h3 with w | w
            · omega
            · obtain ⟨a'', rfl⟩ : ∃ a'', a' = a'' + 1 := ⟨a' - 1, by omega⟩
              exact w)
        cases e with
        | zero => rw [if_pos (by omega)]; rfl
        | succ e' =>
          have := ih e'
          show (oIns rk k xs).getD e' 0 = _
          rw [this]
          by_cases c1 : e' < a'
          · rw [if_pos c1, if_pos (show e' + 1 < a' + 1 by omega)]; rfl
          · rw [if_neg c1, if_neg (show ¬ e' + 1 < a' + 1 by omega)]
            by_cases c2 : e' = a'
            · rw [if_pos c2, if_pos (show e' + 1 = a' + 1 by omega)]
            · rw [if_neg c2, if_neg (show ¬ e' + 1 = a' + 1 by omega)]
              obtain ⟨e'', rfl⟩ : ∃ e'', e' = e'' + 1 := ⟨e' - 1, by omega⟩
              rfl
def stO (ν : Km) (a : Nat) : Prop := kK ν a = 5 ∧ (kR ν a 1 = some (a + 1) ∧ kR ν a 3 = some (a + 2)) ∧ (kK ν (a + 1) = 15 ∧ kN ν (a + 1) = 24) ∧ kK ν (a + 2) = 12 ∧ kN ν (a + 2) = 24
def sA2 (a : Nat) : Nat → Nat → Prop := fun b _ => b = a + 2
theorem turn_L {Rt : Type} {kk : Km → Int32 → Option Rt} {x1 : Int32} {L : List Nat} {k : Nat} (hs : stO ν a) (hL : L.length < 24) (hm : ∀ y ∈ L, y < m) (hm24 : m ≤ 24) (hR : ∀ j, j < m → kR ν (a + 1) j = some (a + 4 + 4 * j) ∧ kK ν (a + 4 + 4 * j) = 3 ∧ kI ν (a + 4 + 4 * j) 7 = rk j) : ∀ (F at_ : Nat) (ν1 : Km), at_ < F → at_ ≤ L.length → kfr (sA2 a) ν1 ν → (∀ e, e < at_ → kI ν1 (a + 2) e = nI (L.getD e 0)) → (∀ e, at_ ≤ e → e < L.length → kI ν1 (a + 2) (e + 1) = nI (L.getD e 0)) → (∀ e, at_ ≤ e → e < L.length → rk (L.getD e 0) < rk k) → ∃ at' ν2, K5_putInTurn_L5 a x1 (rk k) kk F ν1 (nI at_) = kk ν2 (nI at') ∧ at' ≤ L.length ∧ kfr (sA2 a) ν2 ν ∧ (∀ e, e < at' → kI ν2 (a + 2) e = nI (L.getD e 0)) ∧ (∀ e, at' ≤ e → e < L.length → kI ν2 (a + 2) (e + 1) = nI (L.getD e 0)) ∧ (∀ e, at' ≤ e → e < L.length → rk (L.getD e 0) < rk k) ∧ (at' = 0 ∨ ¬ rk (L.getD (at' - 1) 0) < rk k) := by
  intro F
  induction F with
  | zero => intro at_ ν1 h1; omega
  | succ F ih =>
    intro at_ ν1 h1 h2 h3 h4 h5 h6
    unfold K5_putInTurn_L5
    by_cases c0 : at_ = 0
    · subst c0
      rw [if_pos (show nI 0 ≤ 0 by decide)]
      exact ⟨0, ν1, rfl, h2, h3, h4, h5, h6, Or.inl rfl⟩
    · obtain ⟨t, rfl⟩ : ∃ t, at_ = t + 1 := ⟨at_ - 1, by omega⟩
      obtain ⟨o1, ⟨o2, o3⟩, ⟨o4, o5⟩, o6, o7⟩ := hs
      have hmem := getD_mem L t (by omega)
      have hy := hm _ hmem
      obtain ⟨r1, r2, r3⟩ := hR _ hy
      have e1 : nI (t + 1) - (1 : Int32) = nI t := by rw [show (1 : Int32) = nI 1 from rfl, pk_sub (by omega)]; rfl
      rw [if_neg (show ¬ nI (t + 1) ≤ (0 : Int32) from fun z => nI_ge (a := 0) (b := t + 1) (by omega) (by omega) z), e1, nI_clamp (show t < 2 ^ 31 by omega), nI_clamp (show t + 1 < 2 ^ 31 by omega), h3.1.1, h3.1.2.1, h3.1.2.2.1, if_pos o1, o2, ob_some, o3, ob_some, if_pos o6, o7, if_pos ((okI_nI (by omega)).mpr (by omega)), if_pos o4, o5, h4 t (by omega), if_pos ((okI_nI (by omega)).mpr (by omega)), nI_clamp (show L.getD t 0 < 2 ^ 31 by omega), r1, ob_some, if_pos r2, h3.2 _ _ (fun z => by unfold sA2 at z; omega), r3]
      by_cases c : rk k ≤ rk (L.getD t 0)
      · rw [if_pos c]
        exact ⟨t + 1, ν1, rfl, h2, h3, h4, h5, h6, Or.inr (i_le_n c)⟩
      · rw [if_neg c, ob_some, ob_some, if_pos o6, o7, if_pos ((okI_nI (by omega)).mpr (by omega)), if_pos o6, if_pos ((okI_nI (by omega)).mpr (by omega)), bnd_eq, pk_m1, h4 t (by omega)]
        refine ih t _ (by omega) (by omega) (kfr_tr (S1 := sA2 a) (kfr_st rfl) h3 (fun _ _ z => z) (fun _ _ z => z)) (fun e he => ?_) (fun e q1 q2 => ?_) (fun e q1 q2 => ?_)
        · rw [kI_set, if_neg (by omega)]; exact h4 e (by omega)
        · rw [kI_set]
          by_cases z : e = t
          · rw [if_pos ⟨rfl, by omega⟩, z]
          · rw [if_neg (fun w => z (by omega))]; exact h5 e (by omega) q2
        · by_cases z : e = t
          · rw [z]; exact i_nle c
          · exact h6 e (by omega) q2
theorem add_eq (hs : stO ν a) (hm : m < 24) (h2 : kI ν a 2 = nI m) (h4 : kI ν a 4 = nI (oLst wh rk m).length) (ht : ∀ e, e < (oLst wh rk m).length → kI ν (a + 2) e = nI ((oLst wh rk m).getD e 0)) (hR : ∀ j, j < m → kR ν (a + 1) j = some (a + 4 + 4 * j) ∧ kK ν (a + 4 + 4 * j) = 3 ∧ kI ν (a + 4 + 4 * j) 7 = rk j) (hp : kK ν (a + 4 + 4 * m) = 3 ∧ kI ν (a + 4 + 4 * m) 7 = rk m ∧ kI ν (a + 4 + 4 * m) 0 = wh m) : ∃ ν', K5_add ν a (a + 4 + 4 * m) = some ν' ∧ (kK ν' = kK ν ∧ kN ν' = kN ν ∧ kn ν' = kn ν) ∧ (∀ q j, ¬ (q = a + 1 ∧ j = m) → kR ν' q j = kR ν q j) ∧ kR ν' (a + 1) m = some (a + 4 + 4 * m) ∧ (∀ q j, ¬ (q = a ∧ (j = 2 ∨ j = 4)) → q ≠ a + 2 → kI ν' q j = kI ν q j) ∧ kI ν' a 2 = nI (m + 1) ∧ kI ν' a 4 = nI (oLst wh rk (m + 1)).length ∧ ∀ e, e < (oLst wh rk (m + 1)).length → kI ν' (a + 2) e = nI ((oLst wh rk (m + 1)).getD e 0) := by
  have hs' := hs
  obtain ⟨o1, ⟨o2, o3⟩, ⟨o4, o5⟩, o6, o7⟩ := hs
  have hl := oLst_len (wh := wh) (rk := rk) (m := m)
  unfold K5_add K5_isFull K5_isFull_B14
  rw [if_pos o1, if_pos o1, h2, if_pos (show nI m < (24 : Int32) from nI_lt (b := 24) hm (by omega)), if_pos (show okZ 0 = true by decide), ob_some, if_pos rfl, o2, ob_some, if_pos o4, if_pos hp.1, o5, if_pos ((okI_nI (by omega)).mpr hm), nI_clamp (show m < 2 ^ 31 by omega), bnd_eq, kI_setR, hp.2.2, hp.2.1, h2]
  generalize hν1 : kSetR ν (a + 1) m (some (a + 4 + 4 * m)) = ν1
  have q1 : kK ν1 = kK ν := by rw [← hν1]; rfl
  have q2 : kN ν1 = kN ν := by rw [← hν1]; rfl
  have q3 : kn ν1 = kn ν := by rw [← hν1]; rfl
  have q4 : kI ν1 = kI ν := by rw [← hν1]; rfl
  have q5 : ∀ q j, kR ν1 q j = if q = a + 1 ∧ j = m then some (a + 4 + 4 * m) else kR ν q j := fun q j => by rw [← hν1, kR_set]
  unfold K5_add_B38
  by_cases c : wh m = 2
  · rw [if_pos c, q1, if_pos o1, bnd_eq, q4, h2, nI_1]
    have eL : oLst wh rk (m + 1) = oLst wh rk m := by
      show (if wh m = 2 then oLst wh rk m else oIns rk m (oLst wh rk m)) = _
      rw [if_pos c]
    rw [eL]
    refine ⟨_, rfl, ⟨by rw [kK_setI, q1], by rw [kN_setI, q2], by rw [kn_setI, q3]⟩, fun q j z => ?_, ?_, fun q j z w => ?_, ?_, ?_, fun e he => ?_⟩
    · rw [kR_setI, q5, if_neg z]
    · rw [kR_setI, q5, if_pos ⟨rfl, rfl⟩]
    · rw [kI_set, if_neg (fun y => z ⟨y.1, Or.inl y.2⟩), q4]
    · rw [kI_set, if_pos ⟨rfl, rfl⟩]
    · rw [kI_set, if_neg (by omega), q4]; exact h4
    · rw [kI_set, if_neg (by omega), q4]; exact ht e he
  · rw [if_neg c]
    have eL : oLst wh rk (m + 1) = oIns rk m (oLst wh rk m) := by
      show (if wh m = 2 then oLst wh rk m else oIns rk m (oLst wh rk m)) = _
      rw [if_neg c]
    rw [eL, oIns_len]
    have s1 : stO ν1 a := by
      refine ⟨by rw [q1]; exact o1, ⟨?_, ?_⟩, ⟨by rw [q1]; exact o4, by rw [q2]; exact o5⟩, by rw [q1]; exact o6, by rw [q2]; exact o7⟩
      · rw [q5, if_neg (by omega)]; exact o2
      · rw [q5, if_neg (by omega)]; exact o3
    unfold K5_putInTurn
    rw [if_pos s1.1, bnd_eq, q4, h4]
    obtain ⟨at', ν2, e1, e2, e3, e4, e5, e6, e7⟩ := turn_L (kk := fun s_49 v3_49 => K5_putInTurn_B49 s_49 a (nI m) v3_49) (x1 := nI m) (L := oLst wh rk m) (k := m) (rk := rk) (m := m) s1 (by omega) (fun y hy => (oLst_mem.mp hy).1) (by omega) (fun j hj => by
      obtain ⟨r1, r2, r3⟩ := hR j hj
      exact ⟨by rw [q5, if_neg (by omega)]; exact r1, by rw [q1]; exact r2, by rw [q4]; exact r3⟩) gF (oLst wh rk m).length ν1 (by unfold gF; omega) (Nat.le_refl _) (kfr_rf _ _) (fun e he => by rw [q4]; exact ht e he) (fun e z1 z2 => by omega) (fun e z1 z2 => by omega)
    rw [e1]
    unfold K5_putInTurn_B49
    rw [e3.1.1, if_pos s1.1, e3.1.2.1, s1.2.1.2, ob_some, if_pos s1.2.2.2.1, e3.1.2.2.1, s1.2.2.2.2, if_pos ((okI_nI (by omega)).mpr (by omega)), nI_clamp (show at' < 2 ^ 31 by omega), bnd_eq, bnd_eq, ob_some]
    have i4 : kI (kSetI ν2 (a + 2) at' (nI m)) a 4 = nI (oLst wh rk m).length := by rw [kI_set, if_neg (by omega), e3.2 _ _ (fun z => by unfold sA2 at z; omega), q4]; exact h4
    have i2 : kI (kSetI (kSetI ν2 (a + 2) at' (nI m)) a 4 (nI ((oLst wh rk m).length + 1))) a 2 = nI m := by rw [kI_set, if_neg (by omega), kI_set, if_neg (by omega), e3.2 _ _ (fun z => by unfold sA2 at z; omega), q4]; exact h2
    rw [i4, nI_1, if_pos (show kK (kSetI (kSetI ν2 (a + 2) at' (nI m)) a 4 (nI ((oLst wh rk m).length + 1))) a = 5 by rw [kK_setI, kK_setI, e3.1.1]; exact s1.1), bnd_eq, i2, nI_1]
    refine ⟨_, rfl, ⟨by rw [kK_setI, kK_setI, kK_setI, e3.1.1, q1], by rw [kN_setI, kN_setI, kN_setI, e3.1.2.2.1, q2], by rw [kn_setI, kn_setI, kn_setI, e3.1.2.2.2, q3]⟩, fun q j z => ?_, ?_, fun q j z w => ?_, ?_, ?_, fun e he => ?_⟩
    · rw [kR_setI, kR_setI, kR_setI, e3.1.2.1, q5, if_neg z]
    · rw [kR_setI, kR_setI, kR_setI, e3.1.2.1, q5, if_pos ⟨rfl, rfl⟩]
    · rw [kI_set, if_neg (fun y => z ⟨y.1, Or.inl y.2⟩), kI_set, if_neg (fun y => z ⟨y.1, Or.inr y.2⟩), kI_set, if_neg (fun y => w y.1), e3.2 _ _ (fun y => w y), q4]
    · rw [kI_set, if_pos ⟨rfl, rfl⟩]
    · rw [kI_set, if_neg (by omega), kI_set, if_pos ⟨rfl, rfl⟩]
    · rw [kI_set, if_neg (by omega), kI_set, if_neg (by omega), kI_set, oIns_at (oLst wh rk m) at' (srt_lst m) e2 e6 e7 e]
      by_cases c1 : e < at'
      · rw [if_neg (by omega), if_pos c1]; exact e4 e c1
      · rw [if_neg c1]
        by_cases c2 : e = at'
        · rw [if_pos ⟨rfl, c2⟩, if_pos c2]
        · rw [if_neg (fun z => c2 z.2), if_neg c2]
          have := e5 (e - 1) (by omega) (by omega)
          rw [show e - 1 + 1 = e by omega] at this
          exact this
end ADD
