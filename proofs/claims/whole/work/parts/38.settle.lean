/-! the class's settling of a span -/
section SETTLE
variable {a0 : Nat} {μ ν : Km} {σ : Ms} {B : Nat → Nat → Nat → Nat} {tg : Nat → Nat × Nat × Nat} {nT nS nH nP nw nL : Nat}
def kscr (ν μ : Km) (B : Nat → Nat → Nat → Nat) : Prop := (kK ν = kK μ ∧ kR ν = kR μ ∧ kN ν = kN μ ∧ kn ν = kn μ) ∧ ∀ b, b ≠ B 7 0 0 → b ≠ B 8 0 0 → kI ν b = kI μ b
def kSp (ν : Km) (B : Nat → Nat → Nat → Nat) (q : Sp) : Prop := kI ν (B 7 0 0) 0 = q.1 ∧ kI ν (B 7 0 0) 1 = q.2.1 ∧ kI ν (B 7 0 0) 2 = q.2.2.1 ∧ kI ν (B 7 0 0) 3 = q.2.2.2.1 ∧ kI ν (B 7 0 0) 5 = nI q.2.2.2.2.length ∧ ∀ i, i < q.2.2.2.2.length → kI ν (B 8 0 0) i = q.2.2.2.2.getD i 0
theorem kscr_rf (μ : Km) : kscr μ μ B := ⟨⟨rfl, rfl, rfl, rfl⟩, fun _ _ _ => rfl⟩
theorem kscr_set {p j : Nat} {x : Int32} (hp : p = B 7 0 0 ∨ p = B 8 0 0) (h : kscr ν μ B) : kscr (kSetI ν p j x) μ B := by
  refine ⟨h.1, fun b h1 h2 => ?_⟩
  funext i
  rw [kI_set, if_neg (fun z => by rcases hp with q | q <;> rw [q] at z <;> first | exact h1 z.1 | exact h2 z.1), h.2 b h1 h2]
theorem kscr_tr {ρ ν μ : Km} (h1 : kscr ρ ν B) (h2 : kscr ν μ B) : kscr ρ μ B := ⟨⟨h1.1.1.trans h2.1.1, h1.1.2.1.trans h2.1.2.1, h1.1.2.2.1.trans h2.1.2.2.1, h1.1.2.2.2.trans h2.1.2.2.2⟩, fun b q1 q2 => (h1.2 b q1 q2).trans (h2.2 b q1 q2)⟩
theorem RepB_kscr (h : RepB a0 μ σ B tg nT nS nH nP nw nL) (hk : kscr ν μ B) : RepB a0 ν σ B tg nT nS nH nP nw nL := by
  obtain ⟨h1, ⟨s1, s2, s3, s4⟩, h3⟩ := h
  refine ⟨h1, ⟨s1, fun q hq => by rw [hk.1.1]; exact s2 q (by rw [← hk.1.2.2.2]; exact hq), fun c i j hv => by rw [hk.1.1, hk.1.2.2.1]; exact s3 c i j hv, fun c i j e hr => by rw [hk.1.2.1]; exact s4 c i j e hr⟩, fun c i j e hv => ?_⟩
  have t1 := (s3 c i j (vwv_vld hv)).2.2
  have t7 := (s3 7 0 0 ⟨by omega, rfl, rfl⟩).2.2
  have t8 := (s3 8 0 0 ⟨by omega, rfl, rfl⟩).2.2
  have c7 : c ≠ 7 := fun z => by subst z; exact hv.elim
  have c8 : c ≠ 8 := fun z => by subst z; exact hv.elim
  rw [hk.2 (B c i j) (fun z => by rw [z, t7] at t1; simp at t1; exact c7 t1.1.symm) (fun z => by rw [z, t8] at t1; simp at t1; exact c8 t1.1.symm)]
  exact h3 c i j e hv
theorem RepB.spn (h : RepB a0 μ σ B tg nT nS nH nP nw nL) : kR μ a0 11 = some (B 7 0 0) ∧ kK μ (B 7 0 0) = 6 ∧ kR μ (B 7 0 0) 4 = some (B 8 0 0) ∧ kK μ (B 8 0 0) = 12 ∧ kN μ (B 8 0 0) = 24 ∧ B 7 0 0 ≠ B 8 0 0 := by
  refine ⟨h.r (by omega), (h.one (c := 7) (by omega)).1, h.2.1.2.2.2 7 0 0 4 ⟨rfl, rfl, rfl⟩, (h.one (c := 8) (by omega)).1, (h.one (c := 8) (by omega)).2, fun z => ?_⟩
  have k7 : kK μ (B 7 0 0) = 6 := (h.one (c := 7) (by omega)).1
  have k8 : kK μ (B 8 0 0) = 12 := (h.one (c := 8) (by omega)).1
  rw [z, k8] at k7
  cases k7
theorem K6_lose_eq (h : RepB a0 ν σ B tg nT nS nH nP nw nL) {q : Sp} {k : Int32} (hq : kSp ν B q) (hn : q.2.2.2.2.length < 24) : ∃ ν', K6_lose ν (B 7 0 0) k = some ν' ∧ kscr ν' ν B ∧ kSp ν' B (q.1, q.2.1, q.2.2.1, q.2.2.2.1, q.2.2.2.2 ++ [k]) ∧ kI ν' (B 7 0 0) 6 = kI ν (B 7 0 0) 6 ∧ kI ν' (B 7 0 0) 7 = kI ν (B 7 0 0) 7 := by
  obtain ⟨s1, s2, s3, s4, s5, s6⟩ := h.spn
  obtain ⟨h1, h2, h3, h4, h5, h6⟩ := hq
  have s6' : B 8 0 0 ≠ B 7 0 0 := fun z => s6 z.symm
  refine ⟨kSetI (kSetI ν (B 8 0 0) q.2.2.2.2.length k) (B 7 0 0) 5 (nI (q.2.2.2.2.length + 1)), ?_, kscr_set (Or.inl rfl) (kscr_set (Or.inr rfl) (kscr_rf ν)), ⟨?_, ?_, ?_, ?_, ?_, fun i hi => ?_⟩, ?_, ?_⟩
  · unfold K6_lose K6_lose_B29
    rw [if_pos s2, h5, show (24 : Int32) = nI 24 from rfl, if_neg (nI_ge hn (by omega)), s3, ob_some, if_pos s4, s5, if_pos ((okI_nI (by omega)).mpr hn), nI_clamp (by omega), bnd_eq, bnd_eq, kI_set, if_neg (fun z => s6 z.1), h5, nI_1]
  · rw [kI_set, if_neg (by simp), kI_set, if_neg (fun z => s6 z.1)]; exact h1
  · rw [kI_set, if_neg (by simp), kI_set, if_neg (fun z => s6 z.1)]; exact h2
  · rw [kI_set, if_neg (by simp), kI_set, if_neg (fun z => s6 z.1)]; exact h3
  · rw [kI_set, if_neg (by simp), kI_set, if_neg (fun z => s6 z.1)]; exact h4
  · rw [kI_set, if_pos ⟨rfl, rfl⟩]; simp
  · rw [kI_set, if_neg (fun z => s6' z.1), kI_set]
    have hi2 : i < q.2.2.2.2.length + 1 := by simpa using hi
    by_cases e : i = q.2.2.2.2.length
    · rw [if_pos ⟨rfl, e⟩, e]; simp
    · have hlt : i < q.2.2.2.2.length := by omega
      rw [if_neg (fun z => e z.2), h6 i hlt]
      simp [List.getD_eq_getElem?_getD, List.getElem?_append_left hlt]
  · rw [kI_set, if_neg (by simp), kI_set, if_neg (fun z => s6 z.1)]
  · rw [kI_set, if_neg (by simp), kI_set, if_neg (fun z => s6 z.1)]
theorem K6_keepUntil_eq (h : RepB a0 ν σ B tg nT nS nH nP nw nL) {q : Sp} {k x : Int32} (hq : kSp ν B q) (hn : q.2.2.2.2.length < 24) : ∃ ν', K6_keepUntil ν (B 7 0 0) x k = some ν' ∧ kscr ν' ν B ∧ kSp ν' B (spKeep k x q) ∧ kI ν' (B 7 0 0) 6 = kI ν (B 7 0 0) 6 ∧ kI ν' (B 7 0 0) 7 = kI ν (B 7 0 0) 7 := by
  obtain ⟨s1, s2, s3, s4, s5, s6⟩ := h.spn
  have s6' : B 8 0 0 ≠ B 7 0 0 := fun z => s6 z.symm
  unfold K6_keepUntil K6_keepUntil_B34 spKeep
  rw [if_pos s2, hq.2.1, hq.1]
  by_cases c1 : q.2.1 < x
  · rw [if_neg (i_lt_n c1), if_pos c1]
    obtain ⟨ν1, e1, r1⟩ := K6_lose_eq h (k := k) hq hn
    rw [e1, ob_some]
    exact ⟨ν1, rfl, r1⟩
  · rw [if_pos (i_nlt c1), if_neg c1]
    by_cases c2 : q.1 < x
    · rw [if_neg (i_lt_n c2), if_pos c2, bnd_eq, bnd_eq]
      obtain ⟨h1, h2, h3, h4, h5, h6⟩ := hq
      refine ⟨_, rfl, kscr_set (Or.inl rfl) (kscr_set (Or.inl rfl) (kscr_rf ν)), ⟨?_, ?_, ?_, ?_, ?_, fun i hi => ?_⟩, ?_, ?_⟩
      · rw [kI_set, if_neg (by simp), kI_set, if_pos ⟨rfl, rfl⟩]
      · rw [kI_set, if_neg (by simp), kI_set, if_neg (by simp)]; exact h2
      · rw [kI_set, if_pos ⟨rfl, rfl⟩]
      · rw [kI_set, if_neg (by simp), kI_set, if_neg (by simp)]; exact h4
      · rw [kI_set, if_neg (by simp), kI_set, if_neg (by simp)]; exact h5
      · rw [kI_set, if_neg (fun z => s6' z.1), kI_set, if_neg (fun z => s6' z.1)]; exact h6 i hi
      · rw [kI_set, if_neg (by simp), kI_set, if_neg (by simp)]
      · rw [kI_set, if_neg (by simp), kI_set, if_neg (by simp)]
    · rw [if_pos (i_nlt c2), if_neg c2]
      exact ⟨ν, rfl, kscr_rf ν, hq, rfl, rfl⟩
theorem K6_endAt_eq (h : RepB a0 ν σ B tg nT nS nH nP nw nL) {q : Sp} {k x : Int32} (hq : kSp ν B q) (hn : q.2.2.2.2.length < 24) : ∃ ν', K6_endAt ν (B 7 0 0) x k = some ν' ∧ kscr ν' ν B ∧ kSp ν' B (spEnd k x q) ∧ kI ν' (B 7 0 0) 6 = kI ν (B 7 0 0) 6 ∧ kI ν' (B 7 0 0) 7 = kI ν (B 7 0 0) 7 := by
  obtain ⟨s1, s2, s3, s4, s5, s6⟩ := h.spn
  have s6' : B 8 0 0 ≠ B 7 0 0 := fun z => s6 z.symm
  unfold K6_endAt K6_endAt_B34 spEnd
  rw [if_pos s2, hq.2.1, hq.1]
  by_cases c1 : x < q.1
  · rw [if_neg (i_lt_n c1), if_pos c1]
    obtain ⟨ν1, e1, r1⟩ := K6_lose_eq h (k := k) hq hn
    rw [e1, ob_some]
    exact ⟨ν1, rfl, r1⟩
  · rw [if_pos (i_nlt c1), if_neg c1]
    by_cases c2 : x < q.2.1
    · rw [if_neg (i_lt_n c2), if_pos c2, bnd_eq, bnd_eq]
      obtain ⟨h1, h2, h3, h4, h5, h6⟩ := hq
      refine ⟨_, rfl, kscr_set (Or.inl rfl) (kscr_set (Or.inl rfl) (kscr_rf ν)), ⟨?_, ?_, ?_, ?_, ?_, fun i hi => ?_⟩, ?_, ?_⟩
      · rw [kI_set, if_neg (by simp), kI_set, if_neg (by simp)]; exact h1
      · rw [kI_set, if_neg (by simp), kI_set, if_pos ⟨rfl, rfl⟩]
      · rw [kI_set, if_neg (by simp), kI_set, if_neg (by simp)]; exact h3
      · rw [kI_set, if_pos ⟨rfl, rfl⟩]
      · rw [kI_set, if_neg (by simp), kI_set, if_neg (by simp)]; exact h5
      · rw [kI_set, if_neg (fun z => s6' z.1), kI_set, if_neg (fun z => s6' z.1)]; exact h6 i hi
      · rw [kI_set, if_neg (by simp), kI_set, if_neg (by simp)]
      · rw [kI_set, if_neg (by simp), kI_set, if_neg (by simp)]
    · rw [if_pos (i_nlt c2), if_neg c2]
      exact ⟨ν, rfl, kscr_rf ν, hq, rfl, rfl⟩
theorem K6_take_eq (h : RepB a0 ν σ B tg nT nS nH nP nw nL) {q : Sp} {w k d : Int32} (hq : kSp ν B q) (hn : q.2.2.2.2.length < 24) : ∃ ν', K6_take ν (B 7 0 0) w k d = some ν' ∧ kscr ν' ν B ∧ kSp ν' B (spStep w k d q) ∧ kI ν' (B 7 0 0) 6 = kI ν (B 7 0 0) 6 ∧ kI ν' (B 7 0 0) 7 = kI ν (B 7 0 0) 7 := by
  obtain ⟨s1, s2, -⟩ := h.spn
  unfold K6_take K6_take_B16 K6_take_B34 spStep
  by_cases c1 : w = 0
  · rw [if_pos c1, if_pos c1]
    by_cases c2 : d = -1
    · rw [if_pos c2, if_pos c2, if_pos s2]
      obtain ⟨ν1, e1, r1⟩ := K6_keepUntil_eq h (k := k) (x := 999999) hq hn
      rw [e1, ob_some]
      exact ⟨ν1, rfl, r1⟩
    · rw [if_neg c2, if_neg c2, if_pos s2]
      obtain ⟨ν1, e1, r1⟩ := K6_keepUntil_eq h (k := k) (x := d) hq hn
      rw [e1, ob_some]
      exact ⟨ν1, rfl, r1⟩
  · rw [if_neg c1, if_neg c1]
    by_cases c2 : d = -1
    · rw [if_pos c2, if_pos c2]
      exact ⟨ν, rfl, kscr_rf ν, hq, rfl, rfl⟩
    · rw [if_neg c2, if_neg c2, if_pos s2]
      obtain ⟨ν1, e1, r1⟩ := K6_endAt_eq h (k := k) (x := d) hq hn
      rw [e1, ob_some]
      exact ⟨ν1, rfl, r1⟩
theorem K3_dayFor_eq (h : RepB a0 μ σ B tg nT nS nH nP nw nL) {s k t : Nat} (hs : s < nS) (hk : k < rmy σ.2 s) (hp : ¬ σ.2 26 (24 * s + k) = 2) (ht : t < nT) : K3_dayFor μ (B 18 s k) (B 10 t 0) = some (rDay σ.2 (24 * s + k) t) := by
  have hl := (lvr_of h.1.2.1 hs hk).1
  have h30 := h.nT30
  obtain ⟨r1, r2, -⟩ := h.ru hs hk
  obtain ⟨t1, t2, t3, t4, t5, t6, t7, t8, t9⟩ := h.th ht
  have e31 := ibt_c (h.1.2.1 31 _ hl hp) (by decide)
  have e29 := ibt_c (h.1.2.1 29 _ hl hp) (by decide)
  have v4 : kI μ (B 18 s k) 4 = σ.2 29 (24 * s + k) := h.2.2 18 s k 4 ⟨hs, hk, Or.inr (Or.inr (Or.inr ⟨hp, by omega⟩))⟩
  have v5 : kI μ (B 18 s k) 5 = σ.2 30 (24 * s + k) := h.2.2 18 s k 5 ⟨hs, hk, Or.inr (Or.inr (Or.inr ⟨hp, by omega⟩))⟩
  have v6 : kI μ (B 18 s k) 6 = σ.2 31 (24 * s + k) := h.2.2 18 s k 6 ⟨hs, hk, Or.inr (Or.inr (Or.inr ⟨hp, by omega⟩))⟩
  have ve : kI μ (B 12 t 0) (σ.2 31 (24 * s + k)).toNatClampNeg = σ.2 11 (4 * t + (σ.2 31 (24 * s + k)).toNatClampNeg) := h.2.2 12 t 0 _ ⟨ht, rfl, e31.2⟩
  unfold K3_dayFor K3_dayFor_B60 rDay
  rw [if_pos t2, t4, ob_some, if_pos r2, if_pos t7.1, v6, t7.2, if_pos (by rw [e31.1]; exact (okI_nI (by omega)).mpr e31.2), bnd_eq, ve, v4, v5]
  have h11 := (h.1.2.1 11 (4 * t + (σ.2 31 (24 * s + k)).toNatClampNeg) (by omega)).1
  by_cases c2 : σ.2 11 (4 * t + (σ.2 31 (24 * s + k)).toNatClampNeg) = -1
  · rw [if_pos c2, if_pos c2]
  · rw [if_neg c2, if_neg c2]
    obtain ⟨d, hd, ed⟩ := h11.resolve_left c2
    rw [ed]
    unfold mUnt
    rw [nI_clamp (show d < 2 ^ 31 by omega)]
    by_cases c : σ.2 30 (24 * s + k) = 0
    · rw [if_pos c, if_pos c, e29.1, nI_add, show (200000 : Int32) = nI 200000 from rfl, nI_clamp (by omega)]
      by_cases c3 : d + (σ.2 29 (24 * s + k)).toNatClampNeg ≤ 200000
      · rw [if_pos (nI_le c3 (by omega)), if_pos c3]
      · rw [if_neg (nI_ge (by omega) (by omega)), if_neg c3]
    · rw [if_neg c, if_neg c]
      have hu : ∃ u : Nat, u ≤ 12 ∧ σ.2 30 (24 * s + k) = nI u := by
        rcases h.1.2.1 30 _ hl hp with q | q | q
        · exact absurd q c
        · exact ⟨1, by omega, q⟩
        · exact ⟨12, by omega, q⟩
      obtain ⟨u, hu1, hu2⟩ := hu
      have hm : (σ.2 29 (24 * s + k)).toNatClampNeg * u ≤ 9999 * 12 := Nat.mul_le_mul (by omega) hu1
      rw [hu2, e29.1, pk_mul, nI_clamp (show u < 2 ^ 31 by omega), K0_monthsAfter_eq (by omega) (by omega), ob_some, nI_clamp (show (σ.2 29 (24 * s + k)).toNatClampNeg < 2 ^ 31 by omega), Nat.mul_comm]
end SETTLE
