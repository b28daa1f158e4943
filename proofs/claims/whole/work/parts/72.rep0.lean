/-! both new objects stand for each other -/
section REP0
variable {μ0 μ9 μ10 ν : Km} {n0 : Nat}
def mOf (k : Nat) : Nat := if k < 39 then k - 8 else if k = 53 then 31 else k - 23
def sM0 : Ms := (fun k => vi10 0 k, fun k j => vi10 (mOf k) j)
def o9 (c i : Nat) : Nat := match c with
  | 0 => 1 | 1 => 2 | 2 => 3 | 3 => 4 | 4 => 9 | 5 => 10 | 6 => 11 | 7 => 12 | 8 => 13 | 9 => 5 + i | _ => 0
def bO (n0 c i j : Nat) : Nat := n0 + o9 c i
def t9 (o : Nat) : Nat × Nat × Nat := match o with
  | 0 => (22, 0, 0) | 1 => (0, 0, 0) | 2 => (1, 0, 0) | 3 => (2, 0, 0) | 4 => (3, 0, 0) | 5 => (9, 0, 0) | 6 => (9, 1, 0) | 7 => (9, 2, 0) | 8 => (9, 3, 0) | 9 => (4, 0, 0) | 10 => (5, 0, 0) | 11 => (6, 0, 0) | 12 => (7, 0, 0) | _ => (8, 0, 0)
def tO (n0 q : Nat) : Nat × Nat × Nat := t9 (q - n0)
theorem v10_0 {k j : Nat} (h3 : k ≠ 3) (h6 : k ≠ 6) (h0 : k ≠ 0) : vi10 k j = 0 := by
  unfold vi10
  rw [if_neg (fun z => h3 z.1), if_neg (fun z => h6 z.1), if_neg (fun z => h0 z.1), if_neg (fun z => h0 z.1)]
theorem sM_z {k j : Nat} (h : mOf k ≠ 3 ∧ mOf k ≠ 6 ∧ mOf k ≠ 0) : sM0.2 k j = 0 := v10_0 (k := mOf k) h.1 h.2.1 h.2.2
theorem mInv_0 : mInv sM0 0 0 0 0 0 0 := by
  refine ⟨⟨by decide, by omega, by decide, by omega, by decide, by omega, by decide, by omega, by decide, by omega, by decide, by omega⟩, fun k j => ?_, fun t ht => Or.inl ?_⟩
  · unfold mRg
    split
    · intro z; omega
    · intro z
      have e : sM0.2 10 j = 0 := sM_z (by decide)
      rw [e]; exact ⟨⟨0, by omega, rfl⟩, fun _ => rfl⟩
    · intro z
      have e : sM0.2 11 j = -1 := by show vi10 3 j = -1; unfold vi10; rw [if_pos ⟨rfl, z⟩]
      rw [e]; exact ⟨Or.inl rfl, fun _ => rfl⟩
    · intro z
      have e : sM0.2 12 j = 0 := sM_z (by decide)
      rw [e]; exact ⟨⟨0, by omega, rfl⟩, fun _ => rfl⟩
    · intro z
      have e : sM0.2 13 j = 0 := sM_z (by decide)
      rw [e]; exact ⟨Or.inl rfl, fun _ => rfl⟩
    · intro z
      have e : sM0.2 14 j = 1 := by show vi10 6 j = 1; unfold vi10; rw [if_neg (by omega), if_pos ⟨rfl, z⟩]
      rw [e]; exact ⟨1, by omega, by omega, rfl⟩
    · intro z
      have e : sM0.2 15 j = 0 := sM_z (by decide)
      rw [e]; exact ⟨0, by omega, rfl⟩
    · intro z; omega
    · intro z; omega
    · intro z
      have e : sM0.2 18 j = 0 := sM_z (by decide)
      rw [e]; exact ⟨Or.inl rfl, fun _ => rfl⟩
    · intro z; omega
    · intro z; omega
    · intro z; have := z.1; omega
    · intro z; have := z.1; omega
    · intro z; have := z.1; omega
    · intro z; have := z.1; omega
    · intro z; have := z.1; omega
    · intro z; have := z.1; omega
    · intro z; have := z.1; omega
    · intro z; have := z.1; omega
    · intro z; have := z.1; omega
    · intro z; have := z.1; omega
    · intro z; have := z.1; omega
    · intro z; have := z.1; omega
    · intro z
      have e : sM0.2 38 j = 0 := sM_z (by decide)
      rw [e]; exact ⟨0, by omega, rfl⟩
    · intro z
      have e : sM0.2 59 j = 0 := sM_z (by decide)
      rw [e]; exact ⟨⟨0, by omega, rfl⟩, fun _ => rfl⟩
    · trivial
  · exact sM_z (by decide)
theorem vld_0 {A : Ar} {c i j : Nat} (h : vld A 0 0 0 c i j) : (c = 9 ∧ i < 4 ∧ j = 0) ∨ (i = 0 ∧ j = 0 ∧ (c < 9 ∨ c = 22)) := by
  have h23 : c < 23 := by
    unfold vld at h
    split at h <;> first | omega | exact h.1
  rcases (show c = 0 ∨ c = 1 ∨ c = 2 ∨ c = 3 ∨ c = 4 ∨ c = 5 ∨ c = 6 ∨ c = 7 ∨ c = 8 ∨ c = 9 ∨ c = 10 ∨ c = 11 ∨ c = 12 ∨ c = 13 ∨ c = 14 ∨ c = 15 ∨ c = 16 ∨ c = 17 ∨ c = 18 ∨ c = 19 ∨ c = 20 ∨ c = 21 ∨ c = 22 by omega) with rfl | rfl | rfl | rfl | rfl | rfl | rfl | rfl | rfl | rfl | rfl | rfl | rfl | rfl | rfl | rfl | rfl | rfl | rfl | rfl | rfl | rfl | rfl
  all_goals first | exact Or.inr ⟨h.2.1, h.2.2, by omega⟩ | exact Or.inl ⟨rfl, h.1, h.2⟩ | (have h1 := h.1; exact absurd h1 (Nat.not_lt_zero _))
theorem Rep_0 (h9 : Bld μ0 n0 kd9 ln9 14 vi9 rf9 μ9) (h10 : Bld μ9 (n0 + 14) kd10 ln10 37 vi10 rf10 μ10) (hn : n0 + 14 ≤ kn ν) (hK : ∀ q, kK ν q = if n0 + 14 ≤ q then 0 else kK μ10 q) (hN : kN ν = kN μ10) (hR : kR ν = kR μ10) (hI : kI ν = kI μ10) : Rep n0 ν sM0 := by
  have cq : ∀ i, i < 14 → ceq μ10 μ9 (n0 + i) := fun i hi => h10.2.1 _ (by omega)
  have fK : ∀ i, i < 14 → kK ν (n0 + i) = kd9 i := fun i hi => by rw [hK, if_neg (by omega), (cq i hi).1.1]; exact (h9.2.2.2.1 i hi).1
  have fN : ∀ i, i < 14 → kN ν (n0 + i) = ln9 i := fun i hi => by rw [hN, (cq i hi).1.2]; exact (h9.2.2.2.1 i hi).2.1
  have fI : ∀ i j, i < 14 → kI ν (n0 + i) j = vi9 i j := fun i j hi => by rw [hI, (cq i hi).2.2]; exact (h9.2.2.2.1 i hi).2.2 j
  have fR : ∀ i j r, (i, j, r) ∈ rf9 → kR ν (n0 + i) j = some (n0 + r) := fun i j r ht => by
    have t := h9.2.2.2.2 _ ht
    rw [hR, (cq i t.2).2.1]
    exact t.1
  refine ⟨bO n0, tO n0, 0, 0, 0, 0, 0, 0, mInv_0, ⟨rfl, fun q hq => by rw [hK, if_pos (by omega)], fun c i j hv => ?_, fun c i j e hr => ?_⟩, fun c i j e hv => ?_⟩
  · have lt : o9 c i < 14 ∧ kd9 (o9 c i) = kdc c ∧ ln9 (o9 c i) = lnc c ∧ t9 (o9 c i) = (c, i, j) := by
      rcases vld_0 hv with ⟨rfl, h1, rfl⟩ | ⟨rfl, rfl, h1⟩
      · rcases (show i = 0 ∨ i = 1 ∨ i = 2 ∨ i = 3 by omega) with rfl | rfl | rfl | rfl <;> exact ⟨by decide, rfl, rfl, rfl⟩
      · rcases (show c = 0 ∨ c = 1 ∨ c = 2 ∨ c = 3 ∨ c = 4 ∨ c = 5 ∨ c = 6 ∨ c = 7 ∨ c = 8 ∨ c = 22 by omega) with rfl | rfl | rfl | rfl | rfl | rfl | rfl | rfl | rfl | rfl <;> exact ⟨by decide, rfl, rfl, rfl⟩
    refine ⟨?_, ?_, ?_⟩
    · show kK ν (n0 + o9 c i) = _; rw [fK _ lt.1]; exact lt.2.1
    · show kN ν (n0 + o9 c i) = _; rw [fN _ lt.1]; exact lt.2.2.1
    · show t9 (n0 + o9 c i - n0) = _; rw [Nat.add_sub_cancel_left]; exact lt.2.2.2
  · unfold rfv at hr
    split at hr
    all_goals first | (have := hr.1; omega) | exact hr.elim | skip
    · obtain ⟨h1, rfl, rfl⟩ := hr
      rcases (show e = 0 ∨ e = 1 ∨ e = 2 ∨ e = 3 by omega) with rfl | rfl | rfl | rfl
      · exact fR 4 0 5 (by decide)
      · exact fR 4 1 6 (by decide)
      · exact fR 4 2 7 (by decide)
      · exact fR 4 3 8 (by decide)
    · obtain ⟨rfl, rfl, rfl⟩ := hr
      exact fR 10 0 11 (by decide)
    · obtain ⟨rfl, rfl, rfl⟩ := hr
      exact fR 12 4 13 (by decide)
    · obtain ⟨rfl, rfl, h3⟩ := hr
      rcases h3 with rfl | rfl | rfl | rfl | rfl | rfl | rfl
      · exact fR 0 0 1 (by decide)
      · exact fR 0 3 2 (by decide)
      · exact fR 0 5 3 (by decide)
      · exact fR 0 7 4 (by decide)
      · exact fR 0 8 9 (by decide)
      · exact fR 0 10 10 (by decide)
      · exact fR 0 11 12 (by decide)
  · unfold vwv at hv
    split at hv
    all_goals first | (have := hv.1; omega) | exact hv.elim | skip
    · show kI ν (n0 + 1) e = (vi10 30 e).toInt8.toInt32
      rw [fI 1 e (by omega), v10_0 (by decide) (by decide) (by decide)]
      unfold vi9
      rw [if_neg (by omega), if_neg (by omega)]
      rfl
    · obtain ⟨rfl, rfl, h3⟩ := hv
      show kI ν (n0 + 10) e = _
      rw [fI 10 e (by omega)]
      rcases h3 with rfl | rfl <;> decide
    · obtain ⟨rfl, rfl, h3⟩ := hv
      show kI ν (n0 + 11) e = _
      rw [fI 11 e (by omega)]
      have e1 : vi9 11 e = 0 := by unfold vi9; rw [if_neg (by omega), if_neg (by omega)]
      rw [e1]
      show 0 = (match e % 5 with | 0 => sM0.2 19 (e / 5) | 1 => sM0.2 20 (e / 5) | 2 => sM0.2 21 (e / 5) | 3 => sM0.2 22 (e / 5) | _ => sM0.2 23 (e / 5))
      rw [sM_z (k := 19) (by decide), sM_z (k := 20) (by decide), sM_z (k := 21) (by decide), sM_z (k := 22) (by decide), sM_z (k := 23) (by decide)]
      split <;> rfl
    · obtain ⟨h1, rfl, h3⟩ := hv
      show kI ν (n0 + (5 + i)) e = _
      rw [fI (5 + i) e (by omega)]
      rcases (show i = 0 ∨ i = 1 ∨ i = 2 ∨ i = 3 by omega) with rfl | rfl | rfl | rfl <;> rcases (show e = 0 ∨ e = 1 by omega) with rfl | rfl <;> decide
    · obtain ⟨rfl, rfl, h3⟩ := hv
      show kI ν (n0 + 0) e = _
      rw [fI 0 e (by omega)]
      rcases h3 with rfl | rfl | rfl | rfl | rfl | rfl <;> decide
end REP0
