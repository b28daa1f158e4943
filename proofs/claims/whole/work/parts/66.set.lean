/-! a set that has been read stands -/
section NEWSET
variable {a0 : Nat} {μ ν μ1 : Km} {σ σ' σ1 τ : Ms} {B B' : Nat → Nat → Nat → Nat} {tg tg' : Nat → Nat × Nat × Nat} {nT nS nH nP nw nL R a m tp n dd : Nat} {A A' : Ar} {T : Nat → Int32} {d : Int32}
def bSe (B : Nat → Nat → Nat → Nat) (a s : Nat) (c i j : Nat) : Nat := if i = s ∧ 15 ≤ c ∧ c ≤ 17 then a + (c - 15) else if i = s ∧ 18 ≤ c ∧ c ≤ 21 then a + 4 + 4 * j + (c - 18) else B c i j
def tSe (tg : Nat → Nat × Nat × Nat) (a s : Nat) (q : Nat) : Nat × Nat × Nat := if q < a then tg q else if q < a + 3 then (15 + (q - a), s, 0) else (18 + (q - a - 4) % 4, s, (q - a - 4) / 4)
def nSe (s m : Nat) (c i j : Nat) : Prop := i = s ∧ ((15 ≤ c ∧ c ≤ 17 ∧ j = 0) ∨ (18 ≤ c ∧ c ≤ 21 ∧ j < m))
theorem bSe_old {c i j : Nat} (h : vld A nT nS nH c i j) : bSe B a nS c i j = B c i j := by
  unfold bSe
  by_cases e : i = nS ∧ 15 ≤ c ∧ c ≤ 21
  · exfalso
    obtain ⟨h1, h2, h3⟩ := e
    rcases (show c = 15 ∨ c = 16 ∨ c = 17 ∨ c = 18 ∨ c = 19 ∨ c = 20 ∨ c = 21 by omega) with rfl | rfl | rfl | rfl | rfl | rfl | rfl <;> (have h5 : i < nS := h.1; omega)
  · rw [if_neg (by omega), if_neg (by omega)]
theorem bSe_1 {c j : Nat} (h1 : 15 ≤ c) (h2 : c ≤ 17) : bSe B a nS c nS j = a + (c - 15) := by
  unfold bSe
  rw [if_pos ⟨rfl, h1, h2⟩]
theorem bSe_2 {c j : Nat} (h1 : 18 ≤ c) (h2 : c ≤ 21) : bSe B a nS c nS j = a + 4 + 4 * j + (c - 18) := by
  unfold bSe
  rw [if_neg (by omega), if_pos ⟨rfl, h1, h2⟩]
/-- the reference's arrays with the new set -/
def aSe (τ : Ms) (nS m dd : Nat) : Ms := mSto (mSto τ 25 nS (nI m)) 24 nS (nI dd)
theorem aSe_at {k j : Nat} : (aSe τ nS m dd).2 k j = if k = 24 ∧ j = nS then nI dd else if k = 25 ∧ j = nS then nI m else τ.2 k j := by
  unfold aSe
  rw [mSto_at, mSto_at]
theorem aSe_ne {k : Nat} (h1 : k ≠ 24) (h2 : k ≠ 25) : (aSe τ nS m dd).2 k = τ.2 k := by
  funext j
  rw [aSe_at, if_neg (fun z => h1 z.1), if_neg (fun z => h2 z.1)]
theorem aSe_lw (h : lwA nS τ.2 A) : lwA nS (aSe τ nS m dd).2 A := by
  refine ⟨fun k hk => ?_, fun s hs => ⟨?_, ?_⟩, fun k r h1 h2 h3 => ?_, fun k j h1 h2 h3 => ?_⟩
  · rw [aSe_ne (by omega) (by omega)]; exact h.1 k hk
  · rw [aSe_at, if_neg (by omega), if_neg (by omega)]; exact (h.2.1 s hs).1
  · rw [aSe_at, if_neg (by omega), if_neg (by omega)]; exact (h.2.1 s hs).2
  · rw [aSe_ne (by omega) (by omega)]; exact h.2.2.1 k r h1 h2 h3
  · rw [aSe_ne (by omega) (by omega)]; exact h.2.2.2 k j h1 h2 h3
theorem aSe_25 (hm : m ≤ 24) : rmy (aSe τ nS m dd).2 nS = m := by
  unfold rmy
  rw [aSe_at, if_neg (by omega), if_pos ⟨rfl, rfl⟩, nI_clamp (by omega)]
theorem aSe_ord (hm : m ≤ 24) : ord (aSe τ nS m dd).2 nS = lM τ (24 * nS) m := by
  unfold ord lM
  rw [show ((aSe τ nS m dd).2 25 nS).toNatClampNeg = m from aSe_25 hm, aSe_ne (by decide) (by decide), aSe_ne (by decide) (by decide)]
theorem mRg_set (h : ∀ k j, mRg σ1.2 nT nS nH k j) (hl : lwA nS τ.2 σ1.2) (hm : m ≤ 24) (hd : dd ≤ 200000) (hru : ∀ j, j < m → rul ν τ (a + 4 + 4 * j) (24 * nS + j)) : ∀ k j, mRg (aSe τ nS m dd).2 nT (nS + 1) nH k j := by
  intro k j
  have g := mRg_lw h (aSe_lw (m := m) (dd := dd) hl) k j
  have lv : ∀ {r}, lvr (aSe τ nS m dd).2 (nS + 1) r → lvr (aSe τ nS m dd).2 nS r ∨ ∃ jj, jj < m ∧ r = 24 * nS + jj := by
    intro r z
    by_cases c : r / 24 < nS
    · exact Or.inl ⟨c, z.2⟩
    · have z1 := z.1
      have e : r / 24 = nS := by omega
      have z2 : r % 24 < rmy (aSe τ nS m dd).2 (r / 24) := z.2
      rw [e, aSe_25 hm] at z2
      exact Or.inr ⟨r % 24, z2, by omega⟩
  unfold mRg at g ⊢
  split at g
  all_goals first | exact g | skip
  · intro z
    by_cases c : j = nS
    · rw [aSe_at, if_pos ⟨rfl, c⟩]; exact ⟨dd, by omega, rfl⟩
    · exact g (by omega)
  · intro z
    by_cases c : j = nS
    · rw [aSe_at, if_neg (by omega), if_pos ⟨rfl, c⟩]; exact ⟨m, by omega, rfl⟩
    · exact g (by omega)
  · intro z
    rcases lv z with w | ⟨jj, w1, w2⟩
    · exact g w
    · rw [aSe_ne (by decide) (by decide), w2]; exact (hru jj w1).2.1.2
  · intro z
    rcases lv z with w | ⟨jj, w1, w2⟩
    · exact g w
    · rw [aSe_ne (by decide) (by decide), w2]; exact (hru jj w1).2.2.1.1.2
  · intro z
    rcases lv z with w | ⟨jj, w1, w2⟩
    · exact g w
    · rw [aSe_ne (by decide) (by decide), w2]; exact (hru jj w1).2.2.1.2.2
  · intro z y
    rcases lv z with w | ⟨jj, w1, w2⟩
    · exact g w y
    · rw [aSe_ne (by decide) (by decide), w2] at y
      rw [aSe_ne (by decide) (by decide), w2]; exact ((hru jj w1).2.2.2.2.2.2 y).1.2
  · intro z y
    rcases lv z with w | ⟨jj, w1, w2⟩
    · exact g w y
    · rw [aSe_ne (by decide) (by decide), w2] at y
      rw [aSe_ne (by decide) (by decide), w2]; exact ((hru jj w1).2.2.2.2.2.2 y).2.1.2
  · intro z y
    rcases lv z with w | ⟨jj, w1, w2⟩
    · exact g w y
    · rw [aSe_ne (by decide) (by decide), w2] at y
      rw [aSe_ne (by decide) (by decide), w2]; exact ((hru jj w1).2.2.2.2.2.2 y).2.2.2
  · intro z
    rcases lv z with w | ⟨jj, w1, w2⟩
    · exact g w
    · rw [aSe_ne (by decide) (by decide), w2]; exact (hru jj w1).2.2.2.1.2
  · intro z
    rcases lv z with w | ⟨jj, w1, w2⟩
    · exact g w
    · rw [aSe_ne (by decide) (by decide), w2]; exact (hru jj w1).2.2.2.2.1.2
  · intro z
    rcases lv z with w | ⟨jj, w1, w2⟩
    · exact g w
    · obtain ⟨i, hi, t1, t2, t3⟩ := (hru jj w1).2.2.2.2.2.1
      rw [aSe_ne (by decide) (by decide), w2, t2]; exact ⟨i, by omega, rfl⟩
  all_goals
    intro z y
    rcases lv z with w | ⟨jj, w1, w2⟩
    · exact g w y
    · obtain ⟨i, hi, t1, t2, t3⟩ := (hru jj w1).2.2.2.2.2.1
      rw [aSe_ne (by decide) (by decide), w2, t2, nI_clamp (by omega)] at y
      have t4 := t3 _ y
      rw [show 4 * (24 * nS + jj) + j % 4 = j by omega] at t4
      rw [aSe_ne (by decide) (by decide)]
      first | exact t4.1.2 | exact t4.2.2.2 | exact t4.2.1.2
theorem mInv_set (hI : mInv σ1 nT nS nH nP nw nL) (h8 : nS < 8) (hx : mFx (24 * nS) σ1 τ) (hm : m ≤ 24) (hd : dd ≤ 200000) (hru : ∀ j, j < m → rul ν τ (a + 4 + 4 * j) (24 * nS + j)) : mInv (mSet (aSe τ nS m dd) 3 (nI (nS + 1))) nT (nS + 1) nH nP nw nL := by
  have hl := lwA_fx hx
  have f : ∀ k, k < 9 → τ.1 k = σ1.1 k := fun k hk => hx.1 k (fun z => by have := z.1; omega) (by omega)
  obtain ⟨⟨c1, c2, c3, c4, c5, c6, c7, c8, c9, c10, c11, c12⟩, h2, h3⟩ := id hI
  refine ⟨⟨?_, c2, ?_, by omega, ?_, c6, ?_, c8, ?_, c10, ?_, c12⟩, mRg_set h2 hl hm hd hru, ?_⟩
  · rw [mSet_at, if_neg (by decide)]; exact (f 2 (by decide)).trans c1
  · rw [mSet_at, if_pos rfl]
  · rw [mSet_at, if_neg (by decide)]; exact (f 4 (by decide)).trans c5
  · rw [mSet_at, if_neg (by decide)]; exact (f 7 (by decide)).trans c7
  · rw [mSet_at, if_neg (by decide)]; exact (f 1 (by decide)).trans c9
  · rw [mSet_at, if_neg (by decide)]; exact (f 5 (by decide)).trans c11
  · exact mKep_lw (σ' := mSet (aSe τ nS m dd) 3 (nI (nS + 1))) hI (aSe_lw hl) (hx.1 54 (fun z => by have := z.2.1; omega) (by decide)) (by omega)
end NEWSET
