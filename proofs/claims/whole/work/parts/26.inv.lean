/-! how the reference's writes keep its own invariant -/
section INV
variable {a0 : Nat} {μ : Km} {σ σ' : Ms} {B : Nat → Nat → Nat → Nat} {tg : Nat → Nat × Nat × Nat} {nT nS nH nP nw nL : Nat} {A A' : Ar}
theorem mRg_cg (h25 : A' 25 = A 25) (h26 : A' 26 = A 26) (h34 : A' 34 = A 34) {k j : Nat} (hkj : A' k j = A k j) : mRg A' nT nS nH k j = mRg A nT nS nH k j := by
  unfold mRg lvr
  split <;> simp only [h25, h26, h34, hkj]
theorem mRg_put (h : ∀ k j, mRg σ.2 nT nS nH k j) {k0 j0 : Nat} {x : Int32} (h25 : k0 ≠ 25) (h26 : k0 ≠ 26) (h34 : k0 ≠ 34) (hx : mRg (mSto σ k0 j0 x).2 nT nS nH k0 j0) : ∀ k j, mRg (mSto σ k0 j0 x).2 nT nS nH k j := by
  intro k j
  by_cases hq : k = k0 ∧ j = j0
  · obtain ⟨rfl, rfl⟩ := hq; exact hx
  · rw [mRg_cg (A := σ.2) (mSto_ne _ _ _ _ h25.symm) (mSto_ne _ _ _ _ h26.symm) (mSto_ne _ _ _ _ h34.symm) (by rw [mSto_at, if_neg hq])]
    exact h k j
theorem oIns_mem {rk : Nat → Int32} {k x : Nat} : ∀ {l : List Nat}, x ∈ oIns rk k l ↔ x = k ∨ x ∈ l
  | [] => by simp [oIns]
  | y :: l => by
    unfold oIns
    split
    · simp
    · simp only [List.mem_cons, oIns_mem (l := l)]
      constructor
      · rintro (h | h | h)
        · exact Or.inr (Or.inl h)
        · exact Or.inl h
        · exact Or.inr (Or.inr h)
      · rintro (h | h | h)
        · exact Or.inr (Or.inl h)
        · exact Or.inl h
        · exact Or.inr (Or.inr h)
theorem oIns_len {rk : Nat → Int32} {k : Nat} : ∀ {l : List Nat}, (oIns rk k l).length = l.length + 1
  | [] => rfl
  | y :: l => by
    unfold oIns
    split
    · simp
    · simp [oIns_len (l := l)]
theorem oLst_mem {wh rk : Nat → Int32} {x : Nat} : ∀ {m : Nat}, x ∈ oLst wh rk m ↔ x < m ∧ ¬ wh x = 2
  | 0 => by simp [oLst]
  | m + 1 => by
    unfold oLst
    split
    · rename_i h
      rw [oLst_mem (m := m)]
      constructor
      · rintro ⟨h1, h2⟩; exact ⟨by omega, h2⟩
      · rintro ⟨h1, h2⟩
        refine ⟨?_, h2⟩
        rcases Nat.lt_or_ge x m with q | q
        · exact q
        · have : x = m := by omega
          subst this; exact absurd h h2
    · rename_i h
      rw [oIns_mem, oLst_mem (m := m)]
      constructor
      · rintro (rfl | ⟨h1, h2⟩)
        · exact ⟨by omega, h⟩
        · exact ⟨by omega, h2⟩
      · rintro ⟨h1, h2⟩
        rcases Nat.lt_or_ge x m with q | q
        · exact Or.inr ⟨q, h2⟩
        · exact Or.inl (by omega)
theorem oLst_len {wh rk : Nat → Int32} : ∀ {m : Nat}, (oLst wh rk m).length ≤ m
  | 0 => Nat.le_refl _
  | m + 1 => by
    have := oLst_len (wh := wh) (rk := rk) (m := m)
    unfold oLst
    split
    · omega
    · rw [oIns_len]; omega
theorem ord_mem {s x : Nat} : x ∈ ord A s ↔ x < (A 25 s).toNatClampNeg ∧ ¬ A 26 (24 * s + x) = 2 := oLst_mem
theorem foldl_cg {α β : Type} {f g : α → β → α} : ∀ {l : List β} {q : α}, (∀ k ∈ l, ∀ q, f q k = g q k) → l.foldl f q = l.foldl g q
  | [], _, _ => rfl
  | k :: l, q, h => by
    rw [List.foldl_cons, List.foldl_cons, h k List.mem_cons_self]
    exact foldl_cg (fun k hk => h k (List.mem_cons_of_mem _ hk))
/-- what is asked of the rules of a set -/
theorem lvr_of (h : ∀ k j, mRg A nT nS nH k j) {s k : Nat} (hs : s < nS) (hk : k < (A 25 s).toNatClampNeg) : lvr A nS (24 * s + k) ∧ k < 24 := by
  have h25 := ibt_c (h 25 s hs) (by decide)
  refine ⟨⟨by omega, ?_⟩, by omega⟩
  rw [show (24 * s + k) / 24 = s by omega, show (24 * s + k) % 24 = k by omega]
  exact hk
theorem lvr_in {r : Nat} (h : lvr A nS r) (hS : nS ≤ 8) : r < 192 := by
  have := h.1
  omega
theorem sTests_cg (h : ∀ k j, mRg A nT nS nH k j) (hR : sameR A' A) {r t : Nat} (hl : lvr A nS r) (h10 : ∀ a, a < 4 → A' 10 (4 * t + a) = A 10 (4 * t + a)) : ∀ {m : Nat}, m ≤ (A 34 r).toNatClampNeg → sTests A' r t m = sTests A r t m
  | 0, _ => rfl
  | m + 1, hm => by
    unfold sTests
    rw [sTests_cg h hR hl h10 (m := m) (by omega)]
    have h34 := ibt_c (h 34 r hl) (by decide)
    have h35 := h 35 (4 * r + m)
    unfold mRg at h35
    simp only [show (4 * r + m) / 4 = r by omega, show (4 * r + m) % 4 = m by omega] at h35
    have h35' := ibt_c (h35 hl (by omega)) (by decide)
    unfold sTest
    rw [hR 35 (by omega) (by omega), hR 36 (by omega) (by omega), hR 37 (by omega) (by omega), h10 _ h35'.2]
theorem spSet_cg (h : ∀ k j, mRg A nT nS nH k j) (hR : sameR A' A) {s t f : Nat} (hs : s < nS) (h9 : A' 9 t = A 9 t) (h10 : ∀ a, a < 4 → A' 10 (4 * t + a) = A 10 (4 * t + a)) (h11 : ∀ a, a < 4 → A' 11 (4 * t + a) = A 11 (4 * t + a)) : spSet A' t f s = spSet A t f s := by
  unfold spSet
  rw [ord_cg (hR 25 (by omega) (by omega)) (hR 26 (by omega) (by omega)) (hR 33 (by omega) (by omega))]
  refine foldl_cg (fun k hk q => ?_)
  obtain ⟨h1, h2⟩ := ord_mem.mp hk
  have hl := lvr_of h hs h1
  have h31 := ibt_c (h 31 (24 * s + k) hl.1 h2) (by decide)
  have e1 : mFor A' (24 * s + k) t f = mFor A (24 * s + k) t f := by
    unfold mFor mWho
    rw [hR 27 (by omega) (by omega), hR 28 (by omega) (by omega), hR 34 (by omega) (by omega), h9, sTests_cg h hR hl.1 h10 (Nat.le_refl _)]
  have e2 : rDay A' (24 * s + k) t = rDay A (24 * s + k) t := by
    unfold rDay mUnt
    rw [hR 31 (by omega) (by omega), hR 30 (by omega) (by omega), hR 29 (by omega) (by omega), h11 _ h31.2]
  unfold spRule
  rw [e1, e2, hR 26 (by omega) (by omega)]
theorem mSpan_cg (h : ∀ k j, mRg A nT nS nH k j) (hS : nS ≤ 8) (hR : sameR A' A) {t f : Nat} {s : Int32} (hs : s = -1 ∨ ibt s nS) (h9 : A' 9 t = A 9 t) (h10 : ∀ a, a < 4 → A' 10 (4 * t + a) = A 10 (4 * t + a)) (h11 : ∀ a, a < 4 → A' 11 (4 * t + a) = A 11 (4 * t + a)) : mSpan A' t f s = mSpan A t f s := by
  unfold mSpan
  rcases hs with h1 | h1
  · rw [if_pos h1, if_pos h1]
  · have h2 := ibt_c h1 (by omega)
    split
    · rfl
    · exact spSet_cg h hR h2.2 h9 h10 h11
/-- a thing's row alone has changed, and its spans are forgotten -/
theorem mKep_thing (hI : mInv σ nT nS nH nP nw nL) {t0 : Nat} (h54 : σ'.1 54 = σ.1 54) (h55 : ∀ t, σ'.2 55 t = if t = t0 then 0 else σ.2 55 t) (h56 : σ'.2 56 = σ.2 56) (h57 : σ'.2 57 = σ.2 57) (h58 : σ'.2 58 = σ.2 58) (hR : sameR σ'.2 σ.2) (h9 : σ'.2 9 = σ.2 9) (h10 : ∀ t a, t ≠ t0 → a < 4 → σ'.2 10 (4 * t + a) = σ.2 10 (4 * t + a)) (h11 : ∀ t a, t ≠ t0 → a < 4 → σ'.2 11 (4 * t + a) = σ.2 11 (4 * t + a)) : mKep σ' nT nS := by
  intro t ht
  rw [h55]
  by_cases e : t = t0
  · exact Or.inl (if_pos e)
  · rw [if_neg e]
    rcases hI.2.2 t ht with h | ⟨q1, q2, q3, q4⟩
    · exact Or.inl h
    · refine Or.inr ⟨q1, q2, by rw [h54]; exact q3, fun g hg => ?_⟩
      rw [h54, h56, h57, h58, mSpan_cg hI.2.1 hI.1.2.2.2.1 hR q3 (by rw [h9]) (fun a ha => h10 t a e ha) (fun a ha => h11 t a e ha)]
      exact q4 g hg
/-- nothing that spans stand on has changed -/
theorem mKep_same (hI : mInv σ nT nS nH nP nw nL) (h54 : σ'.1 54 = σ.1 54) (h55 : σ'.2 55 = σ.2 55) (h56 : σ'.2 56 = σ.2 56) (h57 : σ'.2 57 = σ.2 57) (h58 : σ'.2 58 = σ.2 58) (hR : sameR σ'.2 σ.2) (h9 : σ'.2 9 = σ.2 9) (h10 : σ'.2 10 = σ.2 10) (h11 : σ'.2 11 = σ.2 11) : mKep σ' nT nS := by
  intro t ht
  rw [h55]
  rcases hI.2.2 t ht with h | ⟨q1, q2, q3, q4⟩
  · exact Or.inl h
  · refine Or.inr ⟨q1, q2, by rw [h54]; exact q3, fun g hg => ?_⟩
    rw [h54, h56, h57, h58, mSpan_cg hI.2.1 hI.1.2.2.2.1 hR q3 (by rw [h9]) (fun a ha => by rw [h10]) (fun a ha => by rw [h11])]
    exact q4 g hg
theorem sameR_put {k0 j0 : Nat} {x : Int32} (h : k0 < 24 ∨ 37 < k0) : sameR (mSto σ k0 j0 x).2 σ.2 := fun k h1 h2 => mSto_ne _ _ _ _ (by omega)
theorem sameR_tr {A A1 A2 : Ar} (h1 : sameR A2 A1) (h2 : sameR A1 A) : sameR A2 A := fun k q1 q2 => (h1 k q1 q2).trans (h2 k q1 q2)
/-- a plain array (no rules, no spans, no things' rows) written -/
theorem mInv_put (hI : mInv σ nT nS nH nP nw nL) {k0 j0 : Nat} {x : Int32} (hk : (12 ≤ k0 ∧ k0 < 24) ∨ k0 = 38 ∨ k0 = 53 ∨ 58 < k0) (hx : mRg (mSto σ k0 j0 x).2 nT nS nH k0 j0) : mInv (mSto σ k0 j0 x) nT nS nH nP nw nL := by
  refine ⟨hI.1, mRg_put hI.2.1 (by omega) (by omega) (by omega) hx, mKep_same hI rfl (mSto_ne _ _ _ _ (by omega)) (mSto_ne _ _ _ _ (by omega)) (mSto_ne _ _ _ _ (by omega)) (mSto_ne _ _ _ _ (by omega)) (sameR_put (by omega)) (mSto_ne _ _ _ _ (by omega)) (mSto_ne _ _ _ _ (by omega)) (mSto_ne _ _ _ _ (by omega))⟩
end INV
