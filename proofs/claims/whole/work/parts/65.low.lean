/-! rows of sets that don't stand yet count for nothing -/
section LOW
variable {a0 : Nat} {μ ν μ1 : Km} {σ σ' σ1 τ : Ms} {B B' : Nat → Nat → Nat → Nat} {tg tg' : Nat → Nat × Nat × Nat} {nT nS nH nP nw nL R : Nat} {A A' : Ar}
def lwA (nS : Nat) (A' A : Ar) : Prop := (∀ k, k < 24 ∨ 37 < k → A' k = A k) ∧ (∀ s, s < nS → A' 24 s = A 24 s ∧ A' 25 s = A 25 s) ∧ (∀ k r, 26 ≤ k → k ≤ 34 → r < 24 * nS → A' k r = A k r) ∧ ∀ k j, 35 ≤ k → k ≤ 37 → j < 96 * nS → A' k j = A k j
theorem rmy_lw (hl : lwA nS A' A) {s : Nat} (hs : s < nS) : rmy A' s = rmy A s := by
  unfold rmy
  rw [(hl.2.1 s hs).2]
theorem rmy_24 (h : ∀ k j, mRg A nT nS nH k j) {s : Nat} (hs : s < nS) : rmy A s < 25 := (ibt_c (h 25 s hs) (by decide)).2
theorem row_lw (h : ∀ k j, mRg A nT nS nH k j) (hl : lwA nS A' A) {s k : Nat} (hs : s < nS) (hk : k < rmy A s) {q : Nat} (h1 : 26 ≤ q) (h2 : q ≤ 34) : A' q (24 * s + k) = A q (24 * s + k) := by
  have := rmy_24 h hs
  exact hl.2.2.1 q _ h1 h2 (by omega)
theorem tst_lw (h : ∀ k j, mRg A nT nS nH k j) (hl : lwA nS A' A) {s k e : Nat} (hs : s < nS) (hk : k < rmy A s) (he : e < 4) {q : Nat} (h1 : 35 ≤ q) (h2 : q ≤ 37) : A' q (4 * (24 * s + k) + e) = A q (4 * (24 * s + k) + e) := by
  have := rmy_24 h hs
  exact hl.2.2.2 q _ h1 h2 (by omega)
theorem ord_lw (h : ∀ k j, mRg A nT nS nH k j) (hl : lwA nS A' A) {s : Nat} (hs : s < nS) : ord A' s = ord A s := by
  unfold ord
  rw [(hl.2.1 s hs).2]
  exact oLst_cg _ (fun k hk => row_lw h hl hs hk (by omega) (by omega)) (fun k hk => row_lw h hl hs hk (by omega) (by omega))
theorem vld_lw (hl : lwA nS A' A) {c i j : Nat} : vld A' nT nS nH c i j ↔ vld A nT nS nH c i j := by
  unfold vld
  split <;> first | exact Iff.rfl | exact ⟨fun z => ⟨z.1, by rw [← rmy_lw hl z.1]; exact z.2⟩, fun z => ⟨z.1, by rw [rmy_lw hl z.1]; exact z.2⟩⟩
theorem rfv_lw (hl : lwA nS A' A) {c i j e : Nat} : rfv A' nT nS nH c i j e ↔ rfv A nT nS nH c i j e := by
  unfold rfv
  split <;> first | exact Iff.rfl | exact ⟨fun z => ⟨z.1, z.2.1, by rw [← rmy_lw hl z.1]; exact z.2.2⟩, fun z => ⟨z.1, z.2.1, by rw [rmy_lw hl z.1]; exact z.2.2⟩⟩ | exact ⟨fun z => ⟨z.1, by rw [← rmy_lw hl z.1]; exact z.2.1, z.2.2⟩, fun z => ⟨z.1, by rw [rmy_lw hl z.1]; exact z.2.1, z.2.2⟩⟩
theorem vwv_lw (h : ∀ k j, mRg A nT nS nH k j) (hl : lwA nS A' A) {c i j e : Nat} : vwv A' nT nS nH c i j e ↔ vwv A nT nS nH c i j e := by
  unfold vwv
  split
  all_goals first | exact Iff.rfl | skip
  · exact ⟨fun z => ⟨z.1, z.2.1, by rw [← ord_lw h hl z.1]; exact z.2.2⟩, fun z => ⟨z.1, z.2.1, by rw [ord_lw h hl z.1]; exact z.2.2⟩⟩
  · refine ⟨fun z => ?_, fun z => ?_⟩
    · have z2 : j < rmy A i := by rw [← rmy_lw hl z.1]; exact z.2.1
      rw [row_lw h hl z.1 z2 (by omega) (by omega)] at z
      exact ⟨z.1, z2, z.2.2⟩
    · rw [row_lw h hl z.1 z.2.1 (by omega) (by omega), rmy_lw hl z.1]
      exact z
  all_goals
    refine ⟨fun z => ?_, fun z => ?_⟩
    · have z2 : j < rmy A i := by rw [← rmy_lw hl z.1]; exact z.2.1
      rw [row_lw h hl z.1 z2 (by omega) (by omega)] at z
      exact ⟨z.1, z2, z.2.2⟩
    · rw [row_lw h hl z.1 z.2.1 (by omega) (by omega), rmy_lw hl z.1]
      exact z
theorem t34_lt (h : ∀ k j, mRg A nT nS nH k j) {s k : Nat} (hs : s < nS) (hk : k < rmy A s) : (A 34 (24 * s + k)).toNatClampNeg < 5 := (ibt_c (h 34 _ (lvr_of h hs hk).1) (by decide)).2
theorem vwt_lw (h : ∀ k j, mRg σ.2 nT nS nH k j) (hl : lwA nS σ'.2 σ.2) (hf : ∀ k, k < 9 → σ'.1 k = σ.1 k) {c i j e : Nat} (hv : vwv σ.2 nT nS nH c i j e) : vwt σ' c i j e = vwt σ c i j e := by
  unfold vwv at hv
  unfold vwt
  split at hv
  all_goals first | exact hv.elim | (simp only [hl.1 _ (Or.inl (show 9 < 24 by decide)), hl.1 _ (Or.inl (show 10 < 24 by decide)), hl.1 _ (Or.inl (show 11 < 24 by decide)), hl.1 _ (Or.inl (show 12 < 24 by decide)), hl.1 _ (Or.inl (show 13 < 24 by decide)), hl.1 _ (Or.inl (show 14 < 24 by decide)), hl.1 _ (Or.inl (show 15 < 24 by decide)), hl.1 _ (Or.inl (show 17 < 24 by decide)), hl.1 _ (Or.inl (show 18 < 24 by decide)), hl.1 _ (Or.inl (show 19 < 24 by decide)), hl.1 _ (Or.inl (show 20 < 24 by decide)), hl.1 _ (Or.inl (show 21 < 24 by decide)), hl.1 _ (Or.inl (show 22 < 24 by decide)), hl.1 _ (Or.inl (show 23 < 24 by decide)), hl.1 _ (Or.inr (show 37 < 38 by decide)), hl.1 _ (Or.inr (show 37 < 59 by decide)), hf 1 (by decide), hf 2 (by decide), hf 3 (by decide), hf 4 (by decide), hf 5 (by decide), hf 6 (by decide), hf 7 (by decide), hf 8 (by decide)]; done) | skip
  · obtain ⟨z1, z2, z3⟩ := hv
    rcases z3 with rfl | rfl | rfl
    · exact (hl.2.1 i z1).1
    · exact (hl.2.1 i z1).2
    · show nI (ord σ'.2 i).length = nI (ord σ.2 i).length
      rw [ord_lw h hl z1]
  · rw [ord_lw h hl hv.1]
  · obtain ⟨z1, z2, z3⟩ := hv
    have g : ∀ q, 26 ≤ q → q ≤ 34 → σ'.2 q (24 * i + j) = σ.2 q (24 * i + j) := fun q w1 w2 => row_lw h hl z1 z2 w1 w2
    simp only [g 26 (by decide) (by decide), g 27 (by decide) (by decide), g 28 (by decide) (by decide), g 29 (by decide) (by decide), g 30 (by decide) (by decide), g 31 (by decide) (by decide), g 32 (by decide) (by decide), g 33 (by decide) (by decide), g 34 (by decide) (by decide)]
  all_goals
    have := t34_lt h hv.1 hv.2.1
    exact tst_lw h hl hv.1 hv.2.1 (by omega) (by decide) (by decide)
theorem lvr_lw (hl : lwA nS A' A) {r : Nat} : lvr A' nS r ↔ lvr A nS r := by
  unfold lvr
  exact ⟨fun z => ⟨z.1, by rw [← (hl.2.1 _ z.1).2]; exact z.2⟩, fun z => ⟨z.1, by rw [(hl.2.1 _ z.1).2]; exact z.2⟩⟩
theorem mRg_lw (h : ∀ k j, mRg A nT nS nH k j) (hl : lwA nS A' A) : ∀ k j, mRg A' nT nS nH k j := by
  intro k j
  have g := h k j
  have lo : ∀ q r, 26 ≤ q → q ≤ 34 → lvr A nS r → A' q r = A q r := fun q r w1 w2 z => hl.2.2.1 q r w1 w2 (by have := z.1; omega)
  have hi : ∀ q r, 35 ≤ q → q ≤ 37 → lvr A nS (r / 4) → A' q r = A q r := fun q r w1 w2 z => hl.2.2.2 q r w1 w2 (by have := z.1; omega)
  unfold mRg at g ⊢
  split at g
  all_goals first
    | (rw [hl.1 _ (by decide)]; exact g)
    | exact fun z => by rw [(hl.2.1 _ z).1]; exact g z
    | exact fun z => by rw [(hl.2.1 _ z).2]; exact g z
    | exact fun z => by rw [lvr_lw hl] at z; rw [lo _ _ (by decide) (by decide) z]; exact g z
    | exact fun z w => by rw [lvr_lw hl] at z; rw [lo 26 _ (by decide) (by decide) z] at w; rw [lo _ _ (by decide) (by decide) z]; exact g z w
    | exact fun z w => by rw [lvr_lw hl] at z; rw [lo 34 _ (by decide) (by decide) z] at w; rw [hi _ _ (by decide) (by decide) z]; exact g z w
    | trivial
theorem sTests_lw (h : ∀ k j, mRg A nT nS nH k j) (hl : lwA nS A' A) {s k t : Nat} (hs : s < nS) (hk : k < rmy A s) : ∀ {m : Nat}, m ≤ (A 34 (24 * s + k)).toNatClampNeg → sTests A' (24 * s + k) t m = sTests A (24 * s + k) t m
  | 0, _ => rfl
  | m + 1, hm => by
    have := t34_lt h hs hk
    unfold sTests
    rw [sTests_lw h hl hs hk (m := m) (by omega)]
    unfold sTest
    rw [tst_lw h hl hs hk (q := 35) (by omega) (by decide) (by decide), tst_lw h hl hs hk (q := 36) (by omega) (by decide) (by decide), tst_lw h hl hs hk (q := 37) (by omega) (by decide) (by decide), hl.1 10 (by decide)]
theorem spSet_lw (h : ∀ k j, mRg A nT nS nH k j) (hl : lwA nS A' A) {s t f : Nat} (hs : s < nS) : spSet A' t f s = spSet A t f s := by
  unfold spSet
  rw [ord_lw h hl hs]
  refine foldl_cg (fun k hk q => ?_)
  have hk' : k < rmy A s := (ord_mem.mp hk).1
  have g : ∀ q, 26 ≤ q → q ≤ 34 → A' q (24 * s + k) = A q (24 * s + k) := fun q w1 w2 => row_lw h hl hs hk' w1 w2
  have e1 : mFor A' (24 * s + k) t f = mFor A (24 * s + k) t f := by
    unfold mFor mWho
    rw [g 27 (by decide) (by decide), g 28 (by decide) (by decide), g 34 (by decide) (by decide), hl.1 9 (by decide), sTests_lw h hl hs hk' (Nat.le_refl _)]
  have e2 : rDay A' (24 * s + k) t = rDay A (24 * s + k) t := by
    unfold rDay mUnt
    rw [g 31 (by decide) (by decide), g 30 (by decide) (by decide), g 29 (by decide) (by decide), hl.1 11 (by decide)]
  unfold spRule
  rw [e1, e2, g 26 (by decide) (by decide)]
theorem mSpan_lw (h : ∀ k j, mRg A nT nS nH k j) (hS : nS ≤ 8) (hl : lwA nS A' A) {t f : Nat} {s : Int32} (hs : s = -1 ∨ ibt s nS) : mSpan A' t f s = mSpan A t f s := by
  unfold mSpan
  rcases hs with h1 | h1
  · rw [if_pos h1, if_pos h1]
  · have h2 := ibt_c h1 (by omega)
    split
    · rfl
    · exact spSet_lw h hl h2.2
theorem mKep_lw (hI : mInv σ nT nS nH nP nw nL) (hl : lwA nS σ'.2 σ.2) (h54 : σ'.1 54 = σ.1 54) {nS' : Nat} (hn : nS ≤ nS') : mKep σ' nT nS' := by
  intro t ht
  rw [hl.1 55 (by decide)]
  rcases hI.2.2 t ht with h | ⟨q1, q2, q3, q4⟩
  · exact Or.inl h
  · refine Or.inr ⟨q1, q2, ?_, fun g hg => ?_⟩
    · rw [h54]
      rcases q3 with z | ⟨v, z1, z2⟩
      · exact Or.inl z
      · exact Or.inr ⟨v, by omega, z2⟩
    · rw [h54, hl.1 56 (by decide), hl.1 57 (by decide), hl.1 58 (by decide), mSpan_lw hI.2.1 hI.1.2.2.2.1 hl q3]
      exact q4 g hg
/-- cells beyond, and rows of no set: both sides stay together -/
theorem RepB_low (h : RepB a0 μ1 σ1 B tg nT nS nH nP nw nL) (hz : ∀ q, kn ν ≤ q → kK ν q = 0) (hc : ∀ q, q < kn μ1 → ceq ν μ1 q) (hl : lwA nS τ.2 σ1.2) (hf : ∀ k, k < 9 → τ.1 k = σ1.1 k) (h54 : τ.1 54 = σ1.1 54) : RepB a0 ν τ B tg nT nS nH nP nw nL := by
  have hg := h.1.2.1
  refine ⟨⟨?_, mRg_lw hg hl, mKep_lw h.1 hl h54 (Nat.le_refl _)⟩, ⟨h.2.1.1, hz, fun c i j hv => ?_, fun c i j e hr => ?_⟩, fun c i j e hv => ?_⟩
  · unfold mCnt
    rw [hf 1 (by decide), hf 2 (by decide), hf 3 (by decide), hf 4 (by decide), hf 5 (by decide), hf 7 (by decide)]
    exact h.1.1
  · rw [vld_lw hl] at hv
    rw [(hc _ (h.lt hv)).1.1, (hc _ (h.lt hv)).1.2]
    exact h.2.1.2.2.1 c i j hv
  · rw [rfv_lw hl] at hr
    rw [(hc _ (h.lt (rfv_vld hr))).2.1, rft_cg (fun _ => by rw [hl.1 16 (by decide)])]
    exact h.2.1.2.2.2 c i j e hr
  · rw [vwv_lw hg hl] at hv
    rw [(hc _ (h.lt (vwv_vld hv))).2.2, vwt_lw hg hl hf hv]
    exact h.2.2 c i j e hv
theorem lwA_fx (h : mFx (24 * nS) σ1 τ) : lwA nS τ.2 σ1.2 := by
  refine ⟨fun k hk => ?_, fun s hs => ⟨h.2 _ _ (fun z => ?_), h.2 _ _ (fun z => ?_)⟩, fun k r h1 h2 h3 => h.2 _ _ (fun z => ?_), fun k j h1 h2 h3 => h.2 _ _ (fun z => ?_)⟩
  · funext j
    exact h.2 k j (fun z => by rcases z with z | z <;> omega)
  · rcases z with z | z <;> omega
  · rcases z with z | z <;> omega
  · rcases z with z | z <;> omega
  · rcases z with z | z <;> omega
end LOW
