/-! the reference's telling of a span -/
section TELL
variable {σ τ : Ms} {nT nS nH nP nw nL : Nat} {A : Ar}
def spIs (σ : Ms) (q : Sp) : Prop := σ.1 48 = q.1 ∧ σ.1 49 = q.2.1 ∧ σ.1 50 = q.2.2.1 ∧ σ.1 51 = q.2.2.2.1 ∧ σ.1 52 = nI q.2.2.2.2.length ∧ ∀ i, i < q.2.2.2.2.length → σ.2 53 i = q.2.2.2.2.getD i 0
def scr (τ σ : Ms) : Prop := (∀ k, k < 48 ∨ 52 < k → τ.1 k = σ.1 k) ∧ ∀ k, k ≠ 53 → τ.2 k = σ.2 k
theorem scr_rf (σ : Ms) : scr σ σ := ⟨fun _ _ => rfl, fun _ _ => rfl⟩
theorem scr_tr {ρ τ σ : Ms} (h1 : scr ρ τ) (h2 : scr τ σ) : scr ρ σ := ⟨fun k hk => (h1.1 k hk).trans (h2.1 k hk), fun k hk => (h1.2 k hk).trans (h2.2 k hk)⟩
theorem scr_set {k : Nat} {x : Int32} (h1 : 48 ≤ k) (h2 : k ≤ 52) (h : scr τ σ) : scr (mSet τ k x) σ := ⟨fun j hj => by rw [mSet_at, if_neg (by omega)]; exact h.1 j hj, h.2⟩
theorem scr_sto {j : Nat} {x : Int32} (h : scr τ σ) : scr (mSto τ 53 j x) σ := ⟨h.1, fun k hk => (mSto_ne _ _ _ _ hk).trans (h.2 k hk)⟩
theorem cBh_in (d m : Nat) : cBh d m ≤ 200000 ∨ cBh d m = 999999 := by
  unfold cBh
  dsimp only
  split
  · rename_i h; exact Or.inl h
  · exact Or.inr rfl
theorem M_until_eq {r d : Nat} (h : ∀ k j, mRg σ.2 nT nS nH k j) (hS : nS ≤ 8) (hl : lvr σ.2 nS r) (hp : ¬ σ.2 26 r = 2) (hd : d ≤ 200000) : M_until σ (nI r) (nI d) = some (mUnt σ.2 r (nI d)) := by
  have hr := lvr_in hl hS
  have o1 := (okI_nI (show r < 2 ^ 31 by omega)).mpr hr
  have e29 := ibt_c (h 29 r hl hp) (by decide)
  unfold M_until M_until_B37 M_until_B50 mUnt
  simp only [o1, if_true, nI_clamp (show r < 2 ^ 31 by omega), nI_clamp (show d < 2 ^ 31 by omega)]
  by_cases c : σ.2 30 r = 0
  · rw [if_pos c, if_pos c, e29.1, nI_add, show (200000 : Int32) = nI 200000 from rfl, nI_clamp (by omega)]
    by_cases c2 : d + (σ.2 29 r).toNatClampNeg ≤ 200000
    · rw [if_pos (nI_le c2 (by omega)), if_pos c2]
    · rw [if_neg (nI_ge (by omega) (by omega)), if_neg c2]
  · rw [if_neg c, if_neg c]
    have hu : ∃ u : Nat, u ≤ 12 ∧ σ.2 30 r = nI u := by
      rcases h 30 r hl hp with q | q | q
      · exact absurd q c
      · exact ⟨1, by omega, q⟩
      · exact ⟨12, by omega, q⟩
    obtain ⟨u, hu1, hu2⟩ := hu
    have hm : u * (σ.2 29 r).toNatClampNeg ≤ 12 * 9999 := Nat.mul_le_mul hu1 (by omega)
    rw [hu2, e29.1, pk_mul, nI_clamp (show u < 2 ^ 31 by omega), M_behind_eq hd (by omega), ob_some, show (200000 : Int32) = nI 200000 from rfl, nI_clamp (by omega)]
    rcases cBh_in d (u * (σ.2 29 r).toNatClampNeg) with q | q
    · rw [if_pos (nI_le q (by omega))]
    · rw [q, if_neg (nI_ge (by omega) (by omega))]; rfl
theorem mUnt_in (r : Nat) (d : Int32) : ∃ n : Nat, (n ≤ 200000 ∨ n = 999999) ∧ mUnt A r d = nI n := by
  unfold mUnt
  split
  · split
    · rename_i h; exact ⟨_, Or.inl h, rfl⟩
    · exact ⟨999999, Or.inr rfl, rfl⟩
  · exact ⟨_, cBh_in _ _, rfl⟩
theorem mUnt_ne (r : Nat) (d : Int32) : ¬ mUnt A r d = -1 := by
  obtain ⟨n, h1, h2⟩ := mUnt_in (A := A) r d
  rw [h2]
  exact i_m1_ne (by omega)
/-- lost -/
theorem M_lost_eq {q : Sp} {k : Int32} (hq : spIs τ q) (hs : scr τ σ) (hn : q.2.2.2.2.length < 24) : ∃ τ', (if okI (τ.1 52) 24 = true then bnd (mSto τ 53 (τ.1 52).toNatClampNeg k) (fun s_115 => bnd (mSet s_115 52 ((s_115.1 52) + (1 : Int32))) (fun s_123 => some s_123)) else none) = some τ' ∧ scr τ' σ ∧ spIs τ' (q.1, q.2.1, q.2.2.1, q.2.2.2.1, q.2.2.2.2 ++ [k]) := by
  obtain ⟨h1, h2, h3, h4, h5, h6⟩ := hq
  refine ⟨mSet (mSto τ 53 q.2.2.2.2.length k) 52 (nI (q.2.2.2.2.length + 1)), ?_, scr_set (by omega) (by omega) (scr_sto hs), ?_⟩
  · rw [h5, if_pos ((okI_nI (by omega)).mpr hn), nI_clamp (by omega), bnd_eq, bnd_eq, mSto_1, h5, nI_1]
  · refine ⟨?_, ?_, ?_, ?_, ?_, fun i hi => ?_⟩
    · rw [mSet_at, if_neg (by decide), mSto_1]; exact h1
    · rw [mSet_at, if_neg (by decide), mSto_1]; exact h2
    · rw [mSet_at, if_neg (by decide), mSto_1]; exact h3
    · rw [mSet_at, if_neg (by decide), mSto_1]; exact h4
    · rw [mSet_at, if_pos rfl]; simp
    · rw [mSet_2, mSto_at]
      have hi2 : i < q.2.2.2.2.length + 1 := by simpa using hi
      by_cases e : i = q.2.2.2.2.length
      · rw [if_pos ⟨rfl, e⟩, e]; simp
      · have hlt : i < q.2.2.2.2.length := by omega
        rw [if_neg (fun z => e z.2), h6 i hlt]
        simp [List.getD_eq_getElem?_getD, List.getElem?_append_left hlt]
theorem spIs_set4 {q : Sp} (hq : spIs τ q) (x y : Int32) : spIs (mSet (mSet τ 48 x) 49 y) (x, y, q.2.2.1, q.2.2.2.1, q.2.2.2.2) := by
  obtain ⟨h1, h2, h3, h4, h5, h6⟩ := hq
  refine ⟨?_, ?_, ?_, ?_, ?_, h6⟩ <;> simp only [mSet_at] <;> simp [h1, h2, h3, h4, h5]
theorem spIs_set50 {q : Sp} (hq : spIs τ q) (x : Int32) : spIs (mSet τ 50 x) (q.1, q.2.1, x, q.2.2.2.1, q.2.2.2.2) := by
  obtain ⟨h1, h2, h3, h4, h5, h6⟩ := hq
  refine ⟨?_, ?_, ?_, ?_, ?_, h6⟩ <;> simp only [mSet_at] <;> simp [h1, h2, h3, h4, h5]
theorem spIs_set51 {q : Sp} (hq : spIs τ q) (x : Int32) : spIs (mSet τ 51 x) (q.1, q.2.1, q.2.2.1, x, q.2.2.2.2) := by
  obtain ⟨h1, h2, h3, h4, h5, h6⟩ := hq
  refine ⟨?_, ?_, ?_, ?_, ?_, h6⟩ <;> simp only [mSet_at] <;> simp [h1, h2, h3, h4, h5]
theorem M_bid_keep {q : Sp} {k x : Int32} (hq : spIs τ q) (hs : scr τ σ) (hle : q.1 ≤ q.2.1) (hn : q.2.2.2.2.length < 24) : ∃ τ', M_bid_B69 τ x q.1 k q.2.1 = some τ' ∧ scr τ' σ ∧ spIs τ' (spKeep k x q) := by
  unfold M_bid_B69 M_bid_B99 M_bid_B141 M_bid_B155
  rw [bnd_eq]
  have hq1 := hq.1
  have hq2 := hq.2.1
  by_cases c1 : q.1 < x
  · rw [if_pos c1]
    by_cases c2 : q.2.1 < x
    · rw [if_neg (i_lt_n c2), spKeep, if_pos c2]
      exact M_lost_eq hq hs hn
    · rw [if_pos (i_nlt c2), hq1, if_neg (i_lt_n c1), spKeep, if_neg c2, if_pos c1, bnd_eq]
      have e49 : (mSet τ 50 k).1 49 = q.2.1 := by rw [mSet_at, if_neg (by decide)]; exact hq2
      rw [e49, if_pos (i_le_rf _), bnd_eq, bnd_eq]
      refine ⟨_, rfl, scr_set (by omega) (by omega) (scr_set (by omega) (by omega) (scr_set (by omega) (by omega) hs)), ?_⟩
      exact spIs_set4 (spIs_set50 hq k) x q.2.1
  · have c2 : ¬ q.2.1 < x := fun z => c1 (i_letr hle z)
    rw [if_neg c1, if_pos hle, hq1, if_pos (i_le_rf _), hq2, if_pos (i_le_rf _), spKeep, if_neg c2, if_neg c1, bnd_eq, bnd_eq]
    exact ⟨_, rfl, scr_set (by omega) (by omega) (scr_set (by omega) (by omega) hs), spIs_set4 hq q.1 q.2.1⟩
theorem M_bid_end {q : Sp} {k x : Int32} (hq : spIs τ q) (hs : scr τ σ) (hle : q.1 ≤ q.2.1) (hn : q.2.2.2.2.length < 24) : ∃ τ', bnd ((if x < q.2.1 then x else q.2.1)) (fun v7_97 => M_bid_B99 τ k q.1 v7_97) = some τ' ∧ scr τ' σ ∧ spIs τ' (spEnd k x q) := by
  unfold M_bid_B99 M_bid_B141 M_bid_B155
  rw [bnd_eq]
  have hq1 := hq.1
  have hq2 := hq.2.1
  by_cases c1 : x < q.2.1
  · rw [if_pos c1]
    by_cases c2 : x < q.1
    · rw [if_neg (i_lt_n c2), spEnd, if_pos c2]
      exact M_lost_eq hq hs hn
    · rw [if_pos (i_nlt c2), hq1, if_pos (i_le_rf _), hq2, if_neg (i_lt_n c1), spEnd, if_neg c2, if_pos c1, bnd_eq, bnd_eq, bnd_eq]
      exact ⟨_, rfl, scr_set (by omega) (by omega) (scr_set (by omega) (by omega) (scr_set (by omega) (by omega) hs)), spIs_set4 (spIs_set51 hq k) q.1 x⟩
  · have c2 : ¬ x < q.1 := fun z => c1 (i_lttr z hle)
    rw [if_neg c1, if_pos hle, hq1, if_pos (i_le_rf _), hq2, if_pos (i_le_rf _), spEnd, if_neg c2, if_neg c1, bnd_eq, bnd_eq]
    exact ⟨_, rfl, scr_set (by omega) (by omega) (scr_set (by omega) (by omega) hs), spIs_set4 hq q.1 q.2.1⟩
theorem M_bid_eq {s k t : Nat} {q : Sp} (h : ∀ k j, mRg σ.2 nT nS nH k j) (hS : nS ≤ 8) (hT : nT ≤ 30) (hs : s < nS) (hk : k < (σ.2 25 s).toNatClampNeg) (hp : ¬ σ.2 26 (24 * s + k) = 2) (ht : t < nT) (hc : scr τ σ) (hq : spIs τ q) (hle : q.1 ≤ q.2.1) (hn : q.2.2.2.2.length < 24) : ∃ τ', M_bid τ (nI s) (nI k) (nI t) = some τ' ∧ scr τ' σ ∧ spIs τ' (spStep (σ.2 26 (24 * s + k)) (nI k) (rDay σ.2 (24 * s + k) t) q) := by
  have hl := lvr_of h hs hk
  have hr := lvr_in hl.1 hS
  have o1 := (okI_nI (show 24 * s + k < 2 ^ 31 by omega)).mpr hr
  have e31 := ibt_c (h 31 _ hl.1 hp) (by decide)
  have hA : ∀ k j, mRg τ.2 nT nS nH k j := fun k j => by
    by_cases e : k = 53
    · subst e; trivial
    · rw [mRg_cg (A := σ.2) (hc.2 25 (by decide)) (hc.2 26 (by decide)) (hc.2 34 (by decide)) (by rw [hc.2 k e])]; exact h k j
  unfold M_bid
  rw [bnd_eq, show (24 : Int32) = nI 24 from rfl, pk_mul, nI_add, if_pos o1, nI_clamp (show 24 * s + k < 2 ^ 31 by omega), hc.2 31 (by decide), hc.2 11 (by decide), hc.2 26 (by decide), e31.1, show (4 : Int32) = nI 4 from rfl, pk_mul, nI_add, if_pos ((okI_nI (by omega)).mpr (by omega)), nI_clamp (by omega), bnd_eq, bnd_eq, bnd_eq, if_pos o1, hq.1, hq.2.1]
  have hun : ∀ d : Nat, d ≤ 200000 → M_until τ (nI (24 * s + k)) (nI d) = some (mUnt σ.2 (24 * s + k) (nI d)) := fun d hd => by
    have e := M_until_eq (σ := τ) (r := 24 * s + k) hA hS (by unfold lvr; rw [hc.2 25 (by decide)]; exact hl.1) (by rw [hc.2 26 (by decide)]; exact hp) hd
    unfold mUnt at e ⊢
    rw [hc.2 30 (by decide), hc.2 29 (by decide)] at e
    exact e
  have h11 := (h 11 (4 * t + (σ.2 31 (24 * s + k)).toNatClampNeg) (by omega)).1
  unfold spStep rDay
  by_cases c1 : σ.2 26 (24 * s + k) = 0
  · rw [if_pos c1, if_pos c1]
    by_cases c2 : σ.2 11 (4 * t + (σ.2 31 (24 * s + k)).toNatClampNeg) = -1
    · rw [if_pos c2, if_pos c2, if_pos rfl]
      exact M_bid_keep hq hc hle hn
    · rw [if_neg c2, if_neg c2]
      obtain ⟨d, hd, ed⟩ := h11.resolve_left c2
      rw [ed, hun d (by omega), ob_some, if_neg (mUnt_ne _ _)]
      exact M_bid_keep hq hc hle hn
  · rw [if_neg c1, if_neg c1]
    by_cases c2 : σ.2 11 (4 * t + (σ.2 31 (24 * s + k)).toNatClampNeg) = -1
    · rw [if_pos c2, if_pos c2, if_pos rfl]
      exact ⟨τ, rfl, hc, hq⟩
    · rw [if_neg c2, if_neg c2]
      obtain ⟨d, hd, ed⟩ := h11.resolve_left c2
      rw [ed, hun d (by omega), ob_some, if_neg (mUnt_ne _ _)]
      exact M_bid_end hq hc hle hn
end TELL
