/-! how writes keep the two sides together -/
section BASE
theorem mSto_at (σ : Ms) (k j : Nat) (x : Int32) (k' j' : Nat) : (mSto σ k j x).2 k' j' = if k' = k ∧ j' = j then x else σ.2 k' j' := by
  unfold mSto va_up upd
  by_cases h1 : k' = k
  · subst h1
    by_cases h2 : j' = j <;> simp [h2]
  · simp [h1]
theorem mSto_1 (σ : Ms) (k j : Nat) (x : Int32) : (mSto σ k j x).1 = σ.1 := rfl
theorem mSto_ne (σ : Ms) (k j : Nat) (x : Int32) {k' : Nat} (h : k' ≠ k) : (mSto σ k j x).2 k' = σ.2 k' := by
  funext i
  rw [mSto_at, if_neg (fun q => h q.1)]
theorem mSet_2 (σ : Ms) (k : Nat) (x : Int32) : (mSet σ k x).2 = σ.2 := rfl
theorem mSet_at (σ : Ms) (k : Nat) (x : Int32) (k' : Nat) : (mSet σ k x).1 k' = if k' = k then x else σ.1 k' := by
  unfold mSet upd
  by_cases h1 : k' = k <;> simp [h1]
theorem kK_setI (μ : Km) (a j : Nat) (x : Int32) : kK (kSetI μ a j x) = kK μ := rfl
theorem kR_setI (μ : Km) (a j : Nat) (x : Int32) : kR (kSetI μ a j x) = kR μ := rfl
theorem kN_setI (μ : Km) (a j : Nat) (x : Int32) : kN (kSetI μ a j x) = kN μ := rfl
theorem kn_setI (μ : Km) (a j : Nat) (x : Int32) : kn (kSetI μ a j x) = kn μ := rfl
theorem ibt_c {x : Int32} {n : Nat} (h : ibt x n) (hn : n ≤ 2 ^ 31) : x = nI x.toNatClampNeg ∧ x.toNatClampNeg < n := by
  obtain ⟨v, h1, rfl⟩ := h
  rw [nI_clamp (by omega)]
  exact ⟨rfl, h1⟩
theorem ibt_nI {v n : Nat} (h : v < n) : ibt (nI v) n := ⟨v, h, rfl⟩
variable {a0 : Nat} {μ : Km} {σ σ' : Ms} {B : Nat → Nat → Nat → Nat} {tg : Nat → Nat × Nat × Nat} {nT nS nH nP nw nL nP' nw' nL' : Nat} {A : Ar}
theorem vwv_vld {c i j e : Nat} (h : vwv A nT nS nH c i j e) : vld A nT nS nH c i j := by
  unfold vwv at h
  unfold vld
  split at h <;> first | exact ⟨by omega, h.1, h.2.1⟩ | exact ⟨h.1, h.2.1⟩ | exact h.elim
/-- equal rules, equal orders -/
theorem ord_cg {A A' : Ar} (h25 : A' 25 = A 25) (h26 : A' 26 = A 26) (h33 : A' 33 = A 33) : ord A' = ord A := by
  funext s
  unfold ord
  rw [h25, h26, h33]
def sameR (A' A : Ar) : Prop := ∀ k, 24 ≤ k → k ≤ 37 → A' k = A k
theorem vwv_cg {A A' : Ar} (h : sameR A' A) {c i j e : Nat} : vwv A' nT nS nH c i j e = vwv A nT nS nH c i j e := by
  have e25 := h 25 (by omega) (by omega)
  have e26 := h 26 (by omega) (by omega)
  have e33 := h 33 (by omega) (by omega)
  have e34 := h 34 (by omega) (by omega)
  unfold vwv rmy
  rw [ord_cg e25 e26 e33, e25, e26, e34]
theorem vld_cg {A A' : Ar} (h : sameR A' A) {c i j : Nat} : vld A' nT nS nH c i j = vld A nT nS nH c i j := by
  have e25 := h 25 (by omega) (by omega)
  unfold vld rmy
  rw [e25]
theorem rfv_cg {A A' : Ar} (h : sameR A' A) {c i j e : Nat} : rfv A' nT nS nH c i j e = rfv A nT nS nH c i j e := by
  have e25 := h 25 (by omega) (by omega)
  unfold rfv rmy
  rw [e25]
theorem rft_cg {A A' : Ar} {c i j e : Nat} (h : c = 14 → A' 16 i = A 16 i) : rft A' B c i j e = rft A B c i j e := by
  unfold rft
  split <;> first | rfl | rw [h rfl]
theorem kShp_cg {A A' : Ar} (hR : sameR A' A) (h16 : ∀ i, i < nH → A' 16 i = A 16 i) (h : kShp μ A a0 B tg nT nS nH) : kShp μ A' a0 B tg nT nS nH := by
  refine ⟨h.1, h.2.1, fun c i j hv => h.2.2.1 c i j (by rw [← vld_cg hR]; exact hv), fun c i j e hr => ?_⟩
  rw [rfv_cg hR] at hr
  rw [h.2.2.2 c i j e hr, rft_cg]
  intro hc
  subst hc
  exact (h16 i hr.1).symm
/-- one number written -/
theorem kVal_put (hS : kShp μ σ.2 a0 B tg nT nS nH) (hV : kVal μ σ B nT nS nH) (hR : sameR σ'.2 σ.2) {c0 i0 j0 e0 : Nat} {x : Int32} (hv0 : vld σ.2 nT nS nH c0 i0 j0) (hw : ∀ c i j e, vwv σ.2 nT nS nH c i j e → vwt σ' c i j e = if c = c0 ∧ i = i0 ∧ j = j0 ∧ e = e0 then x else vwt σ c i j e) : kVal (kSetI μ (B c0 i0 j0) e0 x) σ' B nT nS nH := by
  intro c i j e hve
  rw [vwv_cg hR] at hve
  rw [kI_set, hw c i j e hve, hV c i j e hve]
  have t1 := (hS.2.2.1 c i j (vwv_vld hve)).2.2
  have t2 := (hS.2.2.1 c0 i0 j0 hv0).2.2
  by_cases hq : c = c0 ∧ i = i0 ∧ j = j0 ∧ e = e0
  · obtain ⟨rfl, rfl, rfl, rfl⟩ := hq
    simp
  · rw [if_neg hq, if_neg ?_]
    rintro ⟨h1, h2⟩
    rw [h1] at t1
    have t3 := t1.symm.trans t2
    simp only [Prod.mk.injEq] at t3
    exact hq ⟨t3.1, t3.2.1, t3.2.2, h2⟩
theorem RepB_put (h : RepB a0 μ σ B tg nT nS nH nP nw nL) (hI : mInv σ' nT nS nH nP' nw' nL') (hR : sameR σ'.2 σ.2) (h16 : σ'.2 16 = σ.2 16) {c0 i0 j0 e0 : Nat} {x : Int32} (hv0 : vld σ.2 nT nS nH c0 i0 j0) (hw : ∀ c i j e, vwv σ.2 nT nS nH c i j e → vwt σ' c i j e = if c = c0 ∧ i = i0 ∧ j = j0 ∧ e = e0 then x else vwt σ c i j e) : RepB a0 (kSetI μ (B c0 i0 j0) e0 x) σ' B tg nT nS nH nP' nw' nL' := by
  have hs := kShp_cg hR (fun i _ => by rw [h16]) h.2.1
  exact ⟨hI, ⟨hs.1, hs.2.1, hs.2.2.1, hs.2.2.2⟩, kVal_put h.2.1 h.2.2 hR hv0 hw⟩
/-- nothing of the class written -/
theorem RepB_id (h : RepB a0 μ σ B tg nT nS nH nP nw nL) (hI : mInv σ' nT nS nH nP' nw' nL') (hR : sameR σ'.2 σ.2) (h16 : σ'.2 16 = σ.2 16) (hw : ∀ c i j e, vwv σ.2 nT nS nH c i j e → vwt σ' c i j e = vwt σ c i j e) : RepB a0 μ σ' B tg nT nS nH nP' nw' nL' := by
  have hs := kShp_cg hR (fun i _ => by rw [h16]) h.2.1
  refine ⟨hI, hs, fun c i j e hve => ?_⟩
  rw [vwv_cg hR] at hve
  rw [hw c i j e hve]
  exact h.2.2 c i j e hve
/-- a number written that the two don't share -/
theorem RepB_scr (h : RepB a0 μ σ B tg nT nS nH nP nw nL) {p j : Nat} {x : Int32} (hp : ∀ c i k e, vwv σ.2 nT nS nH c i k e → B c i k ≠ p) : RepB a0 (kSetI μ p j x) σ B tg nT nS nH nP nw nL := by
  refine ⟨h.1, h.2.1, fun c i k e hve => ?_⟩
  rw [kI_set, if_neg (fun q => hp c i k e hve q.1)]
  exact h.2.2 c i k e hve
theorem mKep_cg (hK : mKep σ nT nS) (h54 : σ'.1 54 = σ.1 54) (h55 : σ'.2 55 = σ.2 55) (h56 : σ'.2 56 = σ.2 56) (h57 : σ'.2 57 = σ.2 57) (h58 : σ'.2 58 = σ.2 58) (hsp : ∀ t g, t < nT → g < 8 → σ.2 55 t = 1 → mSpan σ'.2 t g (σ.1 54) = mSpan σ.2 t g (σ.1 54)) : mKep σ' nT nS := by
  intro t ht
  rcases hK t ht with h | ⟨h1, h2, h3, h4⟩
  · exact Or.inl (by rw [h55]; exact h)
  · refine Or.inr ⟨by rw [h55]; exact h1, h2, by rw [h54]; exact h3, fun g hg => ?_⟩
    rw [h54, h56, h57, h58, hsp t g h2 hg h1]
    exact h4 g hg
/-- the code alone -/
theorem mInv_code (h : mInv σ nT nS nH nP nw nL) (x : Int32) : mInv (mSet σ 0 x) nT nS nH nP nw nL := h
theorem RepB_code (h : RepB a0 μ σ B tg nT nS nH nP nw nL) (x : Int32) : RepB a0 μ (mSet σ 0 x) B tg nT nS nH nP nw nL := h
theorem Rep_code (h : Rep a0 μ σ) (x : Int32) : Rep a0 μ (mSet σ 0 x) := h
theorem mSet_00 (σ : Ms) (x y : Int32) : mSet (mSet σ 0 x) 0 y = mSet σ 0 y := by
  unfold mSet
  congr 1
  funext k
  unfold upd
  by_cases h : k = 0 <;> simp [h]
theorem mSet_0v (σ : Ms) (x : Int32) : (mSet σ 0 x).1 0 = x := by rw [mSet_at, if_pos rfl]
theorem M_fail_eq (σ : Ms) (x : Int32) : M_fail σ x = some (0, mSet σ 0 x) := rfl
theorem opI_ok {Rp : Km → Ms → Prop} {cd : Bool → Int32} {ok : Bool → Bool} {k : Option ((Int32 × Km) ⊕ (Bool × Km))} {mr : Option (Int32 × Ms)} {r : Int32} {μ' : Km} {σ' : Ms} (h1 : k = some (.inl (r, μ'))) (h2 : mr = some (r, σ')) (h3 : σ'.1 0 = 0) (h4 : Rp μ' σ') : opI Rp cd ok k mr := ⟨_, _, _, h1, h2, h3, rfl, h4⟩
theorem opI_no {Rp : Km → Ms → Prop} {cd : Bool → Int32} {ok : Bool → Bool} {k : Option ((Int32 × Km) ⊕ (Bool × Km))} {mr : Option (Int32 × Ms)} {b : Bool} {r : Int32} {μ' : Km} {σ' : Ms} (h1 : k = some (.inr (b, μ'))) (h2 : mr = some (r, σ')) (hb : ok b = true) (h3 : σ'.1 0 = cd b) (h4 : Rp μ' σ') : opI Rp cd ok k mr := ⟨_, _, _, h1, h2, hb, h3, h4⟩
end BASE
