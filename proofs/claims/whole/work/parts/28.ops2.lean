section OPS2
variable {a0 : Nat} {μ : Km} {σ : Ms} {B : Nat → Nat → Nat → Nat} {tg : Nat → Nat × Nat × Nat} {nT nS nH nP nw nL : Nat}
theorem RepB.rep (h : RepB a0 μ σ B tg nT nS nH nP nw nL) : Rep a0 μ σ := ⟨B, tg, nT, nS, nH, nP, nw, nL, h⟩
theorem RepB.k9 (h : RepB a0 μ σ B tg nT nS nH nP nw nL) : kK μ a0 = 9 := by
  have h4 := (h.2.1.2.2.1 22 0 0 ⟨by omega, rfl, rfl⟩).1
  rw [h.2.1.1] at h4
  exact h4
theorem RepB.nT30 (h : RepB a0 μ σ B tg nT nS nH nP nw nL) : nT ≤ 30 := h.1.1.2.1
theorem RepB.nS8 (h : RepB a0 μ σ B tg nT nS nH nP nw nL) : nS ≤ 8 := h.1.1.2.2.2.1
theorem RepB.nH40 (h : RepB a0 μ σ B tg nT nS nH nP nw nL) : nH ≤ 40 := h.1.1.2.2.2.2.2.1
/-- the numbers of the object itself -/
theorem RepB.i1 (h : RepB a0 μ σ B tg nT nS nH nP nw nL) : kI μ a0 1 = nI nP := by
  have e := h.2.2 22 0 0 1 ⟨rfl, rfl, by omega⟩
  rw [h.2.1.1] at e; rw [e]; exact h.1.1.2.2.2.2.2.2.1
theorem RepB.i4 (h : RepB a0 μ σ B tg nT nS nH nP nw nL) : kI μ a0 4 = nI nS := by
  have e := h.2.2 22 0 0 4 ⟨rfl, rfl, by omega⟩
  rw [h.2.1.1] at e; rw [e]; exact h.1.1.2.2.1
theorem RepB.i6 (h : RepB a0 μ σ B tg nT nS nH nP nw nL) : kI μ a0 6 = nI nT := by
  have e := h.2.2 22 0 0 6 ⟨rfl, rfl, by omega⟩
  rw [h.2.1.1] at e; rw [e]; exact h.1.1.1
theorem RepB.i9 (h : RepB a0 μ σ B tg nT nS nH nP nw nL) : kI μ a0 9 = nI nH := by
  have e := h.2.2 22 0 0 9 ⟨rfl, rfl, by omega⟩
  rw [h.2.1.1] at e; rw [e]; exact h.1.1.2.2.2.2.1
theorem RepB.i12 (h : RepB a0 μ σ B tg nT nS nH nP nw nL) : kI μ a0 12 = nI nw := by
  have e := h.2.2 22 0 0 12 ⟨rfl, rfl, by omega⟩
  rw [h.2.1.1] at e; rw [e]; exact h.1.1.2.2.2.2.2.2.2.2.1
/-- its references -/
theorem RepB.r (h : RepB a0 μ σ B tg nT nS nH nP nw nL) {e : Nat} (he : e = 0 ∨ e = 3 ∨ e = 5 ∨ e = 7 ∨ e = 8 ∨ e = 10 ∨ e = 11) : kR μ a0 e = some (rft σ.2 B 22 0 0 e) := by
  have e1 := h.2.1.2.2.2 22 0 0 e ⟨rfl, rfl, he⟩
  rw [h.2.1.1] at e1; exact e1
theorem RepB.one (h : RepB a0 μ σ B tg nT nS nH nP nw nL) {c : Nat} (hc : c < 9) : kK μ (B c 0 0) = kdc c ∧ kN μ (B c 0 0) = lnc c := by
  have h1 := h.2.1.2.2.1 c 0 0 (by unfold vld; split <;> first | omega | exact ⟨by omega, rfl, rfl⟩)
  exact ⟨h1.1, h1.2.1⟩
/-- a thing -/
theorem RepB.th (h : RepB a0 μ σ B tg nT nS nH nP nw nL) {t : Nat} (ht : t < nT) : kR μ (B 2 0 0) t = some (B 10 t 0) ∧ kK μ (B 10 t 0) = 8 ∧ kR μ (B 10 t 0) 1 = some (B 11 t 0) ∧ kR μ (B 10 t 0) 2 = some (B 12 t 0) ∧ kR μ (B 10 t 0) 3 = some (B 13 t 0) ∧ (kK μ (B 11 t 0) = 12 ∧ kN μ (B 11 t 0) = 4) ∧ (kK μ (B 12 t 0) = 12 ∧ kN μ (B 12 t 0) = 4) ∧ kK μ (B 13 t 0) = 12 ∧ kN μ (B 13 t 0) = 8 := by
  have r2 := h.2.1.2.2.2
  have k2 := h.2.1.2.2.1
  exact ⟨r2 2 0 0 t ⟨ht, rfl, rfl⟩, (k2 10 t 0 ⟨ht, rfl⟩).1, r2 10 t 0 1 ⟨ht, rfl, by omega⟩, r2 10 t 0 2 ⟨ht, rfl, by omega⟩, r2 10 t 0 3 ⟨ht, rfl, by omega⟩, ⟨(k2 11 t 0 ⟨ht, rfl⟩).1, (k2 11 t 0 ⟨ht, rfl⟩).2.1⟩, ⟨(k2 12 t 0 ⟨ht, rfl⟩).1, (k2 12 t 0 ⟨ht, rfl⟩).2.1⟩, (k2 13 t 0 ⟨ht, rfl⟩).1, (k2 13 t 0 ⟨ht, rfl⟩).2.1⟩
theorem K9_thingAt_no (h : RepB a0 μ σ B tg nT nS nH nP nw nL) {x : Int32} (hx : x < 0 ∨ nI nT ≤ x) : K9_thingAt μ a0 x = some (.inr (true, μ)) := by
  unfold K9_thingAt K9_thingAt_B12
  by_cases h1 : x < 0
  · rw [if_pos h1]
  · rcases hx with hx | hx
    · exact absurd hx h1
    · rw [if_neg h1, if_pos h.k9, h.i6, if_neg (i_le_n hx)]
theorem K9_thingAt_ok (h : RepB a0 μ σ B tg nT nS nH nP nw nL) {t : Nat} (ht : t < nT) : K9_thingAt μ a0 (nI t) = some (.inl (some (B 10 t 0), μ)) := by
  have h30 := h.nT30
  have ho1 : kK μ (B 2 0 0) = 18 := (h.one (c := 2) (by omega)).1
  have ho2 : kN μ (B 2 0 0) = 30 := (h.one (c := 2) (by omega)).2
  have e5 : kR μ a0 5 = some (B 2 0 0) := h.r (by omega)
  unfold K9_thingAt
  rw [if_neg (nI_pos (by omega)), if_pos h.k9, h.i6, if_pos (nI_lt ht (by omega)), e5, ob_some, if_pos ho1, ho2, if_pos ((okI_nI (by omega)).mpr (by omega)), nI_clamp (by omega), (h.th ht).1, ob_some]
theorem M_isThing_no (h2 : σ.1 2 = nI nT) {x : Int32} (hx : x < 0 ∨ nI nT ≤ x) : M_isThing σ x = some 0 := by
  unfold M_isThing M_isThing_B16 M_isThing_B17
  by_cases h1 : x < 0
  · rw [if_pos h1]; rfl
  · rcases hx with hx | hx
    · exact absurd hx h1
    · rw [if_neg h1, h2, if_pos hx]; rfl
theorem M_isThing_ok (h2 : σ.1 2 = nI nT) (hT : nT ≤ 30) {t : Nat} (ht : t < nT) : M_isThing σ (nI t) = some 1 := by
  unfold M_isThing M_isThing_B17
  rw [if_neg (nI_pos (by omega)), h2, if_neg (nI_ge ht (by omega))]; rfl
theorem K9_checkField_no {x : Int32} (hx : x < 0 ∨ nI 8 ≤ x) : K9_checkField μ x = some (.inr (true, μ)) := by
  unfold K9_checkField K9_checkField_B10
  by_cases h1 : x < 0
  · rw [if_pos h1]
  · rcases hx with hx | hx
    · exact absurd hx h1
    · rw [if_neg h1, show (8 : Int32) = nI 8 from rfl, if_neg (i_le_n hx)]
theorem K9_checkField_ok {f : Nat} (hf : f < 8) : K9_checkField μ (nI f) = some (.inl μ) := by
  unfold K9_checkField
  rw [if_neg (nI_pos (by omega)), show (8 : Int32) = nI 8 from rfl, if_pos (nI_lt hf (by omega))]
theorem K9_checkStore_no {x : Int32} (hx : x < 0 ∨ nI 4 ≤ x) : K9_checkStore μ x = some (.inr (true, μ)) := by
  unfold K9_checkStore K9_checkStore_B9
  by_cases h1 : x < 0
  · rw [if_pos h1]
  · rcases hx with hx | hx
    · exact absurd hx h1
    · rw [if_neg h1, show (4 : Int32) = nI 4 from rfl, if_neg (i_le_n hx)]
theorem K9_checkStore_ok {f : Nat} (hf : f < 4) : K9_checkStore μ (nI f) = some (.inl μ) := by
  unfold K9_checkStore
  rw [if_neg (nI_pos (by omega)), show (4 : Int32) = nI 4 from rfl, if_pos (nI_lt hf (by omega))]
theorem M_isField_no {S : Type} {s : S} {x : Int32} (hx : x < 0 ∨ nI 8 ≤ x) : M_isField s x = some 0 := by
  unfold M_isField M_isField_B14 M_isField_B15
  by_cases h1 : x < 0
  · rw [if_pos h1]; rfl
  · rcases hx with hx | hx
    · exact absurd hx h1
    · rw [if_neg h1, show (8 : Int32) = nI 8 from rfl, if_pos hx]; rfl
theorem M_isField_ok {S : Type} {s : S} {f : Nat} (hf : f < 8) : M_isField s (nI f) = some 1 := by
  unfold M_isField M_isField_B15
  rw [if_neg (nI_pos (by omega)), show (8 : Int32) = nI 8 from rfl, if_neg (nI_ge hf (by omega))]; rfl
theorem M_isStore_no {S : Type} {s : S} {x : Int32} (hx : x < 0 ∨ nI 4 ≤ x) : M_isStore s x = some 0 := by
  unfold M_isStore M_isStore_B13 M_isStore_B14
  by_cases h1 : x < 0
  · rw [if_pos h1]; rfl
  · rcases hx with hx | hx
    · exact absurd hx h1
    · rw [if_neg h1, show (4 : Int32) = nI 4 from rfl, if_pos hx]; rfl
theorem M_isStore_ok {S : Type} {s : S} {f : Nat} (hf : f < 4) : M_isStore s (nI f) = some 1 := by
  unfold M_isStore M_isStore_B14
  rw [if_neg (nI_pos (by omega)), show (4 : Int32) = nI 4 from rfl, if_neg (nI_ge hf (by omega))]; rfl
theorem bxq_no {β : Type} {e : Bool × Km} {k : Option Nat → Km → Option (β ⊕ (Bool × Km))} : bxq (some (.inr e)) k = some (.inr e) := rfl
theorem bxq_ok {β : Type} {r : Option Nat} {s : Km} {k : Option Nat → Km → Option (β ⊕ (Bool × Km))} : bxq (some (.inl (r, s))) k = k r s := rfl
theorem bxv_no {β : Type} {e : Bool × Km} {k : Km → Option (β ⊕ (Bool × Km))} : bxv (some (.inr e)) k = some (.inr e) := rfl
theorem bxv_ok {β : Type} {s : Km} {k : Km → Option (β ⊕ (Bool × Km))} : bxv (some (.inl s)) k = k s := rfl
theorem op_copies_ok : op_copies (Rep a0) a0 := by
  rintro μ σ a1 a2 ⟨B, tg, nT, nS, nH, nP, nw, nL, h⟩
  have h30 := h.nT30
  rcases i_below a1 (n := nT) (by omega) with hx | ⟨t, ht, rfl⟩
  · refine opI_no (b := true) (r := 0) (μ' := μ) (σ' := mSet (mSet σ 0 0) 0 1) ?_ ?_ rfl (mSet_0v _ _) (Rep_code (Rep_code h.rep _) _)
    · unfold K9_copies; rw [if_pos h.k9, K9_thingAt_no h hx]; rfl
    · unfold M_copies; rw [bnd_eq, M_isThing_no (σ := mSet σ 0 0) (h.1.1.1) hx, ob_some, if_pos rfl]; rfl
  · rcases i_below a2 (n := 8) (by omega) with hx | ⟨f, hf, rfl⟩
    · refine opI_no (b := true) (r := 0) (μ' := μ) (σ' := mSet (mSet σ 0 0) 0 1) ?_ ?_ rfl (mSet_0v _ _) (Rep_code (Rep_code h.rep _) _)
      · unfold K9_copies; rw [if_pos h.k9, K9_thingAt_ok h ht, bxq_ok, ob_some, K9_checkField_no hx]; rfl
      · unfold M_copies; rw [bnd_eq, M_isThing_ok (σ := mSet σ 0 0) (h.1.1.1) h30 ht, ob_some, if_neg (by decide), M_isField_no hx, ob_some, if_pos rfl]; rfl
    · obtain ⟨t1, t2, t3, t4, t5, t6, t7, t8, t9⟩ := h.th ht
      refine opI_ok (r := σ.2 12 (8 * t + f)) (μ' := μ) (σ' := mSet σ 0 0) ?_ ?_ (mSet_0v _ _) (Rep_code h.rep _)
      · unfold K9_copies
        rw [if_pos h.k9, K9_thingAt_ok h ht, bxq_ok, ob_some, K9_checkField_ok hf, bxv_ok, if_pos t2, t5, ob_some, if_pos t8, t9, if_pos ((okI_nI (by omega)).mpr hf), nI_clamp (by omega), h.2.2 13 t 0 f ⟨ht, rfl, hf⟩]
        rfl
      · unfold M_copies
        rw [bnd_eq, M_isThing_ok (σ := mSet σ 0 0) (h.1.1.1) h30 ht, ob_some, if_neg (by decide), M_isField_ok hf, ob_some, if_neg (by decide), show (8 : Int32) = nI 8 from rfl, pk_mul, nI_add, if_pos ((okI_nI (by omega)).mpr (by omega)), nI_clamp (by omega)]
        rfl
theorem op_store_ok : op_store (Rep a0) a0 := by
  rintro μ σ a1 a2 a3 ⟨B, tg, nT, nS, nH, nP, nw, nL, h⟩
  rcases i_below a1 (n := 4) (by omega) with hx | ⟨s, hs, rfl⟩
  · refine ⟨.inr (true, μ), mSet (mSet σ 0 0) 0 1, ?_, ?_, rfl, mSet_0v _ _, Rep_code (Rep_code h.rep _) _⟩
    · unfold K9_store; rw [K9_checkStore_no hx]; rfl
    · unfold M_store; rw [bnd_eq, M_isStore_no hx, ob_some, if_pos rfl]; rfl
  · have kst : K9_store μ a0 (nI s) a2 a3 = (if a2 < (1 : Int32) then some (.inr (false, μ)) else if (400 : Int32) < a2 then some (.inr (false, μ)) else if a3 < 0 then some (.inr (false, μ)) else if a3 ≤ (399 : Int32) then some (.inl (kSetI (kSetI μ (B 9 s 0) 0 a2) (B 9 s 0) 1 a3)) else some (.inr (false, μ))) := by
      unfold K9_store K9_store_B27
      have ho := h.one (c := 3) (by omega)
      have hr := h.2.1.2.2.2 3 0 0 s ⟨hs, rfl, rfl⟩
      have hk := (h.2.1.2.2.1 9 s 0 ⟨hs, rfl⟩).1
      have e7 : kR μ a0 7 = some (B 3 0 0) := h.r (by omega)
      rw [K9_checkStore_ok hs, bxv_ok]
      simp only [if_pos h.k9, e7, ob_some, show kK μ (B 3 0 0) = 17 from ho.1, show kN μ (B 3 0 0) = 4 from ho.2, if_true, (okI_nI (show s < 2 ^ 31 by omega)).mpr hs, nI_clamp (show s < 2 ^ 31 by omega), show kR μ (B 3 0 0) s = some (B 9 s 0) from hr, show kK μ (B 9 s 0) = 7 from hk, bnd_eq, kR_setI, kK_setI, kN_setI]
    have mst : M_store σ (nI s) a2 a3 = (if a2 < (1 : Int32) then M_store_B41 (mSet σ 0 0) else if (400 : Int32) < a2 then M_store_B41 (mSet σ 0 0) else if a3 < 0 then M_store_B41 (mSet σ 0 0) else if a3 ≤ (399 : Int32) then some (mSto (mSto (mSet σ 0 0) 14 s a2) 15 s a3) else M_store_B41 (mSet σ 0 0)) := by
      unfold M_store
      rw [bnd_eq, M_isStore_ok hs, ob_some, if_neg (by decide)]
      simp only [(okI_nI (show s < 2 ^ 31 by omega)).mpr hs, if_true, nI_clamp (show s < 2 ^ 31 by omega), bnd_eq]
    have no : opV (Rep a0) (fun b => cond b 1 2) (fun _ => true) (some (.inr (false, μ))) (M_store_B41 (mSet σ 0 0)) := ⟨.inr (false, μ), mSet (mSet σ 0 0) 0 2, rfl, rfl, rfl, mSet_0v _ _, Rep_code (Rep_code h.rep _) _⟩
    rw [kst, mst]
    by_cases c1 : a2 < 1
    · rw [if_pos c1, if_pos c1]; exact no
    rw [if_neg c1, if_neg c1]
    by_cases c2 : 400 < a2
    · rw [if_pos c2, if_pos c2]; exact no
    rw [if_neg c2, if_neg c2]
    by_cases c3 : a3 < 0
    · rw [if_pos c3, if_pos c3]; exact no
    rw [if_neg c3, if_neg c3]
    by_cases c4 : a3 ≤ 399
    · rw [if_pos c4, if_pos c4]
      obtain ⟨e, he1, he2, rfl⟩ := i_rng (lo := 1) (hi := 400) c1 (i_nlt c2) (by omega) (by omega)
      obtain ⟨b, -, hb2, rfl⟩ := i_rng (lo := 0) (hi := 399) c3 c4 (by omega) (by omega)
      refine ⟨_, _, rfl, rfl, mSet_0v σ 0, ?_⟩
      have h0 := RepB_code h 0
      have h1 : RepB a0 (kSetI μ (B 9 s 0) 0 (nI e)) (mSto (mSet σ 0 0) 14 s (nI e)) B tg nT nS nH nP nw nL := RepB_put (c0 := 9) (i0 := s) (j0 := 0) (e0 := 0) (x := nI e) h0 (mInv_put (k0 := 14) (j0 := s) (x := nI e) h0.1 (by omega) (fun _ => ⟨e, he1, he2, by rw [mSto_at, if_pos ⟨rfl, rfl⟩]⟩)) (sameR_put (by omega)) (mSto_ne _ _ _ _ (by decide)) ⟨hs, rfl⟩ hw_14
      exact (RepB_put (c0 := 9) (i0 := s) (j0 := 0) (e0 := 1) (x := nI b) h1 (mInv_put (k0 := 15) (j0 := s) (x := nI b) h1.1 (by omega) (fun _ => ⟨b, by omega, by rw [mSto_at, if_pos ⟨rfl, rfl⟩]⟩)) (sameR_put (by omega)) (mSto_ne _ _ _ _ (by decide)) ⟨hs, rfl⟩ hw_15).rep
    · rw [if_neg c4, if_neg c4]; exact no
end OPS2
