section OPS4
variable {a0 : Nat} {μ : Km} {σ : Ms} {B : Nat → Nat → Nat → Nat} {tg : Nat → Nat × Nat × Nat} {nT nS nH nP nw nL : Nat} {A : Ar}
theorem op_places_ok : op_places (Rep a0) a0 := by
  rintro μ σ a1 a2 ⟨B, tg, nT, nS, nH, nP, nw, nL, h⟩
  have h30 := h.nT30
  rcases i_below a1 (n := nT) (by omega) with hx | ⟨t, ht, rfl⟩
  · refine opI_no (b := true) (r := 0) (μ' := μ) (σ' := mSet (mSet σ 0 0) 0 1) ?_ ?_ rfl (mSet_0v _ _) (Rep_code (Rep_code h.rep _) _)
    · unfold K9_places; rw [if_pos h.k9, K9_thingAt_no h hx]; rfl
    · unfold M_places; rw [bnd_eq, M_isThing_no (σ := mSet σ 0 0) (h.1.1.1) hx, ob_some, if_pos rfl]; rfl
  · rcases i_below a2 (n := 8) (by omega) with hx | ⟨f, hf, rfl⟩
    · refine opI_no (b := true) (r := 0) (μ' := μ) (σ' := mSet (mSet σ 0 0) 0 1) ?_ ?_ rfl (mSet_0v _ _) (Rep_code (Rep_code h.rep _) _)
      · unfold K9_places; rw [if_pos h.k9, K9_thingAt_ok h ht, bxq_ok, ob_some, K9_checkField_no hx]; rfl
      · unfold M_places; rw [bnd_eq, M_isThing_ok (σ := mSet σ 0 0) (h.1.1.1) h30 ht, ob_some, if_neg (by decide), M_isField_no hx, ob_some, if_pos rfl]; rfl
    · refine opI_ok (r := mPlc σ.2 t f (frc σ nS)) (μ' := μ) (σ' := mSet σ 0 0) ?_ ?_ (mSet_0v _ _) (Rep_code h.rep _)
      · unfold K9_places
        rw [if_pos h.k9, K9_thingAt_ok h ht, bxq_ok, ob_some, K9_checkField_ok hf, bxv_ok, if_pos h.k9, K9_placesOf_eq h ht hf, ob_some]
      · unfold M_places
        rw [bnd_eq, M_isThing_ok (σ := mSet σ 0 0) (h.1.1.1) h30 ht, ob_some, if_neg (by decide), M_isField_ok hf, ob_some, if_neg (by decide), M_placesOf_eq (mInv_code h.1 0) ht]
        rfl
theorem b16a : ∀ v, v < 16 → ∀ s, s < 4 → ((nI v >>> (nI s &&& 31)) &&& 1 = 0 ∨ (nI v >>> (nI s &&& 31)) &&& 1 = 1) := by decide
theorem b16o : ∀ v, v < 16 → ∀ s, s < 4 → ∃ u, u < 16 ∧ nI v ||| ((1 : Int32) <<< (nI s &&& 31)) = nI u := by decide
theorem K8_hasCopy_eq (h : RepB a0 μ σ B tg nT nS nH nP nw nL) {t f s : Nat} (ht : t < nT) (hf : f < 8) : K8_hasCopy μ (B 10 t 0) (nI f) (nI s) = some (bI (decide (¬ (σ.2 12 (8 * t + f) >>> (nI s &&& 31)) &&& 1 = 0))) := by
  obtain ⟨t1, t2, t3, t4, t5, t6, t7, t8, t9⟩ := h.th ht
  unfold K8_hasCopy K8_hasCopy_B18
  rw [if_pos t2, t5, ob_some, if_pos t8, t9, if_pos ((okI_nI (by omega)).mpr hf), nI_clamp (by omega), show kI μ (B 13 t 0) f = σ.2 12 (8 * t + f) from h.2.2 13 t 0 f ⟨ht, rfl, hf⟩]
  by_cases c : (σ.2 12 (8 * t + f) >>> (nI s &&& 31)) &&& 1 = 0
  · rw [if_pos c, if_pos (by decide)]; simp [c, bI]
  · rw [if_neg c, if_pos (by decide)]; simp [c, bI]
theorem op_copy_ok : op_copy (Rep a0) a0 := by
  rintro μ σ a1 a2 a3 ⟨B, tg, nT, nS, nH, nP, nw, nL, h⟩
  have h30 := h.nT30
  have no : ∀ {k : Option ((Int32 × Km) ⊕ (Bool × Km))} {mr : Option (Int32 × Ms)}, k = some (.inr (true, μ)) → mr = some (0, mSet (mSet σ 0 0) 0 1) → opI (Rep a0) (fun _ => 1) (fun b => b) k mr := fun e1 e2 => opI_no e1 e2 rfl (mSet_0v _ _) (Rep_code (Rep_code h.rep _) _)
  rcases i_below a1 (n := nT) (by omega) with hx | ⟨t, ht, rfl⟩
  · refine no ?_ ?_
    · unfold K9_copy; rw [if_pos h.k9, K9_thingAt_no h hx]; rfl
    · unfold M_copy; rw [bnd_eq, M_isThing_no (σ := mSet σ 0 0) (h.1.1.1) hx, ob_some, if_pos rfl]; rfl
  rcases i_below a2 (n := 8) (by omega) with hx | ⟨f, hf, rfl⟩
  · refine no ?_ ?_
    · unfold K9_copy; rw [if_pos h.k9, K9_thingAt_ok h ht, bxq_ok, ob_some, K9_checkField_no hx]; rfl
    · unfold M_copy; rw [bnd_eq, M_isThing_ok (σ := mSet σ 0 0) (h.1.1.1) h30 ht, ob_some, if_neg (by decide), M_isField_no hx, ob_some, if_pos rfl]; rfl
  rcases i_below a3 (n := 4) (by omega) with hx | ⟨s, hs, rfl⟩
  · refine no ?_ ?_
    · unfold K9_copy; rw [if_pos h.k9, K9_thingAt_ok h ht, bxq_ok, ob_some, K9_checkField_ok hf, bxv_ok, K9_checkStore_no hx]; rfl
    · unfold M_copy; rw [bnd_eq, M_isThing_ok (σ := mSet σ 0 0) (h.1.1.1) h30 ht, ob_some, if_neg (by decide), M_isField_ok hf, ob_some, if_neg (by decide), M_isStore_no hx, ob_some, if_pos rfl]; rfl
  obtain ⟨t1, t2, t3, t4, t5, t6, t7, t8, t9⟩ := h.th ht
  obtain ⟨⟨v, hv, ev⟩, -⟩ := h.1.2.1 12 (8 * t + f) (by omega)
  have vf : kI μ (B 13 t 0) f = σ.2 12 (8 * t + f) := h.2.2 13 t 0 f ⟨ht, rfl, hf⟩
  have kst : K9_copy μ a0 (nI t) (nI f) (nI s) = (if (σ.2 12 (8 * t + f) >>> (nI s &&& 31)) &&& 1 = 0 then (if (mPlc σ.2 t f (frc σ nS) >>> (nI s &&& 31)) &&& 1 = 0 then some (.inl (0, μ)) else some (.inl (1, kSetI μ (B 13 t 0) f (σ.2 12 (8 * t + f) ||| ((1 : Int32) <<< (nI s &&& 31)))))) else some (.inl (0, μ))) := by
    unfold K9_copy K9_copy_B39
    rw [if_pos h.k9, K9_thingAt_ok h ht, bxq_ok, ob_some, K9_checkField_ok hf, bxv_ok, K9_checkStore_ok hs, bxv_ok, if_pos t2, K8_hasCopy_eq h ht hf, ob_some]
    have o1 := (okI_nI (show f < 2 ^ 31 by omega)).mpr hf
    simp only [if_pos h.k9, K9_placesOf_eq h ht hf, ob_some, t5, t8, t9, o1, if_true, nI_clamp (show f < 2 ^ 31 by omega), bnd_eq, vf]
    by_cases c : (σ.2 12 (8 * t + f) >>> (nI s &&& 31)) &&& 1 = 0
    · rw [if_pos (by simp [c, bI]), if_pos c]
    · rw [if_neg (by simp [c, bI]), if_neg c]
  have mst : M_copy σ (nI t) (nI f) (nI s) = (if (σ.2 12 (8 * t + f) >>> (nI s &&& 31)) &&& 1 = 0 then (if (mPlc σ.2 t f (frc σ nS) >>> (nI s &&& 31)) &&& 1 = 0 then some (0, mSet σ 0 0) else some (1, mSto (mSet σ 0 0) 12 (8 * t + f) (σ.2 12 (8 * t + f) ||| ((1 : Int32) <<< (nI s &&& 31))))) else some (0, mSet σ 0 0)) := by
    unfold M_copy M_copy_B71
    have o1 := (okI_nI (show 8 * t + f < 2 ^ 31 by omega)).mpr (show 8 * t + f < 240 by omega)
    rw [bnd_eq, M_isThing_ok (σ := mSet σ 0 0) (h.1.1.1) h30 ht, ob_some, if_neg (by decide), M_isField_ok hf, ob_some, if_neg (by decide), M_isStore_ok hs, ob_some, if_neg (by decide), bnd_eq, show (8 : Int32) = nI 8 from rfl, pk_mul, nI_add, M_placesOf_eq (mInv_code h.1 0) ht, ob_some]
    simp only [o1, if_true, nI_clamp (show 8 * t + f < 2 ^ 31 by omega), bnd_eq, mSet_2]
    have b1 := b16a v hv s hs
    rw [← ev] at b1
    by_cases c : (σ.2 12 (8 * t + f) >>> (nI s &&& 31)) &&& 1 = 0
    · rw [if_neg (by rw [c]; decide), if_pos c]; rfl
    · rw [if_pos (b1.resolve_left c), if_neg c]
  rw [kst, mst]
  by_cases c1 : (σ.2 12 (8 * t + f) >>> (nI s &&& 31)) &&& 1 = 0
  · rw [if_pos c1, if_pos c1]
    by_cases c2 : (mPlc σ.2 t f (frc σ nS) >>> (nI s &&& 31)) &&& 1 = 0
    · rw [if_pos c2, if_pos c2]; exact opI_ok rfl rfl (mSet_0v _ _) (Rep_code h.rep _)
    · rw [if_neg c2, if_neg c2]
      have h0 := RepB_code h 0
      obtain ⟨u, hu, eu⟩ := b16o v hv s hs
      rw [← ev] at eu
      exact opI_ok rfl rfl (mSet_0v σ 0) (RepB_put (c0 := 13) (i0 := t) (j0 := 0) (e0 := f) h0 (mInv_put (k0 := 12) (j0 := 8 * t + f) h0.1 (by omega) (fun _ => ⟨⟨u, hu, by rw [mSto_at, if_pos ⟨rfl, rfl⟩, eu]⟩, fun q => by omega⟩)) (sameR_put (by omega)) (mSto_ne _ _ _ _ (by decide)) ⟨ht, rfl⟩ (hw_12 hf)).rep
  · rw [if_neg c1, if_neg c1]; exact opI_ok rfl rfl (mSet_0v _ _) (Rep_code h.rep _)
/-! counting bits -/
def pc (x : Int32) : Int32 := nI ([0, 1, 1, 2, 1, 2, 2, 3, 1, 2, 2, 3, 2, 3, 3, 4].getD x.toNatClampNeg 0)
theorem lt16 {v : Nat} (h : v < 16) : v = 0 ∨ v = 1 ∨ v = 2 ∨ v = 3 ∨ v = 4 ∨ v = 5 ∨ v = 6 ∨ v = 7 ∨ v = 8 ∨ v = 9 ∨ v = 10 ∨ v = 11 ∨ v = 12 ∨ v = 13 ∨ v = 14 ∨ v = 15 := by omega
theorem bC16 {v : Nat} (h : v < 16) : KJ_bitCount μ (nI v) = some (pc (nI v)) := by
  rcases lt16 h with rfl | rfl | rfl | rfl | rfl | rfl | rfl | rfl | rfl | rfl | rfl | rfl | rfl | rfl | rfl | rfl <;> rfl
theorem on16 {S : Type} {s : S} {v : Nat} (h : v < 16) : M_ones s (nI v) = some (pc (nI v)) := by
  have key : ∀ F : Nat, M_ones_L4 s (fun v1_20 => some v1_20) (F + 5) (0 : Int32) (nI v) = some (pc (nI v)) := by
    intro F
    rcases lt16 h with rfl | rfl | rfl | rfl | rfl | rfl | rfl | rfl | rfl | rfl | rfl | rfl | rfl | rfl | rfl | rfl <;> rfl
  unfold M_ones
  rw [show gF = 1048571 + 5 from rfl]
  exact key _
end OPS4
