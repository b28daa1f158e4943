section FEED
variable {a0 : Nat} {μ ν : Km} {σ σ' : Ms} {B : Nat → Nat → Nat → Nat} {tg : Nat → Nat × Nat × Nat} {nT nS nH nP nw nL : Nat} {A : Ar}
theorem and255_8 (x : Int32) : (x &&& 255).toInt8 = x.toInt8 := by
  rw [Int32.toInt8_and, show (255 : Int32).toInt8 = -1 by decide]
  simp
theorem mInv_set7 (h : mInv σ nT nS nH nP nw nL) {n : Nat} (hn : n ≤ 1000) : mInv (mSet σ 7 (nI n)) nT nS nH n nw nL := by
  obtain ⟨⟨c1, c2, c3, c4, c5, c6, c7, c8, c9⟩, h2, h3⟩ := h
  exact ⟨⟨c1, c2, c3, c4, c5, c6, rfl, hn, c9⟩, h2, h3⟩
theorem byte_step (h : RepB a0 μ σ B tg nT nS nH nP nw nL) (hp : nP < 1000) (x : Int32) : RepB a0 (kSetI (kSetI μ (B 0 0 0) nP (vp_nar .byte (x.toInt8.toInt32))) a0 1 (nI (nP + 1))) (mSet (mSto σ 38 nP (x &&& 255)) 7 (nI (nP + 1))) B tg nT nS nH (nP + 1) nw nL := by
  have hx : ibt (x &&& 255) 256 := by
    obtain ⟨j, hj, e⟩ := pk_andE x (m := 255) 8 (by decide)
    exact ⟨j, hj, e⟩
  have h1 := RepB_put (c0 := 0) (i0 := 0) (j0 := 0) (e0 := nP) (x := (x &&& 255).toInt8.toInt32) h (mInv_put (k0 := 38) (j0 := nP) (x := x &&& 255) h.1 (by omega) (fun _ => by rw [mSto_at, if_pos ⟨rfl, rfl⟩]; exact hx)) (sameR_put (by omega)) (mSto_ne _ _ _ _ (by decide)) ⟨by omega, rfl, rfl⟩ hw_38
  rw [and255_8, ← pk_vb] at h1
  have h2 := RepB_put (σ' := mSet (mSto σ 38 nP (x &&& 255)) 7 (nI (nP + 1))) (c0 := 22) (i0 := 0) (j0 := 0) (e0 := 1) (x := nI (nP + 1)) h1 (mInv_set7 h1.1 (by omega)) (fun _ _ _ => rfl) rfl ⟨by omega, rfl, rfl⟩ hv_7
  rw [h.2.1.1] at h2
  exact h2
theorem K_put1 {Rt : Type} {kk : Km → Option Rt} {F s : Nat} {w : Int32} (h : RepB a0 μ σ B tg nT nS nH nP nw nL) (hp : nP < 1000) (hs : s < 32) : K9_putOnTape_L3 a0 w kk (F + 1) μ (nI s) = K9_putOnTape_L3 a0 w kk F (kSetI (kSetI μ (B 0 0 0) nP (vp_nar .byte ((w >>> (nI s &&& 31)).toInt8.toInt32))) a0 1 (nI (nP + 1))) (nI s + (-8)) := by
  have e0 : kR μ a0 0 = some (B 0 0 0) := h.r (by omega)
  have k0 : kK μ (B 0 0 0) = 11 := (h.one (c := 0) (by omega)).1
  have n0 : kN μ (B 0 0 0) = 1000 := (h.one (c := 0) (by omega)).2
  have hne : a0 ≠ B 0 0 0 := fun z => by have q1 := h.k9; rw [z, k0] at q1; cases q1
  conv => lhs; unfold K9_putOnTape_L3
  rw [if_neg (nI_pos (by omega)), if_pos h.k9, h.i1, show (1000 : Int32) = nI 1000 from rfl, if_neg (nI_ge hp (by omega)), e0, ob_some, if_pos k0, n0, if_pos ((okI_nI (by omega)).mpr hp), nI_clamp (by omega), bnd_eq, bnd_eq, kI_set, if_neg (fun z => hne z.1), h.i1, nI_1]
def fwd (a1 a2 a3 a4 a5 : Int32) (l : Nat) : Int32 := if l < 4 then a1 else if l < 8 then a2 else if l < 12 then a3 else if l < 16 then a4 else a5
theorem fwd_4 {a1 a2 a3 a4 a5 : Int32} {g i : Nat} (hi : i < 4) : fwd a1 a2 a3 a4 a5 (4 * g + i) = fwd a1 a2 a3 a4 a5 (4 * g) := by
  unfold fwd
  by_cases c1 : g < 1
  · rw [if_pos (by omega), if_pos (by omega)]
  · rw [if_neg (by omega), if_neg (show ¬ 4 * g < 4 by omega)]
    by_cases c2 : g < 2
    · rw [if_pos (by omega), if_pos (by omega)]
    · rw [if_neg (by omega), if_neg (show ¬ 4 * g < 8 by omega)]
      by_cases c3 : g < 3
      · rw [if_pos (by omega), if_pos (by omega)]
      · rw [if_neg (by omega), if_neg (show ¬ 4 * g < 12 by omega)]
        by_cases c4 : g < 4
        · rw [if_pos (by omega), if_pos (by omega)]
        · rw [if_neg (by omega), if_neg (by omega)]
theorem M_feed1 {Rt : Type} {kk : Ms → Option Rt} {a1 a2 a3 a4 a5 : Int32} {F l : Nat} (hl : l < 20) (hp : nP < 1000) (e7 : σ.1 7 = nI nP) : M_feed_L23 a1 a2 a3 a4 a5 kk (F + 1) σ (nI l) = M_feed_L23 a1 a2 a3 a4 a5 kk F (mSet (mSto σ 38 nP ((fwd a1 a2 a3 a4 a5 l >>> (nI (24 - 8 * (l % 4)) &&& 31)) &&& 255)) 7 (nI (nP + 1))) (nI (l + 1)) := by
  have hB : ∀ w : Int32, M_feed_B76 σ (M_feed_L23 a1 a2 a3 a4 a5 kk F) kk w a1 a2 a3 a4 a5 (nI l) = M_feed_L23 a1 a2 a3 a4 a5 kk F (mSet (mSto σ 38 nP ((w >>> (nI (24 - 8 * (l % 4)) &&& 31)) &&& 255)) 7 (nI (nP + 1))) (nI (l + 1)) := by
    intro w
    unfold M_feed_B76
    rw [e7, if_pos ((okI_nI (by omega)).mpr hp), nI_clamp (by omega), bnd_eq, bnd_eq, mSto_1, e7, nI_1, nI_1, show (4 : Int32) = nI 4 from rfl, pk_rem (by omega) (by omega) (by omega), show (8 : Int32) = nI 8 from rfl, pk_mul, show (24 : Int32) = nI 24 from rfl, pk_sub (by omega)]
  conv => lhs; unfold M_feed_L23
  rw [hB, hB, hB, hB, hB]
  unfold fwd
  rw [show (20 : Int32) = nI 20 from rfl, if_neg (nI_ge hl (by omega)), show (4 : Int32) = nI 4 from rfl, show (8 : Int32) = nI 8 from rfl, show (12 : Int32) = nI 12 from rfl, show (16 : Int32) = nI 16 from rfl]
  by_cases c1 : l < 4
  · rw [if_neg (nI_ge c1 (by omega)), if_pos c1]
  · rw [if_pos (nI_le (by omega) (by omega)), if_neg c1]
    by_cases c2 : l < 8
    · rw [if_neg (nI_ge c2 (by omega)), if_pos c2]
    · rw [if_pos (nI_le (by omega) (by omega)), if_neg c2]
      by_cases c3 : l < 12
      · rw [if_neg (nI_ge c3 (by omega)), if_pos c3]
      · rw [if_pos (nI_le (by omega) (by omega)), if_neg c3]
        by_cases c4 : l < 16
        · rw [if_neg (nI_ge c4 (by omega)), if_pos c4]
        · rw [if_pos (nI_le (by omega) (by omega)), if_neg c4]
theorem feed_word {a1 a2 a3 a4 a5 : Int32} {g : Nat} (hg : g < 5) (h : RepB a0 μ σ B tg nT nS nH nP nw nL) (hp : nP + 4 ≤ 1000) : ∃ μ' σ', K9_putOnTape μ a0 (fwd a1 a2 a3 a4 a5 (4 * g)) = some μ' ∧ (∀ {Rt : Type} (kk : Ms → Option Rt) (F : Nat), M_feed_L23 a1 a2 a3 a4 a5 kk (F + 4) σ (nI (4 * g)) = M_feed_L23 a1 a2 a3 a4 a5 kk F σ' (nI (4 * g + 4))) ∧ RepB a0 μ' σ' B tg nT nS nH (nP + 4) nw nL := by
  generalize hw : fwd a1 a2 a3 a4 a5 (4 * g) = w
  have h1 := byte_step h (by omega) (w >>> (nI 24 &&& 31))
  have h2 := byte_step h1 (by omega) (w >>> (nI 16 &&& 31))
  have h3 := byte_step h2 (by omega) (w >>> (nI 8 &&& 31))
  have h4 := byte_step h3 (by omega) (w >>> (nI 0 &&& 31))
  refine ⟨_, _, ?_, fun {Rt} kk F => ?_, h4⟩
  · unfold K9_putOnTape
    rw [show gF = 1048571 + 1 + 1 + 1 + 1 + 1 from rfl, show (24 : Int32) = nI 24 from rfl, K_put1 h (by omega) (by omega), show nI 24 + (-8) = nI 16 by decide, K_put1 h1 (by omega) (by omega), show nI 16 + (-8) = nI 8 by decide, K_put1 h2 (by omega) (by omega), show nI 8 + (-8) = nI 0 by decide, K_put1 h3 (by omega) (by omega)]
    conv => lhs; unfold K9_putOnTape_L3
    rw [if_pos (by decide)]
    rfl
  · have f1 := fwd_4 (a1 := a1) (a2 := a2) (a3 := a3) (a4 := a4) (a5 := a5) (g := g) (i := 1) (by omega)
    have f2 := fwd_4 (a1 := a1) (a2 := a2) (a3 := a3) (a4 := a4) (a5 := a5) (g := g) (i := 2) (by omega)
    have f3 := fwd_4 (a1 := a1) (a2 := a2) (a3 := a3) (a4 := a4) (a5 := a5) (g := g) (i := 3) (by omega)
    have c7 : ∀ {ν : Km} {τ : Ms} {n : Nat}, RepB a0 ν τ B tg nT nS nH n nw nL → τ.1 7 = nI n := fun q => q.1.1.2.2.2.2.2.2.1
    rw [show F + 4 = F + 1 + 1 + 1 + 1 from rfl, M_feed1 (by omega) (by omega) (c7 h), hw, show (4 * g) % 4 = 0 by omega]
    rw [M_feed1 (by omega) (by omega) (c7 h1), f1, hw, show (4 * g + 1) % 4 = 1 by omega]
    rw [show 4 * g + 1 + 1 = 4 * g + 2 by omega, M_feed1 (by omega) (by omega) (c7 h2), f2, hw, show (4 * g + 2) % 4 = 2 by omega]
    rw [show 4 * g + 2 + 1 = 4 * g + 3 by omega, M_feed1 (by omega) (by omega) (c7 h3), f3, hw, show (4 * g + 3) % 4 = 3 by omega]
theorem op_feed_ok : op_feed (Rep a0) a0 := by
  rintro μ σ a1 a2 a3 a4 a5 ⟨B, tg, nT, nS, nH, nP, nw, nL, h⟩
  have h0 := RepB_code h 0
  have hP : nP ≤ 1000 := h.1.1.2.2.2.2.2.2.2.1
  have e7 : (mSet σ 0 0).1 7 = nI nP := h.1.1.2.2.2.2.2.2.1
  unfold K9_feed M_feed
  rw [if_pos h.k9, h.i1, bnd_eq, e7, show (20 : Int32) = nI 20 from rfl, nI_add, show (1000 : Int32) = nI 1000 from rfl]
  by_cases c : nP + 20 ≤ 1000
  · rw [if_pos (nI_le c (by omega)), if_pos (nI_le c (by omega))]
    obtain ⟨μ1, σ1, k1, m1, h1⟩ := feed_word (a1 := a1) (a2 := a2) (a3 := a3) (a4 := a4) (a5 := a5) (g := 0) (by omega) h0 (by omega)
    obtain ⟨μ2, σ2, k2, m2, h2⟩ := feed_word (a1 := a1) (a2 := a2) (a3 := a3) (a4 := a4) (a5 := a5) (g := 1) (by omega) h1 (by omega)
    obtain ⟨μ3, σ3, k3, m3, h3⟩ := feed_word (a1 := a1) (a2 := a2) (a3 := a3) (a4 := a4) (a5 := a5) (g := 2) (by omega) h2 (by omega)
    obtain ⟨μ4, σ4, k4, m4, h4⟩ := feed_word (a1 := a1) (a2 := a2) (a3 := a3) (a4 := a4) (a5 := a5) (g := 3) (by omega) h3 (by omega)
    obtain ⟨μ5, σ5, k5, m5, h5⟩ := feed_word (a1 := a1) (a2 := a2) (a3 := a3) (a4 := a4) (a5 := a5) (g := 4) (by omega) h4 (by omega)
    rw [show fwd a1 a2 a3 a4 a5 (4 * 0) = a1 from rfl] at k1
    rw [show fwd a1 a2 a3 a4 a5 (4 * 1) = a2 from rfl] at k2
    rw [show fwd a1 a2 a3 a4 a5 (4 * 2) = a3 from rfl] at k3
    rw [show fwd a1 a2 a3 a4 a5 (4 * 3) = a4 from rfl] at k4
    rw [show fwd a1 a2 a3 a4 a5 (4 * 4) = a5 from rfl] at k5
    refine ⟨nI (nP + 4 + 4 + 4 + 4 + 4), μ5, σ5, ?_, ?_, h5.rep⟩
    · rw [k1, ob_some, if_pos h1.k9, k2, ob_some, if_pos h2.k9, k3, ob_some, if_pos h3.k9, k4, ob_some, if_pos h4.k9, k5, ob_some, if_pos h5.k9, h5.i1]
    · rw [show gF = 1048555 + 1 + 4 + 4 + 4 + 4 + 4 from rfl, show (0 : Int32) = nI (4 * 0) from rfl]
      rw [show M_feed_L23 a1 a2 a3 a4 a5 (fun s_120 => some (s_120.1 7, s_120)) (1048555 + 1 + 4 + 4 + 4 + 4 + 4) (mSet σ 0 (nI (4 * 0))) (nI (4 * 0)) = M_feed_L23 a1 a2 a3 a4 a5 (fun s_120 => some (s_120.1 7, s_120)) (1048555 + 1 + 4 + 4 + 4 + 4) σ1 (nI (4 * 1)) from m1 _ _, m2, show 4 * 1 + 4 = 4 * 2 from rfl, m3, show 4 * 2 + 4 = 4 * 3 from rfl, m4, show 4 * 3 + 4 = 4 * 4 from rfl, m5]
      conv => lhs; unfold M_feed_L23
      rw [if_pos (by decide)]
      rw [show σ5.1 7 = nI (nP + 4 + 4 + 4 + 4 + 4) from h5.1.1.2.2.2.2.2.2.1]
  · rw [if_neg (nI_ge (by omega) (by omega)), if_neg (nI_ge (by omega) (by omega))]
    exact ⟨-1, μ, mSet σ 0 0, rfl, rfl, h0.rep⟩
end FEED
