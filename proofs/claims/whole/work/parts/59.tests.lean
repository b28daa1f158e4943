/-! the tests of a rule; its rank -/
section TESTS
variable {μ ν ν' ν1 : Km} {σ τ τ' τ1 : Ms} {rd tp n b e r p : Nat} {T : Nat → Int32} {tk sg : Int32}
def rob (ν : Km) (p : Nat) : Prop := kK ν p = 3 ∧ (kR ν p 9 = some (p + 1) ∧ kR ν p 10 = some (p + 2) ∧ kR ν p 11 = some (p + 3)) ∧ (kK ν (p + 1) = 12 ∧ kN ν (p + 1) = 4) ∧ (kK ν (p + 2) = 13 ∧ kN ν (p + 2) = 4) ∧ kK ν (p + 3) = 12 ∧ kN ν (p + 3) = 4
theorem rob_fr {S : Nat → Nat → Prop} (h : rob ν p) (hk : kfr S ν' ν) : rob ν' p := by
  unfold rob
  rw [hk.1.1, hk.1.2.1, hk.1.2.2.1]
  exact h
def sKt (rd p : Nat) : Nat → Nat → Prop := fun b i => (b = rd ∧ 2 ≤ i ∧ i ≤ 6) ∨ (b = p ∧ i = 8) ∨ b = p + 1 ∨ b = p + 2 ∨ b = p + 3
def sMt (r : Nat) : Nat → Nat → Prop := fun k j => (k = 34 ∧ j = r) ∨ (35 ≤ k ∧ k ≤ 37 ∧ j / 4 = r)
theorem sut_rd : ∀ b i, sRd rd b i → sKt rd p b i := fun b i z => Or.inl ⟨z.1, by have := z.2; omega⟩
theorem sut_bd : ∀ b i, sBd rd b i → sKt rd p b i := fun b i z => Or.inl ⟨z.1, by have := z.2; omega⟩
def tQ (p r i : Nat) (ν : Km) (τ : Ms) : Prop := kI ν p 8 = nI i ∧ τ.2 34 r = nI i ∧ ∀ e, e < i → (kI ν (p + 1) e = τ.2 35 (4 * r + e) ∧ ibt (τ.2 35 (4 * r + e)) 4) ∧ (kI ν (p + 2) e = τ.2 37 (4 * r + e) ∧ (τ.2 37 (4 * r + e) = 0 ∨ τ.2 37 (4 * r + e) = 1)) ∧ kI ν (p + 3) e = τ.2 36 (4 * r + e) ∧ ibt (τ.2 36 (4 * r + e)) 10000
def kSm : Ms → Option Ms := fun s => some s
theorem L15_bad {k1 k2 k3 : Ms → Option Ms} (h : ¬ τ.1 45 = 0) (F : Nat) (x : Int32) : M_readTests_L15 k1 k2 k3 (F + 1) τ x = k3 τ := by
  unfold M_readTests_L15
  rw [if_neg h]
def Mnx (FM : Nat) (τ : Ms) : Option Ms := (M_isWord τ (sW 10)).bind (fun r_199 => if r_199 = 0 then M_readTests_L15 kSm kSm kSm FM τ r_199 else (M_step τ).bind (fun s_208 => M_readTests_L15 kSm kSm kSm FM s_208 r_199))
/-- a sign and what stands behind it -/
theorem test2 (hrd : rd < p) (htp : tp < p) (hr : r < 192) {FM i : Nat} (hi : i < 4) (h : Sy ν τ rd tp n T) (ho : rob ν p) (h47 : τ.1 47 = nI r) (hQ : tQ p r i ν τ) {x : Int32} (hx : ibt x 4) {less : Bool} (hl : less = decide (τ.1 41 = 3 ∧ τ.1 42 = nI 60)) : ∃ ν' τ', kfr (sKt rd p) ν' ν ∧ mfr (sMt r) τ' τ ∧ ((K4_readTest_B63 ν rd p x (nI i) = some (1, ν') ∧ Sy ν' τ' rd tp n T ∧ M_readTests_B126 τ (M_readTests_L15 kSm kSm kSm (FM + 1)) kSm kSm kSm x (bI less) = Mnx (FM + 1) τ' ∧ tQ p r (i + 1) ν' τ') ∨ (K4_readTest_B63 ν rd p x (nI i) = some (0, ν') ∧ Bad ν' τ' rd ∧ M_readTests_B126 τ (M_readTests_L15 kSm kSm kSm (FM + 1)) kSm kSm kSm x (bI less) = some τ')) := by
  have hb := Sy_bad h
  have k4 := Sy_k4 h
  obtain ⟨o1, ⟨o2, o3, o4⟩, ⟨o5, o6⟩, ⟨o7, o8⟩, o9, o10⟩ := ho
  have oi := (okI_nI (n := 4) (show i < 2 ^ 31 by omega)).mpr hi
  have ci : (nI i).toNatClampNeg = i := nI_clamp (by omega)
  have s1 : Sy (kSetI ν (p + 1) i x) τ rd tp n T := Sy_kp h (by omega) (by omega)
  have s2 : Sy (kSetI (kSetI ν (p + 1) i x) (p + 2) i (bI less)) τ rd tp n T := Sy_kp s1 (by omega) (by omega)
  obtain ⟨ν3, τ3, a1, a2, a3, a4, a5⟩ := next_both s2
  have hb3 := Sy_bad a3
  have k43 := Sy_k4 a3
  have h473 := mfr_47 a5 h47
  have r34 : τ3.2 34 r = nI i := by rw [a5.2 _ _ (fun z => z)]; exact hQ.2.1
  have F3 : kfr (sKt rd p) ν3 ν := kfr_c (kfr_mn a4 sut_rd) (kfr_c (kfr_st (Or.inr (Or.inr (Or.inr (Or.inl rfl))))) (kfr_st (Or.inr (Or.inr (Or.inl rfl)))))
  have ev : (4 : Int32) * nI r + nI i = nI (4 * r + i) := by rw [show (4 : Int32) = nI 4 from rfl, i_mul, nI_add]
  have o768 := (okI_nI (n := 768) (show 4 * r + i < 2 ^ 31 by omega)).mpr (show 4 * r + i < 768 by omega)
  have c768 : (nI (4 * r + i)).toNatClampNeg = 4 * r + i := nI_clamp (by omega)
  have sg := sign_both s1 (c := 60) (by omega)
  have sg' : K4_isSign (kSetI ν (p + 1) i x) rd 60 = some (bI less) := by rw [hl]; exact sg
  have G3 : mfr (sMt r) (mSto (mSto τ3 35 (4 * r + i) x) 37 (4 * r + i) (bI less)) τ := mfr_c (mfr_st (Or.inr ⟨by omega, by omega, by omega⟩)) (mfr_c (mfr_st (Or.inr ⟨by omega, by omega, by omega⟩)) (mfr_mn a5 (sN_le _)))
  have s3 : Sy ν3 (mSto (mSto τ3 35 (4 * r + i) x) 37 (4 * r + i) (bI less)) rd tp n T := Sy_mp (Sy_mp a3 (by decide)) (by decide)
  unfold K4_readTest_B63 M_readTests_B126
  rw [if_pos o1, o2, ob_some, if_pos o5, o6, if_pos oi, ci, bnd_eq, show kR (kSetI ν (p + 1) i x) p 10 = some (p + 2) from o3, ob_some, if_pos (show kK (kSetI ν (p + 1) i x) rd = 4 from k4), sg', ob_some, if_pos (show kK (kSetI ν (p + 1) i x) (p + 2) = 13 from o7), if_pos (okZ_bI less), show kN (kSetI ν (p + 1) i x) (p + 2) = 4 from o8, if_pos oi, bnd_eq, a1, ob_some, if_pos k43, if_pos hb, a2, ob_some, if_pos (ok47 hr h473).1, (ok47 hr h473).2, h473, r34, ev, bnd_eq, if_pos o768, c768, bnd_eq, if_pos (okZ_bI less), if_pos o768, bnd_eq]
  rcases number_both s3 with ⟨v, v1, v2, v3, v4⟩ | ⟨ν4, τ4, b1, b2, b3, b4, b5, b6⟩
  · have p1 : kK ν3 p = 3 := kfr_k F3 o1
    have p4 : kR ν3 p 11 = some (p + 3) := by rw [F3.1.2.1]; exact o4
    have p9 : kK ν3 (p + 3) = 12 := kfr_k F3 o9
    have p10 : kN ν3 (p + 3) = 4 := by rw [F3.1.2.2.1]; exact o10
    rw [v2, bi_some, if_neg (show ¬ (1 : Int32) = 0 by decide), if_pos p1, p4, ob_some, if_pos k43, v3, ob_some, if_pos p9, p10, if_pos oi, bnd_eq, bnd_eq]
    have i8 : kI (kSetI ν3 (p + 3) i v) p 8 = nI i := by
      rw [kI_set, if_neg (by omega), a4.2 _ _ (fun z => by have := z.1; omega), kI_set, if_neg (by omega), kI_set, if_neg (by omega)]; exact hQ.1
    rw [i8, nI_1]
    have s4 : Sy (kSetI (kSetI ν3 (p + 3) i v) p 8 (nI (i + 1))) (mSto (mSto τ3 35 (4 * r + i) x) 37 (4 * r + i) (bI less)) rd tp n T := Sy_kp (Sy_kp s3 (by omega) (by omega)) (by omega) (by omega)
    obtain ⟨ν5, τ5, c1, c2, c3, c4, c5⟩ := next_both s4
    have h475 := mfr_47 c5 (show (mSto (mSto τ3 35 (4 * r + i) x) 37 (4 * r + i) (bI less)).1 47 = nI r from h473)
    have e34 : (mSto τ5 36 (4 * r + i) v).2 34 r = nI i := by
      rw [mSto_at, if_neg (by omega), c5.2 _ _ (fun z => z), mSto_at, if_neg (by omega), mSto_at, if_neg (by omega)]; exact r34
    rw [c1, ob_some, v4 τ5 c2, bi_some, if_pos o768, bnd_eq, if_pos (show okI ((mSto τ5 36 (4 * r + i) v).1 47) 192 = true from (ok47 hr h475).1), if_pos (show okI ((mSto τ5 36 (4 * r + i) v).1 47) 192 = true from (ok47 hr h475).1), show ((mSto τ5 36 (4 * r + i) v).1 47).toNatClampNeg = r from (ok47 hr h475).2, e34, nI_1, bnd_eq]
    refine ⟨ν5, mSto (mSto τ5 36 (4 * r + i) v) 34 r (nI (i + 1)), kfr_c (kfr_mn c4 sut_rd) (kfr_c (kfr_st (Or.inr (Or.inl ⟨rfl, rfl⟩))) (kfr_c (kfr_st (Or.inr (Or.inr (Or.inr (Or.inr rfl))))) F3)), mfr_c (mfr_st (Or.inl ⟨rfl, rfl⟩)) (mfr_c (mfr_st (Or.inr ⟨by omega, by omega, by omega⟩)) (mfr_c (mfr_mn c5 (sN_le _)) G3)), Or.inl ⟨rfl, Sy_mp (Sy_mp c3 (by decide)) (by decide), rfl, ?_, ?_, ?_⟩⟩
    · rw [c4.2 _ _ (fun z => by have := z.1; omega), kI_set, if_pos ⟨rfl, rfl⟩]
    · rw [mSto_at, if_pos ⟨rfl, rfl⟩]
    · intro e he
      have kI1 : ∀ q j, q ≠ rd → q ≠ p → kI ν5 q j = if q = p + 3 ∧ j = i then v else if q = p + 2 ∧ j = i then bI less else if q = p + 1 ∧ j = i then x else kI ν q j := fun q j z1 z2 => by
        rw [c4.2 _ _ (fun z => z1 z.1), kI_set, if_neg (fun z => z2 z.1), kI_set, a4.2 _ _ (fun z => z1 z.1), kI_set, kI_set]
      have mA1 : ∀ k j, k ≠ 34 → (mSto (mSto τ5 36 (4 * r + i) v) 34 r (nI (i + 1))).2 k j = if k = 36 ∧ j = 4 * r + i then v else if k = 37 ∧ j = 4 * r + i then bI less else if k = 35 ∧ j = 4 * r + i then x else τ.2 k j := fun k j z1 => by
        rw [mSto_at, if_neg (fun z => z1 z.1), mSto_at, c5.2 _ _ (fun z => z), mSto_at, mSto_at, a5.2 _ _ (fun z => z)]
      rw [kI1 (p + 1) e (by omega) (by omega), kI1 (p + 2) e (by omega) (by omega), kI1 (p + 3) e (by omega) (by omega), mA1 35 _ (by decide), mA1 36 _ (by decide), mA1 37 _ (by decide)]
      rw [if_neg (show ¬ (p + 1 = p + 3 ∧ e = i) by omega), if_neg (show ¬ (p + 1 = p + 2 ∧ e = i) by omega), if_neg (show ¬ (p + 2 = p + 3 ∧ e = i) by omega), if_neg (show ¬ (p + 2 = p + 1 ∧ e = i) by omega), if_neg (show ¬ (p + 3 = p + 2 ∧ e = i) by omega), if_neg (show ¬ (p + 3 = p + 1 ∧ e = i) by omega), if_neg (show ¬ (35 = 36 ∧ 4 * r + e = 4 * r + i) by omega), if_neg (show ¬ (35 = 37 ∧ 4 * r + e = 4 * r + i) by omega), if_neg (show ¬ (37 = 36 ∧ 4 * r + e = 4 * r + i) by omega), if_neg (show ¬ (37 = 35 ∧ 4 * r + e = 4 * r + i) by omega), if_neg (show ¬ (36 = 37 ∧ 4 * r + e = 4 * r + i) by omega), if_neg (show ¬ (36 = 35 ∧ 4 * r + e = 4 * r + i) by omega)]
      by_cases ce : e = i
      · subst ce
        rw [if_pos ⟨rfl, rfl⟩, if_pos ⟨rfl, rfl⟩, if_pos ⟨rfl, rfl⟩, if_pos ⟨rfl, rfl⟩, if_pos ⟨rfl, rfl⟩, if_pos ⟨rfl, rfl⟩]
        exact ⟨⟨rfl, hx⟩, ⟨rfl, by cases less; exact Or.inl rfl; exact Or.inr rfl⟩, rfl, v1⟩
      · rw [if_neg (fun z => ce z.2), if_neg (fun z => ce (by omega)), if_neg (fun z => ce z.2), if_neg (fun z => ce (by omega)), if_neg (fun z => ce z.2), if_neg (fun z => ce (by omega))]
        exact hQ.2.2 e (by omega)
  · have h474 := mfr_47 b5 (show (mSto (mSto τ3 35 (4 * r + i) x) 37 (4 * r + i) (bI less)).1 47 = nI r from h473)
    have hbm : ∀ y, ¬ (mSto (mSto τ4 36 (4 * r + i) 0) 34 r y).1 45 = 0 := fun y => b3.1
    rw [b1, bi_some, if_pos rfl, b2, bi_some, if_pos o768, bnd_eq, if_pos (show okI ((mSto τ4 36 (4 * r + i) 0).1 47) 192 = true from (ok47 hr h474).1), if_pos (show okI ((mSto τ4 36 (4 * r + i) 0).1 47) 192 = true from (ok47 hr h474).1), show ((mSto τ4 36 (4 * r + i) 0).1 47).toNatClampNeg = r from (ok47 hr h474).2, bnd_eq, isWord_bad (hbm _), ob_some, if_pos rfl]
    unfold M_readTests_B211
    rw [L15_bad (hbm _)]
    exact ⟨ν4, _, kfr_c (kfr_mn b4 sut_bd) F3, mfr_c (mfr_st (Or.inl ⟨rfl, rfl⟩)) (mfr_c (mfr_st (Or.inr ⟨by omega, by omega, by omega⟩)) (mfr_c (mfr_mn b5 (sN_le _)) G3)), Or.inr ⟨rfl, Bad_m (Bad_m b3), rfl⟩⟩
theorem test_both (hrd : rd < p) (htp : tp < p) (hr : r < 192) {FM i : Nat} (hi : i ≤ 4) (h : Sy ν τ rd tp n T) (ho : rob ν p) (h47 : τ.1 47 = nI r) (hQ : tQ p r i ν τ) : ∃ ν' τ', kfr (sKt rd p) ν' ν ∧ mfr (sMt r) τ' τ ∧ ((K4_readTest ν rd p = some (1, ν') ∧ i < 4 ∧ Sy ν' τ' rd tp n T ∧ M_readTests_L15 kSm kSm kSm (FM + 2) τ 1 = Mnx (FM + 1) τ' ∧ tQ p r (i + 1) ν' τ') ∨ (K4_readTest ν rd p = some (0, ν') ∧ Bad ν' τ' rd ∧ M_readTests_L15 kSm kSm kSm (FM + 2) τ 1 = some τ')) := by
  have hb := Sy_bad h
  have k4 := Sy_k4 h
  obtain ⟨x, n1, n2, n3⟩ := numbered_both h (c := 97) (m := 3) (by omega) (by omega)
  have n1' : K4_numbered ν rd 97 4 = some x := n1
  have n2' : M_numbered τ 97 3 = some x := n2
  unfold K4_readTest M_readTests_L15
  rw [if_pos k4, n1', ob_some, if_pos hb, if_neg (show ¬ (1 : Int32) = 0 by decide), n2', ob_some]
  by_cases c : x = -1
  · obtain ⟨ν2, τ2, a1, a2, a3, a4, a5, a6⟩ := fail_both h (f := 1) (by decide)
    unfold M_readTests_B65
    rw [if_pos c, if_pos c, a1, bi_some, a2, ob_some, if_neg a3.1]
    exact ⟨ν2, τ2, kfr_mn a4 sut_bd, mfr_mn a5 (sN_le _), Or.inr ⟨rfl, a3, rfl⟩⟩
  · rw [if_neg c, if_neg c, if_pos ho.1, bnd_eq, hQ.1, if_pos (ok47 hr h47).1, (ok47 hr h47).2, hQ.2.1]
    by_cases c4 : i = 4
    · obtain ⟨ν2, τ2, a1, a2, a3, a4, a5, a6⟩ := fail_both h (f := 2) (by decide)
      unfold M_readTests_B65
      rw [if_neg (show ¬ nI i < (4 : Int32) by rw [c4]; decide), if_pos (show nI i = (4 : Int32) by rw [c4]; rfl), a1, bi_some, a2, ob_some, if_neg a3.1]
      exact ⟨ν2, τ2, kfr_mn a4 sut_bd, mfr_mn a5 (sN_le _), Or.inr ⟨rfl, a3, rfl⟩⟩
    · have hi4 : i < 4 := by omega
      rw [if_pos (show nI i < (4 : Int32) from nI_lt (b := 4) hi4 (by omega)), if_neg (show ¬ nI i = (4 : Int32) from fun z => c4 ((nI_eq (b := 4) (by omega) (by omega)).mp z))]
      obtain ⟨ν2, τ2, a1, a2, a3, a4, a5⟩ := next_both h
      have k42 := Sy_k4 a3
      have hb2 := Sy_bad a3
      have h472 := mfr_47 a5 h47
      have sg1 : K4_isSign ν2 rd 61 = _ := sign_both a3 (c := 61) (by omega)
      have sg2 : K4_isSign ν2 rd 60 = _ := sign_both a3 (c := 60) (by omega)
      have Q2 : tQ p r i ν2 τ2 := by
        refine ⟨?_, ?_, fun e he => ?_⟩
        · rw [a4.2 _ _ (fun z => by have := z.1; omega)]; exact hQ.1
        · rw [a5.2 _ _ (fun z => z)]; exact hQ.2.1
        · rw [a4.2 _ _ (fun z => by have := z.1; omega), a4.2 _ _ (fun z => by have := z.1; omega), a4.2 _ _ (fun z => by have := z.1; omega), a5.2 _ _ (fun z => z), a5.2 _ _ (fun z => z), a5.2 _ _ (fun z => z)]
          exact hQ.2.2 e he
      have go := test2 (FM := FM) hrd htp hr hi4 a3 (rob_fr ho a4) h472 Q2 (n3.resolve_left c) rfl
      unfold M_readTests_B65 M_readTests_B98 M_readTests_B99 M_readTests_B121
      rw [a1, ob_some, if_pos k42, sg1, sg2, ob_some, ob_some, if_pos hb, a2, ob_some]
      by_cases d1 : τ2.1 41 = 3
      · by_cases d2 : τ2.1 42 = nI 60
        · have d3 : ¬ τ2.1 42 = nI 61 := by rw [d2]; decide
          rw [decide_eq_true (show τ2.1 41 = 3 ∧ τ2.1 42 = nI 60 from ⟨d1, d2⟩)] at go ⊢
          rw [decide_eq_false (show ¬ (τ2.1 41 = 3 ∧ τ2.1 42 = nI 61) from fun z => d3 z.2), if_pos (show bI false = 0 by decide), if_neg (show ¬ bI true = 0 by decide), if_pos d1, if_pos (show τ2.1 42 = (60 : Int32) from d2), if_neg (show ¬ (1 : Int32) = 0 by decide)]
          obtain ⟨ν3, τ3, m1, m2, m3⟩ := go
          refine ⟨ν3, τ3, kfr_c m1 (kfr_mn a4 sut_rd), mfr_c m2 (mfr_mn a5 (sN_le _)), ?_⟩
          rcases m3 with ⟨w1, w2, w3, w4⟩ | w
          · exact Or.inl ⟨w1, hi4, w2, w3, w4⟩
          · exact Or.inr w
        · rw [decide_eq_false (show ¬ (τ2.1 41 = 3 ∧ τ2.1 42 = nI 60) from fun z => d2 z.2)] at go ⊢
          by_cases d3 : τ2.1 42 = nI 61
          · rw [decide_eq_true (show τ2.1 41 = 3 ∧ τ2.1 42 = nI 61 from ⟨d1, d3⟩), if_neg (show ¬ bI true = 0 by decide), if_pos d1, if_neg (show ¬ τ2.1 42 = (60 : Int32) from d2), if_pos (show (0 : Int32) = 0 from rfl), if_pos d1, if_pos (show τ2.1 42 = (61 : Int32) from d3)]
            obtain ⟨ν3, τ3, m1, m2, m3⟩ := go
            refine ⟨ν3, τ3, kfr_c m1 (kfr_mn a4 sut_rd), mfr_c m2 (mfr_mn a5 (sN_le _)), ?_⟩
            rcases m3 with ⟨w1, w2, w3, w4⟩ | w
            · exact Or.inl ⟨w1, hi4, w2, w3, w4⟩
            · exact Or.inr w
          · obtain ⟨ν3, τ3, b1, b2, b3, b4, b5, b6⟩ := fail_both a3 (f := 1) (by decide)
            rw [decide_eq_false (show ¬ (τ2.1 41 = 3 ∧ τ2.1 42 = nI 61) from fun z => d3 z.2), if_pos (show bI false = 0 by decide), if_pos (show bI false = 0 by decide), b1, bi_some, if_pos d1, if_neg (show ¬ τ2.1 42 = (60 : Int32) from d2), if_pos (show (0 : Int32) = 0 from rfl), if_pos d1, if_neg (show ¬ τ2.1 42 = (61 : Int32) from d3), b2, ob_some]
            unfold M_readTests_B126
            rw [if_neg b3.1]
            exact ⟨ν3, τ3, kfr_c (kfr_mn b4 sut_bd) (kfr_mn a4 sut_rd), mfr_c (mfr_mn b5 (sN_le _)) (mfr_mn a5 (sN_le _)), Or.inr ⟨rfl, b3, rfl⟩⟩
      · obtain ⟨ν3, τ3, b1, b2, b3, b4, b5, b6⟩ := fail_both a3 (f := 1) (by decide)
        rw [decide_eq_false (show ¬ (τ2.1 41 = 3 ∧ τ2.1 42 = nI 61) from fun z => d1 z.1), decide_eq_false (show ¬ (τ2.1 41 = 3 ∧ τ2.1 42 = nI 60) from fun z => d1 z.1), if_pos (show bI false = 0 by decide), if_pos (show bI false = 0 by decide), b1, bi_some, if_neg d1, if_pos (show (0 : Int32) = 0 from rfl), if_neg d1, b2, ob_some]
        unfold M_readTests_B126
        rw [if_neg b3.1]
        exact ⟨ν3, τ3, kfr_c (kfr_mn b4 sut_bd) (kfr_mn a4 sut_rd), mfr_c (mfr_mn b5 (sN_le _)) (mfr_mn a5 (sN_le _)), Or.inr ⟨rfl, b3, rfl⟩⟩
end TESTS
