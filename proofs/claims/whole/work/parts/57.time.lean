/-! how long, from when -/
section TIME
variable {μ ν ν' ν1 : Km} {σ τ τ' τ1 : Ms} {rd tp n b e r p : Nat} {T : Nat → Int32} {tk sg : Int32}
def qTim (p r : Nat) (ν' : Km) (τ' : Ms) : Prop := (kI ν' p 4 = τ'.2 29 r ∧ ibt (τ'.2 29 r) 10000) ∧ (kI ν' p 5 = τ'.2 30 r ∧ (τ'.2 30 r = 0 ∨ τ'.2 30 r = 1 ∨ τ'.2 30 r = 12)) ∧ kI ν' p 6 = τ'.2 31 r ∧ ibt (τ'.2 31 r) 4
def fT (i : Nat) : Prop := i = 4 ∨ i = 5 ∨ i = 6
def gT (k : Nat) : Prop := k = 29 ∨ k = 30 ∨ k = 31
/-- from the unit on -/
theorem time2 (hp1 : p ≠ rd) (hp2 : p ≠ tp) (hk : kK ν p = 3) (hr : r < 192) (h47 : τ.1 47 = nI r) (h : Sy ν τ rd tp n T) {u : Int32} (hu : u = 0 ∨ u = 1 ∨ u = 12) (h4 : kI ν p 4 = τ.2 29 r) (h29 : ibt (τ.2 29 r) 10000) : Out rd tp n T (sKw rd p fT) (sMw r gT) ν τ (K4_readTime_B83 ν u p rd p) (fun τ' => M_readRule_B150 τ u (τ.1 47) = M_readRule_B302 τ') (qTim p r) := by
  have hb := Sy_bad h
  have k4 := Sy_k4 h
  have hum : ¬ u = -1 := by rcases hu with rfl | rfl | rfl <;> decide
  obtain ⟨ν2, τ2, a1, a2, a3, a4, a5⟩ := next_both (Sy_mp (k := 30) (i := r) (x := u) (Sy_kp (i := 5) (x := u) h hp1 hp2) (by decide))
  have hb2 := Sy_bad a3
  have k42 := Sy_k4 a3
  have F2 : kfr (sKw rd p fT) ν2 ν := kfr_c (kfr_mn a4 sub_rd) (kfr_p (Or.inr (Or.inl rfl)))
  have G2 : mfr (sMw r gT) τ2 τ := mfr_c (mfr_mn a5 (sN_le _)) (mfr_p (Or.inr (Or.inl rfl)))
  have h472 := mfr_47 G2 h47
  unfold K4_readTime_B83 M_readRule_B150
  rw [if_pos hk, bnd_eq, if_pos (show kK (kSetI ν p 5 u) rd = 4 from k4), a1, ob_some, if_pos k42, if_pos (ok47 hr h47).1, bnd_eq, (ok47 hr h47).2, if_pos (show (mSto τ 30 r u).1 45 = 0 from hb), if_pos (show okI ((mSto τ 30 r u).1 47) 192 = true from (ok47 hr h47).1), show ((mSto τ 30 r u).1 47).toNatClampNeg = r from (ok47 hr h47).2, mS_sm, if_neg hum]
  unfold M_readRule_B176
  rw [if_pos (show (mSto τ 30 r u).1 45 = 0 from hb), a2, ob_some]
  unfold M_readRule_B187 M_word M_word_B28
  obtain ⟨q, e1, e2⟩ := word_both a3 (j := 8) (by omega)
  rw [e1, e2, ob_some, ob_some, if_pos hb2]
  cases q with
  | false =>
    rw [if_pos (show bI false = 0 by decide), if_pos (show bI false = 0 by decide)]
    obtain ⟨ν3, τ3, b1, b2, b3, b4, b5, b6⟩ := fail_both a3 (f := 1) (by decide)
    have h473 := mfr_47 b5 h472
    rw [b1, b2, bi_some, ob_some, ob_some, readNumbered_bad b3.1, bi_some, if_pos (ok47 hr h473).1, bnd_eq, (ok47 hr h473).2]
    exact ⟨ν3, _, rfl, kfr_c (kfr_mn b4 sub_bd) F2, mfr_c (mfr_p (Or.inr (Or.inr rfl))) (mfr_c (mfr_mn b5 (sN_le _)) G2), Or.inr ⟨rfl, Bad_m b3⟩⟩
  | true =>
    rw [if_neg (show ¬ bI true = 0 by decide), if_neg (show ¬ bI true = 0 by decide)]
    obtain ⟨ν3, τ3, b1, b2, b3, b4, b5⟩ := next_both a3
    have h473 := mfr_47 b5 h472
    have hb3 := Sy_bad b3
    have k43 := Sy_k4 b3
    have F3 : kfr (sKw rd p fT) ν3 ν := kfr_c (kfr_mn b4 sub_rd) F2
    have G3 : mfr (sMw r gT) τ3 τ := mfr_c (mfr_mn b5 (sN_le _)) G2
    obtain ⟨x, n1, n2, n3⟩ := numbered_both b3 (c := 101) (m := 3) (by omega) (by omega)
    have n1' : K4_numbered ν3 rd 101 4 = some x := n1
    have n2' : M_numbered τ3 101 3 = some x := n2
    have kp3 : kK ν3 p = 3 := kfr_k F3 hk
    rw [b1, b2, ob_some, ob_some, ob_some, if_pos k43, n1', ob_some, if_pos kp3, bnd_eq, kI_sm, (ok47 hr h473).2]
    by_cases c : x = -1
    · rw [if_pos c]
      obtain ⟨ν4, τ4, c1, c2, c3, c4, c5, c6⟩ := fail_both (Sy_kp (i := 6) (x := x) b3 hp1 hp2) (f := 1) (by decide)
      rw [c1, bi_some, readNumbered_no (by rw [n2', c]) c2 c3.1, bi_some, if_pos (ok47 hr h473).1, bnd_eq]
      exact ⟨ν4, _, rfl, kfr_c (kfr_mn c4 sub_bd) (kfr_c (kfr_p (Or.inr (Or.inr rfl))) F3), mfr_c (mfr_p (Or.inr (Or.inr rfl))) (mfr_c (mfr_mn c5 (sN_le _)) G3), Or.inr ⟨rfl, Bad_m c3⟩⟩
    · rw [if_neg c]
      obtain ⟨ν4, τ4, c1, c2, c3, c4, c5⟩ := next_both (Sy_kp (i := 6) (x := x) b3 hp1 hp2)
      rw [c1, ob_some, readNumbered_ok hb3 n2' c c2, bi_some, if_pos (ok47 hr h473).1, bnd_eq]
      have i4 : ∀ i, i ≠ 5 → i ≠ 6 → kI ν4 p i = kI ν p i := fun i z1 z2 => by
        rw [c4.2 _ _ (fun z => hp1 z.1), kI_set, if_neg (fun z => z2 z.2), b4.2 _ _ (fun z => hp1 z.1), a4.2 _ _ (fun z => hp1 z.1), kI_set, if_neg (fun z => z1 z.2)]
      have i5 : kI ν4 p 5 = u := by
        rw [c4.2 _ _ (fun z => hp1 z.1), kI_set, if_neg (by omega), b4.2 _ _ (fun z => hp1 z.1), a4.2 _ _ (fun z => hp1 z.1), kI_set, if_pos ⟨rfl, rfl⟩]
      have i6 : kI ν4 p 6 = x := by
        rw [c4.2 _ _ (fun z => hp1 z.1), kI_set, if_pos ⟨rfl, rfl⟩]
      have j29 : (mSto τ4 31 r x).2 29 r = τ.2 29 r := by
        rw [mSto_at, if_neg (by omega), c5.2 _ _ (fun z => z), b5.2 _ _ (fun z => z), a5.2 _ _ (fun z => z), mSto_at, if_neg (by omega)]
      have j30 : (mSto τ4 31 r x).2 30 r = u := by
        rw [mSto_at, if_neg (by omega), c5.2 _ _ (fun z => z), b5.2 _ _ (fun z => z), a5.2 _ _ (fun z => z), mSto_at, if_pos ⟨rfl, rfl⟩]
      have j31 : (mSto τ4 31 r x).2 31 r = x := by rw [mSto_at, if_pos ⟨rfl, rfl⟩]
      refine ⟨ν4, _, rfl, kfr_c (kfr_mn c4 sub_rd) (kfr_c (kfr_p (Or.inr (Or.inr rfl))) F3), mfr_c (mfr_p (Or.inr (Or.inr rfl))) (mfr_c (mfr_mn c5 (sN_le _)) G3), Or.inl ⟨rfl, Sy_mp c3 (by decide), ⟨?_, ?_⟩, ⟨?_, ?_⟩, ?_, ?_⟩⟩
      · rw [j29, i4 4 (by decide) (by decide)]; exact h4
      · rw [j29]; exact h29
      · rw [j30]; exact i5
      · rw [j30]; exact hu
      · rw [j31]; exact i6
      · rw [j31]; exact n3.resolve_left c
theorem time_both (hp1 : p ≠ rd) (hp2 : p ≠ tp) (hk : kK ν p = 3) (hr : r < 192) (h47 : τ.1 47 = nI r) (h : Sy ν τ rd tp n T) : Out rd tp n T (sKw rd p fT) (sMw r gT) ν τ (K4_readTime ν rd p) (fun τ' => M_readRule_B86 τ = M_readRule_B302 τ') (qTim p r) := by
  have hb := Sy_bad h
  have k4 := Sy_k4 h
  unfold K4_readTime M_readRule_B86
  rw [if_pos k4, (ok47 hr h47).2]
  rcases number_both h with ⟨v, v1, v2, v3, v4⟩ | ⟨ν1, τ1, a1, a2, a3, a4, a5, a6⟩
  · obtain ⟨ν2, τ2, a1, a2, a3, a4, a5⟩ := next_both (Sy_kp (i := 4) (x := v) h hp1 hp2)
    have s3 : Sy ν2 (mSto τ2 29 r v) rd tp n T := Sy_mp a3 (by decide)
    have k42 := Sy_k4 a3
    have F2 : kfr (sKw rd p fT) ν2 ν := kfr_c (kfr_mn a4 sub_rd) (kfr_p (Or.inl rfl))
    have G2 : mfr (sMw r gT) (mSto τ2 29 r v) τ := mfr_c (mfr_p (Or.inl rfl)) (mfr_mn a5 (sN_le _))
    have h472 : (mSto τ2 29 r v).1 47 = nI r := mfr_47 G2 h47
    have kp2 : kK ν2 p = 3 := kfr_k F2 hk
    have i4 : kI ν2 p 4 = (mSto τ2 29 r v).2 29 r := by rw [a4.2 _ _ (fun z => hp1 z.1), kI_set, if_pos ⟨rfl, rfl⟩, mSto_at, if_pos ⟨rfl, rfl⟩]
    have i29 : ibt ((mSto τ2 29 r v).2 29 r) 10000 := by rw [mSto_at, if_pos ⟨rfl, rfl⟩]; exact v1
    have go : ∀ u : Int32, (u = 0 ∨ u = 1 ∨ u = 12) → Out rd tp n T (sKw rd p fT) (sMw r gT) ν τ (K4_readTime_B83 ν2 u p rd p) (fun τ' => M_readRule_B150 (mSto τ2 29 r v) u ((mSto τ2 29 r v).1 47) = M_readRule_B302 τ') (qTim p r) := by
      intro u hu
      obtain ⟨ν4, τ4, m1, m2, m3, m4⟩ := time2 hp1 hp2 kp2 hr h472 s3 hu i4 i29
      exact ⟨ν4, τ4, m1, kfr_c m2 F2, mfr_c m3 G2, m4⟩
    rw [v2, bi_some, if_neg (show ¬ (1 : Int32) = 0 by decide), if_pos k4, v3, ob_some, if_pos hk, bnd_eq, a1, ob_some, if_pos k42, v4 τ2 a2, bi_some, if_pos (ok47 hr h47).1, bnd_eq]
    obtain ⟨b, e, tk, sg, g⟩ := id s3
    have w5 := M_isWord_eq (wOk_sW 5 (by omega)) g
    have w6 := M_isWord_eq (wOk_sW 6 (by omega)) g
    have w7 := M_isWord_eq (wOk_sW 7 (by omega)) g
    have u5 : K4_isWord ν2 rd (sW 17) = some (bI (wM T b e tk (sW 5))) := K_isWord_eq (wOk_sW 5 (by omega)) g
    have u6 : K4_isWord ν2 rd (sW 18) = some (bI (wM T b e tk (sW 6))) := K_isWord_eq (wOk_sW 6 (by omega)) g
    have u7 : K4_isWord ν2 rd (sW 19) = some (bI (wM T b e tk (sW 7))) := K_isWord_eq (wOk_sW 7 (by omega)) g
    have x56 : ¬ (wM T b e tk (sW 5) = true ∧ wM T b e tk (sW 6) = true) := fun z => absurd (wM_len z.1 z.2) (by decide)
    have x57 : ¬ (wM T b e tk (sW 5) = true ∧ wM T b e tk (sW 7) = true) := fun z => absurd (wM_len z.1 z.2) (by decide)
    have x67 : ¬ (wM T b e tk (sW 6) = true ∧ wM T b e tk (sW 7) = true) := fun z => absurd (wM_len z.1 z.2) (by decide)
    unfold K4_readTime_B54
    rw [if_pos k42, u5, u6, u7, w5, w6, w7]
    simp only [ob_some]
    cases c5 : wM T b e tk (sW 5) with
    | true =>
      have c6 : wM T b e tk (sW 6) = false := by cases q : wM T b e tk (sW 6) with
        | false => rfl
        | true => exact absurd ⟨c5, q⟩ x56
      have c7 : wM T b e tk (sW 7) = false := by cases q : wM T b e tk (sW 7) with
        | false => rfl
        | true => exact absurd ⟨c5, q⟩ x57
      rw [c6, c7, if_neg (show ¬ bI true = 0 by decide), if_neg (show ¬ bI true = 0 by decide), if_pos (show bI false = 0 by decide), if_pos (show bI false = 0 by decide)]
      exact go 0 (Or.inl rfl)
    | false =>
      rw [if_pos (show bI false = 0 by decide), if_pos (show bI false = 0 by decide)]
      cases c6 : wM T b e tk (sW 6) with
      | true =>
        have c7 : wM T b e tk (sW 7) = false := by cases q : wM T b e tk (sW 7) with
          | false => rfl
          | true => exact absurd ⟨c6, q⟩ x67
        simp only [c7, if_neg (show ¬ bI true = 0 by decide), if_pos (show bI false = 0 by decide)]
        exact go 1 (Or.inr (Or.inl rfl))
      | false =>
        rw [if_pos (show bI false = 0 by decide), if_pos (show bI false = 0 by decide)]
        cases c7 : wM T b e tk (sW 7) with
        | true =>
          simp only [if_neg (show ¬ bI true = 0 by decide)]
          exact go 12 (Or.inr (Or.inr rfl))
        | false =>
          rw [if_pos (show bI false = 0 by decide), if_pos (show bI false = 0 by decide)]
          obtain ⟨ν3, τ3, b1, b2, b3, b4, b5, b6⟩ := fail_both (Sy_mp (k := 30) (i := r) (x := -1) s3 (by decide)) (f := 1) (by decide)
          have h473 := mfr_47 b5 (show (mSto (mSto τ2 29 r v) 30 r (-1)).1 47 = nI r from h472)
          rw [b1, bi_some]
          unfold M_readRule_B150
          rw [if_pos (ok47 hr h472).1, bnd_eq, (ok47 hr h472).2, if_pos (show (mSto (mSto τ2 29 r v) 30 r (-1)).1 45 = 0 from Sy_bad s3), if_pos (show okI ((mSto (mSto τ2 29 r v) 30 r (-1)).1 47) 192 = true from (ok47 hr h472).1), show ((mSto (mSto τ2 29 r v) 30 r (-1)).1 47).toNatClampNeg = r from (ok47 hr h472).2, mS_sm, if_pos rfl, b2, ob_some, B176_bad hr h473 b3.1]
          exact ⟨ν3, _, rfl, kfr_c (kfr_mn b4 sub_bd) F2, mfr_c (mfr_p (Or.inr (Or.inr rfl))) (mfr_c (mfr_mn b5 (sN_le _)) (mfr_c (mfr_p (Or.inr (Or.inl rfl))) G2)), Or.inr ⟨rfl, Bad_m b3⟩⟩
  · have h471 := mfr_47 a5 h47
    rw [a1, a2, bi_some, bi_some, if_pos rfl, if_pos (ok47 hr h47).1, bnd_eq, isWord_bad (τ := mSto τ1 29 r 0) a3.1, ob_some, if_pos rfl, isWord_bad (τ := mSto τ1 29 r 0) a3.1, ob_some, if_pos rfl, isWord_bad (τ := mSto τ1 29 r 0) a3.1, ob_some, if_pos rfl, B150_bad (τ := mSto τ1 29 r 0) hr h471 a3.1]
    exact ⟨ν1, _, rfl, kfr_mn a4 sub_bd, mfr_c (mfr_p (Or.inr (Or.inr rfl))) (mfr_c (mfr_p (Or.inr (Or.inl rfl))) (mfr_c (mfr_p (Or.inl rfl)) (mfr_mn a5 (sN_le _)))), Or.inr ⟨rfl, Bad_m (Bad_m (Bad_m a3))⟩⟩
end TIME
