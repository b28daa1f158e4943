/-! all tests, the rank, the end of a rule -/
section TAIL
variable {μ ν ν' ν1 : Km} {σ τ τ' τ1 : Ms} {rd tp n b e r p : Nat} {T : Nat → Int32} {tk sg : Int32}
def kF0 : Km → Option (Int32 × Km) := fun s_30 => some ((0 : Int32), s_30)
def kF1 : Km → Option (Int32 × Km) := fun s_45 => K4_readTests_B45 s_45
def Mif (FM : Nat) (τ : Ms) (q : Bool) : Option Ms := if bI q = 0 then M_readTests_L15 kSm kSm kSm FM τ (bI q) else (M_step τ).bind (fun s_208 => M_readTests_L15 kSm kSm kSm FM s_208 (bI q))
theorem tests_L (hrd : rd < p) (htp : tp < p) (hr : r < 192) : ∀ (F FM i : Nat) (ν : Km) (τ : Ms) (q : Bool), 5 < F + i → 8 < FM + i → i ≤ 4 → Sy ν τ rd tp n T → rob ν p → τ.1 47 = nI r → tQ p r i ν τ → Out rd tp n T (sKt rd p) (sMt r) ν τ (K4_readTests_L9 rd p kF0 kF1 F ν (bI q) (nI i)) (fun τ' => Mif FM τ q = some τ') (fun ν' τ' => ∃ i', i' ≤ 4 ∧ tQ p r i' ν' τ') := by
  intro F
  induction F with
  | zero => intro FM i ν τ q h1 h2 h3; omega
  | succ F ih =>
    intro FM i ν τ q h1 h2 h3 h ho h47 hQ
    have hb := Sy_bad h
    have k4 := Sy_k4 h
    unfold K4_readTests_L9 Mif
    rw [if_neg (show ¬ (4 : Int32) < nI i from fun z => i_le_n (nI_le (b := 4) h3 (by omega)) z)]
    cases q with
    | false =>
      obtain ⟨FM', rfl⟩ : ∃ FM', FM = FM' + 1 := ⟨FM - 1, by omega⟩
      rw [if_pos (show bI false = 0 by decide), if_pos (show bI false = 0 by decide)]
      unfold M_readTests_L15
      rw [if_pos hb, if_pos (show bI false = 0 by decide)]
      exact ⟨ν, τ, rfl, kfr_rf _ _, mfr_rf _ _, Or.inl ⟨rfl, h, i, h3, hQ⟩⟩
    | true =>
      obtain ⟨FM', rfl⟩ : ∃ FM', FM = FM' + 2 := ⟨FM - 2, by omega⟩
      obtain ⟨ν2, τ2, a1, a2, a3, a4, a5⟩ := next_both h
      have k42 := Sy_k4 a3
      have h472 := mfr_47 a5 h47
      have Q2 : tQ p r i ν2 τ2 := by
        refine ⟨?_, ?_, fun e he => ?_⟩
        · rw [a4.2 _ _ (fun z => by have := z.1; omega)]; exact hQ.1
        · rw [a5.2 _ _ (fun z => z)]; exact hQ.2.1
        · rw [a4.2 _ _ (fun z => by have := z.1; omega), a4.2 _ _ (fun z => by have := z.1; omega), a4.2 _ _ (fun z => by have := z.1; omega), a5.2 _ _ (fun z => z), a5.2 _ _ (fun z => z), a5.2 _ _ (fun z => z)]
          exact hQ.2.2 e he
      rw [if_neg (show ¬ bI true = 0 by decide), if_neg (show ¬ bI true = 0 by decide), if_pos k4, a1, ob_some, if_pos k42, a2, ob_some, show bI true = 1 from rfl]
      obtain ⟨ν3, τ3, b1, b2, b3⟩ := test_both (FM := FM') hrd htp hr h3 a3 (rob_fr ho a4) h472 Q2
      have F3 : kfr (sKt rd p) ν3 ν := kfr_c b1 (kfr_mn a4 sut_rd)
      have G3 : mfr (sMt r) τ3 τ := mfr_c b2 (mfr_mn a5 (sN_le _))
      rcases b3 with ⟨w1, w2, w3, w4, w5⟩ | ⟨w1, w2, w3⟩
      · obtain ⟨q', e1, e2⟩ := word_both w3 (j := 10) (by omega)
        obtain ⟨ν4, τ4, m1, m2, m3, m4⟩ := ih (FM' + 1) (i + 1) ν3 τ3 q' (by omega) (by omega) (by omega) w3 (rob_fr ho F3) (mfr_47 G3 h47) w5
        unfold Mnx at w4
        rw [e2, ob_some] at w4
        rw [w1, bi_some, if_neg (show ¬ (1 : Int32) = 0 by decide), if_pos (Sy_k4 w3), e1, ob_some, nI_1, w4]
        exact ⟨ν4, τ4, m1, kfr_c m2 F3, mfr_c m3 G3, m4⟩
      · rw [w1, bi_some, if_pos rfl, w3]
        exact ⟨ν3, τ3, rfl, F3, G3, Or.inr ⟨rfl, w2⟩⟩
theorem tests_both (hrd : rd < p) (htp : tp < p) (hr : r < 192) (h : Sy ν τ rd tp n T) (ho : rob ν p) (h47 : τ.1 47 = nI r) (hQ : tQ p r 0 ν τ) : Out rd tp n T (sKt rd p) (sMt r) ν τ (K4_readTests ν rd p) (fun τ' => M_readTests τ = some τ') (fun ν' τ' => ∃ i', i' ≤ 4 ∧ tQ p r i' ν' τ') := by
  obtain ⟨q, e1, e2⟩ := word_both h (j := 9) (by omega)
  obtain ⟨ν4, τ4, m1, m2, m3, m4⟩ := tests_L hrd htp hr gF gF 0 ν τ q (by unfold gF; omega) (by unfold gF; omega) (by omega) h ho h47 hQ
  refine ⟨ν4, τ4, ?_, m2, m3, ?_⟩
  · unfold M_readTests
    rw [e2, ob_some]
    exact m1
  · unfold K4_readTests
    rw [if_pos (Sy_k4 h), e1, ob_some]
    exact m4
def fR (i : Nat) : Prop := i = 7
def gR (k : Nat) : Prop := k = 33
def Mrk (τ : Ms) : Option Ms := (M_isWord τ (sW 11)).bind (fun r_310 => if r_310 = 0 then M_readRule_B333 τ else (M_step τ).bind (fun s_317 => bi (M_readNumber s_317) (fun r_329 s_329 => if okI (s_317.1 47) 192 = true then bnd (mSto s_329 33 (s_317.1 47).toNatClampNeg r_329) (fun s_332 => M_readRule_B333 s_332) else none)))
theorem rank_both (hp1 : p ≠ rd) (hp2 : p ≠ tp) (hk : kK ν p = 3) (hr : r < 192) (h47 : τ.1 47 = nI r) (h : Sy ν τ rd tp n T) (hI : kI ν p 7 = 0) (hA : τ.2 33 r = 0) : Out rd tp n T (sKw rd p fR) (sMw r gR) ν τ (K4_readRank ν rd p) (fun τ' => Mrk τ = M_readRule_B333 τ') (fun ν' τ' => kI ν' p 7 = τ'.2 33 r ∧ ibt (τ'.2 33 r) 10000) := by
  have hb := Sy_bad h
  have k4 := Sy_k4 h
  obtain ⟨q, e1, e2⟩ := word_both h (j := 11) (by omega)
  unfold K4_readRank Mrk
  rw [if_pos k4, e1, ob_some, e2, ob_some]
  cases q with
  | false =>
    rw [if_pos (show bI false = 0 by decide), if_pos (show bI false = 0 by decide)]
    exact ⟨ν, τ, rfl, kfr_rf _ _, mfr_rf _ _, Or.inl ⟨rfl, h, by rw [hI, hA], by rw [hA]; exact ⟨0, by omega, rfl⟩⟩⟩
  | true =>
    obtain ⟨ν2, τ2, a1, a2, a3, a4, a5⟩ := next_both h
    have k42 := Sy_k4 a3
    have h472 := mfr_47 a5 h47
    rw [if_neg (show ¬ bI true = 0 by decide), if_neg (show ¬ bI true = 0 by decide), a1, ob_some, if_pos k42, a2, ob_some, (ok47 hr h472).2]
    rcases number_both a3 with ⟨v, v1, v2, v3, v4⟩ | ⟨ν3, τ3, b1, b2, b3, b4, b5, b6⟩
    · obtain ⟨ν3, τ3, b1, b2, b3, b4, b5⟩ := next_both (Sy_kp (i := 7) (x := v) a3 hp1 hp2)
      rw [v2, bi_some, if_neg (show ¬ (1 : Int32) = 0 by decide), if_pos k42, v3, ob_some, if_pos (kfr_k a4 hk), bnd_eq, b1, ob_some, v4 τ3 b2, bi_some, if_pos (ok47 hr h472).1, bnd_eq]
      refine ⟨ν3, _, rfl, kfr_c (kfr_mn b4 sub_rd) (kfr_c (kfr_p rfl) (kfr_mn a4 sub_rd)), mfr_c (mfr_p rfl) (mfr_c (mfr_mn b5 (sN_le _)) (mfr_mn a5 (sN_le _))), Or.inl ⟨rfl, Sy_mp b3 (by decide), ?_, ?_⟩⟩
      · rw [b4.2 _ _ (fun z => hp1 z.1), kI_set, if_pos ⟨rfl, rfl⟩, mSto_at, if_pos ⟨rfl, rfl⟩]
      · rw [mSto_at, if_pos ⟨rfl, rfl⟩]; exact v1
    · rw [b1, bi_some, if_pos rfl, b2, bi_some, if_pos (ok47 hr h472).1, bnd_eq]
      exact ⟨ν3, _, rfl, kfr_c (kfr_mn b4 sub_bd) (kfr_mn a4 sub_rd), mfr_c (mfr_p rfl) (mfr_c (mfr_mn b5 (sN_le _)) (mfr_mn a5 (sN_le _))), Or.inr ⟨rfl, Bad_m b3⟩⟩
def sKl (rd p : Nat) : Nat → Nat → Prop := fun b i => (b = rd ∧ 2 ≤ i ∧ i ≤ 6) ∨ (b = p ∧ (i = 7 ∨ i = 8)) ∨ b = p + 1 ∨ b = p + 2 ∨ b = p + 3
def sMl (r : Nat) : Nat → Nat → Prop := fun k j => ((k = 33 ∨ k = 34) ∧ j = r) ∨ (35 ≤ k ∧ k ≤ 37 ∧ j / 4 = r)
theorem sul_t : ∀ b i, sKt rd p b i → sKl rd p b i := fun b i z => by
  rcases z with z | z | z
  · exact Or.inl z
  · exact Or.inr (Or.inl ⟨z.1, Or.inr z.2⟩)
  · exact Or.inr (Or.inr z)
theorem sul_w : ∀ b i, sKw rd p fR b i → sKl rd p b i := fun b i z => by
  rcases z with z | z
  · exact Or.inl z
  · exact Or.inr (Or.inl ⟨z.1, Or.inl z.2⟩)
theorem sul_rd : ∀ b i, sRd rd b i → sKl rd p b i := fun b i z => Or.inl ⟨z.1, by have := z.2; omega⟩
theorem sul_bd : ∀ b i, sBd rd b i → sKl rd p b i := fun b i z => Or.inl ⟨z.1, by have := z.2; omega⟩
theorem sml_t : ∀ k j, sMt r k j → sMl r k j := fun k j z => by
  rcases z with z | z
  · exact Or.inl ⟨Or.inr z.1, z.2⟩
  · exact Or.inr z
theorem sml_w : ∀ k j, sMw r gR k j → sMl r k j := fun k j z => Or.inl ⟨Or.inl z.1, z.2⟩
/-- the end of a rule -/
theorem tail_both (hrd : rd < p) (htp : tp < p) (hr : r < 192) {a : Nat} (ha : kK ν a = 5) (h : Sy ν τ rd tp n T) (ho : rob ν p) (h47 : τ.1 47 = nI r) (hQ : tQ p r 0 ν τ) (hI : kI ν p 7 = 0) (hA : τ.2 33 r = 0) : ∃ ν' τ', M_readRule_B302 τ = some τ' ∧ kfr (sKl rd p) ν' ν ∧ mfr (sMl r) τ' τ ∧ ((K4_readRule_B78 ν rd a p = (K5_add ν' a p).bind (fun s_117 => some ((1 : Int32), s_117)) ∧ Sy ν' τ' rd tp n T ∧ (kI ν' p 7 = τ'.2 33 r ∧ ibt (τ'.2 33 r) 10000) ∧ ∃ i', i' ≤ 4 ∧ tQ p r i' ν' τ') ∨ (K4_readRule_B78 ν rd a p = some (0, ν') ∧ Bad ν' τ' rd)) := by
  have k4 := Sy_k4 h
  obtain ⟨ν2, τ2, a1, a2, a3, a4⟩ := tests_both hrd htp hr h ho h47 hQ
  have F2 : kfr (sKl rd p) ν2 ν := kfr_mn a2 sul_t
  have G2 : mfr (sMl r) τ2 τ := mfr_mn a3 sml_t
  have e302 : M_readRule_B302 τ = Mrk τ2 := by
    unfold M_readRule_B302 Mrk
    rw [a1, ob_some]
  unfold K4_readRule_B78 K4_readRule_B94
  rw [if_pos k4, e302]
  rcases a4 with ⟨w1, w2, i', w3, w4⟩ | ⟨w1, w2⟩
  · have h472 := mfr_47 G2 h47
    have o2 := rob_fr ho F2
    have k42 := Sy_k4 w2
    obtain ⟨ν3, τ3, b1, b2, b3, b4⟩ := rank_both (show p ≠ rd by omega) (show p ≠ tp by omega) o2.1 hr h472 w2 (by rw [a2.2 _ _ (fun z => by rcases z with z | z | z | z | z <;> omega)]; exact hI) (by rw [a3.2 _ _ (fun z => by rcases z with z | z <;> omega)]; exact hA)
    have F3 : kfr (sKl rd p) ν3 ν := kfr_c (kfr_mn b2 sul_w) F2
    have G3 : mfr (sMl r) τ3 τ := mfr_c (mfr_mn b3 sml_w) G2
    have h473 := mfr_47 G3 h47
    rw [w1, bi_some, if_neg (show ¬ (1 : Int32) = 0 by decide), if_pos k42, b1]
    rcases b4 with ⟨u1, u2, u3⟩ | ⟨u1, u2⟩
    · have k43 := Sy_k4 u2
      have hb3 := Sy_bad u2
      have sg : K4_isSign ν3 rd 59 = _ := sign_both u2 (c := 59) (by omega)
      have Q3 : tQ p r i' ν3 τ3 := by
        refine ⟨?_, ?_, fun e he => ?_⟩
        · rw [b2.2 _ _ (fun z => by rcases z with z | ⟨z1, z2⟩; omega; unfold fR at z2; omega)]; exact w4.1
        · rw [b3.2 _ _ (fun z => by have z1 := z.1; unfold gR at z1; omega)]; exact w4.2.1
        · rw [b2.2 _ _ (fun z => by rcases z with z | ⟨z1, z2⟩ <;> omega), b2.2 _ _ (fun z => by rcases z with z | ⟨z1, z2⟩ <;> omega), b2.2 _ _ (fun z => by rcases z with z | ⟨z1, z2⟩ <;> omega), b3.2 _ _ (fun z => by have z1 := z.1; unfold gR at z1; omega), b3.2 _ _ (fun z => by have z1 := z.1; unfold gR at z1; omega), b3.2 _ _ (fun z => by have z1 := z.1; unfold gR at z1; omega)]
          exact w4.2.2 e he
      rw [u1, bi_some, if_neg (show ¬ (1 : Int32) = 0 by decide), if_pos k43, sg, ob_some]
      unfold M_readRule_B333 M_readRule_B357 M_readRule_B362 M_readRule_B373
      rw [if_pos hb3]
      have no : ¬ (τ3.1 41 = 3 ∧ τ3.1 42 = nI 59) → ∃ ν' τ', ((M_wrong τ3 1).bind (fun s_359 => if s_359.1 45 = 0 then (M_step s_359).bind (fun s_370 => some s_370) else some s_359)) = some τ' ∧ kfr (sKl rd p) ν' ν ∧ mfr (sMl r) τ' τ ∧ bi (K4_fail ν3 rd (1 : Int32)) (fun r_107 s_107 => if okZ r_107 = true then some (r_107, s_107) else none) = some (0, ν') ∧ Bad ν' τ' rd := by
        intro _
        obtain ⟨ν4, τ4, c1, c2, c3, c4, c5, c6⟩ := fail_both u2 (f := 1) (by decide)
        rw [c1, bi_some, c2, ob_some, if_neg c3.1]
        exact ⟨ν4, τ4, rfl, kfr_c (kfr_mn c4 sul_bd) F3, mfr_c (mfr_mn c5 (sN_le _)) G3, rfl, c3⟩
      by_cases d1 : τ3.1 41 = 3
      · by_cases d2 : τ3.1 42 = nI 59
        · obtain ⟨ν4, τ4, c1, c2, c3, c4, c5⟩ := next_both u2
          rw [decide_eq_true (show τ3.1 41 = 3 ∧ τ3.1 42 = nI 59 from ⟨d1, d2⟩), if_neg (show ¬ bI true = 0 by decide), c1, ob_some, if_pos d1, if_pos (show τ3.1 42 = (59 : Int32) from d2), if_pos hb3, c2, ob_some]
          have F4 : kfr (sKl rd p) ν4 ν := kfr_c (kfr_mn c4 sul_rd) F3
          rw [if_pos (kfr_k F4 ha)]
          refine ⟨ν4, τ4, rfl, F4, mfr_c (mfr_mn c5 (sN_le _)) G3, Or.inl ⟨rfl, c3, ⟨?_, ?_⟩, i', w3, ?_, ?_, fun e he => ?_⟩⟩
          · rw [c4.2 _ _ (fun z => by have := z.1; omega), c5.2 _ _ (fun z => z)]; exact u3.1
          · rw [c5.2 _ _ (fun z => z)]; exact u3.2
          · rw [c4.2 _ _ (fun z => by have := z.1; omega)]; exact Q3.1
          · rw [c5.2 _ _ (fun z => z)]; exact Q3.2.1
          · rw [c4.2 _ _ (fun z => by have := z.1; omega), c4.2 _ _ (fun z => by have := z.1; omega), c4.2 _ _ (fun z => by have := z.1; omega), c5.2 _ _ (fun z => z), c5.2 _ _ (fun z => z), c5.2 _ _ (fun z => z)]
            exact Q3.2.2 e he
        · have dn : ¬ (τ3.1 41 = 3 ∧ τ3.1 42 = nI 59) := fun z => d2 z.2
          obtain ⟨ν4, τ4, c1, c2, c3, c4⟩ := no dn
          rw [decide_eq_false dn, if_pos (show bI false = 0 by decide), if_pos d1, if_neg (show ¬ τ3.1 42 = (59 : Int32) from d2)]
          exact ⟨ν4, τ4, c1, c2, c3, Or.inr c4⟩
      · have dn : ¬ (τ3.1 41 = 3 ∧ τ3.1 42 = nI 59) := fun z => d1 z.1
        obtain ⟨ν4, τ4, c1, c2, c3, c4⟩ := no dn
        rw [decide_eq_false dn, if_pos (show bI false = 0 by decide), if_neg d1]
        exact ⟨ν4, τ4, c1, c2, c3, Or.inr c4⟩
    · rw [u1, bi_some, if_pos rfl, B333_bad u2.1]
      exact ⟨ν3, τ3, rfl, F3, G3, Or.inr ⟨rfl, u2⟩⟩
  · rw [w1, bi_some, if_pos rfl]
    have e2 : Mrk τ2 = some τ2 := by
      unfold Mrk
      rw [isWord_bad w2.1, ob_some, if_pos rfl, B333_bad w2.1]
    rw [e2]
    exact ⟨ν2, τ2, rfl, F2, G2, Or.inr ⟨rfl, w2⟩⟩
end TAIL
