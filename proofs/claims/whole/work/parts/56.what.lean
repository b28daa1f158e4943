/-! whom a rule is for; how long, from when -/
section WHAT
variable {μ ν ν' ν1 : Km} {σ τ τ' τ1 : Ms} {rd tp n b e r p : Nat} {T : Nat → Int32} {tk sg : Int32}
theorem kI_sm {a j : Nat} {x : Int32} : kI (kSetI ν a j x) a j = x := by rw [kI_set, if_pos ⟨rfl, rfl⟩]
theorem mS_sm {k j : Nat} {x : Int32} : (mSto τ k j x).2 k j = x := by rw [mSto_at, if_pos ⟨rfl, rfl⟩]
def Out (rd tp n : Nat) (T : Nat → Int32) (S SM : Nat → Nat → Prop) (ν : Km) (τ : Ms) (K : Option (Int32 × Km)) (Me : Ms → Prop) (Q : Km → Ms → Prop) : Prop := ∃ ν' τ', Me τ' ∧ kfr S ν' ν ∧ mfr SM τ' τ ∧ ((K = some (1, ν') ∧ Sy ν' τ' rd tp n T ∧ Q ν' τ') ∨ (K = some (0, ν') ∧ Bad ν' τ' rd))
def sKw (rd p : Nat) (f : Nat → Prop) : Nat → Nat → Prop := fun b i => (b = rd ∧ 2 ≤ i ∧ i ≤ 6) ∨ (b = p ∧ f i)
def sMw (r : Nat) (f : Nat → Prop) : Nat → Nat → Prop := fun k j => f k ∧ j = r
theorem sub_rd {f : Nat → Prop} : ∀ b i, sRd rd b i → sKw rd p f b i := fun b i z => Or.inl ⟨z.1, by have := z.2; omega⟩
theorem sub_bd {f : Nat → Prop} : ∀ b i, sBd rd b i → sKw rd p f b i := fun b i z => Or.inl ⟨z.1, by have := z.2; omega⟩
theorem kfr_c {S : Nat → Nat → Prop} (h1 : kfr S ν' ν1) (h2 : kfr S ν1 ν) : kfr S ν' ν := kfr_tr h1 h2 (fun _ _ z => z) (fun _ _ z => z)
theorem mfr_c {S : Nat → Nat → Prop} (h1 : mfr S τ' τ1) (h2 : mfr S τ1 τ) : mfr S τ' τ := mfr_tr h1 h2 (fun _ _ z => z) (fun _ _ z => z)
theorem kfr_p {f : Nat → Prop} {i : Nat} {x : Int32} (hf : f i) : kfr (sKw rd p f) (kSetI ν p i x) ν := kfr_st (Or.inr ⟨rfl, hf⟩)
theorem mfr_p {f : Nat → Prop} {k : Nat} {x : Int32} (hf : f k) : mfr (sMw r f) (mSto τ k r x) τ := mfr_st ⟨hf, rfl⟩
theorem nF47 : ¬ sF 47 := fun z => by have h1 := z.2.1; omega
theorem mfr_47 {S : Nat → Nat → Prop} (h : mfr S τ' τ) {x : Int32} (h2 : τ.1 47 = x) : τ'.1 47 = x := (h.1 47 nF47).trans h2
theorem kfr_k {S : Nat → Nat → Prop} (h : kfr S ν' ν) {q : Nat} {x : Nat} (h2 : kK ν q = x) : kK ν' q = x := by rw [h.1.1]; exact h2
theorem Bad_m (h : Bad ν τ rd) {k j : Nat} {x : Int32} : Bad ν (mSto τ k j x) rd := h
theorem readNumbered_ok {c m x : Int32} (h0 : τ.1 45 = 0) (hx : M_numbered τ c m = some x) (hne : ¬ x = -1) (hs : M_step τ = some τ1) : M_readNumbered τ c m = some (x, τ1) := by
  unfold M_readNumbered M_readNumbered_B17 M_readNumbered_B28
  rw [hx, ob_some, if_neg hne, if_pos h0, hs]
  rfl
theorem readNumbered_no {c m : Int32} (hx : M_numbered τ c m = some (-1)) (hs : M_wrong τ 1 = some τ1) (hb : ¬ τ1.1 45 = 0) : M_readNumbered τ c m = some (-1, τ1) := by
  unfold M_readNumbered M_readNumbered_B17 M_readNumbered_B28
  rw [hx, ob_some, if_pos rfl, hs, ob_some, if_neg hb]
def sbit (x : Int32) : Int32 := if x = -1 then 0 else (1 : Int32) <<< (x &&& 31)
theorem sbit_0 {x : Int32} {m : Nat} (hm : m < 9) (h : x = -1 ∨ ibt x m) : sbit x = 0 ↔ x = -1 := by
  unfold sbit
  constructor
  · intro z
    by_cases c : x = -1
    · exact c
    · rw [if_neg c] at z
      rcases h with h | ⟨v, hv, rfl⟩
      · exact h
      · exact absurd z ((show ∀ v, v < 9 → ¬ (1 : Int32) <<< (nI v &&& 31) = 0 by decide +kernel) v (by omega))
  · intro z; rw [if_pos z]
theorem bitOf_eq {c m x : Int32} (hk : kK ν rd = 4) (h : K4_numbered ν rd c m = some x) : K4_bitOf ν rd c m = some (sbit x) := by
  unfold K4_bitOf K4_bitOf_B19 sbit
  rw [if_pos hk, h, ob_some]
  by_cases c : x = -1
  · rw [if_pos c, if_pos c]
  · rw [if_neg c, if_neg c]
/-- the second part: the field -/
theorem what2 (hp1 : p ≠ rd) (hp2 : p ≠ tp) (hk : kK ν p = 3) (hr : r < 192) (h47 : τ.1 47 = nI r) (h : Sy ν τ rd tp n T) : Out rd tp n T (sKw rd p (fun i => i = 2)) (sMw r (fun k => k = 28)) ν τ (if kK ν rd = 4 then (K4_isWord ν rd (sW 16)).bind (fun r_46 => if r_46 = 0 then (K4_bitOf ν rd (102 : Int32) (8 : Int32)).bind (fun r_63 => K4_readWhat_B66 ν r_63 p rd p) else K4_readWhat_B66 ν (255 : Int32) p rd p) else none) (fun τ' => M_readWhat_B42 τ = some τ') (fun ν' τ' => kI ν' p 2 = fbit (τ'.2 28 r) ∧ (τ'.2 28 r = -1 ∨ ibt (τ'.2 28 r) 8)) := by
  have hb := Sy_bad h
  have k4 := Sy_k4 h
  obtain ⟨q, e1, e2⟩ := word_both h (j := 4) (by omega)
  obtain ⟨x, n1, n2, n3⟩ := numbered_both h (c := 102) (m := 7) (by omega) (by omega)
  have n1' : K4_numbered ν rd 102 8 = some x := n1
  have n2' : M_numbered τ 102 7 = some x := n2
  rw [if_pos k4, e1, ob_some, bitOf_eq k4 n1', ob_some]
  unfold M_readWhat_B42 M_readWhat_B85 K4_readWhat_B66
  rw [e2, ob_some, if_pos hk, if_pos hk, bnd_eq, bnd_eq, if_pos (show kK (kSetI ν p 2 (sbit x)) p = 3 from hk), if_pos (show kK (kSetI ν p 2 255) p = 3 from hk), kI_sm, kI_sm, if_pos (ok47 hr h47).1, (ok47 hr h47).2, if_neg (show ¬ (255 : Int32) = 0 by decide), if_pos (show kK (kSetI ν p 2 (sbit x)) rd = 4 from k4), if_pos (show kK (kSetI ν p 2 (sbit x)) rd = 4 from k4), if_pos (show kK (kSetI ν p 2 255) rd = 4 from k4), bnd_eq]
  cases q with
  | true =>
    rw [if_neg (show ¬ bI true = 0 by decide), if_neg (show ¬ bI true = 0 by decide)]
    obtain ⟨ν2, τ2, a1, a2, a3, a4, a5⟩ := next_both (Sy_mp (k := 28) (i := r) (x := -1) (Sy_kp (i := 2) (x := 255) h hp1 hp2) (by decide))
    rw [a1, a2, ob_some, ob_some]
    have e28 : τ2.2 28 r = -1 := by rw [a5.2 _ _ (fun z => z), mSto_at, if_pos ⟨rfl, rfl⟩]
    refine ⟨ν2, τ2, rfl, kfr_c (kfr_mn a4 sub_rd) (kfr_p rfl), mfr_c (mfr_mn a5 (sN_le _)) (mfr_p rfl), Or.inl ⟨rfl, a3, ?_, Or.inl e28⟩⟩
    rw [e28, a4.2 _ _ (fun z => hp1 z.1), kI_set, if_pos ⟨rfl, rfl⟩]
    rfl
  | false =>
    rw [if_pos (show bI false = 0 by decide), if_pos (show bI false = 0 by decide)]
    by_cases c : x = -1
    · rw [if_pos ((sbit_0 (by omega) n3).mpr c)]
      obtain ⟨ν2, τ2, a1, a2, a3, a4, a5, a6⟩ := fail_both (Sy_kp (i := 2) (x := sbit x) h hp1 hp2) (f := 1) (by decide)
      rw [a1, bi_some, readNumbered_no (by rw [n2', c]) a2 a3.1, bi_some, if_pos (ok47 hr h47).1, bnd_eq]
      exact ⟨ν2, _, rfl, kfr_c (kfr_mn a4 sub_bd) (kfr_p rfl), mfr_c (mfr_p rfl) (mfr_mn a5 (sN_le _)), Or.inr ⟨rfl, Bad_m a3⟩⟩
    · rw [if_neg (fun z => c ((sbit_0 (by omega) n3).mp z))]
      obtain ⟨ν2, τ2, a1, a2, a3, a4, a5⟩ := next_both (Sy_kp (i := 2) (x := sbit x) h hp1 hp2)
      rw [a1, ob_some, readNumbered_ok hb n2' c a2, bi_some, if_pos (ok47 hr h47).1, bnd_eq]
      refine ⟨ν2, _, rfl, kfr_c (kfr_mn a4 sub_rd) (kfr_p rfl), mfr_c (mfr_p rfl) (mfr_mn a5 (sN_le _)), Or.inl ⟨rfl, Sy_mp a3 (by decide), ?_, ?_⟩⟩
      · rw [mSto_at, if_pos ⟨rfl, rfl⟩, a4.2 _ _ (fun z => hp1 z.1), kI_set, if_pos ⟨rfl, rfl⟩]
        unfold sbit fbit
        rw [if_neg c, if_neg c]
      · rw [mSto_at, if_pos ⟨rfl, rfl⟩]; exact n3
theorem what_both (hp1 : p ≠ rd) (hp2 : p ≠ tp) (hk : kK ν p = 3) (hr : r < 192) (h47 : τ.1 47 = nI r) (h : Sy ν τ rd tp n T) : Out rd tp n T (sKw rd p (fun i => i = 1 ∨ i = 2)) (sMw r (fun k => k = 27 ∨ k = 28)) ν τ (K4_readWhat ν rd p) (fun τ' => M_readWhat τ = some τ') (fun ν' τ' => (kI ν' p 1 = kbit (τ'.2 27 r) ∧ (τ'.2 27 r = -1 ∨ ibt (τ'.2 27 r) 4)) ∧ kI ν' p 2 = fbit (τ'.2 28 r) ∧ (τ'.2 28 r = -1 ∨ ibt (τ'.2 28 r) 8)) := by
  have hb := Sy_bad h
  have k4 := Sy_k4 h
  obtain ⟨q, e1, e2⟩ := word_both h (j := 3) (by omega)
  obtain ⟨x, n1, n2, n3⟩ := numbered_both h (c := 107) (m := 3) (by omega) (by omega)
  have n1' : K4_numbered ν rd 107 4 = some x := n1
  have n2' : M_numbered τ 107 3 = some x := n2
  have go : ∀ (x y : Int32) (ν2 : Km) (τ3 : Ms), kfr (sRd rd) ν2 (kSetI ν p 1 y) → mfr (sMw r (fun k => k = 27 ∨ k = 28)) τ3 τ → Sy ν2 τ3 rd tp n T → τ3.2 27 r = x → y = kbit x → (x = -1 ∨ ibt x 4) → Out rd tp n T (sKw rd p (fun i => i = 1 ∨ i = 2)) (sMw r (fun k => k = 27 ∨ k = 28)) ν τ (if kK ν2 rd = 4 then (K4_isWord ν2 rd (sW 16)).bind (fun r_46 => if r_46 = 0 then (K4_bitOf ν2 rd (102 : Int32) (8 : Int32)).bind (fun r_63 => K4_readWhat_B66 ν2 r_63 p rd p) else K4_readWhat_B66 ν2 (255 : Int32) p rd p) else none) (fun τ' => M_readWhat_B42 τ3 = some τ') (fun ν' τ' => (kI ν' p 1 = kbit (τ'.2 27 r) ∧ (τ'.2 27 r = -1 ∨ ibt (τ'.2 27 r) 4)) ∧ kI ν' p 2 = fbit (τ'.2 28 r) ∧ (τ'.2 28 r = -1 ∨ ibt (τ'.2 28 r) 8)) := by
    intro x y ν2 τ3 f1 f2 s1 s2 s3 s4
    obtain ⟨ν4, τ4, m1, m2, m3, m4⟩ := what2 hp1 hp2 (kfr_k f1 (show kK (kSetI ν p 1 y) p = 3 from hk)) hr (mfr_47 f2 h47) s1
    have e27 : τ4.2 27 r = x := by rw [m3.2 _ _ (fun z => by have := z.1; omega)]; exact s2
    refine ⟨ν4, τ4, m1, kfr_c (kfr_mn m2 (fun b i z => ?_)) (kfr_c (kfr_mn f1 sub_rd) (kfr_p (Or.inl rfl))), mfr_c (mfr_mn m3 (fun k j z => ⟨Or.inr z.1, z.2⟩)) f2, ?_⟩
    · rcases z with z | z
      · exact Or.inl z
      · exact Or.inr ⟨z.1, Or.inr z.2⟩
    · rcases m4 with ⟨w1, w2, w3⟩ | w
      · refine Or.inl ⟨w1, w2, ⟨?_, ?_⟩, w3⟩
        · rw [e27, m2.2 _ _ (fun z => by rcases z with z | z; exact hp1 z.1; exact absurd z.2 (by decide)), f1.2 _ _ (fun z => hp1 z.1), kI_set, if_pos ⟨rfl, rfl⟩, s3]
        · rw [e27]; exact s4
      · exact Or.inr w
  unfold K4_readWhat
  rw [if_pos k4, e1, ob_some, bitOf_eq k4 n1', ob_some]
  unfold M_readWhat K4_readWhat_B22
  rw [e2, ob_some, if_pos hk, if_pos hk, bnd_eq, bnd_eq, if_pos (show kK (kSetI ν p 1 (sbit x)) p = 3 from hk), if_pos (show kK (kSetI ν p 1 15) p = 3 from hk), kI_sm, kI_sm, if_pos (ok47 hr h47).1, (ok47 hr h47).2, if_neg (show ¬ (15 : Int32) = 0 by decide), if_pos (show kK (kSetI ν p 1 (sbit x)) rd = 4 from k4), if_pos (show kK (kSetI ν p 1 (sbit x)) rd = 4 from k4), if_pos (show kK (kSetI ν p 1 15) rd = 4 from k4), bnd_eq]
  cases q with
  | true =>
    rw [if_neg (show ¬ bI true = 0 by decide), if_neg (show ¬ bI true = 0 by decide)]
    obtain ⟨ν2, τ2, a1, a2, a3, a4, a5⟩ := next_both (Sy_mp (k := 27) (i := r) (x := -1) (Sy_kp (i := 1) (x := 15) h hp1 hp2) (by decide))
    rw [a1, a2, ob_some, ob_some]
    exact go (-1) 15 ν2 τ2 a4 (mfr_c (mfr_mn a5 (sN_le _)) (mfr_p (Or.inl rfl))) a3 (by rw [a5.2 _ _ (fun z => z), mSto_at, if_pos ⟨rfl, rfl⟩]) rfl (Or.inl rfl)
  | false =>
    rw [if_pos (show bI false = 0 by decide), if_pos (show bI false = 0 by decide)]
    by_cases c : x = -1
    · rw [if_pos ((sbit_0 (by omega) n3).mpr c)]
      obtain ⟨ν2, τ2, a1, a2, a3, a4, a5, a6⟩ := fail_both (Sy_kp (i := 1) (x := sbit x) h hp1 hp2) (f := 1) (by decide)
      rw [a1, bi_some, readNumbered_no (by rw [n2', c]) a2 a3.1, bi_some, if_pos (ok47 hr h47).1, bnd_eq, B42_bad (τ := mSto τ2 27 r (-1)) hr (mfr_47 a5 h47) a3.1]
      exact ⟨ν2, _, rfl, kfr_c (kfr_mn a4 sub_bd) (kfr_p (Or.inl rfl)), mfr_c (mfr_p (Or.inr rfl)) (mfr_c (mfr_p (Or.inl rfl)) (mfr_mn a5 (sN_le _))), Or.inr ⟨rfl, a3⟩⟩
    · rw [if_neg (fun z => c ((sbit_0 (by omega) n3).mp z))]
      obtain ⟨ν2, τ2, a1, a2, a3, a4, a5⟩ := next_both (Sy_kp (i := 1) (x := sbit x) h hp1 hp2)
      rw [a1, ob_some, readNumbered_ok hb n2' c a2, bi_some, if_pos (ok47 hr h47).1, bnd_eq]
      exact go x (sbit x) ν2 (mSto τ2 27 r x) a4 (mfr_c (mfr_p (Or.inl rfl)) (mfr_mn a5 (sN_le _))) (Sy_mp a3 (by decide)) (by rw [mSto_at, if_pos ⟨rfl, rfl⟩]) (by unfold sbit kbit; rw [if_neg c, if_neg c]) n3
end WHAT
