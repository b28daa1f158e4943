/-! what both ask of the token at hand -/
section WORD
variable {μ ν ν' ν1 : Km} {σ τ τ' τ1 : Ms} {rd tp n b e : Nat} {T : Nat → Int32} {tk sg : Int32}
theorem sF_45 : sF 45 := ⟨by omega, by omega, by omega⟩
theorem sF_46 : sF 46 := ⟨by omega, by omega, by omega⟩
/-- writes elsewhere -/
theorem Sy_k (h : Sy ν τ rd tp n T) {S : Nat → Nat → Prop} (hk : kfr S ν' ν) (h1 : ∀ i, ¬ S rd i) (h2 : ∀ i, ¬ S tp i) : Sy ν' τ rd tp n T := by
  obtain ⟨b, e, tk, sg, g1, g2, g3, g4, g5, g6, g7⟩ := h
  refine ⟨b, e, tk, sg, ⟨?_, ?_, g1.2.2.1, fun j hj => ?_⟩, g2, g3, g4, ?_, g6, ?_⟩
  · rw [hk.1.1, hk.1.2.1, hk.1.2.2.1]; exact g1.1
  · rw [hk.2 _ _ (h1 _)]; exact g1.2.1
  · rw [hk.2 _ _ (h2 _)]; exact g1.2.2.2 j hj
  · rw [hk.2 _ _ (h1 _), hk.2 _ _ (h1 _), hk.2 _ _ (h1 _)]; exact g5
  · rw [hk.2 _ _ (h1 _)]; exact g7
theorem Sy_kp (h : Sy ν τ rd tp n T) {p i : Nat} {x : Int32} (h1 : p ≠ rd) (h2 : p ≠ tp) : Sy (kSetI ν p i x) τ rd tp n T := Sy_k h (S := fun b _ => b = p) (kfr_st rfl) (fun _ z => h1 z.symm) (fun _ z => h2 z.symm)
theorem Sy_mp (h : Sy ν τ rd tp n T) {k i : Nat} {x : Int32} (h1 : k ≠ 38) : Sy ν (mSto τ k i x) rd tp n T := by
  obtain ⟨b, e, tk, sg, g1, g2, g3, g4, g5, g6, g7⟩ := h
  exact ⟨b, e, tk, sg, g1, ⟨g2.1, g2.2.1, by rw [mSto_ne _ _ _ _ (fun z => h1 z.symm)]; exact g2.2.2.1, g2.2.2.2⟩, g3, g4, g5, g6, g7⟩
theorem Sy_bad (h : Sy ν τ rd tp n T) : τ.1 45 = 0 := by obtain ⟨b, e, tk, sg, g1, g2, g3, g4⟩ := h; exact g3
theorem Sy_k4 (h : Sy ν τ rd tp n T) : kK ν rd = 4 := by obtain ⟨b, e, tk, sg, g1, g2⟩ := h; exact g1.1.1
theorem Sy_f0 (h : Sy ν τ rd tp n T) : kI ν rd 5 = 0 := by obtain ⟨b, e, tk, sg, g1, g2, g3, g4, g5, g6, g7⟩ := h; exact g7
theorem Sy_tok (h : Sy ν τ rd tp n T) : kI ν rd 2 = τ.1 41 := by obtain ⟨b, e, tk, sg, g1, g2, g3, g4, g5, g6, g7⟩ := h; rw [g5.1, g6.2.1]
/-! words -/
def wmt (T : Nat → Int32) (b : Nat) (w : List Int32) (i : Nat) : Prop := w.getD i 0 &&& 255 = T (b + i)
def wM (T : Nat → Int32) (b e : Nat) (tk : Int32) (w : List Int32) : Bool := decide (tk = 1 ∧ e = b + w.length ∧ ∀ i, i < w.length → w.getD i 0 &&& 255 = T (b + i))
def wOk (w : List Int32) : Prop := w.length < 10 ∧ ∀ i, i < w.length → ∃ c : Nat, c < 128 ∧ w.getD i 0 &&& 255 = nI c
theorem wM_t {w : List Int32} (h1 : tk = 1) (h2 : e = b + w.length) : wM T b e tk w = decide (∀ i, i < w.length → w.getD i 0 &&& 255 = T (b + i)) := by
  unfold wM
  congr 1
  exact propext ⟨fun z => z.2.2, fun z => ⟨h1, h2, z⟩⟩
theorem K_isWord_L {w : List Int32} (hw : wOk w) (h : rdr ν rd tp n T) (h3 : kI ν rd 3 = nI b) (hbn : b + w.length ≤ n) : ∀ F i : Nat, i ≤ w.length → w.length < i + F → (∀ k, k < i → w.getD k 0 &&& 255 = T (b + k)) → K4_isWord_L28 w ν rd (some (0 : Int32)) (some (1 : Int32)) F (nI i) = some (bI (decide (∀ k, k < w.length → w.getD k 0 &&& 255 = T (b + k)))) := by
  intro F
  have hn := h.2.2.1
  have hl := hw.1
  induction F with
  | zero => intro i h1 h2; omega
  | succ F ih =>
    intro i h1 h2 hm
    unfold K4_isWord_L28
    rw [ob_some]
    by_cases c : i < w.length
    · obtain ⟨x, hx, ex⟩ := hw.2 i c
      obtain ⟨t1, t2⟩ := h.2.2.2 (b + i) (by omega)
      rw [if_neg (nI_ge c (by omega)), if_pos h.1.1, h.1.2.1, ob_some, if_pos h.1.2.2.1, h.1.2.2.2, h3, nI_add, if_pos ((okI_nI (by omega)).mpr (by omega)), if_pos ((okI_nI (by omega)).mpr c), ob_some, nI_clamp (show b + i < 2 ^ 31 by omega), nI_clamp (show i < 2 ^ 31 by omega), t1, ex, nI_1]
      have ek := kb_eq (x := T (b + i)) (c := x) t2 hx
      by_cases q : T (b + i) = nI x
      · rw [if_pos (ek.mpr q)]
        refine ih (i + 1) (by omega) (by omega) (fun k hk => ?_)
        rcases Nat.lt_or_ge k i with z | z
        · exact hm k z
        · rw [show k = i by omega, ex, q]
      · rw [if_neg (fun z => q (ek.mp z)), decide_eq_false (fun z => q (by rw [← z i c, ex]))]
        rfl
    · rw [if_pos (nI_le (by omega) (by omega)), decide_eq_true (fun k hk => hm k (by omega))]
      rfl
theorem M_isWord_L {w : List Int32} (hw : wOk w) (h : mrd τ n T) (h3 : τ.1 43 = nI b) (hbn : b + w.length ≤ n) : ∀ F i : Nat, i ≤ w.length → w.length + 1 < i + F → (∀ k, k < i → w.getD k 0 &&& 255 = T (b + k)) → M_isWord_L39 w τ (fun v2_82 => M_isWord_B82 w τ v2_82) F 1 (nI i) = some (bI (decide (∀ k, k < w.length → w.getD k 0 &&& 255 = T (b + k)))) := by
  intro F
  have hn := h.2.1
  have hl := hw.1
  induction F with
  | zero => intro i h1 h2; omega
  | succ F ih =>
    intro i h1 h2 hm
    unfold M_isWord_L39
    rw [if_neg (show ¬ (1 : Int32) = 0 by decide), ob_some]
    by_cases c : i < w.length
    · rw [if_neg (nI_ge c (by omega)), if_pos ((okI_nI (by omega)).mpr c), ob_some, h3, nI_add, if_pos ((okI_nI (by omega)).mpr (by omega)), nI_clamp (show b + i < 2 ^ 31 by omega), nI_clamp (show i < 2 ^ 31 by omega), h.2.2.1]
      unfold M_isWord_B75
      rw [nI_1]
      by_cases q : w.getD i 0 &&& 255 = T (b + i)
      · rw [if_pos q]
        refine ih (i + 1) (by omega) (by omega) (fun k hk => ?_)
        rcases Nat.lt_or_ge k i with z | z
        · exact hm k z
        · rw [show k = i by omega]; exact q
      · rw [if_neg q]
        obtain ⟨F', rfl⟩ : ∃ F', F = F' + 1 := ⟨F - 1, by omega⟩
        unfold M_isWord_L39
        rw [if_pos rfl, decide_eq_false (fun z => q (z i c))]
        rfl
    · rw [if_pos (nI_le (by omega) (by omega)), decide_eq_true (fun k hk => hm k (by omega))]
      rfl
theorem K_isWord_eq {w : List Int32} (hw : wOk w) (h : sy ν τ rd tp n T b e tk sg) : K4_isWord ν rd w = some (bI (wM T b e tk w)) := by
  obtain ⟨g1, g2, g3, g4, g5, g6, g7⟩ := h
  have hl := hw.1
  have hn := g1.2.2.1
  have be := g4.1
  have en := g4.2.1
  unfold K4_isWord K4_isWord_B24
  rw [if_pos g1.1.1, g5.1, ob_some, g5.2.1, g5.2.2, pk_sub be]
  by_cases c1 : tk = 1
  · rw [if_pos c1]
    by_cases c2 : e = b + w.length
    · rw [if_pos (by rw [show e - b = w.length by omega]), wM_t c1 c2]
      exact K_isWord_L hw g1 g5.2.1 (by omega) gF 0 (by omega) (by unfold gF; omega) (fun k hk => by omega)
    · rw [if_neg (fun z => by have z2 := (nI_eq (by omega) (by omega)).mp z; omega)]
      unfold wM
      rw [decide_eq_false (fun z => c2 z.2.1)]
      rfl
  · rw [if_neg c1]
    unfold wM
    rw [decide_eq_false (fun z => c1 z.1)]
    rfl
theorem M_isWord_0 (w : List Int32) : M_isWord_B35 w τ = some 0 := by
  unfold M_isWord_B35 M_isWord_B36
  rw [show gF = 1048575 + 1 from rfl]
  unfold M_isWord_L39
  rw [if_pos rfl]
  rfl
theorem M_isWord_eq {w : List Int32} (hw : wOk w) (h : sy ν τ rd tp n T b e tk sg) : M_isWord τ w = some (bI (wM T b e tk w)) := by
  obtain ⟨g1, g2, g3, g4, g5, g6, g7⟩ := h
  have hl := hw.1
  have hn := g1.2.2.1
  have be := g4.1
  have en := g4.2.1
  unfold M_isWord
  rw [if_pos g3, g6.2.1, ob_some, g6.2.2.2.1, g6.2.2.2.2, pk_sub be, M_isWord_0]
  by_cases c1 : tk = 1
  · rw [if_pos c1]
    by_cases c2 : e = b + w.length
    · rw [if_pos (by rw [show e - b = w.length by omega]), wM_t c1 c2]
      exact M_isWord_L hw g2 g6.2.2.2.1 (by omega) gF 0 (by omega) (by unfold gF; omega) (fun k hk => by omega)
    · rw [if_neg (fun z => by have z2 := (nI_eq (by omega) (by omega)).mp z; omega)]
      unfold wM
      rw [decide_eq_false (fun z => c2 z.2.1)]
      rfl
  · rw [if_neg c1]
    unfold wM
    rw [decide_eq_false (fun z => c1 z.1)]
    rfl
theorem wM_len {w1 w2 : List Int32} (h1 : wM T b e tk w1 = true) (h2 : wM T b e tk w2 = true) : w1.length = w2.length := by
  have a1 := (of_decide_eq_true h1).2.1
  have a2 := (of_decide_eq_true h2).2.1
  omega
theorem wOk_sW : ∀ j, j < 24 → wOk (sW j) := by
  have t : ∀ j, j < 24 → (sW j).length < 10 ∧ ∀ i, i < (sW j).length → ((sW j).getD i 0 &&& 255).toNatClampNeg < 128 ∧ (sW j).getD i 0 &&& 255 = nI ((sW j).getD i 0 &&& 255).toNatClampNeg := by decide +kernel
  exact fun j hj => ⟨(t j hj).1, fun i hi => ⟨_, (t j hj).2 i hi⟩⟩
theorem word_both (h : Sy ν τ rd tp n T) {j : Nat} (hj : j < 12) : ∃ q : Bool, K4_isWord ν rd (sW (12 + j)) = some (bI q) ∧ M_isWord τ (sW j) = some (bI q) := by
  obtain ⟨b, e, tk, sg, g⟩ := h
  have eq : sW (12 + j) = sW j := (show ∀ j, j < 12 → sW (12 + j) = sW j by decide +kernel) j hj
  rw [eq]
  exact ⟨_, K_isWord_eq (wOk_sW j (by omega)) g, M_isWord_eq (wOk_sW j (by omega)) g⟩
/-! words with a number -/
theorem num_in {x : Int32} {m : Nat} (hm : m < 9) : (if x < 0 then (-1 : Int32) else if nI m < x then -1 else x) = -1 ∨ ibt (if x < 0 then (-1 : Int32) else if nI m < x then -1 else x) (m + 1) := by
  by_cases c1 : x < 0
  · rw [if_pos c1]; exact Or.inl rfl
  · rw [if_neg c1]
    by_cases c2 : nI m < x
    · rw [if_pos c2]; exact Or.inl rfl
    · rw [if_neg c2]
      obtain ⟨v, -, h2, h3⟩ := i_rng (lo := 0) (hi := m) c1 (i_nlt c2) (by omega) (by omega)
      exact Or.inr ⟨v, by omega, h3⟩
theorem if3 {x : Int32} {P Q : Prop} [Decidable P] [Decidable Q] {y z w : Int32} : (if P then some y else if Q then some z else some w) = some (if P then y else if Q then z else w) := by
  by_cases c1 : P
  · rw [if_pos c1, if_pos c1]
  · rw [if_neg c1, if_neg c1]
    by_cases c2 : Q
    · rw [if_pos c2, if_pos c2]
    · rw [if_neg c2, if_neg c2]
theorem numbered_both (h : Sy ν τ rd tp n T) {c m : Nat} (hc : c < 128) (hm : m < 9) : ∃ x, K4_numbered ν rd (nI c) (nI (m + 1)) = some x ∧ M_numbered τ (nI c) (nI m) = some x ∧ (x = -1 ∨ ibt x (m + 1)) := by
  obtain ⟨b, e, tk, sg, g1, g2, g3, g4, g5, g6, g7⟩ := h
  have hn := g1.2.2.1
  have be := g4.1
  have en := g4.2.1
  unfold K4_numbered M_numbered K4_numbered_B34 K4_numbered_B64 K4_numbered_B65 M_numbered_B41 M_numbered_B71 M_numbered_B72
  rw [if_pos g1.1.1, g5.1, g5.2.1, g5.2.2, pk_sub be, if_pos g3, g6.2.1, g6.2.2.2.1, g6.2.2.2.2]
  by_cases c1 : tk = 1
  · rw [if_pos c1, if_pos c1]
    by_cases c2 : e = b + 2
    · have o1 := (okI_nI (show b < 2 ^ 31 by omega)).mpr (show b < 1000 by omega)
      have o2 := (okI_nI (show b + 1 < 2 ^ 31 by omega)).mpr (show b + 1 < 1000 by omega)
      obtain ⟨t1, t2⟩ := g1.2.2.2 b (by omega)
      obtain ⟨t3, t4⟩ := g1.2.2.2 (b + 1) (by omega)
      rw [if_pos (by rw [show e - b = 2 by omega]; rfl), g1.1.2.1, ob_some, if_pos g1.1.2.2.1, g1.1.2.2.2, if_pos o1, nI_clamp (show b < 2 ^ 31 by omega), t1, ob_some, if_pos g1.1.2.2.1, nI_1, g1.1.2.2.2, if_pos o2, nI_clamp (show b + 1 < 2 ^ 31 by omega), t3, bnd_eq, if_pos (show nI e = nI b + (2 : Int32) by rw [c2]; exact (nI_add b 2).symm), if_pos o1, g2.2.2.1, if_pos o2, bnd_eq]
      by_cases c3 : T b = nI c
      · rw [if_pos ((kb_eq t2 hc).mpr c3), if_pos c3, if3 (x := 0), if3 (x := 0), kb_num t4 hm]
        exact ⟨_, rfl, rfl, num_in hm⟩
      · rw [if_neg (fun z => c3 ((kb_eq t2 hc).mp z)), if_neg c3]
        exact ⟨_, rfl, rfl, Or.inl rfl⟩
    · rw [if_neg (fun z => by have z2 := (nI_eq (b := 2) (by omega) (by omega)).mp z; omega), if_neg (fun z => c2 (by rw [show (2 : Int32) = nI 2 from rfl, nI_add] at z; exact (nI_eq (by omega) (by omega)).mp z))]
      exact ⟨_, rfl, rfl, Or.inl rfl⟩
  · rw [if_neg c1, if_neg c1]
    exact ⟨_, rfl, rfl, Or.inl rfl⟩
/-! signs -/
theorem sign_both (h : Sy ν τ rd tp n T) {c : Nat} (hc : c < 128) : K4_isSign ν rd (nI c) = some (bI (decide (τ.1 41 = 3 ∧ τ.1 42 = nI c))) := by
  obtain ⟨b, e, tk, sg, g1, g2, g3, g4, g5, g6, g7⟩ := h
  have hn := g1.2.2.1
  have en := g4.2.1
  unfold K4_isSign K4_isSign_B25 K4_isSign_B26
  rw [if_pos g1.1.1, g5.1, g5.2.1, g6.2.1, g6.2.2.1]
  by_cases c1 : tk = 3
  · obtain ⟨s1, s2⟩ := g4.2.2.2.2.1 c1
    obtain ⟨t1, t2⟩ := g1.2.2.2 b (by omega)
    rw [if_pos c1, g1.1.2.1, ob_some, if_pos g1.1.2.2.1, g1.1.2.2.2, if_pos ((okI_nI (by omega)).mpr (by omega)), nI_clamp (show b < 2 ^ 31 by omega), t1]
    by_cases c2 : T b = nI c
    · rw [if_pos ((kb_eq t2 hc).mpr c2), decide_eq_true ⟨c1, s2.trans c2⟩]; rfl
    · rw [if_neg (fun z => c2 ((kb_eq t2 hc).mp z)), decide_eq_false (fun z => c2 (s2.symm.trans z.2))]; rfl
  · rw [if_neg c1, decide_eq_false (fun z => c1 z.1)]; rfl
/-! faults -/
def Bad (ν : Km) (τ : Ms) (rd : Nat) : Prop := ¬ τ.1 45 = 0 ∧ kI ν rd 5 = τ.1 45 ∧ kI ν rd 6 = τ.1 46
def sBd (rd : Nat) : Nat → Nat → Prop := fun b i => b = rd ∧ (i = 5 ∨ i = 6)
theorem fail_both (h : Sy ν τ rd tp n T) {f : Int32} (hf : ¬ f = 0) : ∃ ν' τ', K4_fail ν rd f = some (0, ν') ∧ M_wrong τ f = some τ' ∧ Bad ν' τ' rd ∧ kfr (sBd rd) ν' ν ∧ mfr sN τ' τ ∧ τ'.2 = τ.2 := by
  obtain ⟨b, e, tk, sg, g1, g2, g3, g4, g5, g6, g7⟩ := h
  unfold K4_fail M_wrong
  rw [if_pos g1.1.1, if_pos g3]
  simp only [bnd_eq]
  obtain ⟨ν1, e1, k1, v1, f1⟩ := rd_put g1 5 f (by decide)
  have a3 : kI ν1 rd 3 = nI b := by rw [v1, if_neg (by omega), g5.2.1]
  rw [e1, a3]
  obtain ⟨ν2, e2, k2, v2, f2⟩ := rd_put k1 6 (nI b) (by decide)
  rw [e2]
  obtain ⟨τ1, e3, k3, v3, f3⟩ := rm_put g2 45 f sF_45
  have b3 : τ1.1 43 = nI b := by rw [v3, if_neg (by decide), g6.2.2.2.1]
  rw [e3, b3]
  obtain ⟨τ2, e4, k4, v4, f4⟩ := rm_put k3 46 (nI b) sF_46
  rw [e4]
  refine ⟨ν2, τ2, rfl, rfl, ⟨?_, ?_, ?_⟩, kfr_tr f2 f1 (fun b i z => ⟨z.1, by omega⟩) (fun b i z => ⟨z.1, by omega⟩), mfr_tr f4 f3 (sN_le _) (sN_le _), ?_⟩
  · rw [v4, if_neg (by decide), v3, if_pos rfl]; exact hf
  · rw [v4, if_neg (by decide), v3, if_pos rfl, v2, if_neg (by omega), v1, if_pos ⟨rfl, rfl⟩]
  · rw [v4, if_pos rfl, v2, if_pos ⟨rfl, rfl⟩]
  · rw [← e4, mSet_2, ← e3, mSet_2]
end WORD
