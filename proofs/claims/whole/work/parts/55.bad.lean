/-! numbers; and what the reference does behind a fault -/
section BADS
variable {μ ν ν' ν1 : Km} {σ τ τ' τ1 : Ms} {rd tp n b e r : Nat} {T : Nat → Int32} {tk sg : Int32}
def nv (T : Nat → Int32) (b : Nat) : Nat → Nat
  | 0 => 0
  | k + 1 => nv T b k * 10 + ((T (b + k)).toNatClampNeg - 48)
theorem nv_step {k d : Nat} (hd : d < 10) (h : T (b + k) = nI (d + 48)) : nv T b (k + 1) = nv T b k * 10 + d := by
  show nv T b k * 10 + ((T (b + k)).toNatClampNeg - 48) = _
  rw [h, nI_clamp (by omega)]
  omega
theorem nv_lt (hT : ∀ j, j < 1000 → ibt (T j) 256) (hd : ∀ j, b ≤ j → j < e → xDi (T j) = true) (he : e ≤ 1000) : ∀ k, b + k ≤ e → nv T b k < 10 ^ k
  | 0, _ => by show 0 < 1; omega
  | k + 1, hk => by
    obtain ⟨-, d, q1, q2⟩ := kb_dig (hT (b + k) (by omega)) (hd (b + k) (by omega) (by omega))
    rw [nv_step q1 q2, Nat.pow_succ]
    have := nv_lt hT hd he k (by omega)
    omega
theorem K_num_L {Rt : Type} {kk : Int32 → Option Rt} (h : rdr ν rd tp n T) (he : kI ν rd 4 = nI e) (hn : e ≤ n) (hd : ∀ j, b ≤ j → j < e → xDi (T j) = true) : ∀ F i : Nat, b + i ≤ e → e < b + i + F → K4_number_L7 ν rd kk F (nI (nv T b i)) (nI (b + i)) = kk (nI (nv T b (e - b))) := by
  intro F
  have hn1 := h.2.2.1
  induction F with
  | zero => intro i h1 h2; omega
  | succ F ih =>
    intro i h1 h2
    unfold K4_number_L7
    rw [if_pos h.1.1, he]
    by_cases c : b + i < e
    · obtain ⟨t1, t2⟩ := h.2.2.2 (b + i) (by omega)
      obtain ⟨t3, d, q1, q2⟩ := kb_dig t2 (hd (b + i) (by omega) c)
      have ih' := ih (i + 1) (by omega) (by omega)
      rw [if_neg (nI_ge c (by omega)), h.1.2.1, ob_some, if_pos h.1.2.2.1, h.1.2.2.2, if_pos ((okI_nI (by omega)).mpr (by omega)), nI_clamp (show b + i < 2 ^ 31 by omega), t1, t3, q2, bnd_eq, show (10 : Int32) = nI 10 from rfl, i_mul, nI_add, show (48 : Int32) = nI 48 from rfl, pk_sub (by omega), nI_1]
      rw [nv_step q1 q2] at ih'
      rw [show nv T b i * 10 + (d + 48) - 48 = nv T b i * 10 + d by omega]
      exact ih'
    · rw [if_pos (nI_le (by omega) (by omega)), show e - b = i by omega]
theorem M_num_L {Rt : Type} {kk : Int32 → Option Rt} (h : mrd τ n T) (h0 : τ.1 45 = 0) (he : τ.1 44 = nI e) (hn : e ≤ n) (hd : ∀ j, b ≤ j → j < e → xDi (T j) = true) : ∀ F i : Nat, b + i ≤ e → e < b + i + F → M_readNumber_L50 τ kk F (nI (nv T b i)) (nI (b + i)) = kk (nI (nv T b (e - b))) := by
  intro F
  have hn1 := h.2.1
  induction F with
  | zero => intro i h1 h2; omega
  | succ F ih =>
    intro i h1 h2
    unfold M_readNumber_L50
    rw [he]
    by_cases c : b + i < e
    · have t2 := h.2.2.2 (b + i) (by omega)
      obtain ⟨t3, d, q1, q2⟩ := kb_dig t2 (hd (b + i) (by omega) c)
      have ih' := ih (i + 1) (by omega) (by omega)
      rw [if_neg (nI_ge c (by omega)), if_pos h0, if_pos ((okI_nI (by omega)).mpr (by omega)), nI_clamp (show b + i < 2 ^ 31 by omega), h.2.2.1, q2, bnd_eq, show (10 : Int32) = nI 10 from rfl, i_mul, nI_add, show (48 : Int32) = nI 48 from rfl, pk_sub (by omega), nI_1]
      rw [nv_step q1 q2] at ih'
      rw [show 10 * nv T b i + (d + 48) - 48 = nv T b i * 10 + d by omega]
      exact ih'
    · rw [if_pos (nI_le (by omega) (by omega)), show e - b = i by omega]
theorem M_num_bad (h : ¬ τ.1 45 = 0) : M_readNumber_B43 τ = some (0, τ) := by
  unfold M_readNumber_B43
  rw [bnd_eq, show gF = 1048575 + 1 from rfl]
  unfold M_readNumber_L50 M_readNumber_B86 M_readNumber_B97
  simp only [if_neg h, ite_self]
theorem number_both (h : Sy ν τ rd tp n T) : (∃ v, ibt v 10000 ∧ K4_checkNumber ν rd = some (1, ν) ∧ K4_number ν rd = some v ∧ ∀ τ1, M_step τ = some τ1 → M_readNumber τ = some (v, τ1)) ∨ ∃ ν' τ', K4_checkNumber ν rd = some (0, ν') ∧ M_readNumber τ = some (0, τ') ∧ Bad ν' τ' rd ∧ kfr (sBd rd) ν' ν ∧ mfr sN τ' τ ∧ τ'.2 = τ.2 := by
  have h' := h
  obtain ⟨b, e, tk, sg, g1, g2, g3, g4, g5, g6, g7⟩ := h
  have hn := g1.2.2.1
  have be := g4.1
  have en := g4.2.1
  unfold K4_checkNumber K4_checkNumber_B35 K4_checkNumber_B40 M_readNumber
  rw [if_pos g1.1.1, if_pos g3, g5.1, g5.2.1, g5.2.2, g6.2.1, g6.2.2.2.1, g6.2.2.2.2, pk_sub be]
  by_cases c1 : tk = 2
  · rw [if_pos c1, if_pos c1]
    obtain ⟨d1, d2⟩ := g4.2.2.2.1 c1
    by_cases c2 : e - b ≤ 4
    · have c3 : nI (e - b) ≤ (4 : Int32) := nI_le (b := 4) c2 (by omega)
      rw [if_pos c3, if_pos c3]
      refine Or.inl ⟨nI (nv T b (e - b)), ?_, rfl, ?_, fun τ1 hs => ?_⟩
      · have q := nv_lt g2.2.2.2 d2 (by omega) (e - b) (by omega)
        have q2 : 10 ^ (e - b) ≤ 10 ^ 4 := Nat.pow_le_pow_right (by omega) c2
        exact ⟨_, by omega, rfl⟩
      · unfold K4_number
        rw [if_pos g1.1.1, bnd_eq, g5.2.1]
        have L := K_num_L (kk := fun v1_36 => some v1_36) g1 g5.2.2 en d2 gF 0 (by omega) (by unfold gF; omega)
        exact L
      · unfold M_readNumber_B43
        rw [bnd_eq, g6.2.2.2.1]
        have L := M_num_L (kk := fun v1_86 => M_readNumber_B86 τ v1_86) g2 g3 g6.2.2.2.2 en d2 gF 0 (by omega) (by unfold gF; omega)
        refine L.trans ?_
        unfold M_readNumber_B86 M_readNumber_B97
        rw [if_pos g3, hs]
        rfl
    · have c3 : ¬ nI (e - b) ≤ (4 : Int32) := nI_ge (a := 4) (by omega) (by omega)
      rw [if_neg c3, if_neg c3]
      obtain ⟨ν', τ', a1, a2, a3, a4, a5, a6⟩ := fail_both h' (f := 2) (by decide)
      rw [a1, a2, bi_some, ob_some, if_pos rfl, M_num_bad a3.1]
      exact Or.inr ⟨ν', τ', rfl, rfl, a3, a4, a5, a6⟩
  · rw [if_neg c1, if_neg c1]
    obtain ⟨ν', τ', a1, a2, a3, a4, a5, a6⟩ := fail_both h' (f := 1) (by decide)
    rw [a1, a2, bi_some, ob_some, M_num_bad a3.1]
    exact Or.inr ⟨ν', τ', rfl, rfl, a3, a4, a5, a6⟩
/-! behind a fault -/
def sRow (r : Nat) : Nat → Nat → Prop := fun k j => (26 ≤ k ∧ k ≤ 34 ∧ j = r) ∨ (35 ≤ k ∧ k ≤ 37 ∧ j / 4 = r)
theorem isWord_bad (h : ¬ τ.1 45 = 0) (w : List Int32) : M_isWord τ w = some 0 := by
  unfold M_isWord
  rw [if_neg h, M_isWord_0]
theorem numbered_bad (h : ¬ τ.1 45 = 0) (x y : Int32) : M_numbered τ x y = some (-1) := by
  unfold M_numbered M_numbered_B41
  rw [if_neg h]
theorem wrong_bad (h : ¬ τ.1 45 = 0) (x : Int32) : M_wrong τ x = some τ := by
  unfold M_wrong
  rw [if_neg h]
theorem readNumbered_bad (h : ¬ τ.1 45 = 0) (x y : Int32) : M_readNumbered τ x y = some (-1, τ) := by
  unfold M_readNumbered M_readNumbered_B17 M_readNumbered_B28
  rw [numbered_bad h, ob_some, if_pos rfl, wrong_bad h, ob_some, if_neg h]
theorem readNumber_bad (h : ¬ τ.1 45 = 0) : M_readNumber τ = some (0, τ) := by
  unfold M_readNumber
  rw [if_neg h]
theorem word_bad (h : ¬ τ.1 45 = 0) (w : List Int32) : M_word τ w = some τ := by
  unfold M_word
  rw [if_neg h]
theorem readTests_bad (h : ¬ τ.1 45 = 0) : M_readTests τ = some τ := by
  unfold M_readTests
  rw [isWord_bad h, ob_some, if_pos rfl, show gF = 1048575 + 1 from rfl]
  unfold M_readTests_L15
  rw [if_neg h]
  rfl
theorem B333_bad (h : ¬ τ.1 45 = 0) : M_readRule_B333 τ = some τ := by
  unfold M_readRule_B333 M_readRule_B362 M_readRule_B373
  rw [if_neg h, if_neg h]
theorem B302_bad (h : ¬ τ.1 45 = 0) : M_readRule_B302 τ = some τ := by
  unfold M_readRule_B302
  rw [readTests_bad h, ob_some, isWord_bad h, ob_some, if_pos rfl, B333_bad h]
theorem ok47 (hr : r < 192) (h47 : τ.1 47 = nI r) : okI (τ.1 47) 192 = true ∧ (τ.1 47).toNatClampNeg = r := by
  rw [h47]
  exact ⟨(okI_nI (by omega)).mpr hr, nI_clamp (by omega)⟩
theorem sRow_lo {k : Nat} (h1 : 26 ≤ k) (h2 : k ≤ 34) : sRow r k r := Or.inl ⟨h1, h2, rfl⟩
theorem B187_bad (hr : r < 192) (h47 : τ.1 47 = nI r) (h : ¬ τ.1 45 = 0) : M_readRule_B187 τ = M_readRule_B302 (mSto τ 31 r (-1)) := by
  unfold M_readRule_B187
  rw [word_bad h, ob_some, readNumbered_bad h, bi_some, if_pos (ok47 hr h47).1, bnd_eq, (ok47 hr h47).2]
theorem B176_bad (hr : r < 192) (h47 : τ.1 47 = nI r) (h : ¬ τ.1 45 = 0) : M_readRule_B176 τ = M_readRule_B302 (mSto τ 31 r (-1)) := by
  unfold M_readRule_B176
  rw [if_neg h, B187_bad hr h47 h]
theorem B150_bad (hr : r < 192) (h47 : τ.1 47 = nI r) (h : ¬ τ.1 45 = 0) (x : Int32) : M_readRule_B150 τ x (τ.1 47) = M_readRule_B302 (mSto (mSto τ 30 r x) 31 r (-1)) := by
  unfold M_readRule_B150
  rw [if_pos (ok47 hr h47).1, bnd_eq, (ok47 hr h47).2, if_neg (show ¬ (mSto τ 30 r x).1 45 = 0 from h), B176_bad (τ := mSto τ 30 r x) hr h47 h]
theorem B86_bad (hr : r < 192) (h47 : τ.1 47 = nI r) (h : ¬ τ.1 45 = 0) : M_readRule_B86 τ = M_readRule_B302 (mSto (mSto (mSto τ 29 r 0) 30 r (-1)) 31 r (-1)) := by
  unfold M_readRule_B86
  rw [readNumber_bad h, bi_some, if_pos (ok47 hr h47).1, bnd_eq, (ok47 hr h47).2, isWord_bad (τ := mSto τ 29 r 0) h, ob_some, if_pos rfl, isWord_bad (τ := mSto τ 29 r 0) h, ob_some, if_pos rfl, isWord_bad (τ := mSto τ 29 r 0) h, ob_some, if_pos rfl, B150_bad (τ := mSto τ 29 r 0) hr h47 h]
theorem B42_bad (hr : r < 192) (h47 : τ.1 47 = nI r) (h : ¬ τ.1 45 = 0) : M_readWhat_B42 τ = some (mSto τ 28 r (-1)) := by
  unfold M_readWhat_B42 M_readWhat_B85
  rw [isWord_bad h, ob_some, if_pos rfl, readNumbered_bad h, bi_some, if_pos (ok47 hr h47).1, bnd_eq, (ok47 hr h47).2]
theorem L221_bad {Rt : Type} {kk : Ms → Option Rt} (h : ¬ τ.1 45 = 0) (F : Nat) (x : Int32) : M_readRule_L221 kk (F + 1) τ x = kk τ := by
  unfold M_readRule_L221
  rw [if_neg h]
end BADS
