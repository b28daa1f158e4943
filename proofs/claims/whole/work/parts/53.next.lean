/-! a step to the next token, whole -/
section NEXT
variable {μ ν ν' ν1 : Km} {σ τ τ' τ1 : Ms} {rd tp n : Nat} {T : Nat → Int32}
/-- all but the cells S stays -/
def kfr (S : Nat → Nat → Prop) (ν' ν : Km) : Prop := (kK ν' = kK ν ∧ kR ν' = kR ν ∧ kN ν' = kN ν ∧ kn ν' = kn ν) ∧ ∀ b i, ¬ S b i → kI ν' b i = kI ν b i
theorem kfr_rf (S : Nat → Nat → Prop) (ν : Km) : kfr S ν ν := ⟨⟨rfl, rfl, rfl, rfl⟩, fun _ _ _ => rfl⟩
theorem kfr_tr {S1 S2 S : Nat → Nat → Prop} (h1 : kfr S1 ν' ν1) (h2 : kfr S2 ν1 ν) (s1 : ∀ b i, S1 b i → S b i) (s2 : ∀ b i, S2 b i → S b i) : kfr S ν' ν := ⟨⟨h1.1.1.trans h2.1.1, h1.1.2.1.trans h2.1.2.1, h1.1.2.2.1.trans h2.1.2.2.1, h1.1.2.2.2.trans h2.1.2.2.2⟩, fun b i q => (h1.2 b i (fun z => q (s1 b i z))).trans (h2.2 b i (fun z => q (s2 b i z)))⟩
theorem kfr_mn {S1 S : Nat → Nat → Prop} (h : kfr S1 ν' ν) (s : ∀ b i, S1 b i → S b i) : kfr S ν' ν := ⟨h.1, fun b i q => h.2 b i (fun z => q (s b i z))⟩
theorem kfr_st {S : Nat → Nat → Prop} {a j : Nat} {x : Int32} (hs : S a j) : kfr S (kSetI ν a j x) ν := ⟨⟨rfl, rfl, rfl, rfl⟩, fun b i q => by rw [kI_set, if_neg (fun z => q (by rw [z.1, z.2]; exact hs))]⟩
/-- the reference's: fields of the reader and arrays S may change -/
def sF (k : Nat) : Prop := 39 ≤ k ∧ k ≤ 46 ∧ k ≠ 40
def mfr (S : Nat → Nat → Prop) (τ' τ : Ms) : Prop := (∀ k, ¬ sF k → τ'.1 k = τ.1 k) ∧ ∀ k j, ¬ S k j → τ'.2 k j = τ.2 k j
theorem mfr_rf (S : Nat → Nat → Prop) (τ : Ms) : mfr S τ τ := ⟨fun _ _ => rfl, fun _ _ _ => rfl⟩
theorem mfr_tr {S1 S2 S : Nat → Nat → Prop} (h1 : mfr S1 τ' τ1) (h2 : mfr S2 τ1 τ) (s1 : ∀ b i, S1 b i → S b i) (s2 : ∀ b i, S2 b i → S b i) : mfr S τ' τ := ⟨fun k q => (h1.1 k q).trans (h2.1 k q), fun b i q => (h1.2 b i (fun z => q (s1 b i z))).trans (h2.2 b i (fun z => q (s2 b i z)))⟩
theorem mfr_mn {S1 S : Nat → Nat → Prop} (h : mfr S1 τ' τ) (s : ∀ b i, S1 b i → S b i) : mfr S τ' τ := ⟨h.1, fun b i q => h.2 b i (fun z => q (s b i z))⟩
theorem mfr_st {S : Nat → Nat → Prop} {a j : Nat} {x : Int32} (hs : S a j) : mfr S (mSto τ a j x) τ := ⟨fun _ _ => rfl, fun b i q => by rw [mSto_at, if_neg (fun z => q (by rw [z.1, z.2]; exact hs))]⟩
def sN : Nat → Nat → Prop := fun _ _ => False
theorem sN_le (S : Nat → Nat → Prop) : ∀ b i, sN b i → S b i := fun _ _ h => h.elim
theorem rd_put (h : rdr ν rd tp n T) (j : Nat) (x : Int32) (hj : j ≠ 1) : ∃ ν', kSetI ν rd j x = ν' ∧ rdr ν' rd tp n T ∧ (∀ b i, kI ν' b i = if b = rd ∧ i = j then x else kI ν b i) ∧ kfr (fun b i => b = rd ∧ i = j) ν' ν := ⟨_, rfl, rdr_set h hj, fun b i => kI_set b i, kfr_st ⟨rfl, rfl⟩⟩
def sRd (rd : Nat) : Nat → Nat → Prop := fun b i => b = rd ∧ (i = 2 ∨ i = 3 ∨ i = 4)
theorem K4_next_eq (h : rdr ν rd tp n T) {p : Nat} (hp : p ≤ n) (h4 : kI ν rd 4 = nI p) : ∃ ν', K4_next ν rd = some ν' ∧ rdr ν' rd tp n T ∧ kfr (sRd rd) ν' ν ∧ kI ν' rd 2 = tkT T n (tkB T n p) ∧ kI ν' rd 3 = nI (tkB T n p) ∧ kI ν' rd 4 = nI (tkE T n (tkB T n p)) := by
  have hb : tkB T n p ≤ n := scn_le _ hp
  have hn := h.2.2.1
  have e0 := K4_next_sp (kk := fun s_60 => K4_next_B60 s_60 rd) h gF p hp (by unfold gF; omega)
  unfold K4_next
  rw [if_pos h.1.1, bnd_eq, h4, e0]
  show ∃ ν', K4_next_B60 (kSetI ν rd 3 (nI (tkB T n p))) rd = some ν' ∧ _
  generalize tkB T n p = b at hb ⊢
  obtain ⟨ν1, e1, g1, v1, f1⟩ := rd_put h 3 (nI b) (by decide)
  rw [e1]
  unfold K4_next_B60
  have a3 : kI ν1 rd 3 = nI b := by rw [v1, if_pos ⟨rfl, rfl⟩]
  rw [if_pos g1.1.1, bnd_eq, a3]
  obtain ⟨ν2, e2, g2, v2, f2⟩ := rd_put g1 4 (nI b) (by decide)
  rw [e2]
  have b3 : kI ν2 rd 3 = nI b := by rw [v2, if_neg (by omega), a3]
  have b4 : kI ν2 rd 4 = nI b := by rw [v2, if_pos ⟨rfl, rfl⟩]
  rw [b3, g2.2.1]
  have F2 : kfr (sRd rd) ν2 ν := kfr_tr f2 f1 (fun b i z => ⟨z.1, by omega⟩) (fun b i z => ⟨z.1, by omega⟩)
  unfold tkT tkE
  by_cases c : b < n
  · rw [if_pos (nI_lt c (by omega)), bnd_eq, b4, nI_1]
    obtain ⟨ν3, e3, g3, v3, f3⟩ := rd_put g2 4 (nI (b + 1)) (by decide)
    rw [e3]
    have c3 : kI ν3 rd 3 = nI b := by rw [v3, if_neg (by omega), b3]
    have c4 : kI ν3 rd 4 = nI (b + 1) := by rw [v3, if_pos ⟨rfl, rfl⟩]
    have F3 : kfr (sRd rd) ν3 ν := kfr_tr f3 F2 (fun b i z => ⟨z.1, by omega⟩) (fun b i z => z)
    obtain ⟨t1, t2⟩ := g3.2.2.2 b (by omega)
    have o1 := (okI_nI (show b < 2 ^ 31 by omega)).mpr (show b < 1000 by omega)
    have nb : ¬ n ≤ b := by omega
    rw [if_neg nb, if_neg nb]
    simp only [g3.1.2.1, ob_some, if_pos g3.1.2.2.1, g3.1.2.2.2, c3, if_pos o1, nI_clamp (show b < 2 ^ 31 by omega), t1, K_isLe, K_isDi, kb_Le t2, kb_Di t2, bnd_eq]
    rw [show cLe T b = xLe (T b) from rfl, show cDi T b = xDi (T b) from rfl]
    cases hl : xLe (T b) with
    | true =>
      rw [if_neg (show ¬ bI true = 0 by decide), if_pos rfl, if_pos rfl]
      obtain ⟨ν4, e4, g4, v4, f4⟩ := rd_put g3 2 1 (by decide)
      have d4 : kI ν4 rd 4 = nI (b + 1) := by rw [v4, if_neg (by omega), c4]
      have L := K4_next_ld (kk := fun s_289 => K4_next_B289 s_289) g4 gF (b + 1) (by omega) (by unfold gF; omega)
      rw [kSetI_self d4] at L
      rw [e4, L]
      obtain ⟨ν5, e5, g5, v5, f5⟩ := rd_put g4 4 (nI (scn (cLD T) n (b + 1))) (by decide)
      rw [e5]
      exact ⟨ν5, rfl, g5, kfr_tr f5 (kfr_tr (S := sRd rd) f4 F3 (fun b i z => ⟨z.1, by omega⟩) (fun b i z => z)) (fun b i z => ⟨z.1, by omega⟩) (fun b i z => z), by rw [v5, if_neg (by omega), v4, if_pos ⟨rfl, rfl⟩], by rw [v5, if_neg (by omega), v4, if_neg (by omega), c3], by rw [v5, if_pos ⟨rfl, rfl⟩]⟩
    | false =>
      rw [if_pos (show bI false = 0 by decide), if_neg (show ¬ false = true by decide), if_neg (show ¬ false = true by decide)]
      cases hd : xDi (T b) with
      | true =>
        rw [if_neg (show ¬ bI true = 0 by decide), if_pos rfl, if_pos rfl]
        obtain ⟨ν4, e4, g4, v4, f4⟩ := rd_put g3 2 2 (by decide)
        have d4 : kI ν4 rd 4 = nI (b + 1) := by rw [v4, if_neg (by omega), c4]
        have L := K4_next_di (kk := fun s_289 => K4_next_B289 s_289) g4 gF (b + 1) (by omega) (by unfold gF; omega)
        rw [kSetI_self d4] at L
        rw [e4, L]
        obtain ⟨ν5, e5, g5, v5, f5⟩ := rd_put g4 4 (nI (scn (cDi T) n (b + 1))) (by decide)
        rw [e5]
        exact ⟨ν5, rfl, g5, kfr_tr f5 (kfr_tr (S := sRd rd) f4 F3 (fun b i z => ⟨z.1, by omega⟩) (fun b i z => z)) (fun b i z => ⟨z.1, by omega⟩) (fun b i z => z), by rw [v5, if_neg (by omega), v4, if_pos ⟨rfl, rfl⟩], by rw [v5, if_neg (by omega), v4, if_neg (by omega), c3], by rw [v5, if_pos ⟨rfl, rfl⟩]⟩
      | false =>
        rw [if_pos (show bI false = 0 by decide), if_neg (show ¬ false = true by decide), if_neg (show ¬ false = true by decide)]
        unfold K4_next_B270 K4_next_B275 K4_next_B286 K4_next_B289
        rw [if_neg (show ¬ (1 : Int32) = 0 by decide), if_pos (show (0 : Int32) = 0 from rfl), if_pos g3.1.1, if_pos g3.1.1, bnd_eq, bnd_eq]
        obtain ⟨ν4, e4, g4, v4, f4⟩ := rd_put g3 2 3 (by decide)
        obtain ⟨ν5, e5, g5, v5, f5⟩ := rd_put g3 2 4 (by decide)
        rw [e4, e5]
        have y : ∀ {P : Prop} [Decidable P], (P ↔ (T b = 59 ∨ T b = 61 ∨ T b = 60)) → P → ∃ ν', some ν4 = some ν' ∧ rdr ν' rd tp n T ∧ kfr (sRd rd) ν' ν ∧ (kI ν' rd 2 = if T b = 59 ∨ T b = 61 ∨ T b = 60 then 3 else 4) ∧ kI ν' rd 3 = nI b ∧ kI ν' rd 4 = nI (b + 1) := fun hP p => ⟨ν4, rfl, g4, kfr_tr f4 F3 (fun b i z => ⟨z.1, by omega⟩) (fun b i z => z), by rw [v4, if_pos ⟨rfl, rfl⟩, if_pos (hP.mp p)], by rw [v4, if_neg (by omega), c3], by rw [v4, if_neg (by omega), c4]⟩
        have e59 : kb (T b) = 59 ↔ T b = 59 := kb_eq (x := T b) (c := 59) t2 (by omega)
        have e61 : kb (T b) = 61 ↔ T b = 61 := kb_eq (x := T b) (c := 61) t2 (by omega)
        have e60 : kb (T b) = 60 ↔ T b = 60 := kb_eq (x := T b) (c := 60) t2 (by omega)
        by_cases q1 : T b = 59
        · rw [if_pos (e59.mpr q1)]
          exact y (P := T b = 59 ∨ T b = 61 ∨ T b = 60) Iff.rfl (Or.inl q1)
        rw [if_neg (fun z => q1 (e59.mp z))]
        by_cases q2 : T b = 61
        · rw [if_pos (e61.mpr q2)]
          exact y (P := T b = 59 ∨ T b = 61 ∨ T b = 60) Iff.rfl (Or.inr (Or.inl q2))
        rw [if_neg (fun z => q2 (e61.mp z))]
        by_cases q3 : T b = 60
        · rw [if_pos (e60.mpr q3)]
          exact y (P := T b = 59 ∨ T b = 61 ∨ T b = 60) Iff.rfl (Or.inr (Or.inr q3))
        rw [if_neg (fun z => q3 (e60.mp z))]
        exact ⟨ν5, rfl, g5, kfr_tr f5 F3 (fun b i z => ⟨z.1, by omega⟩) (fun b i z => z), by rw [v5, if_pos ⟨rfl, rfl⟩, if_neg (by rintro (z | z | z); exact q1 z; exact q2 z; exact q3 z)], by rw [v5, if_neg (by omega), c3], by rw [v5, if_neg (by omega), c4]⟩
  · have nb : n ≤ b := by omega
    rw [if_neg (fun z => i_le_n (nI_le nb (by omega)) z), bnd_eq, if_pos nb, if_pos nb]
    obtain ⟨ν4, e4, g4, v4, f4⟩ := rd_put g2 2 0 (by decide)
    rw [e4]
    exact ⟨ν4, rfl, g4, kfr_tr f4 F2 (fun b i z => ⟨z.1, by omega⟩) (fun b i z => z), by rw [v4, if_pos ⟨rfl, rfl⟩], by rw [v4, if_neg (by omega), b3], by rw [v4, if_neg (by omega), b4]⟩
/-! the reference -/
def mrd (τ : Ms) (n : Nat) (T : Nat → Int32) : Prop := τ.1 40 = nI n ∧ n ≤ 1000 ∧ τ.2 38 = T ∧ ∀ j, j < 1000 → ibt (T j) 256
theorem mSet_sf {k : Nat} {x : Int32} (h : τ.1 k = x) : mSet τ k x = τ := by
  have e : upd τ.1 k x = τ.1 := by
    funext j
    unfold upd
    by_cases c : j = k
    · rw [if_pos c, c]; exact h.symm
    · rw [if_neg c]
  unfold mSet
  rw [e]
theorem mSet_mSet {k : Nat} {x y : Int32} : mSet (mSet τ k x) k y = mSet τ k y := by
  have e : upd (upd τ.1 k x) k y = upd τ.1 k y := by
    funext j
    unfold upd
    by_cases c : j = k
    · rw [if_pos c, if_pos c]
    · rw [if_neg c, if_neg c, if_neg c]
  unfold mSet
  rw [e]
theorem byteAt_eq (h : mrd τ n T) {p : Nat} (hp : p ≤ n) : M_byteAt τ (nI p) = some (if p < n then T p else -1) := by
  have hn := h.2.1
  unfold M_byteAt M_byteAt_B18
  rw [h.1]
  by_cases c : p < n
  · rw [if_neg (nI_ge c (by omega)), if_pos ((okI_nI (by omega)).mpr (by omega)), nI_clamp (by omega), h.2.2.1, if_pos c]
  · rw [if_pos (nI_le (by omega) (by omega)), if_neg c]
theorem mrd_set (h : mrd τ n T) {k : Nat} {x : Int32} (hk : k ≠ 40) : mrd (mSet τ k x) n T := ⟨by rw [mSet_at, if_neg (fun z => hk z.symm)]; exact h.1, h.2⟩
theorem M_step_sp {Rt : Type} {kk : Ms → Option Rt} (h : mrd τ n T) : ∀ F p : Nat, p ≤ n → n < p + F → M_step_L0 kk F (mSet τ 39 (nI p)) = kk (mSet τ 39 (nI (scn (cSp T) n p))) := by
  intro F
  induction F with
  | zero => intro p h1 h2; omega
  | succ F ih =>
    intro p h1 h2
    have g := mrd_set (k := 39) (x := nI p) h (by decide)
    have hn := h.2.1
    unfold M_step_L0 M_step_B26
    rw [mSet_at, if_pos rfl, byteAt_eq g h1, ob_some, ob_some, scn_step, bnd_eq, mSet_mSet, nI_1]
    by_cases c : p < n
    · have ih' := ih (p + 1) (by omega) (by omega)
      rw [if_pos c]
      by_cases c1 : T p = 32
      · rw [if_pos c1, if_pos ⟨c, by unfold cSp; exact decide_eq_true (Or.inl c1)⟩]; exact ih'
      · rw [if_neg c1]
        by_cases c2 : T p = 10
        · rw [if_pos c2, if_pos ⟨c, by unfold cSp; exact decide_eq_true (Or.inr c2)⟩]; exact ih'
        · rw [if_neg c2, if_neg (fun z => by rcases of_decide_eq_true z.2 with w | w; exact c1 w; exact c2 w)]
    · rw [if_neg c, if_neg (by decide), if_neg (by decide), if_neg (fun z => c z.1)]
theorem M_step_di {Rt : Type} {kk : Ms → Option Rt} (h : mrd τ n T) : ∀ F p : Nat, p ≤ n → n < p + F → M_step_L137 kk F (mSet τ 39 (nI p)) = kk (mSet τ 39 (nI (scn (cDi T) n p))) := by
  intro F
  induction F with
  | zero => intro p h1 h2; omega
  | succ F ih =>
    intro p h1 h2
    have g := mrd_set (k := 39) (x := nI p) h (by decide)
    have hn := h.2.1
    unfold M_step_L137
    rw [mSet_at, if_pos rfl, byteAt_eq g h1, ob_some, isDi_eq, ob_some, scn_step, bnd_eq, mSet_mSet, nI_1]
    by_cases c : p < n
    · have ih' := ih (p + 1) (by omega) (by omega)
      rw [if_pos c]
      cases hd : xDi (T p) with
      | true => rw [if_neg (by decide), if_pos ⟨c, hd⟩]; exact ih'
      | false => rw [if_pos (by decide), if_neg (fun z => by have w := z.2; unfold cDi at w; rw [hd] at w; cases w)]
    · rw [if_neg c, if_pos (by decide), if_neg (fun z => c z.1)]
theorem M_step_ld {Rt : Type} {kk : Ms → Option Rt} (h : mrd τ n T) : ∀ F p : Nat, p ≤ n → n < p + F → M_step_L81 kk F (mSet τ 39 (nI p)) = kk (mSet τ 39 (nI (scn (cLD T) n p))) := by
  intro F
  induction F with
  | zero => intro p h1 h2; omega
  | succ F ih =>
    intro p h1 h2
    have g := mrd_set (k := 39) (x := nI p) h (by decide)
    have hn := h.2.1
    unfold M_step_L81 M_step_B109
    rw [mSet_at, if_pos rfl, byteAt_eq g h1, ob_some, ob_some, isDi_eq, ob_some, isLe_eq, ob_some, scn_step, bnd_eq, mSet_mSet, nI_1]
    by_cases c : p < n
    · have ih' := ih (p + 1) (by omega) (by omega)
      rw [if_pos c]
      cases hl : xLe (T p) with
      | true => rw [if_neg (by decide), if_pos ⟨c, by unfold cLD cLe; rw [hl]; rfl⟩]; exact ih'
      | false =>
        rw [if_pos (by decide)]
        cases hd : xDi (T p) with
        | true => rw [if_neg (by decide), if_pos ⟨c, by unfold cLD cDi; rw [hd, Bool.or_true]⟩]; exact ih'
        | false => rw [if_pos (by decide), if_neg (fun z => by have w := z.2; unfold cLD cLe cDi at w; rw [hd, hl] at w; cases w)]
    · rw [if_neg c, if_pos (by decide), if_pos (by decide), if_neg (fun z => c z.1)]
theorem rm_put (h : mrd τ n T) (j : Nat) (x : Int32) (hj : sF j) : ∃ τ', mSet τ j x = τ' ∧ mrd τ' n T ∧ (∀ i, τ'.1 i = if i = j then x else τ.1 i) ∧ mfr sN τ' τ := ⟨_, rfl, mrd_set h hj.2.2, fun i => mSet_at _ _ _ i, fun k hk => by rw [mSet_at, if_neg (fun z => hk (by rw [z]; exact hj))], fun _ _ _ => rfl⟩
theorem sF_i {k : Nat} (h : 39 ≤ k ∧ k ≤ 46 ∧ k ≠ 40) : sF k := h
theorem M_step_eq (h : mrd τ n T) {p : Nat} (hp : p ≤ n) (h4 : τ.1 39 = nI p) : ∃ τ', M_step τ = some τ' ∧ mrd τ' n T ∧ mfr sN τ' τ ∧ (τ'.1 39 = nI (tkE T n (tkB T n p)) ∧ τ'.1 41 = tkT T n (tkB T n p) ∧ τ'.1 42 = tkS T n (tkB T n p) ∧ τ'.1 43 = nI (tkB T n p) ∧ τ'.1 44 = nI (tkE T n (tkB T n p))) ∧ τ'.1 45 = τ.1 45 := by
  have hb : tkB T n p ≤ n := scn_le _ hp
  have hn := h.2.1
  unfold M_step
  have e0 := fun (kk : Ms → Option Ms) => M_step_sp (kk := kk) h gF p hp (by unfold gF; omega)
  rw [mSet_sf h4] at e0
  rw [e0]
  rw [show scn (cSp T) n p = tkB T n p from rfl]
  generalize tkB T n p = b at hb ⊢
  obtain ⟨τ1, e1, g1, v1, f1⟩ := rm_put h 39 (nI b) (sF_i (by omega))
  have a1 : τ1.1 39 = nI b := by rw [v1, if_pos rfl]
  simp only [bnd_eq]
  rw [e1, a1]
  obtain ⟨τ2, e2, g2, v2, f2⟩ := rm_put g1 43 (nI b) (sF_i (by omega))
  rw [e2]
  obtain ⟨τ3, e3, g3, v3, f3⟩ := rm_put g2 42 0 (sF_i (by omega))
  rw [e3]
  have a3 : τ3.1 39 = nI b := by rw [v3, if_neg (by decide), v2, if_neg (by decide), a1]
  have w3 : ∀ i, τ3.1 i = if i = 42 then 0 else if i = 43 then nI b else if i = 39 then nI b else τ.1 i := fun i => by rw [v3, v2, v1]
  have F3 : mfr sN τ3 τ := mfr_tr f3 (mfr_tr (S := sN) f2 f1 (sN_le _) (sN_le _)) (sN_le _) (sN_le _)
  rw [a3, byteAt_eq g3 hb, ob_some]
  unfold M_step_B206 M_step_B201 M_step_B206 M_step_B214
  unfold tkT tkE tkS
  by_cases c : b < n
  · have nb : ¬ n ≤ b := by omega
    rw [if_pos c, if_neg nb, if_neg nb, if_neg nb]
    have t2 := g3.2.2.2 b (by omega)
    have tm : ¬ T b = -1 := by
      obtain ⟨v, hv, ev⟩ := t2
      rw [ev]; exact i_m1_ne (by omega)
    rw [if_neg tm, isLe_eq, ob_some, isDi_eq, ob_some]
    simp only [bnd_eq]
    rw [show cLe T b = xLe (T b) from rfl, show cDi T b = xDi (T b) from rfl]
    cases hl : xLe (T b) with
    | true =>
      rw [if_neg (show ¬ bI true = 0 by decide), if_pos rfl, if_pos rfl, if_pos rfl]
      have L := fun (kk : Ms → Option Ms) => M_step_ld (kk := kk) g3 gF b (by omega) (by unfold gF; omega)
      rw [mSet_sf a3, scn_step, if_pos ⟨c, by unfold cLD cLe; rw [hl]; rfl⟩] at L
      rw [L]
      obtain ⟨τ4, e4, g4, v4, f4⟩ := rm_put g3 39 (nI (scn (cLD T) n (b + 1))) (sF_i (by omega))
      rw [e4]
      obtain ⟨τ5, e5, g5, v5, f5⟩ := rm_put g4 41 1 (sF_i (by omega))
      rw [e5]
      have a5 : τ5.1 39 = nI (scn (cLD T) n (b + 1)) := by rw [v5, if_neg (by decide), v4, if_pos rfl]
      rw [a5]
      obtain ⟨τ6, e6, g6, v6, f6⟩ := rm_put g5 44 (nI (scn (cLD T) n (b + 1))) (sF_i (by omega))
      rw [e6]
      refine ⟨τ6, rfl, g6, mfr_tr f6 (mfr_tr (S := sN) f5 (mfr_tr (S := sN) f4 F3 (sN_le _) (sN_le _)) (sN_le _) (sN_le _)) (sN_le _) (sN_le _), ⟨?_, ?_, ?_, ?_, ?_⟩, ?_⟩
      · rw [v6, if_neg (by decide), a5]
      · rw [v6, if_neg (by decide), v5, if_pos rfl]
      · rw [v6, if_neg (by decide), v5, if_neg (by decide), v4, if_neg (by decide), w3, if_pos rfl]
      · rw [v6, if_neg (by decide), v5, if_neg (by decide), v4, if_neg (by decide), w3, if_neg (by decide), if_pos rfl]
      · rw [v6, if_pos rfl]
      · rw [v6, if_neg (by decide), v5, if_neg (by decide), v4, if_neg (by decide), w3, if_neg (by decide), if_neg (by decide), if_neg (by decide)]
    | false =>
      rw [if_pos (show bI false = 0 by decide), if_neg (show ¬ false = true by decide), if_neg (show ¬ false = true by decide), if_neg (show ¬ false = true by decide)]
      cases hd : xDi (T b) with
      | true =>
        rw [if_neg (show ¬ bI true = 0 by decide), if_pos rfl, if_pos rfl, if_pos rfl]
        have L := fun (kk : Ms → Option Ms) => M_step_di (kk := kk) g3 gF b (by omega) (by unfold gF; omega)
        rw [mSet_sf a3, scn_step, if_pos ⟨c, hd⟩] at L
        rw [L]
        obtain ⟨τ4, e4, g4, v4, f4⟩ := rm_put g3 39 (nI (scn (cDi T) n (b + 1))) (sF_i (by omega))
        rw [e4]
        obtain ⟨τ5, e5, g5, v5, f5⟩ := rm_put g4 41 2 (sF_i (by omega))
        rw [e5]
        have a5 : τ5.1 39 = nI (scn (cDi T) n (b + 1)) := by rw [v5, if_neg (by decide), v4, if_pos rfl]
        rw [a5]
        obtain ⟨τ6, e6, g6, v6, f6⟩ := rm_put g5 44 (nI (scn (cDi T) n (b + 1))) (sF_i (by omega))
        rw [e6]
        refine ⟨τ6, rfl, g6, mfr_tr f6 (mfr_tr (S := sN) f5 (mfr_tr (S := sN) f4 F3 (sN_le _) (sN_le _)) (sN_le _) (sN_le _)) (sN_le _) (sN_le _), ⟨?_, ?_, ?_, ?_, ?_⟩, ?_⟩
        · rw [v6, if_neg (by decide), a5]
        · rw [v6, if_neg (by decide), v5, if_pos rfl]
        · rw [v6, if_neg (by decide), v5, if_neg (by decide), v4, if_neg (by decide), w3, if_pos rfl]
        · rw [v6, if_neg (by decide), v5, if_neg (by decide), v4, if_neg (by decide), w3, if_neg (by decide), if_pos rfl]
        · rw [v6, if_pos rfl]
        · rw [v6, if_neg (by decide), v5, if_neg (by decide), v4, if_neg (by decide), w3, if_neg (by decide), if_neg (by decide), if_neg (by decide)]
      | false =>
        rw [if_pos (show bI false = 0 by decide), if_neg (show ¬ false = true by decide), if_neg (show ¬ false = true by decide), if_neg (show ¬ false = true by decide), nI_1]
        obtain ⟨τ4, e4, g4, v4, f4⟩ := rm_put g3 39 (nI (b + 1)) (sF_i (by omega))
        rw [e4]
        have fin : ∀ x : Int32, ∃ τ', (some (mSet (mSet (mSet τ4 41 x) 42 (T b)) 44 ((mSet (mSet τ4 41 x) 42 (T b)).1 39)) : Option Ms) = some τ' ∧ mrd τ' n T ∧ mfr sN τ' τ ∧ (τ'.1 39 = nI (b + 1) ∧ τ'.1 41 = x ∧ τ'.1 42 = T b ∧ τ'.1 43 = nI b ∧ τ'.1 44 = nI (b + 1)) ∧ τ'.1 45 = τ.1 45 := by
          intro x
          obtain ⟨τ5, e5, g5, v5, f5⟩ := rm_put g4 41 x (sF_i (by omega))
          rw [e5]
          obtain ⟨τ6, e6, g6, v6, f6⟩ := rm_put g5 42 (T b) (sF_i (by omega))
          rw [e6]
          have a6 : τ6.1 39 = nI (b + 1) := by rw [v6, if_neg (by decide), v5, if_neg (by decide), v4, if_pos rfl]
          rw [a6]
          obtain ⟨τ7, e7, g7, v7, f7⟩ := rm_put g6 44 (nI (b + 1)) (sF_i (by omega))
          rw [e7]
          refine ⟨τ7, rfl, g7, mfr_tr f7 (mfr_tr (S := sN) f6 (mfr_tr (S := sN) f5 (mfr_tr (S := sN) f4 F3 (sN_le _) (sN_le _)) (sN_le _) (sN_le _)) (sN_le _) (sN_le _)) (sN_le _) (sN_le _), ⟨?_, ?_, ?_, ?_, ?_⟩, ?_⟩
          · rw [v7, if_neg (by decide), a6]
          · rw [v7, if_neg (by decide), v6, if_neg (by decide), v5, if_pos rfl]
          · rw [v7, if_neg (by decide), v6, if_pos rfl]
          · rw [v7, if_neg (by decide), v6, if_neg (by decide), v5, if_neg (by decide), v4, if_neg (by decide), w3, if_neg (by decide), if_pos rfl]
          · rw [v7, if_pos rfl]
          · rw [v7, if_neg (by decide), v6, if_neg (by decide), v5, if_neg (by decide), v4, if_neg (by decide), w3, if_neg (by decide), if_neg (by decide), if_neg (by decide)]
        by_cases q1 : T b = 59
        · rw [if_pos q1, if_pos (Or.inl q1)]; exact fin 3
        rw [if_neg q1]
        by_cases q2 : T b = 61
        · rw [if_pos q2, if_pos (Or.inr (Or.inl q2))]; exact fin 3
        rw [if_neg q2]
        by_cases q3 : T b = 60
        · rw [if_pos q3, if_pos (Or.inr (Or.inr q3))]; exact fin 3
        rw [if_neg q3, if_neg (by rintro (z | z | z); exact q1 z; exact q2 z; exact q3 z)]
        exact fin 4
  · have nb : n ≤ b := by omega
    rw [if_neg c, if_pos rfl, if_pos nb, if_pos nb, if_pos nb, bnd_eq]
    obtain ⟨τ5, e5, g5, v5, f5⟩ := rm_put g3 41 0 (sF_i (by omega))
    rw [e5]
    have a5 : τ5.1 39 = nI b := by rw [v5, if_neg (by decide), a3]
    rw [a5]
    obtain ⟨τ6, e6, g6, v6, f6⟩ := rm_put g5 44 (nI b) (sF_i (by omega))
    rw [e6]
    refine ⟨τ6, rfl, g6, mfr_tr f6 (mfr_tr (S := sN) f5 F3 (sN_le _) (sN_le _)) (sN_le _) (sN_le _), ⟨?_, ?_, ?_, ?_, ?_⟩, ?_⟩
    · rw [v6, if_neg (by decide), a5]
    · rw [v6, if_neg (by decide), v5, if_pos rfl]
    · rw [v6, if_neg (by decide), v5, if_neg (by decide), w3, if_pos rfl]
    · rw [v6, if_neg (by decide), v5, if_neg (by decide), w3, if_neg (by decide), if_pos rfl]
    · rw [v6, if_pos rfl]
    · rw [v6, if_neg (by decide), v5, if_neg (by decide), w3, if_neg (by decide), if_neg (by decide), if_neg (by decide)]
/-! both -/
def sy (ν : Km) (τ : Ms) (rd tp n : Nat) (T : Nat → Int32) (b e : Nat) (tk sg : Int32) : Prop := rdr ν rd tp n T ∧ mrd τ n T ∧ τ.1 45 = 0 ∧ tkOk T n b e tk sg ∧ (kI ν rd 2 = tk ∧ kI ν rd 3 = nI b ∧ kI ν rd 4 = nI e) ∧ (τ.1 39 = nI e ∧ τ.1 41 = tk ∧ τ.1 42 = sg ∧ τ.1 43 = nI b ∧ τ.1 44 = nI e) ∧ kI ν rd 5 = 0
def Sy (ν : Km) (τ : Ms) (rd tp n : Nat) (T : Nat → Int32) : Prop := ∃ b e tk sg, sy ν τ rd tp n T b e tk sg
theorem step_both (h1 : rdr ν rd tp n T) (h2 : mrd τ n T) (h3 : τ.1 45 = 0) (h7 : kI ν rd 5 = 0) {p : Nat} (hp : p ≤ n) (h4 : kI ν rd 4 = nI p) (h5 : τ.1 39 = nI p) : ∃ ν' τ', K4_next ν rd = some ν' ∧ M_step τ = some τ' ∧ Sy ν' τ' rd tp n T ∧ kfr (sRd rd) ν' ν ∧ mfr sN τ' τ := by
  obtain ⟨ν', a1, a2, a3, a4, a5, a6⟩ := K4_next_eq h1 hp h4
  obtain ⟨τ', b1, b2, b3, b4, b5⟩ := M_step_eq h2 hp h5
  exact ⟨ν', τ', a1, b1, ⟨_, _, _, _, a2, b2, b5.trans h3, tkOk_next T hp, ⟨a4, a5, a6⟩, b4, by rw [a3.2 _ _ (fun z => by have := z.2; omega)]; exact h7⟩, a3, b3⟩
theorem next_both (h : Sy ν τ rd tp n T) : ∃ ν' τ', K4_next ν rd = some ν' ∧ M_step τ = some τ' ∧ Sy ν' τ' rd tp n T ∧ kfr (sRd rd) ν' ν ∧ mfr sN τ' τ := by
  obtain ⟨b, e, tk, sg, h1, h2, h3, h4, h5, h6, h7⟩ := h
  exact step_both h1 h2 h3 h7 h4.2.1 h5.2.2 h6.1
end NEXT
