/-! a step to the next token: both sides -/
section STEP
variable {μ ν : Km} {σ τ : Ms} {rd tp n : Nat} {T : Nat → Int32}
theorem kSetI_self {a j : Nat} {x : Int32} (h : kI ν a j = x) : kSetI ν a j x = ν := by
  have e : va_up ν.2.1 a (upd (ν.2.1 a) j x) = ν.2.1 := by
    funext b i
    have h1 := kI_set (μ := ν) (a := a) (j := j) (x := x) b i
    show kI (kSetI ν a j x) b i = kI ν b i
    rw [h1]
    by_cases c : b = a ∧ i = j
    · rw [if_pos c, c.1, c.2]; exact h.symm
    · rw [if_neg c]
  unfold kSetI
  rw [e]
theorem kSetI_kSetI {a j : Nat} {x y : Int32} : kSetI (kSetI ν a j x) a j y = kSetI ν a j y := by
  have e : (kSetI (kSetI ν a j x) a j y).2.1 = (kSetI ν a j y).2.1 := by
    funext b i
    have h1 := kI_set (μ := kSetI ν a j x) (a := a) (j := j) (x := y) b i
    have h2 := kI_set (μ := ν) (a := a) (j := j) (x := y) b i
    have h3 := kI_set (μ := ν) (a := a) (j := j) (x := x) b i
    have h4 : kI (kSetI (kSetI ν a j x) a j y) b i = kI (kSetI ν a j y) b i := by
      rw [h1, h2, h3]
      by_cases c : b = a ∧ i = j
      · rw [if_pos c, if_pos c]
      · rw [if_neg c, if_neg c, if_neg c]
    exact h4
  exact Prod.ext rfl (Prod.ext e rfl)
def kag (S : Nat → Prop) (ν' ν : Km) : Prop := (kK ν' = kK ν ∧ kR ν' = kR ν ∧ kN ν' = kN ν ∧ kn ν' = kn ν) ∧ ∀ b, ¬ S b → kI ν' b = kI ν b
theorem kag_rf (S : Nat → Prop) (ν : Km) : kag S ν ν := ⟨⟨rfl, rfl, rfl, rfl⟩, fun _ _ => rfl⟩
theorem kag_tr {S : Nat → Prop} {ν2 ν1 ν : Km} (h1 : kag S ν2 ν1) (h2 : kag S ν1 ν) : kag S ν2 ν := ⟨⟨h1.1.1.trans h2.1.1, h1.1.2.1.trans h2.1.2.1, h1.1.2.2.1.trans h2.1.2.2.1, h1.1.2.2.2.trans h2.1.2.2.2⟩, fun b q => (h1.2 b q).trans (h2.2 b q)⟩
theorem kag_set {S : Nat → Prop} {a j : Nat} {x : Int32} (ha : S a) (h : kag S ν μ) : kag S (kSetI ν a j x) μ := by
  refine ⟨h.1, fun b hb => ?_⟩
  funext i
  rw [kI_set, if_neg (fun z => hb (by rw [z.1]; exact ha)), h.2 b hb]
theorem kag_mono {S S' : Nat → Prop} (hS : ∀ b, S b → S' b) (h : kag S ν μ) : kag S' ν μ := ⟨h.1, fun b hb => h.2 b (fun z => hb (hS b z))⟩
/-- the reader rd, its text tp of n bytes T -/
def rdr (ν : Km) (rd tp n : Nat) (T : Nat → Int32) : Prop := (kK ν rd = 4 ∧ kR ν rd 0 = some tp ∧ kK ν tp = 11 ∧ kN ν tp = 1000) ∧ kI ν rd 1 = nI n ∧ n ≤ 1000 ∧ ∀ j, j < 1000 → kI ν tp j = kb (T j) ∧ ibt (T j) 256
theorem rdr_ne (h : rdr ν rd tp n T) : tp ≠ rd := fun z => by
  have h1 := h.1.1
  rw [← z, h.1.2.2.1] at h1
  cases h1
theorem rdr_set (h : rdr ν rd tp n T) {j : Nat} {x : Int32} (hj : j ≠ 1) : rdr (kSetI ν rd j x) rd tp n T := by
  refine ⟨h.1, ?_, h.2.2.1, fun i hi => ?_⟩
  · rw [kI_set, if_neg (fun z => hj z.2.symm)]; exact h.2.1
  · rw [kI_set, if_neg (fun z => rdr_ne h z.1)]; exact h.2.2.2 i hi
theorem rdr_kag {S : Nat → Prop} (h : rdr ν rd tp n T) (hk : kag S μ ν) (h1 : ¬ S tp) (h2 : kI μ rd 1 = kI ν rd 1) : rdr μ rd tp n T := by
  refine ⟨?_, h2.trans h.2.1, h.2.2.1, fun i hi => ?_⟩
  · rw [hk.1.1, hk.1.2.1, hk.1.2.2.1]; exact h.1
  · rw [hk.2 tp h1]; exact h.2.2.2 i hi
theorem K4_next_sp {Rt : Type} {kk : Km → Option Rt} (h : rdr ν rd tp n T) : ∀ F p : Nat, p ≤ n → n < p + F → K4_next_L8 rd kk F (kSetI ν rd 3 (nI p)) = kk (kSetI ν rd 3 (nI (scn (cSp T) n p))) := by
  intro F
  induction F with
  | zero => intro p h1 h2; omega
  | succ F ih =>
    intro p h1 h2
    have g := rdr_set (j := 3) (x := nI p) h (by decide)
    have g3 : kI (kSetI ν rd 3 (nI p)) rd 3 = nI p := by rw [kI_set, if_pos ⟨rfl, rfl⟩]
    have hn := h.2.2.1
    conv => lhs; unfold K4_next_L8
    unfold K4_next_B47
    rw [if_pos g.1.1, g.2.1, g3, scn_step]
    by_cases c : p < n
    · obtain ⟨t1, t2⟩ := g.2.2.2 p (by omega)
      have o1 := (okI_nI (show p < 2 ^ 31 by omega)).mpr (show p < 1000 by omega)
      have ih' := ih (p + 1) (by omega) (by omega)
      rw [if_neg (nI_ge c (by omega)), g.1.2.1, ob_some, if_pos g.1.2.2.1, g.1.2.2.2, if_pos o1, nI_clamp (by omega), t1, bnd_eq, kSetI_kSetI, nI_1, ob_some, if_pos g.1.2.2.1, g.1.2.2.2, if_pos o1, t1, if_pos g.1.1]
      have e32 : kb (T p) = 32 ↔ T p = 32 := kb_eq (x := T p) (c := 32) t2 (by omega)
      have e10 : kb (T p) = 10 ↔ T p = 10 := kb_eq (x := T p) (c := 10) t2 (by omega)
      by_cases c1 : T p = 32
      · rw [if_pos (e32.mpr c1), if_pos ⟨c, by unfold cSp; exact decide_eq_true (Or.inl c1)⟩]
        exact ih'
      · rw [if_neg (fun z => c1 (e32.mp z))]
        by_cases c2 : T p = 10
        · rw [if_pos (e10.mpr c2), if_pos ⟨c, by unfold cSp; exact decide_eq_true (Or.inr c2)⟩]
          exact ih'
        · rw [if_neg (fun z => c2 (e10.mp z)), if_neg (fun z => by rcases of_decide_eq_true z.2 with w | w; exact c1 w; exact c2 w)]
    · rw [if_pos (nI_le (by omega) (by omega)), if_neg (fun z => c z.1)]
theorem K4_next_di {Rt : Type} {kk : Km → Option Rt} (h : rdr ν rd tp n T) : ∀ F p : Nat, p ≤ n → n < p + F → K4_next_L189 rd kk F (kSetI ν rd 4 (nI p)) = kk (kSetI ν rd 4 (nI (scn (cDi T) n p))) := by
  intro F
  induction F with
  | zero => intro p h1 h2; omega
  | succ F ih =>
    intro p h1 h2
    have g := rdr_set (j := 4) (x := nI p) h (by decide)
    have g3 : kI (kSetI ν rd 4 (nI p)) rd 4 = nI p := by rw [kI_set, if_pos ⟨rfl, rfl⟩]
    have hn := h.2.2.1
    conv => lhs; unfold K4_next_L189
    rw [if_pos g.1.1, g.2.1, g3, scn_step]
    by_cases c : p < n
    · obtain ⟨t1, t2⟩ := g.2.2.2 p (by omega)
      have o1 := (okI_nI (show p < 2 ^ 31 by omega)).mpr (show p < 1000 by omega)
      have ih' := ih (p + 1) (by omega) (by omega)
      rw [if_neg (nI_ge c (by omega)), g.1.2.1, ob_some, if_pos g.1.2.2.1, g.1.2.2.2, if_pos o1, nI_clamp (by omega), t1, K_isDi, ob_some, kb_Di t2, bnd_eq, kSetI_kSetI, nI_1]
      cases hd : xDi (T p) with
      | true => rw [if_neg (by decide), if_pos ⟨c, hd⟩]; exact ih'
      | false => rw [if_pos (by decide), if_neg (fun z => by have w := z.2; unfold cDi at w; rw [hd] at w; cases w)]
    · rw [if_pos (nI_le (by omega) (by omega)), if_neg (fun z => c z.1)]
theorem K4_next_ld {Rt : Type} {kk : Km → Option Rt} (h : rdr ν rd tp n T) : ∀ F p : Nat, p ≤ n → n < p + F → K4_next_L115 rd kk F (kSetI ν rd 4 (nI p)) = kk (kSetI ν rd 4 (nI (scn (cLD T) n p))) := by
  intro F
  induction F with
  | zero => intro p h1 h2; omega
  | succ F ih =>
    intro p h1 h2
    have g := rdr_set (j := 4) (x := nI p) h (by decide)
    have g3 : kI (kSetI ν rd 4 (nI p)) rd 4 = nI p := by rw [kI_set, if_pos ⟨rfl, rfl⟩]
    have hn := h.2.2.1
    conv => lhs; unfold K4_next_L115
    unfold K4_next_B156
    rw [if_pos g.1.1, g.2.1, g3, scn_step]
    by_cases c : p < n
    · obtain ⟨t1, t2⟩ := g.2.2.2 p (by omega)
      have o1 := (okI_nI (show p < 2 ^ 31 by omega)).mpr (show p < 1000 by omega)
      have ih' := ih (p + 1) (by omega) (by omega)
      rw [if_neg (nI_ge c (by omega)), g.1.2.1, ob_some, if_pos g.1.2.2.1, g.1.2.2.2, if_pos o1, nI_clamp (by omega), t1, K_isLe, ob_some, ob_some, if_pos g.1.2.2.1, g.1.2.2.2, if_pos o1, t1, K_isDi, ob_some, kb_Di t2, kb_Le t2, bnd_eq, kSetI_kSetI, nI_1, if_pos g.1.1]
      cases hl : xLe (T p) with
      | true => rw [if_neg (by decide), if_pos ⟨c, by unfold cLD cLe; rw [hl]; rfl⟩]; exact ih'
      | false =>
        rw [if_pos (by decide)]
        cases hd : xDi (T p) with
        | true => rw [if_neg (by decide), if_pos ⟨c, by unfold cLD cDi; rw [hd, Bool.or_true]⟩]; exact ih'
        | false => rw [if_pos (by decide), if_neg (fun z => by have w := z.2; unfold cLD cLe cDi at w; rw [hd, hl] at w; cases w)]
    · rw [if_pos (nI_le (by omega) (by omega)), if_neg (fun z => c z.1)]
end STEP
