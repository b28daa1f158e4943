/-! tokens of a tape -/
section TOK
def scF (P : Nat → Bool) (n : Nat) : Nat → Nat → Nat
  | 0, p => p
  | F + 1, p => if p < n ∧ P p = true then scF P n F (p + 1) else p
def scn (P : Nat → Bool) (n p : Nat) : Nat := scF P n (n - p) p
theorem scn_step (P : Nat → Bool) (n p : Nat) : scn P n p = if p < n ∧ P p = true then scn P n (p + 1) else p := by
  unfold scn
  by_cases c : p < n
  · rw [show n - p = (n - (p + 1)) + 1 by omega]; rfl
  · rw [show n - p = 0 by omega, if_neg (fun z => c z.1)]; rfl
theorem scF_ok (P : Nat → Bool) (n : Nat) : ∀ F p : Nat, p ≤ scF P n F p ∧ (p ≤ n → scF P n F p ≤ n) ∧ ∀ j, p ≤ j → j < scF P n F p → P j = true := by
  intro F
  induction F with
  | zero => intro p; exact ⟨Nat.le_refl _, fun h => h, fun j h1 h2 => absurd h2 (by unfold scF; omega)⟩
  | succ F ih =>
    intro p
    unfold scF
    by_cases c : p < n ∧ P p = true
    · rw [if_pos c]
      obtain ⟨h1, h2, h3⟩ := ih (p + 1)
      refine ⟨by omega, fun _ => h2 (by omega), fun j q1 q2 => ?_⟩
      rcases Nat.lt_or_ge p j with w | w
      · exact h3 j w q2
      · rw [show j = p by omega]; exact c.2
    · rw [if_neg c]
      exact ⟨Nat.le_refl _, fun h => h, fun j q1 q2 => by omega⟩
theorem scn_ge (P : Nat → Bool) (n p : Nat) : p ≤ scn P n p := (scF_ok P n _ p).1
theorem scn_le (P : Nat → Bool) {n p : Nat} (h : p ≤ n) : scn P n p ≤ n := (scF_ok P n _ p).2.1 h
theorem scn_all (P : Nat → Bool) (n p : Nat) {j : Nat} (h1 : p ≤ j) (h2 : j < scn P n p) : P j = true := (scF_ok P n _ p).2.2 j h1 h2
def cSp (T : Nat → Int32) (j : Nat) : Bool := decide (T j = 32 ∨ T j = 10)
def xLe (x : Int32) : Bool := decide (¬ x < 97 ∧ ¬ 122 < x)
def xDi (x : Int32) : Bool := decide (¬ x < 48 ∧ ¬ 57 < x)
def cLe (T : Nat → Int32) (j : Nat) : Bool := xLe (T j)
def cDi (T : Nat → Int32) (j : Nat) : Bool := xDi (T j)
def cLD (T : Nat → Int32) (j : Nat) : Bool := cLe T j || cDi T j
def tkB (T : Nat → Int32) (n p : Nat) : Nat := scn (cSp T) n p
def tkT (T : Nat → Int32) (n b : Nat) : Int32 := if n ≤ b then 0 else if cLe T b = true then 1 else if cDi T b = true then 2 else if T b = 59 ∨ T b = 61 ∨ T b = 60 then 3 else 4
def tkE (T : Nat → Int32) (n b : Nat) : Nat := if n ≤ b then b else if cLe T b = true then scn (cLD T) n (b + 1) else if cDi T b = true then scn (cDi T) n (b + 1) else b + 1
def tkS (T : Nat → Int32) (n b : Nat) : Int32 := if n ≤ b then 0 else if cLe T b = true then 0 else if cDi T b = true then 0 else T b
/-- what a token is like -/
def tkOk (T : Nat → Int32) (n b e : Nat) (tk sg : Int32) : Prop := b ≤ e ∧ e ≤ n ∧ (tk = 1 → b < e) ∧ (tk = 2 → b < e ∧ ∀ j, b ≤ j → j < e → xDi (T j) = true) ∧ (tk = 3 → b < e ∧ sg = T b) ∧ (tk = 0 ↔ n ≤ b)
theorem tkOk_next (T : Nat → Int32) {n p : Nat} (hp : p ≤ n) : tkOk T n (tkB T n p) (tkE T n (tkB T n p)) (tkT T n (tkB T n p)) (tkS T n (tkB T n p)) := by
  have h1 : tkB T n p ≤ n := scn_le _ hp
  generalize tkB T n p = b at h1
  unfold tkOk tkE tkT tkS
  by_cases c1 : n ≤ b
  · rw [if_pos c1, if_pos c1, if_pos c1]
    exact ⟨Nat.le_refl _, h1, fun z => absurd z (by decide), fun z => absurd z (by decide), fun z => absurd z (by decide), fun _ => c1, fun _ => rfl⟩
  · rw [if_neg c1, if_neg c1, if_neg c1]
    by_cases c2 : cLe T b = true
    · rw [if_pos c2, if_pos c2, if_pos c2]
      have g1 := scn_ge (cLD T) n (b + 1)
      have g2 := scn_le (cLD T) (n := n) (p := b + 1) (by omega)
      exact ⟨by omega, g2, fun _ => by omega, fun z => absurd z (by decide), fun z => absurd z (by decide), fun z => absurd z (by decide), fun z => absurd z c1⟩
    · rw [if_neg c2, if_neg c2, if_neg c2]
      by_cases c3 : cDi T b = true
      · rw [if_pos c3, if_pos c3, if_pos c3]
        have g1 := scn_ge (cDi T) n (b + 1)
        have g2 := scn_le (cDi T) (n := n) (p := b + 1) (by omega)
        refine ⟨by omega, g2, fun z => absurd z (by decide), fun _ => ⟨by omega, fun j q1 q2 => ?_⟩, fun z => absurd z (by decide), fun z => absurd z (by decide), fun z => absurd z c1⟩
        rcases Nat.lt_or_ge b j with w | w
        · exact scn_all (cDi T) n (b + 1) w q2
        · rw [show j = b by omega]; exact c3
      · rw [if_neg c3, if_neg c3, if_neg c3]
        by_cases c4 : T b = 59 ∨ T b = 61 ∨ T b = 60
        · rw [if_pos c4]
          exact ⟨by omega, by omega, fun z => absurd z (by decide), fun z => absurd z (by decide), fun _ => ⟨by omega, rfl⟩, fun z => absurd z (by decide), fun z => absurd z c1⟩
        · rw [if_neg c4]
          exact ⟨by omega, by omega, fun z => absurd z (by decide), fun z => absurd z (by decide), fun z => absurd z (by decide), fun z => absurd z (by decide), fun z => absurd z c1⟩
/-! bytes of the class: signed -/
def kb (x : Int32) : Int32 := x.toInt8.toInt32
theorem kb_tab : ∀ v, v < 256 → kb (nI v) = if v < 128 then nI v else nI v - 256 := by decide +kernel
theorem kb_neg {v : Nat} (h : 128 ≤ v) (h2 : v < 256) : (nI v - 256).toInt = (v : Int) - 256 := pk_sub_toInt (a := v) (b := 256) (by omega) (by omega)
theorem kb_eq {x : Int32} (hx : ibt x 256) {c : Nat} (hc : c < 128) : (kb x = nI c) ↔ x = nI c := by
  obtain ⟨v, hv, rfl⟩ := hx
  rw [kb_tab v hv]
  by_cases q : v < 128
  · rw [if_pos q]
  · rw [if_neg q]
    constructor
    · intro z
      have z2 := congrArg Int32.toInt z
      rw [kb_neg (by omega) hv, nI_toInt (by omega)] at z2
      omega
    · intro z
      have z2 := (nI_eq (by omega) (by omega)).mp z
      omega
theorem kb_Le {x : Int32} (hx : ibt x 256) : xLe (kb x) = xLe x := by
  obtain ⟨v, hv, rfl⟩ := hx
  exact (show ∀ v, v < 256 → xLe (kb (nI v)) = xLe (nI v) by decide +kernel) v hv
theorem kb_Di {x : Int32} (hx : ibt x 256) : xDi (kb x) = xDi x := by
  obtain ⟨v, hv, rfl⟩ := hx
  exact (show ∀ v, v < 256 → xDi (kb (nI v)) = xDi (nI v) by decide +kernel) v hv
theorem kb_dig {x : Int32} (hx : ibt x 256) (h : xDi x = true) : kb x = x ∧ ∃ d : Nat, d < 10 ∧ x = nI (d + 48) := by
  obtain ⟨v, hv, rfl⟩ := hx
  have h2 := of_decide_eq_true h
  have l1 : 48 ≤ v := by
    rcases Nat.lt_or_ge v 48 with w | w
    · exact absurd (nI_lt (b := 48) w (by omega)) h2.1
    · exact w
  have l2 : v ≤ 57 := by
    rcases Nat.lt_or_ge 57 v with w | w
    · exact absurd (nI_lt (a := 57) w (by omega)) h2.2
    · exact w
  refine ⟨?_, v - 48, by omega, by rw [show v - 48 + 48 = v by omega]⟩
  rw [kb_tab v hv, if_pos (by omega)]
theorem kb_num {x : Int32} (hx : ibt x 256) {m : Nat} (hm : m < 9) : (if kb x - 48 < 0 then (-1 : Int32) else if nI (m + 1) ≤ kb x - 48 then -1 else kb x - 48) = if x - 48 < 0 then -1 else if nI m < x - 48 then -1 else x - 48 := by
  obtain ⟨v, hv, rfl⟩ := hx
  exact (show ∀ m, m < 9 → ∀ v, v < 256 → (if kb (nI v) - 48 < 0 then (-1 : Int32) else if nI (m + 1) ≤ kb (nI v) - 48 then -1 else kb (nI v) - 48) = if nI v - 48 < 0 then -1 else if nI m < nI v - 48 then -1 else nI v - 48 by decide +kernel) m hm v hv
theorem isLe_eq {S : Type} (s : S) (x : Int32) : M_isLetter s x = some (bI (xLe x)) := by
  unfold M_isLetter M_isLetter_B16 M_isLetter_B17 xLe
  by_cases c1 : x < 97
  · rw [if_pos c1, if_pos (by decide), decide_eq_false (fun z => z.1 c1)]; rfl
  · rw [if_neg c1]
    by_cases c2 : 122 < x
    · rw [if_pos c2, if_pos (by decide), decide_eq_false (fun z => z.2 c2)]; rfl
    · rw [if_neg c2, if_pos (by decide), decide_eq_true ⟨c1, c2⟩]; rfl
theorem isDi_eq {S : Type} (s : S) (x : Int32) : M_isDigit s x = some (bI (xDi x)) := by
  unfold M_isDigit M_isDigit_B16 M_isDigit_B17 xDi
  by_cases c1 : x < 48
  · rw [if_pos c1, if_pos (by decide), decide_eq_false (fun z => z.1 c1)]; rfl
  · rw [if_neg c1]
    by_cases c2 : 57 < x
    · rw [if_pos c2, if_pos (by decide), decide_eq_false (fun z => z.2 c2)]; rfl
    · rw [if_neg c2, if_pos (by decide), decide_eq_true ⟨c1, c2⟩]; rfl
theorem K_isLe (s : Km) (x : Int32) : K4_isLetter s x = some (bI (xLe x)) := isLe_eq s x
theorem K_isDi (s : Km) (x : Int32) : K4_isDigit s x = some (bI (xDi x)) := isDi_eq s x
end TOK
