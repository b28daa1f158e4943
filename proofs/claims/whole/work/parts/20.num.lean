/-! numbers: nI everywhere -/
section NUM
theorem i_lit (n : Nat) : (OfNat.ofNat n : Int32) = nI n := rfl
theorem i_z : (0 : Int32) = nI 0 := rfl
def bI (b : Bool) : Int32 := if b then 1 else 0
theorem bI_t : bI true = 1 := rfl
theorem bI_f : bI false = 0 := rfl
theorem bI_0 (b : Bool) : (bI b = 0) ↔ b = false := by cases b <;> decide
theorem bI_1 (b : Bool) : (bI b = 1) ↔ b = true := by cases b <;> decide
theorem okZ_bI (b : Bool) : okZ (bI b) = true := by cases b <;> decide
theorem okI_nI {j n : Nat} (hj : j < 2 ^ 31) : (okI (nI j) n = true) ↔ j < n := by
  unfold okI
  rw [decide_eq_true_iff]
  constructor
  · intro h
    have h2 : ¬ n ≤ (nI j).toNatClampNeg := fun q => h (Or.inr q)
    rw [nI_clamp hj] at h2
    omega
  · intro h q
    rcases q with q | q
    · exact nI_pos hj q
    · rw [nI_clamp hj] at q
      omega
theorem i_m1_ne {j : Nat} (hj : j < 2 ^ 31) : ¬ nI j = -1 := by
  intro q
  have h := congrArg Int32.toInt q
  rw [nI_toInt hj] at h
  have e : (-1 : Int32).toInt = -1 := by decide
  rw [e] at h
  omega
theorem i_ne_m1 {j : Nat} (hj : j < 2 ^ 31) : ¬ (-1 : Int32) = nI j := fun q => i_m1_ne hj q.symm
theorem i_m1_lt {j : Nat} (hj : j < 2 ^ 31) : (-1 : Int32) < nI j := by
  rw [Int32.lt_iff_toInt_lt, nI_toInt hj]
  have e : (-1 : Int32).toInt = -1 := by decide
  rw [e]; omega
theorem i_mul (a b : Nat) : nI a * nI b = nI (a * b) := pk_mul a b
theorem bnd_eq {α Rt : Type} (v : α) (k : α → Option Rt) : bnd v k = k v := rfl
theorem bnd2_eq {Rt : Type} (q : Nat) (τ : Km) (k : Nat → Km → Option Rt) : bnd2 q τ k = k q τ := rfl
theorem bi_some {S Rt : Type} (r : Int32) (s : S) (k : Int32 → S → Option Rt) : bi (some (r, s)) k = k r s := rfl
theorem om_none {Rt : Type} (o1 : Option Rt) (k : Nat → Option Rt) : om none o1 k = o1 := rfl
theorem om_some {Rt : Type} (a : Nat) (o1 : Option Rt) (k : Nat → Option Rt) : om (some a) o1 k = k a := rfl
theorem ob_some {α β : Type} (a : α) (k : α → Option β) : (some a).bind k = k a := rfl
/-- the set in force: the last among those of the latest day that has come -/
def mFrc (sd : Nat → Int32) (now : Int32) : Nat → Int32
  | 0 => -1
  | s + 1 => if now < sd s then mFrc sd now s else if mFrc sd now s = -1 then nI s else if sd s < sd (mFrc sd now s).toNatClampNeg then mFrc sd now s else nI s
theorem mFrc_succ (sd : Nat → Int32) (now : Int32) (s : Nat) : mFrc sd now (s + 1) = if now < sd s then mFrc sd now s else if mFrc sd now s = -1 then nI s else if sd s < sd (mFrc sd now s).toNatClampNeg then mFrc sd now s else nI s := rfl
theorem mFrc_in (sd : Nat → Int32) (now : Int32) : ∀ n : Nat, mFrc sd now n = -1 ∨ ∃ b : Nat, b < n ∧ mFrc sd now n = nI b
  | 0 => Or.inl rfl
  | n + 1 => by
    have up : mFrc sd now n = -1 ∨ ∃ b : Nat, b < n + 1 ∧ mFrc sd now n = nI b := by
      rcases mFrc_in sd now n with h | ⟨b, h1, h2⟩
      · exact Or.inl h
      · exact Or.inr ⟨b, by omega, h2⟩
    unfold mFrc
    by_cases h1 : now < sd n
    · rw [if_pos h1]; exact up
    · rw [if_neg h1]
      by_cases h2 : mFrc sd now n = -1
      · rw [if_pos h2]; exact Or.inr ⟨n, by omega, rfl⟩
      · rw [if_neg h2]
        by_cases h3 : sd n < sd (mFrc sd now n).toNatClampNeg
        · rw [if_pos h3]; exact up
        · rw [if_neg h3]; exact Or.inr ⟨n, by omega, rfl⟩
theorem M_force_L {Rt : Type} {σ : Ms} {now : Int32} {k : Int32 → Option Rt} {N : Nat} (hN : N ≤ 8) (h3 : σ.1 3 = nI N) : ∀ (F s : Nat), s ≤ N → N < s + F → M_force_L4 σ now k F (mFrc (σ.2 24) now s) (nI s) = k (mFrc (σ.2 24) now N) := by
  intro F
  induction F with
  | zero => intro s h1 h2; omega
  | succ F ih =>
    intro s h1 h2
    unfold M_force_L4
    rw [h3]
    by_cases hs : s = N
    · subst hs
      rw [if_pos (nI_le (Nat.le_refl _) (by omega))]
    · have ih' := ih (s + 1) (by omega) (by omega)
      rw [nI_succ, mFrc_succ] at ih'
      rw [if_neg (nI_ge (by omega) (by omega)), if_pos ((okI_nI (by omega)).mpr (by omega)), nI_clamp (by omega)]
      unfold M_force_B42 M_force_B44
      by_cases c1 : now < σ.2 24 s
      · rw [if_pos c1]; rw [if_pos c1] at ih'; exact ih'
      · rw [if_neg c1]; rw [if_neg c1] at ih'
        by_cases c2 : mFrc (σ.2 24) now s = -1
        · rw [if_pos c2]; rw [if_pos c2] at ih'; exact ih'
        · rw [if_neg c2]; rw [if_neg c2] at ih'
          rcases mFrc_in (σ.2 24) now s with e | ⟨b, hb, e⟩
          · exact absurd e c2
          · rw [e] at ih' ⊢
            rw [if_pos ((okI_nI (by omega)).mpr (by omega)), if_pos ((okI_nI (by omega)).mpr (by omega))]
            by_cases c3 : σ.2 24 s < σ.2 24 (nI b).toNatClampNeg
            · rw [if_pos c3]; rw [if_pos c3] at ih'; exact ih'
            · rw [if_neg c3]; rw [if_neg c3] at ih'; exact ih'
theorem M_force_eq {σ : Ms} {now : Int32} {N : Nat} (hN : N ≤ 8) (h3 : σ.1 3 = nI N) : M_force σ now = some (mFrc (σ.2 24) now N) := M_force_L hN h3 gF 0 (Nat.zero_le _) (by unfold gF; omega)
end NUM
