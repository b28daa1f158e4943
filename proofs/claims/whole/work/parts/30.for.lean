/-! whether a rule is for a field of a thing: both sides -/
section FORS
variable {a0 : Nat} {μ : Km} {σ : Ms} {B : Nat → Nat → Nat → Nat} {tg : Nat → Nat × Nat × Nat} {nT nS nH nP nw nL : Nat} {A : Ar}
theorem sTests_mono {r t : Nat} : ∀ {i m : Nat}, i ≤ m → sTests A r t m = true → sTests A r t i = true := by
  intro i m
  induction m with
  | zero => intro h1 h2; rw [show i = 0 by omega]; exact h2
  | succ m ih =>
    intro h1 h2
    rcases Nat.lt_or_ge m i with q | q
    · rw [show i = m + 1 by omega]; exact h2
    · refine ih q ?_
      unfold sTests at h2
      exact (Bool.and_eq_true_iff.mp h2).1
theorem sTests_succ (r t i : Nat) : sTests A r t (i + 1) = (sTests A r t i && sTest A r t i) := rfl
/-- what stands of a test -/
theorem tst_of (h : ∀ k j, mRg A nT nS nH k j) {r i : Nat} (hl : lvr A nS r) (hi : i < (A 34 r).toNatClampNeg) : ibt (A 35 (4 * r + i)) 4 ∧ ibt (A 36 (4 * r + i)) 10000 ∧ (A 37 (4 * r + i) = 0 ∨ A 37 (4 * r + i) = 1) ∧ i < 4 := by
  have h34 := ibt_c (h 34 r hl) (by decide)
  have h35 := h 35 (4 * r + i)
  have h36 := h 36 (4 * r + i)
  have h37 := h 37 (4 * r + i)
  unfold mRg at h35 h36 h37
  simp only [show (4 * r + i) / 4 = r by omega, show (4 * r + i) % 4 = i by omega] at h35 h36 h37
  exact ⟨h35 hl hi, h36 hl hi, h37 hl hi, by omega⟩
theorem M_isFor_L {Rt : Type} {kk : Int32 → Option Rt} {r t : Nat} (h : ∀ k j, mRg σ.2 nT nS nH k j) (hS : nS ≤ 8) (hT : nT ≤ 30) (hl : lvr σ.2 nS r) (ht : t < nT) (w : Bool) : ∀ (F i : Nat), i ≤ (σ.2 34 r).toNatClampNeg → (σ.2 34 r).toNatClampNeg < i + F → M_isFor_L55 σ (nI r) (nI t) kk F (bI (w && sTests σ.2 r t i)) (nI i) = kk (bI (w && sTests σ.2 r t (σ.2 34 r).toNatClampNeg)) := by
  have hr := lvr_in hl hS
  have h34 := ibt_c (h 34 r hl) (by decide)
  intro F
  induction F with
  | zero => intro i h1 h2; omega
  | succ F ih =>
    intro i h1 h2
    unfold M_isFor_L55
    rw [if_pos ((okI_nI (by omega)).mpr hr), nI_clamp (show r < 2 ^ 31 by omega)]
    by_cases hi : i = (σ.2 34 r).toNatClampNeg
    · rw [if_pos (by rw [h34.1, hi]; exact nI_le (Nat.le_refl _) (by omega)), hi]
    · have hlt : i < (σ.2 34 r).toNatClampNeg := by omega
      rw [if_neg (by rw [h34.1]; exact nI_ge hlt (by omega))]
      cases hb : (w && sTests σ.2 r t i) with
      | false =>
        rw [if_pos (by decide)]
        cases hm : (w && sTests σ.2 r t (σ.2 34 r).toNatClampNeg) with
        | false => rfl
        | true =>
          obtain ⟨q1, q2⟩ := Bool.and_eq_true_iff.mp hm
          rw [q1, sTests_mono h1 q2] at hb
          cases hb
      | true =>
        obtain ⟨t5, t6, t7, t8⟩ := tst_of h hl hlt
        have t5' := ibt_c t5 (by decide)
        have ih' := ih (i + 1) (by omega) (by omega)
        rw [sTests_succ, ← Bool.and_assoc, hb, Bool.true_and] at ih'
        rw [if_neg (by decide), show (4 : Int32) = nI 4 from rfl, pk_mul, nI_add, if_pos ((okI_nI (by omega)).mpr (by omega)), nI_clamp (show 4 * r + i < 2 ^ 31 by omega), t5'.1, pk_mul, nI_add, if_pos ((okI_nI (by omega)).mpr (by omega)), nI_clamp (by omega), bnd_eq, bnd_eq, if_pos ((okI_nI (by omega)).mpr (by omega)), if_pos ((okI_nI (by omega)).mpr (by omega))]
        unfold M_isFor_B147
        rw [nI_1]
        unfold sTest at ih'
        by_cases c1 : σ.2 37 (4 * r + i) = 0
        · rw [if_pos c1]
          rw [if_pos c1] at ih'
          by_cases c2 : σ.2 10 (4 * t + (σ.2 35 (4 * r + i)).toNatClampNeg) = σ.2 36 (4 * r + i)
          · rw [if_pos c2]
            rw [decide_eq_true c2] at ih'
            exact ih'
          · rw [if_neg c2]
            rw [decide_eq_false c2] at ih'
            exact ih'
        · rw [if_neg c1]
          rw [if_neg c1] at ih'
          by_cases c2 : σ.2 10 (4 * t + (σ.2 35 (4 * r + i)).toNatClampNeg) < σ.2 36 (4 * r + i)
          · rw [if_neg (i_lt_n c2)]
            rw [decide_eq_true c2] at ih'
            exact ih'
          · rw [if_pos (i_nlt c2)]
            rw [decide_eq_false c2] at ih'
            exact ih'
theorem M_isFor_eq {r t f : Nat} (h : ∀ k j, mRg σ.2 nT nS nH k j) (hS : nS ≤ 8) (hT : nT ≤ 30) (hl : lvr σ.2 nS r) (ht : t < nT) : M_isFor σ (nI r) (nI t) (nI f) = some (bI (mFor σ.2 r t f)) := by
  have hr := lvr_in hl hS
  have go : ∀ w : Bool, M_isFor_B50 σ (bI w) (nI r) (nI t) = some (bI (w && sTests σ.2 r t (σ.2 34 r).toNatClampNeg)) := by
    intro w
    have h1 := M_isFor_L (kk := fun v4_155 => M_isFor_B155 σ v4_155) h hS hT hl ht w gF 0 (Nat.zero_le _) (by have := ibt_c (h 34 r hl) (by decide); unfold gF; omega)
    unfold M_isFor_B50
    rw [show sTests σ.2 r t 0 = true from rfl, Bool.and_true] at h1
    rw [show (0 : Int32) = nI 0 from rfl, h1]
    unfold M_isFor_B155
    rw [if_pos (okZ_bI _)]
  have g1 := go true
  have g0 := go false
  rw [bI_t] at g1
  rw [bI_f] at g0
  unfold M_isFor M_isFor_B25 M_isFor_B45 M_isFor_B49 mFor mWho
  have o1 := (okI_nI (show r < 2 ^ 31 by omega)).mpr hr
  have o2 := (okI_nI (show t < 2 ^ 31 by omega)).mpr (show t < 30 by omega)
  rw [g1, g0, nI_clamp (show r < 2 ^ 31 by omega), nI_clamp (show t < 2 ^ 31 by omega)]
  by_cases c1 : σ.2 27 r = -1 <;> by_cases c2 : σ.2 27 r = σ.2 9 t <;> by_cases c3 : σ.2 28 r = -1 <;> by_cases c4 : σ.2 28 r = nI f <;> simp [c1, c2, c3, c4, o1, o2]
theorem kb0 : ∀ a, a < 4 → ∀ b, b < 4 → (((kbit (nI a) >>> (nI b &&& 31)) &&& 1 = 0) ↔ ¬ nI a = nI b) := by decide
theorem kb1 : ∀ b, b < 4 → ¬ ((kbit (-1) >>> (nI b &&& 31)) &&& 1 = 0) := by decide
theorem fb0 : ∀ a, a < 8 → ∀ b, b < 8 → (((fbit (nI a) >>> (nI b &&& 31)) &&& 1 = 0) ↔ ¬ nI a = nI b) := by decide
theorem fb1 : ∀ b, b < 8 → ¬ ((fbit (-1) >>> (nI b &&& 31)) &&& 1 = 0) := by decide
theorem kbit_t {x kd : Int32} (hx : x = -1 ∨ ibt x 4) (hk : ibt kd 4) : ((kbit x >>> (kd &&& 31)) &&& 1 = 0) ↔ ¬ (x = -1 ∨ x = kd) := by
  obtain ⟨b, hb, rfl⟩ := hk
  rcases hx with rfl | ⟨a, ha, rfl⟩
  · have := kb1 b hb; simp [this]
  · have h2 := i_m1_ne (show a < 2 ^ 31 by omega)
    rw [kb0 a ha b hb]; simp [h2]
theorem fbit_t {x : Int32} {f : Nat} (hx : x = -1 ∨ ibt x 8) (hf : f < 8) : ((fbit x >>> (nI f &&& 31)) &&& 1 = 0) ↔ ¬ (x = -1 ∨ x = nI f) := by
  rcases hx with rfl | ⟨a, ha, rfl⟩
  · have := fb1 f hf; simp [this]
  · have h2 := i_m1_ne (show a < 2 ^ 31 by omega)
    rw [fb0 a ha f hf]; simp [h2]
/-- a rule's object -/
theorem RepB.ru (h : RepB a0 μ σ B tg nT nS nH nP nw nL) {s k : Nat} (hs : s < nS) (hk : k < rmy σ.2 s) : kR μ (B 16 s 0) k = some (B 18 s k) ∧ kK μ (B 18 s k) = 3 ∧ kR μ (B 18 s k) 9 = some (B 19 s k) ∧ kR μ (B 18 s k) 10 = some (B 20 s k) ∧ kR μ (B 18 s k) 11 = some (B 21 s k) ∧ (kK μ (B 19 s k) = 12 ∧ kN μ (B 19 s k) = 4) ∧ (kK μ (B 20 s k) = 13 ∧ kN μ (B 20 s k) = 4) ∧ kK μ (B 21 s k) = 12 ∧ kN μ (B 21 s k) = 4 := by
  have r2 := h.2.1.2.2.2
  have k2 := h.2.1.2.2.1
  exact ⟨r2 16 s 0 k ⟨hs, rfl, hk⟩, (k2 18 s k ⟨hs, hk⟩).1, r2 18 s k 9 ⟨hs, hk, by omega⟩, r2 18 s k 10 ⟨hs, hk, by omega⟩, r2 18 s k 11 ⟨hs, hk, by omega⟩, ⟨(k2 19 s k ⟨hs, hk⟩).1, (k2 19 s k ⟨hs, hk⟩).2.1⟩, ⟨(k2 20 s k ⟨hs, hk⟩).1, (k2 20 s k ⟨hs, hk⟩).2.1⟩, (k2 21 s k ⟨hs, hk⟩).1, (k2 21 s k ⟨hs, hk⟩).2.1⟩
theorem K3_isFor_L (h : RepB a0 μ σ B tg nT nS nH nP nw nL) {s k t : Nat} (hs : s < nS) (hk : k < rmy σ.2 s) (ht : t < nT) : ∀ (F i : Nat), i ≤ (σ.2 34 (24 * s + k)).toNatClampNeg → (σ.2 34 (24 * s + k)).toNatClampNeg < i + F → sTests σ.2 (24 * s + k) t i = true → K3_isFor_L29 μ (B 18 s k) (B 10 t 0) (some (0 : Int32)) (some 0) (some 1) F (nI i) = some (bI (sTests σ.2 (24 * s + k) t (σ.2 34 (24 * s + k)).toNatClampNeg)) := by
  have hl := (lvr_of h.1.2.1 hs hk).1
  have h34 := ibt_c (h.1.2.1 34 _ hl) (by decide)
  obtain ⟨r1, r2, r3, r4, r5, r6, r7, r8, r9⟩ := h.ru hs hk
  obtain ⟨t1, t2, t3, t4, t5, t6, t7, t8, t9⟩ := h.th ht
  intro F
  induction F with
  | zero => intro i h1 h2; omega
  | succ F ih =>
    intro i h1 h2 h3
    unfold K3_isFor_L29
    rw [if_pos r2, show kI μ (B 18 s k) 8 = σ.2 34 (24 * s + k) from h.2.2 18 s k 8 ⟨hs, hk, by omega⟩]
    by_cases hi : i = (σ.2 34 (24 * s + k)).toNatClampNeg
    · rw [if_pos (by rw [h34.1, hi]; exact nI_le (Nat.le_refl _) (by omega)), ← hi, h3]; rfl
    · have hlt : i < (σ.2 34 (24 * s + k)).toNatClampNeg := by omega
      obtain ⟨q5, q6, q7, q8⟩ := tst_of h.1.2.1 hl hlt
      have q5' := ibt_c q5 (by decide)
      have v5 : kI μ (B 19 s k) i = σ.2 35 (4 * (24 * s + k) + i) := h.2.2 19 s k i ⟨hs, hk, hlt⟩
      have v6 : kI μ (B 21 s k) i = σ.2 36 (4 * (24 * s + k) + i) := h.2.2 21 s k i ⟨hs, hk, hlt⟩
      have v7 : kI μ (B 20 s k) i = σ.2 37 (4 * (24 * s + k) + i) := h.2.2 20 s k i ⟨hs, hk, hlt⟩
      have v8 : kI μ (B 11 t 0) (σ.2 35 (4 * (24 * s + k) + i)).toNatClampNeg = σ.2 10 (4 * t + (σ.2 35 (4 * (24 * s + k) + i)).toNatClampNeg) := h.2.2 11 t 0 _ ⟨ht, rfl, q5'.2⟩
      rw [if_neg (by rw [h34.1]; exact nI_ge hlt (by omega)), show (4 : Int32) = nI 4 from rfl, if_neg (nI_ge q8 (by omega)), if_pos t2, t3, ob_some, r3, ob_some, if_pos r6.1, r6.2, if_pos ((okI_nI (by omega)).mpr q8), if_pos t6.1, t6.2, nI_clamp (show i < 2 ^ 31 by omega), v5, if_pos (by rw [q5'.1]; exact (okI_nI (by omega)).mpr q5'.2), bnd_eq, r4, ob_some, if_pos r7.1, r7.2, if_pos ((okI_nI (by omega)).mpr q8), v7, r5, ob_some, ob_some, if_pos r8, r9, if_pos ((okI_nI (by omega)).mpr q8), v6, v8]
      unfold K3_isFor_B91
      rw [nI_1]
      have ih' := ih (i + 1) (by omega) (by omega)
      have nomore : sTest σ.2 (24 * s + k) t i = false → some (0 : Int32) = some (bI (sTests σ.2 (24 * s + k) t (σ.2 34 (24 * s + k)).toNatClampNeg)) := by
        intro hf
        cases hm : sTests σ.2 (24 * s + k) t (σ.2 34 (24 * s + k)).toNatClampNeg with
        | false => rfl
        | true =>
          have := sTests_mono (show i + 1 ≤ _ from hlt) hm
          rw [sTests_succ, hf, Bool.and_false] at this
          cases this
      by_cases c1 : σ.2 37 (4 * (24 * s + k) + i) = 0
      · rw [if_pos c1]
        by_cases c2 : σ.2 10 (4 * t + (σ.2 35 (4 * (24 * s + k) + i)).toNatClampNeg) = σ.2 36 (4 * (24 * s + k) + i)
        · rw [if_pos c2]
          exact ih' (by rw [sTests_succ, h3, sTest, if_pos c1, decide_eq_true c2]; rfl)
        · rw [if_neg c2]
          exact nomore (by rw [sTest, if_pos c1, decide_eq_false c2])
      · rw [if_neg c1, if_pos r8, if_pos ((okI_nI (by omega)).mpr q8)]
        by_cases c2 : σ.2 10 (4 * t + (σ.2 35 (4 * (24 * s + k) + i)).toNatClampNeg) < σ.2 36 (4 * (24 * s + k) + i)
        · rw [if_pos c2]
          exact ih' (by rw [sTests_succ, h3, sTest, if_neg c1, decide_eq_true c2]; rfl)
        · rw [if_neg c2]
          exact nomore (by rw [sTest, if_neg c1, decide_eq_false c2])
theorem K3_isFor_eq (h : RepB a0 μ σ B tg nT nS nH nP nw nL) {s k t f : Nat} (hs : s < nS) (hk : k < rmy σ.2 s) (ht : t < nT) (hf : f < 8) : K3_isFor μ (B 18 s k) (B 10 t 0) (nI f) = some (bI (mFor σ.2 (24 * s + k) t f)) := by
  have hl := (lvr_of h.1.2.1 hs hk).1
  have h34 := ibt_c (h.1.2.1 34 _ hl) (by decide)
  obtain ⟨r1, r2, r3, r4, r5, r6, r7, r8, r9⟩ := h.ru hs hk
  obtain ⟨t1, t2, t3, t4, t5, t6, t7, t8, t9⟩ := h.th ht
  have v1 : kI μ (B 18 s k) 1 = kbit (σ.2 27 (24 * s + k)) := h.2.2 18 s k 1 ⟨hs, hk, by omega⟩
  have v2 : kI μ (B 18 s k) 2 = fbit (σ.2 28 (24 * s + k)) := h.2.2 18 s k 2 ⟨hs, hk, by omega⟩
  have v0 : kI μ (B 10 t 0) 0 = σ.2 9 t := h.2.2 10 t 0 0 ⟨ht, rfl, by omega⟩
  have g := K3_isFor_L h hs hk ht gF 0 (Nat.zero_le _) (by unfold gF; omega) rfl
  unfold K3_isFor K3_isFor_B25 K3_isFor_B89 K3_isFor_B97 mFor mWho
  rw [if_pos r2, if_pos t2, v1, v2, v0, show (0 : Int32) = nI 0 from rfl] at *
  rw [show (nI 0) = (0 : Int32) from rfl] at *
  have e1 := kbit_t (h.1.2.1 27 _ hl) (h.1.2.1 9 t ht)
  have e2 := fbit_t (h.1.2.1 28 _ hl) hf
  by_cases c1 : (kbit (σ.2 27 (24 * s + k)) >>> (σ.2 9 t &&& 31)) &&& 1 = 0
  · rw [if_pos c1, decide_eq_false (fun q => e1.mp c1 q.1)]; rfl
  · rw [if_neg c1]
    by_cases c2 : (fbit (σ.2 28 (24 * s + k)) >>> (nI f &&& 31)) &&& 1 = 0
    · rw [if_pos c2, decide_eq_false (fun q => e2.mp c2 q.2)]; rfl
    · rw [if_neg c2, decide_eq_true ⟨Decidable.not_not.mp (fun q => c1 (e1.mpr q)), Decidable.not_not.mp (fun q => c2 (e2.mpr q))⟩, Bool.true_and]
      exact g
end FORS
