section PLAN
variable {a0 : Nat} {μ ν : Km} {σ τ ρ : Ms} {B : Nat → Nat → Nat → Nat} {tg : Nat → Nat × Nat × Nat} {nT nS nH nP nw nL : Nat} {A : Ar}
theorem mod_suc {a e : Nat} (he : 1 ≤ e) : (a + 1) % e = if a % e + 1 = e then 0 else a % e + 1 := by
  have h1 := Nat.mod_lt a (show 0 < e by omega)
  have h2 := Nat.div_add_mod a e
  by_cases c : a % e + 1 = e
  · rw [if_pos c]
    have h3 : a + 1 = e * (a / e + 1) := by rw [Nat.mul_add, Nat.mul_one]; omega
    rw [h3, Nat.mul_mod_right]
  · rw [if_neg c]
    have h3 : a + 1 = a % e + 1 + e * (a / e) := by omega
    have h4 : (a % e + 1 + e * (a / e)) % e = a % e + 1 := by rw [Nat.add_mul_mod_self_left, Nat.mod_eq_of_lt (by omega)]
    rw [← h3] at h4
    exact h4
/-- the first sweep that isn't before the day d -/
def nxt (e b d : Nat) : Nat := if (d - b) % e = 0 then d else d + e - (d - b) % e
def fF (e b d : Nat) : Nat := if d ≤ b then b else if nxt e b d ≤ 200000 then nxt e b d else 999999
theorem nxt_suc {e b d : Nat} (he : 1 ≤ e) (hb : b ≤ d) (h : ¬ (d - b) % e = 0) : nxt e b (d + 1) = nxt e b d := by
  unfold nxt
  have h1 := Nat.mod_lt (d - b) (show 0 < e by omega)
  rw [if_neg h, show d + 1 - b = d - b + 1 by omega, mod_suc he]
  by_cases c : (d - b) % e + 1 = e
  · rw [if_pos c, if_pos rfl]; omega
  · rw [if_neg c, if_neg (by omega)]; omega
def dOk (x : Int32) : Prop := ∃ v : Nat, (v ≤ 200000 ∨ v = 999999) ∧ x = nI v
theorem rDay_in (r t : Nat) : rDay A r t = -1 ∨ dOk (rDay A r t) := by
  unfold rDay
  split
  · exact Or.inl rfl
  · exact Or.inr (mUnt_in _ _)
theorem dOk_never : dOk 999999 := ⟨999999, Or.inr rfl, rfl⟩
theorem spStep_in {w k d : Int32} {q : Sp} (hd : d = -1 ∨ dOk d) (h : dOk q.1 ∧ dOk q.2.1) : dOk (spStep w k d q).1 ∧ dOk (spStep w k d q).2.1 := by
  have hk : ∀ x, dOk x → dOk (spKeep k x q).1 ∧ dOk (spKeep k x q).2.1 := fun x hx => by
    unfold spKeep
    split
    · exact h
    · split
      · exact ⟨hx, h.2⟩
      · exact h
  have he : ∀ x, dOk x → dOk (spEnd k x q).1 ∧ dOk (spEnd k x q).2.1 := fun x hx => by
    unfold spEnd
    split
    · exact h
    · split
      · exact ⟨h.1, hx⟩
      · exact h
  unfold spStep
  by_cases c : d = -1
  · rw [if_pos c, if_pos c]
    split
    · exact hk _ dOk_never
    · exact h
  · rw [if_neg c, if_neg c]
    have hd' := hd.resolve_left c
    split
    · exact hk _ hd'
    · exact he _ hd'
theorem spFold_in {t f s : Nat} : ∀ {l : List Nat} {q : Sp}, dOk q.1 ∧ dOk q.2.1 → dOk (l.foldl (spRule A t f s) q).1 ∧ dOk (l.foldl (spRule A t f s) q).2.1 := by
  intro l
  induction l with
  | nil => intro q h; exact h
  | cons k l ih =>
    intro q h
    rw [List.foldl_cons]
    refine ih ?_
    unfold spRule
    split
    · exact spStep_in (rDay_in _ _) h
    · exact h
theorem mSpan_in (t f : Nat) (s : Int32) : dOk (mSpan A t f s).1 ∧ dOk (mSpan A t f s).2.1 := by
  have h0 : dOk sp0.1 ∧ dOk sp0.2.1 := ⟨⟨0, Or.inl (by omega), rfl⟩, dOk_never⟩
  unfold mSpan
  split
  · exact h0
  · exact spFold_in h0
theorem RepB.sw (h : RepB a0 μ σ B tg nT nS nH nP nw nL) {s : Nat} (hs : s < 4) : kR μ a0 7 = some (B 3 0 0) ∧ kK μ (B 3 0 0) = 17 ∧ kN μ (B 3 0 0) = 4 ∧ kR μ (B 3 0 0) s = some (B 9 s 0) ∧ kK μ (B 9 s 0) = 7 ∧ ∃ e b : Nat, (1 ≤ e ∧ e ≤ 400 ∧ b < 400) ∧ (σ.2 14 s = nI e ∧ σ.2 15 s = nI b) ∧ kI μ (B 9 s 0) 0 = nI e ∧ kI μ (B 9 s 0) 1 = nI b := by
  obtain ⟨e, he1, he2, ee⟩ := h.1.2.1 14 s hs
  obtain ⟨b, hb, eb⟩ := h.1.2.1 15 s hs
  refine ⟨h.r (by omega), (h.one (c := 3) (by omega)).1, (h.one (c := 3) (by omega)).2, h.2.1.2.2.2 3 0 0 s ⟨hs, rfl, rfl⟩, (h.2.1.2.2.1 9 s 0 ⟨hs, rfl⟩).1, e, b, ⟨he1, he2, hb⟩, ⟨ee, eb⟩, ?_, ?_⟩
  · exact (h.2.2 9 s 0 0 ⟨hs, rfl, by omega⟩).trans ee
  · exact (h.2.2 9 s 0 1 ⟨hs, rfl, by omega⟩).trans eb
theorem K7_firstFrom_eq {p e b d : Nat} (hk : kK μ p = 7) (he : kI μ p 0 = nI e) (hb : kI μ p 1 = nI b) (he1 : 1 ≤ e) (he2 : e ≤ 400) (hb2 : b < 400) (hd : d ≤ 999999) : K7_firstFrom μ p (nI d) = some (nI (fF e b d)) := by
  unfold K7_firstFrom K7_firstFrom_B36 K7_firstFrom_B53 K7_firstFrom_B66 fF nxt
  rw [if_pos hk, he, hb]
  by_cases c : d ≤ b
  · rw [if_neg (nI_nlt c (by omega)), if_pos c]
  · have h1 := Nat.mod_lt (d - b) (show 0 < e by omega)
    rw [if_pos (nI_lt (by omega) (by omega)), if_neg c, show (1 : Int32) = nI 1 from rfl, if_pos (nI_le he1 (by omega)), if_neg (nI_ne0 (by omega) (by omega)), pk_sub (by omega), pk_rem (by omega) (by omega) (by omega), show (200000 : Int32) = nI 200000 from rfl]
    by_cases c2 : (d - b) % e = 0
    · rw [c2, if_pos (by decide), if_pos rfl]
      by_cases c3 : d ≤ 200000
      · rw [if_pos (nI_le c3 (by omega)), if_pos c3]
      · rw [if_neg (nI_ge (by omega) (by omega)), if_neg c3]; rfl
    · rw [if_neg (nI_ne0 (by omega) (by omega)), if_neg c2, if_pos hk, nI_add, pk_sub (by omega)]
      by_cases c3 : d + e - (d - b) % e ≤ 200000
      · rw [if_pos (nI_le c3 (by omega)), if_pos c3]
      · rw [if_neg (nI_ge (by omega) (by omega)), if_neg c3]; rfl
theorem M_planned_Lp {Rt : Type} {kk : Int32 → Option Rt} {s e b : Nat} (hs : s < 4) (he : σ.2 14 s = nI e) (hb : σ.2 15 s = nI b) (he1 : 1 ≤ e) (he2 : e ≤ 400) (hb2 : b < 400) : ∀ (F d : Nat), b ≤ d → d + F ≤ 2000000 → nxt e b d < d + F → M_planned_L101 σ (nI s) kk F (nI d) = kk (nI (nxt e b d)) := by
  intro F
  induction F with
  | zero =>
    intro d h1 h2 h3
    have h4 := Nat.mod_lt (d - b) (show 0 < e by omega)
    unfold nxt at h3
    split at h3 <;> omega
  | succ F ih =>
    intro d h1 h2 h3
    have o1 := (okI_nI (show s < 2 ^ 31 by omega)).mpr hs
    unfold M_planned_L101
    rw [if_pos o1, if_pos o1, nI_clamp (by omega), he, hb, if_neg (nI_ne0 (by omega) (by omega)), pk_sub h1, pk_rem (by omega) (by omega) (by omega)]
    have h4 := Nat.mod_lt (d - b) (show 0 < e by omega)
    by_cases c : (d - b) % e = 0
    · rw [c, if_pos (by decide)]
      unfold nxt
      rw [if_pos c]
    · rw [if_neg (nI_ne0 (by omega) (by omega)), nI_1, ← nxt_suc he1 h1 c]
      rw [← nxt_suc he1 h1 c] at h3
      exact ih (d + 1) (by omega) (by omega) (by omega)
def pDay (A : Ar) (t f s : Nat) (ss : Int32) (nw : Nat) : Nat := if sDue (mSpan A t f ss) (hel A t f) (A 13 t) 999999 = true then fF (A 14 s).toNatClampNeg (A 15 s).toNatClampNeg (max (nw + 1) (mSpan A t f ss).1.toNatClampNeg) else 999999
theorem sDue_ge {q : Sp} {hl : Bool} {w x y : Int32} (hx : ¬ x < q.1) (hy : ¬ y < q.1) : sDue q hl w x = sDue q hl w y := by
  unfold sDue
  rw [decide_eq_true hx, decide_eq_true hy]
theorem K9_settledDay_eq {t f s : Nat} {ss : Int32} (hν : RepB a0 ν σ B tg nT nS nH nP nw nL) (hs : s < 4) (hq : kSp ν B (mSpan σ.2 t f ss)) (f6 : kI ν (B 7 0 0) 6 = bI (hel σ.2 t f)) (f7 : kI ν (B 7 0 0) 7 = σ.2 13 t) : K9_settledDay ν a0 (nI s) = some (nI (pDay σ.2 t f s ss nw)) := by
  have hw : nw ≤ 200000 := hν.1.1.2.2.2.2.2.2.2.2.2.1
  obtain ⟨u1, u2, -⟩ := hν.spn
  obtain ⟨x1, x2, x3, x4, x5, e, b, ⟨he1, he2, hb⟩, ⟨ee, eb⟩, ke, kb⟩ := hν.sw hs
  obtain ⟨⟨v, hv, ev⟩, -⟩ := mSpan_in (A := σ.2) t f ss
  have o1 := (okI_nI (show s < 2 ^ 31 by omega)).mpr hs
  unfold K9_settledDay K9_settledDay_B44 pDay
  have emax : (if nI nw + 1 < nI v then nI v else nI nw + 1) = nI (max (nw + 1) v) := by
    rw [nI_1]
    by_cases c : nw + 1 < v
    · rw [if_pos (nI_lt c (by omega)), Nat.max_eq_right (by omega)]
    · rw [if_neg (nI_nlt (by omega) (by omega)), Nat.max_eq_left (by omega)]
  have ed := K6_isDue_eq (x := nI (max (nw + 1) v)) u2 hq f6 f7
  rw [sDue_ge (y := 999999) (by rw [ev]; exact nI_nlt (by omega) (by omega)) (by rw [ev, show (999999 : Int32) = nI 999999 from rfl]; exact nI_nlt (by omega) (by omega))] at ed
  rw [if_pos hν.k9, u1, ob_some, if_pos u2, hν.i12, hq.1, ev, emax, bnd_eq, ob_some, if_pos u2, ed, ob_some, ee, eb, nI_clamp (show e < 2 ^ 31 by omega), nI_clamp (show b < 2 ^ 31 by omega), nI_clamp (show v < 2 ^ 31 by omega), x1, ob_some, if_pos x2, x3, if_pos o1, nI_clamp (show s < 2 ^ 31 by omega), x4, ob_some, if_pos x5, K7_firstFrom_eq x5 ke kb he1 he2 hb (by omega), ob_some]
  cases sDue (mSpan σ.2 t f ss) (hel σ.2 t f) (σ.2 13 t) 999999 with
  | true => rw [if_neg (by decide), if_pos rfl]
  | false => rw [if_pos (by decide), if_neg (by decide)]; rfl
theorem op_planned_ok : op_planned (Rep a0) a0 := by
  rintro μ σ a1 a2 a3 ⟨B, tg, nT, nS, nH, nP, nw, nL, h⟩
  have h30 := h.nT30
  have hw : nw ≤ 200000 := h.1.1.2.2.2.2.2.2.2.2.2.1
  have h1 : σ.1 1 = nI nw := h.1.1.2.2.2.2.2.2.2.2.1
  have no : ∀ {k : Option ((Int32 × Km) ⊕ (Bool × Km))} {mr : Option (Int32 × Ms)}, k = some (.inr (true, μ)) → mr = some (0, mSet (mSet σ 0 0) 0 1) → opI (Rep a0) (fun _ => 1) (fun b => b) k mr := fun e1 e2 => opI_no e1 e2 rfl (mSet_0v _ _) (Rep_code (Rep_code h.rep _) _)
  rcases i_below a1 (n := nT) (by omega) with hx | ⟨t, ht, rfl⟩
  · refine no ?_ ?_
    · unfold K9_planned; rw [if_pos h.k9, K9_thingAt_no h hx]; rfl
    · unfold M_planned; rw [bnd_eq, M_isThing_no (σ := mSet σ 0 0) (h.1.1.1) hx, ob_some, if_pos rfl]; rfl
  rcases i_below a2 (n := 8) (by omega) with hx | ⟨f, hf, rfl⟩
  · refine no ?_ ?_
    · unfold K9_planned; rw [if_pos h.k9, K9_thingAt_ok h ht, bxq_ok, ob_some, K9_checkField_no hx]; rfl
    · unfold M_planned; rw [bnd_eq, M_isThing_ok (σ := mSet σ 0 0) (h.1.1.1) h30 ht, ob_some, if_neg (by decide), M_isField_no hx, ob_some, if_pos rfl]; rfl
  rcases i_below a3 (n := 4) (by omega) with hx | ⟨s, hs, rfl⟩
  · refine no ?_ ?_
    · unfold K9_planned; rw [if_pos h.k9, K9_thingAt_ok h ht, bxq_ok, ob_some, K9_checkField_ok hf, bxv_ok, K9_checkStore_no hx]; rfl
    · unfold M_planned; rw [bnd_eq, M_isThing_ok (σ := mSet σ 0 0) (h.1.1.1) h30 ht, ob_some, if_neg (by decide), M_isField_ok hf, ob_some, if_neg (by decide), M_isStore_no hx, ob_some, if_pos rfl]; rfl
  obtain ⟨t1, t2, -⟩ := h.th ht
  have o1 := (okI_nI (show 8 * t + f < 2 ^ 31 by omega)).mpr (show 8 * t + f < 240 by omega)
  have o4 := (okI_nI (show s < 2 ^ 31 by omega)).mpr hs
  by_cases c : (σ.2 12 (8 * t + f) >>> (nI s &&& 31)) &&& 1 = 0
  · refine opI_ok (r := -1) (μ' := μ) (σ' := mSet σ 0 0) ?_ ?_ (mSet_0v _ _) (Rep_code h.rep _)
    · unfold K9_planned
      rw [if_pos h.k9, K9_thingAt_ok h ht, bxq_ok, ob_some, K9_checkField_ok hf, bxv_ok, K9_checkStore_ok hs, bxv_ok, if_pos t2, K8_hasCopy_eq h ht hf, ob_some, decide_eq_false (fun z => z c), if_pos (by decide)]
    · unfold M_planned
      rw [bnd_eq, M_isThing_ok (σ := mSet σ 0 0) (h.1.1.1) h30 ht, ob_some, if_neg (by decide), M_isField_ok hf, ob_some, if_neg (by decide), M_isStore_ok hs, ob_some, if_neg (by decide), show (8 : Int32) = nI 8 from rfl, pk_mul, nI_add, if_pos o1, nI_clamp (by omega), mSet_2, if_pos c]
  obtain ⟨s1, s2, -⟩ := h.spn
  obtain ⟨ν, e1, hk, hq, f6, f7⟩ := K6_settle_eq h (frc_in σ nS) ht hf
  have hν := RepB_kscr h hk
  have e3 := K9_settledDay_eq hν hs hq f6 f7
  obtain ⟨τ, e2, km, hI, w48, w49, w51⟩ := M_isDue_eq (x := 999999) (mInv_code h.1 0) ht hf
  have hτ : RepB a0 ν τ B tg nT nS nH nP nw nL := RepB_kmo (RepB_code hν 0) km hI
  have t0 : τ.1 0 = 0 := (km.1 0 (by omega)).trans (mSet_0v σ 0)
  have n1 : τ.1 1 = nI nw := (km.1 1 (by omega)).trans h1
  obtain ⟨x1, x2, x3, x4, x5, e, b, ⟨he1, he2, hb⟩, ⟨ee, eb⟩, ke, kb⟩ := h.sw hs
  have ee' : τ.2 14 s = nI e := by rw [km.2 14 (by decide) (by decide)]; exact ee
  have eb' : τ.2 15 s = nI b := by rw [km.2 15 (by decide) (by decide)]; exact eb
  refine opI_ok (r := nI (pDay σ.2 t f s (frc σ nS) nw)) (μ' := ν) (σ' := τ) ?_ ?_ t0 hτ.rep
  · unfold K9_planned
    rw [if_pos h.k9, K9_thingAt_ok h ht, bxq_ok, ob_some, K9_checkField_ok hf, bxv_ok, K9_checkStore_ok hs, bxv_ok, if_pos t2, K8_hasCopy_eq h ht hf, ob_some, decide_eq_true c, if_neg (by decide), if_pos h.k9, s1, ob_some, K9_setInForce_eq h, ob_some, if_pos s2, e1, ob_some, if_pos hν.k9, e3, ob_some]
  · obtain ⟨⟨v, hv, ev⟩, -⟩ := mSpan_in (A := σ.2) t f (frc σ nS)
    have w48' : τ.1 48 = nI v := w48.trans ev
    have e2' : M_isDue (mSet σ 0 0) (nI t) (nI f) 999999 = some (bI (sDue (mSpan σ.2 t f (frc σ nS)) (hel σ.2 t f) (σ.2 13 t) 999999), τ) := e2
    have em1 : (if nI v < nI b then nI b else nI v) = nI (max v b) := by
      by_cases z : v < b
      · rw [if_pos (nI_lt z (by omega)), Nat.max_eq_right (by omega)]
      · rw [if_neg (nI_nlt (by omega) (by omega)), Nat.max_eq_left (by omega)]
    have em2' : ∀ w : Nat, w ≤ 999999 → (if nI nw + 1 < nI w then nI w else nI nw + 1) = nI (max (nw + 1) w) := by
      intro w hw9
      rw [nI_1]
      by_cases z : nw + 1 < w
      · rw [if_pos (nI_lt z (by omega)), Nat.max_eq_right (by omega)]
      · rw [if_neg (nI_nlt (by omega) (by omega)), Nat.max_eq_left (by omega)]
    have em2 := em2' (max v b) (by omega)
    unfold M_planned M_planned_B140 pDay
    rw [bnd_eq, M_isThing_ok (σ := mSet σ 0 0) (h.1.1.1) h30 ht, ob_some, if_neg (by decide), M_isField_ok hf, ob_some, if_neg (by decide), M_isStore_ok hs, ob_some, if_neg (by decide), show (8 : Int32) = nI 8 from rfl, pk_mul, nI_add, if_pos o1, nI_clamp (show 8 * t + f < 2 ^ 31 by omega), mSet_2, if_neg c, e2', bi_some, if_pos o4, nI_clamp (show s < 2 ^ 31 by omega), n1, w48', eb', em1, em2, bnd_eq, ee, eb, ev, nI_clamp (show e < 2 ^ 31 by omega), nI_clamp (show b < 2 ^ 31 by omega), nI_clamp (show v < 2 ^ 31 by omega)]
    cases sDue (mSpan σ.2 t f (frc σ nS)) (hel σ.2 t f) (σ.2 13 t) 999999 with
    | false => rw [if_pos (by decide), if_neg (by decide)]; rfl
    | true =>
      rw [if_neg (by decide), if_pos rfl]
      unfold fF
      generalize hD : max (nw + 1) v = D
      rw [show max (nw + 1) (max v b) = max D b by omega, show (200000 : Int32) = nI 200000 from rfl]
      have hn1 : ∀ d, nxt e b d ≤ d + 400 := fun d => by
        unfold nxt
        split <;> omega
      have hn2 : ∀ d, d ≤ nxt e b d := fun d => by
        unfold nxt
        have h4 := Nat.mod_lt (d - b) (show 0 < e by omega)
        split <;> omega
      by_cases z : D ≤ b
      · rw [if_pos z, Nat.max_eq_right z, if_pos (nI_le (by omega) (by omega)), M_planned_Lp hs ee' eb' he1 he2 hb gF b (Nat.le_refl _) (by unfold gF; omega) (by have := hn1 b; unfold gF; omega)]
        have en : nxt e b b = b := by unfold nxt; rw [Nat.sub_self, Nat.zero_mod, if_pos rfl]
        rw [en, if_pos (nI_le (by omega) (by omega))]
      · rw [if_neg z, Nat.max_eq_left (by omega)]
        by_cases z2 : D ≤ 200000
        · rw [if_pos (nI_le z2 (by omega)), M_planned_Lp hs ee' eb' he1 he2 hb gF D (by omega) (by unfold gF; omega) (by have := hn1 D; unfold gF; omega)]
          have q1 := hn1 D
          by_cases z3 : nxt e b D ≤ 200000
          · rw [if_pos (nI_le z3 (by omega)), if_pos z3]
          · rw [if_neg (nI_ge (by omega) (by omega)), if_neg z3]; rfl
        · have q2 := hn2 D
          rw [if_neg (nI_ge (by omega) (by omega)), if_neg (by omega)]; rfl
end PLAN
