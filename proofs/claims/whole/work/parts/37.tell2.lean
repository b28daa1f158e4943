section TELL2
variable {σ τ : Ms} {nT nS nH nP nw nL : Nat} {A : Ar}
theorem spKeep_ok {k x : Int32} {q : Sp} (h : q.1 ≤ q.2.1) : (spKeep k x q).1 ≤ (spKeep k x q).2.1 ∧ (spKeep k x q).2.2.2.2.length ≤ q.2.2.2.2.length + 1 := by
  unfold spKeep
  by_cases c1 : q.2.1 < x
  · rw [if_pos c1]; exact ⟨h, by simp⟩
  · rw [if_neg c1]
    by_cases c2 : q.1 < x
    · rw [if_pos c2]; exact ⟨i_nlt c1, by simp⟩
    · rw [if_neg c2]; exact ⟨h, by omega⟩
theorem spEnd_ok {k x : Int32} {q : Sp} (h : q.1 ≤ q.2.1) : (spEnd k x q).1 ≤ (spEnd k x q).2.1 ∧ (spEnd k x q).2.2.2.2.length ≤ q.2.2.2.2.length + 1 := by
  unfold spEnd
  by_cases c1 : x < q.1
  · rw [if_pos c1]; exact ⟨h, by simp⟩
  · rw [if_neg c1]
    by_cases c2 : x < q.2.1
    · rw [if_pos c2]; exact ⟨i_nlt c1, by simp⟩
    · rw [if_neg c2]; exact ⟨h, by omega⟩
theorem spRule_ok {t f s : Nat} {q : Sp} (k : Nat) (h : q.1 ≤ q.2.1) : (spRule A t f s q k).1 ≤ (spRule A t f s q k).2.1 ∧ (spRule A t f s q k).2.2.2.2.length ≤ q.2.2.2.2.length + 1 := by
  unfold spRule spStep
  split
  · split
    · exact spKeep_ok h
    · split
      · exact ⟨h, by omega⟩
      · exact spEnd_ok h
  · exact ⟨h, by omega⟩
theorem spFold_ok {t f s : Nat} : ∀ {l : List Nat} {q : Sp}, q.1 ≤ q.2.1 → (l.foldl (spRule A t f s) q).1 ≤ (l.foldl (spRule A t f s) q).2.1 ∧ (l.foldl (spRule A t f s) q).2.2.2.2.length ≤ q.2.2.2.2.length + l.length := by
  intro l
  induction l with
  | nil => intro q h; exact ⟨h, by simp⟩
  | cons k l ih =>
    intro q h
    have h1 := spRule_ok (A := A) (t := t) (f := f) (s := s) k h
    have h2 := ih h1.1
    rw [List.foldl_cons]
    exact ⟨h2.1, by have := h2.2; rw [List.length_cons]; omega⟩
theorem sp0_ok : sp0.1 ≤ sp0.2.1 := by decide
theorem ixs_mono {wh rk : Nat → Int32} {r : Int32} : ∀ {i m : Nat}, i ≤ m → (ixs wh rk r i).length ≤ (ixs wh rk r m).length := by
  intro i m
  induction m with
  | zero => intro h; rw [show i = 0 by omega]; exact Nat.le_refl _
  | succ m ih =>
    intro h
    rcases Nat.lt_or_ge m i with q | q
    · rw [show i = m + 1 by omega]; exact Nat.le_refl _
    · refine Nat.le_trans (ih q) ?_
      show _ ≤ (if wh m = 2 then ixs wh rk r m else if rk m = r then ixs wh rk r m ++ [m] else ixs wh rk r m).length
      split
      · exact Nat.le_refl _
      · split
        · simp
        · exact Nat.le_refl _
theorem ixs_succ (wh rk : Nat → Int32) (r : Int32) (m : Nat) : ixs wh rk r (m + 1) = if wh m = 2 then ixs wh rk r m else if rk m = r then ixs wh rk r m ++ [m] else ixs wh rk r m := rfl
theorem M_tell_Lb {Rt : Type} {kk : Int32 → Option Rt} {s t f : Nat} {b : Int32} (h : ∀ k j, mRg σ.2 nT nS nH k j) (hS : nS ≤ 8) (hs : s < nS) (hc : scr τ σ) : ∀ (F i : Nat), i ≤ (σ.2 25 s).toNatClampNeg → (σ.2 25 s).toNatClampNeg < i + F → M_tell_L48 τ (nI t) (nI f) (nI s) b kk F (bst (fun k => σ.2 33 (24 * s + k)) b i) (nI i) = kk (bst (fun k => σ.2 33 (24 * s + k)) b (σ.2 25 s).toNatClampNeg) := by
  have h25 := ibt_c (h 25 s hs) (by decide)
  intro F
  induction F with
  | zero => intro i h1 h2; omega
  | succ F ih =>
    intro i h1 h2
    unfold M_tell_L48
    rw [if_pos ((okI_nI (by omega)).mpr (by omega)), nI_clamp (show s < 2 ^ 31 by omega), hc.2 25 (by decide), hc.2 33 (by decide)]
    by_cases hi : i = (σ.2 25 s).toNatClampNeg
    · rw [if_pos (by rw [h25.1, hi]; exact nI_le (Nat.le_refl _) (by omega)), hi]
    · have hlt : i < (σ.2 25 s).toNatClampNeg := by omega
      have ih' := ih (i + 1) (by omega) (by omega)
      rw [bst_succ] at ih'
      have o1 := (okI_nI (show 24 * s + i < 2 ^ 31 by omega)).mpr (show 24 * s + i < 192 by omega)
      rw [if_neg (by rw [h25.1]; exact nI_ge hlt (by omega)), show (24 : Int32) = nI 24 from rfl, pk_mul, nI_add, if_pos o1, nI_clamp (show 24 * s + i < 2 ^ 31 by omega), if_pos o1, bnd_eq]
      unfold M_tell_B95
      rw [nI_1]
      by_cases c1 : b ≤ σ.2 33 (24 * s + i)
      · rw [if_pos c1]; rw [if_pos c1] at ih'; exact ih'
      · rw [if_neg c1]; rw [if_neg c1] at ih'; exact ih'
theorem M_tell_Lr {Rt : Type} {kk : Ms → Option Rt} {s t f : Nat} {r : Int32} {q0 : Sp} (h : ∀ k j, mRg σ.2 nT nS nH k j) (hS : nS ≤ 8) (hT : nT ≤ 30) (hs : s < nS) (ht : t < nT) (hle : q0.1 ≤ q0.2.1) (hn : q0.2.2.2.2.length + (ixs (fun k => σ.2 26 (24 * s + k)) (fun k => σ.2 33 (24 * s + k)) r (σ.2 25 s).toNatClampNeg).length ≤ 24) : ∀ (F i : Nat) (τ : Ms), i ≤ (σ.2 25 s).toNatClampNeg → (σ.2 25 s).toNatClampNeg < i + F → scr τ σ → spIs τ ((ixs (fun k => σ.2 26 (24 * s + k)) (fun k => σ.2 33 (24 * s + k)) r i).foldl (spRule σ.2 t f s) q0) → ∃ τ', M_tell_L111 (nI t) (nI f) (nI s) r kk F τ (nI i) = kk τ' ∧ scr τ' σ ∧ spIs τ' ((ixs (fun k => σ.2 26 (24 * s + k)) (fun k => σ.2 33 (24 * s + k)) r (σ.2 25 s).toNatClampNeg).foldl (spRule σ.2 t f s) q0) := by
  have h25 := ibt_c (h 25 s hs) (by decide)
  intro F
  induction F with
  | zero => intro i τ h1 h2; omega
  | succ F ih =>
    intro i τ h1 h2 hc hq
    unfold M_tell_L111
    rw [if_pos ((okI_nI (by omega)).mpr (by omega)), nI_clamp (show s < 2 ^ 31 by omega), hc.2 25 (by decide)]
    by_cases hi : i = (σ.2 25 s).toNatClampNeg
    · rw [if_pos (by rw [h25.1, hi]; exact nI_le (Nat.le_refl _) (by omega))]
      exact ⟨τ, rfl, hc, by rw [← hi]; exact hq⟩
    · have hlt : i < (σ.2 25 s).toNatClampNeg := by omega
      have hl := lvr_of h hs hlt
      have o1 := (okI_nI (show 24 * s + i < 2 ^ 31 by omega)).mpr (show 24 * s + i < 192 by omega)
      rw [if_neg (by rw [h25.1]; exact nI_ge hlt (by omega)), bnd_eq, show (24 : Int32) = nI 24 from rfl, pk_mul, nI_add, if_pos o1, nI_clamp (show 24 * s + i < 2 ^ 31 by omega), hc.2 33 (by decide), hc.2 26 (by decide), if_pos o1]
      unfold M_tell_B173
      rw [nI_1]
      have go := ih (i + 1) τ (by omega) (by omega) hc
      rw [ixs_succ] at go
      by_cases c1 : σ.2 33 (24 * s + i) = r
      · rw [if_pos c1]
        by_cases c2 : σ.2 26 (24 * s + i) = 2
        · rw [if_pos c2]
          rw [if_pos c2] at go
          exact go hq
        · rw [if_neg c2]
          rw [if_neg c2, if_pos c1, List.foldl_append] at go
          have hA : ∀ k j, mRg τ.2 nT nS nH k j := fun k j => by
            by_cases e : k = 53
            · subst e; trivial
            · rw [mRg_cg (A := σ.2) (hc.2 25 (by decide)) (hc.2 26 (by decide)) (hc.2 34 (by decide)) (by rw [hc.2 k e])]; exact h k j
          have ef : M_isFor τ (nI (24 * s + i)) (nI t) (nI f) = some (bI (mFor σ.2 (24 * s + i) t f)) := by
            have e := M_isFor_eq (σ := τ) (r := 24 * s + i) (f := f) hA hS hT (by unfold lvr; rw [hc.2 25 (by decide)]; exact hl.1) ht
            rw [e]
            have em : mFor τ.2 (24 * s + i) t f = mFor σ.2 (24 * s + i) t f := by
              unfold mFor mWho
              rw [hc.2 27 (by decide), hc.2 28 (by decide), hc.2 9 (by decide), hc.2 34 (by decide), sTests_cg h (fun k h1 h2 => hc.2 k (by omega)) hl.1 (fun a _ => by rw [hc.2 10 (by decide)]) (Nat.le_refl _)]
            rw [em]
          rw [ef, ob_some]
          cases hm : mFor σ.2 (24 * s + i) t f with
          | false =>
            rw [if_pos (by decide)]
            refine go ?_
            show spIs τ (spRule σ.2 t f s _ i)
            unfold spRule
            rw [if_neg (by rw [hm]; decide)]
            exact hq
          | true =>
            rw [if_neg (by decide)]
            have hfo := spFold_ok (A := σ.2) (t := t) (f := f) (s := s) (l := ixs (fun k => σ.2 26 (24 * s + k)) (fun k => σ.2 33 (24 * s + k)) r i) hle
            have hlen : (ixs (fun k => σ.2 26 (24 * s + k)) (fun k => σ.2 33 (24 * s + k)) r i).length < (ixs (fun k => σ.2 26 (24 * s + k)) (fun k => σ.2 33 (24 * s + k)) r (σ.2 25 s).toNatClampNeg).length := by
              have := ixs_mono (wh := fun k => σ.2 26 (24 * s + k)) (rk := fun k => σ.2 33 (24 * s + k)) (r := r) (show i + 1 ≤ (σ.2 25 s).toNatClampNeg from hlt)
              rw [ixs_succ, if_neg c2, if_pos c1, List.length_append] at this
              simp at this
              omega
            obtain ⟨τ1, e1, hc1, hq1⟩ := M_bid_eq h hS hT hs hlt c2 ht hc hq hfo.1 (by omega)
            rw [e1, ob_some]
            have go1 := ih (i + 1) τ1 (by omega) (by omega) hc1
            rw [ixs_succ, if_neg c2, if_pos c1, List.foldl_append] at go1
            refine go1 ?_
            show spIs τ1 (spRule σ.2 t f s _ i)
            unfold spRule
            rw [if_pos hm]
            exact hq1
      · rw [if_neg c1]
        rw [if_neg c1] at go
        refine go ?_
        split <;> exact hq
theorem ord_len_le (h : ∀ k j, mRg A nT nS nH k j) {s : Nat} (hs : s < nS) : (ord A s).length ≤ 24 := by
  have h25 := ibt_c (h 25 s hs) (by decide)
  have := oLst_len (wh := fun k => A 26 (24 * s + k)) (rk := fun k => A 33 (24 * s + k)) (m := (A 25 s).toNatClampNeg)
  unfold ord
  omega
theorem M_tell_Lv {s t f : Nat} (h : ∀ k j, mRg σ.2 nT nS nH k j) (hS : nS ≤ 8) (hT : nT ≤ 30) (hs : s < nS) (ht : t < nT) : ∀ (F b : Nat) (τ : Ms), b < F → b ≤ 10000 → scr τ σ → spIs τ (((ord σ.2 s).filter (fun x => decide (¬ σ.2 33 (24 * s + x) < nI b))).foldl (spRule σ.2 t f s) sp0) → ∃ τ', M_tell_L37 (nI t) (nI f) (nI s) (fun s_107 => some s_107) (fun s_186 => some s_186) F τ (nI b) = some τ' ∧ scr τ' σ ∧ spIs τ' (spSet σ.2 t f s) := by
  have h25 := ibt_c (h 25 s hs) (by decide)
  have h33 : ∀ k, k < (σ.2 25 s).toNatClampNeg → ∃ v : Nat, v < 10000 ∧ σ.2 33 (24 * s + k) = nI v := fun k hk => h 33 _ (lvr_of h hs hk).1
  have hall : ∀ l : List Nat, (∀ x ∈ l, ¬ σ.2 33 (24 * s + x) < nI 0) → l.filter (fun x => decide (¬ σ.2 33 (24 * s + x) < nI 0)) = l := fun l hl => List.filter_eq_self.mpr (fun x hx => decide_eq_true (hl x hx))
  have hsr := srt_lst (rk := fun k => σ.2 33 (24 * s + k)) (wh := fun k => σ.2 26 (24 * s + k)) (σ.2 25 s).toNatClampNeg
  intro F
  induction F with
  | zero => intro b τ h1; omega
  | succ F ih =>
    intro b τ h1 hb hc hq
    unfold M_tell_L37
    by_cases hb0 : b = 0
    · subst hb0
      rw [if_pos (by decide)]
      refine ⟨τ, rfl, hc, ?_⟩
      rw [hall _ (fun x hx => by
        obtain ⟨v, hv, ev⟩ := h33 x (ord_mem.mp hx).1
        rw [ev]; exact nI_pos (by omega))] at hq
      exact hq
    · rw [if_neg (nI_nle (by omega) (by omega)), show (-1 : Int32) = bst (fun k => σ.2 33 (24 * s + k)) (nI b) 0 from rfl, show (0 : Int32) = nI 0 from rfl, M_tell_Lb h hS hs hc gF 0 (Nat.zero_le _) (by unfold gF; omega)]
      have hbst := bst_ok (rk := fun k => σ.2 33 (24 * s + k)) (b := nI b) (σ.2 25 s).toNatClampNeg (fun k hk => by
        obtain ⟨v, hv, ev⟩ := h33 k hk
        show 0 ≤ σ.2 33 (24 * s + k)
        rw [ev]; exact nI_pos' (by omega))
      rw [show bst (fun k => σ.2 33 (24 * s + k)) (nI b) 0 = (-1 : Int32) from rfl]
      rcases hbst with ⟨q1, q2⟩ | ⟨q1, q2, q3⟩
      · rw [if_pos q1]
        refine ⟨τ, rfl, hc, ?_⟩
        have : (ord σ.2 s).filter (fun x => decide (¬ σ.2 33 (24 * s + x) < nI b)) = ord σ.2 s := List.filter_eq_self.mpr (fun x hx => decide_eq_true (q2 x (ord_mem.mp hx).1))
        rw [this] at hq
        exact hq
      · generalize bst (fun k => σ.2 33 (24 * s + k)) (nI b) (σ.2 25 s).toNatClampNeg = r at q1 q2 q3
        obtain ⟨v, -, hv, rfl⟩ := i_rng (x := r) (lo := 0) (hi := b) (i_le_n q1) (i_lt_le q2) (by omega) (by omega)
        rw [nI_ltI (by omega) (by omega)] at q2
        rw [if_neg (i_m1_ne (by omega))]
        have hsplit := lvl_split (rk := fun k => σ.2 33 (24 * s + k)) (b := nI b) (r := nI v) (nI_lt q2 (by omega)) (ord σ.2 s) hsr (fun x hx => q3 x (ord_mem.mp hx).1)
        have hrank := lst_rank (wh := fun k => σ.2 26 (24 * s + k)) (rk := fun k => σ.2 33 (24 * s + k)) (r := nI v) (σ.2 25 s).toNatClampNeg
        rw [show (ord σ.2 s).filter (fun x => decide (σ.2 33 (24 * s + x) = nI v)) = ixs (fun k => σ.2 26 (24 * s + k)) (fun k => σ.2 33 (24 * s + k)) (nI v) (σ.2 25 s).toNatClampNeg from hrank] at hsplit
        have hfo := spFold_ok (A := σ.2) (t := t) (f := f) (s := s) (l := (ord σ.2 s).filter (fun x => decide (¬ σ.2 33 (24 * s + x) < nI b))) sp0_ok
        have hlen : ((ord σ.2 s).filter (fun x => decide (¬ σ.2 33 (24 * s + x) < nI b))).length + (ixs (fun k => σ.2 26 (24 * s + k)) (fun k => σ.2 33 (24 * s + k)) (nI v) (σ.2 25 s).toNatClampNeg).length ≤ 24 := by
          rw [← List.length_append, ← hsplit]
          exact Nat.le_trans (List.length_filter_le _ _) (ord_len_le h hs)
        have hlost : (((ord σ.2 s).filter (fun x => decide (¬ σ.2 33 (24 * s + x) < nI b))).foldl (spRule σ.2 t f s) sp0).2.2.2.2.length ≤ ((ord σ.2 s).filter (fun x => decide (¬ σ.2 33 (24 * s + x) < nI b))).length := by
          have := hfo.2
          have e0 : sp0.2.2.2.2.length = 0 := rfl
          omega
        obtain ⟨τ1, e1, hc1, hq1⟩ := M_tell_Lr (kk := fun s_179 => M_tell_L37 (nI t) (nI f) (nI s) (fun s_107 => some s_107) (fun s_186 => some s_186) F s_179 (nI v)) (f := f) (r := nI v) h hS hT hs ht hfo.1 (by omega) gF 0 τ (Nat.zero_le _) (by unfold gF; omega) hc hq
        rw [e1]
        refine ih v τ1 (by omega) (by omega) hc1 ?_
        rw [hsplit, List.foldl_append]
        exact hq1
theorem M_tell_eq0 {t f : Nat} {s : Int32} (hS : nS ≤ 8) (hT : nT ≤ 30) (h : ∀ k j, mRg σ.2 nT nS nH k j) (hs : s = -1 ∨ ibt s nS) (ht : t < nT) : ∃ τ', M_tell σ (nI t) (nI f) s = some τ' ∧ scr τ' σ ∧ spIs τ' (mSpan σ.2 t f s) := by
  have hc : scr (mSet (mSet (mSet (mSet (mSet σ 48 0) 49 999999) 50 (-1)) 51 (-1)) 52 0) σ := scr_set (by omega) (by omega) (scr_set (by omega) (by omega) (scr_set (by omega) (by omega) (scr_set (by omega) (by omega) (scr_set (by omega) (by omega) (scr_rf σ)))))
  have hq : spIs (mSet (mSet (mSet (mSet (mSet σ 48 0) 49 999999) 50 (-1)) 51 (-1)) 52 0) sp0 := ⟨rfl, rfl, rfl, rfl, rfl, fun i hi => absurd hi (Nat.not_lt_zero i)⟩
  unfold M_tell mSpan
  rw [bnd_eq, bnd_eq, bnd_eq, bnd_eq, bnd_eq]
  rcases hs with e | e
  · rw [if_pos e, if_pos e]
    exact ⟨_, rfl, hc, hq⟩
  · have e2 := ibt_c e (by omega)
    have e3 : ¬ s = -1 := by rw [e2.1]; exact i_m1_ne (by omega)
    rw [if_neg e3, if_neg e3]
    have hM := M_tell_Lv (f := f) h hS hT e2.2 ht gF 10000 _ (by unfold gF; omega) (by omega) hc (by
      rw [show (ord σ.2 s.toNatClampNeg).filter (fun x => decide (¬ σ.2 33 (24 * s.toNatClampNeg + x) < nI 10000)) = [] from List.filter_eq_nil_iff.mpr (fun x hx z => by
        obtain ⟨v, hv, ev⟩ := h 33 _ (lvr_of h e2.2 (ord_mem.mp hx).1).1
        have z2 := of_decide_eq_true z
        rw [ev] at z2
        exact z2 (nI_lt hv (by omega)))]
      exact hq)
    rw [← e2.1] at hM
    exact hM
theorem M_tell_eq {t f : Nat} {s : Int32} (h : mInv σ nT nS nH nP nw nL) (hs : s = -1 ∨ ibt s nS) (ht : t < nT) : ∃ τ', M_tell σ (nI t) (nI f) s = some τ' ∧ scr τ' σ ∧ spIs τ' (mSpan σ.2 t f s) := M_tell_eq0 h.1.2.2.2.1 h.1.2.1 h.2.1 hs ht
end TELL2
