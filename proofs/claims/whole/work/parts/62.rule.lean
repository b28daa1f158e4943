/-! one rule, read by both -/
section RULE
variable {μ ν ν' ν1 μ1 : Km} {σ τ τ' τ1 σ1 : Ms} {rd tp n b e r p a R m : Nat} {T : Nat → Int32} {tk sg d : Int32} {rk wh rk' wh' : Nat → Int32}
theorem oIns_cg {k : Nat} (hk : rk' k = rk k) : ∀ L : List Nat, (∀ x ∈ L, rk' x = rk x) → oIns rk' k L = oIns rk k L
  | [], _ => rfl
  | x :: xs, h => by
    unfold oIns
    rw [h x List.mem_cons_self, hk, oIns_cg hk xs (fun y hy => h y (List.mem_cons_of_mem _ hy))]
theorem oLst_cg : ∀ m : Nat, (∀ k, k < m → wh' k = wh k) → (∀ k, k < m → rk' k = rk k) → oLst wh' rk' m = oLst wh rk m
  | 0, _, _ => rfl
  | m + 1, h1, h2 => by
    unfold oLst
    rw [h1 m (by omega), oLst_cg m (fun k hk => h1 k (by omega)) (fun k hk => h2 k (by omega)), oIns_cg (h2 m (by omega)) _ (fun x hx => h2 x (by have := (oLst_mem.mp hx).1; omega))]
def rul (ν : Km) (τ : Ms) (p r : Nat) : Prop := (rob ν p ∧ kN ν p = 0) ∧ (kI ν p 0 = τ.2 26 r ∧ (τ.2 26 r = 0 ∨ τ.2 26 r = 1 ∨ τ.2 26 r = 2)) ∧ ((kI ν p 1 = kbit (τ.2 27 r) ∧ (τ.2 27 r = -1 ∨ ibt (τ.2 27 r) 4)) ∧ kI ν p 2 = fbit (τ.2 28 r) ∧ (τ.2 28 r = -1 ∨ ibt (τ.2 28 r) 8)) ∧ (kI ν p 3 = τ.2 32 r ∧ ibt (τ.2 32 r) 16) ∧ (kI ν p 7 = τ.2 33 r ∧ ibt (τ.2 33 r) 10000) ∧ (∃ i, i ≤ 4 ∧ tQ p r i ν τ) ∧ (¬ τ.2 26 r = 2 → qTim p r ν τ)
theorem sRow_hi {k e : Nat} (h1 : 35 ≤ k) (h2 : k ≤ 37) (he : e < 4) : sRow r k (4 * r + e) := Or.inr ⟨h1, h2, by omega⟩
theorem tQ_cg {i : Nat} (hi : i ≤ 4) (h8 : kI ν' p 8 = kI ν p 8) (h1 : ∀ e, kI ν' (p + 1) e = kI ν (p + 1) e) (h2 : ∀ e, kI ν' (p + 2) e = kI ν (p + 2) e) (h3 : ∀ e, kI ν' (p + 3) e = kI ν (p + 3) e) (h34 : τ'.2 34 r = τ.2 34 r) (hA : ∀ k e, 35 ≤ k → k ≤ 37 → e < 4 → τ'.2 k (4 * r + e) = τ.2 k (4 * r + e)) (h : tQ p r i ν τ) : tQ p r i ν' τ' := by
  refine ⟨by rw [h8]; exact h.1, by rw [h34]; exact h.2.1, fun e he => ?_⟩
  rw [h1, h2, h3, hA 35 e (by omega) (by omega) (by omega), hA 36 e (by omega) (by omega) (by omega), hA 37 e (by omega) (by omega) (by omega)]
  exact h.2.2 e he
theorem qTim_cg (h4 : kI ν' p 4 = kI ν p 4) (h5 : kI ν' p 5 = kI ν p 5) (h6 : kI ν' p 6 = kI ν p 6) (g4 : τ'.2 29 r = τ.2 29 r) (g5 : τ'.2 30 r = τ.2 30 r) (g6 : τ'.2 31 r = τ.2 31 r) (h : qTim p r ν τ) : qTim p r ν' τ' := by
  unfold qTim
  rw [h4, h5, h6, g4, g5, g6]
  exact h
theorem rul_cg (hc : ∀ q, p ≤ q → q ≤ p + 3 → ceq ν' ν q) (hm : ∀ k j, sRow r k j → τ'.2 k j = τ.2 k j) (h : rul ν τ p r) : rul ν' τ' p r := by
  obtain ⟨⟨h1, h2⟩, h3, h4, h5, h6, ⟨i, hi, h7⟩, h8⟩ := h
  have c0 := hc p (by omega) (by omega)
  have c1 := hc (p + 1) (by omega) (by omega)
  have c2 := hc (p + 2) (by omega) (by omega)
  have c3 := hc (p + 3) (by omega) (by omega)
  have lo : ∀ k, 26 ≤ k → k ≤ 34 → τ'.2 k r = τ.2 k r := fun k q1 q2 => hm k r (sRow_lo q1 q2)
  refine ⟨⟨?_, by rw [c0.1.2]; exact h2⟩, ?_, ?_, ?_, ?_, ⟨i, hi, ?_⟩, fun z => ?_⟩
  · unfold rob
    rw [c0.1.1, c0.2.1, c0.2.1, c0.2.1, c1.1.1, c1.1.2, c2.1.1, c2.1.2, c3.1.1, c3.1.2]
    exact h1
  · rw [c0.2.2, lo 26 (by omega) (by omega)]; exact h3
  · rw [c0.2.2, c0.2.2, lo 27 (by omega) (by omega), lo 28 (by omega) (by omega)]; exact h4
  · rw [c0.2.2, lo 32 (by omega) (by omega)]; exact h5
  · rw [c0.2.2, lo 33 (by omega) (by omega)]; exact h6
  · exact tQ_cg hi (c0.2.2 _) c1.2.2 c2.2.2 c3.2.2 (lo 34 (by omega) (by omega)) (fun k e q1 q2 q3 => hm _ _ (sRow_hi q1 q2 q3)) h7
  · rw [lo 26 (by omega) (by omega)] at z
    exact qTim_cg (c0.2.2 _) (c0.2.2 _) (c0.2.2 _) (lo 29 (by omega) (by omega)) (lo 30 (by omega) (by omega)) (lo 31 (by omega) (by omega)) (h8 z)
theorem Sy_c (h : Sy ν τ rd tp n T) (h1 : ceq ν' ν rd) (h2 : ceq ν' ν tp) : Sy ν' τ rd tp n T := by
  obtain ⟨b, e, tk, sg, g1, g2, g3, g4, g5, g6, g7⟩ := h
  refine ⟨b, e, tk, sg, ⟨?_, ?_, g1.2.2.1, fun j hj => ?_⟩, g2, g3, g4, ?_, g6, ?_⟩
  · rw [h1.1.1, h1.2.1, h2.1.1, h2.1.2]; exact g1.1
  · rw [h1.2.2]; exact g1.2.1
  · rw [h2.2.2]; exact g1.2.2.2 j hj
  · rw [h1.2.2, h1.2.2, h1.2.2]; exact g5
  · rw [h1.2.2]; exact g7
theorem Sy_47 (h : Sy ν τ rd tp n T) {x : Int32} : Sy ν (mSet τ 47 x) rd tp n T := by
  obtain ⟨b, e, tk, sg, g1, g2, g3, g4, g5, g6, g7⟩ := h
  exact ⟨b, e, tk, sg, g1, mrd_set g2 (by decide), g3, g4, g5, g6, g7⟩
/-- how long and from when, or the stores -/
def Kmid (ν : Km) (rd a p : Nat) (s : Int32) : Option (Int32 × Km) := if s = (2 : Int32) then (if kK ν rd = 4 then bi (K4_readStores ν rd p) (fun r_59 s_59 => if r_59 = 0 then K4_readRule_B76 s_59 else K4_readRule_B78 s_59 rd a p) else none) else (if kK ν rd = 4 then bi (K4_readTime ν rd p) (fun r_70 s_70 => if r_70 = 0 then K4_readRule_B76 s_70 else K4_readRule_B78 s_70 rd a p) else none)
def Mmid (τ : Ms) (l1 l2 : Int32) : Option Ms := if l1 = 0 then (if l2 = 0 then bi (M_readNumbered τ (115 : Int32) (3 : Int32)) (fun r_217 s_217 => M_readRule_L221 (fun s_302 => M_readRule_B302 s_302) gF s_217 r_217) else M_readRule_B86 τ) else M_readRule_B86 τ
def fM (i : Nat) : Prop := 3 ≤ i ∧ i ≤ 6
def gM (k : Nat) : Prop := 29 ≤ k ∧ k ≤ 32
def srtC (q0 q1 : Bool) : Int32 := if q0 = true then 0 else if q1 = true then 1 else 2
theorem mid_both (hp1 : p ≠ rd) (hp2 : p ≠ tp) (hk : kK ν p = 3) (hr : r < 192) (h47 : τ.1 47 = nI r) (h : Sy ν τ rd tp n T) (hI : kI ν p 3 = 0) (hA : τ.2 32 r = 0) (q0 q1 : Bool) : ∃ ν' τ', Mmid τ (bI q0) (bI q1) = M_readRule_B302 τ' ∧ kfr (sKw rd p fM) ν' ν ∧ mfr (sMw r gM) τ' τ ∧ ((Kmid ν rd a p (srtC q0 q1) = K4_readRule_B78 ν' rd a p ∧ Sy ν' τ' rd tp n T ∧ qSto p r ν' τ' ∧ (¬ srtC q0 q1 = 2 → qTim p r ν' τ')) ∨ (Kmid ν rd a p (srtC q0 q1) = some (0, ν') ∧ Bad ν' τ' rd)) := by
  have k4 := Sy_k4 h
  have tim : ¬ srtC q0 q1 = 2 → Mmid τ (bI q0) (bI q1) = M_readRule_B86 τ → ∃ ν' τ', Mmid τ (bI q0) (bI q1) = M_readRule_B302 τ' ∧ kfr (sKw rd p fM) ν' ν ∧ mfr (sMw r gM) τ' τ ∧ ((Kmid ν rd a p (srtC q0 q1) = K4_readRule_B78 ν' rd a p ∧ Sy ν' τ' rd tp n T ∧ qSto p r ν' τ' ∧ (¬ srtC q0 q1 = 2 → qTim p r ν' τ')) ∨ (Kmid ν rd a p (srtC q0 q1) = some (0, ν') ∧ Bad ν' τ' rd)) := by
    intro hs hM
    obtain ⟨ν2, τ2, a1, a2, a3, a4⟩ := time_both hp1 hp2 hk hr h47 h
    have e3 : kI ν2 p 3 = 0 := by rw [a2.2 _ _ (fun z => by rcases z with z | ⟨z1, z2⟩; exact hp1 z.1; unfold fT at z2; omega)]; exact hI
    have e32 : τ2.2 32 r = 0 := by rw [a3.2 _ _ (fun z => by have z1 := z.1; unfold gT at z1; omega)]; exact hA
    unfold Kmid
    rw [if_neg hs, if_pos k4]
    refine ⟨ν2, τ2, hM.trans a1, kfr_mn a2 (fun b i z => ?_), mfr_mn a3 (fun k j z => ⟨?_, z.2⟩), ?_⟩
    · rcases z with z | ⟨z1, z2⟩
      · exact Or.inl z
      · refine Or.inr ⟨z1, ?_⟩
        unfold fT at z2
        unfold fM
        omega
    · have z1 := z.1
      unfold gT at z1
      unfold gM
      omega
    · rcases a4 with ⟨w1, w2, w3⟩ | ⟨w1, w2⟩
      · rw [w1, bi_some, if_neg (show ¬ (1 : Int32) = 0 by decide)]
        exact Or.inl ⟨rfl, w2, ⟨by rw [e3, e32], by rw [e32]; exact ⟨0, by omega, rfl⟩⟩, fun _ => w3⟩
      · rw [w1, bi_some, if_pos rfl]
        exact Or.inr ⟨rfl, w2⟩
  cases q0 with
  | true => exact tim (by cases q1 <;> decide) (by unfold Mmid; rw [if_neg (show ¬ bI true = 0 by decide)])
  | false =>
    cases q1 with
    | true => exact tim (by decide) (by unfold Mmid; rw [if_pos (show bI false = 0 by decide), if_neg (show ¬ bI true = 0 by decide)])
    | false =>
      obtain ⟨ν2, τ2, a1, a2, a3, a4⟩ := stores_both hp1 hp2 hk hr h47 h hI hA
      unfold Kmid Mmid
      rw [if_pos (show srtC false false = 2 by decide), if_pos k4, if_pos (show bI false = 0 by decide), if_pos (show bI false = 0 by decide)]
      refine ⟨ν2, τ2, a1, kfr_mn a2 (fun b i z => ?_), mfr_mn a3 (fun k j z => ⟨?_, z.2⟩), ?_⟩
      · rcases z with z | ⟨z1, z2⟩
        · exact Or.inl z
        · refine Or.inr ⟨z1, ?_⟩
          unfold fS at z2
          unfold fM
          omega
      · have z1 := z.1
        unfold gS32 at z1
        unfold gM
        omega
      · rcases a4 with ⟨w1, w2, w3⟩ | ⟨w1, w2⟩
        · rw [w1, bi_some, if_neg (show ¬ (1 : Int32) = 0 by decide)]
          exact Or.inl ⟨rfl, w2, w3, fun z => absurd rfl z⟩
        · rw [w1, bi_some, if_pos rfl]
          exact Or.inr ⟨rfl, w2⟩
/-- behind a fault -/
theorem Mmid_bad (hr : r < 192) (h47 : τ.1 47 = nI r) (h : ¬ τ.1 45 = 0) (x y : Int32) : ∃ τ', Mmid τ x y = some τ' ∧ mfr (sRow r) τ' τ ∧ τ'.1 = τ.1 := by
  have e86 : M_readRule_B86 τ = some (mSto (mSto (mSto τ 29 r 0) 30 r (-1)) 31 r (-1)) := by
    rw [B86_bad hr h47 h]
    exact B302_bad (τ := mSto (mSto (mSto τ 29 r 0) 30 r (-1)) 31 r (-1)) h
  have f86 : ∃ τ', M_readRule_B86 τ = some τ' ∧ mfr (sRow r) τ' τ ∧ τ'.1 = τ.1 := ⟨_, e86, mfr_c (mfr_st (sRow_lo (by omega) (by omega))) (mfr_c (mfr_st (sRow_lo (by omega) (by omega))) (mfr_st (sRow_lo (by omega) (by omega)))), rfl⟩
  unfold Mmid
  by_cases c1 : x = 0
  · rw [if_pos c1]
    by_cases c2 : y = 0
    · rw [if_pos c2, readNumbered_bad h, bi_some, show gF = 1048575 + 1 from rfl, L221_bad h, B302_bad h]
      exact ⟨τ, rfl, mfr_rf _ _, rfl⟩
    · rw [if_neg c2]; exact f86
  · rw [if_neg c1]; exact f86
end RULE
