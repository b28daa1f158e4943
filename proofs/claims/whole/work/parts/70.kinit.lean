/-! the constructors: cells made one behind another, from a on -/
section KINIT
variable {μ ν ν' ν1 s : Km} {a b n m i j r kd z : Nat} {kt lt : Nat → Nat} {V : Nat → Nat → Int32} {D : List (Nat × Nat × Nat)}
def Bld (μ : Km) (a : Nat) (kt lt : Nat → Nat) (m : Nat) (V : Nat → Nat → Int32) (D : List (Nat × Nat × Nat)) (s : Km) : Prop := kn s = a + m ∧ (∀ q, q < a → ceq s μ q) ∧ (∀ q, a + m ≤ q → kK s q = kK μ q) ∧ (∀ i, i < m → kK s (a + i) = kt i ∧ kN s (a + i) = lt i ∧ ∀ j, kI s (a + i) j = V i j) ∧ ∀ t ∈ D, kR s (a + t.1) t.2.1 = some (a + t.2.2) ∧ t.1 < m
theorem B_0 (hn : kn μ = a) : Bld μ a kt lt 0 V [] μ := ⟨hn, fun q _ => ceq_rf _ _, fun q _ => rfl, fun i hi => by omega, fun t ht => by cases ht⟩
theorem B_new (m' : Nat) (h : Bld μ a kt lt m V D s) (hm : m + 1 = m') (h1 : kt m = kd) (h2 : lt m = z) (h3 : ∀ j, V m j = 0) : Bld μ a kt lt m' V D (kNew s kd z) := by
  subst hm
  obtain ⟨g1, g2, g3, g4, g5⟩ := h
  have cq : ∀ q, q ≠ a + m → ceq (kNew s kd z) s q := fun q hq => ⟨⟨by rw [kK_new, g1, if_neg hq], by rw [kN_new, g1, if_neg hq]⟩, fun j => by rw [kR_new, g1, if_neg hq], fun j => by rw [kI_new, g1, if_neg hq]⟩
  refine ⟨by rw [kn_new, g1]; rfl, fun q hq => ceq_tr (cq q (by omega)) (g2 q hq), fun q hq => ?_, fun i hi => ?_, fun t ht => ?_⟩
  · rw [(cq q (by omega)).1.1]; exact g3 q (by omega)
  · by_cases e : i = m
    · subst e
      exact ⟨by rw [kK_new, g1, if_pos rfl, h1], by rw [kN_new, g1, if_pos rfl, h2], fun j => by rw [kI_new, g1, if_pos rfl, h3]⟩
    · have c := cq (a + i) (by omega)
      rw [c.1.1, c.1.2]
      refine ⟨(g4 i (by omega)).1, (g4 i (by omega)).2.1, fun j => ?_⟩
      rw [c.2.2]
      exact (g4 i (by omega)).2.2 j
  · have c := cq (a + t.1) (by have := (g5 t ht).2; omega)
    rw [c.2.1]
    exact ⟨(g5 t ht).1, by have := (g5 t ht).2; omega⟩
theorem B_r (h : Bld μ a kt lt m V D s) (hi : i < m) (hD : ∀ t ∈ D, ¬ (t.1 = i ∧ t.2.1 = j)) : Bld μ a kt lt m V ((i, j, r) :: D) (kSetR s (a + i) j (some (a + r))) := by
  obtain ⟨g1, g2, g3, g4, g5⟩ := h
  refine ⟨g1, fun q hq => ⟨(g2 q hq).1, fun j' => ?_, (g2 q hq).2.2⟩, g3, g4, fun t ht => ?_⟩
  · rw [kR_set, if_neg (by omega)]; exact (g2 q hq).2.1 j'
  · rcases List.mem_cons.mp ht with rfl | ht
    · exact ⟨by rw [kR_set, if_pos ⟨rfl, rfl⟩], hi⟩
    · refine ⟨?_, (g5 t ht).2⟩
      rw [kR_set, if_neg (fun z => hD t ht ⟨by omega, z.2⟩)]
      exact (g5 t ht).1
theorem B_i {x : Int32} (h : Bld μ a kt lt m V D s) (hi : i < m) : Bld μ a kt lt m (fun i' j' => if i' = i ∧ j' = j then x else V i' j') D (kSetI s (a + i) j x) := by
  obtain ⟨g1, g2, g3, g4, g5⟩ := h
  refine ⟨g1, fun q hq => ⟨(g2 q hq).1, (g2 q hq).2.1, fun j' => ?_⟩, g3, fun i' hi' => ⟨(g4 i' hi').1, (g4 i' hi').2.1, fun j' => ?_⟩, g5⟩
  · rw [kI_set, if_neg (by omega)]; exact (g2 q hq).2.2 j'
  · rw [kI_set, (g4 i' hi').2.2 j']
    show _ = if i' = i ∧ j' = j then x else V i' j'
    by_cases c : i' = i ∧ j' = j
    · rw [if_pos c, if_pos ⟨by rw [c.1], c.2⟩]
    · rw [if_neg c, if_neg (fun z => c ⟨by omega, z.2⟩)]
theorem Bld.k (h : Bld μ a kt lt m V D s) (hi : i < m) (hk : kt i = kd) : kK s (a + i) = kd := by rw [(h.2.2.2.1 i hi).1, hk]
theorem Bld.l (h : Bld μ a kt lt m V D s) (hi : i < m) (hk : lt i = kd) : kN s (a + i) = kd := by rw [(h.2.2.2.1 i hi).2.1, hk]
theorem Bld.nn (h : Bld μ a kt lt m V D s) : kn s = a + m := h.1
theorem Bld.v (h : Bld μ a kt lt m V D s) {V' : Nat → Nat → Int32} (hV : ∀ i j, i < m → V i j = V' i j) : Bld μ a kt lt m V' D s := ⟨h.1, h.2.1, h.2.2.1, fun i hi => ⟨(h.2.2.2.1 i hi).1, (h.2.2.2.1 i hi).2.1, fun j => by rw [(h.2.2.2.1 i hi).2.2 j, hV i j hi]⟩, h.2.2.2.2⟩
/-- a turn of the loop over the stores -/
theorem K9_sw {Rt : Type} {kk : Km → Option Rt} {F i : Nat} (hn : kn ν = n) (hi : i < 4) (ha : a < n) (hb : b < n) (h9 : kK ν a = 9) (h7 : kR ν a 7 = some b) (h17 : kK ν b = 17) (h4 : kN ν b = 4) : K9_init_L46 a kk (F + 1) ν (nI i) = K9_init_L46 a kk F (kSetR (kSetI (kNew ν 7 0) n 0 1) b i (some n)) (nI (i + 1)) := by
  conv => lhs; unfold K9_init_L46
  have kA : kK (kNew ν 7 0) n = 7 := by rw [kK_new, hn, if_pos rfl]
  have kB : kK (kNew ν 7 0) b = 17 := by rw [kK_new, hn, if_neg (by omega), h17]
  have nB : kN (kNew ν 7 0) b = 4 := by rw [kN_new, hn, if_neg (by omega), h4]
  rw [if_neg (show ¬ (4 : Int32) ≤ nI i from nI_ge (b := 4) hi (by omega)), if_pos h9, h7, ob_some, bnd2_eq, hn]
  unfold K7_init
  rw [if_pos kA, bnd_eq, ob_some, if_pos (show kK (kSetI (kNew ν 7 0) n 0 1) b = 17 from kB), if_pos (show kK (kSetI (kNew ν 7 0) n 0 1) n = 7 from kA), show kN (kSetI (kNew ν 7 0) n 0 1) b = 4 from nB, if_pos ((okI_nI (by omega)).mpr hi), bnd_eq, nI_clamp (by omega), nI_1]
def kd9 (i : Nat) : Nat := match i with
  | 0 => 9 | 1 => 11 | 2 => 16 | 3 => 18 | 4 => 17 | 5 => 7 | 6 => 7 | 7 => 7 | 8 => 7 | 9 => 14 | 10 => 2 | 11 => 12 | 12 => 6 | 13 => 12 | _ => 0
def ln9 (i : Nat) : Nat := match i with
  | 1 => 1000 | 2 => 8 | 3 => 30 | 4 => 4 | 9 => 40 | 11 => 2000 | 13 => 24 | _ => 0
def vi9 (i j : Nat) : Int32 := if i = 0 ∧ j = 2 then -1 else if 5 ≤ i ∧ i ≤ 8 ∧ j = 0 then 1 else 0
def rf9 : List (Nat × Nat × Nat) := [(0, 11, 12), (12, 4, 13), (0, 10, 10), (10, 0, 11), (0, 8, 9), (4, 3, 8), (4, 2, 7), (4, 1, 6), (4, 0, 5), (0, 7, 4), (0, 5, 3), (0, 3, 2), (0, 0, 1)]
theorem K9_new (hn : kn μ = a) : ∃ ν', K9_init (kNew μ 9 0) a = some ν' ∧ Bld μ a kd9 ln9 14 vi9 rf9 ν' := by
  have b0 : Bld μ a kd9 ln9 1 (fun _ _ => 0) [] (kNew μ 9 0) := B_new 1 (B_0 hn) rfl rfl rfl (fun _ => rfl)
  generalize kNew μ 9 0 = s0 at b0 ⊢
  unfold K9_init
  have n1 := B_new (kd := 11) (z := 1000) 2 b0 rfl rfl rfl (fun j => by first | rfl | simp)
  rw [bnd2_eq, b0.nn, if_pos (show kK (kNew s0 11 1000) a = 9 from n1.k (i := 0) (by omega) rfl), bnd_eq]
  have b1 := B_r (i := 0) (j := 0) (r := 1) n1 (by omega) (by decide)
  rw [show a + 0 = a from rfl] at b1
  generalize kSetR (kNew s0 11 1000) a 0 (some (a + 1)) = s1 at b1 ⊢
  have b1' := B_i (i := 0) (j := 2) (x := -1) b1 (by omega)
  rw [show a + 0 = a from rfl] at b1'
  rw [bnd_eq]
  generalize kSetI s1 a 2 (-1) = s1' at b1' ⊢
  have n2 := B_new (kd := 16) (z := 8) 3 b1' rfl rfl rfl (fun j => by first | rfl | simp)
  rw [bnd2_eq, b1'.nn, if_pos (show kK (kNew s1' 16 8) a = 9 from n2.k (i := 0) (by omega) rfl), bnd_eq]
  have b2 := B_r (i := 0) (j := 3) (r := 2) n2 (by omega) (by decide)
  rw [show a + 0 = a from rfl] at b2
  generalize kSetR (kNew s1' 16 8) a 3 (some (a + 2)) = s2 at b2 ⊢
  have n3 := B_new (kd := 18) (z := 30) 4 b2 rfl rfl rfl (fun j => by first | rfl | simp)
  rw [bnd2_eq, b2.nn, if_pos (show kK (kNew s2 18 30) a = 9 from n3.k (i := 0) (by omega) rfl), bnd_eq]
  have b3 := B_r (i := 0) (j := 5) (r := 3) n3 (by omega) (by decide)
  rw [show a + 0 = a from rfl] at b3
  generalize kSetR (kNew s2 18 30) a 5 (some (a + 3)) = s3 at b3 ⊢
  have n4 := B_new (kd := 17) (z := 4) 5 b3 rfl rfl rfl (fun j => by first | rfl | simp)
  rw [bnd2_eq, b3.nn, if_pos (show kK (kNew s3 17 4) a = 9 from n4.k (i := 0) (by omega) rfl), bnd_eq]
  have b4 := B_r (i := 0) (j := 7) (r := 4) n4 (by omega) (by decide)
  rw [show a + 0 = a from rfl] at b4
  generalize kSetR (kNew s3 17 4) a 7 (some (a + 4)) = s4 at b4 ⊢
  rw [show (0 : Int32) = nI 0 from rfl]
  have t5 := fun (Rt : Type) (kk : Km → Option Rt) => K9_sw (kk := kk) (a := a) (b := a + 4) (F := 4) (i := 0) b4.nn (by omega) (by omega) (show a + 4 < a + 5 by omega) (b4.k (i := 0) (by omega) rfl) ((b4.2.2.2.2 (0, 7, 4) (by decide)).1) (b4.k (i := 4) (by omega) rfl) (b4.l (i := 4) (by omega) rfl)
  have u5 : ∀ (Rt : Type) (kk : Km → Option Rt), K9_init_L46 a kk 5 s4 (nI 0) = K9_init_L46 a kk 4 (kSetR (kSetI (kNew s4 7 0) (a + 5) 0 1) (a + 4) 0 (some (a + 5))) (nI 1) := t5
  rw [u5]
  have n5 := B_r (i := 4) (j := 0) (r := 5) (B_i (i := 5) (j := 0) (x := 1) (B_new (kd := 7) (z := 0) 6 b4 rfl rfl rfl (fun j => by simp)) (by omega)) (by omega) (by decide)
  generalize kSetR (kSetI (kNew s4 7 0) (a + 5) 0 1) (a + 4) 0 (some (a + 5)) = s5 at n5 ⊢
  have t6 := fun (Rt : Type) (kk : Km → Option Rt) => K9_sw (kk := kk) (a := a) (b := a + 4) (F := 3) (i := 1) n5.nn (by omega) (by omega) (show a + 4 < a + 6 by omega) (n5.k (i := 0) (by omega) rfl) ((n5.2.2.2.2 (0, 7, 4) (by decide)).1) (n5.k (i := 4) (by omega) rfl) (n5.l (i := 4) (by omega) rfl)
  have u6 : ∀ (Rt : Type) (kk : Km → Option Rt), K9_init_L46 a kk 4 s5 (nI 1) = K9_init_L46 a kk 3 (kSetR (kSetI (kNew s5 7 0) (a + 6) 0 1) (a + 4) 1 (some (a + 6))) (nI 2) := t6
  rw [u6]
  have n6 := B_r (i := 4) (j := 1) (r := 6) (B_i (i := 6) (j := 0) (x := 1) (B_new (kd := 7) (z := 0) 7 n5 rfl rfl rfl (fun j => by simp)) (by omega)) (by omega) (by decide)
  generalize kSetR (kSetI (kNew s5 7 0) (a + 6) 0 1) (a + 4) 1 (some (a + 6)) = s6 at n6 ⊢
  have t7 := fun (Rt : Type) (kk : Km → Option Rt) => K9_sw (kk := kk) (a := a) (b := a + 4) (F := 2) (i := 2) n6.nn (by omega) (by omega) (show a + 4 < a + 7 by omega) (n6.k (i := 0) (by omega) rfl) ((n6.2.2.2.2 (0, 7, 4) (by decide)).1) (n6.k (i := 4) (by omega) rfl) (n6.l (i := 4) (by omega) rfl)
  have u7 : ∀ (Rt : Type) (kk : Km → Option Rt), K9_init_L46 a kk 3 s6 (nI 2) = K9_init_L46 a kk 2 (kSetR (kSetI (kNew s6 7 0) (a + 7) 0 1) (a + 4) 2 (some (a + 7))) (nI 3) := t7
  rw [u7]
  have n7 := B_r (i := 4) (j := 2) (r := 7) (B_i (i := 7) (j := 0) (x := 1) (B_new (kd := 7) (z := 0) 8 n6 rfl rfl rfl (fun j => by simp)) (by omega)) (by omega) (by decide)
  generalize kSetR (kSetI (kNew s6 7 0) (a + 7) 0 1) (a + 4) 2 (some (a + 7)) = s7 at n7 ⊢
  have t8 := fun (Rt : Type) (kk : Km → Option Rt) => K9_sw (kk := kk) (a := a) (b := a + 4) (F := 1) (i := 3) n7.nn (by omega) (by omega) (show a + 4 < a + 8 by omega) (n7.k (i := 0) (by omega) rfl) ((n7.2.2.2.2 (0, 7, 4) (by decide)).1) (n7.k (i := 4) (by omega) rfl) (n7.l (i := 4) (by omega) rfl)
  have u8 : ∀ (Rt : Type) (kk : Km → Option Rt), K9_init_L46 a kk 2 s7 (nI 3) = K9_init_L46 a kk 1 (kSetR (kSetI (kNew s7 7 0) (a + 8) 0 1) (a + 4) 3 (some (a + 8))) (nI 4) := t8
  rw [u8]
  have n8 := B_r (i := 4) (j := 3) (r := 8) (B_i (i := 8) (j := 0) (x := 1) (B_new (kd := 7) (z := 0) 9 n7 rfl rfl rfl (fun j => by simp)) (by omega)) (by omega) (by decide)
  generalize kSetR (kSetI (kNew s7 7 0) (a + 8) 0 1) (a + 4) 3 (some (a + 8)) = s8 at n8 ⊢
  conv => arg 1; ext v; lhs; unfold K9_init_L46
  rw [if_pos (show (4 : Int32) ≤ nI 4 by decide)]
  have n9 := B_new (kd := 14) (z := 40) 10 n8 rfl rfl rfl (fun j => by first | rfl | simp)
  rw [bnd2_eq, n8.nn, if_pos (show kK (kNew s8 14 40) a = 9 from n9.k (i := 0) (by omega) rfl), bnd_eq]
  have b9 := B_r (i := 0) (j := 8) (r := 9) n9 (by omega) (by decide)
  rw [show a + 0 = a from rfl] at b9
  generalize kSetR (kNew s8 14 40) a 8 (some (a + 9)) = s9 at b9 ⊢
  have n10 := B_new (kd := 2) (z := 0) 11 b9 rfl rfl rfl (fun j => by simp)
  have p10 := B_new (kd := 12) (z := 2000) 12 n10 rfl rfl rfl (fun j => by simp)
  have q10 := B_r (i := 10) (j := 0) (r := 11) p10 (by omega) (by decide)
  unfold K2_init
  rw [bnd2_eq, b9.nn, bnd2_eq, n10.nn, if_pos (show kK (kNew (kNew s9 2 0) 12 2000) (a + 10) = 2 from p10.k (i := 10) (by omega) rfl), bnd_eq, ob_some, if_pos (show kK (kSetR (kNew (kNew s9 2 0) 12 2000) (a + 10) 0 (some (a + 11))) a = 9 from q10.k (i := 0) (by omega) rfl), bnd_eq]
  have b10 := B_r (i := 0) (j := 10) (r := 10) q10 (by omega) (by decide)
  rw [show a + 0 = a from rfl] at b10
  generalize kSetR (kSetR (kNew (kNew s9 2 0) 12 2000) (a + 10) 0 (some (a + 11))) a 10 (some (a + 10)) = s10 at b10 ⊢
  have n12 := B_new (kd := 6) (z := 0) 13 b10 rfl rfl rfl (fun j => by simp)
  have p12 := B_new (kd := 12) (z := 24) 14 n12 rfl rfl rfl (fun j => by simp)
  have q12 := B_r (i := 12) (j := 4) (r := 13) p12 (by omega) (by decide)
  unfold K6_init
  rw [bnd2_eq, b10.nn, bnd2_eq, n12.nn, if_pos (show kK (kNew (kNew s10 6 0) 12 24) (a + 12) = 6 from p12.k (i := 12) (by omega) rfl), bnd_eq, ob_some, if_pos (show kK (kSetR (kNew (kNew s10 6 0) 12 24) (a + 12) 4 (some (a + 13))) a = 9 from q12.k (i := 0) (by omega) rfl), bnd_eq]
  have b12 := B_r (i := 0) (j := 11) (r := 12) q12 (by omega) (by decide)
  rw [show a + 0 = a from rfl] at b12
  generalize kSetR (kSetR (kNew (kNew s10 6 0) 12 24) (a + 12) 4 (some (a + 13))) a 11 (some (a + 12)) = s12 at b12 ⊢
  refine ⟨s12, rfl, b12.v (fun i j hi => ?_)⟩
  unfold vi9
  by_cases c1 : j = 0 <;> by_cases c2 : j = 2 <;> by_cases c3 : i = 0 <;> by_cases c5 : i = 5 <;> by_cases c6 : i = 6 <;> by_cases c7 : i = 7 <;> by_cases c8 : i = 8 <;> simp [c1, c2, c3, c5, c6, c7, c8] <;> omega
end KINIT
