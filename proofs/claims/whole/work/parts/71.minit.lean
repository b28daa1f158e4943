/-! the reference's constructor -/
section MINIT
variable {μ ν s : Km} {a n m : Nat} {V : Nat → Nat → Int32} {D : List (Nat × Nat × Nat)}
def kd10 (i : Nat) : Nat := match i with
  | 0 => 10 | 1 => 12 | 2 => 12 | 3 => 12 | 4 => 12 | 5 => 13 | 6 => 12 | 7 => 12 | 8 => 12 | 9 => 12 | 10 => 13 | 11 => 12 | 12 => 12 | 13 => 12 | 14 => 12 | 15 => 12 | 16 => 12 | 17 => 12 | 18 => 12 | 19 => 12 | 20 => 12 | 21 => 12 | 22 => 12 | 23 => 12 | 24 => 12 | 25 => 12 | 26 => 12 | 27 => 12 | 28 => 12 | 29 => 13 | 30 => 12 | 31 => 12 | 32 => 13 | 33 => 12 | 34 => 12 | 35 => 12 | 36 => 12 | _ => 0
def ln10 (i : Nat) : Nat := match i with
  | 1 => 30 | 2 => 120 | 3 => 120 | 4 => 240 | 5 => 30 | 6 => 4 | 7 => 4 | 8 => 40 | 9 => 40 | 10 => 40 | 11 => 400 | 12 => 400 | 13 => 400 | 14 => 400 | 15 => 400 | 16 => 8 | 17 => 8 | 18 => 192 | 19 => 192 | 20 => 192 | 21 => 192 | 22 => 192 | 23 => 192 | 24 => 192 | 25 => 192 | 26 => 192 | 27 => 768 | 28 => 768 | 29 => 768 | 30 => 1000 | 31 => 24 | 32 => 30 | 33 => 240 | 34 => 240 | 35 => 240 | 36 => 30 | _ => 0
def vi10 (i j : Nat) : Int32 := if i = 3 ∧ j < 120 then -1 else if i = 6 ∧ j < 4 then 1 else if i = 0 ∧ j = 54 then -2 else if i = 0 ∧ j = 8 then -1 else 0
def rf10 : List (Nat × Nat × Nat) := [(0, 59, 36), (0, 58, 35), (0, 57, 34), (0, 56, 33), (0, 55, 32), (0, 53, 31), (0, 38, 30), (0, 37, 29), (0, 36, 28), (0, 35, 27), (0, 34, 26), (0, 33, 25), (0, 32, 24), (0, 31, 23), (0, 30, 22), (0, 29, 21), (0, 28, 20), (0, 27, 19), (0, 26, 18), (0, 25, 17), (0, 24, 16), (0, 23, 15), (0, 22, 14), (0, 21, 13), (0, 20, 12), (0, 19, 11), (0, 18, 10), (0, 17, 9), (0, 16, 8), (0, 15, 7), (0, 14, 6), (0, 13, 5), (0, 12, 4), (0, 11, 3), (0, 10, 2), (0, 9, 1)]
theorem K10_L325 {Rt : Type} {kk : Km → Option Rt} : ∀ (F i : Nat) (s : Km) (V : Nat → Nat → Int32), i ≤ 4 → 4 < i + F → Bld μ a kd10 ln10 37 V rf10 s → ∃ s', K10_init_L325 a kk F s (nI i) = kk s' ∧ Bld μ a kd10 ln10 37 (fun i' j' => if i' = 6 ∧ i ≤ j' ∧ j' < 4 then 1 else V i' j') rf10 s' := by
  intro F
  induction F with
  | zero => intro i s V h1 h2; omega
  | succ F ih =>
    intro i s V h1 h2 h
    unfold K10_init_L325
    by_cases c : i < 4
    · have b1 := B_i (i := 6) (j := i) (x := 1) h (by omega)
      obtain ⟨s', e1, e2⟩ := ih (i + 1) _ _ (by omega) (by omega) b1
      rw [if_neg (show ¬ (4 : Int32) ≤ nI i from nI_ge (b := 4) c (by omega)), if_pos (show kK s a = 10 from h.k (i := 0) (by omega) rfl), show kR s a 14 = some (a + 6) from (h.2.2.2.2 (0, 14, 6) (by decide)).1, ob_some, if_pos (show kK s (a + 6) = 12 from h.k (i := 6) (by omega) rfl), show kN s (a + 6) = 4 from h.l (i := 6) (by omega) rfl, if_pos ((okI_nI (by omega)).mpr c), bnd_eq, nI_clamp (by omega), nI_1]
      refine ⟨s', e1, e2.v (fun i' j' hi' => ?_)⟩
      by_cases q1 : i' = 6 ∧ i + 1 ≤ j' ∧ j' < 4
      · rw [if_pos q1, if_pos ⟨q1.1, by omega, q1.2.2⟩]
      · rw [if_neg q1]
        by_cases q2 : i' = 6 ∧ j' = i
        · rw [if_pos q2, if_pos ⟨q2.1, by omega, by omega⟩]
        · rw [if_neg q2, if_neg (fun z => by rcases Nat.lt_or_ge i j' with y | y; exact q1 ⟨z.1, y, z.2.2⟩; exact q2 ⟨z.1, by omega⟩)]
    · rw [if_pos (show (4 : Int32) ≤ nI i from nI_le (a := 4) (by omega) (by omega))]
      exact ⟨s, rfl, h.v (fun i' j' hi' => by rw [if_neg (by omega)])⟩
theorem K10_L345 {Rt : Type} {kk : Km → Option Rt} : ∀ (F i : Nat) (s : Km) (V : Nat → Nat → Int32), i ≤ 120 → 120 < i + F → Bld μ a kd10 ln10 37 V rf10 s → ∃ s', K10_init_L345 a kk F s (nI i) = kk s' ∧ Bld μ a kd10 ln10 37 (fun i' j' => if i' = 3 ∧ i ≤ j' ∧ j' < 120 then -1 else V i' j') rf10 s' := by
  intro F
  induction F with
  | zero => intro i s V h1 h2; omega
  | succ F ih =>
    intro i s V h1 h2 h
    unfold K10_init_L345
    by_cases c : i < 120
    · have b1 := B_i (i := 3) (j := i) (x := -1) h (by omega)
      obtain ⟨s', e1, e2⟩ := ih (i + 1) _ _ (by omega) (by omega) b1
      rw [if_neg (show ¬ (120 : Int32) ≤ nI i from nI_ge (b := 120) c (by omega)), if_pos (show kK s a = 10 from h.k (i := 0) (by omega) rfl), show kR s a 11 = some (a + 3) from (h.2.2.2.2 (0, 11, 3) (by decide)).1, ob_some, if_pos (show kK s (a + 3) = 12 from h.k (i := 3) (by omega) rfl), show kN s (a + 3) = 120 from h.l (i := 3) (by omega) rfl, if_pos ((okI_nI (by omega)).mpr c), bnd_eq, nI_clamp (by omega), nI_1]
      refine ⟨s', e1, e2.v (fun i' j' hi' => ?_)⟩
      by_cases q1 : i' = 3 ∧ i + 1 ≤ j' ∧ j' < 120
      · rw [if_pos q1, if_pos ⟨q1.1, by omega, q1.2.2⟩]
      · rw [if_neg q1]
        by_cases q2 : i' = 3 ∧ j' = i
        · rw [if_pos q2, if_pos ⟨q2.1, by omega, by omega⟩]
        · rw [if_neg q2, if_neg (fun z => by rcases Nat.lt_or_ge i j' with y | y; exact q1 ⟨z.1, y, z.2.2⟩; exact q2 ⟨z.1, by omega⟩)]
    · rw [if_pos (show (120 : Int32) ≤ nI i from nI_le (a := 120) (by omega) (by omega))]
      exact ⟨s, rfl, h.v (fun i' j' hi' => by rw [if_neg (by omega)])⟩
set_option maxHeartbeats 2000000 in
theorem K10_new (hn : kn μ = a) : ∃ ν', K10_init (kNew μ 10 0) a = some ν' ∧ Bld μ a kd10 ln10 37 vi10 rf10 ν' := by
  have b0 : Bld μ a kd10 ln10 1 (fun _ _ => 0) [] (kNew μ 10 0) := B_new 1 (B_0 hn) rfl rfl rfl (fun _ => rfl)
  generalize kNew μ 10 0 = s0 at b0 ⊢
  unfold K10_init
  rw [if_pos (show kK s0 a = 10 from b0.k (i := 0) (by omega) rfl), bnd_eq]
  have b0' := B_i (i := 0) (j := 8) (x := -1) b0 (by omega)
  rw [show a + 0 = a from rfl] at b0'
  generalize kSetI s0 a 8 (-1) = s0' at b0' ⊢
  have n1 := B_new (kd := 12) (z := 30) 2 b0' rfl rfl rfl (fun j => by simp)
  rw [bnd2_eq, b0'.nn, if_pos (show kK (kNew s0' 12 30) a = 10 from n1.k (i := 0) (by omega) rfl), bnd_eq]
  have b1 := B_r (i := 0) (j := 9) (r := 1) n1 (by omega) (by decide)
  rw [show a + 0 = a from rfl] at b1
  clear n1 b0'
  generalize kSetR (kNew s0' 12 30) a 9 (some (a + 1)) = s1 at b1 ⊢
  have n2 := B_new (kd := 12) (z := 120) 3 b1 rfl rfl rfl (fun j => by simp)
  rw [bnd2_eq, b1.nn, if_pos (show kK (kNew s1 12 120) a = 10 from n2.k (i := 0) (by omega) rfl), bnd_eq]
  have b2 := B_r (i := 0) (j := 10) (r := 2) n2 (by omega) (by decide)
  rw [show a + 0 = a from rfl] at b2
  clear n2 b1
  generalize kSetR (kNew s1 12 120) a 10 (some (a + 2)) = s2 at b2 ⊢
  have n3 := B_new (kd := 12) (z := 120) 4 b2 rfl rfl rfl (fun j => by simp)
  rw [bnd2_eq, b2.nn, if_pos (show kK (kNew s2 12 120) a = 10 from n3.k (i := 0) (by omega) rfl), bnd_eq]
  have b3 := B_r (i := 0) (j := 11) (r := 3) n3 (by omega) (by decide)
  rw [show a + 0 = a from rfl] at b3
  clear n3 b2
  generalize kSetR (kNew s2 12 120) a 11 (some (a + 3)) = s3 at b3 ⊢
  have n4 := B_new (kd := 12) (z := 240) 5 b3 rfl rfl rfl (fun j => by simp)
  rw [bnd2_eq, b3.nn, if_pos (show kK (kNew s3 12 240) a = 10 from n4.k (i := 0) (by omega) rfl), bnd_eq]
  have b4 := B_r (i := 0) (j := 12) (r := 4) n4 (by omega) (by decide)
  rw [show a + 0 = a from rfl] at b4
  clear n4 b3
  generalize kSetR (kNew s3 12 240) a 12 (some (a + 4)) = s4 at b4 ⊢
  have n5 := B_new (kd := 13) (z := 30) 6 b4 rfl rfl rfl (fun j => by simp)
  rw [bnd2_eq, b4.nn, if_pos (show kK (kNew s4 13 30) a = 10 from n5.k (i := 0) (by omega) rfl), bnd_eq]
  have b5 := B_r (i := 0) (j := 13) (r := 5) n5 (by omega) (by decide)
  rw [show a + 0 = a from rfl] at b5
  clear n5 b4
  generalize kSetR (kNew s4 13 30) a 13 (some (a + 5)) = s5 at b5 ⊢
  have n6 := B_new (kd := 12) (z := 4) 7 b5 rfl rfl rfl (fun j => by simp)
  rw [bnd2_eq, b5.nn, if_pos (show kK (kNew s5 12 4) a = 10 from n6.k (i := 0) (by omega) rfl), bnd_eq]
  have b6 := B_r (i := 0) (j := 14) (r := 6) n6 (by omega) (by decide)
  rw [show a + 0 = a from rfl] at b6
  clear n6 b5
  generalize kSetR (kNew s5 12 4) a 14 (some (a + 6)) = s6 at b6 ⊢
  have n7 := B_new (kd := 12) (z := 4) 8 b6 rfl rfl rfl (fun j => by simp)
  rw [bnd2_eq, b6.nn, if_pos (show kK (kNew s6 12 4) a = 10 from n7.k (i := 0) (by omega) rfl), bnd_eq]
  have b7 := B_r (i := 0) (j := 15) (r := 7) n7 (by omega) (by decide)
  rw [show a + 0 = a from rfl] at b7
  clear n7 b6
  generalize kSetR (kNew s6 12 4) a 15 (some (a + 7)) = s7 at b7 ⊢
  have n8 := B_new (kd := 12) (z := 40) 9 b7 rfl rfl rfl (fun j => by simp)
  rw [bnd2_eq, b7.nn, if_pos (show kK (kNew s7 12 40) a = 10 from n8.k (i := 0) (by omega) rfl), bnd_eq]
  have b8 := B_r (i := 0) (j := 16) (r := 8) n8 (by omega) (by decide)
  rw [show a + 0 = a from rfl] at b8
  clear n8 b7
  generalize kSetR (kNew s7 12 40) a 16 (some (a + 8)) = s8 at b8 ⊢
  have n9 := B_new (kd := 12) (z := 40) 10 b8 rfl rfl rfl (fun j => by simp)
  rw [bnd2_eq, b8.nn, if_pos (show kK (kNew s8 12 40) a = 10 from n9.k (i := 0) (by omega) rfl), bnd_eq]
  have b9 := B_r (i := 0) (j := 17) (r := 9) n9 (by omega) (by decide)
  rw [show a + 0 = a from rfl] at b9
  clear n9 b8
  generalize kSetR (kNew s8 12 40) a 17 (some (a + 9)) = s9 at b9 ⊢
  have n10 := B_new (kd := 13) (z := 40) 11 b9 rfl rfl rfl (fun j => by simp)
  rw [bnd2_eq, b9.nn, if_pos (show kK (kNew s9 13 40) a = 10 from n10.k (i := 0) (by omega) rfl), bnd_eq]
  have b10 := B_r (i := 0) (j := 18) (r := 10) n10 (by omega) (by decide)
  rw [show a + 0 = a from rfl] at b10
  clear n10 b9
  generalize kSetR (kNew s9 13 40) a 18 (some (a + 10)) = s10 at b10 ⊢
  have n11 := B_new (kd := 12) (z := 400) 12 b10 rfl rfl rfl (fun j => by simp)
  rw [bnd2_eq, b10.nn, if_pos (show kK (kNew s10 12 400) a = 10 from n11.k (i := 0) (by omega) rfl), bnd_eq]
  have b11 := B_r (i := 0) (j := 19) (r := 11) n11 (by omega) (by decide)
  rw [show a + 0 = a from rfl] at b11
  clear n11 b10
  generalize kSetR (kNew s10 12 400) a 19 (some (a + 11)) = s11 at b11 ⊢
  have n12 := B_new (kd := 12) (z := 400) 13 b11 rfl rfl rfl (fun j => by simp)
  rw [bnd2_eq, b11.nn, if_pos (show kK (kNew s11 12 400) a = 10 from n12.k (i := 0) (by omega) rfl), bnd_eq]
  have b12 := B_r (i := 0) (j := 20) (r := 12) n12 (by omega) (by decide)
  rw [show a + 0 = a from rfl] at b12
  clear n12 b11
  generalize kSetR (kNew s11 12 400) a 20 (some (a + 12)) = s12 at b12 ⊢
  have n13 := B_new (kd := 12) (z := 400) 14 b12 rfl rfl rfl (fun j => by simp)
  rw [bnd2_eq, b12.nn, if_pos (show kK (kNew s12 12 400) a = 10 from n13.k (i := 0) (by omega) rfl), bnd_eq]
  have b13 := B_r (i := 0) (j := 21) (r := 13) n13 (by omega) (by decide)
  rw [show a + 0 = a from rfl] at b13
  clear n13 b12
  generalize kSetR (kNew s12 12 400) a 21 (some (a + 13)) = s13 at b13 ⊢
  have n14 := B_new (kd := 12) (z := 400) 15 b13 rfl rfl rfl (fun j => by simp)
  rw [bnd2_eq, b13.nn, if_pos (show kK (kNew s13 12 400) a = 10 from n14.k (i := 0) (by omega) rfl), bnd_eq]
  have b14 := B_r (i := 0) (j := 22) (r := 14) n14 (by omega) (by decide)
  rw [show a + 0 = a from rfl] at b14
  clear n14 b13
  generalize kSetR (kNew s13 12 400) a 22 (some (a + 14)) = s14 at b14 ⊢
  have n15 := B_new (kd := 12) (z := 400) 16 b14 rfl rfl rfl (fun j => by simp)
  rw [bnd2_eq, b14.nn, if_pos (show kK (kNew s14 12 400) a = 10 from n15.k (i := 0) (by omega) rfl), bnd_eq]
  have b15 := B_r (i := 0) (j := 23) (r := 15) n15 (by omega) (by decide)
  rw [show a + 0 = a from rfl] at b15
  clear n15 b14
  generalize kSetR (kNew s14 12 400) a 23 (some (a + 15)) = s15 at b15 ⊢
  have n16 := B_new (kd := 12) (z := 8) 17 b15 rfl rfl rfl (fun j => by simp)
  rw [bnd2_eq, b15.nn, if_pos (show kK (kNew s15 12 8) a = 10 from n16.k (i := 0) (by omega) rfl), bnd_eq]
  have b16 := B_r (i := 0) (j := 24) (r := 16) n16 (by omega) (by decide)
  rw [show a + 0 = a from rfl] at b16
  clear n16 b15
  generalize kSetR (kNew s15 12 8) a 24 (some (a + 16)) = s16 at b16 ⊢
  have n17 := B_new (kd := 12) (z := 8) 18 b16 rfl rfl rfl (fun j => by simp)
  rw [bnd2_eq, b16.nn, if_pos (show kK (kNew s16 12 8) a = 10 from n17.k (i := 0) (by omega) rfl), bnd_eq]
  have b17 := B_r (i := 0) (j := 25) (r := 17) n17 (by omega) (by decide)
  rw [show a + 0 = a from rfl] at b17
  clear n17 b16
  generalize kSetR (kNew s16 12 8) a 25 (some (a + 17)) = s17 at b17 ⊢
  have n18 := B_new (kd := 12) (z := 192) 19 b17 rfl rfl rfl (fun j => by simp)
  rw [bnd2_eq, b17.nn, if_pos (show kK (kNew s17 12 192) a = 10 from n18.k (i := 0) (by omega) rfl), bnd_eq]
  have b18 := B_r (i := 0) (j := 26) (r := 18) n18 (by omega) (by decide)
  rw [show a + 0 = a from rfl] at b18
  clear n18 b17
  generalize kSetR (kNew s17 12 192) a 26 (some (a + 18)) = s18 at b18 ⊢
  have n19 := B_new (kd := 12) (z := 192) 20 b18 rfl rfl rfl (fun j => by simp)
  rw [bnd2_eq, b18.nn, if_pos (show kK (kNew s18 12 192) a = 10 from n19.k (i := 0) (by omega) rfl), bnd_eq]
  have b19 := B_r (i := 0) (j := 27) (r := 19) n19 (by omega) (by decide)
  rw [show a + 0 = a from rfl] at b19
  clear n19 b18
  generalize kSetR (kNew s18 12 192) a 27 (some (a + 19)) = s19 at b19 ⊢
  have n20 := B_new (kd := 12) (z := 192) 21 b19 rfl rfl rfl (fun j => by simp)
  rw [bnd2_eq, b19.nn, if_pos (show kK (kNew s19 12 192) a = 10 from n20.k (i := 0) (by omega) rfl), bnd_eq]
  have b20 := B_r (i := 0) (j := 28) (r := 20) n20 (by omega) (by decide)
  rw [show a + 0 = a from rfl] at b20
  clear n20 b19
  generalize kSetR (kNew s19 12 192) a 28 (some (a + 20)) = s20 at b20 ⊢
  have n21 := B_new (kd := 12) (z := 192) 22 b20 rfl rfl rfl (fun j => by simp)
  rw [bnd2_eq, b20.nn, if_pos (show kK (kNew s20 12 192) a = 10 from n21.k (i := 0) (by omega) rfl), bnd_eq]
  have b21 := B_r (i := 0) (j := 29) (r := 21) n21 (by omega) (by decide)
  rw [show a + 0 = a from rfl] at b21
  clear n21 b20
  generalize kSetR (kNew s20 12 192) a 29 (some (a + 21)) = s21 at b21 ⊢
  have n22 := B_new (kd := 12) (z := 192) 23 b21 rfl rfl rfl (fun j => by simp)
  rw [bnd2_eq, b21.nn, if_pos (show kK (kNew s21 12 192) a = 10 from n22.k (i := 0) (by omega) rfl), bnd_eq]
  have b22 := B_r (i := 0) (j := 30) (r := 22) n22 (by omega) (by decide)
  rw [show a + 0 = a from rfl] at b22
  clear n22 b21
  generalize kSetR (kNew s21 12 192) a 30 (some (a + 22)) = s22 at b22 ⊢
  have n23 := B_new (kd := 12) (z := 192) 24 b22 rfl rfl rfl (fun j => by simp)
  rw [bnd2_eq, b22.nn, if_pos (show kK (kNew s22 12 192) a = 10 from n23.k (i := 0) (by omega) rfl), bnd_eq]
  have b23 := B_r (i := 0) (j := 31) (r := 23) n23 (by omega) (by decide)
  rw [show a + 0 = a from rfl] at b23
  clear n23 b22
  generalize kSetR (kNew s22 12 192) a 31 (some (a + 23)) = s23 at b23 ⊢
  have n24 := B_new (kd := 12) (z := 192) 25 b23 rfl rfl rfl (fun j => by simp)
  rw [bnd2_eq, b23.nn, if_pos (show kK (kNew s23 12 192) a = 10 from n24.k (i := 0) (by omega) rfl), bnd_eq]
  have b24 := B_r (i := 0) (j := 32) (r := 24) n24 (by omega) (by decide)
  rw [show a + 0 = a from rfl] at b24
  clear n24 b23
  generalize kSetR (kNew s23 12 192) a 32 (some (a + 24)) = s24 at b24 ⊢
  have n25 := B_new (kd := 12) (z := 192) 26 b24 rfl rfl rfl (fun j => by simp)
  rw [bnd2_eq, b24.nn, if_pos (show kK (kNew s24 12 192) a = 10 from n25.k (i := 0) (by omega) rfl), bnd_eq]
  have b25 := B_r (i := 0) (j := 33) (r := 25) n25 (by omega) (by decide)
  rw [show a + 0 = a from rfl] at b25
  clear n25 b24
  generalize kSetR (kNew s24 12 192) a 33 (some (a + 25)) = s25 at b25 ⊢
  have n26 := B_new (kd := 12) (z := 192) 27 b25 rfl rfl rfl (fun j => by simp)
  rw [bnd2_eq, b25.nn, if_pos (show kK (kNew s25 12 192) a = 10 from n26.k (i := 0) (by omega) rfl), bnd_eq]
  have b26 := B_r (i := 0) (j := 34) (r := 26) n26 (by omega) (by decide)
  rw [show a + 0 = a from rfl] at b26
  clear n26 b25
  generalize kSetR (kNew s25 12 192) a 34 (some (a + 26)) = s26 at b26 ⊢
  have n27 := B_new (kd := 12) (z := 768) 28 b26 rfl rfl rfl (fun j => by simp)
  rw [bnd2_eq, b26.nn, if_pos (show kK (kNew s26 12 768) a = 10 from n27.k (i := 0) (by omega) rfl), bnd_eq]
  have b27 := B_r (i := 0) (j := 35) (r := 27) n27 (by omega) (by decide)
  rw [show a + 0 = a from rfl] at b27
  clear n27 b26
  generalize kSetR (kNew s26 12 768) a 35 (some (a + 27)) = s27 at b27 ⊢
  have n28 := B_new (kd := 12) (z := 768) 29 b27 rfl rfl rfl (fun j => by simp)
  rw [bnd2_eq, b27.nn, if_pos (show kK (kNew s27 12 768) a = 10 from n28.k (i := 0) (by omega) rfl), bnd_eq]
  have b28 := B_r (i := 0) (j := 36) (r := 28) n28 (by omega) (by decide)
  rw [show a + 0 = a from rfl] at b28
  clear n28 b27
  generalize kSetR (kNew s27 12 768) a 36 (some (a + 28)) = s28 at b28 ⊢
  have n29 := B_new (kd := 13) (z := 768) 30 b28 rfl rfl rfl (fun j => by simp)
  rw [bnd2_eq, b28.nn, if_pos (show kK (kNew s28 13 768) a = 10 from n29.k (i := 0) (by omega) rfl), bnd_eq]
  have b29 := B_r (i := 0) (j := 37) (r := 29) n29 (by omega) (by decide)
  rw [show a + 0 = a from rfl] at b29
  clear n29 b28
  generalize kSetR (kNew s28 13 768) a 37 (some (a + 29)) = s29 at b29 ⊢
  have n30 := B_new (kd := 12) (z := 1000) 31 b29 rfl rfl rfl (fun j => by simp)
  rw [bnd2_eq, b29.nn, if_pos (show kK (kNew s29 12 1000) a = 10 from n30.k (i := 0) (by omega) rfl), bnd_eq]
  have b30 := B_r (i := 0) (j := 38) (r := 30) n30 (by omega) (by decide)
  rw [show a + 0 = a from rfl] at b30
  clear n30 b29
  generalize kSetR (kNew s29 12 1000) a 38 (some (a + 30)) = s30 at b30 ⊢
  have n31 := B_new (kd := 12) (z := 24) 32 b30 rfl rfl rfl (fun j => by simp)
  rw [bnd2_eq, b30.nn, if_pos (show kK (kNew s30 12 24) a = 10 from n31.k (i := 0) (by omega) rfl), bnd_eq]
  have b31 := B_r (i := 0) (j := 53) (r := 31) n31 (by omega) (by decide)
  rw [show a + 0 = a from rfl] at b31
  clear n31 b30
  generalize kSetR (kNew s30 12 24) a 53 (some (a + 31)) = s31 at b31 ⊢
  have c0 := B_i (i := 0) (j := 54) (x := -2) b31 (by omega)
  rw [show a + 0 = a from rfl] at c0
  rw [bnd_eq]
  generalize kSetI s31 a 54 (-2) = t0 at c0 ⊢
  have n32 := B_new (kd := 13) (z := 30) 33 c0 rfl rfl rfl (fun j => by simp)
  rw [bnd2_eq, c0.nn, if_pos (show kK (kNew t0 13 30) a = 10 from n32.k (i := 0) (by omega) rfl), bnd_eq]
  have b32 := B_r (i := 0) (j := 55) (r := 32) n32 (by omega) (by decide)
  rw [show a + 0 = a from rfl] at b32
  clear n32 c0
  generalize kSetR (kNew t0 13 30) a 55 (some (a + 32)) = s32 at b32 ⊢
  have n33 := B_new (kd := 12) (z := 240) 34 b32 rfl rfl rfl (fun j => by simp)
  rw [bnd2_eq, b32.nn, if_pos (show kK (kNew s32 12 240) a = 10 from n33.k (i := 0) (by omega) rfl), bnd_eq]
  have b33 := B_r (i := 0) (j := 56) (r := 33) n33 (by omega) (by decide)
  rw [show a + 0 = a from rfl] at b33
  clear n33 b32
  generalize kSetR (kNew s32 12 240) a 56 (some (a + 33)) = s33 at b33 ⊢
  have n34 := B_new (kd := 12) (z := 240) 35 b33 rfl rfl rfl (fun j => by simp)
  rw [bnd2_eq, b33.nn, if_pos (show kK (kNew s33 12 240) a = 10 from n34.k (i := 0) (by omega) rfl), bnd_eq]
  have b34 := B_r (i := 0) (j := 57) (r := 34) n34 (by omega) (by decide)
  rw [show a + 0 = a from rfl] at b34
  clear n34 b33
  generalize kSetR (kNew s33 12 240) a 57 (some (a + 34)) = s34 at b34 ⊢
  have n35 := B_new (kd := 12) (z := 240) 36 b34 rfl rfl rfl (fun j => by simp)
  rw [bnd2_eq, b34.nn, if_pos (show kK (kNew s34 12 240) a = 10 from n35.k (i := 0) (by omega) rfl), bnd_eq]
  have b35 := B_r (i := 0) (j := 58) (r := 35) n35 (by omega) (by decide)
  rw [show a + 0 = a from rfl] at b35
  clear n35 b34
  generalize kSetR (kNew s34 12 240) a 58 (some (a + 35)) = s35 at b35 ⊢
  have n36 := B_new (kd := 12) (z := 30) 37 b35 rfl rfl rfl (fun j => by simp)
  rw [bnd2_eq, b35.nn, if_pos (show kK (kNew s35 12 30) a = 10 from n36.k (i := 0) (by omega) rfl), bnd_eq]
  have b36 := B_r (i := 0) (j := 59) (r := 36) n36 (by omega) (by decide)
  rw [show a + 0 = a from rfl] at b36
  clear n36 b35
  generalize kSetR (kNew s35 12 30) a 59 (some (a + 36)) = s36 at b36 ⊢
  obtain ⟨t1, x1, y1⟩ := K10_L325 (kk := fun s_343 => K10_init_L345 a (fun s_364 => some s_364) gF s_343 (0 : Int32)) gF 0 s36 _ (by omega) (by unfold gF; omega) b36
  obtain ⟨t2, x2, y2⟩ := K10_L345 (kk := fun s_364 => some s_364) gF 0 t1 _ (by omega) (by unfold gF; omega) y1
  refine ⟨t2, x1.trans x2, y2.v (fun i j hi => ?_)⟩
  unfold vi10
  by_cases c1 : i = 3 <;> by_cases c2 : i = 6 <;> by_cases c3 : i = 0 <;> simp [c1, c2, c3] <;> omega
end MINIT
