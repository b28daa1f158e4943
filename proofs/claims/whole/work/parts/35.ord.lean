/-! the order in which rules are taken: by rank downwards, then by number -/
section ORD
variable {rk wh : Nat → Int32}
theorem i_tr {a b c : Int32} (h1 : a ≤ b) (h2 : b ≤ c) : a ≤ c := by
  rw [Int32.le_iff_toInt_le] at *; omega
theorem i_lttr {a b c : Int32} (h1 : a < b) (h2 : b ≤ c) : a < c := by
  rw [Int32.lt_iff_toInt_lt] at *; rw [Int32.le_iff_toInt_le] at h2; omega
theorem i_letr {a b c : Int32} (h1 : a ≤ b) (h2 : b < c) : a < c := by
  rw [Int32.lt_iff_toInt_lt] at *; rw [Int32.le_iff_toInt_le] at h1; omega
theorem i_lt_le {a b : Int32} (h1 : a < b) : a ≤ b := by
  rw [Int32.lt_iff_toInt_lt] at h1; rw [Int32.le_iff_toInt_le]; omega
theorem i_le_eq {a b : Int32} (h1 : a ≤ b) (h2 : b ≤ a) : a = b := by
  rw [Int32.le_iff_toInt_le] at *; rw [← Int32.toInt_inj]; omega
theorem i_le_rf (a : Int32) : a ≤ a := by rw [Int32.le_iff_toInt_le]; omega
def srt (rk : Nat → Int32) : List Nat → Prop
  | [] => True
  | x :: xs => (∀ y ∈ xs, rk y ≤ rk x) ∧ srt rk xs
theorem srt_ins {k : Nat} : ∀ {l : List Nat}, srt rk l → srt rk (oIns rk k l)
  | [], _ => ⟨fun y hy => (by cases hy), trivial⟩
  | x :: xs, h => by
    unfold oIns
    by_cases c : rk x < rk k
    · rw [if_pos c]
      refine ⟨fun y hy => ?_, h⟩
      rcases List.mem_cons.mp hy with rfl | hy
      · exact i_lt_le c
      · exact i_tr (h.1 y hy) (i_lt_le c)
    · rw [if_neg c]
      refine ⟨fun y hy => ?_, srt_ins h.2⟩
      rcases oIns_mem.mp hy with rfl | hy
      · exact i_nlt c
      · exact h.1 y hy
theorem srt_lst : ∀ m, srt rk (oLst wh rk m)
  | 0 => trivial
  | m + 1 => by
    unfold oLst
    split
    · exact srt_lst m
    · exact srt_ins (srt_lst m)
/-- the rules of one rank, by number -/
def ixs (wh rk : Nat → Int32) (r : Int32) : Nat → List Nat
  | 0 => []
  | m + 1 => if wh m = 2 then ixs wh rk r m else if rk m = r then ixs wh rk r m ++ [m] else ixs wh rk r m
theorem ins_no {k : Nat} {r : Int32} (h : ¬ rk k = r) : ∀ l : List Nat, (oIns rk k l).filter (fun x => decide (rk x = r)) = l.filter (fun x => decide (rk x = r))
  | [] => by simp [oIns, h]
  | x :: xs => by
    unfold oIns
    split
    · simp [h]
    · simp only [List.filter_cons, ins_no h xs]
theorem ins_yes {k : Nat} : ∀ l : List Nat, srt rk l → (oIns rk k l).filter (fun x => decide (rk x = rk k)) = l.filter (fun x => decide (rk x = rk k)) ++ [k]
  | [], _ => by simp [oIns]
  | x :: xs, h => by
    unfold oIns
    by_cases c : rk x < rk k
    · rw [if_pos c]
      have none1 : (x :: xs).filter (fun x => decide (rk x = rk k)) = [] := by
        rw [List.filter_eq_nil_iff]
        intro y hy q
        have q2 : rk y = rk k := of_decide_eq_true q
        rcases List.mem_cons.mp hy with rfl | hy
        · rw [q2] at c; exact i_le_n (i_le_rf _) c
        · have := i_letr (h.1 y hy) c
          rw [q2] at this; exact i_le_n (i_le_rf _) this
      rw [List.filter_cons, none1]
      simp
    · rw [if_neg c, List.filter_cons, List.filter_cons, ins_yes xs h.2]
      split <;> simp
theorem lst_rank {r : Int32} : ∀ m, (oLst wh rk m).filter (fun x => decide (rk x = r)) = ixs wh rk r m
  | 0 => rfl
  | m + 1 => by
    unfold oLst ixs
    split
    · exact lst_rank m
    · by_cases c : rk m = r
      · subst c
        rw [if_pos rfl, ins_yes _ (srt_lst m), lst_rank m]
      · rw [if_neg c, ins_no c, lst_rank m]
/-- from one level to the next -/
theorem lvl_split {b r : Int32} (hrb : r < b) : ∀ l : List Nat, srt rk l → (∀ x ∈ l, ¬ rk x < b ∨ rk x ≤ r) → l.filter (fun x => decide (¬ rk x < r)) = l.filter (fun x => decide (¬ rk x < b)) ++ l.filter (fun x => decide (rk x = r))
  | [], _, _ => rfl
  | x :: xs, h, hx => by
    have ih := lvl_split hrb xs h.2 (fun y hy => hx y (List.mem_cons_of_mem _ hy))
    rcases hx x List.mem_cons_self with c | c
    · have c2 : ¬ rk x < r := fun q => c (i_lttr q (i_lt_le hrb))
      have c3 : ¬ rk x = r := fun q => c (by rw [q]; exact hrb)
      simp only [List.filter_cons, decide_eq_true c, decide_eq_true c2, decide_eq_false c3, if_true, if_false, ih]
      simp
    · have c1 : rk x < b := i_letr c hrb
      have none1 : xs.filter (fun x => decide (¬ rk x < b)) = [] := by
        rw [List.filter_eq_nil_iff]
        intro y hy q
        exact (of_decide_eq_true q) (i_letr (h.1 y hy) c1)
      rw [none1, List.nil_append] at ih
      have n1 : decide (¬ rk x < b) = false := decide_eq_false (fun q => q c1)
      by_cases c3 : rk x = r
      · have c2 : ¬ rk x < r := fun q => by rw [c3] at q; exact i_le_n (i_le_rf _) q
        rw [List.filter_cons_of_pos (by exact decide_eq_true c2), List.filter_cons_of_neg (by rw [n1]; decide), List.filter_cons_of_pos (by exact decide_eq_true c3), none1, ih]
        rfl
      · have c2 : rk x < r := i_nle (fun q => c3 (i_le_eq c q))
        rw [List.filter_cons_of_neg (by rw [decide_eq_false (fun q => q c2)]; decide), List.filter_cons_of_neg (by rw [n1]; decide), List.filter_cons_of_neg (by rw [decide_eq_false c3]; decide), none1, ih]
        rfl
/-- the highest rank below b -/
def bst (rk : Nat → Int32) (b : Int32) : Nat → Int32
  | 0 => -1
  | k + 1 => if b ≤ rk k then bst rk b k else if bst rk b k < rk k then rk k else bst rk b k
theorem bst_succ (rk : Nat → Int32) (b : Int32) (k : Nat) : bst rk b (k + 1) = if b ≤ rk k then bst rk b k else if bst rk b k < rk k then rk k else bst rk b k := rfl
theorem bst_ok {rk : Nat → Int32} {b : Int32} : ∀ m : Nat, (∀ k, k < m → 0 ≤ rk k) → ((bst rk b m = -1 ∧ ∀ k, k < m → ¬ rk k < b) ∨ (0 ≤ bst rk b m ∧ bst rk b m < b ∧ ∀ k, k < m → ¬ rk k < b ∨ rk k ≤ bst rk b m))
  | 0, _ => Or.inl ⟨rfl, fun k hk => by omega⟩
  | m + 1, hp => by
    have ih := bst_ok (rk := rk) (b := b) m (fun k hk => hp k (by omega))
    rw [bst_succ]
    have lastc : ∀ {Q : Nat → Prop}, (∀ k, k < m → Q k) → Q m → ∀ k, k < m + 1 → Q k := fun hQ hm k hk => by
      rcases Nat.lt_or_ge k m with q | q
      · exact hQ k q
      · rw [show k = m by omega]; exact hm
    by_cases c1 : b ≤ rk m
    · rw [if_pos c1]
      rcases ih with ⟨h1, h2⟩ | ⟨h1, h2, h3⟩
      · exact Or.inl ⟨h1, lastc h2 (i_le_n c1)⟩
      · exact Or.inr ⟨h1, h2, lastc h3 (Or.inl (i_le_n c1))⟩
    · rw [if_neg c1]
      have hm0 := hp m (by omega)
      rcases ih with ⟨h1, h2⟩ | ⟨h1, h2, h3⟩
      · have c2 : bst rk b m < rk m := by rw [h1]; exact i_lttr (by decide) hm0
        rw [if_pos c2]
        exact Or.inr ⟨hm0, i_nle c1, lastc (fun k hk => Or.inl (h2 k hk)) (Or.inr (i_le_rf _))⟩
      · by_cases c2 : bst rk b m < rk m
        · rw [if_pos c2]
          exact Or.inr ⟨hm0, i_nle c1, lastc (fun k hk => (h3 k hk).imp id (fun q => i_tr q (i_lt_le c2))) (Or.inr (i_le_rf _))⟩
        · rw [if_neg c2]
          exact Or.inr ⟨h1, h2, lastc h3 (Or.inr (i_nlt c2))⟩
end ORD
