/-! what both sides do, over the reference's arrays A (A k j: element j of the array field k) -/
section SPEC
abbrev Ar : Type := Nat → Nat → Int32
def ibt (x : Int32) (n : Nat) : Prop := ∃ v : Nat, v < n ∧ x = nI v
/-- the rules of a set as they are taken: by rank, then by number -/
def oIns (rk : Nat → Int32) (k : Nat) : List Nat → List Nat
  | [] => [k]
  | x :: xs => if rk x < rk k then k :: x :: xs else x :: oIns rk k xs
def oLst (wh rk : Nat → Int32) : Nat → List Nat
  | 0 => []
  | k + 1 => if wh k = 2 then oLst wh rk k else oIns rk k (oLst wh rk k)
def ord (A : Ar) (s : Nat) : List Nat := oLst (fun k => A 26 (24 * s + k)) (fun k => A 33 (24 * s + k)) (A 25 s).toNatClampNeg
/-- whether a rule is for a field of a thing -/
def sTest (A : Ar) (r t i : Nat) : Bool := if A 37 (4 * r + i) = 0 then decide (A 10 (4 * t + (A 35 (4 * r + i)).toNatClampNeg) = A 36 (4 * r + i)) else decide (A 10 (4 * t + (A 35 (4 * r + i)).toNatClampNeg) < A 36 (4 * r + i))
def sTests (A : Ar) (r t : Nat) : Nat → Bool
  | 0 => true
  | i + 1 => sTests A r t i && sTest A r t i
def mWho (A : Ar) (r t f : Nat) : Bool := decide ((A 27 r = -1 ∨ A 27 r = A 9 t) ∧ (A 28 r = -1 ∨ A 28 r = nI f))
def mFor (A : Ar) (r t f : Nat) : Bool := mWho A r t f && sTests A r t (A 34 r).toNatClampNeg
/-- the day that a rule names -/
def mUnt (A : Ar) (r : Nat) (d : Int32) : Int32 := if A 30 r = 0 then (if d.toNatClampNeg + (A 29 r).toNatClampNeg ≤ 200000 then nI (d.toNatClampNeg + (A 29 r).toNatClampNeg) else 999999) else nI (cBh d.toNatClampNeg ((A 30 r).toNatClampNeg * (A 29 r).toNatClampNeg))
def rDay (A : Ar) (r t : Nat) : Int32 := if A 11 (4 * t + (A 31 r).toNatClampNeg) = -1 then -1 else mUnt A r (A 11 (4 * t + (A 31 r).toNatClampNeg))
/-- a span: from, to, by whom each, who lost -/
abbrev Sp : Type := Int32 × Int32 × Int32 × Int32 × List Int32
def sp0 : Sp := (0, 999999, -1, -1, [])
def spKeep (k x : Int32) (q : Sp) : Sp := if q.2.1 < x then (q.1, q.2.1, q.2.2.1, q.2.2.2.1, q.2.2.2.2 ++ [k]) else if q.1 < x then (x, q.2.1, k, q.2.2.2.1, q.2.2.2.2) else q
def spEnd (k x : Int32) (q : Sp) : Sp := if x < q.1 then (q.1, q.2.1, q.2.2.1, q.2.2.2.1, q.2.2.2.2 ++ [k]) else if x < q.2.1 then (q.1, x, q.2.2.1, k, q.2.2.2.2) else q
def spStep (wh k d : Int32) (q : Sp) : Sp := if wh = 0 then spKeep k (if d = -1 then 999999 else d) q else if d = -1 then q else spEnd k d q
def spRule (A : Ar) (t f s : Nat) (q : Sp) (k : Nat) : Sp := if mFor A (24 * s + k) t f = true then spStep (A 26 (24 * s + k)) (nI k) (rDay A (24 * s + k) t) q else q
def spSet (A : Ar) (t f s : Nat) : Sp := (ord A s).foldl (spRule A t f s) sp0
def mSpan (A : Ar) (t f : Nat) (s : Int32) : Sp := if s = -1 then sp0 else spSet A t f s.toNatClampNeg
/-- the stores where a copy may be -/
def plRule (A : Ar) (t f s : Nat) (b : Int32) (k : Nat) : Int32 := if A 26 (24 * s + k) = 2 ∧ mFor A (24 * s + k) t f = true then b &&& A 32 (24 * s + k) else b
def mPls (A : Ar) (t f s : Nat) : Nat → Int32
  | 0 => 15
  | k + 1 => plRule A t f s (mPls A t f s k) k
def mPlc (A : Ar) (t f : Nat) (s : Int32) : Int32 := if s = -1 then 15 else mPls A t f s.toNatClampNeg (A 25 s.toNatClampNeg).toNatClampNeg
/-- the reference's counts -/
def mCnt (σ : Ms) (nT nS nH nP nw nL : Nat) : Prop := σ.1 2 = nI nT ∧ nT ≤ 30 ∧ σ.1 3 = nI nS ∧ nS ≤ 8 ∧ σ.1 4 = nI nH ∧ nH ≤ 40 ∧ σ.1 7 = nI nP ∧ nP ≤ 1000 ∧ σ.1 1 = nI nw ∧ nw ≤ 200000 ∧ σ.1 5 = nI nL ∧ nL ≤ 960 * nw
/-- a rule's row that stands -/
def lvr (A : Ar) (nS r : Nat) : Prop := r / 24 < nS ∧ r % 24 < (A 25 (r / 24)).toNatClampNeg
/-- the ranges of the reference's arrays -/
def mRg (A : Ar) (nT nS nH : Nat) (k j : Nat) : Prop := match k with
  | 9 => j < nT → ibt (A 9 j) 4
  | 10 => j < 120 → ibt (A 10 j) 10000 ∧ (4 * nT ≤ j → A 10 j = 0)
  | 11 => j < 120 → (A 11 j = -1 ∨ ibt (A 11 j) 200001) ∧ (4 * nT ≤ j → A 11 j = -1)
  | 12 => j < 240 → ibt (A 12 j) 16 ∧ (8 * nT ≤ j → A 12 j = 0)
  | 13 => j < 30 → (A 13 j = 0 ∨ A 13 j = 1) ∧ (nT ≤ j → A 13 j = 0)
  | 14 => j < 4 → ∃ e : Nat, 1 ≤ e ∧ e ≤ 400 ∧ A 14 j = nI e
  | 15 => j < 4 → ibt (A 15 j) 400
  | 16 => j < nH → ibt (A 16 j) nT
  | 17 => j < nH → ibt (A 17 j) 256
  | 18 => j < 40 → (A 18 j = 0 ∨ A 18 j = 1) ∧ (nH ≤ j → A 18 j = 0)
  | 24 => j < nS → ibt (A 24 j) 200001
  | 25 => j < nS → ibt (A 25 j) 25
  | 26 => lvr A nS j → A 26 j = 0 ∨ A 26 j = 1 ∨ A 26 j = 2
  | 27 => lvr A nS j → A 27 j = -1 ∨ ibt (A 27 j) 4
  | 28 => lvr A nS j → A 28 j = -1 ∨ ibt (A 28 j) 8
  | 29 => lvr A nS j → ¬ A 26 j = 2 → ibt (A 29 j) 10000
  | 30 => lvr A nS j → ¬ A 26 j = 2 → A 30 j = 0 ∨ A 30 j = 1 ∨ A 30 j = 12
  | 31 => lvr A nS j → ¬ A 26 j = 2 → ibt (A 31 j) 4
  | 32 => lvr A nS j → ibt (A 32 j) 16
  | 33 => lvr A nS j → ibt (A 33 j) 10000
  | 34 => lvr A nS j → ibt (A 34 j) 5
  | 35 => lvr A nS (j / 4) → j % 4 < (A 34 (j / 4)).toNatClampNeg → ibt (A 35 j) 4
  | 36 => lvr A nS (j / 4) → j % 4 < (A 34 (j / 4)).toNatClampNeg → ibt (A 36 j) 10000
  | 37 => lvr A nS (j / 4) → j % 4 < (A 34 (j / 4)).toNatClampNeg → A 37 j = 0 ∨ A 37 j = 1
  | 38 => j < 1000 → ibt (A 38 j) 256
  | 59 => j < 30 → ibt (A 59 j) 256 ∧ (nT ≤ j → A 59 j = 0)
  | _ => True
/-- what the reference has kept of spans is what they are -/
def mKep (σ : Ms) (nT nS : Nat) : Prop := ∀ t, t < 30 → σ.2 55 t = 0 ∨ (σ.2 55 t = 1 ∧ t < nT ∧ (σ.1 54 = -1 ∨ ibt (σ.1 54) nS) ∧ ∀ g, g < 8 → σ.2 56 (8 * t + g) = (mSpan σ.2 t g (σ.1 54)).1 ∧ σ.2 57 (8 * t + g) = (mSpan σ.2 t g (σ.1 54)).2.1 ∧ σ.2 58 (8 * t + g) = (mSpan σ.2 t g (σ.1 54)).2.2.2.1)
def mInv (σ : Ms) (nT nS nH nP nw nL : Nat) : Prop := mCnt σ nT nS nH nP nw nL ∧ (∀ k j, mRg σ.2 nT nS nH k j) ∧ mKep σ nT nS
/-! the class's memory: B c i j is the address of the thing of sort c with numbers i, j -/
def kbit (x : Int32) : Int32 := if x = -1 then 15 else (1 : Int32) <<< (x &&& 31)
def fbit (x : Int32) : Int32 := if x = -1 then 255 else (1 : Int32) <<< (x &&& 31)
def kdc (c : Nat) : Nat := match c with
  | 0 => 11 | 1 => 16 | 2 => 18 | 3 => 17 | 4 => 14 | 5 => 2 | 6 => 12 | 7 => 6 | 8 => 12 | 9 => 7 | 10 => 8 | 11 => 12 | 12 => 12 | 13 => 12 | 14 => 1 | 15 => 5 | 16 => 15 | 17 => 12 | 18 => 3 | 19 => 12 | 20 => 13 | 21 => 12 | _ => 9
def lnc (c : Nat) : Nat := match c with
  | 0 => 1000 | 1 => 8 | 2 => 30 | 3 => 4 | 4 => 40 | 6 => 2000 | 8 => 24 | 11 => 4 | 12 => 4 | 13 => 8 | 16 => 24 | 17 => 24 | 19 => 4 | 20 => 4 | 21 => 4 | _ => 0
def rmy (A : Ar) (s : Nat) : Nat := (A 25 s).toNatClampNeg
def vld (A : Ar) (nT nS nH : Nat) (c i j : Nat) : Prop := match c with
  | 9 => i < 4 ∧ j = 0
  | 10 => i < nT ∧ j = 0
  | 11 => i < nT ∧ j = 0
  | 12 => i < nT ∧ j = 0
  | 13 => i < nT ∧ j = 0
  | 14 => i < nH ∧ j = 0
  | 15 => i < nS ∧ j = 0
  | 16 => i < nS ∧ j = 0
  | 17 => i < nS ∧ j = 0
  | 18 => i < nS ∧ j < rmy A i
  | 19 => i < nS ∧ j < rmy A i
  | 20 => i < nS ∧ j < rmy A i
  | 21 => i < nS ∧ j < rmy A i
  | c => c < 23 ∧ i = 0 ∧ j = 0
/-- which references are told -/
def rfv (A : Ar) (nT nS nH : Nat) (c i j e : Nat) : Prop := match c with
  | 1 => e < nS ∧ i = 0 ∧ j = 0
  | 2 => e < nT ∧ i = 0 ∧ j = 0
  | 3 => e < 4 ∧ i = 0 ∧ j = 0
  | 4 => e < nH ∧ i = 0 ∧ j = 0
  | 5 => e = 0 ∧ i = 0 ∧ j = 0
  | 7 => e = 4 ∧ i = 0 ∧ j = 0
  | 10 => i < nT ∧ j = 0 ∧ (e = 1 ∨ e = 2 ∨ e = 3)
  | 14 => i < nH ∧ j = 0 ∧ e = 0
  | 15 => i < nS ∧ j = 0 ∧ (e = 1 ∨ e = 3)
  | 16 => i < nS ∧ j = 0 ∧ e < rmy A i
  | 18 => i < nS ∧ j < rmy A i ∧ (e = 9 ∨ e = 10 ∨ e = 11)
  | 22 => i = 0 ∧ j = 0 ∧ (e = 0 ∨ e = 3 ∨ e = 5 ∨ e = 7 ∨ e = 8 ∨ e = 10 ∨ e = 11)
  | _ => False
def rft (A : Ar) (B : Nat → Nat → Nat → Nat) (c i j e : Nat) : Nat := match c with
  | 1 => B 15 e 0
  | 2 => B 10 e 0
  | 3 => B 9 e 0
  | 4 => B 14 e 0
  | 5 => B 6 0 0
  | 7 => B 8 0 0
  | 10 => match e with | 1 => B 11 i 0 | 2 => B 12 i 0 | _ => B 13 i 0
  | 14 => B 10 (A 16 i).toNatClampNeg 0
  | 15 => match e with | 1 => B 16 i 0 | _ => B 17 i 0
  | 16 => B 18 i e
  | 18 => match e with | 9 => B 19 i j | 10 => B 20 i j | _ => B 21 i j
  | 22 => match e with | 0 => B 0 0 0 | 3 => B 1 0 0 | 5 => B 2 0 0 | 7 => B 3 0 0 | 8 => B 4 0 0 | 10 => B 5 0 0 | _ => B 7 0 0
  | _ => 0
/-- which numbers are told, and what they are -/
def vwv (A : Ar) (nT nS nH : Nat) (c i j e : Nat) : Prop := match c with
  | 0 => i = 0 ∧ j = 0 ∧ e < 1000
  | 5 => i = 0 ∧ j = 0 ∧ (e = 1 ∨ e = 2)
  | 6 => i = 0 ∧ j = 0 ∧ e < 2000
  | 9 => i < 4 ∧ j = 0 ∧ e < 2
  | 10 => i < nT ∧ j = 0 ∧ (e = 0 ∨ e = 4 ∨ e = 5)
  | 11 => i < nT ∧ j = 0 ∧ e < 4
  | 12 => i < nT ∧ j = 0 ∧ e < 4
  | 13 => i < nT ∧ j = 0 ∧ e < 8
  | 14 => i < nH ∧ j = 0 ∧ (e = 1 ∨ e = 2)
  | 15 => i < nS ∧ j = 0 ∧ (e = 0 ∨ e = 2 ∨ e = 4)
  | 17 => i < nS ∧ j = 0 ∧ e < (ord A i).length
  | 18 => i < nS ∧ j < rmy A i ∧ (e < 4 ∨ e = 7 ∨ e = 8 ∨ (¬ A 26 (24 * i + j) = 2 ∧ (e = 4 ∨ e = 5 ∨ e = 6)))
  | 19 => i < nS ∧ j < rmy A i ∧ e < (A 34 (24 * i + j)).toNatClampNeg
  | 20 => i < nS ∧ j < rmy A i ∧ e < (A 34 (24 * i + j)).toNatClampNeg
  | 21 => i < nS ∧ j < rmy A i ∧ e < (A 34 (24 * i + j)).toNatClampNeg
  | 22 => i = 0 ∧ j = 0 ∧ (e = 1 ∨ e = 2 ∨ e = 4 ∨ e = 6 ∨ e = 9 ∨ e = 12)
  | _ => False
def vwt (σ : Ms) (c i j e : Nat) : Int32 := match c with
  | 0 => (σ.2 38 e).toInt8.toInt32
  | 5 => match e with | 1 => σ.1 5 | _ => σ.1 6
  | 6 => match e % 5 with | 0 => σ.2 19 (e / 5) | 1 => σ.2 20 (e / 5) | 2 => σ.2 21 (e / 5) | 3 => σ.2 22 (e / 5) | _ => σ.2 23 (e / 5)
  | 9 => match e with | 0 => σ.2 14 i | _ => σ.2 15 i
  | 10 => match e with | 0 => σ.2 9 i | 4 => σ.2 59 i | _ => σ.2 13 i
  | 11 => σ.2 10 (4 * i + e)
  | 12 => σ.2 11 (4 * i + e)
  | 13 => σ.2 12 (8 * i + e)
  | 14 => match e with | 1 => σ.2 17 i | _ => σ.2 18 i
  | 15 => match e with | 0 => σ.2 24 i | 2 => σ.2 25 i | _ => nI (ord σ.2 i).length
  | 17 => nI ((ord σ.2 i).getD e 0)
  | 18 => match e with | 0 => σ.2 26 (24 * i + j) | 1 => kbit (σ.2 27 (24 * i + j)) | 2 => fbit (σ.2 28 (24 * i + j)) | 3 => σ.2 32 (24 * i + j) | 4 => σ.2 29 (24 * i + j) | 5 => σ.2 30 (24 * i + j) | 6 => σ.2 31 (24 * i + j) | 7 => σ.2 33 (24 * i + j) | _ => σ.2 34 (24 * i + j)
  | 19 => σ.2 35 (4 * (24 * i + j) + e)
  | 20 => σ.2 37 (4 * (24 * i + j) + e)
  | 21 => σ.2 36 (4 * (24 * i + j) + e)
  | 22 => match e with | 1 => σ.1 7 | 2 => σ.1 8 | 4 => σ.1 3 | 6 => σ.1 2 | 9 => σ.1 4 | _ => σ.1 1
  | _ => 0
def kShp (μ : Km) (A : Ar) (a0 : Nat) (B : Nat → Nat → Nat → Nat) (tg : Nat → Nat × Nat × Nat) (nT nS nH : Nat) : Prop := B 22 0 0 = a0 ∧ (∀ q, kn μ ≤ q → kK μ q = 0) ∧ (∀ c i j, vld A nT nS nH c i j → kK μ (B c i j) = kdc c ∧ kN μ (B c i j) = lnc c ∧ tg (B c i j) = (c, i, j)) ∧ ∀ c i j e, rfv A nT nS nH c i j e → kR μ (B c i j) e = some (rft A B c i j e)
def kVal (μ : Km) (σ : Ms) (B : Nat → Nat → Nat → Nat) (nT nS nH : Nat) : Prop := ∀ c i j e, vwv σ.2 nT nS nH c i j e → kI μ (B c i j) e = vwt σ c i j e
def RepB (a0 : Nat) (μ : Km) (σ : Ms) (B : Nat → Nat → Nat → Nat) (tg : Nat → Nat × Nat × Nat) (nT nS nH nP nw nL : Nat) : Prop := mInv σ nT nS nH nP nw nL ∧ kShp μ σ.2 a0 B tg nT nS nH ∧ kVal μ σ B nT nS nH
def Rep (a0 : Nat) (μ : Km) (σ : Ms) : Prop := ∃ B tg nT nS nH nP nw nL, RepB a0 μ σ B tg nT nS nH nP nw nL
theorem Rep_ok (a0 : Nat) : lRep (Rep a0) a0 := by
  refine ⟨fun μ σ h => ?_, fun μ σ n hn h => ?_⟩
  · obtain ⟨B, tg, nT, nS, nH, nP, nw, nL, h1, h2, h3⟩ := h
    have h4 := (h2.2.2.1 22 0 0 ⟨by omega, rfl, rfl⟩).1
    rw [h2.1] at h4
    exact h4
  · obtain ⟨B, tg, nT, nS, nH, nP, nw, nL, h1, h2, h3⟩ := h
    exact ⟨B, tg, nT, nS, nH, nP, nw, nL, h1, ⟨h2.1, fun q hq => h2.2.1 q (Nat.le_trans hn hq), h2.2.2⟩, h3⟩
end SPEC
