/-! the stores of a place rule -/
section STORES
variable {μ ν ν' ν1 : Km} {σ τ τ' τ1 : Ms} {rd tp n b e r p : Nat} {T : Nat → Int32} {tk sg : Int32}
def pc4 (s : Nat) : Nat := s % 2 + s / 2 % 2 + s / 4 % 2 + s / 8 % 2
theorem st_tab : ∀ st, st < 16 → ∀ s, s < 4 → (nI st &&& (1 : Int32) <<< (nI s &&& 31) = 0 ∧ ¬ (nI st >>> (nI s &&& 31)) &&& (1 : Int32) = 1 ∧ nI st ||| (1 : Int32) <<< (nI s &&& 31) = nI (nI st ||| (1 : Int32) <<< (nI s &&& 31)).toNatClampNeg ∧ (nI st ||| (1 : Int32) <<< (nI s &&& 31)).toNatClampNeg < 16 ∧ pc4 (nI st ||| (1 : Int32) <<< (nI s &&& 31)).toNatClampNeg = pc4 st + 1) ∨ (¬ nI st &&& (1 : Int32) <<< (nI s &&& 31) = 0 ∧ (nI st >>> (nI s &&& 31)) &&& (1 : Int32) = 1) := by decide +kernel
def Mst (rec : Ms → Int32 → Option Ms) (k : Ms → Option Ms) (τ : Ms) (x : Int32) : Option Ms := if x = (-1 : Int32) then M_readRule_B283 τ rec k x else if okI (τ.1 47) 192 = true then (if ((τ.2 32 (τ.1 47).toNatClampNeg) >>> (x &&& 31)) &&& (1 : Int32) = (1 : Int32) then (M_wrong τ (3 : Int32)).bind (fun s_280 => M_readRule_B283 s_280 rec k x) else M_readRule_B283 τ rec k x) else none
def fS (i : Nat) : Prop := i = 3
def gS32 (k : Nat) : Prop := k = 32
def qSto (p r : Nat) (ν' : Km) (τ' : Ms) : Prop := kI ν' p 3 = τ'.2 32 r ∧ ibt (τ'.2 32 r) 16
def kF3 (rd : Nat) : Km → Option (Int32 × Km) := fun s_38 => if kK s_38 rd = 4 then bi (K4_fail s_38 rd (3 : Int32)) (fun r_40 s_40 => if okZ r_40 = true then some (r_40, s_40) else none) else none
theorem stores_L {kk : Ms → Option Ms} (hp1 : p ≠ rd) (hp2 : p ≠ tp) (hr : r < 192) : ∀ (F FM i st : Nat) (ν : Km) (τ : Ms) (x : Int32), 5 < F + i → 5 < FM + i → st < 16 → pc4 st = i → Sy ν τ rd tp n T → kK ν p = 3 → τ.1 47 = nI r → kI ν p 3 = nI st → τ.2 32 r = nI st → (x = -1 ∨ ibt x 4) → Out rd tp n T (sKw rd p fS) (sMw r gS32) ν τ (K4_readStores_L20 rd p (kF3 rd) (fun s_72 => K4_readStores_B72 s_72) F ν (sbit x) (nI i)) (fun τ' => Mst (M_readRule_L221 kk FM) kk τ x = kk τ') (qSto p r) := by
  intro F
  induction F with
  | zero => intro FM i st ν τ x h1 h2 h3 h4; unfold pc4 at h4; omega
  | succ F ih =>
    intro FM i st ν τ x h1 h2 h3 h4 h hk h47 hI hA hx
    have hi : i ≤ 4 := by unfold pc4 at h4; omega
    have hb := Sy_bad h
    have k4 := Sy_k4 h
    obtain ⟨FM', rfl⟩ : ∃ FM', FM = FM' + 1 := ⟨FM - 1, by omega⟩
    unfold K4_readStores_L20 Mst
    rw [if_neg (show ¬ (4 : Int32) < nI i from fun z => i_le_n (nI_le (b := 4) hi (by omega)) z)]
    by_cases c : x = -1
    · rw [if_pos ((sbit_0 (m := 4) (by omega) hx).mpr c), if_pos c]
      unfold M_readRule_B283
      rw [if_pos hb, if_pos c]
      unfold M_readRule_L221
      rw [if_pos hb, if_pos c]
      exact ⟨ν, τ, rfl, kfr_rf _ _, mfr_rf _ _, Or.inl ⟨rfl, h, by rw [hI, hA], by rw [hA]; exact ⟨st, h3, rfl⟩⟩⟩
    · obtain ⟨s, hs, ex⟩ := hx.resolve_left c
      have eb : sbit x = (1 : Int32) <<< (nI s &&& 31) := by unfold sbit; rw [if_neg c, ex]
      rw [if_neg (fun z => c ((sbit_0 (m := 4) (by omega) hx).mp z)), if_neg c, if_pos hk, hI, if_pos (ok47 hr h47).1, (ok47 hr h47).2, hA, eb, ex]
      rcases st_tab st h3 s hs with ⟨t1, t2, t3, t4, t5⟩ | ⟨t1, t2⟩
      · generalize hst : (nI st ||| (1 : Int32) <<< (nI s &&& 31)).toNatClampNeg = st' at t3 t4 t5
        rw [if_pos t1, if_neg t2, bnd_eq, if_pos (show kK (kSetI ν p 3 (nI st ||| (1 : Int32) <<< (nI s &&& 31))) rd = 4 from k4)]
        obtain ⟨ν2, τ2, a1, a2, a3, a4, a5⟩ := next_both (Sy_kp (i := 3) (x := nI st ||| (1 : Int32) <<< (nI s &&& 31)) h hp1 hp2)
        have k42 := Sy_k4 a3
        have hb2 := Sy_bad a3
        have h472 := mfr_47 a5 h47
        have A2 : τ2.2 32 r = nI st := by rw [a5.2 _ _ (fun z => z), hA]
        have s3 : Sy ν2 (mSto τ2 32 r (nI st')) rd tp n T := Sy_mp a3 (by decide)
        obtain ⟨y, n1, n2, n3⟩ := numbered_both s3 (c := 115) (m := 3) (by omega) (by omega)
        have n1' : K4_numbered ν2 rd 115 4 = some y := n1
        have n2' : M_numbered (mSto τ2 32 r (nI st')) 115 3 = some y := n2
        unfold M_readRule_B283
        have xm : ¬ nI s = -1 := i_m1_ne (by omega)
        rw [a1, ob_some, if_pos k42, bitOf_eq k42 n1', ob_some, if_pos hb, if_neg xm, a2, ob_some, nI_1]
        unfold M_readRule_L221
        rw [if_pos hb2, if_neg xm, if_pos (ok47 hr h472).1, if_pos (ok47 hr h472).1, (ok47 hr h472).2, A2, t3, bnd_eq, n2', ob_some]
        obtain ⟨ν3, τ3, m1, m2, m3, m4⟩ := ih FM' (i + 1) st' ν2 (mSto τ2 32 r (nI st')) y (by omega) (by omega) t4 (by rw [t5, h4]) s3 (kfr_k a4 hk) h472 (by rw [a4.2 _ _ (fun z => hp1 z.1), kI_set, if_pos ⟨rfl, rfl⟩, t3]) (by rw [mSto_at, if_pos ⟨rfl, rfl⟩]) n3
        exact ⟨ν3, τ3, m1, kfr_c m2 (kfr_c (kfr_mn a4 sub_rd) (kfr_p rfl)), mfr_c m3 (mfr_c (mfr_p rfl) (mfr_mn a5 (sN_le _))), m4⟩
      · obtain ⟨ν2, τ2, a1, a2, a3, a4, a5, a6⟩ := fail_both h (f := 3) (by decide)
        rw [if_neg t1, if_pos t2, a2, ob_some]
        unfold kF3 M_readRule_B283
        rw [if_pos k4, a1, bi_some, if_neg a3.1, L221_bad a3.1]
        exact ⟨ν2, τ2, rfl, kfr_mn a4 sub_bd, mfr_mn a5 (sN_le _), Or.inr ⟨rfl, a3⟩⟩
theorem stores_both (hp1 : p ≠ rd) (hp2 : p ≠ tp) (hk : kK ν p = 3) (hr : r < 192) (h47 : τ.1 47 = nI r) (h : Sy ν τ rd tp n T) (hI : kI ν p 3 = 0) (hA : τ.2 32 r = 0) : Out rd tp n T (sKw rd p fS) (sMw r gS32) ν τ (K4_readStores ν rd p) (fun τ' => bi (M_readNumbered τ (115 : Int32) (3 : Int32)) (fun r_217 s_217 => M_readRule_L221 (fun s_302 => M_readRule_B302 s_302) gF s_217 r_217) = M_readRule_B302 τ') (qSto p r) := by
  have hb := Sy_bad h
  have k4 := Sy_k4 h
  obtain ⟨x, n1, n2, n3⟩ := numbered_both h (c := 115) (m := 3) (by omega) (by omega)
  have n1' : K4_numbered ν rd 115 4 = some x := n1
  have n2' : M_numbered τ 115 3 = some x := n2
  unfold K4_readStores
  rw [if_pos k4, bitOf_eq k4 n1', ob_some]
  by_cases c : x = -1
  · rw [if_pos ((sbit_0 (m := 4) (by omega) n3).mpr c)]
    obtain ⟨ν2, τ2, a1, a2, a3, a4, a5, a6⟩ := fail_both h (f := 1) (by decide)
    rw [a1, bi_some, readNumbered_no (by rw [n2', c]) a2 a3.1, bi_some, show gF = 1048575 + 1 from rfl, L221_bad a3.1]
    exact ⟨ν2, τ2, rfl, kfr_mn a4 sub_bd, mfr_mn a5 (sN_le _), Or.inr ⟨rfl, a3⟩⟩
  · rw [if_neg (fun z => c ((sbit_0 (m := 4) (by omega) n3).mp z))]
    obtain ⟨ν2, τ2, a1, a2, a3, a4, a5⟩ := next_both h
    obtain ⟨ν3, τ3, m1, m2, m3, m4⟩ := stores_L (kk := fun s_302 => M_readRule_B302 s_302) hp1 hp2 hr gF gF 0 0 ν τ x (by unfold gF; omega) (by unfold gF; omega) (by omega) rfl h hk h47 hI hA n3
    refine ⟨ν3, τ3, ?_, m2, m3, m4⟩
    show bi (M_readNumbered τ (115 : Int32) (3 : Int32)) _ = _
    rw [readNumbered_ok hb n2' c a2, bi_some]
    refine Eq.trans ?_ m1
    unfold Mst M_readRule_B283
    obtain ⟨s, hs, ex⟩ := n3.resolve_left c
    have t : ¬ (0 : Int32) >>> (x &&& 31) &&& (1 : Int32) = 1 := by
      rw [ex]
      exact (show ∀ s, s < 4 → ¬ (0 : Int32) >>> (nI s &&& 31) &&& (1 : Int32) = 1 by decide +kernel) s hs
    rw [if_neg c, if_pos (ok47 hr h47).1, (ok47 hr h47).2, hA, if_neg t, if_pos hb, if_neg c, a2, ob_some]
end STORES
