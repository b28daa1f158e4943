def R_law : String := "KeepForgetLaw"
def lw_P (b : Addr) (xs : List Int32) (args : Array Value) (s : State) : Prop := args = #[.ref b] ∧ s.IntsAt b xs ∧ xs.length ≤ 3072 ∧ (Jvm.Cond.and given_1 narrow_1).before args s = true
def lw_Q (_ : Array Value) (s : State) (o : Outcome) (t : State) : Prop := o = .returned (some (.int 1)) ∧ Framed s o t [] 601024 7293034
def lw_Z (below : List Frame) (a : Array Value) (s : State) : State → Prop := fun t => ∃ o, t.status = .running ∧ Ended t below o ∧ lw_Q a s o t
/-- the law's own end, with 1 on the stack, nothing written that was there before, its room as the claim has it -/
theorem lw_ret {p : Program} {l : Launch} {e : Env} {s : State} {m : MethodId} {below : List Frame} {meth : Method} {c : Code} {b : Nat} (hx : p.tables.exec = Jvm.exec) (hb : c.code = code) (hr : meth.sig.returnType = ret) (hlocks : meth.locks = false) {pc : Nat} {H : Heap} {ls : Array Slot} (hdg : decode code pc = .ok (.ireturn, 1)) : W p l e room_1 s m #[Value.ref b] below meth c H [] 601024 7293034 (lw_Z below #[Value.ref b] s) (F0 m pc ls [.int 1]) := by
  intro T hT X
  obtain ⟨fs, hret, hrun, hended, hW, hframe⟩ := X.leave (v := some (.int 1)) (hlocks := hlocks) (fun h => by rw [hr] at h; cases h)
  have hmeth' : T.vm.method? m = some meth := X.method'
  refine ⟨T.setFrames fs, ?_, .returned (some (.int 1)), hrun, hended, rfl, ⟨_, rfl⟩, hW, hframe⟩
  jvm_step X.here [X.here.top, hx, hb, hdg, hmeth', hr, ret, narrow_b1]
  (try refine ⟨rfl, ?_⟩); (try refine ⟨rfl, ?_⟩)
  first | (intro acts; rw [hret _ acts rfl rfl rfl]) | rw [hret _ _ rfl rfl rfl]
  exact Steps.refl _
/-- what holds at the law's entry: the machine, the code, the tables' words (any of lw_tbl by 'hts w (by decide +kernel)'), the script of L ints xs at the cell b, what the Statement gives of the start (any of its parts by flat_of_before) -/
def lw_At (p : Program) (s : State) (m : MethodId) (meth : Method) (c : Code) (b L : Nat) (xs : Nat → Int32) : Prop :=
  p.tables.exec = Jvm.exec ∧ c.code = code ∧ meth.sig.returnType = ret ∧ c.maxLocals = 7 ∧ s.vm.findClass R_law = some m.cls ∧ (∀ w ∈ lw_tbl, w.before #[Value.ref b] s = true) ∧ va_X b L xs s s.heap ∧ b < s.heap.size ∧ meth.locks = false ∧ (Jvm.Cond.and given_1 narrow_1).before #[Value.ref b] s = true
theorem nI_toI {n : Nat} (h : n < 2 ^ 31) : (nI n).toInt = (n : Int) := nI_toInt h
theorem lw_cmp {j L : Nat} (hj : j ≤ 3072) (hL : L ≤ 3072) : (nI L - 6 < nI j) ↔ L < j + 6 := by
  rw [Int32.lt_iff_toInt_lt, Int32.toInt_sub, nI_toI (by omega), nI_toI (by omega)]
  have e6 : (6 : Int32).toInt = 6 := by decide
  rw [e6, Int.bmod_eq_of_le (by omega) (by omega)]
  omega
theorem lw_inc (j : Nat) : nI j + Int32.ofInt 6 = nI (j + 6) := by
  show Int32.ofNat j + Int32.ofInt 6 = Int32.ofNat (j + 6)
  rw [Int32.ofNat_add]
  rfl
set_option maxHeartbeats 8000000 in
set_option maxRecDepth 100000 in
theorem lw_loop {p : Program} {l : Launch} {e : Env} {s : State} {m : MethodId} {below : List Frame} {meth : Method} {c : Code} {Ke : State → Prop} {z : Lp} {adS adV adM : Nat → Nat} {adD b L : Nat} {xs : Nat → Int32} {Rep : Km → Ms → Prop} {a0 : Nat} (h : gOk p s m #[Value.ref b] meth c cL_law 7 "KeepForgetLaw" tb) (hKs : Ke s) (hC : lCx l Ke z adS adV adM adD b L xs) (hR : lRep Rep a0) (hO : lOps Rep a0) (hr : meth.sig.returnType = ret) (hzn : zn z = s.heap.size) :
    ∀ (F j cc ss : Nat), j ≤ L → L < j + 6 * F → cc + 109 * F ≤ 601024 → ss + 690 * F ≤ 7293034 → ∀ (μ : Km) (σ : Ms) (v : Int64), Rep μ σ → gS p l e room_1 s m #[Value.ref b] below meth c 7 (lA z) (LW z) (fun _ : Unit => lw_Z below #[Value.ref b] s) (cc) (ss) (some ()) (μ, σ, v) 23 [(0, .ref b), (1, .ref a0), (2, .ref (zh z)), (3, .ref (zo z)), (4, .int (nI j))] [] := by
  have hC0 := hC
  obtain ⟨hz, hkw, hX, hSt, hStM, hN, hT, hL⟩ := hC
  obtain ⟨o0, o1, o2, o3, o4, o5, o6, o7, o8, o9, o10, o11, o12, o13, o14, o15, o16, o17, o18, o19, o20, o21, o22, o23, o24, o25⟩ := hO
  intro F
  induction F with
  | zero => intro j cc ss h1 h2; exact absurd h2 (by omega)
  | succ F ih =>
    intro j cc ss hj hF hc hs μ σ v h0
    refine g_iload h 4 dL_law_23 rfl ?_
    refine g_aload_n h 0 dL_law_25 rfl ?_
    refine g_tlen h (fun H hw => hT _ _ hw.2.1.1) dL_law_26 ?_
    refine g_bipush (v := 6) h dL_law_27 (by decide) ?_
    refine g_isub h dL_law_29 ?_
    by_cases hend : L < j + 6
    · refine g_pos (cnd := nI L - 6 < nI j) ((lw_cmp (by omega) hL).mpr hend) ?_
      refine g_icmp_gt h 1859 dL_law_30 (by decide) ?_ g_none
      refine g_iconst (v := 1) h dL_law_1859 (by decide) ?_
      intro X hX9 H locs ls hw hS hl
      refine va_forget (fun q hq => by have h9 : zn z ≤ q.base := hS.2.2 q hq; rw [hzn] at h9; exact h9) ?_
      refine W.widen (k := 601024) (n := 7293034) (by omega) (by omega) ?_
      exact lw_ret h.1.1 h.1.2.1 hr h.2 dL_law_1860
    · have hj6 : j + 6 ≤ L := by omega
      refine g_neg (cnd := nI L - 6 < nI j) (fun q => hend ((lw_cmp (by omega) hL).mp q)) ?_
      refine g_icmp_gt h 1859 dL_law_30 (by decide) g_none ?_
      refine g_aload_n h 0 dL_law_33 rfl ?_
      refine g_iload h 4 dL_law_34 rfl ?_
      refine g_ti h (fun H hw => hT _ _ hw.2.1.1) (vp_in_nI (by omega) (by omega)) dL_law_36 ?_
      refine g_bipush (v := 31) h dL_law_37 (by decide) ?_
      refine g_iand h dL_law_39 ?_
      have hk : ∀ w9 : Ls, Rep w9.1 w9.2.1 → gS p l e room_1 s m #[Value.ref b] below meth c 7 (lA z) (LW z) (fun _ : Unit => lw_Z below #[Value.ref b] s) (cc + 109) (ss + 690) (some ()) (w9) 1853 [(0, .ref b), (1, .ref a0), (2, .ref (zh z)), (3, .ref (zo z)), (4, .int (nI j))] [] := by
        intro w9 h9
        refine g_iinc (v := nI (j + 6)) (i := 4) h [(4, .int (nI (j + 6))), (0, .ref b), (1, .ref a0), (2, .ref (zh z)), (3, .ref (zo z))] dL_law_1853 rfl (lw_inc j) (by decide) rfl ?_
        refine g_goto h 23 dL_law_1856 (by decide) ?_
        refine g_lv [(0, .ref b), (1, .ref a0), (2, .ref (zh z)), (3, .ref (zo z)), (4, .int (nI (j + 6)))] [1, 2, 3, 4, 0] rfl ?_
        obtain ⟨μ9, σ9, v9⟩ := w9
        exact ih (j + 6) _ _ (by omega) (by omega) (by omega) (by omega) μ9 σ9 v9 h9
      generalize hx : xs (nI j).toNatClampNeg &&& 31 = x
      by_cases q0 : x = 0
      · refine g_tabIn h 160 dL_law_40 (by rw [q0]; decide) (by rw [q0]; decide) (by rw [q0]; rfl) (by decide) ?_
        exact lc_day h hKs hC0 hR o0 cc ss j (by omega) (by omega) hj6 μ σ v h0 hk
      by_cases q1 : x = 1
      · refine g_tabIn h 240 dL_law_40 (by rw [q1]; decide) (by rw [q1]; decide) (by rw [q1]; rfl) (by decide) ?_
        exact lc_date h hKs hC0 hR o1 cc ss j (by omega) (by omega) hj6 μ σ v h0 hk
      by_cases q2 : x = 2
      · refine g_tabIn h 308 dL_law_40 (by rw [q2]; decide) (by rw [q2]; decide) (by rw [q2]; rfl) (by decide) ?_
        exact lc_later h hKs hC0 hR o2 cc ss j (by omega) (by omega) hj6 μ σ v h0 hk
      by_cases q3 : x = 3
      · refine g_tabIn h 376 dL_law_40 (by rw [q3]; decide) (by rw [q3]; decide) (by rw [q3]; rfl) (by decide) ?_
        exact lc_feed h hKs hC0 hR o3 cc ss j (by omega) (by omega) hj6 μ σ v h0 hk
      by_cases q4 : x = 4
      · refine g_tabIn h 449 dL_law_40 (by rw [q4]; decide) (by rw [q4]; decide) (by rw [q4]; rfl) (by decide) ?_
        exact lc_rules h hKs hC0 hR o4 cc ss j (by omega) (by omega) hj6 μ σ v h0 hk
      by_cases q5 : x = 5
      · refine g_tabIn h 517 dL_law_40 (by rw [q5]; decide) (by rw [q5]; decide) (by rw [q5]; rfl) (by decide) ?_
        exact lc_fault h hKs hC0 hR o5 cc ss j (by omega) (by omega) hj6 μ σ v h0 hk
      by_cases q6 : x = 6
      · refine g_tabIn h 530 dL_law_40 (by rw [q6]; decide) (by rw [q6]; decide) (by rw [q6]; rfl) (by decide) ?_
        exact lc_thing h hKs hC0 hR o6 cc ss j (by omega) (by omega) hj6 μ σ v h0 hk
      by_cases q7 : x = 7
      · refine g_tabIn h 555 dL_law_40 (by rw [q7]; decide) (by rw [q7]; decide) (by rw [q7]; rfl) (by decide) ?_
        exact lc_fact h hKs hC0 hR o7 cc ss j (by omega) (by omega) hj6 μ σ v h0 hk
      by_cases q8 : x = 8
      · refine g_tabIn h 635 dL_law_40 (by rw [q8]; decide) (by rw [q8]; decide) (by rw [q8]; rfl) (by decide) ?_
        exact lc_event h hKs hC0 hR o8 cc ss j (by omega) (by omega) hj6 μ σ v h0 hk
      by_cases q9 : x = 9
      · refine g_tabIn h 715 dL_law_40 (by rw [q9]; decide) (by rw [q9]; decide) (by rw [q9]; rfl) (by decide) ?_
        exact lc_copy h hKs hC0 hR o9 cc ss j (by omega) (by omega) hj6 μ σ v h0 hk
      by_cases q10 : x = 10
      · refine g_tabIn h 802 dL_law_40 (by rw [q10]; decide) (by rw [q10]; decide) (by rw [q10]; rfl) (by decide) ?_
        exact lc_copies h hKs hC0 hR o10 cc ss j (by omega) (by omega) hj6 μ σ v h0 hk
      by_cases q11 : x = 11
      · refine g_tabIn h 870 dL_law_40 (by rw [q11]; decide) (by rw [q11]; decide) (by rw [q11]; rfl) (by decide) ?_
        exact lc_store h hKs hC0 hR o11 cc ss j (by omega) (by omega) hj6 μ σ v h0 hk
      by_cases q12 : x = 12
      · refine g_tabIn h 930 dL_law_40 (by rw [q12]; decide) (by rw [q12]; decide) (by rw [q12]; rfl) (by decide) ?_
        exact lc_hold h hKs hC0 hR o12 cc ss j (by omega) (by omega) hj6 μ σ v h0 hk
      by_cases q13 : x = 13
      · refine g_tabIn h 998 dL_law_40 (by rw [q13]; decide) (by rw [q13]; decide) (by rw [q13]; rfl) (by decide) ?_
        exact lc_lift h hKs hC0 hR o13 cc ss j (by omega) (by omega) hj6 μ σ v h0 hk
      by_cases q14 : x = 14
      · refine g_tabIn h 1061 dL_law_40 (by rw [q14]; decide) (by rw [q14]; decide) (by rw [q14]; rfl) (by decide) ?_
        exact lc_wish h hKs hC0 hR o14 cc ss j (by omega) (by omega) hj6 μ σ v h0 hk
      by_cases q15 : x = 15
      · refine g_tabIn h 1117 dL_law_40 (by rw [q15]; decide) (by rw [q15]; decide) (by rw [q15]; rfl) (by decide) ?_
        exact lc_span h hKs hC0 hR o15 cc ss j (by omega) (by omega) hj6 μ σ v h0 hk
      by_cases q16 : x = 16
      · refine g_tabIn h 1209 dL_law_40 (by rw [q16]; decide) (by rw [q16]; decide) (by rw [q16]; rfl) (by decide) ?_
        exact lc_lost h hKs hC0 hR o16 cc ss j (by omega) (by omega) hj6 μ σ v h0 hk
      by_cases q17 : x = 17
      · refine g_tabIn h 1301 dL_law_40 (by rw [q17]; decide) (by rw [q17]; decide) (by rw [q17]; rfl) (by decide) ?_
        exact lc_why h hKs hC0 hR o17 cc ss j (by omega) (by omega) hj6 μ σ v h0 hk
      by_cases q18 : x = 18
      · refine g_tabIn h 1369 dL_law_40 (by rw [q18]; decide) (by rw [q18]; decide) (by rw [q18]; rfl) (by decide) ?_
        exact lc_places h hKs hC0 hR o18 cc ss j (by omega) (by omega) hj6 μ σ v h0 hk
      by_cases q19 : x = 19
      · refine g_tabIn h 1437 dL_law_40 (by rw [q19]; decide) (by rw [q19]; decide) (by rw [q19]; rfl) (by decide) ?_
        exact lc_misplaced h hKs hC0 hR o19 cc ss j (by omega) (by omega) hj6 μ σ v h0 hk
      by_cases q20 : x = 20
      · refine g_tabIn h 1450 dL_law_40 (by rw [q20]; decide) (by rw [q20]; decide) (by rw [q20]; rfl) (by decide) ?_
        exact lc_planned h hKs hC0 hR o20 cc ss j (by omega) (by omega) hj6 μ σ v h0 hk
      by_cases q21 : x = 21
      · refine g_tabIn h 1530 dL_law_40 (by rw [q21]; decide) (by rw [q21]; decide) (by rw [q21]; rfl) (by decide) ?_
        exact lc_differ h hKs hC0 hR o21 cc ss j (by omega) (by omega) hj6 μ σ v h0 hk
      by_cases q22 : x = 22
      · refine g_tabIn h 1598 dL_law_40 (by rw [q22]; decide) (by rw [q22]; decide) (by rw [q22]; rfl) (by decide) ?_
        exact lc_bites h hKs hC0 hR o22 cc ss j (by omega) (by omega) hj6 μ σ v h0 hk
      by_cases q23 : x = 23
      · refine g_tabIn h 1673 dL_law_40 (by rw [q23]; decide) (by rw [q23]; decide) (by rw [q23]; rfl) (by decide) ?_
        exact lc_days h hKs hC0 hR o23 cc ss j (by omega) (by omega) hj6 μ σ v h0 hk
      by_cases q24 : x = 24
      · refine g_tabIn h 1729 dL_law_40 (by rw [q24]; decide) (by rw [q24]; decide) (by rw [q24]; rfl) (by decide) ?_
        exact lc_entry h hKs hC0 hR o24 cc ss j (by omega) (by omega) hj6 μ σ v h0 hk
      by_cases q25 : x = 25
      · refine g_tabIn h 1797 dL_law_40 (by rw [q25]; decide) (by rw [q25]; decide) (by rw [q25]; rfl) (by decide) ?_
        exact lc_count h hKs hC0 hR o25 cc ss j (by omega) (by omega) hj6 μ σ v h0 hk
      refine g_tabOut h 1853 dL_law_40 (by have z0 := lv_neT (a := 0) q0 (by decide); have z1 := lv_neT (a := 1) q1 (by decide); have z2 := lv_neT (a := 2) q2 (by decide); have z3 := lv_neT (a := 3) q3 (by decide); have z4 := lv_neT (a := 4) q4 (by decide); have z5 := lv_neT (a := 5) q5 (by decide); have z6 := lv_neT (a := 6) q6 (by decide); have z7 := lv_neT (a := 7) q7 (by decide); have z8 := lv_neT (a := 8) q8 (by decide); have z9 := lv_neT (a := 9) q9 (by decide); have z10 := lv_neT (a := 10) q10 (by decide); have z11 := lv_neT (a := 11) q11 (by decide); have z12 := lv_neT (a := 12) q12 (by decide); have z13 := lv_neT (a := 13) q13 (by decide); have z14 := lv_neT (a := 14) q14 (by decide); have z15 := lv_neT (a := 15) q15 (by decide); have z16 := lv_neT (a := 16) q16 (by decide); have z17 := lv_neT (a := 17) q17 (by decide); have z18 := lv_neT (a := 18) q18 (by decide); have z19 := lv_neT (a := 19) q19 (by decide); have z20 := lv_neT (a := 20) q20 (by decide); have z21 := lv_neT (a := 21) q21 (by decide); have z22 := lv_neT (a := 22) q22 (by decide); have z23 := lv_neT (a := 23) q23 (by decide); have z24 := lv_neT (a := 24) q24 (by decide); have z25 := lv_neT (a := 25) q25 (by decide); omega) (by decide) ?_
      refine g_wid (cc + 109) (ss + 690) (by omega) (by omega) ?_
      exact hk (μ, σ, v) h0
