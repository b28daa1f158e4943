section ENDS
theorem ops_all (a0 : Nat) : lOps (Rep a0) a0 := ⟨op_day_ok, op_date_ok, op_later_ok, op_feed_ok, op_rules_ok, op_fault_ok, op_thing_ok, op_fact_ok, op_event_ok, op_copy_ok, op_copies_ok, op_store_ok, op_hold_ok, op_lift_ok, op_wish_ok, op_span_ok, op_lost_ok, op_why_ok, op_places_ok, op_misplaced_ok, op_planned_ok, op_differ_ok, op_bites_ok, op_days_ok, op_entry_ok, op_count_ok⟩
variable {p : Program} {l : Launch} {e : Env} {s : State} {m : MethodId} {below : List Frame} {meth : Method} {c : Code} {b L : Nat} {xs : Nat → Int32}
def zA0 (s : State) (q : Nat) : Prop := s.heap.size ≤ q
def zZ (D : va_G) (cA : Nat → ClassId) (E : State → Heap → Prop) (cJ : ClassId) (n0 : Nat) : Lp := (D, cA, E, cJ, n0, n0 + 14, n0 + 51, fun k => n0 + 14 + mOf k)
theorem zZ_ok {D : va_G} {cA : Nat → ClassId} {E : State → Heap → Prop} {cJ : ClassId} (hE : mEok E (zA0 s)) : lOk (zZ D cA E cJ s.heap.size) := by
  refine ⟨hE, by show s.heap.size ≤ s.heap.size + 14; omega, by show s.heap.size ≤ s.heap.size + 51; omega, fun h => ?_, fun k hk => ?_, fun i j hi hj h => mOf_inj hi hj ?_⟩
  · rcases h with h | ⟨k, hk, h⟩
    · have h1 : s.heap.size + 51 = s.heap.size + 14 := h
      omega
    · have h1 : s.heap.size + 51 = s.heap.size + 14 + mOf k := h
      have := mOf_in hk
      omega
  · have := mOf_in hk
    exact ⟨by show s.heap.size ≤ s.heap.size + 14 + mOf k; omega, fun z => by have h1 : s.heap.size + 14 + mOf k = s.heap.size + 14 := z; omega⟩
  · have h1 : s.heap.size + 14 + mOf i = s.heap.size + 14 + mOf j := h
    omega
/-- behind both constructors and the cell out: the law's world -/
theorem LW_start {D : va_G} {cA : Nat → ClassId} {E : State → Heap → Prop} {cJ : ClassId} {μ0 μ9 μ10 : Km} {H H1 : Heap} (hE : mEok E (zA0 s)) (hKJ : va_K D vwCl [(cJ, .long)] s) (h9 : Bld μ0 s.heap.size kd9 ln9 14 vi9 rf9 μ9) (h10 : Bld μ9 (s.heap.size + 14) kd10 ln10 37 vi10 rf10 μ10) (hw : KW D cA E (zA0 s) μ10 s H) (hz : H1.size = H.size + 1) (oq : ∀ q, q < H.size → H1[q]? = H[q]?) (hat : H1[H.size]? = some (arrV cJ 1 (fun _ => .long 0))) : LW (zZ D cA E cJ s.heap.size) (kCut μ10 (s.heap.size + 14) (s.heap.size + 52), sM0, 0) s H1 := by
  obtain ⟨w1, w2, w3, w4, w5⟩ := hw
  have hH : H.size = s.heap.size + 51 := by rw [← w3, h10.1]
  have kp : ∀ a, kK μ10 a ≠ 0 → va_at D vwCl (a, kE cA μ10 a) H1 := fun a ha => (w5 a ha).2.kept (oq a (w5 a ha).2.lt)
  have k10 : kK μ10 (s.heap.size + 14) = 10 := h10.k (i := 0) (by omega) rfl
  refine ⟨w1, ⟨hE.2 _ _ _ (fun a ha _ => oq a ha) w2, hKJ, ⟨fun _ => 0, rfl, ?_⟩, ?_, fun k hk => ?_⟩, ?_, fun q hq => ⟨?_, fun h => ?_, fun h => ?_⟩, fun a ha => ?_⟩
  · show H1[s.heap.size + 51]? = some (vp_cell cJ (1, .inr (.inl (fun _ => 0))))
    rw [vp_cell_l, ← hH]
    exact hat
  · have t := kp (s.heap.size + 14) (by rw [k10]; decide)
    rw [kE_obj (ci := 9) k10 (by omega), M_cells h10] at t
    exact t
  · have t := kp (s.heap.size + 14 + mOf k) (M_arr (cA := cA) h10 hk).1
    rw [(M_arr (cA := cA) h10 hk).2] at t
    exact t
  · show s.heap.size + 52 = H1.size
    omega
  · show s.heap.size ≤ q
    omega
  · rcases h with h | ⟨k, hk, h⟩
    · have h1 : q = s.heap.size + 14 := h
      omega
    · have h1 : q = s.heap.size + 14 + mOf k := h
      have := mOf_in hk
      omega
  · have h1 : q = s.heap.size + 51 := h
    omega
  · have ha1 : (if s.heap.size + 14 ≤ a then 0 else kK μ10 a) ≠ 0 := ha
    by_cases c : s.heap.size + 14 ≤ a
    · rw [if_pos c] at ha1
      exact absurd rfl ha1
    · rw [if_neg c] at ha1
      refine ⟨⟨(w5 a ha1).1, fun h => ?_, fun h => ?_⟩, ?_⟩
      · rcases h with h | ⟨k, hk, h⟩
        · have h1 : a = s.heap.size + 14 := h
          omega
        · have h1 : a = s.heap.size + 14 + mOf k := h
          omega
      · have h1 : a = s.heap.size + 51 := h
        omega
      · rw [kCut_E μ10 (by omega)]
        exact kp a ha1
theorem lCx_start {D : va_G} {cA : Nat → ClassId} {cJ : ClassId} {adM adS adV : Nat → Nat} {adD : Nat} (hl : l.stackTraces = false) (hL : L ≤ 3072) : lCx l (kKe adM adS) (zZ D cA (kEo (zA0 s) adS adV adD b L xs) cJ s.heap.size) adS adV adM adD b L xs := by
  have hz : lOk (zZ D cA (kEo (zA0 s) adS adV adD b L xs) cJ s.heap.size) := zZ_ok kEo_ok
  exact ⟨hz, kKe_w adM adS, fun σ v => xSt_of (A := zA0 s) hl (fun q h => h.1) (fun U H h => h.1), fun σ v => sSt_of (A := zA0 s) (fun q h => h.1) (fun σ' U H h => h.2.1.1), fun μ v => sSt_of (A := zA0 s) (fun q h => lAM_A hz h) (fun σ' U H h => h.2.1.1), fun U h => h.2.2, fun U H h => h.2.2.2, hL⟩
set_option maxHeartbeats 4000000 in
set_option maxRecDepth 100000 in
/-- THE LAW, from its entry -/
theorem whole_start (hl : l.stackTraces = false) (hL : L ≤ 3072) (C0 : lw_At p s m meth c b L xs) : W p l e room_1 s m #[Value.ref b] below meth c s.heap [] 0 0 (lw_Z below #[Value.ref b] s) (entryFrame m ([Value.ref b] : List Value).toArray 7) := by
  obtain ⟨hx, hb, hr, hml, hown, hts, hX, hbl, hlocks, hgv⟩ := C0
  have htb : ∀ w ∈ tb, w.before #[Value.ref b] s = true := fun w h => hts w (tb_lw h)
  have h : gOk p s m #[Value.ref b] meth c cL_law 7 "KeepForgetLaw" tb := ⟨⟨hx, hb, hml, hown, htb⟩, hlocks⟩
  have hs : ∀ w ∈ nwF, w.before #[Value.ref b] s = true := flat_of_before _ hgv
  obtain ⟨D, cA, cJ, hK, hKJ⟩ := K_start hts
  obtain ⟨adM, adS, adV, adD, hKs, hE0⟩ := E_start (A := zA0 s) hs hts hX hbl (fun a ha z => by unfold zA0 at z; omega)
  have hE : mEok (kEo (zA0 s) adS adV adD b L xs) (zA0 s) := kEo_ok
  have hkw := kKe_w adM adS
  have hXs : xSt l (kKe adM adS) (kEo (zA0 s) adS adV adD b L xs) (zA0 s) adM adD := xSt_of hl (fun _ h => h) (fun U H h => h)
  have hSt : sSt (kKe adM adS) (zA0 s) (KW D cA (kEo (zA0 s) adS adV adD b L xs) (zA0 s)) adS adV := sSt_of (fun _ h => h) (fun σ U H h => h.2.1)
  obtain ⟨μ0, hμ0, hμz⟩ : ∃ μ0 : Km, kn μ0 = s.heap.size ∧ ∀ q, kK μ0 q = 0 := ⟨(fun _ => 0, fun _ _ => 0, fun _ _ => none, fun _ => 0, s.heap.size), rfl, fun _ => rfl⟩
  have hw0 : KW D cA (kEo (zA0 s) adS adV adD b L xs) (zA0 s) μ0 s s.heap := ⟨hK, hE0, hμ0, fun q hq => hq, fun a ha => absurd (hμz a) ha⟩
  obtain ⟨μ9, k9, b9⟩ := K9_new (μ := μ0) hμ0
  obtain ⟨μ10, k10, b10⟩ := K10_new (μ := μ9) b9.1
  have walk : gS p l e room_1 s m #[Value.ref b] below meth c 7 (zA0 s) (KW D cA (kEo (zA0 s) adS adV adD b L xs) (zA0 s)) (fun _ : Unit => lw_Z below #[Value.ref b] s) 0 0 (some ()) μ0 0 [(0, .ref b)] [] := by
    refine k_new h hE (RX9, TX9, 13) 8 (by decide) rfl hinX9 tyX9 tyX9_ok (by decide) tW_23 tW_24 tW_1 (Nat.le_of_ble_eq_true rfl) (Nat.le_of_ble_eq_true rfl) dL_law_0 ?_
    rw [hμ0]
    refine g_dup h dL_law_3 rfl ?_
    rw [show (some () : Option Unit) = (K9_init (kNew μ0 9 0) s.heap.size).bind (fun _ => some ()) by rw [k9]; rfl]
    refine g_callIv h (KW_mv hE) hkw hKs [] (c_X9_init hE hkw hXs hSt (kNew μ0 9 0) s.heap.size) yk_X9_init tW_25 ⟨(Nat.le_of_ble_eq_true rfl), (Nat.le_of_ble_eq_true rfl)⟩ rfl rfl (Nat.le_of_ble_eq_true rfl) dL_law_4 ⟨(Nat.le_of_ble_eq_true rfl), (Nat.le_of_ble_eq_true rfl)⟩ (fun s9 e9 => ?_)
    have e9' : s9 = μ9 := Option.some.inj (e9.symm.trans k9)
    subst e9'
    refine g_astore_n h [(1, .ref s.heap.size), (0, .ref b)] dL_law_7 (by decide) rfl ?_
    refine k_new h hE (RX10, TX10, 60) 9 (by decide) rfl hinX10 tyX10 tyX10_ok (by decide) tW_900 tW_901 tW_5 (Nat.le_of_ble_eq_true rfl) (Nat.le_of_ble_eq_true rfl) dL_law_8 ?_
    rw [b9.1]
    refine g_dup h dL_law_11 rfl ?_
    rw [show (some () : Option Unit) = (K10_init (kNew s9 10 0) (s.heap.size + 14)).bind (fun _ => some ()) by rw [k10]; rfl]
    refine g_callIv h (KW_mv hE) hkw hKs [] (c_X10_init hE hkw hXs hSt (kNew s9 10 0) (s.heap.size + 14)) yk_X10_init tW_902 ⟨(Nat.le_of_ble_eq_true rfl), (Nat.le_of_ble_eq_true rfl)⟩ rfl rfl (Nat.le_of_ble_eq_true rfl) dL_law_12 ⟨(Nat.le_of_ble_eq_true rfl), (Nat.le_of_ble_eq_true rfl)⟩ (fun s10 e10 => ?_)
    have e10' : s10 = μ10 := Option.some.inj (e10.symm.trans k10)
    subst e10'
    refine g_astore_n h [(2, .ref (s.heap.size + 14)), (1, .ref s.heap.size), (0, .ref b)] dL_law_15 (by decide) rfl ?_
    refine g_iconst (v := 1) h dL_law_16 (by decide) ?_
    intro X hX9 H locs ls hw hS hlv
    have hH : H.size = s.heap.size + 51 := by rw [← hw.2.2.1, b10.1]
    refine va_newaK (atype := .long) (h := s.heap.size + 51) h.1.1 h.1.2.1 (htb _ tW_1352) rfl dL_law_17 rfl (by decide) (N := 1) (by decide) (by decide) (Nat.le_of_ble_eq_true rfl) (Nat.le_of_ble_eq_true rfl) hH fun H1 c9 f1 z1 o1 hAr hNm => ?_
    have hcc : c9 = cJ := Option.some.inj (hNm.symm.trans (hKJ.2 0 _ rfl).2)
    subst hcc
    have hLW := LW_start hE hKJ b9 b10 hw (by omega) (fun q hq => o1 q (by omega)) (by rw [hH]; exact f1)
    have hC := lCx_start (D := D) (cA := cA) (cJ := c9) (s := s) (b := b) (xs := xs) (adM := adM) (adS := adS) (adV := adV) (adD := adD) hl hL
    have hRep : Rep s.heap.size (kCut s10 (s.heap.size + 14) (s.heap.size + 52)) sM0 := Rep_0 b9 b10 (by show s.heap.size + 14 ≤ s.heap.size + 52; omega) (fun q => rfl) rfl rfl rfl
    have hS1 : va_S (lA (zZ D cA (kEo (zA0 s) adS adV adD b L xs) c9 s.heap.size)) s.heap H1 locs := ⟨by have := hS.1; omega, fun x h1 h2 => (o1 x (by omega)).trans (hS.2.1 x h1 h2), hS.2.2⟩
    have rest : gS p l e room_1 s m #[Value.ref b] below meth c 7 (lA (zZ D cA (kEo (zA0 s) adS adV adD b L xs) c9 s.heap.size)) (LW (zZ D cA (kEo (zA0 s) adS adV adD b L xs) c9 s.heap.size)) (fun _ : Unit => lw_Z below #[Value.ref b] s) 60000 20000 (some ()) (kCut s10 (s.heap.size + 14) (s.heap.size + 52), sM0, 0) 19 [(2, .ref (s.heap.size + 14)), (1, .ref s.heap.size), (0, .ref b)] [.ref (s.heap.size + 51)] := by
      refine g_astore_n h [(3, .ref (s.heap.size + 51)), (2, .ref (s.heap.size + 14)), (1, .ref s.heap.size), (0, .ref b)] dL_law_19 (by decide) rfl ?_
      refine g_iconst (v := 0) h dL_law_20 (by decide) ?_
      refine g_istore h [(4, .int 0), (3, .ref (s.heap.size + 51)), (2, .ref (s.heap.size + 14)), (1, .ref s.heap.size), (0, .ref b)] dL_law_21 (by decide) rfl ?_
      refine g_lv [(0, .ref b), (1, .ref s.heap.size), (2, .ref (s.heap.size + 14)), (3, .ref (s.heap.size + 51)), (4, .int (nI 0))] [4, 3, 2, 1, 0] rfl ?_
      exact lw_loop h hKs hC (Rep_ok s.heap.size) (ops_all s.heap.size) hr rfl 513 0 60000 20000 (by omega) (by omega) (by omega) (by omega) _ _ _ hRep
    exact W.widen (by decide) (by decide) (rest () rfl H1 locs ls hLW hS1 hlv)
  have hlv := lv_entry ([.ref b]) (n := 7) (Nat.le_of_ble_eq_true rfl)
  rw [lg_entry_eq]
  generalize (lg_sl ([.ref b]) ++ List.replicate (7 - (lg_sl ([.ref b])).length) Slot.unset).toArray = ls at hlv ⊢
  exact walk () rfl s.heap [] ls hw0 va_S.rf hlv
end ENDS
