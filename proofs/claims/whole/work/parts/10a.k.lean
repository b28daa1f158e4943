def rm_X0_monthStart : Room := { frames := 0, cells := 0, slots := 0, locals := 0 }
theorem yk_X0_monthStart : yOkS yX0_monthStart cX0_monthStart 5 (some .int) 1 := ⟨tW_311, tW_10, tW_310, by decide, by decide, by decide +kernel⟩
def K0_monthStart_B30 (s0 : Km) (t0 : Int32) (l1 : Int32) (l2 : Int32) : Option (Int32) :=
  bnd ((((t0 + (3 : Int32)) / (4 : Int32)) - ((t0 + (99 : Int32)) / (100 : Int32))) + ((t0 + (399 : Int32)) / (400 : Int32))) (fun v4_54 =>
  if okI l2 12 = true then
  some (((l1 * (365 : Int32)) + (dB.getD l2.toNatClampNeg 0)) + v4_54)
  else none)
set_option maxHeartbeats 4000000 in
set_option maxRecDepth 100000 in
theorem K0_monthStart_B30_w {p : Program} {l : Launch} {e : Env} {s : State} {m : MethodId} {args : Array Value} {below : List Frame} {meth : Method} {c : Code} {A : Nat → Prop} {Ke : State → Prop} {D : va_G} {cA : Nat → ClassId} {E : State → Heap → Prop} {adS adV adM : Nat → Nat} {adD : Nat} (h : gOk p s m args meth c cX0_monthStart 5 RX0 tb) (hKs : Ke s) (hE : mEok E A) (hkw : gKw Ke) (hX : xSt l Ke E A adM adD) (hSt : sSt Ke A (KW D cA E A) adS adV) (s0 : Km) (t0 : Int32) (l1 : Int32) (l2 : Int32) (hr : meth.sig.returnType = some .int)  : gS p l e rm_X0_monthStart s m args below meth c 5 A (KW D cA E A) (fun X => MQ below (gPi (KW D cA E A) A (X, s0)) args s rm_X0_monthStart.cells rm_X0_monthStart.slots A) (0) (0) (K0_monthStart_B30 s0 t0 l1 l2) s0 30 [(1, .int l1), (2, .int l2)] [.int t0] := by
  unfold K0_monthStart_B30
  refine g_istore_n h [(3, .int t0), (1, .int l1), (2, .int l2)] dX0_monthStart_30 (by decide) rfl ?_
  refine g_iload_n h 0 dX0_monthStart_31 rfl ?_
  refine g_iconst (v := 3) h dX0_monthStart_32 (by decide) ?_
  refine g_iadd h dX0_monthStart_33 ?_
  refine g_iconst (v := 4) h dX0_monthStart_34 (by decide) ?_
  refine g_idiv h dX0_monthStart_35 (by decide) ?_
  refine g_iload_n h 0 dX0_monthStart_36 rfl ?_
  refine g_bipush (v := 99) h dX0_monthStart_37 (by decide) ?_
  refine g_iadd h dX0_monthStart_39 ?_
  refine g_bipush (v := 100) h dX0_monthStart_40 (by decide) ?_
  refine g_idiv h dX0_monthStart_42 (by decide) ?_
  refine g_isub h dX0_monthStart_43 ?_
  refine g_iload_n h 0 dX0_monthStart_44 rfl ?_
  refine g_sipush (v := 399) h dX0_monthStart_45 (by decide) ?_
  refine g_iadd h dX0_monthStart_48 ?_
  refine g_sipush (v := 400) h dX0_monthStart_49 (by decide) ?_
  refine g_idiv h dX0_monthStart_52 (by decide) ?_
  refine g_iadd h dX0_monthStart_53 ?_
  refine g_bndi (fun v4_54 => ?_)
  refine g_istore h [(4, .int v4_54), (3, .int t0), (1, .int l1), (2, .int l2)] dX0_monthStart_54 (by decide) rfl ?_
  refine g_iload_n h 2 dX0_monthStart_56 rfl ?_
  refine g_sipush (v := 365) h dX0_monthStart_57 (by decide) ?_
  refine g_imul h dX0_monthStart_60 ?_
  refine g_gets h (fun H hw => (hX.2.2 _ _ hw.2.1).2.2.1) tW_312 dX0_monthStart_61 ?_
  refine g_iload_n h 3 dX0_monthStart_64 rfl ?_
  refine g_guard (fun hz65 => ?_)
  refine g_ti h (fun H hw => (hX.2.2 _ _ hw.2.1).2.2.2) (okI_in hz65) dX0_monthStart_65 ?_
  refine g_iadd h dX0_monthStart_66 ?_
  refine g_iload h 0 dX0_monthStart_67 rfl ?_
  refine g_iadd h dX0_monthStart_69 ?_
  exact g_iretp h (KW_mv hE) hr (Nat.le_of_ble_eq_true rfl) (Nat.le_of_ble_eq_true rfl) dX0_monthStart_70
def K0_monthStart_B17 (s0 : Km) (t0 : Int32) (l1 : Int32) : Option (Int32) :=
  if (2 : Int32) ≤ t0 then
    K0_monthStart_B30 s0 (l1 + (1 : Int32)) l1 t0
  else
    K0_monthStart_B30 s0 l1 l1 t0
set_option maxHeartbeats 4000000 in
set_option maxRecDepth 100000 in
theorem K0_monthStart_B17_w {p : Program} {l : Launch} {e : Env} {s : State} {m : MethodId} {args : Array Value} {below : List Frame} {meth : Method} {c : Code} {A : Nat → Prop} {Ke : State → Prop} {D : va_G} {cA : Nat → ClassId} {E : State → Heap → Prop} {adS adV adM : Nat → Nat} {adD : Nat} (h : gOk p s m args meth c cX0_monthStart 5 RX0 tb) (hKs : Ke s) (hE : mEok E A) (hkw : gKw Ke) (hX : xSt l Ke E A adM adD) (hSt : sSt Ke A (KW D cA E A) adS adV) (s0 : Km) (t0 : Int32) (l1 : Int32) (hr : meth.sig.returnType = some .int)  : gS p l e rm_X0_monthStart s m args below meth c 5 A (KW D cA E A) (fun X => MQ below (gPi (KW D cA E A) A (X, s0)) args s rm_X0_monthStart.cells rm_X0_monthStart.slots A) (0) (0) (K0_monthStart_B17 s0 t0 l1) s0 17 [(1, .int l1)] [.int t0] := by
  unfold K0_monthStart_B17
  refine g_istore_n h [(2, .int t0), (1, .int l1)] dX0_monthStart_17 (by decide) rfl ?_
  refine g_iload_n h 0 dX0_monthStart_18 rfl ?_
  refine g_iconst (v := 2) h dX0_monthStart_19 (by decide) ?_
  refine g_icmp_ge h 27 dX0_monthStart_20 (by decide) ?_ ?_
  · refine g_iload_n h 1 dX0_monthStart_27 rfl ?_
    refine g_iconst (v := 1) h dX0_monthStart_28 (by decide) ?_
    refine g_iadd h dX0_monthStart_29 ?_
    refine g_lv [(1, .int l1), (2, .int t0)] [1, 0] rfl ?_
    exact K0_monthStart_B30_w h hKs hE hkw hX hSt s0 (l1 + (1 : Int32)) l1 t0 hr
  · refine g_iload_n h 1 dX0_monthStart_23 rfl ?_
    refine g_goto h 30 dX0_monthStart_24 (by decide) ?_
    refine g_lv [(1, .int l1), (2, .int t0)] [1, 0] rfl ?_
    exact K0_monthStart_B30_w h hKs hE hkw hX hSt s0 l1 l1 t0 hr
def K0_monthStart (s0 : Km) (a0 : Int32) : Option (Int32) :=
  bnd (a0 / (12 : Int32)) (fun v1_4 =>
  if 0 ≤ a0 then
    K0_monthStart_B17 s0 (a0 - a0 / (12 : Int32) * (12 : Int32)) v1_4
  else
    K0_monthStart_B17 s0 (0 : Int32) v1_4)
set_option maxHeartbeats 4000000 in
set_option maxRecDepth 100000 in
theorem c_X0_monthStart {l : Launch} {A : Nat → Prop} {Ke : State → Prop} {D : va_G} {cA : Nat → ClassId} {E : State → Heap → Prop} {adS adV adM : Nat → Nat} {adD : Nat} (hE : mEok E A) (hkw : gKw Ke) (hX : xSt l Ke E A adM adD) (hSt : sSt Ke A (KW D cA E A) adS adV) (s0 : Km) (a0 : Int32) : gCp l yX0_monthStart cX0_monthStart 5 (some .int) rm_X0_monthStart Ke (KW D cA E A) A [.int a0] s0 (K0_monthStart s0 a0) := by
  refine g_metp (by decide) (by simp [lg_sl, Value.category]) ?_
  intro p e s m below meth c h hr hKs
  refine g_lv [(0, .int a0)] [0] rfl ?_
  unfold K0_monthStart
  refine g_iload_n h 0 dX0_monthStart_0 rfl ?_
  refine g_bipush (v := 12) h dX0_monthStart_1 (by decide) ?_
  refine g_idiv h dX0_monthStart_3 (by decide) ?_
  refine g_bndi (fun v1_4 => ?_)
  refine g_istore_n h [(1, .int v1_4), (0, .int a0)] dX0_monthStart_4 (by decide) rfl ?_
  refine g_iload_n h 1 dX0_monthStart_5 rfl ?_
  refine g_if_ge h 13 dX0_monthStart_6 (by decide) ?_ ?_
  · refine g_iload_n h 1 dX0_monthStart_13 rfl ?_
    refine g_bipush (v := 12) h dX0_monthStart_14 (by decide) ?_
    refine g_irem h dX0_monthStart_16 (by decide) ?_
    refine g_lv [(1, .int v1_4)] [0] rfl ?_
    exact K0_monthStart_B17_w h hKs hE hkw hX hSt s0 (a0 - a0 / (12 : Int32) * (12 : Int32)) v1_4 hr
  · refine g_iconst (v := 0) h dX0_monthStart_9 (by decide) ?_
    refine g_goto h 17 dX0_monthStart_10 (by decide) ?_
    refine g_lv [(1, .int v1_4)] [0] rfl ?_
    exact K0_monthStart_B17_w h hKs hE hkw hX hSt s0 (0 : Int32) v1_4 hr
def rm_X0_monthLength : Room := { frames := 1, cells := 0, slots := 0, locals := 24 }
theorem yk_X0_monthLength : yOkS yX0_monthLength cX0_monthLength 1 (some .int) 1 := ⟨tW_308, tW_10, tW_307, by decide, by decide, by decide +kernel⟩
def K0_monthLength (s0 : Km) (a0 : Int32) : Option (Int32) :=
  (K0_monthStart s0 (a0 + (1 : Int32))).bind (fun r_3 =>
  (K0_monthStart s0 a0).bind (fun r_7 =>
  some (r_3 - r_7)))
set_option maxHeartbeats 4000000 in
set_option maxRecDepth 100000 in
theorem c_X0_monthLength {l : Launch} {A : Nat → Prop} {Ke : State → Prop} {D : va_G} {cA : Nat → ClassId} {E : State → Heap → Prop} {adS adV adM : Nat → Nat} {adD : Nat} (hE : mEok E A) (hkw : gKw Ke) (hX : xSt l Ke E A adM adD) (hSt : sSt Ke A (KW D cA E A) adS adV) (s0 : Km) (a0 : Int32) : gCp l yX0_monthLength cX0_monthLength 1 (some .int) rm_X0_monthLength Ke (KW D cA E A) A [.int a0] s0 (K0_monthLength s0 a0) := by
  refine g_metp (by decide) (by simp [lg_sl, Value.category]) ?_
  intro p e s m below meth c h hr hKs
  refine g_lv [(0, .int a0)] [0] rfl ?_
  unfold K0_monthLength
  refine g_iload_n h 0 dX0_monthLength_0 rfl ?_
  refine g_iconst (v := 1) h dX0_monthLength_1 (by decide) ?_
  refine g_iadd h dX0_monthLength_2 ?_
  refine g_callS0p h (KW_mv hE) hkw hKs [.int (a0 + (1 : Int32))] (c_X0_monthStart hE hkw hX hSt s0 (a0 + (1 : Int32))) yk_X0_monthStart tW_309 ⟨(Nat.le_of_ble_eq_true rfl), (Nat.le_of_ble_eq_true rfl)⟩ rfl rfl rfl rfl (Nat.le_of_ble_eq_true rfl) dX0_monthLength_3 ⟨(Nat.le_of_ble_eq_true rfl), (Nat.le_of_ble_eq_true rfl)⟩ (fun r_3 => ?_)
  refine g_iload_n h 0 dX0_monthLength_6 rfl ?_
  refine g_callS0p h (KW_mv hE) hkw hKs [.int a0] (c_X0_monthStart hE hkw hX hSt s0 a0) yk_X0_monthStart tW_309 ⟨(Nat.le_of_ble_eq_true rfl), (Nat.le_of_ble_eq_true rfl)⟩ rfl rfl rfl rfl (Nat.le_of_ble_eq_true rfl) dX0_monthLength_7 ⟨(Nat.le_of_ble_eq_true rfl), (Nat.le_of_ble_eq_true rfl)⟩ (fun r_7 => ?_)
  refine g_isub h dX0_monthLength_10 ?_
  exact g_iretp h (KW_mv hE) hr (Nat.le_of_ble_eq_true rfl) (Nat.le_of_ble_eq_true rfl) dX0_monthLength_11
def rm_X0_monthOf : Room := { frames := 1, cells := 0, slots := 0, locals := 24 }
theorem yk_X0_monthOf : yOkS yX0_monthOf cX0_monthOf 3 (some .int) 1 := ⟨tW_331, tW_10, tW_330, by decide, by decide, by decide +kernel⟩
def K0_monthOf_L20 {Rt : Type} (s0 : Km) (a0 : Int32) (k44 : Int32 → Option Rt) : Nat → Int32 → Int32 → Option Rt
  | 0, _, _ => none
  | F + 1, l1, l2 =>
  if (3 : Int32) ≤ l2 then
      k44 l1
    else
      (K0_monthStart s0 (l1 + (1 : Int32))).bind (fun r_28 =>
      if a0 < r_28 then
        k44 l1
      else
        K0_monthOf_L20 s0 a0 k44 F (l1 + 1) (l2 + 1))
set_option maxHeartbeats 4000000 in
set_option maxRecDepth 100000 in
theorem K0_monthOf_L20_w {p : Program} {l : Launch} {e : Env} {s : State} {m : MethodId} {args : Array Value} {below : List Frame} {meth : Method} {c : Code} {A : Nat → Prop} {Ke : State → Prop} {D : va_G} {cA : Nat → ClassId} {E : State → Heap → Prop} {adS adV adM : Nat → Nat} {adD : Nat} (h : gOk p s m args meth c cX0_monthOf 3 RX0 tb) (hKs : Ke s) (hE : mEok E A) (hkw : gKw Ke) (hX : xSt l Ke E A adM adD) (hSt : sSt Ke A (KW D cA E A) adS adV) {Rt : Type} {QX : Rt → State → Prop} (s0 : Km) (a0 : Int32) {k44 : Int32 → Option Rt} (hk44 : ∀ (l1 : Int32), gS p l e rm_X0_monthOf s m args below meth c 3 A (KW D cA E A) QX (0) (0) (k44 l1) s0 44 [(1, .int l1)] []) : ∀ (F : Nat), ∀ (l1 : Int32) (l2 : Int32), gS p l e rm_X0_monthOf s m args below meth c 3 A (KW D cA E A) QX (0) (0) (K0_monthOf_L20 s0 a0 k44 F l1 l2) s0 20 [(0, .int a0), (1, .int l1), (2, .int l2)] [] := by
  intro F
  induction F with
  | zero =>
    intro l1 l2
    unfold K0_monthOf_L20
    exact g_none
  | succ F ih =>
    intro l1 l2
    unfold K0_monthOf_L20
    refine g_iload_n h 2 dX0_monthOf_20 rfl ?_
    refine g_iconst (v := 3) h dX0_monthOf_21 (by decide) ?_
    refine g_icmp_ge h 44 dX0_monthOf_22 (by decide) ?_ ?_
    · refine g_lv [(1, .int l1)] [1] rfl ?_
      exact hk44 l1
    · refine g_iload_n h 1 dX0_monthOf_25 rfl ?_
      refine g_iconst (v := 1) h dX0_monthOf_26 (by decide) ?_
      refine g_iadd h dX0_monthOf_27 ?_
      refine g_callS0p h (KW_mv hE) hkw hKs [.int (l1 + (1 : Int32))] (c_X0_monthStart hE hkw hX hSt s0 (l1 + (1 : Int32))) yk_X0_monthStart tW_309 ⟨(Nat.le_of_ble_eq_true rfl), (Nat.le_of_ble_eq_true rfl)⟩ rfl rfl rfl rfl (Nat.le_of_ble_eq_true rfl) dX0_monthOf_28 ⟨(Nat.le_of_ble_eq_true rfl), (Nat.le_of_ble_eq_true rfl)⟩ (fun r_28 => ?_)
      refine g_iload_n h 0 dX0_monthOf_31 rfl ?_
      refine g_icmp_gt h 44 dX0_monthOf_32 (by decide) ?_ ?_
      · refine g_lv [(1, .int l1)] [1] rfl ?_
        exact hk44 l1
      · refine g_iinc (v := l1 + 1) (i := 1) h [(1, .int (l1 + 1)), (0, .int a0), (2, .int l2)] dX0_monthOf_35 rfl rfl (by decide) rfl ?_
        refine g_iinc (v := l2 + 1) (i := 2) h [(2, .int (l2 + 1)), (1, .int (l1 + 1)), (0, .int a0)] dX0_monthOf_38 rfl rfl (by decide) rfl ?_
        refine g_goto h 20 dX0_monthOf_41 (by decide) ?_
        refine g_lv [(0, .int a0), (1, .int (l1 + 1)), (2, .int (l2 + 1))] [2, 1, 0] rfl ?_
        exact ih (l1 + 1) (l2 + 1)
def K0_monthOf_B44 (s0 : Km) (l1 : Int32) : Option (Int32) :=
  some l1
set_option maxHeartbeats 4000000 in
set_option maxRecDepth 100000 in
theorem K0_monthOf_B44_w {p : Program} {l : Launch} {e : Env} {s : State} {m : MethodId} {args : Array Value} {below : List Frame} {meth : Method} {c : Code} {A : Nat → Prop} {Ke : State → Prop} {D : va_G} {cA : Nat → ClassId} {E : State → Heap → Prop} {adS adV adM : Nat → Nat} {adD : Nat} (h : gOk p s m args meth c cX0_monthOf 3 RX0 tb) (hKs : Ke s) (hE : mEok E A) (hkw : gKw Ke) (hX : xSt l Ke E A adM adD) (hSt : sSt Ke A (KW D cA E A) adS adV) (s0 : Km) (l1 : Int32) (hr : meth.sig.returnType = some .int)  : gS p l e rm_X0_monthOf s m args below meth c 3 A (KW D cA E A) (fun X => MQ below (gPi (KW D cA E A) A (X, s0)) args s rm_X0_monthOf.cells rm_X0_monthOf.slots A) (0) (0) (K0_monthOf_B44 s0 l1) s0 44 [(1, .int l1)] [] := by
  unfold K0_monthOf_B44
  refine g_iload_n h 0 dX0_monthOf_44 rfl ?_
  exact g_iretp h (KW_mv hE) hr (Nat.le_of_ble_eq_true rfl) (Nat.le_of_ble_eq_true rfl) dX0_monthOf_45
def K0_monthOf (s0 : Km) (a0 : Int32) : Option (Int32) :=
  bnd ((if (0 : Int32) < (((a0.toInt64 * (4800 : Int64)) / (146097 : Int64)).toInt32) - (1 : Int32) then (((a0.toInt64 * (4800 : Int64)) / (146097 : Int64)).toInt32) - (1 : Int32) else (0 : Int32))) (fun v1_17 =>
  K0_monthOf_L20 s0 a0 (fun v1_44 => K0_monthOf_B44 s0 v1_44) gF v1_17 (0 : Int32))
set_option maxHeartbeats 4000000 in
set_option maxRecDepth 100000 in
theorem c_X0_monthOf {l : Launch} {A : Nat → Prop} {Ke : State → Prop} {D : va_G} {cA : Nat → ClassId} {E : State → Heap → Prop} {adS adV adM : Nat → Nat} {adD : Nat} (hE : mEok E A) (hkw : gKw Ke) (hX : xSt l Ke E A adM adD) (hSt : sSt Ke A (KW D cA E A) adS adV) (s0 : Km) (a0 : Int32) : gCp l yX0_monthOf cX0_monthOf 3 (some .int) rm_X0_monthOf Ke (KW D cA E A) A [.int a0] s0 (K0_monthOf s0 a0) := by
  refine g_metp (by decide) (by simp [lg_sl, Value.category]) ?_
  intro p e s m below meth c h hr hKs
  refine g_lv [(0, .int a0)] [0] rfl ?_
  unfold K0_monthOf
  refine g_iconst (v := 0) h dX0_monthOf_0 (by decide) ?_
  refine g_iload_n h 0 dX0_monthOf_1 rfl ?_
  refine g_i2l h dX0_monthOf_2 ?_
  refine g_ldc2 (v := 4800) h tW_332 dX0_monthOf_3 ?_
  refine g_lmul h dX0_monthOf_6 ?_
  refine g_ldc2 (v := 146097) h tW_333 dX0_monthOf_7 ?_
  refine g_ldiv h dX0_monthOf_10 (by decide) ?_
  refine g_l2i h dX0_monthOf_11 ?_
  refine g_iconst (v := 1) h dX0_monthOf_12 (by decide) ?_
  refine g_isub h dX0_monthOf_13 ?_
  refine g_mmax h tW_334 tW_335 tW_11 tW_336 (Nat.le_of_ble_eq_true rfl) (Nat.le_of_ble_eq_true rfl) (Nat.zero_le _) (Nat.zero_le _) dX0_monthOf_14 ?_
  refine g_bndi (fun v1_17 => ?_)
  refine g_istore_n h [(1, .int v1_17), (0, .int a0)] dX0_monthOf_17 (by decide) rfl ?_
  refine g_iconst (v := 0) h dX0_monthOf_18 (by decide) ?_
  refine g_istore_n h [(2, .int (0 : Int32)), (1, .int v1_17), (0, .int a0)] dX0_monthOf_19 (by decide) rfl ?_
  refine g_lv [(0, .int a0), (1, .int v1_17), (2, .int (0 : Int32))] [2, 1, 0] rfl ?_
  refine K0_monthOf_L20_w h hKs hE hkw hX hSt s0 a0 (fun v1_44 => ?_) gF v1_17 (0 : Int32)
  · exact K0_monthOf_B44_w h hKs hE hkw hX hSt s0 v1_44 hr
def rm_X0_monthsAfter : Room := { frames := 2, cells := 0, slots := 0, locals := 46 }
theorem yk_X0_monthsAfter : yOkS yX0_monthsAfter cX0_monthsAfter 5 (some .int) 2 := ⟨tW_349, tW_10, tW_348, by decide, by decide, by decide +kernel⟩
def K0_monthsAfter_B47 (s0 : Km) (t0 : Int32) : Option (Int32) :=
  some t0
set_option maxHeartbeats 4000000 in
set_option maxRecDepth 100000 in
theorem K0_monthsAfter_B47_w {p : Program} {l : Launch} {e : Env} {s : State} {m : MethodId} {args : Array Value} {below : List Frame} {meth : Method} {c : Code} {A : Nat → Prop} {Ke : State → Prop} {D : va_G} {cA : Nat → ClassId} {E : State → Heap → Prop} {adS adV adM : Nat → Nat} {adD : Nat} (h : gOk p s m args meth c cX0_monthsAfter 5 RX0 tb) (hKs : Ke s) (hE : mEok E A) (hkw : gKw Ke) (hX : xSt l Ke E A adM adD) (hSt : sSt Ke A (KW D cA E A) adS adV) (s0 : Km) (t0 : Int32) (hr : meth.sig.returnType = some .int)  : gS p l e rm_X0_monthsAfter s m args below meth c 5 A (KW D cA E A) (fun X => MQ below (gPi (KW D cA E A) A (X, s0)) args s rm_X0_monthsAfter.cells rm_X0_monthsAfter.slots A) (0) (0) (K0_monthsAfter_B47 s0 t0) s0 47 [] [.int t0] := by
  unfold K0_monthsAfter_B47
  exact g_iretp h (KW_mv hE) hr (Nat.le_of_ble_eq_true rfl) (Nat.le_of_ble_eq_true rfl) dX0_monthsAfter_47
def K0_monthsAfter (s0 : Km) (a0 : Int32) (a1 : Int32) : Option (Int32) :=
  (K0_monthOf s0 a0).bind (fun r_1 =>
  (K0_monthStart s0 r_1).bind (fun r_7 =>
  bnd (a0 - r_7) (fun v3_11 =>
  (K0_monthStart s0 (r_1 + a1)).bind (fun r_15 =>
  (K0_monthLength s0 (r_1 + a1)).bind (fun r_22 =>
  bnd (r_15 + ((if r_22 - (1 : Int32) < v3_11 then r_22 - (1 : Int32) else v3_11))) (fun v4_31 =>
  if v4_31 ≤ (200000 : Int32) then
    K0_monthsAfter_B47 s0 v4_31
  else
    K0_monthsAfter_B47 s0 (999999 : Int32)))))))
set_option maxHeartbeats 4000000 in
set_option maxRecDepth 100000 in
theorem c_X0_monthsAfter {l : Launch} {A : Nat → Prop} {Ke : State → Prop} {D : va_G} {cA : Nat → ClassId} {E : State → Heap → Prop} {adS adV adM : Nat → Nat} {adD : Nat} (hE : mEok E A) (hkw : gKw Ke) (hX : xSt l Ke E A adM adD) (hSt : sSt Ke A (KW D cA E A) adS adV) (s0 : Km) (a0 : Int32) (a1 : Int32) : gCp l yX0_monthsAfter cX0_monthsAfter 5 (some .int) rm_X0_monthsAfter Ke (KW D cA E A) A [.int a0, .int a1] s0 (K0_monthsAfter s0 a0 a1) := by
  refine g_metp (by decide) (by simp [lg_sl, Value.category]) ?_
  intro p e s m below meth c h hr hKs
  refine g_lv [(0, .int a0), (1, .int a1)] [0, 1] rfl ?_
  unfold K0_monthsAfter
  refine g_iload_n h 0 dX0_monthsAfter_0 rfl ?_
  refine g_callS0p h (KW_mv hE) hkw hKs [.int a0] (c_X0_monthOf hE hkw hX hSt s0 a0) yk_X0_monthOf tW_350 ⟨(Nat.le_of_ble_eq_true rfl), (Nat.le_of_ble_eq_true rfl)⟩ rfl rfl rfl rfl (Nat.le_of_ble_eq_true rfl) dX0_monthsAfter_1 ⟨(Nat.le_of_ble_eq_true rfl), (Nat.le_of_ble_eq_true rfl)⟩ (fun r_1 => ?_)
  refine g_istore_n h [(2, .int r_1), (0, .int a0), (1, .int a1)] dX0_monthsAfter_4 (by decide) rfl ?_
  refine g_iload_n h 1 dX0_monthsAfter_5 rfl ?_
  refine g_iload_n h 0 dX0_monthsAfter_6 rfl ?_
  refine g_callS0p h (KW_mv hE) hkw hKs [.int r_1] (c_X0_monthStart hE hkw hX hSt s0 r_1) yk_X0_monthStart tW_309 ⟨(Nat.le_of_ble_eq_true rfl), (Nat.le_of_ble_eq_true rfl)⟩ rfl rfl rfl rfl (Nat.le_of_ble_eq_true rfl) dX0_monthsAfter_7 ⟨(Nat.le_of_ble_eq_true rfl), (Nat.le_of_ble_eq_true rfl)⟩ (fun r_7 => ?_)
  refine g_isub h dX0_monthsAfter_10 ?_
  refine g_bndi (fun v3_11 => ?_)
  refine g_istore_n h [(3, .int v3_11), (2, .int r_1), (0, .int a0), (1, .int a1)] dX0_monthsAfter_11 (by decide) rfl ?_
  refine g_iload_n h 1 dX0_monthsAfter_12 rfl ?_
  refine g_iload_n h 3 dX0_monthsAfter_13 rfl ?_
  refine g_iadd h dX0_monthsAfter_14 ?_
  refine g_callS0p h (KW_mv hE) hkw hKs [.int (r_1 + a1)] (c_X0_monthStart hE hkw hX hSt s0 (r_1 + a1)) yk_X0_monthStart tW_309 ⟨(Nat.le_of_ble_eq_true rfl), (Nat.le_of_ble_eq_true rfl)⟩ rfl rfl rfl rfl (Nat.le_of_ble_eq_true rfl) dX0_monthsAfter_15 ⟨(Nat.le_of_ble_eq_true rfl), (Nat.le_of_ble_eq_true rfl)⟩ (fun r_15 => ?_)
  refine g_iload_n h 0 dX0_monthsAfter_18 rfl ?_
  refine g_iload_n h 1 dX0_monthsAfter_19 rfl ?_
  refine g_iload_n h 3 dX0_monthsAfter_20 rfl ?_
  refine g_iadd h dX0_monthsAfter_21 ?_
  refine g_callS0p h (KW_mv hE) hkw hKs [.int (r_1 + a1)] (c_X0_monthLength hE hkw hX hSt s0 (r_1 + a1)) yk_X0_monthLength tW_351 ⟨(Nat.le_of_ble_eq_true rfl), (Nat.le_of_ble_eq_true rfl)⟩ rfl rfl rfl rfl (Nat.le_of_ble_eq_true rfl) dX0_monthsAfter_22 ⟨(Nat.le_of_ble_eq_true rfl), (Nat.le_of_ble_eq_true rfl)⟩ (fun r_22 => ?_)
  refine g_iconst (v := 1) h dX0_monthsAfter_25 (by decide) ?_
  refine g_isub h dX0_monthsAfter_26 ?_
  refine g_mmin h tW_352 tW_353 tW_11 tW_354 (Nat.le_of_ble_eq_true rfl) (Nat.le_of_ble_eq_true rfl) (Nat.zero_le _) (Nat.zero_le _) dX0_monthsAfter_27 ?_
  refine g_iadd h dX0_monthsAfter_30 ?_
  refine g_bndi (fun v4_31 => ?_)
  refine g_istore h [(4, .int v4_31), (3, .int v3_11), (2, .int r_1), (0, .int a0), (1, .int a1)] dX0_monthsAfter_31 (by decide) rfl ?_
  refine g_iload h 0 dX0_monthsAfter_33 rfl ?_
  refine g_ldc (v := 200000) h tW_355 dX0_monthsAfter_35 ?_
  refine g_icmp_le h 45 dX0_monthsAfter_37 (by decide) ?_ ?_
  · refine g_iload h 0 dX0_monthsAfter_45 rfl ?_
    refine g_lv [] [] rfl ?_
    exact K0_monthsAfter_B47_w h hKs hE hkw hX hSt s0 v4_31 hr
  · refine g_ldc (v := 999999) h tW_356 dX0_monthsAfter_40 ?_
    refine g_goto h 47 dX0_monthsAfter_42 (by decide) ?_
    refine g_lv [] [] rfl ?_
    exact K0_monthsAfter_B47_w h hKs hE hkw hX hSt s0 (999999 : Int32) hr
def rm_X1_init : Room := { frames := 1, cells := 0, slots := 0, locals := 21 }
theorem yk_X1_init : yOkI yX1_init cX1_init 3 2 := ⟨tW_711, tW_21, tW_710, rfl, by decide, by decide, by decide +kernel⟩
def K1_init (s0 : Km) (a0 : Nat) (a1 : Nat) (a2 : Int32) : Option (Km) :=
  if kK s0 a0 = 1 then
  bnd (kSetR s0 a0 0 (some a1)) (fun s_6 =>
  bnd (kSetI s_6 a0 1 a2) (fun s_11 =>
  some s_11))
  else none
set_option maxHeartbeats 4000000 in
set_option maxRecDepth 100000 in
theorem c_X1_init {l : Launch} {A : Nat → Prop} {Ke : State → Prop} {D : va_G} {cA : Nat → ClassId} {E : State → Heap → Prop} {adS adV adM : Nat → Nat} {adD : Nat} (hE : mEok E A) (hkw : gKw Ke) (hX : xSt l Ke E A adM adD) (hSt : sSt Ke A (KW D cA E A) adS adV) (s0 : Km) (a0 : Nat) (a1 : Nat) (a2 : Int32) : gCv l yX1_init cX1_init 3 none rm_X1_init Ke (KW D cA E A) A [.ref a0, .ref a1, .int a2] s0 (K1_init s0 a0 a1 a2) := by
  refine g_metI (by decide) rfl (by simp [lg_sl, Value.category]) ?_
  intro p e s m below meth c h hr hin hKs
  refine g_lv [(0, .ref a0), (1, .ref a1), (2, .int a2)] [0, 1, 2] rfl ?_
  unfold K1_init
  refine g_aload_n h 0 dX1_init_0 rfl ?_
  refine g_objInit h tW_712 tW_29 tW_30 (Nat.le_of_ble_eq_true rfl) (Nat.le_of_ble_eq_true rfl) dX1_init_1 ?_
  refine g_aload_n h 0 dX1_init_4 rfl ?_
  refine g_aload_n h 1 dX1_init_5 rfl ?_
  refine k_kind (fun hk6_0 => ?_)
  refine k_putFr (x := (some a1)) h hE (RX1, TX1, 3) 0 (by decide) rfl hinX1 0 (by decide) rfl tyX1 tyX1_ok nmX1 rfl hin rfl tW_713 rfl rfl dX1_init_6 hk6_0 ?_
  refine g_bndE (fun s_6 hs_6 => ?_)
  refine g_aload_n h 0 dX1_init_9 rfl ?_
  refine g_iload_n h 2 dX1_init_10 rfl ?_
  refine k_putFi (x := a2) h hE (RX1, TX1, 3) 0 (by decide) rfl hinX1 1 (by decide) rfl tyX1 tyX1_ok nmX1 rfl hin rfl tW_715 rfl rfl dX1_init_11 (kKsR hs_6 hk6_0) ?_
  refine g_bndE (fun s_11 hs_11 => ?_)
  exact g_vret h (KW_mv hE) hr (Nat.le_of_ble_eq_true rfl) (Nat.le_of_ble_eq_true rfl) dX1_init_14
def rm_X2_init : Room := { frames := 1, cells := 1, slots := 2000, locals := 21 }
theorem yk_X2_init : yOkI yX2_init cX2_init 1 0 := ⟨tW_58, tW_3, tW_57, rfl, by decide, by decide, by decide +kernel⟩
def K2_init (s0 : Km) (a0 : Nat) : Option (Km) :=
  bnd2 (kn s0) (kNew s0 12 2000) (fun q_8 s_8 =>
  if kK s_8 a0 = 2 then
  bnd (kSetR s_8 a0 0 (some q_8)) (fun s_10 =>
  some s_10)
  else none)
set_option maxHeartbeats 4000000 in
set_option maxRecDepth 100000 in
theorem c_X2_init {l : Launch} {A : Nat → Prop} {Ke : State → Prop} {D : va_G} {cA : Nat → ClassId} {E : State → Heap → Prop} {adS adV adM : Nat → Nat} {adD : Nat} (hE : mEok E A) (hkw : gKw Ke) (hX : xSt l Ke E A adM adD) (hSt : sSt Ke A (KW D cA E A) adS adV) (s0 : Km) (a0 : Nat) : gCv l yX2_init cX2_init 1 none rm_X2_init Ke (KW D cA E A) A [.ref a0] s0 (K2_init s0 a0) := by
  refine g_metI (by decide) rfl (by simp [lg_sl, Value.category]) ?_
  intro p e s m below meth c h hr hin hKs
  refine g_lv [(0, .ref a0)] [0] rfl ?_
  unfold K2_init
  refine g_aload_n h 0 dX2_init_0 rfl ?_
  refine g_objInit h tW_59 tW_29 tW_30 (Nat.le_of_ble_eq_true rfl) (Nat.le_of_ble_eq_true rfl) dX2_init_1 ?_
  refine g_aload_n h 0 dX2_init_4 rfl ?_
  refine g_sipush (v := 2000) h dX2_init_5 (by decide) ?_
  refine k_newi h hE 12 1 (by decide) (by decide) .int rfl rfl rfl (fun _ _ q9 => q9) tW_73 2000 (by decide) (by decide) (by decide) (Nat.le_of_ble_eq_true rfl) (Nat.le_of_ble_eq_true rfl) dX2_init_8 ?_
  refine g_bnd2 (fun q_8 s_8 hq_8 hs_8 => ?_)
  refine k_kind (fun hk10_0 => ?_)
  refine k_putFr (x := (some q_8)) h hE (RX2, TX2, 3) 1 (by decide) rfl hinX2 0 (by decide) rfl tyX2 tyX2_ok nmX2 rfl hin rfl tW_60 rfl rfl dX2_init_10 hk10_0 ?_
  refine g_bndE (fun s_10 hs_10 => ?_)
  exact g_vret h (KW_mv hE) hr (Nat.le_of_ble_eq_true rfl) (Nat.le_of_ble_eq_true rfl) dX2_init_13
def rm_X2_add : Room := { frames := 0, cells := 0, slots := 0, locals := 0 }
theorem yk_X2_add : yOkV yX2_add cX2_add 7 (none) RX2 5 := ⟨tW_875, tW_3, tW_873, tW_874, by decide, by decide, by decide +kernel⟩
def K2_add_B101 (s0 : Km) (t0 : Int32) (t1 : Int32) (t2 : Nat) : Option (Km) :=
  if kK s0 t2 = 2 then
  bnd (kSetI s0 t2 2 (t1 + t0)) (fun s_102 =>
  some s_102)
  else none
set_option maxHeartbeats 4000000 in
set_option maxRecDepth 100000 in
theorem K2_add_B101_w {p : Program} {l : Launch} {e : Env} {s : State} {m : MethodId} {args : Array Value} {below : List Frame} {meth : Method} {c : Code} {A : Nat → Prop} {Ke : State → Prop} {D : va_G} {cA : Nat → ClassId} {E : State → Heap → Prop} {adS adV adM : Nat → Nat} {adD : Nat} (h : gOk p s m args meth c cX2_add 7 RX2 tb) (hKs : Ke s) (hE : mEok E A) (hkw : gKw Ke) (hX : xSt l Ke E A adM adD) (hSt : sSt Ke A (KW D cA E A) adS adV) (s0 : Km) (t0 : Int32) (t1 : Int32) (t2 : Nat) (hr : meth.sig.returnType = none)  : gS p l e rm_X2_add s m args below meth c 7 A (KW D cA E A) (fun X => MQ below (gPv (KW D cA E A) A X) args s rm_X2_add.cells rm_X2_add.slots A) (0) (0) (K2_add_B101 s0 t0 t1 t2) s0 101 [] [.int t0, .int t1, .ref t2] := by
  unfold K2_add_B101
  refine g_iadd h dX2_add_101 ?_
  refine k_kind (fun hk102_0 => ?_)
  refine k_puti (x := (t1 + t0)) h hE (RX2, TX2, 3) 1 (by decide) rfl hinX2 2 (by decide) rfl tyX2 tyX2_ok nmX2 rfl tW_64 rfl rfl dX2_add_102 hk102_0 ?_
  refine g_bndE (fun s_102 hs_102 => ?_)
  exact g_vret h (KW_mv hE) hr (Nat.le_of_ble_eq_true rfl) (Nat.le_of_ble_eq_true rfl) dX2_add_105
def K2_add_B71 (s0 : Km) (a0 : Nat) (a4 : Int32) (a5 : Nat) : Option (Km) :=
  if kK s0 a0 = 2 then
  bnd (kSetI s0 a0 1 ((kI s0 a0 1) + (1 : Int32))) (fun s_78 =>
  if kK s_78 a5 = 6 then
  if a4 ≤ kI s_78 a5 1 then
    K2_add_B101 s_78 (0 : Int32) (kI s_78 a0 2) a0
  else
    K2_add_B101 s_78 (1 : Int32) (kI s_78 a0 2) a0
  else none)
  else none
set_option maxHeartbeats 4000000 in
set_option maxRecDepth 100000 in
theorem K2_add_B71_w {p : Program} {l : Launch} {e : Env} {s : State} {m : MethodId} {args : Array Value} {below : List Frame} {meth : Method} {c : Code} {A : Nat → Prop} {Ke : State → Prop} {D : va_G} {cA : Nat → ClassId} {E : State → Heap → Prop} {adS adV adM : Nat → Nat} {adD : Nat} (h : gOk p s m args meth c cX2_add 7 RX2 tb) (hKs : Ke s) (hE : mEok E A) (hkw : gKw Ke) (hX : xSt l Ke E A adM adD) (hSt : sSt Ke A (KW D cA E A) adS adV) (s0 : Km) (a0 : Nat) (a4 : Int32) (a5 : Nat) (hr : meth.sig.returnType = none)  : gS p l e rm_X2_add s m args below meth c 7 A (KW D cA E A) (fun X => MQ below (gPv (KW D cA E A) A X) args s rm_X2_add.cells rm_X2_add.slots A) (0) (0) (K2_add_B71 s0 a0 a4 a5) s0 71 [(0, .ref a0), (4, .int a4), (5, .ref a5)] [] := by
  unfold K2_add_B71
  refine g_aload_n h 0 dX2_add_71 rfl ?_
  refine g_dup h dX2_add_72 rfl ?_
  refine k_kind (fun hk73_0 => ?_)
  refine k_geti h (RX2, TX2, 3) 1 (by decide) rfl hinX2 1 (by decide) rfl tW_62 dX2_add_73 hk73_0 ?_
  refine g_iconst (v := 1) h dX2_add_76 (by decide) ?_
  refine g_iadd h dX2_add_77 ?_
  refine k_puti (x := ((kI s0 a0 1) + (1 : Int32))) h hE (RX2, TX2, 3) 1 (by decide) rfl hinX2 1 (by decide) rfl tyX2 tyX2_ok nmX2 rfl tW_62 rfl rfl dX2_add_78 hk73_0 ?_
  refine g_bndE (fun s_78 hs_78 => ?_)
  refine g_aload_n h 0 dX2_add_81 rfl ?_
  refine g_dup h dX2_add_82 rfl ?_
  refine k_geti h (RX2, TX2, 3) 1 (by decide) rfl hinX2 2 (by decide) rfl tW_64 dX2_add_83 (kKsI hs_78 hk73_0) ?_
  refine g_iload h 1 dX2_add_86 rfl ?_
  refine g_aload h 2 dX2_add_88 rfl ?_
  refine k_kind (fun hk90_0 => ?_)
  refine k_geti h (RX6, TX6, 8) 5 (by decide) rfl hinX6 1 (by decide) rfl tW_83 dX2_add_90 hk90_0 ?_
  refine g_icmp_le h 100 dX2_add_93 (by decide) ?_ ?_
  · refine g_iconst (v := 0) h dX2_add_100 (by decide) ?_
    refine g_lv [] [] rfl ?_
    exact K2_add_B101_w h hKs hE hkw hX hSt s_78 (0 : Int32) (kI s_78 a0 2) a0 hr
  · refine g_iconst (v := 1) h dX2_add_96 (by decide) ?_
    refine g_goto h 101 dX2_add_97 (by decide) ?_
    refine g_lv [] [] rfl ?_
    exact K2_add_B101_w h hKs hE hkw hX hSt s_78 (1 : Int32) (kI s_78 a0 2) a0 hr
def K2_add (s0 : Km) (a0 : Nat) (a1 : Int32) (a2 : Int32) (a3 : Int32) (a4 : Int32) (a5 : Nat) : Option (Km) :=
  if kK s0 a0 = 2 then
  if (400 : Int32) ≤ kI s0 a0 1 then
    K2_add_B71 s0 a0 a4 a5
  else
    bnd ((kI s0 a0 1) * (5 : Int32)) (fun v6_16 =>
    (kR s0 a0 0).bind (fun b19 =>
    if kK s0 b19 = 12 then
    if okI v6_16 (kN s0 b19) = true then
    bnd (kSetI s0 b19 v6_16.toNatClampNeg a1) (fun s_25 =>
    (kR s_25 a0 0).bind (fun b27 =>
    if kK s_25 b27 = 12 then
    if okI (v6_16 + (1 : Int32)) (kN s_25 b27) = true then
    bnd (kSetI s_25 b27 (v6_16 + (1 : Int32)).toNatClampNeg a2) (fun s_35 =>
    (kR s_35 a0 0).bind (fun b37 =>
    if kK s_35 b37 = 12 then
    if okI (v6_16 + (2 : Int32)) (kN s_35 b37) = true then
    bnd (kSetI s_35 b37 (v6_16 + (2 : Int32)).toNatClampNeg a3) (fun s_45 =>
    (kR s_45 a0 0).bind (fun b47 =>
    if kK s_45 b47 = 12 then
    if okI (v6_16 + (3 : Int32)) (kN s_45 b47) = true then
    bnd (kSetI s_45 b47 (v6_16 + (3 : Int32)).toNatClampNeg a4) (fun s_56 =>
    (kR s_56 a0 0).bind (fun b58 =>
    if kK s_56 a5 = 6 then
    if kK s_56 b58 = 12 then
    if okI (v6_16 + (4 : Int32)) (kN s_56 b58) = true then
    bnd (kSetI s_56 b58 (v6_16 + (4 : Int32)).toNatClampNeg (kI s_56 a5 3)) (fun s_70 =>
    K2_add_B71 s_70 a0 a4 a5)
    else none
    else none
    else none))
    else none
    else none))
    else none
    else none))
    else none
    else none))
    else none
    else none))
  else none
set_option maxHeartbeats 4000000 in
set_option maxRecDepth 100000 in
theorem c_X2_add {l : Launch} {A : Nat → Prop} {Ke : State → Prop} {D : va_G} {cA : Nat → ClassId} {E : State → Heap → Prop} {adS adV adM : Nat → Nat} {adD : Nat} (hE : mEok E A) (hkw : gKw Ke) (hX : xSt l Ke E A adM adD) (hSt : sSt Ke A (KW D cA E A) adS adV) (s0 : Km) (a0 : Nat) (a1 : Int32) (a2 : Int32) (a3 : Int32) (a4 : Int32) (a5 : Nat) : gCv l yX2_add cX2_add 7 (none) rm_X2_add Ke (KW D cA E A) A [.ref a0, .int a1, .int a2, .int a3, .int a4, .ref a5] s0 (K2_add s0 a0 a1 a2 a3 a4 a5) := by
  refine g_metv (by decide) (by simp [lg_sl, Value.category]) ?_
  intro p e s m below meth c h hr hKs
  refine g_lv [(0, .ref a0), (1, .int a1), (2, .int a2), (3, .int a3), (4, .int a4), (5, .ref a5)] [0, 1, 2, 3, 4, 5] rfl ?_
  unfold K2_add
  refine g_aload_n h 0 dX2_add_0 rfl ?_
  refine k_kind (fun hk1_0 => ?_)
  refine k_geti h (RX2, TX2, 3) 1 (by decide) rfl hinX2 1 (by decide) rfl tW_62 dX2_add_1 hk1_0 ?_
  refine g_sipush (v := 400) h dX2_add_4 (by decide) ?_
  refine g_icmp_ge h 71 dX2_add_7 (by decide) ?_ ?_
  · refine g_lv [(0, .ref a0), (4, .int a4), (5, .ref a5)] [0, 4, 5] rfl ?_
    exact K2_add_B71_w h hKs hE hkw hX hSt s0 a0 a4 a5 hr
  · refine g_aload_n h 0 dX2_add_10 rfl ?_
    refine k_geti h (RX2, TX2, 3) 1 (by decide) rfl hinX2 1 (by decide) rfl tW_62 dX2_add_11 hk1_0 ?_
    refine g_iconst (v := 5) h dX2_add_14 (by decide) ?_
    refine g_imul h dX2_add_15 ?_
    refine g_bndi (fun v6_16 => ?_)
    refine g_istore h [(6, .int v6_16), (0, .ref a0), (1, .int a1), (2, .int a2), (3, .int a3), (4, .int a4), (5, .ref a5)] dX2_add_16 (by decide) rfl ?_
    refine g_aload_n h 1 dX2_add_18 rfl ?_
    refine k_getr h (RX2, TX2, 3) 1 (by decide) rfl hinX2 0 (by decide) rfl tW_60 dX2_add_19 hk1_0 ?_
    refine g_ob (fun b19 => ?_)
    refine g_iload h 0 dX2_add_22 rfl ?_
    refine g_iload_n h 2 dX2_add_24 rfl ?_
    refine k_kind (fun hk25_0 => ?_)
    refine k_iast h hE dX2_add_25 hk25_0 ?_
    refine g_bndE (fun s_25 hs_25 => ?_)
    refine g_aload_n h 1 dX2_add_26 rfl ?_
    refine k_getr h (RX2, TX2, 3) 1 (by decide) rfl hinX2 0 (by decide) rfl tW_60 dX2_add_27 (kKsI hs_25 hk1_0) ?_
    refine g_ob (fun b27 => ?_)
    refine g_iload h 0 dX2_add_30 rfl ?_
    refine g_iconst (v := 1) h dX2_add_32 (by decide) ?_
    refine g_iadd h dX2_add_33 ?_
    refine g_iload_n h 3 dX2_add_34 rfl ?_
    refine k_kind (fun hk35_0 => ?_)
    refine k_iast h hE dX2_add_35 hk35_0 ?_
    refine g_bndE (fun s_35 hs_35 => ?_)
    refine g_aload_n h 1 dX2_add_36 rfl ?_
    refine k_getr h (RX2, TX2, 3) 1 (by decide) rfl hinX2 0 (by decide) rfl tW_60 dX2_add_37 (kKsI hs_35 (kKsI hs_25 hk1_0)) ?_
    refine g_ob (fun b37 => ?_)
    refine g_iload h 0 dX2_add_40 rfl ?_
    refine g_iconst (v := 2) h dX2_add_42 (by decide) ?_
    refine g_iadd h dX2_add_43 ?_
    refine g_iload_n h 4 dX2_add_44 rfl ?_
    refine k_kind (fun hk45_0 => ?_)
    refine k_iast h hE dX2_add_45 hk45_0 ?_
    refine g_bndE (fun s_45 hs_45 => ?_)
    refine g_aload_n h 1 dX2_add_46 rfl ?_
    refine k_getr h (RX2, TX2, 3) 1 (by decide) rfl hinX2 0 (by decide) rfl tW_60 dX2_add_47 (kKsI hs_45 (kKsI hs_35 (kKsI hs_25 hk1_0))) ?_
    refine g_ob (fun b47 => ?_)
    refine g_iload h 0 dX2_add_50 rfl ?_
    refine g_iconst (v := 3) h dX2_add_52 (by decide) ?_
    refine g_iadd h dX2_add_53 ?_
    refine g_iload h 5 dX2_add_54 rfl ?_
    refine k_kind (fun hk56_0 => ?_)
    refine k_iast h hE dX2_add_56 hk56_0 ?_
    refine g_bndE (fun s_56 hs_56 => ?_)
    refine g_aload_n h 1 dX2_add_57 rfl ?_
    refine k_getr h (RX2, TX2, 3) 1 (by decide) rfl hinX2 0 (by decide) rfl tW_60 dX2_add_58 (kKsI hs_56 (kKsI hs_45 (kKsI hs_35 (kKsI hs_25 hk1_0)))) ?_
    refine g_ob (fun b58 => ?_)
    refine g_iload h 0 dX2_add_61 rfl ?_
    refine g_iconst (v := 4) h dX2_add_63 (by decide) ?_
    refine g_iadd h dX2_add_64 ?_
    refine g_aload h 6 dX2_add_65 rfl ?_
    refine k_kind (fun hk67_0 => ?_)
    refine k_geti h (RX6, TX6, 8) 5 (by decide) rfl hinX6 3 (by decide) rfl tW_88 dX2_add_67 hk67_0 ?_
    refine k_kind (fun hk70_0 => ?_)
    refine k_iast h hE dX2_add_70 hk70_0 ?_
    refine g_bndE (fun s_70 hs_70 => ?_)
    refine g_lv [(0, .ref a0), (4, .int a4), (5, .ref a5)] [1, 5, 6] rfl ?_
    exact K2_add_B71_w h hKs hE hkw hX hSt s_70 a0 a4 a5 hr
def rm_X3_init : Room := { frames := 1, cells := 3, slots := 12, locals := 21 }
theorem yk_X3_init : yOkI yX3_init cX3_init 2 1 := ⟨tW_514, tW_18, tW_513, rfl, by decide, by decide, by decide +kernel⟩
def K3_init (s0 : Km) (a0 : Nat) (a1 : Int32) : Option (Km) :=
  if kK s0 a0 = 3 then
  bnd (kSetI s0 a0 0 a1) (fun s_6 =>
  bnd2 (kn s_6) (kNew s_6 12 4) (fun q_11 s_11 =>
  if kK s_11 a0 = 3 then
  bnd (kSetR s_11 a0 9 (some q_11)) (fun s_13 =>
  bnd2 (kn s_13) (kNew s_13 13 4) (fun q_18 s_18 =>
  if kK s_18 a0 = 3 then
  bnd (kSetR s_18 a0 10 (some q_18)) (fun s_20 =>
  bnd2 (kn s_20) (kNew s_20 12 4) (fun q_25 s_25 =>
  if kK s_25 a0 = 3 then
  bnd (kSetR s_25 a0 11 (some q_25)) (fun s_27 =>
  some s_27)
  else none))
  else none))
  else none))
  else none
set_option maxHeartbeats 4000000 in
set_option maxRecDepth 100000 in
theorem c_X3_init {l : Launch} {A : Nat → Prop} {Ke : State → Prop} {D : va_G} {cA : Nat → ClassId} {E : State → Heap → Prop} {adS adV adM : Nat → Nat} {adD : Nat} (hE : mEok E A) (hkw : gKw Ke) (hX : xSt l Ke E A adM adD) (hSt : sSt Ke A (KW D cA E A) adS adV) (s0 : Km) (a0 : Nat) (a1 : Int32) : gCv l yX3_init cX3_init 2 none rm_X3_init Ke (KW D cA E A) A [.ref a0, .int a1] s0 (K3_init s0 a0 a1) := by
  refine g_metI (by decide) rfl (by simp [lg_sl, Value.category]) ?_
  intro p e s m below meth c h hr hin hKs
  refine g_lv [(0, .ref a0), (1, .int a1)] [0, 1] rfl ?_
  unfold K3_init
  refine g_aload_n h 0 dX3_init_0 rfl ?_
  refine g_objInit h tW_515 tW_29 tW_30 (Nat.le_of_ble_eq_true rfl) (Nat.le_of_ble_eq_true rfl) dX3_init_1 ?_
  refine g_aload_n h 0 dX3_init_4 rfl ?_
  refine g_iload_n h 1 dX3_init_5 rfl ?_
  refine k_kind (fun hk6_0 => ?_)
  refine k_putFi (x := a1) h hE (RX3, TX3, 12) 2 (by decide) rfl hinX3 0 (by decide) rfl tyX3 tyX3_ok nmX3 rfl hin rfl tW_516 rfl rfl dX3_init_6 hk6_0 ?_
  refine g_bndE (fun s_6 hs_6 => ?_)
  refine g_aload_n h 0 dX3_init_9 rfl ?_
  refine g_iconst (v := 4) h dX3_init_10 (by decide) ?_
  refine k_newi h hE 12 1 (by decide) (by decide) .int rfl rfl rfl (fun _ _ q9 => q9) tW_73 4 (by decide) (by decide) (by decide) (Nat.le_of_ble_eq_true rfl) (Nat.le_of_ble_eq_true rfl) dX3_init_11 ?_
  refine g_bnd2 (fun q_11 s_11 hq_11 hs_11 => ?_)
  refine k_kind (fun hk13_0 => ?_)
  refine k_putFr (x := (some q_11)) h hE (RX3, TX3, 12) 2 (by decide) rfl hinX3 9 (by decide) rfl tyX3 tyX3_ok nmX3 rfl hin rfl tW_535 rfl rfl dX3_init_13 hk13_0 ?_
  refine g_bndE (fun s_13 hs_13 => ?_)
  refine g_aload_n h 0 dX3_init_16 rfl ?_
  refine g_iconst (v := 4) h dX3_init_17 (by decide) ?_
  refine k_newi h hE 13 2 (by decide) (by decide) .boolean rfl rfl rfl (fun _ _ q9 => q9) tW_566 4 (by decide) (by decide) (by decide) (Nat.le_of_ble_eq_true rfl) (Nat.le_of_ble_eq_true rfl) dX3_init_18 ?_
  refine g_bnd2 (fun q_18 s_18 hq_18 hs_18 => ?_)
  refine k_kind (fun hk20_0 => ?_)
  refine k_putFr (x := (some q_18)) h hE (RX3, TX3, 12) 2 (by decide) rfl hinX3 10 (by decide) rfl tyX3 tyX3_ok nmX3 rfl hin rfl tW_537 rfl rfl dX3_init_20 hk20_0 ?_
  refine g_bndE (fun s_20 hs_20 => ?_)
  refine g_aload_n h 0 dX3_init_23 rfl ?_
  refine g_iconst (v := 4) h dX3_init_24 (by decide) ?_
  refine k_newi h hE 12 1 (by decide) (by decide) .int rfl rfl rfl (fun _ _ q9 => q9) tW_73 4 (by decide) (by decide) (by decide) (Nat.le_of_ble_eq_true rfl) (Nat.le_of_ble_eq_true rfl) dX3_init_25 ?_
  refine g_bnd2 (fun q_25 s_25 hq_25 hs_25 => ?_)
  refine k_kind (fun hk27_0 => ?_)
  refine k_putFr (x := (some q_25)) h hE (RX3, TX3, 12) 2 (by decide) rfl hinX3 11 (by decide) rfl tyX3 tyX3_ok nmX3 rfl hin rfl tW_539 rfl rfl dX3_init_27 hk27_0 ?_
  refine g_bndE (fun s_27 hs_27 => ?_)
  exact g_vret h (KW_mv hE) hr (Nat.le_of_ble_eq_true rfl) (Nat.le_of_ble_eq_true rfl) dX3_init_30
def rm_X3_isFor : Room := { frames := 0, cells := 0, slots := 0, locals := 0 }
theorem yk_X3_isFor : yOkV yX3_isFor cX3_isFor 5 (some .boolean) RX3 2 := ⟨tW_225, tW_18, tW_223, tW_224, by decide, by decide, by decide +kernel⟩
def K3_isFor_B25 (s0 : Km)  : Option (Int32) :=
  some (0 : Int32)
set_option maxHeartbeats 4000000 in
set_option maxRecDepth 100000 in
theorem K3_isFor_B25_w {p : Program} {l : Launch} {e : Env} {s : State} {m : MethodId} {args : Array Value} {below : List Frame} {meth : Method} {c : Code} {A : Nat → Prop} {Ke : State → Prop} {D : va_G} {cA : Nat → ClassId} {E : State → Heap → Prop} {adS adV adM : Nat → Nat} {adD : Nat} (h : gOk p s m args meth c cX3_isFor 5 RX3 tb) (hKs : Ke s) (hE : mEok E A) (hkw : gKw Ke) (hX : xSt l Ke E A adM adD) (hSt : sSt Ke A (KW D cA E A) adS adV) (s0 : Km)  (hr : meth.sig.returnType = some .boolean)  : gS p l e rm_X3_isFor s m args below meth c 5 A (KW D cA E A) (fun X => MQ below (gPi (KW D cA E A) A (X, s0)) args s rm_X3_isFor.cells rm_X3_isFor.slots A) (0) (0) (K3_isFor_B25 s0) s0 25 [] [] := by
  unfold K3_isFor_B25
  refine g_iconst (v := 0) h dX3_isFor_25 (by decide) ?_
  exact g_zretp h (KW_mv hE) hr (Nat.le_of_ble_eq_true rfl) (Nat.le_of_ble_eq_true rfl) (by decide) dX3_isFor_26
def K3_isFor_B91 {Rt : Type} (s0 : Km) (rec : Int32 → Option Rt) (k75 : Option Rt) (k89 : Option Rt) (k97 : Option Rt) (a0 : Nat) (a1 : Nat) (l3 : Int32) : Option (Rt) :=
  rec (l3 + 1)
set_option maxHeartbeats 4000000 in
set_option maxRecDepth 100000 in
theorem K3_isFor_B91_w {p : Program} {l : Launch} {e : Env} {s : State} {m : MethodId} {args : Array Value} {below : List Frame} {meth : Method} {c : Code} {A : Nat → Prop} {Ke : State → Prop} {D : va_G} {cA : Nat → ClassId} {E : State → Heap → Prop} {adS adV adM : Nat → Nat} {adD : Nat} (h : gOk p s m args meth c cX3_isFor 5 RX3 tb) (hKs : Ke s) (hE : mEok E A) (hkw : gKw Ke) (hX : xSt l Ke E A adM adD) (hSt : sSt Ke A (KW D cA E A) adS adV) {Rt : Type} {QX : Rt → State → Prop} {rec : Int32 → Option Rt} {k75 : Option Rt} {k89 : Option Rt} {k97 : Option Rt} (s0 : Km) (a0 : Nat) (a1 : Nat) (l3 : Int32) (hrec : ∀ (l3 : Int32), gS p l e rm_X3_isFor s m args below meth c 5 A (KW D cA E A) QX (0) (0) (rec l3) s0 29 [(0, .ref a0), (1, .ref a1), (3, .int l3)] []) (hk75 : gS p l e rm_X3_isFor s m args below meth c 5 A (KW D cA E A) QX (0) (0) (k75) s0 75 [] []) (hk89 : gS p l e rm_X3_isFor s m args below meth c 5 A (KW D cA E A) QX (0) (0) (k89) s0 89 [] []) (hk97 : gS p l e rm_X3_isFor s m args below meth c 5 A (KW D cA E A) QX (0) (0) (k97) s0 97 [] []) : gS p l e rm_X3_isFor s m args below meth c 5 A (KW D cA E A) QX (0) (0) (K3_isFor_B91 s0 rec k75 k89 k97 a0 a1 l3) s0 91 [(0, .ref a0), (1, .ref a1), (3, .int l3)] [] := by
  unfold K3_isFor_B91
  refine g_iinc (v := l3 + 1) (i := 2) h [(3, .int (l3 + 1)), (0, .ref a0), (1, .ref a1)] dX3_isFor_91 rfl rfl (by decide) rfl ?_
  refine g_goto h 29 dX3_isFor_94 (by decide) ?_
  refine g_lv [(0, .ref a0), (1, .ref a1), (3, .int (l3 + 1))] [1, 2, 0] rfl ?_
  exact hrec (l3 + 1)
def K3_isFor_L29 {Rt : Type} (s0 : Km) (a0 : Nat) (a1 : Nat) (k75 : Option Rt) (k89 : Option Rt) (k97 : Option Rt) : Nat → Int32 → Option Rt
  | 0, _ => none
  | F + 1, l3 =>
  if kK s0 a0 = 3 then
    if kI s0 a0 8 ≤ l3 then
      k97
    else
      if (4 : Int32) ≤ l3 then
        k97
      else
        if kK s0 a1 = 8 then
        (kR s0 a1 1).bind (fun b43 =>
        (kR s0 a0 9).bind (fun b47 =>
        if kK s0 b47 = 12 then
        if okI l3 (kN s0 b47) = true then
        if kK s0 b43 = 12 then
        if okI (kI s0 b47 l3.toNatClampNeg) (kN s0 b43) = true then
        bnd (kI s0 b43 (kI s0 b47 l3.toNatClampNeg).toNatClampNeg) (fun v4_53 =>
        (kR s0 a0 10).bind (fun b56 =>
        if kK s0 b56 = 13 then
        if okI l3 (kN s0 b56) = true then
        if kI s0 b56 l3.toNatClampNeg = 0 then
          (kR s0 a0 11).bind (fun b81 =>
          if kK s0 b81 = 12 then
          if okI l3 (kN s0 b81) = true then
          if v4_53 = kI s0 b81 l3.toNatClampNeg then
            K3_isFor_B91 s0 (K3_isFor_L29 s0 a0 a1 k75 k89 k97 F) k75 k89 k97 a0 a1 l3
          else
            k89
          else none
          else none)
        else
          (kR s0 a0 11).bind (fun b67 =>
          if kK s0 b67 = 12 then
          if okI l3 (kN s0 b67) = true then
          if v4_53 < kI s0 b67 l3.toNatClampNeg then
            K3_isFor_B91 s0 (K3_isFor_L29 s0 a0 a1 k75 k89 k97 F) k75 k89 k97 a0 a1 l3
          else
            k75
          else none
          else none)
        else none
        else none))
        else none
        else none
        else none
        else none))
        else none
    else none
set_option maxHeartbeats 4000000 in
set_option maxRecDepth 100000 in
theorem K3_isFor_L29_w {p : Program} {l : Launch} {e : Env} {s : State} {m : MethodId} {args : Array Value} {below : List Frame} {meth : Method} {c : Code} {A : Nat → Prop} {Ke : State → Prop} {D : va_G} {cA : Nat → ClassId} {E : State → Heap → Prop} {adS adV adM : Nat → Nat} {adD : Nat} (h : gOk p s m args meth c cX3_isFor 5 RX3 tb) (hKs : Ke s) (hE : mEok E A) (hkw : gKw Ke) (hX : xSt l Ke E A adM adD) (hSt : sSt Ke A (KW D cA E A) adS adV) {Rt : Type} {QX : Rt → State → Prop} (s0 : Km) (a0 : Nat) (a1 : Nat) {k75 : Option Rt} {k89 : Option Rt} {k97 : Option Rt} (hk75 : gS p l e rm_X3_isFor s m args below meth c 5 A (KW D cA E A) QX (0) (0) (k75) s0 75 [] []) (hk89 : gS p l e rm_X3_isFor s m args below meth c 5 A (KW D cA E A) QX (0) (0) (k89) s0 89 [] []) (hk97 : gS p l e rm_X3_isFor s m args below meth c 5 A (KW D cA E A) QX (0) (0) (k97) s0 97 [] []) : ∀ (F : Nat), ∀ (l3 : Int32), gS p l e rm_X3_isFor s m args below meth c 5 A (KW D cA E A) QX (0) (0) (K3_isFor_L29 s0 a0 a1 k75 k89 k97 F l3) s0 29 [(0, .ref a0), (1, .ref a1), (3, .int l3)] [] := by
  intro F
  induction F with
  | zero =>
    intro l3
    unfold K3_isFor_L29
    exact g_none
  | succ F ih =>
    intro l3
    unfold K3_isFor_L29
    refine g_iload_n h 2 dX3_isFor_29 rfl ?_
    refine g_aload_n h 0 dX3_isFor_30 rfl ?_
    refine k_kind (fun hk31_0 => ?_)
    refine k_geti h (RX3, TX3, 12) 2 (by decide) rfl hinX3 8 (by decide) rfl tW_533 dX3_isFor_31 hk31_0 ?_
    refine g_icmp_ge h 97 dX3_isFor_34 (by decide) ?_ ?_
    · refine g_lv [] [] rfl ?_
      exact hk97 
    · refine g_iload_n h 2 dX3_isFor_37 rfl ?_
      refine g_iconst (v := 4) h dX3_isFor_38 (by decide) ?_
      refine g_icmp_ge h 97 dX3_isFor_39 (by decide) ?_ ?_
      · refine g_lv [] [] rfl ?_
        exact hk97 
      · refine g_aload_n h 1 dX3_isFor_42 rfl ?_
        refine k_kind (fun hk43_0 => ?_)
        refine k_getr h (RX8, TX8, 6) 7 (by decide) rfl hinX8 1 (by decide) rfl tW_178 dX3_isFor_43 hk43_0 ?_
        refine g_ob (fun b43 => ?_)
        refine g_aload_n h 0 dX3_isFor_46 rfl ?_
        refine k_getr h (RX3, TX3, 12) 2 (by decide) rfl hinX3 9 (by decide) rfl tW_535 dX3_isFor_47 hk31_0 ?_
        refine g_ob (fun b47 => ?_)
        refine g_iload_n h 2 dX3_isFor_50 rfl ?_
        refine k_kind (fun hk51_0 => ?_)
        refine k_iald h dX3_isFor_51 hk51_0 ?_
        refine k_kind (fun hk52_0 => ?_)
        refine k_iald h dX3_isFor_52 hk52_0 ?_
        refine g_bndi (fun v4_53 => ?_)
        refine g_istore h [(4, .int v4_53), (0, .ref a0), (1, .ref a1), (3, .int l3)] dX3_isFor_53 (by decide) rfl ?_
        refine g_aload_n h 1 dX3_isFor_55 rfl ?_
        refine k_getr h (RX3, TX3, 12) 2 (by decide) rfl hinX3 10 (by decide) rfl tW_537 dX3_isFor_56 hk31_0 ?_
        refine g_ob (fun b56 => ?_)
        refine g_iload_n h 3 dX3_isFor_59 rfl ?_
        refine k_kind (fun hk60_0 => ?_)
        refine k_zald h dX3_isFor_60 hk60_0 ?_
        refine g_if_eq h 78 dX3_isFor_61 (by decide) ?_ ?_
        · refine g_iload h 0 dX3_isFor_78 rfl ?_
          refine g_aload_n h 1 dX3_isFor_80 rfl ?_
          refine k_getr h (RX3, TX3, 12) 2 (by decide) rfl hinX3 11 (by decide) rfl tW_539 dX3_isFor_81 hk31_0 ?_
          refine g_ob (fun b81 => ?_)
          refine g_iload_n h 3 dX3_isFor_84 rfl ?_
          refine k_kind (fun hk85_0 => ?_)
          refine k_iald h dX3_isFor_85 hk85_0 ?_
          refine g_icmp_eq h 91 dX3_isFor_86 (by decide) ?_ ?_
          · refine g_lv [(0, .ref a0), (1, .ref a1), (3, .int l3)] [1, 2, 3] rfl ?_
            exact K3_isFor_B91_w h hKs hE hkw hX hSt s0 a0 a1 l3 (ih) hk75 hk89 hk97
          · refine g_lv [] [] rfl ?_
            exact hk89 
        · refine g_iload h 0 dX3_isFor_64 rfl ?_
          refine g_aload_n h 1 dX3_isFor_66 rfl ?_
          refine k_getr h (RX3, TX3, 12) 2 (by decide) rfl hinX3 11 (by decide) rfl tW_539 dX3_isFor_67 hk31_0 ?_
          refine g_ob (fun b67 => ?_)
          refine g_iload_n h 3 dX3_isFor_70 rfl ?_
          refine k_kind (fun hk71_0 => ?_)
          refine k_iald h dX3_isFor_71 hk71_0 ?_
          refine g_icmp_lt h 91 dX3_isFor_72 (by decide) ?_ ?_
          · refine g_lv [(0, .ref a0), (1, .ref a1), (3, .int l3)] [1, 2, 3] rfl ?_
            exact K3_isFor_B91_w h hKs hE hkw hX hSt s0 a0 a1 l3 (ih) hk75 hk89 hk97
          · refine g_lv [] [] rfl ?_
            exact hk75 
def K3_isFor_B89 (s0 : Km)  : Option (Int32) :=
  some (0 : Int32)
set_option maxHeartbeats 4000000 in
set_option maxRecDepth 100000 in
theorem K3_isFor_B89_w {p : Program} {l : Launch} {e : Env} {s : State} {m : MethodId} {args : Array Value} {below : List Frame} {meth : Method} {c : Code} {A : Nat → Prop} {Ke : State → Prop} {D : va_G} {cA : Nat → ClassId} {E : State → Heap → Prop} {adS adV adM : Nat → Nat} {adD : Nat} (h : gOk p s m args meth c cX3_isFor 5 RX3 tb) (hKs : Ke s) (hE : mEok E A) (hkw : gKw Ke) (hX : xSt l Ke E A adM adD) (hSt : sSt Ke A (KW D cA E A) adS adV) (s0 : Km)  (hr : meth.sig.returnType = some .boolean)  : gS p l e rm_X3_isFor s m args below meth c 5 A (KW D cA E A) (fun X => MQ below (gPi (KW D cA E A) A (X, s0)) args s rm_X3_isFor.cells rm_X3_isFor.slots A) (0) (0) (K3_isFor_B89 s0) s0 89 [] [] := by
  unfold K3_isFor_B89
  refine g_iconst (v := 0) h dX3_isFor_89 (by decide) ?_
  exact g_zretp h (KW_mv hE) hr (Nat.le_of_ble_eq_true rfl) (Nat.le_of_ble_eq_true rfl) (by decide) dX3_isFor_90
def K3_isFor_B97 (s0 : Km)  : Option (Int32) :=
  some (1 : Int32)
set_option maxHeartbeats 4000000 in
set_option maxRecDepth 100000 in
theorem K3_isFor_B97_w {p : Program} {l : Launch} {e : Env} {s : State} {m : MethodId} {args : Array Value} {below : List Frame} {meth : Method} {c : Code} {A : Nat → Prop} {Ke : State → Prop} {D : va_G} {cA : Nat → ClassId} {E : State → Heap → Prop} {adS adV adM : Nat → Nat} {adD : Nat} (h : gOk p s m args meth c cX3_isFor 5 RX3 tb) (hKs : Ke s) (hE : mEok E A) (hkw : gKw Ke) (hX : xSt l Ke E A adM adD) (hSt : sSt Ke A (KW D cA E A) adS adV) (s0 : Km)  (hr : meth.sig.returnType = some .boolean)  : gS p l e rm_X3_isFor s m args below meth c 5 A (KW D cA E A) (fun X => MQ below (gPi (KW D cA E A) A (X, s0)) args s rm_X3_isFor.cells rm_X3_isFor.slots A) (0) (0) (K3_isFor_B97 s0) s0 97 [] [] := by
  unfold K3_isFor_B97
  refine g_iconst (v := 1) h dX3_isFor_97 (by decide) ?_
  exact g_zretp h (KW_mv hE) hr (Nat.le_of_ble_eq_true rfl) (Nat.le_of_ble_eq_true rfl) (by decide) dX3_isFor_98
def K3_isFor (s0 : Km) (a0 : Nat) (a1 : Nat) (a2 : Int32) : Option (Int32) :=
  if kK s0 a0 = 3 then
  if kK s0 a1 = 8 then
  if ((kI s0 a0 1) >>> ((kI s0 a1 0) &&& 31)) &&& (1 : Int32) = 0 then
    K3_isFor_B25 s0
  else
    if ((kI s0 a0 2) >>> (a2 &&& 31)) &&& (1 : Int32) = 0 then
      K3_isFor_B25 s0
    else
      K3_isFor_L29 s0 a0 a1 (K3_isFor_B89 s0) (K3_isFor_B89 s0) (K3_isFor_B97 s0) gF (0 : Int32)
  else none
  else none
set_option maxHeartbeats 4000000 in
set_option maxRecDepth 100000 in
theorem c_X3_isFor {l : Launch} {A : Nat → Prop} {Ke : State → Prop} {D : va_G} {cA : Nat → ClassId} {E : State → Heap → Prop} {adS adV adM : Nat → Nat} {adD : Nat} (hE : mEok E A) (hkw : gKw Ke) (hX : xSt l Ke E A adM adD) (hSt : sSt Ke A (KW D cA E A) adS adV) (s0 : Km) (a0 : Nat) (a1 : Nat) (a2 : Int32) : gCp l yX3_isFor cX3_isFor 5 (some .boolean) rm_X3_isFor Ke (KW D cA E A) A [.ref a0, .ref a1, .int a2] s0 (K3_isFor s0 a0 a1 a2) := by
  refine g_metp (by decide) (by simp [lg_sl, Value.category]) ?_
  intro p e s m below meth c h hr hKs
  refine g_lv [(0, .ref a0), (1, .ref a1), (2, .int a2)] [0, 1, 2] rfl ?_
  unfold K3_isFor
  refine g_aload_n h 0 dX3_isFor_0 rfl ?_
  refine k_kind (fun hk1_0 => ?_)
  refine k_geti h (RX3, TX3, 12) 2 (by decide) rfl hinX3 1 (by decide) rfl tW_519 dX3_isFor_1 hk1_0 ?_
  refine g_aload_n h 1 dX3_isFor_4 rfl ?_
  refine k_kind (fun hk5_0 => ?_)
  refine k_geti h (RX8, TX8, 6) 7 (by decide) rfl hinX8 0 (by decide) rfl tW_176 dX3_isFor_5 hk5_0 ?_
  refine g_ishr h dX3_isFor_8 ?_
  refine g_iconst (v := 1) h dX3_isFor_9 (by decide) ?_
  refine g_iand h dX3_isFor_10 ?_
  refine g_if_eq h 25 dX3_isFor_11 (by decide) ?_ ?_
  · refine g_lv [] [] rfl ?_
    exact K3_isFor_B25_w h hKs hE hkw hX hSt s0  hr
  · refine g_aload_n h 0 dX3_isFor_14 rfl ?_
    refine k_geti h (RX3, TX3, 12) 2 (by decide) rfl hinX3 2 (by decide) rfl tW_521 dX3_isFor_15 hk1_0 ?_
    refine g_iload_n h 2 dX3_isFor_18 rfl ?_
    refine g_ishr h dX3_isFor_19 ?_
    refine g_iconst (v := 1) h dX3_isFor_20 (by decide) ?_
    refine g_iand h dX3_isFor_21 ?_
    refine g_if_ne h 27 dX3_isFor_22 (by decide) ?_ ?_
    · refine g_iconst (v := 0) h dX3_isFor_27 (by decide) ?_
      refine g_istore_n h [(3, .int (0 : Int32)), (0, .ref a0), (1, .ref a1), (2, .int a2)] dX3_isFor_28 (by decide) rfl ?_
      refine g_lv [(0, .ref a0), (1, .ref a1), (3, .int (0 : Int32))] [1, 2, 0] rfl ?_
      refine K3_isFor_L29_w h hKs hE hkw hX hSt s0 a0 a1 ?_ ?_ ?_ gF (0 : Int32)
      · refine g_goto h 89 dX3_isFor_75 (by decide) ?_
        exact K3_isFor_B89_w h hKs hE hkw hX hSt s0  hr
      · exact K3_isFor_B89_w h hKs hE hkw hX hSt s0  hr
      · exact K3_isFor_B97_w h hKs hE hkw hX hSt s0  hr
    · refine g_lv [] [] rfl ?_
      exact K3_isFor_B25_w h hKs hE hkw hX hSt s0  hr
def rm_X3_dayFor : Room := { frames := 3, cells := 0, slots := 0, locals := 70 }
theorem yk_X3_dayFor : yOkV yX3_dayFor cX3_dayFor 3 (some .int) RX3 1 := ⟨tW_753, tW_18, tW_751, tW_752, by decide, by decide, by decide +kernel⟩
def K3_dayFor_B60 (s0 : Km) (t0 : Int32) : Option (Int32) :=
  some t0
set_option maxHeartbeats 4000000 in
set_option maxRecDepth 100000 in
theorem K3_dayFor_B60_w {p : Program} {l : Launch} {e : Env} {s : State} {m : MethodId} {args : Array Value} {below : List Frame} {meth : Method} {c : Code} {A : Nat → Prop} {Ke : State → Prop} {D : va_G} {cA : Nat → ClassId} {E : State → Heap → Prop} {adS adV adM : Nat → Nat} {adD : Nat} (h : gOk p s m args meth c cX3_dayFor 3 RX3 tb) (hKs : Ke s) (hE : mEok E A) (hkw : gKw Ke) (hX : xSt l Ke E A adM adD) (hSt : sSt Ke A (KW D cA E A) adS adV) (s0 : Km) (t0 : Int32) (hr : meth.sig.returnType = some .int)  : gS p l e rm_X3_dayFor s m args below meth c 3 A (KW D cA E A) (fun X => MQ below (gPi (KW D cA E A) A (X, s0)) args s rm_X3_dayFor.cells rm_X3_dayFor.slots A) (0) (0) (K3_dayFor_B60 s0 t0) s0 60 [] [.int t0] := by
  unfold K3_dayFor_B60
  exact g_iretp h (KW_mv hE) hr (Nat.le_of_ble_eq_true rfl) (Nat.le_of_ble_eq_true rfl) dX3_dayFor_60
def K3_dayFor (s0 : Km) (a0 : Nat) (a1 : Nat) : Option (Int32) :=
  if kK s0 a1 = 8 then
  (kR s0 a1 2).bind (fun b1 =>
  if kK s0 a0 = 3 then
  if kK s0 b1 = 12 then
  if okI (kI s0 a0 6) (kN s0 b1) = true then
  bnd (kI s0 b1 (kI s0 a0 6).toNatClampNeg) (fun v2_9 =>
  if v2_9 = (-1 : Int32) then
    some (-1 : Int32)
  else
    if kI s0 a0 5 = 0 then
      if v2_9 + (kI s0 a0 4) ≤ (200000 : Int32) then
        K3_dayFor_B60 s0 (v2_9 + (kI s0 a0 4))
      else
        K3_dayFor_B60 s0 (999999 : Int32)
    else
      (K0_monthsAfter s0 v2_9 ((kI s0 a0 4) * (kI s0 a0 5))).bind (fun r_34 =>
      some r_34))
  else none
  else none
  else none)
  else none
set_option maxHeartbeats 4000000 in
set_option maxRecDepth 100000 in
theorem c_X3_dayFor {l : Launch} {A : Nat → Prop} {Ke : State → Prop} {D : va_G} {cA : Nat → ClassId} {E : State → Heap → Prop} {adS adV adM : Nat → Nat} {adD : Nat} (hE : mEok E A) (hkw : gKw Ke) (hX : xSt l Ke E A adM adD) (hSt : sSt Ke A (KW D cA E A) adS adV) (s0 : Km) (a0 : Nat) (a1 : Nat) : gCp l yX3_dayFor cX3_dayFor 3 (some .int) rm_X3_dayFor Ke (KW D cA E A) A [.ref a0, .ref a1] s0 (K3_dayFor s0 a0 a1) := by
  refine g_metp (by decide) (by simp [lg_sl, Value.category]) ?_
  intro p e s m below meth c h hr hKs
  refine g_lv [(0, .ref a0), (1, .ref a1)] [0, 1] rfl ?_
  unfold K3_dayFor
  refine g_aload_n h 1 dX3_dayFor_0 rfl ?_
  refine k_kind (fun hk1_0 => ?_)
  refine k_getr h (RX8, TX8, 6) 7 (by decide) rfl hinX8 2 (by decide) rfl tW_181 dX3_dayFor_1 hk1_0 ?_
  refine g_ob (fun b1 => ?_)
  refine g_aload_n h 0 dX3_dayFor_4 rfl ?_
  refine k_kind (fun hk5_0 => ?_)
  refine k_geti h (RX3, TX3, 12) 2 (by decide) rfl hinX3 6 (by decide) rfl tW_529 dX3_dayFor_5 hk5_0 ?_
  refine k_kind (fun hk8_0 => ?_)
  refine k_iald h dX3_dayFor_8 hk8_0 ?_
  refine g_bndi (fun v2_9 => ?_)
  refine g_istore_n h [(2, .int v2_9), (0, .ref a0), (1, .ref a1)] dX3_dayFor_9 (by decide) rfl ?_
  refine g_iload_n h 0 dX3_dayFor_10 rfl ?_
  refine g_iconst (v := -1) h dX3_dayFor_11 (by decide) ?_
  refine g_icmp_ne h 17 dX3_dayFor_12 (by decide) ?_ ?_
  · refine g_aload_n h 1 dX3_dayFor_17 rfl ?_
    refine k_geti h (RX3, TX3, 12) 2 (by decide) rfl hinX3 5 (by decide) rfl tW_527 dX3_dayFor_18 hk5_0 ?_
    refine g_if_eq h 38 dX3_dayFor_21 (by decide) ?_ ?_
    · refine g_iload_n h 0 dX3_dayFor_38 rfl ?_
      refine g_aload_n h 1 dX3_dayFor_39 rfl ?_
      refine k_geti h (RX3, TX3, 12) 2 (by decide) rfl hinX3 4 (by decide) rfl tW_525 dX3_dayFor_40 hk5_0 ?_
      refine g_iadd h dX3_dayFor_43 ?_
      refine g_ldc (v := 200000) h tW_755 dX3_dayFor_44 ?_
      refine g_icmp_le h 54 dX3_dayFor_46 (by decide) ?_ ?_
      · refine g_iload_n h 0 dX3_dayFor_54 rfl ?_
        refine g_aload_n h 1 dX3_dayFor_55 rfl ?_
        refine k_geti h (RX3, TX3, 12) 2 (by decide) rfl hinX3 4 (by decide) rfl tW_525 dX3_dayFor_56 hk5_0 ?_
        refine g_iadd h dX3_dayFor_59 ?_
        refine g_lv [] [] rfl ?_
        exact K3_dayFor_B60_w h hKs hE hkw hX hSt s0 (v2_9 + (kI s0 a0 4)) hr
      · refine g_ldc (v := 999999) h tW_756 dX3_dayFor_49 ?_
        refine g_goto h 60 dX3_dayFor_51 (by decide) ?_
        refine g_lv [] [] rfl ?_
        exact K3_dayFor_B60_w h hKs hE hkw hX hSt s0 (999999 : Int32) hr
    · refine g_iload_n h 0 dX3_dayFor_24 rfl ?_
      refine g_aload_n h 1 dX3_dayFor_25 rfl ?_
      refine k_geti h (RX3, TX3, 12) 2 (by decide) rfl hinX3 4 (by decide) rfl tW_525 dX3_dayFor_26 hk5_0 ?_
      refine g_aload_n h 1 dX3_dayFor_29 rfl ?_
      refine k_geti h (RX3, TX3, 12) 2 (by decide) rfl hinX3 5 (by decide) rfl tW_527 dX3_dayFor_30 hk5_0 ?_
      refine g_imul h dX3_dayFor_33 ?_
      refine g_callS0p h (KW_mv hE) hkw hKs [.int v2_9, .int ((kI s0 a0 4) * (kI s0 a0 5))] (c_X0_monthsAfter hE hkw hX hSt s0 v2_9 ((kI s0 a0 4) * (kI s0 a0 5))) yk_X0_monthsAfter tW_754 ⟨(Nat.le_of_ble_eq_true rfl), (Nat.le_of_ble_eq_true rfl)⟩ rfl rfl rfl rfl (Nat.le_of_ble_eq_true rfl) dX3_dayFor_34 ⟨(Nat.le_of_ble_eq_true rfl), (Nat.le_of_ble_eq_true rfl)⟩ (fun r_34 => ?_)
      exact g_iretp h (KW_mv hE) hr (Nat.le_of_ble_eq_true rfl) (Nat.le_of_ble_eq_true rfl) dX3_dayFor_37
  · refine g_iconst (v := -1) h dX3_dayFor_15 (by decide) ?_
    exact g_iretp h (KW_mv hE) hr (Nat.le_of_ble_eq_true rfl) (Nat.le_of_ble_eq_true rfl) dX3_dayFor_16
def rm_X5_init : Room := { frames := 1, cells := 2, slots := 48, locals := 21 }
theorem yk_X5_init : yOkI yX5_init cX5_init 2 1 := ⟨tW_368, tW_12, tW_367, rfl, by decide, by decide, by decide +kernel⟩
def K5_init (s0 : Km) (a0 : Nat) (a1 : Int32) : Option (Km) :=
  if kK s0 a0 = 5 then
  bnd (kSetI s0 a0 0 a1) (fun s_6 =>
  bnd2 (kn s_6) (kNew s_6 15 24) (fun q_12 s_12 =>
  if kK s_12 a0 = 5 then
  bnd (kSetR s_12 a0 1 (some q_12)) (fun s_15 =>
  bnd2 (kn s_15) (kNew s_15 12 24) (fun q_21 s_21 =>
  if kK s_21 a0 = 5 then
  bnd (kSetR s_21 a0 3 (some q_21)) (fun s_23 =>
  some s_23)
  else none))
  else none))
  else none
set_option maxHeartbeats 4000000 in
set_option maxRecDepth 100000 in
theorem c_X5_init {l : Launch} {A : Nat → Prop} {Ke : State → Prop} {D : va_G} {cA : Nat → ClassId} {E : State → Heap → Prop} {adS adV adM : Nat → Nat} {adD : Nat} (hE : mEok E A) (hkw : gKw Ke) (hX : xSt l Ke E A adM adD) (hSt : sSt Ke A (KW D cA E A) adS adV) (s0 : Km) (a0 : Nat) (a1 : Int32) : gCv l yX5_init cX5_init 2 none rm_X5_init Ke (KW D cA E A) A [.ref a0, .int a1] s0 (K5_init s0 a0 a1) := by
  refine g_metI (by decide) rfl (by simp [lg_sl, Value.category]) ?_
  intro p e s m below meth c h hr hin hKs
  refine g_lv [(0, .ref a0), (1, .int a1)] [0, 1] rfl ?_
  unfold K5_init
  refine g_aload_n h 0 dX5_init_0 rfl ?_
  refine g_objInit h tW_369 tW_29 tW_30 (Nat.le_of_ble_eq_true rfl) (Nat.le_of_ble_eq_true rfl) dX5_init_1 ?_
  refine g_aload_n h 0 dX5_init_4 rfl ?_
  refine g_iload_n h 1 dX5_init_5 rfl ?_
  refine k_kind (fun hk6_0 => ?_)
  refine k_putFi (x := a1) h hE (RX5, TX5, 5) 4 (by decide) rfl hinX5 0 (by decide) rfl tyX5 tyX5_ok nmX5 rfl hin rfl tW_372 rfl rfl dX5_init_6 hk6_0 ?_
  refine g_bndE (fun s_6 hs_6 => ?_)
  refine g_aload_n h 0 dX5_init_9 rfl ?_
  refine g_bipush (v := 24) h dX5_init_10 (by decide) ?_
  refine k_newq h hE 15 4 (by decide) "KeepForget$Rule" rfl tW_370 ((hX.2.1 _ hKs).2.2 _ (by decide)) 24 (by decide) (by decide) (by decide) (Nat.le_of_ble_eq_true rfl) (Nat.le_of_ble_eq_true rfl) dX5_init_12 ?_
  refine g_bnd2 (fun q_12 s_12 hq_12 hs_12 => ?_)
  refine k_kind (fun hk15_0 => ?_)
  refine k_putFr (x := (some q_12)) h hE (RX5, TX5, 5) 4 (by decide) rfl hinX5 1 (by decide) rfl tyX5 tyX5_ok nmX5 rfl hin rfl tW_374 rfl rfl dX5_init_15 hk15_0 ?_
  refine g_bndE (fun s_15 hs_15 => ?_)
  refine g_aload_n h 0 dX5_init_18 rfl ?_
  refine g_bipush (v := 24) h dX5_init_19 (by decide) ?_
  refine k_newi h hE 12 1 (by decide) (by decide) .int rfl rfl rfl (fun _ _ q9 => q9) tW_73 24 (by decide) (by decide) (by decide) (Nat.le_of_ble_eq_true rfl) (Nat.le_of_ble_eq_true rfl) dX5_init_21 ?_
  refine g_bnd2 (fun q_21 s_21 hq_21 hs_21 => ?_)
  refine k_kind (fun hk23_0 => ?_)
  refine k_putFr (x := (some q_21)) h hE (RX5, TX5, 5) 4 (by decide) rfl hinX5 3 (by decide) rfl tyX5 tyX5_ok nmX5 rfl hin rfl tW_379 rfl rfl dX5_init_23 hk23_0 ?_
  refine g_bndE (fun s_23 hs_23 => ?_)
  exact g_vret h (KW_mv hE) hr (Nat.le_of_ble_eq_true rfl) (Nat.le_of_ble_eq_true rfl) dX5_init_26
def rm_X5_storesFor : Room := { frames := 1, cells := 0, slots := 0, locals := 24 }
theorem yk_X5_storesFor : yOkV yX5_storesFor cX5_storesFor 5 (some .int) RX5 2 := ⟨tW_221, tW_12, tW_219, tW_220, by decide, by decide, by decide +kernel⟩
def K5_storesFor_B57 {Rt : Type} (s0 : Km) (rec : Int32 → Int32 → Option Rt) (k63 : Int32 → Option Rt) (a0 : Nat) (a1 : Nat) (a2 : Int32) (l3 : Int32) (l4 : Int32) : Option (Rt) :=
  rec l3 (l4 + 1)
set_option maxHeartbeats 4000000 in
set_option maxRecDepth 100000 in
theorem K5_storesFor_B57_w {p : Program} {l : Launch} {e : Env} {s : State} {m : MethodId} {args : Array Value} {below : List Frame} {meth : Method} {c : Code} {A : Nat → Prop} {Ke : State → Prop} {D : va_G} {cA : Nat → ClassId} {E : State → Heap → Prop} {adS adV adM : Nat → Nat} {adD : Nat} (h : gOk p s m args meth c cX5_storesFor 5 RX5 tb) (hKs : Ke s) (hE : mEok E A) (hkw : gKw Ke) (hX : xSt l Ke E A adM adD) (hSt : sSt Ke A (KW D cA E A) adS adV) {Rt : Type} {QX : Rt → State → Prop} {rec : Int32 → Int32 → Option Rt} {k63 : Int32 → Option Rt} (s0 : Km) (a0 : Nat) (a1 : Nat) (a2 : Int32) (l3 : Int32) (l4 : Int32) (hrec : ∀ (l3 : Int32) (l4 : Int32), gS p l e rm_X5_storesFor s m args below meth c 5 A (KW D cA E A) QX (0) (0) (rec l3 l4) s0 6 [(0, .ref a0), (1, .ref a1), (2, .int a2), (3, .int l3), (4, .int l4)] []) (hk63 : ∀ (l3 : Int32), gS p l e rm_X5_storesFor s m args below meth c 5 A (KW D cA E A) QX (0) (0) (k63 l3) s0 63 [(3, .int l3)] []) : gS p l e rm_X5_storesFor s m args below meth c 5 A (KW D cA E A) QX (0) (0) (K5_storesFor_B57 s0 rec k63 a0 a1 a2 l3 l4) s0 57 [(0, .ref a0), (1, .ref a1), (2, .int a2), (3, .int l3), (4, .int l4)] [] := by
  unfold K5_storesFor_B57
  refine g_iinc (v := l4 + 1) (i := 4) h [(4, .int (l4 + 1)), (0, .ref a0), (1, .ref a1), (2, .int a2), (3, .int l3)] dX5_storesFor_57 rfl rfl (by decide) rfl ?_
  refine g_goto h 6 dX5_storesFor_60 (by decide) ?_
  refine g_lv [(0, .ref a0), (1, .ref a1), (2, .int a2), (3, .int l3), (4, .int (l4 + 1))] [1, 2, 3, 4, 0] rfl ?_
  exact hrec l3 (l4 + 1)
def K5_storesFor_L6 {Rt : Type} (s0 : Km) (a0 : Nat) (a1 : Nat) (a2 : Int32) (k63 : Int32 → Option Rt) : Nat → Int32 → Int32 → Option Rt
  | 0, _, _ => none
  | F + 1, l3, l4 =>
  if kK s0 a0 = 5 then
    if kI s0 a0 2 ≤ l4 then
      k63 l3
    else
      (kR s0 a0 1).bind (fun b16 =>
      if kK s0 b16 = 15 then
      if okI l4 (kN s0 b16) = true then
      (kR s0 b16 l4.toNatClampNeg).bind (fun b21 =>
      if kK s0 b21 = 3 then
      if kI s0 b21 0 = (2 : Int32) then
        (kR s0 a0 1).bind (fun b30 =>
        if kK s0 b30 = 15 then
        if okI l4 (kN s0 b30) = true then
        (kR s0 b30 l4.toNatClampNeg).bind (fun b35 =>
        if kK s0 b35 = 3 then
        (K3_isFor s0 b35 a1 a2).bind (fun r_38 =>
        if r_38 = 0 then
          K5_storesFor_B57 s0 (K5_storesFor_L6 s0 a0 a1 a2 k63 F) k63 a0 a1 a2 l3 l4
        else
          (kR s0 a0 1).bind (fun b46 =>
          if kK s0 b46 = 15 then
          if okI l4 (kN s0 b46) = true then
          (kR s0 b46 l4.toNatClampNeg).bind (fun b51 =>
          if kK s0 b51 = 3 then
          bnd (l3 &&& (kI s0 b51 3)) (fun v3_56 =>
          K5_storesFor_B57 s0 (K5_storesFor_L6 s0 a0 a1 a2 k63 F) k63 a0 a1 a2 v3_56 l4)
          else none)
          else none
          else none))
        else none)
        else none
        else none)
      else
        K5_storesFor_B57 s0 (K5_storesFor_L6 s0 a0 a1 a2 k63 F) k63 a0 a1 a2 l3 l4
      else none)
      else none
      else none)
    else none
set_option maxHeartbeats 4000000 in
set_option maxRecDepth 100000 in
theorem K5_storesFor_L6_w {p : Program} {l : Launch} {e : Env} {s : State} {m : MethodId} {args : Array Value} {below : List Frame} {meth : Method} {c : Code} {A : Nat → Prop} {Ke : State → Prop} {D : va_G} {cA : Nat → ClassId} {E : State → Heap → Prop} {adS adV adM : Nat → Nat} {adD : Nat} (h : gOk p s m args meth c cX5_storesFor 5 RX5 tb) (hKs : Ke s) (hE : mEok E A) (hkw : gKw Ke) (hX : xSt l Ke E A adM adD) (hSt : sSt Ke A (KW D cA E A) adS adV) {Rt : Type} {QX : Rt → State → Prop} (s0 : Km) (a0 : Nat) (a1 : Nat) (a2 : Int32) {k63 : Int32 → Option Rt} (hk63 : ∀ (l3 : Int32), gS p l e rm_X5_storesFor s m args below meth c 5 A (KW D cA E A) QX (0) (0) (k63 l3) s0 63 [(3, .int l3)] []) : ∀ (F : Nat), ∀ (l3 : Int32) (l4 : Int32), gS p l e rm_X5_storesFor s m args below meth c 5 A (KW D cA E A) QX (0) (0) (K5_storesFor_L6 s0 a0 a1 a2 k63 F l3 l4) s0 6 [(0, .ref a0), (1, .ref a1), (2, .int a2), (3, .int l3), (4, .int l4)] [] := by
  intro F
  induction F with
  | zero =>
    intro l3 l4
    unfold K5_storesFor_L6
    exact g_none
  | succ F ih =>
    intro l3 l4
    unfold K5_storesFor_L6
    refine g_iload h 4 dX5_storesFor_6 rfl ?_
    refine g_aload_n h 0 dX5_storesFor_8 rfl ?_
    refine k_kind (fun hk9_0 => ?_)
    refine k_geti h (RX5, TX5, 5) 4 (by decide) rfl hinX5 2 (by decide) rfl tW_377 dX5_storesFor_9 hk9_0 ?_
    refine g_icmp_ge h 63 dX5_storesFor_12 (by decide) ?_ ?_
    · refine g_lv [(3, .int l3)] [3] rfl ?_
      exact hk63 l3
    · refine g_aload_n h 0 dX5_storesFor_15 rfl ?_
      refine k_getr h (RX5, TX5, 5) 4 (by decide) rfl hinX5 1 (by decide) rfl tW_374 dX5_storesFor_16 hk9_0 ?_
      refine g_ob (fun b16 => ?_)
      refine g_iload h 4 dX5_storesFor_19 rfl ?_
      refine k_kind (fun hk21_0 => ?_)
      refine k_aald h 15 4 (by decide) "KeepForget$Rule" rfl dX5_storesFor_21 hk21_0 ?_
      refine g_ob (fun b21 => ?_)
      refine k_kind (fun hk22_0 => ?_)
      refine k_geti h (RX3, TX3, 12) 2 (by decide) rfl hinX3 0 (by decide) rfl tW_518 dX5_storesFor_22 hk22_0 ?_
      refine g_iconst (v := 2) h dX5_storesFor_25 (by decide) ?_
      refine g_icmp_ne h 57 dX5_storesFor_26 (by decide) ?_ ?_
      · exact K5_storesFor_B57_w h hKs hE hkw hX hSt s0 a0 a1 a2 l3 l4 (ih) hk63
      · refine g_aload_n h 0 dX5_storesFor_29 rfl ?_
        refine k_getr h (RX5, TX5, 5) 4 (by decide) rfl hinX5 1 (by decide) rfl tW_374 dX5_storesFor_30 hk9_0 ?_
        refine g_ob (fun b30 => ?_)
        refine g_iload h 4 dX5_storesFor_33 rfl ?_
        refine k_kind (fun hk35_0 => ?_)
        refine k_aald h 15 4 (by decide) "KeepForget$Rule" rfl dX5_storesFor_35 hk35_0 ?_
        refine g_ob (fun b35 => ?_)
        refine g_aload_n h 1 dX5_storesFor_36 rfl ?_
        refine g_iload_n h 2 dX5_storesFor_37 rfl ?_
        refine k_kind (fun hk38_0 => ?_)
        refine g_callV0p h (KW_mv hE) hkw hKs [.ref a1, .int a2] (c_X3_isFor hE hkw hX hSt s0 b35 a1 a2) yk_X3_isFor tW_222 ⟨(Nat.le_of_ble_eq_true rfl), (Nat.le_of_ble_eq_true rfl)⟩ (KW_recv b35 2 (r := (RX3, TX3, 12)) hk38_0 (by decide) rfl) rfl rfl rfl rfl (Nat.le_of_ble_eq_true rfl) dX5_storesFor_38 ⟨(Nat.le_of_ble_eq_true rfl), (Nat.le_of_ble_eq_true rfl)⟩ (fun r_38 => ?_)
        refine g_if_eq h 57 dX5_storesFor_41 (by decide) ?_ ?_
        · exact K5_storesFor_B57_w h hKs hE hkw hX hSt s0 a0 a1 a2 l3 l4 (ih) hk63
        · refine g_iload_n h 3 dX5_storesFor_44 rfl ?_
          refine g_aload_n h 0 dX5_storesFor_45 rfl ?_
          refine k_getr h (RX5, TX5, 5) 4 (by decide) rfl hinX5 1 (by decide) rfl tW_374 dX5_storesFor_46 hk9_0 ?_
          refine g_ob (fun b46 => ?_)
          refine g_iload h 4 dX5_storesFor_49 rfl ?_
          refine k_kind (fun hk51_0 => ?_)
          refine k_aald h 15 4 (by decide) "KeepForget$Rule" rfl dX5_storesFor_51 hk51_0 ?_
          refine g_ob (fun b51 => ?_)
          refine k_kind (fun hk52_0 => ?_)
          refine k_geti h (RX3, TX3, 12) 2 (by decide) rfl hinX3 3 (by decide) rfl tW_523 dX5_storesFor_52 hk52_0 ?_
          refine g_iand h dX5_storesFor_55 ?_
          refine g_bndi (fun v3_56 => ?_)
          refine g_istore_n h [(3, .int v3_56), (0, .ref a0), (1, .ref a1), (2, .int a2), (4, .int l4)] dX5_storesFor_56 (by decide) rfl ?_
          refine g_lv [(0, .ref a0), (1, .ref a1), (2, .int a2), (3, .int v3_56), (4, .int l4)] [1, 2, 3, 0, 4] rfl ?_
          exact K5_storesFor_B57_w h hKs hE hkw hX hSt s0 a0 a1 a2 v3_56 l4 (ih) hk63
def K5_storesFor (s0 : Km) (a0 : Nat) (a1 : Nat) (a2 : Int32) : Option (Int32) :=
  K5_storesFor_L6 s0 a0 a1 a2 (fun v3_63 => some v3_63) gF (15 : Int32) (0 : Int32)
set_option maxHeartbeats 4000000 in
set_option maxRecDepth 100000 in
theorem c_X5_storesFor {l : Launch} {A : Nat → Prop} {Ke : State → Prop} {D : va_G} {cA : Nat → ClassId} {E : State → Heap → Prop} {adS adV adM : Nat → Nat} {adD : Nat} (hE : mEok E A) (hkw : gKw Ke) (hX : xSt l Ke E A adM adD) (hSt : sSt Ke A (KW D cA E A) adS adV) (s0 : Km) (a0 : Nat) (a1 : Nat) (a2 : Int32) : gCp l yX5_storesFor cX5_storesFor 5 (some .int) rm_X5_storesFor Ke (KW D cA E A) A [.ref a0, .ref a1, .int a2] s0 (K5_storesFor s0 a0 a1 a2) := by
  refine g_metp (by decide) (by simp [lg_sl, Value.category]) ?_
  intro p e s m below meth c h hr hKs
  refine g_lv [(0, .ref a0), (1, .ref a1), (2, .int a2)] [0, 1, 2] rfl ?_
  unfold K5_storesFor
  refine g_bipush (v := 15) h dX5_storesFor_0 (by decide) ?_
  refine g_istore_n h [(3, .int (15 : Int32)), (0, .ref a0), (1, .ref a1), (2, .int a2)] dX5_storesFor_2 (by decide) rfl ?_
  refine g_iconst (v := 0) h dX5_storesFor_3 (by decide) ?_
  refine g_istore h [(4, .int (0 : Int32)), (3, .int (15 : Int32)), (0, .ref a0), (1, .ref a1), (2, .int a2)] dX5_storesFor_4 (by decide) rfl ?_
  refine g_lv [(0, .ref a0), (1, .ref a1), (2, .int a2), (3, .int (15 : Int32)), (4, .int (0 : Int32))] [2, 3, 4, 1, 0] rfl ?_
  refine K5_storesFor_L6_w h hKs hE hkw hX hSt s0 a0 a1 a2 (fun v3_63 => ?_) gF (15 : Int32) (0 : Int32)
  · refine g_iload_n h 0 dX5_storesFor_63 rfl ?_
    exact g_iretp h (KW_mv hE) hr (Nat.le_of_ble_eq_true rfl) (Nat.le_of_ble_eq_true rfl) dX5_storesFor_64
def rm_X6_init : Room := { frames := 1, cells := 1, slots := 24, locals := 21 }
theorem yk_X6_init : yOkI yX6_init cX6_init 1 0 := ⟨tW_78, tW_4, tW_77, rfl, by decide, by decide, by decide +kernel⟩
def K6_init (s0 : Km) (a0 : Nat) : Option (Km) :=
  bnd2 (kn s0) (kNew s0 12 24) (fun q_7 s_7 =>
  if kK s_7 a0 = 6 then
  bnd (kSetR s_7 a0 4 (some q_7)) (fun s_9 =>
  some s_9)
  else none)
set_option maxHeartbeats 4000000 in
set_option maxRecDepth 100000 in
theorem c_X6_init {l : Launch} {A : Nat → Prop} {Ke : State → Prop} {D : va_G} {cA : Nat → ClassId} {E : State → Heap → Prop} {adS adV adM : Nat → Nat} {adD : Nat} (hE : mEok E A) (hkw : gKw Ke) (hX : xSt l Ke E A adM adD) (hSt : sSt Ke A (KW D cA E A) adS adV) (s0 : Km) (a0 : Nat) : gCv l yX6_init cX6_init 1 none rm_X6_init Ke (KW D cA E A) A [.ref a0] s0 (K6_init s0 a0) := by
  refine g_metI (by decide) rfl (by simp [lg_sl, Value.category]) ?_
  intro p e s m below meth c h hr hin hKs
  refine g_lv [(0, .ref a0)] [0] rfl ?_
  unfold K6_init
  refine g_aload_n h 0 dX6_init_0 rfl ?_
  refine g_objInit h tW_79 tW_29 tW_30 (Nat.le_of_ble_eq_true rfl) (Nat.le_of_ble_eq_true rfl) dX6_init_1 ?_
  refine g_aload_n h 0 dX6_init_4 rfl ?_
  refine g_bipush (v := 24) h dX6_init_5 (by decide) ?_
  refine k_newi h hE 12 1 (by decide) (by decide) .int rfl rfl rfl (fun _ _ q9 => q9) tW_73 24 (by decide) (by decide) (by decide) (Nat.le_of_ble_eq_true rfl) (Nat.le_of_ble_eq_true rfl) dX6_init_7 ?_
  refine g_bnd2 (fun q_7 s_7 hq_7 hs_7 => ?_)
  refine k_kind (fun hk9_0 => ?_)
  refine k_putFr (x := (some q_7)) h hE (RX6, TX6, 8) 5 (by decide) rfl hinX6 4 (by decide) rfl tyX6 tyX6_ok nmX6 rfl hin rfl tW_90 rfl rfl dX6_init_9 hk9_0 ?_
  refine g_bndE (fun s_9 hs_9 => ?_)
  exact g_vret h (KW_mv hE) hr (Nat.le_of_ble_eq_true rfl) (Nat.le_of_ble_eq_true rfl) dX6_init_12
def rm_X6_lose : Room := { frames := 0, cells := 0, slots := 0, locals := 0 }
theorem yk_X6_lose : yOkV yX6_lose cX6_lose 2 (none) RX6 1 := ⟨tW_768, tW_4, tW_767, tP_26, by decide, by decide, by decide +kernel⟩
def K6_lose_B29 (s0 : Km)  : Option (Km) :=
  some s0
set_option maxHeartbeats 4000000 in
set_option maxRecDepth 100000 in
theorem K6_lose_B29_w {p : Program} {l : Launch} {e : Env} {s : State} {m : MethodId} {args : Array Value} {below : List Frame} {meth : Method} {c : Code} {A : Nat → Prop} {Ke : State → Prop} {D : va_G} {cA : Nat → ClassId} {E : State → Heap → Prop} {adS adV adM : Nat → Nat} {adD : Nat} (h : gOk p s m args meth c cX6_lose 2 RX6 tb) (hKs : Ke s) (hE : mEok E A) (hkw : gKw Ke) (hX : xSt l Ke E A adM adD) (hSt : sSt Ke A (KW D cA E A) adS adV) (s0 : Km)  (hr : meth.sig.returnType = none)  : gS p l e rm_X6_lose s m args below meth c 2 A (KW D cA E A) (fun X => MQ below (gPv (KW D cA E A) A X) args s rm_X6_lose.cells rm_X6_lose.slots A) (0) (0) (K6_lose_B29 s0) s0 29 [] [] := by
  unfold K6_lose_B29
  exact g_vret h (KW_mv hE) hr (Nat.le_of_ble_eq_true rfl) (Nat.le_of_ble_eq_true rfl) dX6_lose_29
def K6_lose (s0 : Km) (a0 : Nat) (a1 : Int32) : Option (Km) :=
  if kK s0 a0 = 6 then
  if (24 : Int32) ≤ kI s0 a0 5 then
    K6_lose_B29 s0
  else
    (kR s0 a0 4).bind (fun b10 =>
    if kK s0 b10 = 12 then
    if okI (kI s0 a0 5) (kN s0 b10) = true then
    bnd (kSetI s0 b10 (kI s0 a0 5).toNatClampNeg a1) (fun s_18 =>
    bnd (kSetI s_18 a0 5 ((kI s_18 a0 5) + (1 : Int32))) (fun s_26 =>
    K6_lose_B29 s_26))
    else none
    else none)
  else none
set_option maxHeartbeats 4000000 in
set_option maxRecDepth 100000 in
theorem c_X6_lose {l : Launch} {A : Nat → Prop} {Ke : State → Prop} {D : va_G} {cA : Nat → ClassId} {E : State → Heap → Prop} {adS adV adM : Nat → Nat} {adD : Nat} (hE : mEok E A) (hkw : gKw Ke) (hX : xSt l Ke E A adM adD) (hSt : sSt Ke A (KW D cA E A) adS adV) (s0 : Km) (a0 : Nat) (a1 : Int32) : gCv l yX6_lose cX6_lose 2 (none) rm_X6_lose Ke (KW D cA E A) A [.ref a0, .int a1] s0 (K6_lose s0 a0 a1) := by
  refine g_metv (by decide) (by simp [lg_sl, Value.category]) ?_
  intro p e s m below meth c h hr hKs
  refine g_lv [(0, .ref a0), (1, .int a1)] [0, 1] rfl ?_
  unfold K6_lose
  refine g_aload_n h 0 dX6_lose_0 rfl ?_
  refine k_kind (fun hk1_0 => ?_)
  refine k_geti h (RX6, TX6, 8) 5 (by decide) rfl hinX6 5 (by decide) rfl tW_92 dX6_lose_1 hk1_0 ?_
  refine g_bipush (v := 24) h dX6_lose_4 (by decide) ?_
  refine g_icmp_ge h 29 dX6_lose_6 (by decide) ?_ ?_
  · refine g_lv [] [] rfl ?_
    exact K6_lose_B29_w h hKs hE hkw hX hSt s0  hr
  · refine g_aload_n h 0 dX6_lose_9 rfl ?_
    refine k_getr h (RX6, TX6, 8) 5 (by decide) rfl hinX6 4 (by decide) rfl tW_90 dX6_lose_10 hk1_0 ?_
    refine g_ob (fun b10 => ?_)
    refine g_aload_n h 0 dX6_lose_13 rfl ?_
    refine k_geti h (RX6, TX6, 8) 5 (by decide) rfl hinX6 5 (by decide) rfl tW_92 dX6_lose_14 hk1_0 ?_
    refine g_iload_n h 1 dX6_lose_17 rfl ?_
    refine k_kind (fun hk18_0 => ?_)
    refine k_iast h hE dX6_lose_18 hk18_0 ?_
    refine g_bndE (fun s_18 hs_18 => ?_)
    refine g_aload_n h 0 dX6_lose_19 rfl ?_
    refine g_dup h dX6_lose_20 rfl ?_
    refine k_geti h (RX6, TX6, 8) 5 (by decide) rfl hinX6 5 (by decide) rfl tW_92 dX6_lose_21 (kKsI hs_18 hk1_0) ?_
    refine g_iconst (v := 1) h dX6_lose_24 (by decide) ?_
    refine g_iadd h dX6_lose_25 ?_
    refine k_puti (x := ((kI s_18 a0 5) + (1 : Int32))) h hE (RX6, TX6, 8) 5 (by decide) rfl hinX6 5 (by decide) rfl tyX6 tyX6_ok nmX6 rfl tW_92 rfl rfl dX6_lose_26 (kKsI hs_18 hk1_0) ?_
    refine g_bndE (fun s_26 hs_26 => ?_)
    refine g_lv [] [] rfl ?_
    exact K6_lose_B29_w h hKs hE hkw hX hSt s_26  hr
def rm_X6_keepUntil : Room := { frames := 1, cells := 0, slots := 0, locals := 21 }
theorem yk_X6_keepUntil : yOkV yX6_keepUntil cX6_keepUntil 3 (none) RX6 2 := ⟨tW_764, tW_4, tW_763, tP_25, by decide, by decide, by decide +kernel⟩
def K6_keepUntil_B34 (s0 : Km)  : Option (Km) :=
  some s0
set_option maxHeartbeats 4000000 in
set_option maxRecDepth 100000 in
theorem K6_keepUntil_B34_w {p : Program} {l : Launch} {e : Env} {s : State} {m : MethodId} {args : Array Value} {below : List Frame} {meth : Method} {c : Code} {A : Nat → Prop} {Ke : State → Prop} {D : va_G} {cA : Nat → ClassId} {E : State → Heap → Prop} {adS adV adM : Nat → Nat} {adD : Nat} (h : gOk p s m args meth c cX6_keepUntil 3 RX6 tb) (hKs : Ke s) (hE : mEok E A) (hkw : gKw Ke) (hX : xSt l Ke E A adM adD) (hSt : sSt Ke A (KW D cA E A) adS adV) (s0 : Km)  (hr : meth.sig.returnType = none)  : gS p l e rm_X6_keepUntil s m args below meth c 3 A (KW D cA E A) (fun X => MQ below (gPv (KW D cA E A) A X) args s rm_X6_keepUntil.cells rm_X6_keepUntil.slots A) (0) (0) (K6_keepUntil_B34 s0) s0 34 [] [] := by
  unfold K6_keepUntil_B34
  exact g_vret h (KW_mv hE) hr (Nat.le_of_ble_eq_true rfl) (Nat.le_of_ble_eq_true rfl) dX6_keepUntil_34
def K6_keepUntil (s0 : Km) (a0 : Nat) (a1 : Int32) (a2 : Int32) : Option (Km) :=
  if kK s0 a0 = 6 then
  if a1 ≤ kI s0 a0 1 then
    if a1 ≤ kI s0 a0 0 then
      K6_keepUntil_B34 s0
    else
      bnd (kSetI s0 a0 0 a1) (fun s_26 =>
      bnd (kSetI s_26 a0 2 a2) (fun s_31 =>
      K6_keepUntil_B34 s_31))
  else
    (K6_lose s0 a0 a2).bind (fun s_10 =>
    K6_keepUntil_B34 s_10)
  else none
set_option maxHeartbeats 4000000 in
set_option maxRecDepth 100000 in
theorem c_X6_keepUntil {l : Launch} {A : Nat → Prop} {Ke : State → Prop} {D : va_G} {cA : Nat → ClassId} {E : State → Heap → Prop} {adS adV adM : Nat → Nat} {adD : Nat} (hE : mEok E A) (hkw : gKw Ke) (hX : xSt l Ke E A adM adD) (hSt : sSt Ke A (KW D cA E A) adS adV) (s0 : Km) (a0 : Nat) (a1 : Int32) (a2 : Int32) : gCv l yX6_keepUntil cX6_keepUntil 3 (none) rm_X6_keepUntil Ke (KW D cA E A) A [.ref a0, .int a1, .int a2] s0 (K6_keepUntil s0 a0 a1 a2) := by
  refine g_metv (by decide) (by simp [lg_sl, Value.category]) ?_
  intro p e s m below meth c h hr hKs
  refine g_lv [(0, .ref a0), (1, .int a1), (2, .int a2)] [0, 1, 2] rfl ?_
  unfold K6_keepUntil
  refine g_iload_n h 1 dX6_keepUntil_0 rfl ?_
  refine g_aload_n h 0 dX6_keepUntil_1 rfl ?_
  refine k_kind (fun hk2_0 => ?_)
  refine k_geti h (RX6, TX6, 8) 5 (by decide) rfl hinX6 1 (by decide) rfl tW_82 dX6_keepUntil_2 hk2_0 ?_
  refine g_icmp_le h 16 dX6_keepUntil_5 (by decide) ?_ ?_
  · refine g_iload_n h 1 dX6_keepUntil_16 rfl ?_
    refine g_aload_n h 0 dX6_keepUntil_17 rfl ?_
    refine k_geti h (RX6, TX6, 8) 5 (by decide) rfl hinX6 0 (by decide) rfl tW_80 dX6_keepUntil_18 hk2_0 ?_
    refine g_icmp_le h 34 dX6_keepUntil_21 (by decide) ?_ ?_
    · refine g_lv [] [] rfl ?_
      exact K6_keepUntil_B34_w h hKs hE hkw hX hSt s0  hr
    · refine g_aload_n h 0 dX6_keepUntil_24 rfl ?_
      refine g_iload_n h 1 dX6_keepUntil_25 rfl ?_
      refine k_puti (x := a1) h hE (RX6, TX6, 8) 5 (by decide) rfl hinX6 0 (by decide) rfl tyX6 tyX6_ok nmX6 rfl tW_80 rfl rfl dX6_keepUntil_26 hk2_0 ?_
      refine g_bndE (fun s_26 hs_26 => ?_)
      refine g_aload_n h 0 dX6_keepUntil_29 rfl ?_
      refine g_iload_n h 2 dX6_keepUntil_30 rfl ?_
      refine k_puti (x := a2) h hE (RX6, TX6, 8) 5 (by decide) rfl hinX6 2 (by decide) rfl tyX6 tyX6_ok nmX6 rfl tW_85 rfl rfl dX6_keepUntil_31 (kKsI hs_26 hk2_0) ?_
      refine g_bndE (fun s_31 hs_31 => ?_)
      refine g_lv [] [] rfl ?_
      exact K6_keepUntil_B34_w h hKs hE hkw hX hSt s_31  hr
  · refine g_aload_n h 0 dX6_keepUntil_8 rfl ?_
    refine g_iload_n h 2 dX6_keepUntil_9 rfl ?_
    refine g_callV0v h (KW_mv hE) hkw hKs [.int a2] (c_X6_lose hE hkw hX hSt s0 a0 a2) yk_X6_lose tW_765 ⟨(Nat.le_of_ble_eq_true rfl), (Nat.le_of_ble_eq_true rfl)⟩ (KW_recv a0 5 (r := (RX6, TX6, 8)) hk2_0 (by decide) rfl) rfl rfl rfl rfl (Nat.le_of_ble_eq_true rfl) dX6_keepUntil_10 ⟨(Nat.le_of_ble_eq_true rfl), (Nat.le_of_ble_eq_true rfl)⟩ (fun s_10 => ?_)
    refine g_goto h 34 dX6_keepUntil_13 (by decide) ?_
    refine g_lv [] [] rfl ?_
    exact K6_keepUntil_B34_w h hKs hE hkw hX hSt s_10  hr
def rm_X6_endAt : Room := { frames := 1, cells := 0, slots := 0, locals := 21 }
theorem yk_X6_endAt : yOkV yX6_endAt cX6_endAt 3 (none) RX6 2 := ⟨tW_772, tW_4, tW_771, tP_27, by decide, by decide, by decide +kernel⟩
def K6_endAt_B34 (s0 : Km)  : Option (Km) :=
  some s0
set_option maxHeartbeats 4000000 in
set_option maxRecDepth 100000 in
theorem K6_endAt_B34_w {p : Program} {l : Launch} {e : Env} {s : State} {m : MethodId} {args : Array Value} {below : List Frame} {meth : Method} {c : Code} {A : Nat → Prop} {Ke : State → Prop} {D : va_G} {cA : Nat → ClassId} {E : State → Heap → Prop} {adS adV adM : Nat → Nat} {adD : Nat} (h : gOk p s m args meth c cX6_endAt 3 RX6 tb) (hKs : Ke s) (hE : mEok E A) (hkw : gKw Ke) (hX : xSt l Ke E A adM adD) (hSt : sSt Ke A (KW D cA E A) adS adV) (s0 : Km)  (hr : meth.sig.returnType = none)  : gS p l e rm_X6_endAt s m args below meth c 3 A (KW D cA E A) (fun X => MQ below (gPv (KW D cA E A) A X) args s rm_X6_endAt.cells rm_X6_endAt.slots A) (0) (0) (K6_endAt_B34 s0) s0 34 [] [] := by
  unfold K6_endAt_B34
  exact g_vret h (KW_mv hE) hr (Nat.le_of_ble_eq_true rfl) (Nat.le_of_ble_eq_true rfl) dX6_endAt_34
def K6_endAt (s0 : Km) (a0 : Nat) (a1 : Int32) (a2 : Int32) : Option (Km) :=
  if kK s0 a0 = 6 then
  if kI s0 a0 0 ≤ a1 then
    if kI s0 a0 1 ≤ a1 then
      K6_endAt_B34 s0
    else
      bnd (kSetI s0 a0 1 a1) (fun s_26 =>
      bnd (kSetI s_26 a0 3 a2) (fun s_31 =>
      K6_endAt_B34 s_31))
  else
    (K6_lose s0 a0 a2).bind (fun s_10 =>
    K6_endAt_B34 s_10)
  else none
set_option maxHeartbeats 4000000 in
set_option maxRecDepth 100000 in
theorem c_X6_endAt {l : Launch} {A : Nat → Prop} {Ke : State → Prop} {D : va_G} {cA : Nat → ClassId} {E : State → Heap → Prop} {adS adV adM : Nat → Nat} {adD : Nat} (hE : mEok E A) (hkw : gKw Ke) (hX : xSt l Ke E A adM adD) (hSt : sSt Ke A (KW D cA E A) adS adV) (s0 : Km) (a0 : Nat) (a1 : Int32) (a2 : Int32) : gCv l yX6_endAt cX6_endAt 3 (none) rm_X6_endAt Ke (KW D cA E A) A [.ref a0, .int a1, .int a2] s0 (K6_endAt s0 a0 a1 a2) := by
  refine g_metv (by decide) (by simp [lg_sl, Value.category]) ?_
  intro p e s m below meth c h hr hKs
  refine g_lv [(0, .ref a0), (1, .int a1), (2, .int a2)] [0, 1, 2] rfl ?_
  unfold K6_endAt
  refine g_iload_n h 1 dX6_endAt_0 rfl ?_
  refine g_aload_n h 0 dX6_endAt_1 rfl ?_
  refine k_kind (fun hk2_0 => ?_)
  refine k_geti h (RX6, TX6, 8) 5 (by decide) rfl hinX6 0 (by decide) rfl tW_80 dX6_endAt_2 hk2_0 ?_
  refine g_icmp_ge h 16 dX6_endAt_5 (by decide) ?_ ?_
  · refine g_iload_n h 1 dX6_endAt_16 rfl ?_
    refine g_aload_n h 0 dX6_endAt_17 rfl ?_
    refine k_geti h (RX6, TX6, 8) 5 (by decide) rfl hinX6 1 (by decide) rfl tW_82 dX6_endAt_18 hk2_0 ?_
    refine g_icmp_ge h 34 dX6_endAt_21 (by decide) ?_ ?_
    · refine g_lv [] [] rfl ?_
      exact K6_endAt_B34_w h hKs hE hkw hX hSt s0  hr
    · refine g_aload_n h 0 dX6_endAt_24 rfl ?_
      refine g_iload_n h 1 dX6_endAt_25 rfl ?_
      refine k_puti (x := a1) h hE (RX6, TX6, 8) 5 (by decide) rfl hinX6 1 (by decide) rfl tyX6 tyX6_ok nmX6 rfl tW_82 rfl rfl dX6_endAt_26 hk2_0 ?_
      refine g_bndE (fun s_26 hs_26 => ?_)
      refine g_aload_n h 0 dX6_endAt_29 rfl ?_
      refine g_iload_n h 2 dX6_endAt_30 rfl ?_
      refine k_puti (x := a2) h hE (RX6, TX6, 8) 5 (by decide) rfl hinX6 3 (by decide) rfl tyX6 tyX6_ok nmX6 rfl tW_87 rfl rfl dX6_endAt_31 (kKsI hs_26 hk2_0) ?_
      refine g_bndE (fun s_31 hs_31 => ?_)
      refine g_lv [] [] rfl ?_
      exact K6_endAt_B34_w h hKs hE hkw hX hSt s_31  hr
  · refine g_aload_n h 0 dX6_endAt_8 rfl ?_
    refine g_iload_n h 2 dX6_endAt_9 rfl ?_
    refine g_callV0v h (KW_mv hE) hkw hKs [.int a2] (c_X6_lose hE hkw hX hSt s0 a0 a2) yk_X6_lose tW_765 ⟨(Nat.le_of_ble_eq_true rfl), (Nat.le_of_ble_eq_true rfl)⟩ (KW_recv a0 5 (r := (RX6, TX6, 8)) hk2_0 (by decide) rfl) rfl rfl rfl rfl (Nat.le_of_ble_eq_true rfl) dX6_endAt_10 ⟨(Nat.le_of_ble_eq_true rfl), (Nat.le_of_ble_eq_true rfl)⟩ (fun s_10 => ?_)
    refine g_goto h 34 dX6_endAt_13 (by decide) ?_
    refine g_lv [] [] rfl ?_
    exact K6_endAt_B34_w h hKs hE hkw hX hSt s_10  hr
def rm_X6_take : Room := { frames := 2, cells := 0, slots := 0, locals := 43 }
theorem yk_X6_take : yOkV yX6_take cX6_take 4 (none) RX6 3 := ⟨tW_760, tW_4, tW_759, tP_24, by decide, by decide, by decide +kernel⟩
def K6_take_B34 (s0 : Km)  : Option (Km) :=
  some s0
set_option maxHeartbeats 4000000 in
set_option maxRecDepth 100000 in
theorem K6_take_B34_w {p : Program} {l : Launch} {e : Env} {s : State} {m : MethodId} {args : Array Value} {below : List Frame} {meth : Method} {c : Code} {A : Nat → Prop} {Ke : State → Prop} {D : va_G} {cA : Nat → ClassId} {E : State → Heap → Prop} {adS adV adM : Nat → Nat} {adD : Nat} (h : gOk p s m args meth c cX6_take 4 RX6 tb) (hKs : Ke s) (hE : mEok E A) (hkw : gKw Ke) (hX : xSt l Ke E A adM adD) (hSt : sSt Ke A (KW D cA E A) adS adV) (s0 : Km)  (hr : meth.sig.returnType = none)  : gS p l e rm_X6_take s m args below meth c 4 A (KW D cA E A) (fun X => MQ below (gPv (KW D cA E A) A X) args s rm_X6_take.cells rm_X6_take.slots A) (0) (0) (K6_take_B34 s0) s0 34 [] [] := by
  unfold K6_take_B34
  exact g_vret h (KW_mv hE) hr (Nat.le_of_ble_eq_true rfl) (Nat.le_of_ble_eq_true rfl) dX6_take_34
def K6_take_B16 (s0 : Km) (t0 : Int32) (t1 : Nat) (a2 : Int32) : Option (Km) :=
  if kK s0 t1 = 6 then
  (K6_keepUntil s0 t1 t0 a2).bind (fun s_17 =>
  K6_take_B34 s_17)
  else none
set_option maxHeartbeats 4000000 in
set_option maxRecDepth 100000 in
theorem K6_take_B16_w {p : Program} {l : Launch} {e : Env} {s : State} {m : MethodId} {args : Array Value} {below : List Frame} {meth : Method} {c : Code} {A : Nat → Prop} {Ke : State → Prop} {D : va_G} {cA : Nat → ClassId} {E : State → Heap → Prop} {adS adV adM : Nat → Nat} {adD : Nat} (h : gOk p s m args meth c cX6_take 4 RX6 tb) (hKs : Ke s) (hE : mEok E A) (hkw : gKw Ke) (hX : xSt l Ke E A adM adD) (hSt : sSt Ke A (KW D cA E A) adS adV) (s0 : Km) (t0 : Int32) (t1 : Nat) (a2 : Int32) (hr : meth.sig.returnType = none)  : gS p l e rm_X6_take s m args below meth c 4 A (KW D cA E A) (fun X => MQ below (gPv (KW D cA E A) A X) args s rm_X6_take.cells rm_X6_take.slots A) (0) (0) (K6_take_B16 s0 t0 t1 a2) s0 16 [(2, .int a2)] [.int t0, .ref t1] := by
  unfold K6_take_B16
  refine g_iload_n h 0 dX6_take_16 rfl ?_
  refine k_kind (fun hk17_0 => ?_)
  refine g_callV0v h (KW_mv hE) hkw hKs [.int t0, .int a2] (c_X6_keepUntil hE hkw hX hSt s0 t1 t0 a2) yk_X6_keepUntil tW_761 ⟨(Nat.le_of_ble_eq_true rfl), (Nat.le_of_ble_eq_true rfl)⟩ (KW_recv t1 5 (r := (RX6, TX6, 8)) hk17_0 (by decide) rfl) rfl rfl rfl rfl (Nat.le_of_ble_eq_true rfl) dX6_take_17 ⟨(Nat.le_of_ble_eq_true rfl), (Nat.le_of_ble_eq_true rfl)⟩ (fun s_17 => ?_)
  refine g_goto h 34 dX6_take_20 (by decide) ?_
  refine g_lv [] [] rfl ?_
  exact K6_take_B34_w h hKs hE hkw hX hSt s_17  hr
def K6_take (s0 : Km) (a0 : Nat) (a1 : Int32) (a2 : Int32) (a3 : Int32) : Option (Km) :=
  if a1 = 0 then
    if a3 = (-1 : Int32) then
      K6_take_B16 s0 (999999 : Int32) a0 a2
    else
      K6_take_B16 s0 a3 a0 a2
  else
    if a3 = (-1 : Int32) then
      K6_take_B34 s0
    else
      if kK s0 a0 = 6 then
      (K6_endAt s0 a0 a3 a2).bind (fun s_31 =>
      K6_take_B34 s_31)
      else none
set_option maxHeartbeats 4000000 in
set_option maxRecDepth 100000 in
theorem c_X6_take {l : Launch} {A : Nat → Prop} {Ke : State → Prop} {D : va_G} {cA : Nat → ClassId} {E : State → Heap → Prop} {adS adV adM : Nat → Nat} {adD : Nat} (hE : mEok E A) (hkw : gKw Ke) (hX : xSt l Ke E A adM adD) (hSt : sSt Ke A (KW D cA E A) adS adV) (s0 : Km) (a0 : Nat) (a1 : Int32) (a2 : Int32) (a3 : Int32) : gCv l yX6_take cX6_take 4 (none) rm_X6_take Ke (KW D cA E A) A [.ref a0, .int a1, .int a2, .int a3] s0 (K6_take s0 a0 a1 a2 a3) := by
  refine g_metv (by decide) (by simp [lg_sl, Value.category]) ?_
  intro p e s m below meth c h hr hKs
  refine g_lv [(0, .ref a0), (1, .int a1), (2, .int a2), (3, .int a3)] [0, 1, 2, 3] rfl ?_
  unfold K6_take
  refine g_iload_n h 1 dX6_take_0 rfl ?_
  refine g_if_ne h 23 dX6_take_1 (by decide) ?_ ?_
  · refine g_iload_n h 3 dX6_take_23 rfl ?_
    refine g_iconst (v := -1) h dX6_take_24 (by decide) ?_
    refine g_icmp_eq h 34 dX6_take_25 (by decide) ?_ ?_
    · refine g_lv [] [] rfl ?_
      exact K6_take_B34_w h hKs hE hkw hX hSt s0  hr
    · refine g_aload_n h 0 dX6_take_28 rfl ?_
      refine g_iload_n h 3 dX6_take_29 rfl ?_
      refine g_iload_n h 2 dX6_take_30 rfl ?_
      refine k_kind (fun hk31_0 => ?_)
      refine g_callV0v h (KW_mv hE) hkw hKs [.int a3, .int a2] (c_X6_endAt hE hkw hX hSt s0 a0 a3 a2) yk_X6_endAt tW_769 ⟨(Nat.le_of_ble_eq_true rfl), (Nat.le_of_ble_eq_true rfl)⟩ (KW_recv a0 5 (r := (RX6, TX6, 8)) hk31_0 (by decide) rfl) rfl rfl rfl rfl (Nat.le_of_ble_eq_true rfl) dX6_take_31 ⟨(Nat.le_of_ble_eq_true rfl), (Nat.le_of_ble_eq_true rfl)⟩ (fun s_31 => ?_)
      refine g_lv [] [] rfl ?_
      exact K6_take_B34_w h hKs hE hkw hX hSt s_31  hr
  · refine g_aload_n h 0 dX6_take_4 rfl ?_
    refine g_iload_n h 3 dX6_take_5 rfl ?_
    refine g_iconst (v := -1) h dX6_take_6 (by decide) ?_
    refine g_icmp_ne h 15 dX6_take_7 (by decide) ?_ ?_
    · refine g_iload_n h 3 dX6_take_15 rfl ?_
      refine g_lv [(2, .int a2)] [2] rfl ?_
      exact K6_take_B16_w h hKs hE hkw hX hSt s0 a3 a0 a2 hr
    · refine g_ldc (v := 999999) h tW_748 dX6_take_10 ?_
      refine g_goto h 16 dX6_take_12 (by decide) ?_
      refine g_lv [(2, .int a2)] [2] rfl ?_
      exact K6_take_B16_w h hKs hE hkw hX hSt s0 (999999 : Int32) a0 a2 hr
def rm_X6_settle : Room := { frames := 4, cells := 0, slots := 0, locals := 92 }
theorem yk_X6_settle : yOkV yX6_settle cX6_settle 7 (none) RX6 3 := ⟨tW_747, tW_4, tW_745, tW_746, by decide, by decide, by decide +kernel⟩
def K6_settle_B116 {Rt : Type} (s0 : Km) (rec : Km → Int32 → Option Rt) (k122 : Km → Option Rt) (a0 : Nat) (a1 : Nat) (a2 : Int32) (a3 : Nat) (l4 : Int32) : Option (Rt) :=
  rec s0 (l4 + 1)
set_option maxHeartbeats 4000000 in
set_option maxRecDepth 100000 in
theorem K6_settle_B116_w {p : Program} {l : Launch} {e : Env} {s : State} {m : MethodId} {args : Array Value} {below : List Frame} {meth : Method} {c : Code} {A : Nat → Prop} {Ke : State → Prop} {D : va_G} {cA : Nat → ClassId} {E : State → Heap → Prop} {adS adV adM : Nat → Nat} {adD : Nat} (h : gOk p s m args meth c cX6_settle 7 RX6 tb) (hKs : Ke s) (hE : mEok E A) (hkw : gKw Ke) (hX : xSt l Ke E A adM adD) (hSt : sSt Ke A (KW D cA E A) adS adV) {Rt : Type} {QX : Rt → State → Prop} {rec : Km → Int32 → Option Rt} {k122 : Km → Option Rt} (s0 : Km) (a0 : Nat) (a1 : Nat) (a2 : Int32) (a3 : Nat) (l4 : Int32) (hrec : ∀ (sx : Km) (l4 : Int32), gS p l e rm_X6_settle s m args below meth c 7 A (KW D cA E A) QX (0) (0) (rec sx l4) sx 62 [(0, .ref a0), (1, .ref a1), (2, .int a2), (3, .ref a3), (4, .int l4)] []) (hk122 : ∀ (sx : Km), gS p l e rm_X6_settle s m args below meth c 7 A (KW D cA E A) QX (0) (0) (k122 sx) sx 122 [] []) : gS p l e rm_X6_settle s m args below meth c 7 A (KW D cA E A) QX (0) (0) (K6_settle_B116 s0 rec k122 a0 a1 a2 a3 l4) s0 116 [(0, .ref a0), (1, .ref a1), (2, .int a2), (3, .ref a3), (4, .int l4)] [] := by
  unfold K6_settle_B116
  refine g_iinc (v := l4 + 1) (i := 4) h [(4, .int (l4 + 1)), (0, .ref a0), (1, .ref a1), (2, .int a2), (3, .ref a3)] dX6_settle_116 rfl rfl (by decide) rfl ?_
  refine g_goto h 62 dX6_settle_119 (by decide) ?_
  refine g_lv [(0, .ref a0), (1, .ref a1), (2, .int a2), (3, .ref a3), (4, .int (l4 + 1))] [1, 2, 3, 4, 0] rfl ?_
  exact hrec s0 (l4 + 1)
def K6_settle_L62 {Rt : Type} (a0 : Nat) (a1 : Nat) (a2 : Int32) (a3 : Nat) (k122 : Km → Option Rt) : Nat → Km → Int32 → Option Rt
  | 0, _, _ => none
  | F + 1, s0, l4 =>
  if kK s0 a3 = 5 then
    if kI s0 a3 4 ≤ l4 then
      k122 s0
    else
      (kR s0 a3 3).bind (fun b72 =>
      if kK s0 b72 = 12 then
      if okI l4 (kN s0 b72) = true then
      bnd (kI s0 b72 l4.toNatClampNeg) (fun v5_78 =>
      (kR s0 a3 1).bind (fun b81 =>
      if kK s0 b81 = 15 then
      if okI v5_78 (kN s0 b81) = true then
      (kR s0 b81 v5_78.toNatClampNeg).bind (fun b86 =>
      if kK s0 b86 = 3 then
      (K3_isFor s0 b86 a1 a2).bind (fun r_93 =>
      if r_93 = 0 then
        K6_settle_B116 s0 (K6_settle_L62 a0 a1 a2 a3 k122 F) k122 a0 a1 a2 a3 l4
      else
        (K3_dayFor s0 b86 a1).bind (fun r_110 =>
        if kK s0 a0 = 6 then
        (K6_take s0 a0 (kI s0 b86 0) v5_78 r_110).bind (fun s_113 =>
        K6_settle_B116 s_113 (K6_settle_L62 a0 a1 a2 a3 k122 F) k122 a0 a1 a2 a3 l4)
        else none))
      else none)
      else none
      else none))
      else none
      else none)
    else none
set_option maxHeartbeats 4000000 in
set_option maxRecDepth 100000 in
theorem K6_settle_L62_w {p : Program} {l : Launch} {e : Env} {s : State} {m : MethodId} {args : Array Value} {below : List Frame} {meth : Method} {c : Code} {A : Nat → Prop} {Ke : State → Prop} {D : va_G} {cA : Nat → ClassId} {E : State → Heap → Prop} {adS adV adM : Nat → Nat} {adD : Nat} (h : gOk p s m args meth c cX6_settle 7 RX6 tb) (hKs : Ke s) (hE : mEok E A) (hkw : gKw Ke) (hX : xSt l Ke E A adM adD) (hSt : sSt Ke A (KW D cA E A) adS adV) {Rt : Type} {QX : Rt → State → Prop} (a0 : Nat) (a1 : Nat) (a2 : Int32) (a3 : Nat) {k122 : Km → Option Rt} (hk122 : ∀ (sx : Km), gS p l e rm_X6_settle s m args below meth c 7 A (KW D cA E A) QX (0) (0) (k122 sx) sx 122 [] []) : ∀ (F : Nat), ∀ (s0 : Km) (l4 : Int32), gS p l e rm_X6_settle s m args below meth c 7 A (KW D cA E A) QX (0) (0) (K6_settle_L62 a0 a1 a2 a3 k122 F s0 l4) s0 62 [(0, .ref a0), (1, .ref a1), (2, .int a2), (3, .ref a3), (4, .int l4)] [] := by
  intro F
  induction F with
  | zero =>
    intro s0 l4
    unfold K6_settle_L62
    exact g_none
  | succ F ih =>
    intro s0 l4
    unfold K6_settle_L62
    refine g_iload h 4 dX6_settle_62 rfl ?_
    refine g_aload_n h 3 dX6_settle_64 rfl ?_
    refine k_kind (fun hk65_0 => ?_)
    refine k_geti h (RX5, TX5, 5) 4 (by decide) rfl hinX5 4 (by decide) rfl tW_381 dX6_settle_65 hk65_0 ?_
    refine g_icmp_ge h 122 dX6_settle_68 (by decide) ?_ ?_
    · refine g_lv [] [] rfl ?_
      exact hk122 s0
    · refine g_aload_n h 3 dX6_settle_71 rfl ?_
      refine k_getr h (RX5, TX5, 5) 4 (by decide) rfl hinX5 3 (by decide) rfl tW_380 dX6_settle_72 hk65_0 ?_
      refine g_ob (fun b72 => ?_)
      refine g_iload h 4 dX6_settle_75 rfl ?_
      refine k_kind (fun hk77_0 => ?_)
      refine k_iald h dX6_settle_77 hk77_0 ?_
      refine g_bndi (fun v5_78 => ?_)
      refine g_istore h [(5, .int v5_78), (0, .ref a0), (1, .ref a1), (2, .int a2), (3, .ref a3), (4, .int l4)] dX6_settle_78 (by decide) rfl ?_
      refine g_aload_n h 4 dX6_settle_80 rfl ?_
      refine k_getr h (RX5, TX5, 5) 4 (by decide) rfl hinX5 1 (by decide) rfl tW_375 dX6_settle_81 hk65_0 ?_
      refine g_ob (fun b81 => ?_)
      refine g_iload h 0 dX6_settle_84 rfl ?_
      refine k_kind (fun hk86_0 => ?_)
      refine k_aald h 15 4 (by decide) "KeepForget$Rule" rfl dX6_settle_86 hk86_0 ?_
      refine g_ob (fun b86 => ?_)
      refine g_astore h [(6, .ref b86), (5, .int v5_78), (0, .ref a0), (1, .ref a1), (2, .int a2), (3, .ref a3), (4, .int l4)] dX6_settle_87 (by decide) rfl ?_
      refine g_aload h 0 dX6_settle_89 rfl ?_
      refine g_aload_n h 3 dX6_settle_91 rfl ?_
      refine g_iload_n h 4 dX6_settle_92 rfl ?_
      refine k_kind (fun hk93_0 => ?_)
      refine g_callV0p h (KW_mv hE) hkw hKs [.ref a1, .int a2] (c_X3_isFor hE hkw hX hSt s0 b86 a1 a2) yk_X3_isFor tW_749 ⟨(Nat.le_of_ble_eq_true rfl), (Nat.le_of_ble_eq_true rfl)⟩ (KW_recv b86 2 (r := (RX3, TX3, 12)) hk93_0 (by decide) rfl) rfl rfl rfl rfl (Nat.le_of_ble_eq_true rfl) dX6_settle_93 ⟨(Nat.le_of_ble_eq_true rfl), (Nat.le_of_ble_eq_true rfl)⟩ (fun r_93 => ?_)
      refine g_if_eq h 116 dX6_settle_96 (by decide) ?_ ?_
      · refine g_lv [(0, .ref a0), (1, .ref a1), (2, .int a2), (3, .ref a3), (4, .int l4)] [2, 3, 4, 5, 6] rfl ?_
        exact K6_settle_B116_w h hKs hE hkw hX hSt s0 a0 a1 a2 a3 l4 (ih) hk122
      · refine g_aload_n h 2 dX6_settle_99 rfl ?_
        refine g_aload h 0 dX6_settle_100 rfl ?_
        refine k_geti h (RX3, TX3, 12) 2 (by decide) rfl hinX3 0 (by decide) rfl tW_517 dX6_settle_102 hk93_0 ?_
        refine g_iload h 1 dX6_settle_105 rfl ?_
        refine g_aload h 0 dX6_settle_107 rfl ?_
        refine g_aload_n h 3 dX6_settle_109 rfl ?_
        refine g_callV0p h (KW_mv hE) hkw hKs [.ref a1] (c_X3_dayFor hE hkw hX hSt s0 b86 a1) yk_X3_dayFor tW_750 ⟨(Nat.le_of_ble_eq_true rfl), (Nat.le_of_ble_eq_true rfl)⟩ (KW_recv b86 2 (r := (RX3, TX3, 12)) hk93_0 (by decide) rfl) rfl rfl rfl rfl (Nat.le_of_ble_eq_true rfl) dX6_settle_110 ⟨(Nat.le_of_ble_eq_true rfl), (Nat.le_of_ble_eq_true rfl)⟩ (fun r_110 => ?_)
        refine k_kind (fun hk113_0 => ?_)
        refine g_callV0v h (KW_mv hE) hkw hKs [.int (kI s0 b86 0), .int v5_78, .int r_110] (c_X6_take hE hkw hX hSt s0 a0 (kI s0 b86 0) v5_78 r_110) yk_X6_take tW_757 ⟨(Nat.le_of_ble_eq_true rfl), (Nat.le_of_ble_eq_true rfl)⟩ (KW_recv a0 5 (r := (RX6, TX6, 8)) hk113_0 (by decide) rfl) rfl rfl rfl rfl (Nat.le_of_ble_eq_true rfl) dX6_settle_113 ⟨(Nat.le_of_ble_eq_true rfl), (Nat.le_of_ble_eq_true rfl)⟩ (fun s_113 => ?_)
        refine g_lv [(0, .ref a0), (1, .ref a1), (2, .int a2), (3, .ref a3), (4, .int l4)] [2, 3, 4, 5, 6] rfl ?_
        exact K6_settle_B116_w h hKs hE hkw hX hSt s_113 a0 a1 a2 a3 l4 (ih) hk122
def K6_settle_B43 (s0 : Km) (t0 : Int32) (t1 : Nat) (a0 : Nat) (a1 : Nat) (a2 : Int32) (a3 : Option Nat) : Option (Km) :=
  if kK s0 t1 = 6 then
  if okZ t0 = true then
  bnd (kSetI s0 t1 6 t0) (fun s_43 =>
  if kK s_43 a1 = 8 then
  if kK s_43 a0 = 6 then
  if okZ (kI s_43 a1 5) = true then
  bnd (kSetI s_43 a0 7 (kI s_43 a1 5)) (fun s_51 =>
  om a3 (some s_51) (fun b55 =>
    K6_settle_L62 a0 a1 a2 b55 (fun s_122 => some s_122) gF s_51 (0 : Int32)))
  else none
  else none
  else none)
  else none
  else none
set_option maxHeartbeats 4000000 in
set_option maxRecDepth 100000 in
theorem K6_settle_B43_w {p : Program} {l : Launch} {e : Env} {s : State} {m : MethodId} {args : Array Value} {below : List Frame} {meth : Method} {c : Code} {A : Nat → Prop} {Ke : State → Prop} {D : va_G} {cA : Nat → ClassId} {E : State → Heap → Prop} {adS adV adM : Nat → Nat} {adD : Nat} (h : gOk p s m args meth c cX6_settle 7 RX6 tb) (hKs : Ke s) (hE : mEok E A) (hkw : gKw Ke) (hX : xSt l Ke E A adM adD) (hSt : sSt Ke A (KW D cA E A) adS adV) (s0 : Km) (t0 : Int32) (t1 : Nat) (a0 : Nat) (a1 : Nat) (a2 : Int32) (a3 : Option Nat) (hr : meth.sig.returnType = none)  : gS p l e rm_X6_settle s m args below meth c 7 A (KW D cA E A) (fun X => MQ below (gPv (KW D cA E A) A X) args s rm_X6_settle.cells rm_X6_settle.slots A) (0) (0) (K6_settle_B43 s0 t0 t1 a0 a1 a2 a3) s0 43 [(0, .ref a0), (1, .ref a1), (2, .int a2), (3, va_rf a3)] [.int t0, .ref t1] := by
  unfold K6_settle_B43
  refine k_kind (fun hk43_0 => ?_)
  refine g_guard (fun hz43 => ?_)
  refine k_puti (x := t0) h hE (RX6, TX6, 8) 5 (by decide) rfl hinX6 6 (by decide) rfl tyX6 tyX6_ok nmX6 rfl tW_94 (okZ_nar hz43) (okZ_fit hz43) dX6_settle_43 hk43_0 ?_
  refine g_bndE (fun s_43 hs_43 => ?_)
  refine g_aload_n h 0 dX6_settle_46 rfl ?_
  refine g_aload_n h 1 dX6_settle_47 rfl ?_
  refine k_kind (fun hk48_0 => ?_)
  refine k_geti h (RX8, TX8, 6) 7 (by decide) rfl hinX8 5 (by decide) rfl tW_187 dX6_settle_48 hk48_0 ?_
  refine k_kind (fun hk51_0 => ?_)
  refine g_guard (fun hz51 => ?_)
  refine k_puti (x := (kI s_43 a1 5)) h hE (RX6, TX6, 8) 5 (by decide) rfl hinX6 7 (by decide) rfl tyX6 tyX6_ok nmX6 rfl tW_96 (okZ_nar hz51) (okZ_fit hz51) dX6_settle_51 hk51_0 ?_
  refine g_bndE (fun s_51 hs_51 => ?_)
  refine g_aload_nq h 3 dX6_settle_54 rfl ?_
  refine g_ifnonnull h (fun z9 => [(0, .ref a0), (1, .ref a1), (2, .int a2), (3, va_rf z9)]) 59 dX6_settle_55 (by decide) ?_ (fun b55 => ?_)
  · exact g_vret h (KW_mv hE) hr (Nat.le_of_ble_eq_true rfl) (Nat.le_of_ble_eq_true rfl) dX6_settle_58
  · refine g_iconst (v := 0) h dX6_settle_59 (by decide) ?_
    refine g_istore h [(4, .int (0 : Int32)), (0, .ref a0), (1, .ref a1), (2, .int a2), (3, .ref b55)] dX6_settle_60 (by decide) rfl ?_
    refine g_lv [(0, .ref a0), (1, .ref a1), (2, .int a2), (3, .ref b55), (4, .int (0 : Int32))] [1, 2, 3, 4, 0] rfl ?_
    refine K6_settle_L62_w h hKs hE hkw hX hSt a0 a1 a2 b55 (fun s_122 => ?_) gF s_51 (0 : Int32)
    · exact g_vret h (KW_mv hE) hr (Nat.le_of_ble_eq_true rfl) (Nat.le_of_ble_eq_true rfl) dX6_settle_122
def K6_settle (s0 : Km) (a0 : Nat) (a1 : Nat) (a2 : Int32) (a3 : Option Nat) : Option (Km) :=
  if kK s0 a0 = 6 then
  bnd (kSetI s0 a0 0 (0 : Int32)) (fun s_2 =>
  bnd (kSetI s_2 a0 1 (999999 : Int32)) (fun s_8 =>
  bnd (kSetI s_8 a0 2 (-1 : Int32)) (fun s_13 =>
  bnd (kSetI s_13 a0 3 (-1 : Int32)) (fun s_18 =>
  bnd (kSetI s_18 a0 5 (0 : Int32)) (fun s_23 =>
  if kK s_23 a1 = 8 then
  if ((kI s_23 a1 4) >>> (a2 &&& 31)) &&& (1 : Int32) = 0 then
    K6_settle_B43 s_23 (0 : Int32) a0 a0 a1 a2 a3
  else
    K6_settle_B43 s_23 (1 : Int32) a0 a0 a1 a2 a3
  else none)))))
  else none
set_option maxHeartbeats 4000000 in
set_option maxRecDepth 100000 in
theorem c_X6_settle {l : Launch} {A : Nat → Prop} {Ke : State → Prop} {D : va_G} {cA : Nat → ClassId} {E : State → Heap → Prop} {adS adV adM : Nat → Nat} {adD : Nat} (hE : mEok E A) (hkw : gKw Ke) (hX : xSt l Ke E A adM adD) (hSt : sSt Ke A (KW D cA E A) adS adV) (s0 : Km) (a0 : Nat) (a1 : Nat) (a2 : Int32) (a3 : Option Nat) : gCv l yX6_settle cX6_settle 7 (none) rm_X6_settle Ke (KW D cA E A) A [.ref a0, .ref a1, .int a2, va_rf a3] s0 (K6_settle s0 a0 a1 a2 a3) := by
  refine g_metv (by decide) (by cases a3 <;> simp [lg_sl, va_rf, Value.category]) ?_
  intro p e s m below meth c h hr hKs
  refine g_lv [(0, .ref a0), (1, .ref a1), (2, .int a2), (3, va_rf a3)] [0, 1, 2, 3] (by cases a3 <;> rfl) ?_
  unfold K6_settle
  refine g_aload_n h 0 dX6_settle_0 rfl ?_
  refine g_iconst (v := 0) h dX6_settle_1 (by decide) ?_
  refine k_kind (fun hk2_0 => ?_)
  refine k_puti (x := (0 : Int32)) h hE (RX6, TX6, 8) 5 (by decide) rfl hinX6 0 (by decide) rfl tyX6 tyX6_ok nmX6 rfl tW_80 rfl rfl dX6_settle_2 hk2_0 ?_
  refine g_bndE (fun s_2 hs_2 => ?_)
  refine g_aload_n h 0 dX6_settle_5 rfl ?_
  refine g_ldc (v := 999999) h tW_748 dX6_settle_6 ?_
  refine k_puti (x := (999999 : Int32)) h hE (RX6, TX6, 8) 5 (by decide) rfl hinX6 1 (by decide) rfl tyX6 tyX6_ok nmX6 rfl tW_82 rfl rfl dX6_settle_8 (kKsI hs_2 hk2_0) ?_
  refine g_bndE (fun s_8 hs_8 => ?_)
  refine g_aload_n h 0 dX6_settle_11 rfl ?_
  refine g_iconst (v := -1) h dX6_settle_12 (by decide) ?_
  refine k_puti (x := (-1 : Int32)) h hE (RX6, TX6, 8) 5 (by decide) rfl hinX6 2 (by decide) rfl tyX6 tyX6_ok nmX6 rfl tW_85 rfl rfl dX6_settle_13 (kKsI hs_8 (kKsI hs_2 hk2_0)) ?_
  refine g_bndE (fun s_13 hs_13 => ?_)
  refine g_aload_n h 0 dX6_settle_16 rfl ?_
  refine g_iconst (v := -1) h dX6_settle_17 (by decide) ?_
  refine k_puti (x := (-1 : Int32)) h hE (RX6, TX6, 8) 5 (by decide) rfl hinX6 3 (by decide) rfl tyX6 tyX6_ok nmX6 rfl tW_87 rfl rfl dX6_settle_18 (kKsI hs_13 (kKsI hs_8 (kKsI hs_2 hk2_0))) ?_
  refine g_bndE (fun s_18 hs_18 => ?_)
  refine g_aload_n h 0 dX6_settle_21 rfl ?_
  refine g_iconst (v := 0) h dX6_settle_22 (by decide) ?_
  refine k_puti (x := (0 : Int32)) h hE (RX6, TX6, 8) 5 (by decide) rfl hinX6 5 (by decide) rfl tyX6 tyX6_ok nmX6 rfl tW_92 rfl rfl dX6_settle_23 (kKsI hs_18 (kKsI hs_13 (kKsI hs_8 (kKsI hs_2 hk2_0)))) ?_
  refine g_bndE (fun s_23 hs_23 => ?_)
  refine g_aload_n h 0 dX6_settle_26 rfl ?_
  refine g_aload_n h 1 dX6_settle_27 rfl ?_
  refine k_kind (fun hk28_0 => ?_)
  refine k_geti h (RX8, TX8, 6) 7 (by decide) rfl hinX8 4 (by decide) rfl tW_185 dX6_settle_28 hk28_0 ?_
  refine g_iload_n h 2 dX6_settle_31 rfl ?_
  refine g_ishr h dX6_settle_32 ?_
  refine g_iconst (v := 1) h dX6_settle_33 (by decide) ?_
  refine g_iand h dX6_settle_34 ?_
  refine g_if_eq h 42 dX6_settle_35 (by decide) ?_ ?_
  · refine g_iconst (v := 0) h dX6_settle_42 (by decide) ?_
    exact K6_settle_B43_w h hKs hE hkw hX hSt s_23 (0 : Int32) a0 a0 a1 a2 a3 hr
  · refine g_iconst (v := 1) h dX6_settle_38 (by decide) ?_
    refine g_goto h 43 dX6_settle_39 (by decide) ?_
    exact K6_settle_B43_w h hKs hE hkw hX hSt s_23 (1 : Int32) a0 a0 a1 a2 a3 hr
def rm_X6_isDue : Room := { frames := 0, cells := 0, slots := 0, locals := 0 }
theorem yk_X6_isDue : yOkV yX6_isDue cX6_isDue 2 (some .boolean) RX6 1 := ⟨tW_776, tW_4, tW_774, tW_775, by decide, by decide, by decide +kernel⟩
def K6_isDue_B36 (s0 : Km) (t0 : Int32) : Option (Int32) :=
  if okZ t0 = true then some t0 else none
set_option maxHeartbeats 4000000 in
set_option maxRecDepth 100000 in
theorem K6_isDue_B36_w {p : Program} {l : Launch} {e : Env} {s : State} {m : MethodId} {args : Array Value} {below : List Frame} {meth : Method} {c : Code} {A : Nat → Prop} {Ke : State → Prop} {D : va_G} {cA : Nat → ClassId} {E : State → Heap → Prop} {adS adV adM : Nat → Nat} {adD : Nat} (h : gOk p s m args meth c cX6_isDue 2 RX6 tb) (hKs : Ke s) (hE : mEok E A) (hkw : gKw Ke) (hX : xSt l Ke E A adM adD) (hSt : sSt Ke A (KW D cA E A) adS adV) (s0 : Km) (t0 : Int32) (hr : meth.sig.returnType = some .boolean)  : gS p l e rm_X6_isDue s m args below meth c 2 A (KW D cA E A) (fun X => MQ below (gPi (KW D cA E A) A (X, s0)) args s rm_X6_isDue.cells rm_X6_isDue.slots A) (0) (0) (K6_isDue_B36 s0 t0) s0 36 [] [.int t0] := by
  unfold K6_isDue_B36
  refine g_guard (fun hz => ?_)
  exact g_zretp h (KW_mv hE) hr (Nat.le_of_ble_eq_true rfl) (Nat.le_of_ble_eq_true rfl) hz dX6_isDue_36
def K6_isDue_B35 (s0 : Km)  : Option (Int32) :=
  K6_isDue_B36 s0 (0 : Int32)
set_option maxHeartbeats 4000000 in
set_option maxRecDepth 100000 in
theorem K6_isDue_B35_w {p : Program} {l : Launch} {e : Env} {s : State} {m : MethodId} {args : Array Value} {below : List Frame} {meth : Method} {c : Code} {A : Nat → Prop} {Ke : State → Prop} {D : va_G} {cA : Nat → ClassId} {E : State → Heap → Prop} {adS adV adM : Nat → Nat} {adD : Nat} (h : gOk p s m args meth c cX6_isDue 2 RX6 tb) (hKs : Ke s) (hE : mEok E A) (hkw : gKw Ke) (hX : xSt l Ke E A adM adD) (hSt : sSt Ke A (KW D cA E A) adS adV) (s0 : Km)  (hr : meth.sig.returnType = some .boolean)  : gS p l e rm_X6_isDue s m args below meth c 2 A (KW D cA E A) (fun X => MQ below (gPi (KW D cA E A) A (X, s0)) args s rm_X6_isDue.cells rm_X6_isDue.slots A) (0) (0) (K6_isDue_B35 s0) s0 35 [] [] := by
  unfold K6_isDue_B35
  refine g_iconst (v := 0) h dX6_isDue_35 (by decide) ?_
  exact K6_isDue_B36_w h hKs hE hkw hX hSt s0 (0 : Int32) hr
def K6_isDue_B31 (s0 : Km)  : Option (Int32) :=
  K6_isDue_B36 s0 (1 : Int32)
set_option maxHeartbeats 4000000 in
set_option maxRecDepth 100000 in
theorem K6_isDue_B31_w {p : Program} {l : Launch} {e : Env} {s : State} {m : MethodId} {args : Array Value} {below : List Frame} {meth : Method} {c : Code} {A : Nat → Prop} {Ke : State → Prop} {D : va_G} {cA : Nat → ClassId} {E : State → Heap → Prop} {adS adV adM : Nat → Nat} {adD : Nat} (h : gOk p s m args meth c cX6_isDue 2 RX6 tb) (hKs : Ke s) (hE : mEok E A) (hkw : gKw Ke) (hX : xSt l Ke E A adM adD) (hSt : sSt Ke A (KW D cA E A) adS adV) (s0 : Km)  (hr : meth.sig.returnType = some .boolean)  : gS p l e rm_X6_isDue s m args below meth c 2 A (KW D cA E A) (fun X => MQ below (gPi (KW D cA E A) A (X, s0)) args s rm_X6_isDue.cells rm_X6_isDue.slots A) (0) (0) (K6_isDue_B31 s0) s0 31 [] [] := by
  unfold K6_isDue_B31
  refine g_iconst (v := 1) h dX6_isDue_31 (by decide) ?_
  refine g_goto h 36 dX6_isDue_32 (by decide) ?_
  exact K6_isDue_B36_w h hKs hE hkw hX hSt s0 (1 : Int32) hr
def K6_isDue (s0 : Km) (a0 : Nat) (a1 : Int32) : Option (Int32) :=
  if kK s0 a0 = 6 then
  if kI s0 a0 6 = 0 then
    if a1 < kI s0 a0 0 then
      K6_isDue_B35 s0
    else
      if kI s0 a0 1 = (999999 : Int32) then
        if kI s0 a0 7 = 0 then
          K6_isDue_B35 s0
        else
          K6_isDue_B31 s0
      else
        K6_isDue_B31 s0
  else
    K6_isDue_B35 s0
  else none
set_option maxHeartbeats 4000000 in
set_option maxRecDepth 100000 in
theorem c_X6_isDue {l : Launch} {A : Nat → Prop} {Ke : State → Prop} {D : va_G} {cA : Nat → ClassId} {E : State → Heap → Prop} {adS adV adM : Nat → Nat} {adD : Nat} (hE : mEok E A) (hkw : gKw Ke) (hX : xSt l Ke E A adM adD) (hSt : sSt Ke A (KW D cA E A) adS adV) (s0 : Km) (a0 : Nat) (a1 : Int32) : gCp l yX6_isDue cX6_isDue 2 (some .boolean) rm_X6_isDue Ke (KW D cA E A) A [.ref a0, .int a1] s0 (K6_isDue s0 a0 a1) := by
  refine g_metp (by decide) (by simp [lg_sl, Value.category]) ?_
  intro p e s m below meth c h hr hKs
  refine g_lv [(0, .ref a0), (1, .int a1)] [0, 1] rfl ?_
  unfold K6_isDue
  refine g_aload_n h 0 dX6_isDue_0 rfl ?_
  refine k_kind (fun hk1_0 => ?_)
  refine k_geti h (RX6, TX6, 8) 5 (by decide) rfl hinX6 6 (by decide) rfl tW_94 dX6_isDue_1 hk1_0 ?_
  refine g_if_ne h 35 dX6_isDue_4 (by decide) ?_ ?_
  · refine g_lv [] [] rfl ?_
    exact K6_isDue_B35_w h hKs hE hkw hX hSt s0  hr
  · refine g_aload_n h 0 dX6_isDue_7 rfl ?_
    refine k_geti h (RX6, TX6, 8) 5 (by decide) rfl hinX6 0 (by decide) rfl tW_80 dX6_isDue_8 hk1_0 ?_
    refine g_iload_n h 1 dX6_isDue_11 rfl ?_
    refine g_icmp_gt h 35 dX6_isDue_12 (by decide) ?_ ?_
    · refine g_lv [] [] rfl ?_
      exact K6_isDue_B35_w h hKs hE hkw hX hSt s0  hr
    · refine g_aload_n h 0 dX6_isDue_15 rfl ?_
      refine k_geti h (RX6, TX6, 8) 5 (by decide) rfl hinX6 1 (by decide) rfl tW_82 dX6_isDue_16 hk1_0 ?_
      refine g_ldc (v := 999999) h tW_748 dX6_isDue_19 ?_
      refine g_icmp_ne h 31 dX6_isDue_21 (by decide) ?_ ?_
      · refine g_lv [] [] rfl ?_
        exact K6_isDue_B31_w h hKs hE hkw hX hSt s0  hr
      · refine g_aload_n h 0 dX6_isDue_24 rfl ?_
        refine k_geti h (RX6, TX6, 8) 5 (by decide) rfl hinX6 7 (by decide) rfl tW_96 dX6_isDue_25 hk1_0 ?_
        refine g_if_eq h 35 dX6_isDue_28 (by decide) ?_ ?_
        · refine g_lv [] [] rfl ?_
          exact K6_isDue_B35_w h hKs hE hkw hX hSt s0  hr
        · refine g_lv [] [] rfl ?_
          exact K6_isDue_B31_w h hKs hE hkw hX hSt s0  hr
def rm_X7_init : Room := { frames := 1, cells := 0, slots := 0, locals := 21 }
theorem yk_X7_init : yOkI yX7_init cX7_init 1 0 := ⟨tW_40, tW_2, tW_39, rfl, by decide, by decide, by decide +kernel⟩
def K7_init (s0 : Km) (a0 : Nat) : Option (Km) :=
  if kK s0 a0 = 7 then
  bnd (kSetI s0 a0 0 (1 : Int32)) (fun s_6 =>
  some s_6)
  else none
set_option maxHeartbeats 4000000 in
set_option maxRecDepth 100000 in
theorem c_X7_init {l : Launch} {A : Nat → Prop} {Ke : State → Prop} {D : va_G} {cA : Nat → ClassId} {E : State → Heap → Prop} {adS adV adM : Nat → Nat} {adD : Nat} (hE : mEok E A) (hkw : gKw Ke) (hX : xSt l Ke E A adM adD) (hSt : sSt Ke A (KW D cA E A) adS adV) (s0 : Km) (a0 : Nat) : gCv l yX7_init cX7_init 1 none rm_X7_init Ke (KW D cA E A) A [.ref a0] s0 (K7_init s0 a0) := by
  refine g_metI (by decide) rfl (by simp [lg_sl, Value.category]) ?_
  intro p e s m below meth c h hr hin hKs
  refine g_lv [(0, .ref a0)] [0] rfl ?_
  unfold K7_init
  refine g_aload_n h 0 dX7_init_0 rfl ?_
  refine g_objInit h tW_41 tW_29 tW_30 (Nat.le_of_ble_eq_true rfl) (Nat.le_of_ble_eq_true rfl) dX7_init_1 ?_
  refine g_aload_n h 0 dX7_init_4 rfl ?_
  refine g_iconst (v := 1) h dX7_init_5 (by decide) ?_
  refine k_kind (fun hk6_0 => ?_)
  refine k_puti (x := (1 : Int32)) h hE (RX7, TX7, 2) 6 (by decide) rfl hinX7 0 (by decide) rfl tyX7 tyX7_ok nmX7 rfl tW_42 rfl rfl dX7_init_6 hk6_0 ?_
  refine g_bndE (fun s_6 hs_6 => ?_)
  exact g_vret h (KW_mv hE) hr (Nat.le_of_ble_eq_true rfl) (Nat.le_of_ble_eq_true rfl) dX7_init_9
def rm_X7_firstFrom : Room := { frames := 0, cells := 0, slots := 0, locals := 0 }
theorem yk_X7_firstFrom : yOkV yX7_firstFrom cX7_firstFrom 4 (some .int) RX7 1 := ⟨tW_831, tW_2, tW_829, tW_830, by decide, by decide, by decide +kernel⟩
def K7_firstFrom_B66 (s0 : Km) (t0 : Int32) : Option (Int32) :=
  some t0
set_option maxHeartbeats 4000000 in
set_option maxRecDepth 100000 in
theorem K7_firstFrom_B66_w {p : Program} {l : Launch} {e : Env} {s : State} {m : MethodId} {args : Array Value} {below : List Frame} {meth : Method} {c : Code} {A : Nat → Prop} {Ke : State → Prop} {D : va_G} {cA : Nat → ClassId} {E : State → Heap → Prop} {adS adV adM : Nat → Nat} {adD : Nat} (h : gOk p s m args meth c cX7_firstFrom 4 RX7 tb) (hKs : Ke s) (hE : mEok E A) (hkw : gKw Ke) (hX : xSt l Ke E A adM adD) (hSt : sSt Ke A (KW D cA E A) adS adV) (s0 : Km) (t0 : Int32) (hr : meth.sig.returnType = some .int)  : gS p l e rm_X7_firstFrom s m args below meth c 4 A (KW D cA E A) (fun X => MQ below (gPi (KW D cA E A) A (X, s0)) args s rm_X7_firstFrom.cells rm_X7_firstFrom.slots A) (0) (0) (K7_firstFrom_B66 s0 t0) s0 66 [] [.int t0] := by
  unfold K7_firstFrom_B66
  exact g_iretp h (KW_mv hE) hr (Nat.le_of_ble_eq_true rfl) (Nat.le_of_ble_eq_true rfl) dX7_firstFrom_66
def K7_firstFrom_B53 (s0 : Km) (t0 : Int32) : Option (Int32) :=
  if t0 ≤ (200000 : Int32) then
    K7_firstFrom_B66 s0 t0
  else
    K7_firstFrom_B66 s0 (999999 : Int32)
set_option maxHeartbeats 4000000 in
set_option maxRecDepth 100000 in
theorem K7_firstFrom_B53_w {p : Program} {l : Launch} {e : Env} {s : State} {m : MethodId} {args : Array Value} {below : List Frame} {meth : Method} {c : Code} {A : Nat → Prop} {Ke : State → Prop} {D : va_G} {cA : Nat → ClassId} {E : State → Heap → Prop} {adS adV adM : Nat → Nat} {adD : Nat} (h : gOk p s m args meth c cX7_firstFrom 4 RX7 tb) (hKs : Ke s) (hE : mEok E A) (hkw : gKw Ke) (hX : xSt l Ke E A adM adD) (hSt : sSt Ke A (KW D cA E A) adS adV) (s0 : Km) (t0 : Int32) (hr : meth.sig.returnType = some .int)  : gS p l e rm_X7_firstFrom s m args below meth c 4 A (KW D cA E A) (fun X => MQ below (gPi (KW D cA E A) A (X, s0)) args s rm_X7_firstFrom.cells rm_X7_firstFrom.slots A) (0) (0) (K7_firstFrom_B53 s0 t0) s0 53 [] [.int t0] := by
  unfold K7_firstFrom_B53
  refine g_istore_n h [(3, .int t0)] dX7_firstFrom_53 (by decide) rfl ?_
  refine g_iload_n h 0 dX7_firstFrom_54 rfl ?_
  refine g_ldc (v := 200000) h tW_832 dX7_firstFrom_55 ?_
  refine g_icmp_le h 65 dX7_firstFrom_57 (by decide) ?_ ?_
  · refine g_iload_n h 0 dX7_firstFrom_65 rfl ?_
    refine g_lv [] [] rfl ?_
    exact K7_firstFrom_B66_w h hKs hE hkw hX hSt s0 t0 hr
  · refine g_ldc (v := 999999) h tW_833 dX7_firstFrom_60 ?_
    refine g_goto h 66 dX7_firstFrom_62 (by decide) ?_
    refine g_lv [] [] rfl ?_
    exact K7_firstFrom_B66_w h hKs hE hkw hX hSt s0 (999999 : Int32) hr
def K7_firstFrom_B36 (s0 : Km) (t0 : Int32) (a0 : Nat) (a1 : Int32) : Option (Int32) :=
  if t0 = 0 then
    K7_firstFrom_B53 s0 a1
  else
    if kK s0 a0 = 7 then
    K7_firstFrom_B53 s0 ((a1 + (kI s0 a0 0)) - t0)
    else none
set_option maxHeartbeats 4000000 in
set_option maxRecDepth 100000 in
theorem K7_firstFrom_B36_w {p : Program} {l : Launch} {e : Env} {s : State} {m : MethodId} {args : Array Value} {below : List Frame} {meth : Method} {c : Code} {A : Nat → Prop} {Ke : State → Prop} {D : va_G} {cA : Nat → ClassId} {E : State → Heap → Prop} {adS adV adM : Nat → Nat} {adD : Nat} (h : gOk p s m args meth c cX7_firstFrom 4 RX7 tb) (hKs : Ke s) (hE : mEok E A) (hkw : gKw Ke) (hX : xSt l Ke E A adM adD) (hSt : sSt Ke A (KW D cA E A) adS adV) (s0 : Km) (t0 : Int32) (a0 : Nat) (a1 : Int32) (hr : meth.sig.returnType = some .int)  : gS p l e rm_X7_firstFrom s m args below meth c 4 A (KW D cA E A) (fun X => MQ below (gPi (KW D cA E A) A (X, s0)) args s rm_X7_firstFrom.cells rm_X7_firstFrom.slots A) (0) (0) (K7_firstFrom_B36 s0 t0 a0 a1) s0 36 [(0, .ref a0), (1, .int a1)] [.int t0] := by
  unfold K7_firstFrom_B36
  refine g_istore_n h [(2, .int t0), (0, .ref a0), (1, .int a1)] dX7_firstFrom_36 (by decide) rfl ?_
  refine g_iload_n h 0 dX7_firstFrom_37 rfl ?_
  refine g_if_ne h 45 dX7_firstFrom_38 (by decide) ?_ ?_
  · refine g_iload_n h 2 dX7_firstFrom_45 rfl ?_
    refine g_aload_n h 1 dX7_firstFrom_46 rfl ?_
    refine k_kind (fun hk47_0 => ?_)
    refine k_geti h (RX7, TX7, 2) 6 (by decide) rfl hinX7 0 (by decide) rfl tW_42 dX7_firstFrom_47 hk47_0 ?_
    refine g_iadd h dX7_firstFrom_50 ?_
    refine g_iload_n h 0 dX7_firstFrom_51 rfl ?_
    refine g_isub h dX7_firstFrom_52 ?_
    refine g_lv [] [] rfl ?_
    exact K7_firstFrom_B53_w h hKs hE hkw hX hSt s0 ((a1 + (kI s0 a0 0)) - t0) hr
  · refine g_iload_n h 2 dX7_firstFrom_41 rfl ?_
    refine g_goto h 53 dX7_firstFrom_42 (by decide) ?_
    refine g_lv [] [] rfl ?_
    exact K7_firstFrom_B53_w h hKs hE hkw hX hSt s0 a1 hr
def K7_firstFrom (s0 : Km) (a0 : Nat) (a1 : Int32) : Option (Int32) :=
  if kK s0 a0 = 7 then
  if kI s0 a0 1 < a1 then
    if (1 : Int32) ≤ kI s0 a0 0 then
      if kI s0 a0 0 = 0 then none else
      K7_firstFrom_B36 s0 ((a1 - (kI s0 a0 1)) - (a1 - (kI s0 a0 1)) / (kI s0 a0 0) * (kI s0 a0 0)) a0 a1
    else
      K7_firstFrom_B36 s0 (0 : Int32) a0 a1
  else
    some (kI s0 a0 1)
  else none
set_option maxHeartbeats 4000000 in
set_option maxRecDepth 100000 in
theorem c_X7_firstFrom {l : Launch} {A : Nat → Prop} {Ke : State → Prop} {D : va_G} {cA : Nat → ClassId} {E : State → Heap → Prop} {adS adV adM : Nat → Nat} {adD : Nat} (hE : mEok E A) (hkw : gKw Ke) (hX : xSt l Ke E A adM adD) (hSt : sSt Ke A (KW D cA E A) adS adV) (s0 : Km) (a0 : Nat) (a1 : Int32) : gCp l yX7_firstFrom cX7_firstFrom 4 (some .int) rm_X7_firstFrom Ke (KW D cA E A) A [.ref a0, .int a1] s0 (K7_firstFrom s0 a0 a1) := by
  refine g_metp (by decide) (by simp [lg_sl, Value.category]) ?_
  intro p e s m below meth c h hr hKs
  refine g_lv [(0, .ref a0), (1, .int a1)] [0, 1] rfl ?_
  unfold K7_firstFrom
  refine g_iload_n h 1 dX7_firstFrom_0 rfl ?_
  refine g_aload_n h 0 dX7_firstFrom_1 rfl ?_
  refine k_kind (fun hk2_0 => ?_)
  refine k_geti h (RX7, TX7, 2) 6 (by decide) rfl hinX7 1 (by decide) rfl tW_44 dX7_firstFrom_2 hk2_0 ?_
  refine g_icmp_gt h 13 dX7_firstFrom_5 (by decide) ?_ ?_
  · refine g_aload_n h 0 dX7_firstFrom_13 rfl ?_
    refine k_geti h (RX7, TX7, 2) 6 (by decide) rfl hinX7 0 (by decide) rfl tW_42 dX7_firstFrom_14 hk2_0 ?_
    refine g_iconst (v := 1) h dX7_firstFrom_17 (by decide) ?_
    refine g_icmp_ge h 25 dX7_firstFrom_18 (by decide) ?_ ?_
    · refine g_iload_n h 1 dX7_firstFrom_25 rfl ?_
      refine g_aload_n h 0 dX7_firstFrom_26 rfl ?_
      refine k_geti h (RX7, TX7, 2) 6 (by decide) rfl hinX7 1 (by decide) rfl tW_44 dX7_firstFrom_27 hk2_0 ?_
      refine g_isub h dX7_firstFrom_30 ?_
      refine g_aload_n h 0 dX7_firstFrom_31 rfl ?_
      refine k_geti h (RX7, TX7, 2) 6 (by decide) rfl hinX7 0 (by decide) rfl tW_42 dX7_firstFrom_32 hk2_0 ?_
      refine g_nz (fun hz35 => ?_)
      refine g_irem h dX7_firstFrom_35 hz35 ?_
      exact K7_firstFrom_B36_w h hKs hE hkw hX hSt s0 ((a1 - (kI s0 a0 1)) - (a1 - (kI s0 a0 1)) / (kI s0 a0 0) * (kI s0 a0 0)) a0 a1 hr
    · refine g_iconst (v := 0) h dX7_firstFrom_21 (by decide) ?_
      refine g_goto h 36 dX7_firstFrom_22 (by decide) ?_
      exact K7_firstFrom_B36_w h hKs hE hkw hX hSt s0 (0 : Int32) a0 a1 hr
  · refine g_aload_n h 0 dX7_firstFrom_8 rfl ?_
    refine k_geti h (RX7, TX7, 2) 6 (by decide) rfl hinX7 1 (by decide) rfl tW_44 dX7_firstFrom_9 hk2_0 ?_
    exact g_iretp h (KW_mv hE) hr (Nat.le_of_ble_eq_true rfl) (Nat.le_of_ble_eq_true rfl) dX7_firstFrom_12
def rm_X8_init : Room := { frames := 1, cells := 3, slots := 16, locals := 21 }
theorem yk_X8_init : yOkI yX8_init cX8_init 3 1 := ⟨tW_173, tW_19, tW_172, rfl, by decide, by decide, by decide +kernel⟩
def K8_init_L25 {Rt : Type} (a0 : Nat) (k43 : Km → Option Rt) : Nat → Km → Int32 → Option Rt
  | 0, _, _ => none
  | F + 1, s0, l2 =>
  if (4 : Int32) ≤ l2 then
      k43 s0
    else
      if kK s0 a0 = 8 then
      (kR s0 a0 2).bind (fun b31 =>
      if kK s0 b31 = 12 then
      if okI l2 (kN s0 b31) = true then
      bnd (kSetI s0 b31 l2.toNatClampNeg (-1 : Int32)) (fun s_36 =>
      K8_init_L25 a0 k43 F s_36 (l2 + 1))
      else none
      else none)
      else none
set_option maxHeartbeats 4000000 in
set_option maxRecDepth 100000 in
theorem K8_init_L25_w {p : Program} {l : Launch} {e : Env} {s : State} {m : MethodId} {args : Array Value} {below : List Frame} {meth : Method} {c : Code} {A : Nat → Prop} {Ke : State → Prop} {D : va_G} {cA : Nat → ClassId} {E : State → Heap → Prop} {adS adV adM : Nat → Nat} {adD : Nat} (h : gOk p s m args meth c cX8_init 3 RX8 tb) (hKs : Ke s) (hE : mEok E A) (hkw : gKw Ke) (hX : xSt l Ke E A adM adD) (hSt : sSt Ke A (KW D cA E A) adS adV) (hin : meth.name = "<init>") {Rt : Type} {QX : Rt → State → Prop} (a0 : Nat) {k43 : Km → Option Rt} (hk43 : ∀ (sx : Km), gS p l e rm_X8_init s m args below meth c 3 A (KW D cA E A) QX (2) (8) (k43 sx) sx 43 [(0, .ref a0)] []) : ∀ (F : Nat), ∀ (s0 : Km) (l2 : Int32), gS p l e rm_X8_init s m args below meth c 3 A (KW D cA E A) QX (2) (8) (K8_init_L25 a0 k43 F s0 l2) s0 25 [(0, .ref a0), (2, .int l2)] [] := by
  intro F
  induction F with
  | zero =>
    intro s0 l2
    unfold K8_init_L25
    exact g_none
  | succ F ih =>
    intro s0 l2
    unfold K8_init_L25
    refine g_iload_n h 1 dX8_init_25 rfl ?_
    refine g_iconst (v := 4) h dX8_init_26 (by decide) ?_
    refine g_icmp_ge h 43 dX8_init_27 (by decide) ?_ ?_
    · refine g_lv [(0, .ref a0)] [0] rfl ?_
      exact hk43 s0
    · refine g_aload_n h 0 dX8_init_30 rfl ?_
      refine k_kind (fun hk31_0 => ?_)
      refine k_getr h (RX8, TX8, 6) 7 (by decide) rfl hinX8 2 (by decide) rfl tW_180 dX8_init_31 hk31_0 ?_
      refine g_ob (fun b31 => ?_)
      refine g_iload_n h 1 dX8_init_34 rfl ?_
      refine g_iconst (v := -1) h dX8_init_35 (by decide) ?_
      refine k_kind (fun hk36_0 => ?_)
      refine k_iast h hE dX8_init_36 hk36_0 ?_
      refine g_bndE (fun s_36 hs_36 => ?_)
      refine g_iinc (v := l2 + 1) (i := 1) h [(2, .int (l2 + 1)), (0, .ref a0)] dX8_init_37 rfl rfl (by decide) rfl ?_
      refine g_goto h 25 dX8_init_40 (by decide) ?_
      refine g_lv [(0, .ref a0), (2, .int (l2 + 1))] [1, 0] rfl ?_
      exact ih s_36 (l2 + 1)
def K8_init (s0 : Km) (a0 : Nat) (a1 : Int32) : Option (Km) :=
  if kK s0 a0 = 8 then
  bnd (kSetI s0 a0 0 a1) (fun s_6 =>
  bnd2 (kn s_6) (kNew s_6 12 4) (fun q_11 s_11 =>
  if kK s_11 a0 = 8 then
  bnd (kSetR s_11 a0 1 (some q_11)) (fun s_13 =>
  bnd2 (kn s_13) (kNew s_13 12 4) (fun q_18 s_18 =>
  if kK s_18 a0 = 8 then
  bnd (kSetR s_18 a0 2 (some q_18)) (fun s_20 =>
  K8_init_L25 a0 (fun s_43 => bnd2 (kn s_43) (kNew s_43 12 8) (fun q_46 s_46 =>
    if kK s_46 a0 = 8 then
    bnd (kSetR s_46 a0 3 (some q_46)) (fun s_48 =>
    some s_48)
    else none)) gF s_20 (0 : Int32))
  else none))
  else none))
  else none
set_option maxHeartbeats 4000000 in
set_option maxRecDepth 100000 in
theorem c_X8_init {l : Launch} {A : Nat → Prop} {Ke : State → Prop} {D : va_G} {cA : Nat → ClassId} {E : State → Heap → Prop} {adS adV adM : Nat → Nat} {adD : Nat} (hE : mEok E A) (hkw : gKw Ke) (hX : xSt l Ke E A adM adD) (hSt : sSt Ke A (KW D cA E A) adS adV) (s0 : Km) (a0 : Nat) (a1 : Int32) : gCv l yX8_init cX8_init 3 none rm_X8_init Ke (KW D cA E A) A [.ref a0, .int a1] s0 (K8_init s0 a0 a1) := by
  refine g_metI (by decide) rfl (by simp [lg_sl, Value.category]) ?_
  intro p e s m below meth c h hr hin hKs
  refine g_lv [(0, .ref a0), (1, .int a1)] [0, 1] rfl ?_
  unfold K8_init
  refine g_aload_n h 0 dX8_init_0 rfl ?_
  refine g_objInit h tW_174 tW_29 tW_30 (Nat.le_of_ble_eq_true rfl) (Nat.le_of_ble_eq_true rfl) dX8_init_1 ?_
  refine g_aload_n h 0 dX8_init_4 rfl ?_
  refine g_iload_n h 1 dX8_init_5 rfl ?_
  refine k_kind (fun hk6_0 => ?_)
  refine k_putFi (x := a1) h hE (RX8, TX8, 6) 7 (by decide) rfl hinX8 0 (by decide) rfl tyX8 tyX8_ok nmX8 rfl hin rfl tW_175 rfl rfl dX8_init_6 hk6_0 ?_
  refine g_bndE (fun s_6 hs_6 => ?_)
  refine g_aload_n h 0 dX8_init_9 rfl ?_
  refine g_iconst (v := 4) h dX8_init_10 (by decide) ?_
  refine k_newi h hE 12 1 (by decide) (by decide) .int rfl rfl rfl (fun _ _ q9 => q9) tW_73 4 (by decide) (by decide) (by decide) (Nat.le_of_ble_eq_true rfl) (Nat.le_of_ble_eq_true rfl) dX8_init_11 ?_
  refine g_bnd2 (fun q_11 s_11 hq_11 hs_11 => ?_)
  refine k_kind (fun hk13_0 => ?_)
  refine k_putFr (x := (some q_11)) h hE (RX8, TX8, 6) 7 (by decide) rfl hinX8 1 (by decide) rfl tyX8 tyX8_ok nmX8 rfl hin rfl tW_177 rfl rfl dX8_init_13 hk13_0 ?_
  refine g_bndE (fun s_13 hs_13 => ?_)
  refine g_aload_n h 0 dX8_init_16 rfl ?_
  refine g_iconst (v := 4) h dX8_init_17 (by decide) ?_
  refine k_newi h hE 12 1 (by decide) (by decide) .int rfl rfl rfl (fun _ _ q9 => q9) tW_73 4 (by decide) (by decide) (by decide) (Nat.le_of_ble_eq_true rfl) (Nat.le_of_ble_eq_true rfl) dX8_init_18 ?_
  refine g_bnd2 (fun q_18 s_18 hq_18 hs_18 => ?_)
  refine k_kind (fun hk20_0 => ?_)
  refine k_putFr (x := (some q_18)) h hE (RX8, TX8, 6) 7 (by decide) rfl hinX8 2 (by decide) rfl tyX8 tyX8_ok nmX8 rfl hin rfl tW_180 rfl rfl dX8_init_20 hk20_0 ?_
  refine g_bndE (fun s_20 hs_20 => ?_)
  refine g_iconst (v := 0) h dX8_init_23 (by decide) ?_
  refine g_istore_n h [(2, .int (0 : Int32)), (0, .ref a0), (1, .int a1)] dX8_init_24 (by decide) rfl ?_
  refine g_lv [(0, .ref a0), (2, .int (0 : Int32))] [1, 0] rfl ?_
  refine K8_init_L25_w h hKs hE hkw hX hSt hin a0 (fun s_43 => ?_) gF s_20 (0 : Int32)
  · refine g_aload_n h 0 dX8_init_43 rfl ?_
    refine g_bipush (v := 8) h dX8_init_44 (by decide) ?_
    refine k_newi h hE 12 1 (by decide) (by decide) .int rfl rfl rfl (fun _ _ q9 => q9) tW_73 8 (by decide) (by decide) (by decide) (Nat.le_of_ble_eq_true rfl) (Nat.le_of_ble_eq_true rfl) dX8_init_46 ?_
    refine g_bnd2 (fun q_46 s_46 hq_46 hs_46 => ?_)
    refine k_kind (fun hk48_0 => ?_)
    refine k_putFr (x := (some q_46)) h hE (RX8, TX8, 6) 7 (by decide) rfl hinX8 3 (by decide) rfl tyX8 tyX8_ok nmX8 rfl hin rfl tW_183 rfl rfl dX8_init_48 hk48_0 ?_
    refine g_bndE (fun s_48 hs_48 => ?_)
    exact g_vret h (KW_mv hE) hr (Nat.le_of_ble_eq_true rfl) (Nat.le_of_ble_eq_true rfl) dX8_init_51
def rm_X8_hasCopy : Room := { frames := 0, cells := 0, slots := 0, locals := 0 }
theorem yk_X8_hasCopy : yOkV yX8_hasCopy cX8_hasCopy 3 (some .boolean) RX8 2 := ⟨tW_685, tW_19, tW_683, tW_684, by decide, by decide, by decide +kernel⟩
def K8_hasCopy_B18 (s0 : Km) (t0 : Int32) : Option (Int32) :=
  if okZ t0 = true then some t0 else none
set_option maxHeartbeats 4000000 in
set_option maxRecDepth 100000 in
theorem K8_hasCopy_B18_w {p : Program} {l : Launch} {e : Env} {s : State} {m : MethodId} {args : Array Value} {below : List Frame} {meth : Method} {c : Code} {A : Nat → Prop} {Ke : State → Prop} {D : va_G} {cA : Nat → ClassId} {E : State → Heap → Prop} {adS adV adM : Nat → Nat} {adD : Nat} (h : gOk p s m args meth c cX8_hasCopy 3 RX8 tb) (hKs : Ke s) (hE : mEok E A) (hkw : gKw Ke) (hX : xSt l Ke E A adM adD) (hSt : sSt Ke A (KW D cA E A) adS adV) (s0 : Km) (t0 : Int32) (hr : meth.sig.returnType = some .boolean)  : gS p l e rm_X8_hasCopy s m args below meth c 3 A (KW D cA E A) (fun X => MQ below (gPi (KW D cA E A) A (X, s0)) args s rm_X8_hasCopy.cells rm_X8_hasCopy.slots A) (0) (0) (K8_hasCopy_B18 s0 t0) s0 18 [] [.int t0] := by
  unfold K8_hasCopy_B18
  refine g_guard (fun hz => ?_)
  exact g_zretp h (KW_mv hE) hr (Nat.le_of_ble_eq_true rfl) (Nat.le_of_ble_eq_true rfl) hz dX8_hasCopy_18
def K8_hasCopy (s0 : Km) (a0 : Nat) (a1 : Int32) (a2 : Int32) : Option (Int32) :=
  if kK s0 a0 = 8 then
  (kR s0 a0 3).bind (fun b1 =>
  if kK s0 b1 = 12 then
  if okI a1 (kN s0 b1) = true then
  if ((kI s0 b1 a1.toNatClampNeg) >>> (a2 &&& 31)) &&& (1 : Int32) = 0 then
    K8_hasCopy_B18 s0 (0 : Int32)
  else
    K8_hasCopy_B18 s0 (1 : Int32)
  else none
  else none)
  else none
set_option maxHeartbeats 4000000 in
set_option maxRecDepth 100000 in
theorem c_X8_hasCopy {l : Launch} {A : Nat → Prop} {Ke : State → Prop} {D : va_G} {cA : Nat → ClassId} {E : State → Heap → Prop} {adS adV adM : Nat → Nat} {adD : Nat} (hE : mEok E A) (hkw : gKw Ke) (hX : xSt l Ke E A adM adD) (hSt : sSt Ke A (KW D cA E A) adS adV) (s0 : Km) (a0 : Nat) (a1 : Int32) (a2 : Int32) : gCp l yX8_hasCopy cX8_hasCopy 3 (some .boolean) rm_X8_hasCopy Ke (KW D cA E A) A [.ref a0, .int a1, .int a2] s0 (K8_hasCopy s0 a0 a1 a2) := by
  refine g_metp (by decide) (by simp [lg_sl, Value.category]) ?_
  intro p e s m below meth c h hr hKs
  refine g_lv [(0, .ref a0), (1, .int a1), (2, .int a2)] [0, 1, 2] rfl ?_
  unfold K8_hasCopy
  refine g_aload_n h 0 dX8_hasCopy_0 rfl ?_
  refine k_kind (fun hk1_0 => ?_)
  refine k_getr h (RX8, TX8, 6) 7 (by decide) rfl hinX8 3 (by decide) rfl tW_183 dX8_hasCopy_1 hk1_0 ?_
  refine g_ob (fun b1 => ?_)
  refine g_iload_n h 1 dX8_hasCopy_4 rfl ?_
  refine k_kind (fun hk5_0 => ?_)
  refine k_iald h dX8_hasCopy_5 hk5_0 ?_
  refine g_iload_n h 2 dX8_hasCopy_6 rfl ?_
  refine g_ishr h dX8_hasCopy_7 ?_
  refine g_iconst (v := 1) h dX8_hasCopy_8 (by decide) ?_
  refine g_iand h dX8_hasCopy_9 ?_
  refine g_if_eq h 17 dX8_hasCopy_10 (by decide) ?_ ?_
  · refine g_iconst (v := 0) h dX8_hasCopy_17 (by decide) ?_
    refine g_lv [] [] rfl ?_
    exact K8_hasCopy_B18_w h hKs hE hkw hX hSt s0 (0 : Int32) hr
  · refine g_iconst (v := 1) h dX8_hasCopy_13 (by decide) ?_
    refine g_goto h 18 dX8_hasCopy_14 (by decide) ?_
    refine g_lv [] [] rfl ?_
    exact K8_hasCopy_B18_w h hKs hE hkw hX hSt s0 (1 : Int32) hr
