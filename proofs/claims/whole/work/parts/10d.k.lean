def rm_X9_wish : Room := { frames := 7, cells := 1, slots := 6, locals := 118 }
theorem yk_X9_wish : yOkV yX9_wish cX9_wish 6 (some .int) RX9 1 := ⟨tW_743, tW_1, tW_741, tW_742, by decide, by decide, by decide +kernel⟩
def K9_wish_B77 {Rt : Type} (s0 : Km) (rec : Km → Int32 → Int32 → Option Rt) (k83 : Km → Int32 → Option Rt) (a0 : Nat) (l2 : Nat) (l3 : Option Nat) (l4 : Int32) (l5 : Int32) : Option (Rt) :=
  rec s0 l4 (l5 + 1)
set_option maxHeartbeats 4000000 in
set_option maxRecDepth 100000 in
theorem K9_wish_B77_w {p : Program} {l : Launch} {e : Env} {s : State} {m : MethodId} {args : Array Value} {below : List Frame} {meth : Method} {c : Code} {A : Nat → Prop} {Ke : State → Prop} {D : va_G} {cA : Nat → ClassId} {E : State → Heap → Prop} {adS adV adM : Nat → Nat} {adD : Nat} (h : gOk p s m args meth c cX9_wish 6 RX9 tb) (hKs : Ke s) (hE : mEok E A) (hkw : gKw Ke) (hX : xSt l Ke E A adM adD) (hSt : sSt Ke A (KW D cA E A) adS adV) (hE0 : E s s.heap) (hT : ∀ x ∈ c.exceptionTable.toList, False) {Rt : Type} {QX : Rt → State → Prop} {rec : Km → Int32 → Int32 → Option Rt} {k83 : Km → Int32 → Option Rt} (s0 : Km) (a0 : Nat) (l2 : Nat) (l3 : Option Nat) (l4 : Int32) (l5 : Int32) (hrec : ∀ (sx : Km) (l4 : Int32) (l5 : Int32), gS p l e rm_X9_wish s m args below meth c 6 A (KW D cA E A) QX (1) (6) (rec sx l4 l5) sx 22 [(0, .ref a0), (2, .ref l2), (3, va_rf l3), (4, .int l4), (5, .int l5)] []) (hk83 : ∀ (sx : Km) (l4 : Int32), gS p l e rm_X9_wish s m args below meth c 6 A (KW D cA E A) QX (1) (6) (k83 sx l4) sx 83 [(4, .int l4)] []) : gS p l e rm_X9_wish s m args below meth c 6 A (KW D cA E A) QX (1) (6) (K9_wish_B77 s0 rec k83 a0 l2 l3 l4 l5) s0 77 [(0, .ref a0), (2, .ref l2), (3, va_rf l3), (4, .int l4), (5, .int l5)] [] := by
  unfold K9_wish_B77
  refine g_iinc (v := l5 + 1) (i := 4) h [(5, .int (l5 + 1)), (0, .ref a0), (2, .ref l2), (3, va_rf l3), (4, .int l4)] dX9_wish_77 rfl rfl (by decide) rfl ?_
  refine g_goto h 22 dX9_wish_80 (by decide) ?_
  refine g_lv [(0, .ref a0), (2, .ref l2), (3, va_rf l3), (4, .int l4), (5, .int (l5 + 1))] [1, 2, 3, 4, 0] rfl ?_
  exact hrec s0 l4 (l5 + 1)
def K9_wish_B74 {Rt : Type} (s0 : Km) (rec : Km → Int32 → Int32 → Option Rt) (k83 : Km → Int32 → Option Rt) (t0 : Int32) (t1 : Int32) (a0 : Nat) (l2 : Nat) (l3 : Option Nat) (l5 : Int32) : Option (Rt) :=
  bnd (t1 ||| t0) (fun v4_75 =>
  K9_wish_B77 s0 rec k83 a0 l2 l3 v4_75 l5)
set_option maxHeartbeats 4000000 in
set_option maxRecDepth 100000 in
theorem K9_wish_B74_w {p : Program} {l : Launch} {e : Env} {s : State} {m : MethodId} {args : Array Value} {below : List Frame} {meth : Method} {c : Code} {A : Nat → Prop} {Ke : State → Prop} {D : va_G} {cA : Nat → ClassId} {E : State → Heap → Prop} {adS adV adM : Nat → Nat} {adD : Nat} (h : gOk p s m args meth c cX9_wish 6 RX9 tb) (hKs : Ke s) (hE : mEok E A) (hkw : gKw Ke) (hX : xSt l Ke E A adM adD) (hSt : sSt Ke A (KW D cA E A) adS adV) (hE0 : E s s.heap) (hT : ∀ x ∈ c.exceptionTable.toList, False) {Rt : Type} {QX : Rt → State → Prop} {rec : Km → Int32 → Int32 → Option Rt} {k83 : Km → Int32 → Option Rt} (s0 : Km) (t0 : Int32) (t1 : Int32) (a0 : Nat) (l2 : Nat) (l3 : Option Nat) (l5 : Int32) (hrec : ∀ (sx : Km) (l4 : Int32) (l5 : Int32), gS p l e rm_X9_wish s m args below meth c 6 A (KW D cA E A) QX (1) (6) (rec sx l4 l5) sx 22 [(0, .ref a0), (2, .ref l2), (3, va_rf l3), (4, .int l4), (5, .int l5)] []) (hk83 : ∀ (sx : Km) (l4 : Int32), gS p l e rm_X9_wish s m args below meth c 6 A (KW D cA E A) QX (1) (6) (k83 sx l4) sx 83 [(4, .int l4)] []) : gS p l e rm_X9_wish s m args below meth c 6 A (KW D cA E A) QX (1) (6) (K9_wish_B74 s0 rec k83 t0 t1 a0 l2 l3 l5) s0 74 [(0, .ref a0), (2, .ref l2), (3, va_rf l3), (5, .int l5)] [.int t0, .int t1] := by
  unfold K9_wish_B74
  refine g_ior h dX9_wish_74 ?_
  refine g_bndi (fun v4_75 => ?_)
  refine g_istore h [(4, .int v4_75), (0, .ref a0), (2, .ref l2), (3, va_rf l3), (5, .int l5)] dX9_wish_75 (by decide) (by cases l3 <;> rfl) ?_
  refine g_lv [(0, .ref a0), (2, .ref l2), (3, va_rf l3), (4, .int v4_75), (5, .int l5)] [1, 2, 3, 0, 4] rfl ?_
  exact K9_wish_B77_w h hKs hE hkw hX hSt hE0 hT s0 a0 l2 l3 v4_75 l5 hrec hk83
def K9_wish_L22 {Rt : Type} (a0 : Nat) (l2 : Nat) (l3 : Option Nat) (k83 : Km → Int32 → Option Rt) : Nat → Km → Int32 → Int32 → Option Rt
  | 0, _, _, _ => none
  | F + 1, s0, l4, l5 =>
  if (8 : Int32) ≤ l5 then
      k83 s0 l4
    else
      if kK s0 l2 = 8 then
      (kR s0 l2 3).bind (fun b30 =>
      if kK s0 b30 = 12 then
      if okI l5 (kN s0 b30) = true then
      if kI s0 b30 l5.toNatClampNeg = 0 then
        K9_wish_B77 s0 (K9_wish_L22 a0 l2 l3 k83 F) k83 a0 l2 l3 l4 l5
      else
        if kK s0 a0 = 9 then
        (kR s0 a0 11).bind (fun b40 =>
        if kK s0 b40 = 6 then
        (K6_settle s0 b40 l2 l5 l3).bind (fun s_47 =>
        if kK s_47 a0 = 9 then
        (kR s_47 a0 11).bind (fun b53 =>
        if kK s_47 b53 = 6 then
        (K6_isDue s_47 b53 (kI s_47 a0 12)).bind (fun r_60 =>
        if r_60 = 0 then
          K9_wish_B74 s_47 (K9_wish_L22 a0 l2 l3 k83 F) k83 (0 : Int32) l4 a0 l2 l3 l5
        else
          K9_wish_B74 s_47 (K9_wish_L22 a0 l2 l3 k83 F) k83 ((1 : Int32) <<< (l5 &&& 31)) l4 a0 l2 l3 l5)
        else none)
        else none)
        else none)
        else none
      else none
      else none)
      else none
set_option maxHeartbeats 4000000 in
set_option maxRecDepth 100000 in
theorem K9_wish_L22_w {p : Program} {l : Launch} {e : Env} {s : State} {m : MethodId} {args : Array Value} {below : List Frame} {meth : Method} {c : Code} {A : Nat → Prop} {Ke : State → Prop} {D : va_G} {cA : Nat → ClassId} {E : State → Heap → Prop} {adS adV adM : Nat → Nat} {adD : Nat} (h : gOk p s m args meth c cX9_wish 6 RX9 tb) (hKs : Ke s) (hE : mEok E A) (hkw : gKw Ke) (hX : xSt l Ke E A adM adD) (hSt : sSt Ke A (KW D cA E A) adS adV) (hE0 : E s s.heap) (hT : ∀ x ∈ c.exceptionTable.toList, False) {Rt : Type} {QX : Rt → State → Prop} (a0 : Nat) (l2 : Nat) (l3 : Option Nat) {k83 : Km → Int32 → Option Rt} (hk83 : ∀ (sx : Km) (l4 : Int32), gS p l e rm_X9_wish s m args below meth c 6 A (KW D cA E A) QX (1) (6) (k83 sx l4) sx 83 [(4, .int l4)] []) : ∀ (F : Nat), ∀ (s0 : Km) (l4 : Int32) (l5 : Int32), gS p l e rm_X9_wish s m args below meth c 6 A (KW D cA E A) QX (1) (6) (K9_wish_L22 a0 l2 l3 k83 F s0 l4 l5) s0 22 [(0, .ref a0), (2, .ref l2), (3, va_rf l3), (4, .int l4), (5, .int l5)] [] := by
  intro F
  induction F with
  | zero =>
    intro s0 l4 l5
    unfold K9_wish_L22
    exact g_none
  | succ F ih =>
    intro s0 l4 l5
    unfold K9_wish_L22
    refine g_iload h 4 dX9_wish_22 rfl ?_
    refine g_bipush (v := 8) h dX9_wish_24 (by decide) ?_
    refine g_icmp_ge h 83 dX9_wish_26 (by decide) ?_ ?_
    · refine g_lv [(4, .int l4)] [3] rfl ?_
      exact hk83 s0 l4
    · refine g_aload_n h 1 dX9_wish_29 rfl ?_
      refine k_kind (fun hk30_0 => ?_)
      refine k_getr h (RX8, TX8, 6) 7 (by decide) rfl hinX8 3 (by decide) rfl tW_184 dX9_wish_30 hk30_0 ?_
      refine g_ob (fun b30 => ?_)
      refine g_iload h 4 dX9_wish_33 rfl ?_
      refine k_kind (fun hk35_0 => ?_)
      refine k_iald h dX9_wish_35 hk35_0 ?_
      refine g_if_eq h 77 dX9_wish_36 (by decide) ?_ ?_
      · exact K9_wish_B77_w h hKs hE hkw hX hSt hE0 hT s0 a0 l2 l3 l4 l5 (ih) hk83
      · refine g_aload_n h 0 dX9_wish_39 rfl ?_
        refine k_kind (fun hk40_0 => ?_)
        refine k_getr h (RX9, TX9, 13) 8 (by decide) rfl hinX9 11 (by decide) rfl tW_125 dX9_wish_40 hk40_0 ?_
        refine g_ob (fun b40 => ?_)
        refine g_aload_n h 1 dX9_wish_43 rfl ?_
        refine g_iload h 4 dX9_wish_44 rfl ?_
        refine g_aload_nq h 2 dX9_wish_46 rfl ?_
        refine k_kind (fun hk47_0 => ?_)
        refine g_callV0v h (KW_mv hE) hkw hKs [.ref l2, .int l5, va_rf l3] (c_X6_settle hE hkw hX hSt s0 b40 l2 l5 l3) yk_X6_settle tW_744 ⟨(Nat.le_of_ble_eq_true rfl), (Nat.le_of_ble_eq_true rfl)⟩ (KW_recv b40 5 (r := (RX6, TX6, 8)) hk47_0 (by decide) rfl) rfl rfl rfl rfl (Nat.le_of_ble_eq_true rfl) dX9_wish_47 ⟨(Nat.le_of_ble_eq_true rfl), (Nat.le_of_ble_eq_true rfl)⟩ (fun s_47 => ?_)
        refine g_iload h 3 dX9_wish_50 rfl ?_
        refine g_aload_n h 0 dX9_wish_52 rfl ?_
        refine k_kind (fun hk53_0 => ?_)
        refine k_getr h (RX9, TX9, 13) 8 (by decide) rfl hinX9 11 (by decide) rfl tW_125 dX9_wish_53 hk53_0 ?_
        refine g_ob (fun b53 => ?_)
        refine g_aload_n h 0 dX9_wish_56 rfl ?_
        refine k_geti h (RX9, TX9, 13) 8 (by decide) rfl hinX9 12 (by decide) rfl tW_126 dX9_wish_57 hk53_0 ?_
        refine k_kind (fun hk60_0 => ?_)
        refine g_callV0p h (KW_mv hE) hkw hKs [.int (kI s_47 a0 12)] (c_X6_isDue hE hkw hX hSt s_47 b53 (kI s_47 a0 12)) yk_X6_isDue tW_773 ⟨(Nat.le_of_ble_eq_true rfl), (Nat.le_of_ble_eq_true rfl)⟩ (KW_recv b53 5 (r := (RX6, TX6, 8)) hk60_0 (by decide) rfl) rfl rfl rfl rfl (Nat.le_of_ble_eq_true rfl) dX9_wish_60 ⟨(Nat.le_of_ble_eq_true rfl), (Nat.le_of_ble_eq_true rfl)⟩ (fun r_60 => ?_)
        refine g_if_eq h 73 dX9_wish_63 (by decide) ?_ ?_
        · refine g_iconst (v := 0) h dX9_wish_73 (by decide) ?_
          refine g_lv [(0, .ref a0), (2, .ref l2), (3, va_rf l3), (5, .int l5)] [0, 1, 2, 4] rfl ?_
          exact K9_wish_B74_w h hKs hE hkw hX hSt hE0 hT s_47 (0 : Int32) l4 a0 l2 l3 l5 (ih) hk83
        · refine g_iconst (v := 1) h dX9_wish_66 (by decide) ?_
          refine g_iload h 4 dX9_wish_67 rfl ?_
          refine g_ishl h dX9_wish_69 ?_
          refine g_goto h 74 dX9_wish_70 (by decide) ?_
          refine g_lv [(0, .ref a0), (2, .ref l2), (3, va_rf l3), (5, .int l5)] [0, 1, 2, 4] rfl ?_
          exact K9_wish_B74_w h hKs hE hkw hX hSt hE0 hT s_47 ((1 : Int32) <<< (l5 &&& 31)) l4 a0 l2 l3 l5 (ih) hk83
def K9_wish (s0 : Km) (a0 : Nat) (a1 : Int32) : Option ((Int32 × Km) ⊕ (Bool × Km)) :=
  if kK s0 a0 = 9 then
  bxq (K9_thingAt s0 a0 a1) (fun r_2 s_2 =>
  (r_2).bind (fun b2 =>
  if kK s_2 b2 = 8 then
  bnd (kSetI s_2 b2 5 (1 : Int32)) (fun s_8 =>
  if kK s_8 a0 = 9 then
  (K9_setInForce s_8 a0).bind (fun r_12 =>
  K9_wish_L22 a0 b2 r_12 (fun s_83 v4_83 => some (.inl (v4_83, s_83))) gF s_8 (0 : Int32) (0 : Int32))
  else none)
  else none))
  else none
set_option maxHeartbeats 4000000 in
set_option maxRecDepth 100000 in
theorem c_X9_wish {l : Launch} {A : Nat → Prop} {Ke : State → Prop} {D : va_G} {cA : Nat → ClassId} {E : State → Heap → Prop} {adS adV adM : Nat → Nat} {adD : Nat} (hE : mEok E A) (hkw : gKw Ke) (hX : xSt l Ke E A adM adD) (hSt : sSt Ke A (KW D cA E A) adS adV) (s0 : Km) (a0 : Nat) (a1 : Int32) : gXi l yX9_wish cX9_wish 6 (some .int) rm_X9_wish Ke (KW D cA E A) A [.ref a0, .int a1] s0 (K9_wish s0 a0 a1) := by
  refine g_metxi (by decide) (by simp [lg_sl, Value.category]) ?_
  intro p e s m below meth c h hr hKs hE0 hT
  refine g_lv [(0, .ref a0), (1, .int a1)] [0, 1] rfl ?_
  unfold K9_wish
  refine g_aload_n h 0 dX9_wish_0 rfl ?_
  refine g_iload_n h 1 dX9_wish_1 rfl ?_
  refine k_kind (fun hk2_0 => ?_)
  refine g_xcallVq h hE hkw hKs hT [.int a1] (c_X9_thingAt hE hkw hX hSt s0 a0 a1) yk_X9_thingAt tW_637 ⟨(Nat.le_of_ble_eq_true rfl), (Nat.le_of_ble_eq_true rfl)⟩ (KW_recv a0 8 (r := (RX9, TX9, 13)) hk2_0 (by decide) rfl) rfl rfl (Nat.le_of_ble_eq_true rfl) dX9_wish_2 ⟨(Nat.le_of_ble_eq_true rfl), (Nat.le_of_ble_eq_true rfl)⟩ (Nat.le_of_ble_eq_true rfl) (Nat.le_of_ble_eq_true rfl) (fun r_2 s_2 => ?_)
  refine g_wid (1) (6) (Nat.le_of_ble_eq_true rfl) (Nat.le_of_ble_eq_true rfl) ?_
  refine g_ob (fun b2 => ?_)
  refine g_astore_n h [(2, .ref b2), (0, .ref a0), (1, .int a1)] dX9_wish_5 (by decide) rfl ?_
  refine g_aload_n h 0 dX9_wish_6 rfl ?_
  refine g_iconst (v := 1) h dX9_wish_7 (by decide) ?_
  refine k_kind (fun hk8_0 => ?_)
  refine k_puti (x := (1 : Int32)) h hE (RX8, TX8, 6) 7 (by decide) rfl hinX8 5 (by decide) rfl tyX8 tyX8_ok nmX8 rfl tW_188 (okZ_nar (by decide)) (okZ_fit (by decide)) dX9_wish_8 hk8_0 ?_
  refine g_bndE (fun s_8 hs_8 => ?_)
  refine g_aload_n h 1 dX9_wish_11 rfl ?_
  refine k_kind (fun hk12_0 => ?_)
  refine g_callV0q h (KW_mv hE) hkw hKs [] (c_X9_setInForce hE hkw hX hSt s_8 a0) yk_X9_setInForce tW_210 ⟨(Nat.le_of_ble_eq_true rfl), (Nat.le_of_ble_eq_true rfl)⟩ (KW_recv a0 8 (r := (RX9, TX9, 13)) hk12_0 (by decide) rfl) rfl rfl rfl rfl (Nat.le_of_ble_eq_true rfl) dX9_wish_12 ⟨(Nat.le_of_ble_eq_true rfl), (Nat.le_of_ble_eq_true rfl)⟩ (fun r_12 => ?_)
  refine g_astore_nq h [(3, va_rf r_12), (2, .ref b2), (0, .ref a0), (1, .int a1)] dX9_wish_15 (by decide) rfl ?_
  refine g_iconst (v := 0) h dX9_wish_16 (by decide) ?_
  refine g_istore h [(4, .int (0 : Int32)), (3, va_rf r_12), (2, .ref b2), (0, .ref a0), (1, .int a1)] dX9_wish_17 (by decide) (by cases r_12 <;> rfl) ?_
  refine g_iconst (v := 0) h dX9_wish_19 (by decide) ?_
  refine g_istore h [(5, .int (0 : Int32)), (4, .int (0 : Int32)), (3, va_rf r_12), (2, .ref b2), (0, .ref a0), (1, .int a1)] dX9_wish_20 (by decide) rfl ?_
  refine g_lv [(0, .ref a0), (2, .ref b2), (3, va_rf r_12), (4, .int (0 : Int32)), (5, .int (0 : Int32))] [4, 3, 2, 1, 0] rfl ?_
  refine K9_wish_L22_w h hKs hE hkw hX hSt hE0 hT a0 b2 r_12 (fun s_83 v4_83 => ?_) gF s_8 (0 : Int32) (0 : Int32)
  · refine g_iload h 0 dX9_wish_83 rfl ?_
    exact g_xiret h hE hr (Nat.le_of_ble_eq_true rfl) (Nat.le_of_ble_eq_true rfl) dX9_wish_85
def rm_X9_setAt : Room := { frames := 6, cells := 1, slots := 6, locals := 90 }
theorem yk_X9_setAt : yOkV yX9_setAt cX9_setAt 2 (some (.object "KeepForget$RuleSet")) RX9 1 := ⟨tW_791, tW_1, tW_790, tP_29, by decide, by decide, by decide +kernel⟩
def K9_setAt_B12 (s0 : Km)  : Option ((Option Nat × Km) ⊕ (Bool × Km)) :=
  some (.inr (true, s0))
set_option maxHeartbeats 4000000 in
set_option maxRecDepth 100000 in
theorem K9_setAt_B12_w {p : Program} {l : Launch} {e : Env} {s : State} {m : MethodId} {args : Array Value} {below : List Frame} {meth : Method} {c : Code} {A : Nat → Prop} {Ke : State → Prop} {D : va_G} {cA : Nat → ClassId} {E : State → Heap → Prop} {adS adV adM : Nat → Nat} {adD : Nat} (h : gOk p s m args meth c cX9_setAt 2 RX9 tb) (hKs : Ke s) (hE : mEok E A) (hkw : gKw Ke) (hX : xSt l Ke E A adM adD) (hSt : sSt Ke A (KW D cA E A) adS adV) (hE0 : E s s.heap) (hT : ∀ x ∈ c.exceptionTable.toList, False) (s0 : Km)  (hr : meth.sig.returnType = some (.object "KeepForget$RuleSet"))  : gS p l e rm_X9_setAt s m args below meth c 2 A (KW D cA E A) (fun X => vx_MQ below (xQq (KW D cA E A) A X) (xC (KW D cA E A) A X) args s rm_X9_setAt.cells rm_X9_setAt.slots A) (0) (0) (K9_setAt_B12 s0) s0 12 [] [] := by
  unfold K9_setAt_B12
  exact g_throwWq h hE hKs hX hE0 hT true 15 (by decide) xAll_t rfl (Nat.le_of_ble_eq_true rfl) (Nat.le_of_ble_eq_true rfl) (Nat.le_of_ble_eq_true rfl) (Nat.le_of_ble_eq_true rfl) (Nat.le_of_ble_eq_true rfl) (Nat.le_of_ble_eq_true rfl) dX9_setAt_12 dX9_setAt_15 dX9_setAt_16 dX9_setAt_19 dX9_setAt_22
def K9_setAt (s0 : Km) (a0 : Nat) (a1 : Int32) : Option ((Option Nat × Km) ⊕ (Bool × Km)) :=
  if a1 < 0 then
    K9_setAt_B12 s0
  else
    if kK s0 a0 = 9 then
    if a1 < kI s0 a0 4 then
      (kR s0 a0 3).bind (fun b24 =>
      if kK s0 b24 = 16 then
      if okI a1 (kN s0 b24) = true then
      (kR s0 b24 a1.toNatClampNeg).bind (fun b28 =>
      some (.inl (some b28, s0)))
      else none
      else none)
    else
      K9_setAt_B12 s0
    else none
set_option maxHeartbeats 4000000 in
set_option maxRecDepth 100000 in
theorem c_X9_setAt {l : Launch} {A : Nat → Prop} {Ke : State → Prop} {D : va_G} {cA : Nat → ClassId} {E : State → Heap → Prop} {adS adV adM : Nat → Nat} {adD : Nat} (hE : mEok E A) (hkw : gKw Ke) (hX : xSt l Ke E A adM adD) (hSt : sSt Ke A (KW D cA E A) adS adV) (s0 : Km) (a0 : Nat) (a1 : Int32) : gXq l yX9_setAt cX9_setAt 2 (some (.object "KeepForget$RuleSet")) rm_X9_setAt Ke (KW D cA E A) A [.ref a0, .int a1] s0 (K9_setAt s0 a0 a1) := by
  refine g_metxq (by decide) (by simp [lg_sl, Value.category]) ?_
  intro p e s m below meth c h hr hKs hE0 hT
  refine g_lv [(0, .ref a0), (1, .int a1)] [0, 1] rfl ?_
  unfold K9_setAt
  refine g_iload_n h 1 dX9_setAt_0 rfl ?_
  refine g_if_lt h 12 dX9_setAt_1 (by decide) ?_ ?_
  · refine g_lv [] [] rfl ?_
    exact K9_setAt_B12_w h hKs hE hkw hX hSt hE0 hT s0  hr
  · refine g_iload_n h 1 dX9_setAt_4 rfl ?_
    refine g_aload_n h 0 dX9_setAt_5 rfl ?_
    refine k_kind (fun hk6_0 => ?_)
    refine k_geti h (RX9, TX9, 13) 8 (by decide) rfl hinX9 4 (by decide) rfl tW_118 dX9_setAt_6 hk6_0 ?_
    refine g_icmp_lt h 23 dX9_setAt_9 (by decide) ?_ ?_
    · refine g_aload_n h 0 dX9_setAt_23 rfl ?_
      refine k_getr h (RX9, TX9, 13) 8 (by decide) rfl hinX9 3 (by decide) rfl tW_117 dX9_setAt_24 hk6_0 ?_
      refine g_ob (fun b24 => ?_)
      refine g_iload_n h 1 dX9_setAt_27 rfl ?_
      refine k_kind (fun hk28_0 => ?_)
      refine k_aald h 16 5 (by decide) "KeepForget$RuleSet" rfl dX9_setAt_28 hk28_0 ?_
      refine g_ob (fun b28 => ?_)
      exact g_xqret (r := some b28) h hE hr rfl (Nat.le_of_ble_eq_true rfl) (Nat.le_of_ble_eq_true rfl) dX9_setAt_29
    · refine g_lv [] [] rfl ?_
      exact K9_setAt_B12_w h hKs hE hkw hX hSt hE0 hT s0  hr
def rm_X9_chosenSet : Room := { frames := 7, cells := 1, slots := 6, locals := 111 }
theorem yk_X9_chosenSet : yOkV yX9_chosenSet cX9_chosenSet 2 (some (.object "KeepForget$RuleSet")) RX9 1 := ⟨tW_787, tW_1, tW_786, tP_28, by decide, by decide, by decide +kernel⟩
def K9_chosenSet_B17 (s0 : Km) (t0 : Option Nat) : Option ((Option Nat × Km) ⊕ (Bool × Km)) :=
  some (.inl (t0, s0))
set_option maxHeartbeats 4000000 in
set_option maxRecDepth 100000 in
theorem K9_chosenSet_B17_w {p : Program} {l : Launch} {e : Env} {s : State} {m : MethodId} {args : Array Value} {below : List Frame} {meth : Method} {c : Code} {A : Nat → Prop} {Ke : State → Prop} {D : va_G} {cA : Nat → ClassId} {E : State → Heap → Prop} {adS adV adM : Nat → Nat} {adD : Nat} (h : gOk p s m args meth c cX9_chosenSet 2 RX9 tb) (hKs : Ke s) (hE : mEok E A) (hkw : gKw Ke) (hX : xSt l Ke E A adM adD) (hSt : sSt Ke A (KW D cA E A) adS adV) (hE0 : E s s.heap) (hT : ∀ x ∈ c.exceptionTable.toList, False) (s0 : Km) (t0 : Option Nat) (hr : meth.sig.returnType = some (.object "KeepForget$RuleSet"))  : gS p l e rm_X9_chosenSet s m args below meth c 2 A (KW D cA E A) (fun X => vx_MQ below (xQq (KW D cA E A) A X) (xC (KW D cA E A) A X) args s rm_X9_chosenSet.cells rm_X9_chosenSet.slots A) (1) (6) (K9_chosenSet_B17 s0 t0) s0 17 [] [va_rf t0] := by
  unfold K9_chosenSet_B17
  exact g_xqret (r := t0) h hE hr rfl (Nat.le_of_ble_eq_true rfl) (Nat.le_of_ble_eq_true rfl) dX9_chosenSet_17
def K9_chosenSet (s0 : Km) (a0 : Nat) (a1 : Int32) : Option ((Option Nat × Km) ⊕ (Bool × Km)) :=
  if a1 = (-1 : Int32) then
    if kK s0 a0 = 9 then
    (K9_setInForce s0 a0).bind (fun r_6 =>
    K9_chosenSet_B17 s0 r_6)
    else none
  else
    if kK s0 a0 = 9 then
    bxq (K9_setAt s0 a0 a1) (fun r_14 s_14 =>
    (r_14).bind (fun b14 =>
    K9_chosenSet_B17 s_14 (some b14)))
    else none
set_option maxHeartbeats 4000000 in
set_option maxRecDepth 100000 in
theorem c_X9_chosenSet {l : Launch} {A : Nat → Prop} {Ke : State → Prop} {D : va_G} {cA : Nat → ClassId} {E : State → Heap → Prop} {adS adV adM : Nat → Nat} {adD : Nat} (hE : mEok E A) (hkw : gKw Ke) (hX : xSt l Ke E A adM adD) (hSt : sSt Ke A (KW D cA E A) adS adV) (s0 : Km) (a0 : Nat) (a1 : Int32) : gXq l yX9_chosenSet cX9_chosenSet 2 (some (.object "KeepForget$RuleSet")) rm_X9_chosenSet Ke (KW D cA E A) A [.ref a0, .int a1] s0 (K9_chosenSet s0 a0 a1) := by
  refine g_metxq (by decide) (by simp [lg_sl, Value.category]) ?_
  intro p e s m below meth c h hr hKs hE0 hT
  refine g_lv [(0, .ref a0), (1, .int a1)] [0, 1] rfl ?_
  unfold K9_chosenSet
  refine g_iload_n h 1 dX9_chosenSet_0 rfl ?_
  refine g_iconst (v := -1) h dX9_chosenSet_1 (by decide) ?_
  refine g_icmp_ne h 12 dX9_chosenSet_2 (by decide) ?_ ?_
  · refine g_aload_n h 0 dX9_chosenSet_12 rfl ?_
    refine g_iload_n h 1 dX9_chosenSet_13 rfl ?_
    refine k_kind (fun hk14_0 => ?_)
    refine g_xcallVq h hE hkw hKs hT [.int a1] (c_X9_setAt hE hkw hX hSt s0 a0 a1) yk_X9_setAt tW_788 ⟨(Nat.le_of_ble_eq_true rfl), (Nat.le_of_ble_eq_true rfl)⟩ (KW_recv a0 8 (r := (RX9, TX9, 13)) hk14_0 (by decide) rfl) rfl rfl (Nat.le_of_ble_eq_true rfl) dX9_chosenSet_14 ⟨(Nat.le_of_ble_eq_true rfl), (Nat.le_of_ble_eq_true rfl)⟩ (Nat.le_of_ble_eq_true rfl) (Nat.le_of_ble_eq_true rfl) (fun r_14 s_14 => ?_)
    refine g_wid (1) (6) (Nat.le_of_ble_eq_true rfl) (Nat.le_of_ble_eq_true rfl) ?_
    refine g_ob (fun b14 => ?_)
    refine g_lv [] [] rfl ?_
    exact K9_chosenSet_B17_w h hKs hE hkw hX hSt hE0 hT s_14 (some b14) hr
  · refine g_aload_n h 0 dX9_chosenSet_5 rfl ?_
    refine k_kind (fun hk6_0 => ?_)
    refine g_callV0q h (KW_mv hE) hkw hKs [] (c_X9_setInForce hE hkw hX hSt s0 a0) yk_X9_setInForce tW_210 ⟨(Nat.le_of_ble_eq_true rfl), (Nat.le_of_ble_eq_true rfl)⟩ (KW_recv a0 8 (r := (RX9, TX9, 13)) hk6_0 (by decide) rfl) rfl rfl rfl rfl (Nat.le_of_ble_eq_true rfl) dX9_chosenSet_6 ⟨(Nat.le_of_ble_eq_true rfl), (Nat.le_of_ble_eq_true rfl)⟩ (fun r_6 => ?_)
    refine g_goto h 17 dX9_chosenSet_9 (by decide) ?_
    refine g_wid (1) (6) (Nat.le_of_ble_eq_true rfl) (Nat.le_of_ble_eq_true rfl) ?_
    refine g_lv [] [] rfl ?_
    exact K9_chosenSet_B17_w h hKs hE hkw hX hSt hE0 hT s0 r_6 hr
def rm_X9_span : Room := { frames := 8, cells := 4, slots := 24, locals := 132 }
theorem yk_X9_span : yOkV yX9_span cX9_span 6 (some .int) RX9 4 := ⟨tW_783, tW_1, tW_781, tW_782, by decide, by decide, by decide +kernel⟩
def K9_span (s0 : Km) (a0 : Nat) (a1 : Int32) (a2 : Int32) (a3 : Int32) (a4 : Int32) : Option ((Int32 × Km) ⊕ (Bool × Km)) :=
  if kK s0 a0 = 9 then
  bxq (K9_thingAt s0 a0 a1) (fun r_2 s_2 =>
  (r_2).bind (fun b2 =>
  bxv (K9_checkField s_2 a2) (fun s_8 =>
  if kK s_8 a0 = 9 then
  (kR s_8 a0 11).bind (fun b12 =>
  bxq (K9_chosenSet s_8 a0 a3) (fun r_20 s_20 =>
  if kK s_20 b12 = 6 then
  (K6_settle s_20 b12 b2 a2 r_20).bind (fun s_23 =>
  if a4 = 0 then
    if kK s_23 a0 = 9 then
    (kR s_23 a0 11).bind (fun b65 =>
    if kK s_23 b65 = 6 then
    some (.inl (kI s_23 b65 0, s_23))
    else none)
    else none
    else if a4 = 1 then
      if kK s_23 a0 = 9 then
      (kR s_23 a0 11).bind (fun b73 =>
      if kK s_23 b73 = 6 then
      some (.inl (kI s_23 b73 1, s_23))
      else none)
      else none
      else if a4 = 2 then
        if kK s_23 a0 = 9 then
        (kR s_23 a0 11).bind (fun b81 =>
        if kK s_23 b81 = 6 then
        some (.inl (kI s_23 b81 2, s_23))
        else none)
        else none
        else if a4 = 3 then
          if kK s_23 a0 = 9 then
          (kR s_23 a0 11).bind (fun b89 =>
          if kK s_23 b89 = 6 then
          some (.inl (kI s_23 b89 3, s_23))
          else none)
          else none
          else if a4 = 4 then
            if kK s_23 a0 = 9 then
            (kR s_23 a0 11).bind (fun b97 =>
            if kK s_23 b97 = 6 then
            some (.inl (kI s_23 b97 5, s_23))
            else none)
            else none
            else some (.inr (true, s_23)))
  else none))
  else none)))
  else none
set_option maxHeartbeats 4000000 in
set_option maxRecDepth 100000 in
theorem c_X9_span {l : Launch} {A : Nat → Prop} {Ke : State → Prop} {D : va_G} {cA : Nat → ClassId} {E : State → Heap → Prop} {adS adV adM : Nat → Nat} {adD : Nat} (hE : mEok E A) (hkw : gKw Ke) (hX : xSt l Ke E A adM adD) (hSt : sSt Ke A (KW D cA E A) adS adV) (s0 : Km) (a0 : Nat) (a1 : Int32) (a2 : Int32) (a3 : Int32) (a4 : Int32) : gXi l yX9_span cX9_span 6 (some .int) rm_X9_span Ke (KW D cA E A) A [.ref a0, .int a1, .int a2, .int a3, .int a4] s0 (K9_span s0 a0 a1 a2 a3 a4) := by
  refine g_metxi (by decide) (by simp [lg_sl, Value.category]) ?_
  intro p e s m below meth c h hr hKs hE0 hT
  refine g_lv [(0, .ref a0), (1, .int a1), (2, .int a2), (3, .int a3), (4, .int a4)] [0, 1, 2, 3, 4] rfl ?_
  unfold K9_span
  refine g_aload_n h 0 dX9_span_0 rfl ?_
  refine g_iload_n h 1 dX9_span_1 rfl ?_
  refine k_kind (fun hk2_0 => ?_)
  refine g_xcallVq h hE hkw hKs hT [.int a1] (c_X9_thingAt hE hkw hX hSt s0 a0 a1) yk_X9_thingAt tW_637 ⟨(Nat.le_of_ble_eq_true rfl), (Nat.le_of_ble_eq_true rfl)⟩ (KW_recv a0 8 (r := (RX9, TX9, 13)) hk2_0 (by decide) rfl) rfl rfl (Nat.le_of_ble_eq_true rfl) dX9_span_2 ⟨(Nat.le_of_ble_eq_true rfl), (Nat.le_of_ble_eq_true rfl)⟩ (Nat.le_of_ble_eq_true rfl) (Nat.le_of_ble_eq_true rfl) (fun r_2 s_2 => ?_)
  refine g_wid (1) (6) (Nat.le_of_ble_eq_true rfl) (Nat.le_of_ble_eq_true rfl) ?_
  refine g_ob (fun b2 => ?_)
  refine g_astore h [(5, .ref b2), (0, .ref a0), (1, .int a1), (2, .int a2), (3, .int a3), (4, .int a4)] dX9_span_5 (by decide) rfl ?_
  refine g_iload_n h 3 dX9_span_7 rfl ?_
  refine g_xcallSv h hE hkw hKs hT [.int a2] (c_X9_checkField hE hkw hX hSt s_2 a2) yk_X9_checkField tW_674 ⟨(Nat.le_of_ble_eq_true rfl), (Nat.le_of_ble_eq_true rfl)⟩ rfl rfl (Nat.le_of_ble_eq_true rfl) dX9_span_8 ⟨(Nat.le_of_ble_eq_true rfl), (Nat.le_of_ble_eq_true rfl)⟩ (Nat.le_of_ble_eq_true rfl) (Nat.le_of_ble_eq_true rfl) (fun s_8 => ?_)
  refine g_wid (2) (12) (Nat.le_of_ble_eq_true rfl) (Nat.le_of_ble_eq_true rfl) ?_
  refine g_aload_n h 1 dX9_span_11 rfl ?_
  refine k_kind (fun hk12_0 => ?_)
  refine k_getr h (RX9, TX9, 13) 8 (by decide) rfl hinX9 11 (by decide) rfl tW_125 dX9_span_12 hk12_0 ?_
  refine g_ob (fun b12 => ?_)
  refine g_aload h 0 dX9_span_15 rfl ?_
  refine g_iload_n h 3 dX9_span_17 rfl ?_
  refine g_aload_n h 1 dX9_span_18 rfl ?_
  refine g_iload_n h 4 dX9_span_19 rfl ?_
  refine g_xcallVq h hE hkw hKs hT [.int a3] (c_X9_chosenSet hE hkw hX hSt s_8 a0 a3) yk_X9_chosenSet tW_784 ⟨(Nat.le_of_ble_eq_true rfl), (Nat.le_of_ble_eq_true rfl)⟩ (KW_recv a0 8 (r := (RX9, TX9, 13)) hk12_0 (by decide) rfl) rfl rfl (Nat.le_of_ble_eq_true rfl) dX9_span_20 ⟨(Nat.le_of_ble_eq_true rfl), (Nat.le_of_ble_eq_true rfl)⟩ (Nat.le_of_ble_eq_true rfl) (Nat.le_of_ble_eq_true rfl) (fun r_20 s_20 => ?_)
  refine g_wid (3) (18) (Nat.le_of_ble_eq_true rfl) (Nat.le_of_ble_eq_true rfl) ?_
  refine k_kind (fun hk23_0 => ?_)
  refine g_callV0v h (KW_mv hE) hkw hKs [.ref b2, .int a2, va_rf r_20] (c_X6_settle hE hkw hX hSt s_20 b12 b2 a2 r_20) yk_X6_settle tW_744 ⟨(Nat.le_of_ble_eq_true rfl), (Nat.le_of_ble_eq_true rfl)⟩ (KW_recv b12 5 (r := (RX6, TX6, 8)) hk23_0 (by decide) rfl) rfl rfl rfl rfl (Nat.le_of_ble_eq_true rfl) dX9_span_23 ⟨(Nat.le_of_ble_eq_true rfl), (Nat.le_of_ble_eq_true rfl)⟩ (fun s_23 => ?_)
  refine g_iload h 5 dX9_span_26 rfl ?_
  refine g_case (fun q28_0 => ?_) (fun q28_0 => ?_)
  · refine g_tabIn h 64 dX9_span_28 (by rw [q28_0]; decide) (by rw [q28_0]; decide) (by rw [q28_0]; rfl) (by decide) ?_
    refine g_aload_n h 1 dX9_span_64 rfl ?_
    refine k_kind (fun hk65_0 => ?_)
    refine k_getr h (RX9, TX9, 13) 8 (by decide) rfl hinX9 11 (by decide) rfl tW_125 dX9_span_65 hk65_0 ?_
    refine g_ob (fun b65 => ?_)
    refine k_kind (fun hk68_0 => ?_)
    refine k_geti h (RX6, TX6, 8) 5 (by decide) rfl hinX6 0 (by decide) rfl tW_81 dX9_span_68 hk68_0 ?_
    exact g_xiret h hE hr (Nat.le_of_ble_eq_true rfl) (Nat.le_of_ble_eq_true rfl) dX9_span_71
  · skip
    refine g_case (fun q28_1 => ?_) (fun q28_1 => ?_)
    · refine g_tabIn h 72 dX9_span_28 (by rw [q28_1]; decide) (by rw [q28_1]; decide) (by rw [q28_1]; rfl) (by decide) ?_
      refine g_aload_n h 1 dX9_span_72 rfl ?_
      refine k_kind (fun hk73_0 => ?_)
      refine k_getr h (RX9, TX9, 13) 8 (by decide) rfl hinX9 11 (by decide) rfl tW_125 dX9_span_73 hk73_0 ?_
      refine g_ob (fun b73 => ?_)
      refine k_kind (fun hk76_0 => ?_)
      refine k_geti h (RX6, TX6, 8) 5 (by decide) rfl hinX6 1 (by decide) rfl tW_84 dX9_span_76 hk76_0 ?_
      exact g_xiret h hE hr (Nat.le_of_ble_eq_true rfl) (Nat.le_of_ble_eq_true rfl) dX9_span_79
    · skip
      refine g_case (fun q28_2 => ?_) (fun q28_2 => ?_)
      · refine g_tabIn h 80 dX9_span_28 (by rw [q28_2]; decide) (by rw [q28_2]; decide) (by rw [q28_2]; rfl) (by decide) ?_
        refine g_aload_n h 1 dX9_span_80 rfl ?_
        refine k_kind (fun hk81_0 => ?_)
        refine k_getr h (RX9, TX9, 13) 8 (by decide) rfl hinX9 11 (by decide) rfl tW_125 dX9_span_81 hk81_0 ?_
        refine g_ob (fun b81 => ?_)
        refine k_kind (fun hk84_0 => ?_)
        refine k_geti h (RX6, TX6, 8) 5 (by decide) rfl hinX6 2 (by decide) rfl tW_86 dX9_span_84 hk84_0 ?_
        exact g_xiret h hE hr (Nat.le_of_ble_eq_true rfl) (Nat.le_of_ble_eq_true rfl) dX9_span_87
      · skip
        refine g_case (fun q28_3 => ?_) (fun q28_3 => ?_)
        · refine g_tabIn h 88 dX9_span_28 (by rw [q28_3]; decide) (by rw [q28_3]; decide) (by rw [q28_3]; rfl) (by decide) ?_
          refine g_aload_n h 1 dX9_span_88 rfl ?_
          refine k_kind (fun hk89_0 => ?_)
          refine k_getr h (RX9, TX9, 13) 8 (by decide) rfl hinX9 11 (by decide) rfl tW_125 dX9_span_89 hk89_0 ?_
          refine g_ob (fun b89 => ?_)
          refine k_kind (fun hk92_0 => ?_)
          refine k_geti h (RX6, TX6, 8) 5 (by decide) rfl hinX6 3 (by decide) rfl tW_89 dX9_span_92 hk92_0 ?_
          exact g_xiret h hE hr (Nat.le_of_ble_eq_true rfl) (Nat.le_of_ble_eq_true rfl) dX9_span_95
        · skip
          refine g_case (fun q28_4 => ?_) (fun q28_4 => ?_)
          · refine g_tabIn h 96 dX9_span_28 (by rw [q28_4]; decide) (by rw [q28_4]; decide) (by rw [q28_4]; rfl) (by decide) ?_
            refine g_aload_n h 1 dX9_span_96 rfl ?_
            refine k_kind (fun hk97_0 => ?_)
            refine k_getr h (RX9, TX9, 13) 8 (by decide) rfl hinX9 11 (by decide) rfl tW_125 dX9_span_97 hk97_0 ?_
            refine g_ob (fun b97 => ?_)
            refine k_kind (fun hk100_0 => ?_)
            refine k_geti h (RX6, TX6, 8) 5 (by decide) rfl hinX6 5 (by decide) rfl tW_93 dX9_span_100 hk100_0 ?_
            exact g_xiret h hE hr (Nat.le_of_ble_eq_true rfl) (Nat.le_of_ble_eq_true rfl) dX9_span_103
          · skip
            refine g_tabOut h 104 dX9_span_28 (by have z0 := lv_neT (a := 0) q28_0 (by decide); have z1 := lv_neT (a := 1) q28_1 (by decide); have z2 := lv_neT (a := 2) q28_2 (by decide); have z3 := lv_neT (a := 3) q28_3 (by decide); have z4 := lv_neT (a := 4) q28_4 (by decide); omega) (by decide) ?_
            exact g_throwi h hE hKs hX hE0 hT true 16 (by decide) xAll_t rfl (Nat.le_of_ble_eq_true rfl) (Nat.le_of_ble_eq_true rfl) (Nat.le_of_ble_eq_true rfl) (Nat.le_of_ble_eq_true rfl) (Nat.le_of_ble_eq_true rfl) (Nat.le_of_ble_eq_true rfl) dX9_span_104 dX9_span_107 dX9_span_108 dX9_span_110 dX9_span_113
def rm_X9_lost : Room := { frames := 8, cells := 4, slots := 24, locals := 132 }
theorem yk_X9_lost : yOkV yX9_lost cX9_lost 6 (some .int) RX9 4 := ⟨tW_800, tW_1, tW_798, tW_799, by decide, by decide, by decide +kernel⟩
def K9_lost_B43 (s0 : Km)  : Option ((Int32 × Km) ⊕ (Bool × Km)) :=
  some (.inr (true, s0))
set_option maxHeartbeats 4000000 in
set_option maxRecDepth 100000 in
theorem K9_lost_B43_w {p : Program} {l : Launch} {e : Env} {s : State} {m : MethodId} {args : Array Value} {below : List Frame} {meth : Method} {c : Code} {A : Nat → Prop} {Ke : State → Prop} {D : va_G} {cA : Nat → ClassId} {E : State → Heap → Prop} {adS adV adM : Nat → Nat} {adD : Nat} (h : gOk p s m args meth c cX9_lost 6 RX9 tb) (hKs : Ke s) (hE : mEok E A) (hkw : gKw Ke) (hX : xSt l Ke E A adM adD) (hSt : sSt Ke A (KW D cA E A) adS adV) (hE0 : E s s.heap) (hT : ∀ x ∈ c.exceptionTable.toList, False) (s0 : Km)  (hr : meth.sig.returnType = some .int)  : gS p l e rm_X9_lost s m args below meth c 6 A (KW D cA E A) (fun X => vx_MQ below (xQi (KW D cA E A) A X) (xC (KW D cA E A) A X) args s rm_X9_lost.cells rm_X9_lost.slots A) (3) (18) (K9_lost_B43 s0) s0 43 [] [] := by
  unfold K9_lost_B43
  exact g_throwi h hE hKs hX hE0 hT true 17 (by decide) xAll_t rfl (Nat.le_of_ble_eq_true rfl) (Nat.le_of_ble_eq_true rfl) (Nat.le_of_ble_eq_true rfl) (Nat.le_of_ble_eq_true rfl) (Nat.le_of_ble_eq_true rfl) (Nat.le_of_ble_eq_true rfl) dX9_lost_43 dX9_lost_46 dX9_lost_47 dX9_lost_49 dX9_lost_52
def K9_lost (s0 : Km) (a0 : Nat) (a1 : Int32) (a2 : Int32) (a3 : Int32) (a4 : Int32) : Option ((Int32 × Km) ⊕ (Bool × Km)) :=
  if kK s0 a0 = 9 then
  bxq (K9_thingAt s0 a0 a1) (fun r_2 s_2 =>
  (r_2).bind (fun b2 =>
  bxv (K9_checkField s_2 a2) (fun s_8 =>
  if kK s_8 a0 = 9 then
  (kR s_8 a0 11).bind (fun b12 =>
  bxq (K9_chosenSet s_8 a0 a3) (fun r_20 s_20 =>
  if kK s_20 b12 = 6 then
  (K6_settle s_20 b12 b2 a2 r_20).bind (fun s_23 =>
  if a4 < 0 then
    K9_lost_B43 s_23
  else
    if kK s_23 a0 = 9 then
    (kR s_23 a0 11).bind (fun b34 =>
    if kK s_23 b34 = 6 then
    if a4 < kI s_23 b34 5 then
      (kR s_23 a0 11).bind (fun b54 =>
      if kK s_23 b54 = 6 then
      (kR s_23 b54 4).bind (fun b57 =>
      if kK s_23 b57 = 12 then
      if okI a4 (kN s_23 b57) = true then
      some (.inl (kI s_23 b57 a4.toNatClampNeg, s_23))
      else none
      else none)
      else none)
    else
      K9_lost_B43 s_23
    else none)
    else none)
  else none))
  else none)))
  else none
set_option maxHeartbeats 4000000 in
set_option maxRecDepth 100000 in
theorem c_X9_lost {l : Launch} {A : Nat → Prop} {Ke : State → Prop} {D : va_G} {cA : Nat → ClassId} {E : State → Heap → Prop} {adS adV adM : Nat → Nat} {adD : Nat} (hE : mEok E A) (hkw : gKw Ke) (hX : xSt l Ke E A adM adD) (hSt : sSt Ke A (KW D cA E A) adS adV) (s0 : Km) (a0 : Nat) (a1 : Int32) (a2 : Int32) (a3 : Int32) (a4 : Int32) : gXi l yX9_lost cX9_lost 6 (some .int) rm_X9_lost Ke (KW D cA E A) A [.ref a0, .int a1, .int a2, .int a3, .int a4] s0 (K9_lost s0 a0 a1 a2 a3 a4) := by
  refine g_metxi (by decide) (by simp [lg_sl, Value.category]) ?_
  intro p e s m below meth c h hr hKs hE0 hT
  refine g_lv [(0, .ref a0), (1, .int a1), (2, .int a2), (3, .int a3), (4, .int a4)] [0, 1, 2, 3, 4] rfl ?_
  unfold K9_lost
  refine g_aload_n h 0 dX9_lost_0 rfl ?_
  refine g_iload_n h 1 dX9_lost_1 rfl ?_
  refine k_kind (fun hk2_0 => ?_)
  refine g_xcallVq h hE hkw hKs hT [.int a1] (c_X9_thingAt hE hkw hX hSt s0 a0 a1) yk_X9_thingAt tW_637 ⟨(Nat.le_of_ble_eq_true rfl), (Nat.le_of_ble_eq_true rfl)⟩ (KW_recv a0 8 (r := (RX9, TX9, 13)) hk2_0 (by decide) rfl) rfl rfl (Nat.le_of_ble_eq_true rfl) dX9_lost_2 ⟨(Nat.le_of_ble_eq_true rfl), (Nat.le_of_ble_eq_true rfl)⟩ (Nat.le_of_ble_eq_true rfl) (Nat.le_of_ble_eq_true rfl) (fun r_2 s_2 => ?_)
  refine g_wid (1) (6) (Nat.le_of_ble_eq_true rfl) (Nat.le_of_ble_eq_true rfl) ?_
  refine g_ob (fun b2 => ?_)
  refine g_astore h [(5, .ref b2), (0, .ref a0), (1, .int a1), (2, .int a2), (3, .int a3), (4, .int a4)] dX9_lost_5 (by decide) rfl ?_
  refine g_iload_n h 3 dX9_lost_7 rfl ?_
  refine g_xcallSv h hE hkw hKs hT [.int a2] (c_X9_checkField hE hkw hX hSt s_2 a2) yk_X9_checkField tW_674 ⟨(Nat.le_of_ble_eq_true rfl), (Nat.le_of_ble_eq_true rfl)⟩ rfl rfl (Nat.le_of_ble_eq_true rfl) dX9_lost_8 ⟨(Nat.le_of_ble_eq_true rfl), (Nat.le_of_ble_eq_true rfl)⟩ (Nat.le_of_ble_eq_true rfl) (Nat.le_of_ble_eq_true rfl) (fun s_8 => ?_)
  refine g_wid (2) (12) (Nat.le_of_ble_eq_true rfl) (Nat.le_of_ble_eq_true rfl) ?_
  refine g_aload_n h 1 dX9_lost_11 rfl ?_
  refine k_kind (fun hk12_0 => ?_)
  refine k_getr h (RX9, TX9, 13) 8 (by decide) rfl hinX9 11 (by decide) rfl tW_125 dX9_lost_12 hk12_0 ?_
  refine g_ob (fun b12 => ?_)
  refine g_aload h 0 dX9_lost_15 rfl ?_
  refine g_iload_n h 3 dX9_lost_17 rfl ?_
  refine g_aload_n h 1 dX9_lost_18 rfl ?_
  refine g_iload_n h 4 dX9_lost_19 rfl ?_
  refine g_xcallVq h hE hkw hKs hT [.int a3] (c_X9_chosenSet hE hkw hX hSt s_8 a0 a3) yk_X9_chosenSet tW_784 ⟨(Nat.le_of_ble_eq_true rfl), (Nat.le_of_ble_eq_true rfl)⟩ (KW_recv a0 8 (r := (RX9, TX9, 13)) hk12_0 (by decide) rfl) rfl rfl (Nat.le_of_ble_eq_true rfl) dX9_lost_20 ⟨(Nat.le_of_ble_eq_true rfl), (Nat.le_of_ble_eq_true rfl)⟩ (Nat.le_of_ble_eq_true rfl) (Nat.le_of_ble_eq_true rfl) (fun r_20 s_20 => ?_)
  refine g_wid (3) (18) (Nat.le_of_ble_eq_true rfl) (Nat.le_of_ble_eq_true rfl) ?_
  refine k_kind (fun hk23_0 => ?_)
  refine g_callV0v h (KW_mv hE) hkw hKs [.ref b2, .int a2, va_rf r_20] (c_X6_settle hE hkw hX hSt s_20 b12 b2 a2 r_20) yk_X6_settle tW_744 ⟨(Nat.le_of_ble_eq_true rfl), (Nat.le_of_ble_eq_true rfl)⟩ (KW_recv b12 5 (r := (RX6, TX6, 8)) hk23_0 (by decide) rfl) rfl rfl rfl rfl (Nat.le_of_ble_eq_true rfl) dX9_lost_23 ⟨(Nat.le_of_ble_eq_true rfl), (Nat.le_of_ble_eq_true rfl)⟩ (fun s_23 => ?_)
  refine g_iload h 5 dX9_lost_26 rfl ?_
  refine g_if_lt h 43 dX9_lost_28 (by decide) ?_ ?_
  · refine g_lv [] [] rfl ?_
    exact K9_lost_B43_w h hKs hE hkw hX hSt hE0 hT s_23  hr
  · refine g_iload h 5 dX9_lost_31 rfl ?_
    refine g_aload_n h 1 dX9_lost_33 rfl ?_
    refine k_kind (fun hk34_0 => ?_)
    refine k_getr h (RX9, TX9, 13) 8 (by decide) rfl hinX9 11 (by decide) rfl tW_125 dX9_lost_34 hk34_0 ?_
    refine g_ob (fun b34 => ?_)
    refine k_kind (fun hk37_0 => ?_)
    refine k_geti h (RX6, TX6, 8) 5 (by decide) rfl hinX6 5 (by decide) rfl tW_93 dX9_lost_37 hk37_0 ?_
    refine g_icmp_lt h 53 dX9_lost_40 (by decide) ?_ ?_
    · refine g_aload_n h 1 dX9_lost_53 rfl ?_
      refine k_getr h (RX9, TX9, 13) 8 (by decide) rfl hinX9 11 (by decide) rfl tW_125 dX9_lost_54 hk34_0 ?_
      refine g_ob (fun b54 => ?_)
      refine k_kind (fun hk57_0 => ?_)
      refine k_getr h (RX6, TX6, 8) 5 (by decide) rfl hinX6 4 (by decide) rfl tW_91 dX9_lost_57 hk57_0 ?_
      refine g_ob (fun b57 => ?_)
      refine g_iload h 5 dX9_lost_60 rfl ?_
      refine k_kind (fun hk62_0 => ?_)
      refine k_iald h dX9_lost_62 hk62_0 ?_
      exact g_xiret h hE hr (Nat.le_of_ble_eq_true rfl) (Nat.le_of_ble_eq_true rfl) dX9_lost_63
    · refine g_lv [] [] rfl ?_
      exact K9_lost_B43_w h hKs hE hkw hX hSt hE0 hT s_23  hr
def rm_X9_why : Room := { frames := 7, cells := 2, slots := 12, locals := 118 }
theorem yk_X9_why : yOkV yX9_why cX9_why 4 (some .int) RX9 2 := ⟨tW_808, tW_1, tW_806, tW_807, by decide, by decide, by decide +kernel⟩
def K9_why_B70 (s0 : Km) (t0 : Int32) : Option ((Int32 × Km) ⊕ (Bool × Km)) :=
  some (.inl (t0, s0))
set_option maxHeartbeats 4000000 in
set_option maxRecDepth 100000 in
theorem K9_why_B70_w {p : Program} {l : Launch} {e : Env} {s : State} {m : MethodId} {args : Array Value} {below : List Frame} {meth : Method} {c : Code} {A : Nat → Prop} {Ke : State → Prop} {D : va_G} {cA : Nat → ClassId} {E : State → Heap → Prop} {adS adV adM : Nat → Nat} {adD : Nat} (h : gOk p s m args meth c cX9_why 4 RX9 tb) (hKs : Ke s) (hE : mEok E A) (hkw : gKw Ke) (hX : xSt l Ke E A adM adD) (hSt : sSt Ke A (KW D cA E A) adS adV) (hE0 : E s s.heap) (hT : ∀ x ∈ c.exceptionTable.toList, False) (s0 : Km) (t0 : Int32) (hr : meth.sig.returnType = some .int)  : gS p l e rm_X9_why s m args below meth c 4 A (KW D cA E A) (fun X => vx_MQ below (xQi (KW D cA E A) A X) (xC (KW D cA E A) A X) args s rm_X9_why.cells rm_X9_why.slots A) (2) (12) (K9_why_B70 s0 t0) s0 70 [] [.int t0] := by
  unfold K9_why_B70
  exact g_xiret h hE hr (Nat.le_of_ble_eq_true rfl) (Nat.le_of_ble_eq_true rfl) dX9_why_70
def K9_why (s0 : Km) (a0 : Nat) (a1 : Int32) (a2 : Int32) : Option ((Int32 × Km) ⊕ (Bool × Km)) :=
  if kK s0 a0 = 9 then
  bxq (K9_thingAt s0 a0 a1) (fun r_2 s_2 =>
  (r_2).bind (fun b2 =>
  bxv (K9_checkField s_2 a2) (fun s_7 =>
  if kK s_7 a0 = 9 then
  (kR s_7 a0 11).bind (fun b11 =>
  (K9_setInForce s_7 a0).bind (fun r_17 =>
  if kK s_7 b11 = 6 then
  (K6_settle s_7 b11 b2 a2 r_17).bind (fun s_20 =>
  if kK s_20 a0 = 9 then
  (kR s_20 a0 11).bind (fun b24 =>
  if kK s_20 b24 = 6 then
  if kI s_20 b24 6 = 0 then
    (kR s_20 a0 11).bind (fun b36 =>
    if kK s_20 b36 = 6 then
    if kI s_20 b36 0 ≤ kI s_20 a0 12 then
      (kR s_20 a0 11).bind (fun b52 =>
      if kK s_20 b52 = 6 then
      (K6_isDue s_20 b52 (kI s_20 a0 12)).bind (fun r_59 =>
      if r_59 = 0 then
        K9_why_B70 s_20 (3 : Int32)
      else
        K9_why_B70 s_20 (0 : Int32))
      else none)
    else
      some (.inl ((2 : Int32), s_20))
    else none)
  else
    some (.inl ((1 : Int32), s_20))
  else none)
  else none)
  else none))
  else none)))
  else none
set_option maxHeartbeats 4000000 in
set_option maxRecDepth 100000 in
theorem c_X9_why {l : Launch} {A : Nat → Prop} {Ke : State → Prop} {D : va_G} {cA : Nat → ClassId} {E : State → Heap → Prop} {adS adV adM : Nat → Nat} {adD : Nat} (hE : mEok E A) (hkw : gKw Ke) (hX : xSt l Ke E A adM adD) (hSt : sSt Ke A (KW D cA E A) adS adV) (s0 : Km) (a0 : Nat) (a1 : Int32) (a2 : Int32) : gXi l yX9_why cX9_why 4 (some .int) rm_X9_why Ke (KW D cA E A) A [.ref a0, .int a1, .int a2] s0 (K9_why s0 a0 a1 a2) := by
  refine g_metxi (by decide) (by simp [lg_sl, Value.category]) ?_
  intro p e s m below meth c h hr hKs hE0 hT
  refine g_lv [(0, .ref a0), (1, .int a1), (2, .int a2)] [0, 1, 2] rfl ?_
  unfold K9_why
  refine g_aload_n h 0 dX9_why_0 rfl ?_
  refine g_iload_n h 1 dX9_why_1 rfl ?_
  refine k_kind (fun hk2_0 => ?_)
  refine g_xcallVq h hE hkw hKs hT [.int a1] (c_X9_thingAt hE hkw hX hSt s0 a0 a1) yk_X9_thingAt tW_637 ⟨(Nat.le_of_ble_eq_true rfl), (Nat.le_of_ble_eq_true rfl)⟩ (KW_recv a0 8 (r := (RX9, TX9, 13)) hk2_0 (by decide) rfl) rfl rfl (Nat.le_of_ble_eq_true rfl) dX9_why_2 ⟨(Nat.le_of_ble_eq_true rfl), (Nat.le_of_ble_eq_true rfl)⟩ (Nat.le_of_ble_eq_true rfl) (Nat.le_of_ble_eq_true rfl) (fun r_2 s_2 => ?_)
  refine g_wid (1) (6) (Nat.le_of_ble_eq_true rfl) (Nat.le_of_ble_eq_true rfl) ?_
  refine g_ob (fun b2 => ?_)
  refine g_astore_n h [(3, .ref b2), (0, .ref a0), (1, .int a1), (2, .int a2)] dX9_why_5 (by decide) rfl ?_
  refine g_iload_n h 3 dX9_why_6 rfl ?_
  refine g_xcallSv h hE hkw hKs hT [.int a2] (c_X9_checkField hE hkw hX hSt s_2 a2) yk_X9_checkField tW_674 ⟨(Nat.le_of_ble_eq_true rfl), (Nat.le_of_ble_eq_true rfl)⟩ rfl rfl (Nat.le_of_ble_eq_true rfl) dX9_why_7 ⟨(Nat.le_of_ble_eq_true rfl), (Nat.le_of_ble_eq_true rfl)⟩ (Nat.le_of_ble_eq_true rfl) (Nat.le_of_ble_eq_true rfl) (fun s_7 => ?_)
  refine g_wid (2) (12) (Nat.le_of_ble_eq_true rfl) (Nat.le_of_ble_eq_true rfl) ?_
  refine g_aload_n h 1 dX9_why_10 rfl ?_
  refine k_kind (fun hk11_0 => ?_)
  refine k_getr h (RX9, TX9, 13) 8 (by decide) rfl hinX9 11 (by decide) rfl tW_125 dX9_why_11 hk11_0 ?_
  refine g_ob (fun b11 => ?_)
  refine g_aload_n h 0 dX9_why_14 rfl ?_
  refine g_iload_n h 3 dX9_why_15 rfl ?_
  refine g_aload_n h 1 dX9_why_16 rfl ?_
  refine g_callV0q h (KW_mv hE) hkw hKs [] (c_X9_setInForce hE hkw hX hSt s_7 a0) yk_X9_setInForce tW_210 ⟨(Nat.le_of_ble_eq_true rfl), (Nat.le_of_ble_eq_true rfl)⟩ (KW_recv a0 8 (r := (RX9, TX9, 13)) hk11_0 (by decide) rfl) rfl rfl rfl rfl (Nat.le_of_ble_eq_true rfl) dX9_why_17 ⟨(Nat.le_of_ble_eq_true rfl), (Nat.le_of_ble_eq_true rfl)⟩ (fun r_17 => ?_)
  refine k_kind (fun hk20_0 => ?_)
  refine g_callV0v h (KW_mv hE) hkw hKs [.ref b2, .int a2, va_rf r_17] (c_X6_settle hE hkw hX hSt s_7 b11 b2 a2 r_17) yk_X6_settle tW_744 ⟨(Nat.le_of_ble_eq_true rfl), (Nat.le_of_ble_eq_true rfl)⟩ (KW_recv b11 5 (r := (RX6, TX6, 8)) hk20_0 (by decide) rfl) rfl rfl rfl rfl (Nat.le_of_ble_eq_true rfl) dX9_why_20 ⟨(Nat.le_of_ble_eq_true rfl), (Nat.le_of_ble_eq_true rfl)⟩ (fun s_20 => ?_)
  refine g_aload_n h 1 dX9_why_23 rfl ?_
  refine k_kind (fun hk24_0 => ?_)
  refine k_getr h (RX9, TX9, 13) 8 (by decide) rfl hinX9 11 (by decide) rfl tW_125 dX9_why_24 hk24_0 ?_
  refine g_ob (fun b24 => ?_)
  refine k_kind (fun hk27_0 => ?_)
  refine k_geti h (RX6, TX6, 8) 5 (by decide) rfl hinX6 6 (by decide) rfl tW_95 dX9_why_27 hk27_0 ?_
  refine g_if_eq h 35 dX9_why_30 (by decide) ?_ ?_
  · refine g_aload_n h 1 dX9_why_35 rfl ?_
    refine k_getr h (RX9, TX9, 13) 8 (by decide) rfl hinX9 11 (by decide) rfl tW_125 dX9_why_36 hk24_0 ?_
    refine g_ob (fun b36 => ?_)
    refine k_kind (fun hk39_0 => ?_)
    refine k_geti h (RX6, TX6, 8) 5 (by decide) rfl hinX6 0 (by decide) rfl tW_81 dX9_why_39 hk39_0 ?_
    refine g_aload_n h 1 dX9_why_42 rfl ?_
    refine k_geti h (RX9, TX9, 13) 8 (by decide) rfl hinX9 12 (by decide) rfl tW_126 dX9_why_43 hk24_0 ?_
    refine g_icmp_le h 51 dX9_why_46 (by decide) ?_ ?_
    · refine g_aload_n h 1 dX9_why_51 rfl ?_
      refine k_getr h (RX9, TX9, 13) 8 (by decide) rfl hinX9 11 (by decide) rfl tW_125 dX9_why_52 hk24_0 ?_
      refine g_ob (fun b52 => ?_)
      refine g_aload_n h 1 dX9_why_55 rfl ?_
      refine k_geti h (RX9, TX9, 13) 8 (by decide) rfl hinX9 12 (by decide) rfl tW_126 dX9_why_56 hk24_0 ?_
      refine k_kind (fun hk59_0 => ?_)
      refine g_callV0p h (KW_mv hE) hkw hKs [.int (kI s_20 a0 12)] (c_X6_isDue hE hkw hX hSt s_20 b52 (kI s_20 a0 12)) yk_X6_isDue tW_773 ⟨(Nat.le_of_ble_eq_true rfl), (Nat.le_of_ble_eq_true rfl)⟩ (KW_recv b52 5 (r := (RX6, TX6, 8)) hk59_0 (by decide) rfl) rfl rfl rfl rfl (Nat.le_of_ble_eq_true rfl) dX9_why_59 ⟨(Nat.le_of_ble_eq_true rfl), (Nat.le_of_ble_eq_true rfl)⟩ (fun r_59 => ?_)
      refine g_if_eq h 69 dX9_why_62 (by decide) ?_ ?_
      · refine g_iconst (v := 3) h dX9_why_69 (by decide) ?_
        refine g_lv [] [] rfl ?_
        exact K9_why_B70_w h hKs hE hkw hX hSt hE0 hT s_20 (3 : Int32) hr
      · refine g_iconst (v := 0) h dX9_why_65 (by decide) ?_
        refine g_goto h 70 dX9_why_66 (by decide) ?_
        refine g_lv [] [] rfl ?_
        exact K9_why_B70_w h hKs hE hkw hX hSt hE0 hT s_20 (0 : Int32) hr
    · refine g_iconst (v := 2) h dX9_why_49 (by decide) ?_
      exact g_xiret h hE hr (Nat.le_of_ble_eq_true rfl) (Nat.le_of_ble_eq_true rfl) dX9_why_50
  · refine g_iconst (v := 1) h dX9_why_33 (by decide) ?_
    exact g_xiret h hE hr (Nat.le_of_ble_eq_true rfl) (Nat.le_of_ble_eq_true rfl) dX9_why_34
def rm_X9_places : Room := { frames := 7, cells := 2, slots := 12, locals := 111 }
theorem yk_X9_places : yOkV yX9_places cX9_places 4 (some .int) RX9 2 := ⟨tW_815, tW_1, tW_813, tW_814, by decide, by decide, by decide +kernel⟩
def K9_places (s0 : Km) (a0 : Nat) (a1 : Int32) (a2 : Int32) : Option ((Int32 × Km) ⊕ (Bool × Km)) :=
  if kK s0 a0 = 9 then
  bxq (K9_thingAt s0 a0 a1) (fun r_2 s_2 =>
  (r_2).bind (fun b2 =>
  bxv (K9_checkField s_2 a2) (fun s_7 =>
  if kK s_7 a0 = 9 then
  (K9_placesOf s_7 a0 b2 a2).bind (fun r_13 =>
  some (.inl (r_13, s_7)))
  else none)))
  else none
set_option maxHeartbeats 4000000 in
set_option maxRecDepth 100000 in
theorem c_X9_places {l : Launch} {A : Nat → Prop} {Ke : State → Prop} {D : va_G} {cA : Nat → ClassId} {E : State → Heap → Prop} {adS adV adM : Nat → Nat} {adD : Nat} (hE : mEok E A) (hkw : gKw Ke) (hX : xSt l Ke E A adM adD) (hSt : sSt Ke A (KW D cA E A) adS adV) (s0 : Km) (a0 : Nat) (a1 : Int32) (a2 : Int32) : gXi l yX9_places cX9_places 4 (some .int) rm_X9_places Ke (KW D cA E A) A [.ref a0, .int a1, .int a2] s0 (K9_places s0 a0 a1 a2) := by
  refine g_metxi (by decide) (by simp [lg_sl, Value.category]) ?_
  intro p e s m below meth c h hr hKs hE0 hT
  refine g_lv [(0, .ref a0), (1, .int a1), (2, .int a2)] [0, 1, 2] rfl ?_
  unfold K9_places
  refine g_aload_n h 0 dX9_places_0 rfl ?_
  refine g_iload_n h 1 dX9_places_1 rfl ?_
  refine k_kind (fun hk2_0 => ?_)
  refine g_xcallVq h hE hkw hKs hT [.int a1] (c_X9_thingAt hE hkw hX hSt s0 a0 a1) yk_X9_thingAt tW_637 ⟨(Nat.le_of_ble_eq_true rfl), (Nat.le_of_ble_eq_true rfl)⟩ (KW_recv a0 8 (r := (RX9, TX9, 13)) hk2_0 (by decide) rfl) rfl rfl (Nat.le_of_ble_eq_true rfl) dX9_places_2 ⟨(Nat.le_of_ble_eq_true rfl), (Nat.le_of_ble_eq_true rfl)⟩ (Nat.le_of_ble_eq_true rfl) (Nat.le_of_ble_eq_true rfl) (fun r_2 s_2 => ?_)
  refine g_wid (1) (6) (Nat.le_of_ble_eq_true rfl) (Nat.le_of_ble_eq_true rfl) ?_
  refine g_ob (fun b2 => ?_)
  refine g_astore_n h [(3, .ref b2), (0, .ref a0), (1, .int a1), (2, .int a2)] dX9_places_5 (by decide) rfl ?_
  refine g_iload_n h 3 dX9_places_6 rfl ?_
  refine g_xcallSv h hE hkw hKs hT [.int a2] (c_X9_checkField hE hkw hX hSt s_2 a2) yk_X9_checkField tW_674 ⟨(Nat.le_of_ble_eq_true rfl), (Nat.le_of_ble_eq_true rfl)⟩ rfl rfl (Nat.le_of_ble_eq_true rfl) dX9_places_7 ⟨(Nat.le_of_ble_eq_true rfl), (Nat.le_of_ble_eq_true rfl)⟩ (Nat.le_of_ble_eq_true rfl) (Nat.le_of_ble_eq_true rfl) (fun s_7 => ?_)
  refine g_wid (2) (12) (Nat.le_of_ble_eq_true rfl) (Nat.le_of_ble_eq_true rfl) ?_
  refine g_aload_n h 1 dX9_places_10 rfl ?_
  refine g_aload_n h 0 dX9_places_11 rfl ?_
  refine g_iload_n h 3 dX9_places_12 rfl ?_
  refine k_kind (fun hk13_0 => ?_)
  refine g_callV0p h (KW_mv hE) hkw hKs [.ref b2, .int a2] (c_X9_placesOf hE hkw hX hSt s_7 a0 b2 a2) yk_X9_placesOf tW_206 ⟨(Nat.le_of_ble_eq_true rfl), (Nat.le_of_ble_eq_true rfl)⟩ (KW_recv a0 8 (r := (RX9, TX9, 13)) hk13_0 (by decide) rfl) rfl rfl rfl rfl (Nat.le_of_ble_eq_true rfl) dX9_places_13 ⟨(Nat.le_of_ble_eq_true rfl), (Nat.le_of_ble_eq_true rfl)⟩ (fun r_13 => ?_)
  exact g_xiret h hE hr (Nat.le_of_ble_eq_true rfl) (Nat.le_of_ble_eq_true rfl) dX9_places_16
def rm_J6_bitCount_0f7a4 : Room := { frames := 0, cells := 0, slots := 0, locals := 0 }
theorem yk_J6_bitCount_0f7a4 : yOkS yJ6_bitCount_0f7a4 cJ6_bitCount_0f7a4 1 (some .int) 1 := ⟨tW_228, tW_22, tW_227, by decide, by decide, by decide +kernel⟩
def KJ_bitCount (s0 : Km) (a0 : Int32) : Option (Int32) :=
  bnd (a0 - (((a0.toUInt32 >>> ((1 : Int32).toUInt32 &&& Int32.toUInt32 31)).toInt32) &&& (1431655765 : Int32))) (fun v0_9 =>
  bnd ((v0_9 &&& (858993459 : Int32)) + (((v0_9.toUInt32 >>> ((2 : Int32).toUInt32 &&& Int32.toUInt32 31)).toInt32) &&& (858993459 : Int32))) (fun v0_23 =>
  bnd ((v0_23 + ((v0_23.toUInt32 >>> ((4 : Int32).toUInt32 &&& Int32.toUInt32 31)).toInt32)) &&& (252645135 : Int32)) (fun v0_33 =>
  bnd (v0_33 + ((v0_33.toUInt32 >>> ((8 : Int32).toUInt32 &&& Int32.toUInt32 31)).toInt32)) (fun v0_40 =>
  bnd (v0_40 + ((v0_40.toUInt32 >>> ((16 : Int32).toUInt32 &&& Int32.toUInt32 31)).toInt32)) (fun v0_47 =>
  some (v0_47 &&& (63 : Int32)))))))
set_option maxHeartbeats 4000000 in
set_option maxRecDepth 100000 in
theorem c_J6_bitCount_0f7a4 {l : Launch} {A : Nat → Prop} {Ke : State → Prop} {D : va_G} {cA : Nat → ClassId} {E : State → Heap → Prop} {adS adV adM : Nat → Nat} {adD : Nat} (hE : mEok E A) (hkw : gKw Ke) (hX : xSt l Ke E A adM adD) (hSt : sSt Ke A (KW D cA E A) adS adV) (s0 : Km) (a0 : Int32) : gCp l yJ6_bitCount_0f7a4 cJ6_bitCount_0f7a4 1 (some .int) rm_J6_bitCount_0f7a4 Ke (KW D cA E A) A [.int a0] s0 (KJ_bitCount s0 a0) := by
  refine g_metp (by decide) (by simp [lg_sl, Value.category]) ?_
  intro p e s m below meth c h hr hKs
  refine g_lv [(0, .int a0)] [0] rfl ?_
  unfold KJ_bitCount
  refine g_iload_n h 0 dJ6_bitCount_0f7a4_0 rfl ?_
  refine g_iload_n h 0 dJ6_bitCount_0f7a4_1 rfl ?_
  refine g_iconst (v := 1) h dJ6_bitCount_0f7a4_2 (by decide) ?_
  refine g_iushr h dJ6_bitCount_0f7a4_3 ?_
  refine g_ldcw (v := 1431655765) h tW_229 dJ6_bitCount_0f7a4_4 ?_
  refine g_iand h dJ6_bitCount_0f7a4_7 ?_
  refine g_isub h dJ6_bitCount_0f7a4_8 ?_
  refine g_bndi (fun v0_9 => ?_)
  refine g_istore_n h [(0, .int v0_9)] dJ6_bitCount_0f7a4_9 (by decide) rfl ?_
  refine g_iload_n h 0 dJ6_bitCount_0f7a4_10 rfl ?_
  refine g_ldcw (v := 858993459) h tW_230 dJ6_bitCount_0f7a4_11 ?_
  refine g_iand h dJ6_bitCount_0f7a4_14 ?_
  refine g_iload_n h 0 dJ6_bitCount_0f7a4_15 rfl ?_
  refine g_iconst (v := 2) h dJ6_bitCount_0f7a4_16 (by decide) ?_
  refine g_iushr h dJ6_bitCount_0f7a4_17 ?_
  refine g_ldcw (v := 858993459) h tW_230 dJ6_bitCount_0f7a4_18 ?_
  refine g_iand h dJ6_bitCount_0f7a4_21 ?_
  refine g_iadd h dJ6_bitCount_0f7a4_22 ?_
  refine g_bndi (fun v0_23 => ?_)
  refine g_istore_n h [(0, .int v0_23)] dJ6_bitCount_0f7a4_23 (by decide) rfl ?_
  refine g_iload_n h 0 dJ6_bitCount_0f7a4_24 rfl ?_
  refine g_iload_n h 0 dJ6_bitCount_0f7a4_25 rfl ?_
  refine g_iconst (v := 4) h dJ6_bitCount_0f7a4_26 (by decide) ?_
  refine g_iushr h dJ6_bitCount_0f7a4_27 ?_
  refine g_iadd h dJ6_bitCount_0f7a4_28 ?_
  refine g_ldcw (v := 252645135) h tW_231 dJ6_bitCount_0f7a4_29 ?_
  refine g_iand h dJ6_bitCount_0f7a4_32 ?_
  refine g_bndi (fun v0_33 => ?_)
  refine g_istore_n h [(0, .int v0_33)] dJ6_bitCount_0f7a4_33 (by decide) rfl ?_
  refine g_iload_n h 0 dJ6_bitCount_0f7a4_34 rfl ?_
  refine g_iload_n h 0 dJ6_bitCount_0f7a4_35 rfl ?_
  refine g_bipush (v := 8) h dJ6_bitCount_0f7a4_36 (by decide) ?_
  refine g_iushr h dJ6_bitCount_0f7a4_38 ?_
  refine g_iadd h dJ6_bitCount_0f7a4_39 ?_
  refine g_bndi (fun v0_40 => ?_)
  refine g_istore_n h [(0, .int v0_40)] dJ6_bitCount_0f7a4_40 (by decide) rfl ?_
  refine g_iload_n h 0 dJ6_bitCount_0f7a4_41 rfl ?_
  refine g_iload_n h 0 dJ6_bitCount_0f7a4_42 rfl ?_
  refine g_bipush (v := 16) h dJ6_bitCount_0f7a4_43 (by decide) ?_
  refine g_iushr h dJ6_bitCount_0f7a4_45 ?_
  refine g_iadd h dJ6_bitCount_0f7a4_46 ?_
  refine g_bndi (fun v0_47 => ?_)
  refine g_istore_n h [(0, .int v0_47)] dJ6_bitCount_0f7a4_47 (by decide) rfl ?_
  refine g_iload_n h 0 dJ6_bitCount_0f7a4_48 rfl ?_
  refine g_bipush (v := 63) h dJ6_bitCount_0f7a4_49 (by decide) ?_
  refine g_iand h dJ6_bitCount_0f7a4_51 ?_
  exact g_iretp h (KW_mv hE) hr (Nat.le_of_ble_eq_true rfl) (Nat.le_of_ble_eq_true rfl) dJ6_bitCount_0f7a4_52
def rm_X9_misplaced : Room := { frames := 3, cells := 0, slots := 0, locals := 71 }
theorem yk_X9_misplaced : yOkV yX9_misplaced cX9_misplaced 5 (some .int) RX9 0 := ⟨tW_205, tW_1, tW_203, tW_204, by decide, by decide, by decide +kernel⟩
def K9_misplaced_B60 {Rt : Type} (s0 : Km) (rec : Int32 → Int32 → Option Rt) (k66 : Int32 → Option Rt) (a0 : Nat) (l1 : Int32) (l2 : Int32) (l3 : Int32) : Option (Rt) :=
  rec l1 (l3 + 1)
set_option maxHeartbeats 4000000 in
set_option maxRecDepth 100000 in
theorem K9_misplaced_B60_w {p : Program} {l : Launch} {e : Env} {s : State} {m : MethodId} {args : Array Value} {below : List Frame} {meth : Method} {c : Code} {A : Nat → Prop} {Ke : State → Prop} {D : va_G} {cA : Nat → ClassId} {E : State → Heap → Prop} {adS adV adM : Nat → Nat} {adD : Nat} (h : gOk p s m args meth c cX9_misplaced 5 RX9 tb) (hKs : Ke s) (hE : mEok E A) (hkw : gKw Ke) (hX : xSt l Ke E A adM adD) (hSt : sSt Ke A (KW D cA E A) adS adV) {Rt : Type} {QX : Rt → State → Prop} {rec : Int32 → Int32 → Option Rt} {k66 : Int32 → Option Rt} (s0 : Km) (a0 : Nat) (l1 : Int32) (l2 : Int32) (l3 : Int32) (hrec : ∀ (l1 : Int32) (l3 : Int32), gS p l e rm_X9_misplaced s m args below meth c 5 A (KW D cA E A) QX (0) (0) (rec l1 l3) s0 14 [(0, .ref a0), (1, .int l1), (2, .int l2), (3, .int l3)] []) (hk66 : ∀ (l1 : Int32), gS p l e rm_X9_misplaced s m args below meth c 5 A (KW D cA E A) QX (0) (0) (k66 l1) s0 66 [(0, .ref a0), (1, .int l1), (2, .int l2)] []) : gS p l e rm_X9_misplaced s m args below meth c 5 A (KW D cA E A) QX (0) (0) (K9_misplaced_B60 s0 rec k66 a0 l1 l2 l3) s0 60 [(0, .ref a0), (1, .int l1), (2, .int l2), (3, .int l3)] [] := by
  unfold K9_misplaced_B60
  refine g_iinc (v := l3 + 1) (i := 3) h [(3, .int (l3 + 1)), (0, .ref a0), (1, .int l1), (2, .int l2)] dX9_misplaced_60 rfl rfl (by decide) rfl ?_
  refine g_goto h 14 dX9_misplaced_63 (by decide) ?_
  refine g_lv [(0, .ref a0), (1, .int l1), (2, .int l2), (3, .int (l3 + 1))] [1, 2, 3, 0] rfl ?_
  exact hrec l1 (l3 + 1)
def K9_misplaced_L14 {Rt : Type} (s0 : Km) (a0 : Nat) (l2 : Int32) (k66 : Int32 → Option Rt) : Nat → Int32 → Int32 → Option Rt
  | 0, _, _ => none
  | F + 1, l1, l3 =>
  if (8 : Int32) ≤ l3 then
      k66 l1
    else
      if kK s0 a0 = 9 then
      (kR s0 a0 5).bind (fun b21 =>
      if kK s0 b21 = 18 then
      if okI l2 (kN s0 b21) = true then
      (kR s0 b21 l2.toNatClampNeg).bind (fun b25 =>
      if kK s0 b25 = 8 then
      (kR s0 b25 3).bind (fun b26 =>
      if kK s0 b26 = 12 then
      if okI l3 (kN s0 b26) = true then
      bnd (kI s0 b26 l3.toNatClampNeg) (fun v4_31 =>
      if v4_31 = 0 then
        K9_misplaced_B60 s0 (K9_misplaced_L14 s0 a0 l2 k66 F) k66 a0 l1 l2 l3
      else
        (kR s0 a0 5).bind (fun b43 =>
        if kK s0 b43 = 18 then
        if okI l2 (kN s0 b43) = true then
        (kR s0 b43 l2.toNatClampNeg).bind (fun b47 =>
        (K9_placesOf s0 a0 b47 l3).bind (fun r_49 =>
        (KJ_bitCount s0 (v4_31 &&& (r_49 ^^^ (-1 : Int32)))).bind (fun r_55 =>
        bnd (l1 + r_55) (fun v1_59 =>
        K9_misplaced_B60 s0 (K9_misplaced_L14 s0 a0 l2 k66 F) k66 a0 v1_59 l2 l3))))
        else none
        else none))
      else none
      else none)
      else none)
      else none
      else none)
      else none
set_option maxHeartbeats 4000000 in
set_option maxRecDepth 100000 in
theorem K9_misplaced_L14_w {p : Program} {l : Launch} {e : Env} {s : State} {m : MethodId} {args : Array Value} {below : List Frame} {meth : Method} {c : Code} {A : Nat → Prop} {Ke : State → Prop} {D : va_G} {cA : Nat → ClassId} {E : State → Heap → Prop} {adS adV adM : Nat → Nat} {adD : Nat} (h : gOk p s m args meth c cX9_misplaced 5 RX9 tb) (hKs : Ke s) (hE : mEok E A) (hkw : gKw Ke) (hX : xSt l Ke E A adM adD) (hSt : sSt Ke A (KW D cA E A) adS adV) {Rt : Type} {QX : Rt → State → Prop} (s0 : Km) (a0 : Nat) (l2 : Int32) {k66 : Int32 → Option Rt} (hk66 : ∀ (l1 : Int32), gS p l e rm_X9_misplaced s m args below meth c 5 A (KW D cA E A) QX (0) (0) (k66 l1) s0 66 [(0, .ref a0), (1, .int l1), (2, .int l2)] []) : ∀ (F : Nat), ∀ (l1 : Int32) (l3 : Int32), gS p l e rm_X9_misplaced s m args below meth c 5 A (KW D cA E A) QX (0) (0) (K9_misplaced_L14 s0 a0 l2 k66 F l1 l3) s0 14 [(0, .ref a0), (1, .int l1), (2, .int l2), (3, .int l3)] [] := by
  intro F
  induction F with
  | zero =>
    intro l1 l3
    unfold K9_misplaced_L14
    exact g_none
  | succ F ih =>
    intro l1 l3
    unfold K9_misplaced_L14
    refine g_iload_n h 3 dX9_misplaced_14 rfl ?_
    refine g_bipush (v := 8) h dX9_misplaced_15 (by decide) ?_
    refine g_icmp_ge h 66 dX9_misplaced_17 (by decide) ?_ ?_
    · refine g_lv [(0, .ref a0), (1, .int l1), (2, .int l2)] [0, 1, 2] rfl ?_
      exact hk66 l1
    · refine g_aload_n h 0 dX9_misplaced_20 rfl ?_
      refine k_kind (fun hk21_0 => ?_)
      refine k_getr h (RX9, TX9, 13) 8 (by decide) rfl hinX9 5 (by decide) rfl tW_119 dX9_misplaced_21 hk21_0 ?_
      refine g_ob (fun b21 => ?_)
      refine g_iload_n h 2 dX9_misplaced_24 rfl ?_
      refine k_kind (fun hk25_0 => ?_)
      refine k_aald h 18 7 (by decide) "KeepForget$Thing" rfl dX9_misplaced_25 hk25_0 ?_
      refine g_ob (fun b25 => ?_)
      refine k_kind (fun hk26_0 => ?_)
      refine k_getr h (RX8, TX8, 6) 7 (by decide) rfl hinX8 3 (by decide) rfl tW_184 dX9_misplaced_26 hk26_0 ?_
      refine g_ob (fun b26 => ?_)
      refine g_iload_n h 3 dX9_misplaced_29 rfl ?_
      refine k_kind (fun hk30_0 => ?_)
      refine k_iald h dX9_misplaced_30 hk30_0 ?_
      refine g_bndi (fun v4_31 => ?_)
      refine g_istore h [(4, .int v4_31), (0, .ref a0), (1, .int l1), (2, .int l2), (3, .int l3)] dX9_misplaced_31 (by decide) rfl ?_
      refine g_iload h 0 dX9_misplaced_33 rfl ?_
      refine g_if_eq h 60 dX9_misplaced_35 (by decide) ?_ ?_
      · refine g_lv [(0, .ref a0), (1, .int l1), (2, .int l2), (3, .int l3)] [1, 2, 3, 4] rfl ?_
        exact K9_misplaced_B60_w h hKs hE hkw hX hSt s0 a0 l1 l2 l3 (ih) hk66
      · refine g_iload_n h 2 dX9_misplaced_38 rfl ?_
        refine g_iload h 0 dX9_misplaced_39 rfl ?_
        refine g_aload_n h 1 dX9_misplaced_41 rfl ?_
        refine g_aload_n h 1 dX9_misplaced_42 rfl ?_
        refine k_getr h (RX9, TX9, 13) 8 (by decide) rfl hinX9 5 (by decide) rfl tW_119 dX9_misplaced_43 hk21_0 ?_
        refine g_ob (fun b43 => ?_)
        refine g_iload_n h 3 dX9_misplaced_46 rfl ?_
        refine k_kind (fun hk47_0 => ?_)
        refine k_aald h 18 7 (by decide) "KeepForget$Thing" rfl dX9_misplaced_47 hk47_0 ?_
        refine g_ob (fun b47 => ?_)
        refine g_iload_n h 4 dX9_misplaced_48 rfl ?_
        refine g_callV0p h (KW_mv hE) hkw hKs [.ref b47, .int l3] (c_X9_placesOf hE hkw hX hSt s0 a0 b47 l3) yk_X9_placesOf tW_206 ⟨(Nat.le_of_ble_eq_true rfl), (Nat.le_of_ble_eq_true rfl)⟩ (KW_recv a0 8 (r := (RX9, TX9, 13)) hk21_0 (by decide) rfl) rfl rfl rfl rfl (Nat.le_of_ble_eq_true rfl) dX9_misplaced_49 ⟨(Nat.le_of_ble_eq_true rfl), (Nat.le_of_ble_eq_true rfl)⟩ (fun r_49 => ?_)
        refine g_iconst (v := -1) h dX9_misplaced_52 (by decide) ?_
        refine g_ixor h dX9_misplaced_53 ?_
        refine g_iand h dX9_misplaced_54 ?_
        refine g_callS0p h (KW_mv hE) hkw hKs [.int (v4_31 &&& (r_49 ^^^ (-1 : Int32)))] (c_J6_bitCount_0f7a4 hE hkw hX hSt s0 (v4_31 &&& (r_49 ^^^ (-1 : Int32)))) yk_J6_bitCount_0f7a4 tW_226 ⟨(Nat.le_of_ble_eq_true rfl), (Nat.le_of_ble_eq_true rfl)⟩ rfl rfl rfl rfl (Nat.le_of_ble_eq_true rfl) dX9_misplaced_55 ⟨(Nat.le_of_ble_eq_true rfl), (Nat.le_of_ble_eq_true rfl)⟩ (fun r_55 => ?_)
        refine g_iadd h dX9_misplaced_58 ?_
        refine g_bndi (fun v1_59 => ?_)
        refine g_istore_n h [(1, .int v1_59), (4, .int v4_31), (0, .ref a0), (2, .int l2), (3, .int l3)] dX9_misplaced_59 (by decide) rfl ?_
        refine g_lv [(0, .ref a0), (1, .int v1_59), (2, .int l2), (3, .int l3)] [2, 0, 3, 4] rfl ?_
        exact K9_misplaced_B60_w h hKs hE hkw hX hSt s0 a0 v1_59 l2 l3 (ih) hk66
def K9_misplaced_L4 {Rt : Type} (s0 : Km) (a0 : Nat) (k72 : Int32 → Option Rt) : Nat → Int32 → Int32 → Option Rt
  | 0, _, _ => none
  | F + 1, l1, l2 =>
  if kK s0 a0 = 9 then
    if kI s0 a0 6 ≤ l2 then
      k72 l1
    else
      K9_misplaced_L14 s0 a0 l2 (fun v1_66 => K9_misplaced_L4 s0 a0 k72 F v1_66 (l2 + 1)) gF l1 (0 : Int32)
    else none
set_option maxHeartbeats 4000000 in
set_option maxRecDepth 100000 in
theorem K9_misplaced_L4_w {p : Program} {l : Launch} {e : Env} {s : State} {m : MethodId} {args : Array Value} {below : List Frame} {meth : Method} {c : Code} {A : Nat → Prop} {Ke : State → Prop} {D : va_G} {cA : Nat → ClassId} {E : State → Heap → Prop} {adS adV adM : Nat → Nat} {adD : Nat} (h : gOk p s m args meth c cX9_misplaced 5 RX9 tb) (hKs : Ke s) (hE : mEok E A) (hkw : gKw Ke) (hX : xSt l Ke E A adM adD) (hSt : sSt Ke A (KW D cA E A) adS adV) {Rt : Type} {QX : Rt → State → Prop} (s0 : Km) (a0 : Nat) {k72 : Int32 → Option Rt} (hk72 : ∀ (l1 : Int32), gS p l e rm_X9_misplaced s m args below meth c 5 A (KW D cA E A) QX (0) (0) (k72 l1) s0 72 [(1, .int l1)] []) : ∀ (F : Nat), ∀ (l1 : Int32) (l2 : Int32), gS p l e rm_X9_misplaced s m args below meth c 5 A (KW D cA E A) QX (0) (0) (K9_misplaced_L4 s0 a0 k72 F l1 l2) s0 4 [(0, .ref a0), (1, .int l1), (2, .int l2)] [] := by
  intro F
  induction F with
  | zero =>
    intro l1 l2
    unfold K9_misplaced_L4
    exact g_none
  | succ F ih =>
    intro l1 l2
    unfold K9_misplaced_L4
    refine g_iload_n h 2 dX9_misplaced_4 rfl ?_
    refine g_aload_n h 0 dX9_misplaced_5 rfl ?_
    refine k_kind (fun hk6_0 => ?_)
    refine k_geti h (RX9, TX9, 13) 8 (by decide) rfl hinX9 6 (by decide) rfl tW_120 dX9_misplaced_6 hk6_0 ?_
    refine g_icmp_ge h 72 dX9_misplaced_9 (by decide) ?_ ?_
    · refine g_lv [(1, .int l1)] [1] rfl ?_
      exact hk72 l1
    · refine g_iconst (v := 0) h dX9_misplaced_12 (by decide) ?_
      refine g_istore_n h [(3, .int (0 : Int32)), (0, .ref a0), (1, .int l1), (2, .int l2)] dX9_misplaced_13 (by decide) rfl ?_
      refine g_lv [(0, .ref a0), (1, .int l1), (2, .int l2), (3, .int (0 : Int32))] [1, 2, 3, 0] rfl ?_
      refine K9_misplaced_L14_w h hKs hE hkw hX hSt s0 a0 l2 (fun v1_66 => ?_) gF l1 (0 : Int32)
      · refine g_iinc (v := l2 + 1) (i := 2) h [(2, .int (l2 + 1)), (0, .ref a0), (1, .int v1_66)] dX9_misplaced_66 rfl rfl (by decide) rfl ?_
        refine g_goto h 4 dX9_misplaced_69 (by decide) ?_
        refine g_lv [(0, .ref a0), (1, .int v1_66), (2, .int (l2 + 1))] [1, 2, 0] rfl ?_
        exact ih v1_66 (l2 + 1)
def K9_misplaced (s0 : Km) (a0 : Nat) : Option (Int32) :=
  K9_misplaced_L4 s0 a0 (fun v1_72 => some v1_72) gF (0 : Int32) (0 : Int32)
set_option maxHeartbeats 4000000 in
set_option maxRecDepth 100000 in
theorem c_X9_misplaced {l : Launch} {A : Nat → Prop} {Ke : State → Prop} {D : va_G} {cA : Nat → ClassId} {E : State → Heap → Prop} {adS adV adM : Nat → Nat} {adD : Nat} (hE : mEok E A) (hkw : gKw Ke) (hX : xSt l Ke E A adM adD) (hSt : sSt Ke A (KW D cA E A) adS adV) (s0 : Km) (a0 : Nat) : gCp l yX9_misplaced cX9_misplaced 5 (some .int) rm_X9_misplaced Ke (KW D cA E A) A [.ref a0] s0 (K9_misplaced s0 a0) := by
  refine g_metp (by decide) (by simp [lg_sl, Value.category]) ?_
  intro p e s m below meth c h hr hKs
  refine g_lv [(0, .ref a0)] [0] rfl ?_
  unfold K9_misplaced
  refine g_iconst (v := 0) h dX9_misplaced_0 (by decide) ?_
  refine g_istore_n h [(1, .int (0 : Int32)), (0, .ref a0)] dX9_misplaced_1 (by decide) rfl ?_
  refine g_iconst (v := 0) h dX9_misplaced_2 (by decide) ?_
  refine g_istore_n h [(2, .int (0 : Int32)), (1, .int (0 : Int32)), (0, .ref a0)] dX9_misplaced_3 (by decide) rfl ?_
  refine g_lv [(0, .ref a0), (1, .int (0 : Int32)), (2, .int (0 : Int32))] [2, 1, 0] rfl ?_
  refine K9_misplaced_L4_w h hKs hE hkw hX hSt s0 a0 (fun v1_72 => ?_) gF (0 : Int32) (0 : Int32)
  · refine g_iload_n h 0 dX9_misplaced_72 rfl ?_
    exact g_iretp h (KW_mv hE) hr (Nat.le_of_ble_eq_true rfl) (Nat.le_of_ble_eq_true rfl) dX9_misplaced_73
def rm_X9_settledDay : Room := { frames := 1, cells := 0, slots := 0, locals := 23 }
theorem yk_X9_settledDay : yOkV yX9_settledDay cX9_settledDay 3 (some .int) RX9 1 := ⟨tW_826, tW_1, tW_825, tP_30, by decide, by decide, by decide +kernel⟩
def K9_settledDay_B44 (s0 : Km) (t0 : Int32) : Option (Int32) :=
  some t0
set_option maxHeartbeats 4000000 in
set_option maxRecDepth 100000 in
theorem K9_settledDay_B44_w {p : Program} {l : Launch} {e : Env} {s : State} {m : MethodId} {args : Array Value} {below : List Frame} {meth : Method} {c : Code} {A : Nat → Prop} {Ke : State → Prop} {D : va_G} {cA : Nat → ClassId} {E : State → Heap → Prop} {adS adV adM : Nat → Nat} {adD : Nat} (h : gOk p s m args meth c cX9_settledDay 3 RX9 tb) (hKs : Ke s) (hE : mEok E A) (hkw : gKw Ke) (hX : xSt l Ke E A adM adD) (hSt : sSt Ke A (KW D cA E A) adS adV) (s0 : Km) (t0 : Int32) (hr : meth.sig.returnType = some .int)  : gS p l e rm_X9_settledDay s m args below meth c 3 A (KW D cA E A) (fun X => MQ below (gPi (KW D cA E A) A (X, s0)) args s rm_X9_settledDay.cells rm_X9_settledDay.slots A) (0) (0) (K9_settledDay_B44 s0 t0) s0 44 [] [.int t0] := by
  unfold K9_settledDay_B44
  exact g_iretp h (KW_mv hE) hr (Nat.le_of_ble_eq_true rfl) (Nat.le_of_ble_eq_true rfl) dX9_settledDay_44
def K9_settledDay (s0 : Km) (a0 : Nat) (a1 : Int32) : Option (Int32) :=
  if kK s0 a0 = 9 then
  (kR s0 a0 11).bind (fun b7 =>
  if kK s0 b7 = 6 then
  bnd ((if (kI s0 a0 12) + (1 : Int32) < kI s0 b7 0 then kI s0 b7 0 else (kI s0 a0 12) + (1 : Int32))) (fun v2_16 =>
  (kR s0 a0 11).bind (fun b18 =>
  if kK s0 b18 = 6 then
  (K6_isDue s0 b18 v2_16).bind (fun r_22 =>
  if r_22 = 0 then
    K9_settledDay_B44 s0 (999999 : Int32)
  else
    (kR s0 a0 7).bind (fun b29 =>
    if kK s0 b29 = 17 then
    if okI a1 (kN s0 b29) = true then
    (kR s0 b29 a1.toNatClampNeg).bind (fun b33 =>
    if kK s0 b33 = 7 then
    (K7_firstFrom s0 b33 v2_16).bind (fun r_35 =>
    K9_settledDay_B44 s0 r_35)
    else none)
    else none
    else none))
  else none))
  else none)
  else none
set_option maxHeartbeats 4000000 in
set_option maxRecDepth 100000 in
theorem c_X9_settledDay {l : Launch} {A : Nat → Prop} {Ke : State → Prop} {D : va_G} {cA : Nat → ClassId} {E : State → Heap → Prop} {adS adV adM : Nat → Nat} {adD : Nat} (hE : mEok E A) (hkw : gKw Ke) (hX : xSt l Ke E A adM adD) (hSt : sSt Ke A (KW D cA E A) adS adV) (s0 : Km) (a0 : Nat) (a1 : Int32) : gCp l yX9_settledDay cX9_settledDay 3 (some .int) rm_X9_settledDay Ke (KW D cA E A) A [.ref a0, .int a1] s0 (K9_settledDay s0 a0 a1) := by
  refine g_metp (by decide) (by simp [lg_sl, Value.category]) ?_
  intro p e s m below meth c h hr hKs
  refine g_lv [(0, .ref a0), (1, .int a1)] [0, 1] rfl ?_
  unfold K9_settledDay
  refine g_aload_n h 0 dX9_settledDay_0 rfl ?_
  refine k_kind (fun hk1_0 => ?_)
  refine k_geti h (RX9, TX9, 13) 8 (by decide) rfl hinX9 12 (by decide) rfl tW_126 dX9_settledDay_1 hk1_0 ?_
  refine g_iconst (v := 1) h dX9_settledDay_4 (by decide) ?_
  refine g_iadd h dX9_settledDay_5 ?_
  refine g_aload_n h 0 dX9_settledDay_6 rfl ?_
  refine k_getr h (RX9, TX9, 13) 8 (by decide) rfl hinX9 11 (by decide) rfl tW_125 dX9_settledDay_7 hk1_0 ?_
  refine g_ob (fun b7 => ?_)
  refine k_kind (fun hk10_0 => ?_)
  refine k_geti h (RX6, TX6, 8) 5 (by decide) rfl hinX6 0 (by decide) rfl tW_81 dX9_settledDay_10 hk10_0 ?_
  refine g_mmax h tW_827 tW_335 tW_11 tW_336 (Nat.le_of_ble_eq_true rfl) (Nat.le_of_ble_eq_true rfl) (Nat.zero_le _) (Nat.zero_le _) dX9_settledDay_13 ?_
  refine g_bndi (fun v2_16 => ?_)
  refine g_istore_n h [(2, .int v2_16), (0, .ref a0), (1, .int a1)] dX9_settledDay_16 (by decide) rfl ?_
  refine g_aload_n h 1 dX9_settledDay_17 rfl ?_
  refine k_getr h (RX9, TX9, 13) 8 (by decide) rfl hinX9 11 (by decide) rfl tW_125 dX9_settledDay_18 hk1_0 ?_
  refine g_ob (fun b18 => ?_)
  refine g_iload_n h 0 dX9_settledDay_21 rfl ?_
  refine k_kind (fun hk22_0 => ?_)
  refine g_callV0p h (KW_mv hE) hkw hKs [.int v2_16] (c_X6_isDue hE hkw hX hSt s0 b18 v2_16) yk_X6_isDue tW_773 ⟨(Nat.le_of_ble_eq_true rfl), (Nat.le_of_ble_eq_true rfl)⟩ (KW_recv b18 5 (r := (RX6, TX6, 8)) hk22_0 (by decide) rfl) rfl rfl rfl rfl (Nat.le_of_ble_eq_true rfl) dX9_settledDay_22 ⟨(Nat.le_of_ble_eq_true rfl), (Nat.le_of_ble_eq_true rfl)⟩ (fun r_22 => ?_)
  refine g_if_eq h 41 dX9_settledDay_25 (by decide) ?_ ?_
  · refine g_ldcw (v := 999999) h tW_834 dX9_settledDay_41 ?_
    refine g_lv [] [] rfl ?_
    exact K9_settledDay_B44_w h hKs hE hkw hX hSt s0 (999999 : Int32) hr
  · refine g_aload_n h 1 dX9_settledDay_28 rfl ?_
    refine k_getr h (RX9, TX9, 13) 8 (by decide) rfl hinX9 7 (by decide) rfl tW_121 dX9_settledDay_29 hk1_0 ?_
    refine g_ob (fun b29 => ?_)
    refine g_iload_n h 2 dX9_settledDay_32 rfl ?_
    refine k_kind (fun hk33_0 => ?_)
    refine k_aald h 17 6 (by decide) "KeepForget$Sweeper" rfl dX9_settledDay_33 hk33_0 ?_
    refine g_ob (fun b33 => ?_)
    refine g_iload_n h 0 dX9_settledDay_34 rfl ?_
    refine k_kind (fun hk35_0 => ?_)
    refine g_callV0p h (KW_mv hE) hkw hKs [.int v2_16] (c_X7_firstFrom hE hkw hX hSt s0 b33 v2_16) yk_X7_firstFrom tW_828 ⟨(Nat.le_of_ble_eq_true rfl), (Nat.le_of_ble_eq_true rfl)⟩ (KW_recv b33 6 (r := (RX7, TX7, 2)) hk35_0 (by decide) rfl) rfl rfl rfl rfl (Nat.le_of_ble_eq_true rfl) dX9_settledDay_35 ⟨(Nat.le_of_ble_eq_true rfl), (Nat.le_of_ble_eq_true rfl)⟩ (fun r_35 => ?_)
    refine g_goto h 44 dX9_settledDay_38 (by decide) ?_
    refine g_lv [] [] rfl ?_
    exact K9_settledDay_B44_w h hKs hE hkw hX hSt s0 r_35 hr
def rm_X9_planned : Room := { frames := 7, cells := 3, slots := 18, locals := 118 }
theorem yk_X9_planned : yOkV yX9_planned cX9_planned 5 (some .int) RX9 3 := ⟨tW_822, tW_1, tW_820, tW_821, by decide, by decide, by decide +kernel⟩
def K9_planned (s0 : Km) (a0 : Nat) (a1 : Int32) (a2 : Int32) (a3 : Int32) : Option ((Int32 × Km) ⊕ (Bool × Km)) :=
  if kK s0 a0 = 9 then
  bxq (K9_thingAt s0 a0 a1) (fun r_2 s_2 =>
  (r_2).bind (fun b2 =>
  bxv (K9_checkField s_2 a2) (fun s_8 =>
  bxv (K9_checkStore s_8 a3) (fun s_12 =>
  if kK s_12 b2 = 8 then
  (K8_hasCopy s_12 b2 a2 a3).bind (fun r_19 =>
  if r_19 = 0 then
    some (.inl ((-1 : Int32), s_12))
  else
    if kK s_12 a0 = 9 then
    (kR s_12 a0 11).bind (fun b28 =>
    (K9_setInForce s_12 a0).bind (fun r_35 =>
    if kK s_12 b28 = 6 then
    (K6_settle s_12 b28 b2 a2 r_35).bind (fun s_38 =>
    if kK s_38 a0 = 9 then
    (K9_settledDay s_38 a0 a3).bind (fun r_43 =>
    some (.inl (r_43, s_38)))
    else none)
    else none))
    else none)
  else none))))
  else none
set_option maxHeartbeats 4000000 in
set_option maxRecDepth 100000 in
theorem c_X9_planned {l : Launch} {A : Nat → Prop} {Ke : State → Prop} {D : va_G} {cA : Nat → ClassId} {E : State → Heap → Prop} {adS adV adM : Nat → Nat} {adD : Nat} (hE : mEok E A) (hkw : gKw Ke) (hX : xSt l Ke E A adM adD) (hSt : sSt Ke A (KW D cA E A) adS adV) (s0 : Km) (a0 : Nat) (a1 : Int32) (a2 : Int32) (a3 : Int32) : gXi l yX9_planned cX9_planned 5 (some .int) rm_X9_planned Ke (KW D cA E A) A [.ref a0, .int a1, .int a2, .int a3] s0 (K9_planned s0 a0 a1 a2 a3) := by
  refine g_metxi (by decide) (by simp [lg_sl, Value.category]) ?_
  intro p e s m below meth c h hr hKs hE0 hT
  refine g_lv [(0, .ref a0), (1, .int a1), (2, .int a2), (3, .int a3)] [0, 1, 2, 3] rfl ?_
  unfold K9_planned
  refine g_aload_n h 0 dX9_planned_0 rfl ?_
  refine g_iload_n h 1 dX9_planned_1 rfl ?_
  refine k_kind (fun hk2_0 => ?_)
  refine g_xcallVq h hE hkw hKs hT [.int a1] (c_X9_thingAt hE hkw hX hSt s0 a0 a1) yk_X9_thingAt tW_637 ⟨(Nat.le_of_ble_eq_true rfl), (Nat.le_of_ble_eq_true rfl)⟩ (KW_recv a0 8 (r := (RX9, TX9, 13)) hk2_0 (by decide) rfl) rfl rfl (Nat.le_of_ble_eq_true rfl) dX9_planned_2 ⟨(Nat.le_of_ble_eq_true rfl), (Nat.le_of_ble_eq_true rfl)⟩ (Nat.le_of_ble_eq_true rfl) (Nat.le_of_ble_eq_true rfl) (fun r_2 s_2 => ?_)
  refine g_wid (1) (6) (Nat.le_of_ble_eq_true rfl) (Nat.le_of_ble_eq_true rfl) ?_
  refine g_ob (fun b2 => ?_)
  refine g_astore h [(4, .ref b2), (0, .ref a0), (1, .int a1), (2, .int a2), (3, .int a3)] dX9_planned_5 (by decide) rfl ?_
  refine g_iload_n h 3 dX9_planned_7 rfl ?_
  refine g_xcallSv h hE hkw hKs hT [.int a2] (c_X9_checkField hE hkw hX hSt s_2 a2) yk_X9_checkField tW_674 ⟨(Nat.le_of_ble_eq_true rfl), (Nat.le_of_ble_eq_true rfl)⟩ rfl rfl (Nat.le_of_ble_eq_true rfl) dX9_planned_8 ⟨(Nat.le_of_ble_eq_true rfl), (Nat.le_of_ble_eq_true rfl)⟩ (Nat.le_of_ble_eq_true rfl) (Nat.le_of_ble_eq_true rfl) (fun s_8 => ?_)
  refine g_wid (2) (12) (Nat.le_of_ble_eq_true rfl) (Nat.le_of_ble_eq_true rfl) ?_
  refine g_iload_n h 4 dX9_planned_11 rfl ?_
  refine g_xcallSv h hE hkw hKs hT [.int a3] (c_X9_checkStore hE hkw hX hSt s_8 a3) yk_X9_checkStore tW_678 ⟨(Nat.le_of_ble_eq_true rfl), (Nat.le_of_ble_eq_true rfl)⟩ rfl rfl (Nat.le_of_ble_eq_true rfl) dX9_planned_12 ⟨(Nat.le_of_ble_eq_true rfl), (Nat.le_of_ble_eq_true rfl)⟩ (Nat.le_of_ble_eq_true rfl) (Nat.le_of_ble_eq_true rfl) (fun s_12 => ?_)
  refine g_wid (3) (18) (Nat.le_of_ble_eq_true rfl) (Nat.le_of_ble_eq_true rfl) ?_
  refine g_aload h 0 dX9_planned_15 rfl ?_
  refine g_iload_n h 3 dX9_planned_17 rfl ?_
  refine g_iload_n h 4 dX9_planned_18 rfl ?_
  refine k_kind (fun hk19_0 => ?_)
  refine g_callV0p h (KW_mv hE) hkw hKs [.int a2, .int a3] (c_X8_hasCopy hE hkw hX hSt s_12 b2 a2 a3) yk_X8_hasCopy tW_682 ⟨(Nat.le_of_ble_eq_true rfl), (Nat.le_of_ble_eq_true rfl)⟩ (KW_recv b2 7 (r := (RX8, TX8, 6)) hk19_0 (by decide) rfl) rfl rfl rfl rfl (Nat.le_of_ble_eq_true rfl) dX9_planned_19 ⟨(Nat.le_of_ble_eq_true rfl), (Nat.le_of_ble_eq_true rfl)⟩ (fun r_19 => ?_)
  refine g_if_ne h 27 dX9_planned_22 (by decide) ?_ ?_
  · refine g_aload_n h 1 dX9_planned_27 rfl ?_
    refine k_kind (fun hk28_0 => ?_)
    refine k_getr h (RX9, TX9, 13) 8 (by decide) rfl hinX9 11 (by decide) rfl tW_125 dX9_planned_28 hk28_0 ?_
    refine g_ob (fun b28 => ?_)
    refine g_aload h 0 dX9_planned_31 rfl ?_
    refine g_iload_n h 3 dX9_planned_33 rfl ?_
    refine g_aload_n h 1 dX9_planned_34 rfl ?_
    refine g_callV0q h (KW_mv hE) hkw hKs [] (c_X9_setInForce hE hkw hX hSt s_12 a0) yk_X9_setInForce tW_210 ⟨(Nat.le_of_ble_eq_true rfl), (Nat.le_of_ble_eq_true rfl)⟩ (KW_recv a0 8 (r := (RX9, TX9, 13)) hk28_0 (by decide) rfl) rfl rfl rfl rfl (Nat.le_of_ble_eq_true rfl) dX9_planned_35 ⟨(Nat.le_of_ble_eq_true rfl), (Nat.le_of_ble_eq_true rfl)⟩ (fun r_35 => ?_)
    refine k_kind (fun hk38_0 => ?_)
    refine g_callV0v h (KW_mv hE) hkw hKs [.ref b2, .int a2, va_rf r_35] (c_X6_settle hE hkw hX hSt s_12 b28 b2 a2 r_35) yk_X6_settle tW_744 ⟨(Nat.le_of_ble_eq_true rfl), (Nat.le_of_ble_eq_true rfl)⟩ (KW_recv b28 5 (r := (RX6, TX6, 8)) hk38_0 (by decide) rfl) rfl rfl rfl rfl (Nat.le_of_ble_eq_true rfl) dX9_planned_38 ⟨(Nat.le_of_ble_eq_true rfl), (Nat.le_of_ble_eq_true rfl)⟩ (fun s_38 => ?_)
    refine g_aload_n h 1 dX9_planned_41 rfl ?_
    refine g_iload_n h 4 dX9_planned_42 rfl ?_
    refine k_kind (fun hk43_0 => ?_)
    refine g_callV0p h (KW_mv hE) hkw hKs [.int a3] (c_X9_settledDay hE hkw hX hSt s_38 a0 a3) yk_X9_settledDay tW_823 ⟨(Nat.le_of_ble_eq_true rfl), (Nat.le_of_ble_eq_true rfl)⟩ (KW_recv a0 8 (r := (RX9, TX9, 13)) hk43_0 (by decide) rfl) rfl rfl rfl rfl (Nat.le_of_ble_eq_true rfl) dX9_planned_43 ⟨(Nat.le_of_ble_eq_true rfl), (Nat.le_of_ble_eq_true rfl)⟩ (fun r_43 => ?_)
    exact g_xiret h hE hr (Nat.le_of_ble_eq_true rfl) (Nat.le_of_ble_eq_true rfl) dX9_planned_46
  · refine g_iconst (v := -1) h dX9_planned_25 (by decide) ?_
    exact g_xiret h hE hr (Nat.le_of_ble_eq_true rfl) (Nat.le_of_ble_eq_true rfl) dX9_planned_26
def rm_X9_differ : Room := { frames := 7, cells := 2, slots := 12, locals := 118 }
theorem yk_X9_differ : yOkV yX9_differ cX9_differ 10 (some .int) RX9 2 := ⟨tW_841, tW_1, tW_839, tW_840, by decide, by decide, by decide +kernel⟩
def K9_differ_B122 {Rt : Type} (s0 : Km) (rec : Km → Int32 → Int32 → Option Rt) (k131 : Km → Int32 → Option Rt) (t0 : Int32) (t1 : Int32) (a0 : Nat) (l3 : Nat) (l4 : Nat) (l6 : Int32) (l7 : Int32) : Option (Rt) :=
  bnd (t1 + t0) (fun v5_123 =>
  rec s0 v5_123 (l7 + 1))
set_option maxHeartbeats 4000000 in
set_option maxRecDepth 100000 in
theorem K9_differ_B122_w {p : Program} {l : Launch} {e : Env} {s : State} {m : MethodId} {args : Array Value} {below : List Frame} {meth : Method} {c : Code} {A : Nat → Prop} {Ke : State → Prop} {D : va_G} {cA : Nat → ClassId} {E : State → Heap → Prop} {adS adV adM : Nat → Nat} {adD : Nat} (h : gOk p s m args meth c cX9_differ 10 RX9 tb) (hKs : Ke s) (hE : mEok E A) (hkw : gKw Ke) (hX : xSt l Ke E A adM adD) (hSt : sSt Ke A (KW D cA E A) adS adV) (hE0 : E s s.heap) (hT : ∀ x ∈ c.exceptionTable.toList, False) {Rt : Type} {QX : Rt → State → Prop} {rec : Km → Int32 → Int32 → Option Rt} {k131 : Km → Int32 → Option Rt} (s0 : Km) (t0 : Int32) (t1 : Int32) (a0 : Nat) (l3 : Nat) (l4 : Nat) (l6 : Int32) (l7 : Int32) (hrec : ∀ (sx : Km) (l5 : Int32) (l7 : Int32), gS p l e rm_X9_differ s m args below meth c 10 A (KW D cA E A) QX (2) (12) (rec sx l5 l7) sx 31 [(0, .ref a0), (3, .ref l3), (4, .ref l4), (5, .int l5), (6, .int l6), (7, .int l7)] []) (hk131 : ∀ (sx : Km) (l5 : Int32), gS p l e rm_X9_differ s m args below meth c 10 A (KW D cA E A) QX (2) (12) (k131 sx l5) sx 131 [(0, .ref a0), (3, .ref l3), (4, .ref l4), (5, .int l5), (6, .int l6)] []) : gS p l e rm_X9_differ s m args below meth c 10 A (KW D cA E A) QX (2) (12) (K9_differ_B122 s0 rec k131 t0 t1 a0 l3 l4 l6 l7) s0 122 [(0, .ref a0), (3, .ref l3), (4, .ref l4), (6, .int l6), (7, .int l7)] [.int t0, .int t1] := by
  unfold K9_differ_B122
  refine g_iadd h dX9_differ_122 ?_
  refine g_bndi (fun v5_123 => ?_)
  refine g_istore h [(5, .int v5_123), (0, .ref a0), (3, .ref l3), (4, .ref l4), (6, .int l6), (7, .int l7)] dX9_differ_123 (by decide) rfl ?_
  refine g_iinc (v := l7 + 1) (i := 5) h [(7, .int (l7 + 1)), (5, .int v5_123), (0, .ref a0), (3, .ref l3), (4, .ref l4), (6, .int l6)] dX9_differ_125 rfl rfl (by decide) rfl ?_
  refine g_goto h 31 dX9_differ_128 (by decide) ?_
  refine g_lv [(0, .ref a0), (3, .ref l3), (4, .ref l4), (5, .int v5_123), (6, .int l6), (7, .int (l7 + 1))] [2, 3, 4, 1, 5, 0] rfl ?_
  exact hrec s0 v5_123 (l7 + 1)
def K9_differ_B117 {Rt : Type} (s0 : Km) (rec : Km → Int32 → Int32 → Option Rt) (k131 : Km → Int32 → Option Rt) (t0 : Int32) (a0 : Nat) (l3 : Nat) (l4 : Nat) (l6 : Int32) (l7 : Int32) : Option (Rt) :=
  K9_differ_B122 s0 rec k131 (1 : Int32) t0 a0 l3 l4 l6 l7
set_option maxHeartbeats 4000000 in
set_option maxRecDepth 100000 in
theorem K9_differ_B117_w {p : Program} {l : Launch} {e : Env} {s : State} {m : MethodId} {args : Array Value} {below : List Frame} {meth : Method} {c : Code} {A : Nat → Prop} {Ke : State → Prop} {D : va_G} {cA : Nat → ClassId} {E : State → Heap → Prop} {adS adV adM : Nat → Nat} {adD : Nat} (h : gOk p s m args meth c cX9_differ 10 RX9 tb) (hKs : Ke s) (hE : mEok E A) (hkw : gKw Ke) (hX : xSt l Ke E A adM adD) (hSt : sSt Ke A (KW D cA E A) adS adV) (hE0 : E s s.heap) (hT : ∀ x ∈ c.exceptionTable.toList, False) {Rt : Type} {QX : Rt → State → Prop} {rec : Km → Int32 → Int32 → Option Rt} {k131 : Km → Int32 → Option Rt} (s0 : Km) (t0 : Int32) (a0 : Nat) (l3 : Nat) (l4 : Nat) (l6 : Int32) (l7 : Int32) (hrec : ∀ (sx : Km) (l5 : Int32) (l7 : Int32), gS p l e rm_X9_differ s m args below meth c 10 A (KW D cA E A) QX (2) (12) (rec sx l5 l7) sx 31 [(0, .ref a0), (3, .ref l3), (4, .ref l4), (5, .int l5), (6, .int l6), (7, .int l7)] []) (hk131 : ∀ (sx : Km) (l5 : Int32), gS p l e rm_X9_differ s m args below meth c 10 A (KW D cA E A) QX (2) (12) (k131 sx l5) sx 131 [(0, .ref a0), (3, .ref l3), (4, .ref l4), (5, .int l5), (6, .int l6)] []) : gS p l e rm_X9_differ s m args below meth c 10 A (KW D cA E A) QX (2) (12) (K9_differ_B117 s0 rec k131 t0 a0 l3 l4 l6 l7) s0 117 [(0, .ref a0), (3, .ref l3), (4, .ref l4), (6, .int l6), (7, .int l7)] [.int t0] := by
  unfold K9_differ_B117
  refine g_iconst (v := 1) h dX9_differ_117 (by decide) ?_
  refine g_goto h 122 dX9_differ_118 (by decide) ?_
  exact K9_differ_B122_w h hKs hE hkw hX hSt hE0 hT s0 (1 : Int32) t0 a0 l3 l4 l6 l7 hrec hk131
def K9_differ_L31 {Rt : Type} (a0 : Nat) (l3 : Nat) (l4 : Nat) (l6 : Int32) (k131 : Km → Int32 → Option Rt) : Nat → Km → Int32 → Int32 → Option Rt
  | 0, _, _, _ => none
  | F + 1, s0, l5, l7 =>
  if (8 : Int32) ≤ l7 then
      k131 s0 l5
    else
      if kK s0 a0 = 9 then
      (kR s0 a0 11).bind (fun b39 =>
      (kR s0 a0 5).bind (fun b43 =>
      if kK s0 b43 = 18 then
      if okI l6 (kN s0 b43) = true then
      (kR s0 b43 l6.toNatClampNeg).bind (fun b48 =>
      if kK s0 b39 = 6 then
      (K6_settle s0 b39 b48 l7 (some l3)).bind (fun s_52 =>
      if kK s_52 a0 = 9 then
      (kR s_52 a0 11).bind (fun b56 =>
      if kK s_52 b56 = 6 then
      bnd (kI s_52 b56 0) (fun v8_62 =>
      (kR s_52 a0 11).bind (fun b65 =>
      if kK s_52 b65 = 6 then
      bnd (kI s_52 b65 1) (fun v9_71 =>
      (kR s_52 a0 11).bind (fun b74 =>
      (kR s_52 a0 5).bind (fun b78 =>
      if kK s_52 b78 = 18 then
      if okI l6 (kN s_52 b78) = true then
      (kR s_52 b78 l6.toNatClampNeg).bind (fun b83 =>
      if kK s_52 b74 = 6 then
      (K6_settle s_52 b74 b83 l7 (some l4)).bind (fun s_88 =>
      if kK s_88 a0 = 9 then
      (kR s_88 a0 11).bind (fun b96 =>
      if kK s_88 b96 = 6 then
      if v8_62 = kI s_88 b96 0 then
        (kR s_88 a0 11).bind (fun b108 =>
        if kK s_88 b108 = 6 then
        if v9_71 = kI s_88 b108 1 then
          K9_differ_B122 s_88 (K9_differ_L31 a0 l3 l4 l6 k131 F) k131 (0 : Int32) l5 a0 l3 l4 l6 l7
        else
          K9_differ_B117 s_88 (K9_differ_L31 a0 l3 l4 l6 k131 F) k131 l5 a0 l3 l4 l6 l7
        else none)
      else
        K9_differ_B117 s_88 (K9_differ_L31 a0 l3 l4 l6 k131 F) k131 l5 a0 l3 l4 l6 l7
      else none)
      else none)
      else none)
      else none
      else none)))
      else none))
      else none)
      else none)
      else none)
      else none
      else none))
      else none
set_option maxHeartbeats 4000000 in
set_option maxRecDepth 100000 in
theorem K9_differ_L31_w {p : Program} {l : Launch} {e : Env} {s : State} {m : MethodId} {args : Array Value} {below : List Frame} {meth : Method} {c : Code} {A : Nat → Prop} {Ke : State → Prop} {D : va_G} {cA : Nat → ClassId} {E : State → Heap → Prop} {adS adV adM : Nat → Nat} {adD : Nat} (h : gOk p s m args meth c cX9_differ 10 RX9 tb) (hKs : Ke s) (hE : mEok E A) (hkw : gKw Ke) (hX : xSt l Ke E A adM adD) (hSt : sSt Ke A (KW D cA E A) adS adV) (hE0 : E s s.heap) (hT : ∀ x ∈ c.exceptionTable.toList, False) {Rt : Type} {QX : Rt → State → Prop} (a0 : Nat) (l3 : Nat) (l4 : Nat) (l6 : Int32) {k131 : Km → Int32 → Option Rt} (hk131 : ∀ (sx : Km) (l5 : Int32), gS p l e rm_X9_differ s m args below meth c 10 A (KW D cA E A) QX (2) (12) (k131 sx l5) sx 131 [(0, .ref a0), (3, .ref l3), (4, .ref l4), (5, .int l5), (6, .int l6)] []) : ∀ (F : Nat), ∀ (s0 : Km) (l5 : Int32) (l7 : Int32), gS p l e rm_X9_differ s m args below meth c 10 A (KW D cA E A) QX (2) (12) (K9_differ_L31 a0 l3 l4 l6 k131 F s0 l5 l7) s0 31 [(0, .ref a0), (3, .ref l3), (4, .ref l4), (5, .int l5), (6, .int l6), (7, .int l7)] [] := by
  intro F
  induction F with
  | zero =>
    intro s0 l5 l7
    unfold K9_differ_L31
    exact g_none
  | succ F ih =>
    intro s0 l5 l7
    unfold K9_differ_L31
    refine g_iload h 5 dX9_differ_31 rfl ?_
    refine g_bipush (v := 8) h dX9_differ_33 (by decide) ?_
    refine g_icmp_ge h 131 dX9_differ_35 (by decide) ?_ ?_
    · refine g_lv [(0, .ref a0), (3, .ref l3), (4, .ref l4), (5, .int l5), (6, .int l6)] [0, 1, 2, 3, 4] rfl ?_
      exact hk131 s0 l5
    · refine g_aload_n h 0 dX9_differ_38 rfl ?_
      refine k_kind (fun hk39_0 => ?_)
      refine k_getr h (RX9, TX9, 13) 8 (by decide) rfl hinX9 11 (by decide) rfl tW_125 dX9_differ_39 hk39_0 ?_
      refine g_ob (fun b39 => ?_)
      refine g_aload_n h 0 dX9_differ_42 rfl ?_
      refine k_getr h (RX9, TX9, 13) 8 (by decide) rfl hinX9 5 (by decide) rfl tW_119 dX9_differ_43 hk39_0 ?_
      refine g_ob (fun b43 => ?_)
      refine g_iload h 4 dX9_differ_46 rfl ?_
      refine k_kind (fun hk48_0 => ?_)
      refine k_aald h 18 7 (by decide) "KeepForget$Thing" rfl dX9_differ_48 hk48_0 ?_
      refine g_ob (fun b48 => ?_)
      refine g_iload h 5 dX9_differ_49 rfl ?_
      refine g_aload_n h 1 dX9_differ_51 rfl ?_
      refine k_kind (fun hk52_0 => ?_)
      refine g_callV0v h (KW_mv hE) hkw hKs [.ref b48, .int l7, va_rf (some l3)] (c_X6_settle hE hkw hX hSt s0 b39 b48 l7 (some l3)) yk_X6_settle tW_744 ⟨(Nat.le_of_ble_eq_true rfl), (Nat.le_of_ble_eq_true rfl)⟩ (KW_recv b39 5 (r := (RX6, TX6, 8)) hk52_0 (by decide) rfl) rfl rfl rfl rfl (Nat.le_of_ble_eq_true rfl) dX9_differ_52 ⟨(Nat.le_of_ble_eq_true rfl), (Nat.le_of_ble_eq_true rfl)⟩ (fun s_52 => ?_)
      refine g_aload_n h 0 dX9_differ_55 rfl ?_
      refine k_kind (fun hk56_0 => ?_)
      refine k_getr h (RX9, TX9, 13) 8 (by decide) rfl hinX9 11 (by decide) rfl tW_125 dX9_differ_56 hk56_0 ?_
      refine g_ob (fun b56 => ?_)
      refine k_kind (fun hk59_0 => ?_)
      refine k_geti h (RX6, TX6, 8) 5 (by decide) rfl hinX6 0 (by decide) rfl tW_81 dX9_differ_59 hk59_0 ?_
      refine g_bndi (fun v8_62 => ?_)
      refine g_istore h [(8, .int v8_62), (0, .ref a0), (3, .ref l3), (4, .ref l4), (5, .int l5), (6, .int l6), (7, .int l7)] dX9_differ_62 (by decide) rfl ?_
      refine g_aload_n h 1 dX9_differ_64 rfl ?_
      refine k_getr h (RX9, TX9, 13) 8 (by decide) rfl hinX9 11 (by decide) rfl tW_125 dX9_differ_65 hk56_0 ?_
      refine g_ob (fun b65 => ?_)
      refine k_kind (fun hk68_0 => ?_)
      refine k_geti h (RX6, TX6, 8) 5 (by decide) rfl hinX6 1 (by decide) rfl tW_84 dX9_differ_68 hk68_0 ?_
      refine g_bndi (fun v9_71 => ?_)
      refine g_istore h [(9, .int v9_71), (8, .int v8_62), (0, .ref a0), (3, .ref l3), (4, .ref l4), (5, .int l5), (6, .int l6), (7, .int l7)] dX9_differ_71 (by decide) rfl ?_
      refine g_aload_n h 2 dX9_differ_73 rfl ?_
      refine k_getr h (RX9, TX9, 13) 8 (by decide) rfl hinX9 11 (by decide) rfl tW_125 dX9_differ_74 hk56_0 ?_
      refine g_ob (fun b74 => ?_)
      refine g_aload_n h 2 dX9_differ_77 rfl ?_
      refine k_getr h (RX9, TX9, 13) 8 (by decide) rfl hinX9 5 (by decide) rfl tW_119 dX9_differ_78 hk56_0 ?_
      refine g_ob (fun b78 => ?_)
      refine g_iload h 6 dX9_differ_81 rfl ?_
      refine k_kind (fun hk83_0 => ?_)
      refine k_aald h 18 7 (by decide) "KeepForget$Thing" rfl dX9_differ_83 hk83_0 ?_
      refine g_ob (fun b83 => ?_)
      refine g_iload h 7 dX9_differ_84 rfl ?_
      refine g_aload h 4 dX9_differ_86 rfl ?_
      refine k_kind (fun hk88_0 => ?_)
      refine g_callV0v h (KW_mv hE) hkw hKs [.ref b83, .int l7, va_rf (some l4)] (c_X6_settle hE hkw hX hSt s_52 b74 b83 l7 (some l4)) yk_X6_settle tW_744 ⟨(Nat.le_of_ble_eq_true rfl), (Nat.le_of_ble_eq_true rfl)⟩ (KW_recv b74 5 (r := (RX6, TX6, 8)) hk88_0 (by decide) rfl) rfl rfl rfl rfl (Nat.le_of_ble_eq_true rfl) dX9_differ_88 ⟨(Nat.le_of_ble_eq_true rfl), (Nat.le_of_ble_eq_true rfl)⟩ (fun s_88 => ?_)
      refine g_iload h 5 dX9_differ_91 rfl ?_
      refine g_iload h 1 dX9_differ_93 rfl ?_
      refine g_aload_n h 2 dX9_differ_95 rfl ?_
      refine k_kind (fun hk96_0 => ?_)
      refine k_getr h (RX9, TX9, 13) 8 (by decide) rfl hinX9 11 (by decide) rfl tW_125 dX9_differ_96 hk96_0 ?_
      refine g_ob (fun b96 => ?_)
      refine k_kind (fun hk99_0 => ?_)
      refine k_geti h (RX6, TX6, 8) 5 (by decide) rfl hinX6 0 (by decide) rfl tW_81 dX9_differ_99 hk99_0 ?_
      refine g_icmp_ne h 117 dX9_differ_102 (by decide) ?_ ?_
      · refine g_lv [(0, .ref a0), (3, .ref l3), (4, .ref l4), (6, .int l6), (7, .int l7)] [2, 3, 4, 6, 7] rfl ?_
        exact K9_differ_B117_w h hKs hE hkw hX hSt hE0 hT s_88 l5 a0 l3 l4 l6 l7 (ih) hk131
      · refine g_iload h 0 dX9_differ_105 rfl ?_
        refine g_aload_n h 2 dX9_differ_107 rfl ?_
        refine k_getr h (RX9, TX9, 13) 8 (by decide) rfl hinX9 11 (by decide) rfl tW_125 dX9_differ_108 hk96_0 ?_
        refine g_ob (fun b108 => ?_)
        refine k_kind (fun hk111_0 => ?_)
        refine k_geti h (RX6, TX6, 8) 5 (by decide) rfl hinX6 1 (by decide) rfl tW_84 dX9_differ_111 hk111_0 ?_
        refine g_icmp_eq h 121 dX9_differ_114 (by decide) ?_ ?_
        · refine g_iconst (v := 0) h dX9_differ_121 (by decide) ?_
          refine g_lv [(0, .ref a0), (3, .ref l3), (4, .ref l4), (6, .int l6), (7, .int l7)] [2, 3, 4, 6, 7] rfl ?_
          exact K9_differ_B122_w h hKs hE hkw hX hSt hE0 hT s_88 (0 : Int32) l5 a0 l3 l4 l6 l7 (ih) hk131
        · refine g_lv [(0, .ref a0), (3, .ref l3), (4, .ref l4), (6, .int l6), (7, .int l7)] [2, 3, 4, 6, 7] rfl ?_
          exact K9_differ_B117_w h hKs hE hkw hX hSt hE0 hT s_88 l5 a0 l3 l4 l6 l7 (ih) hk131
def K9_differ_L19 {Rt : Type} (a0 : Nat) (l3 : Nat) (l4 : Nat) (k137 : Km → Int32 → Option Rt) : Nat → Km → Int32 → Int32 → Option Rt
  | 0, _, _, _ => none
  | F + 1, s0, l5, l6 =>
  if kK s0 a0 = 9 then
    if kI s0 a0 6 ≤ l6 then
      k137 s0 l5
    else
      K9_differ_L31 a0 l3 l4 l6 (fun s_131 v5_131 => K9_differ_L19 a0 l3 l4 k137 F s_131 v5_131 (l6 + 1)) gF s0 l5 (0 : Int32)
    else none
set_option maxHeartbeats 4000000 in
set_option maxRecDepth 100000 in
theorem K9_differ_L19_w {p : Program} {l : Launch} {e : Env} {s : State} {m : MethodId} {args : Array Value} {below : List Frame} {meth : Method} {c : Code} {A : Nat → Prop} {Ke : State → Prop} {D : va_G} {cA : Nat → ClassId} {E : State → Heap → Prop} {adS adV adM : Nat → Nat} {adD : Nat} (h : gOk p s m args meth c cX9_differ 10 RX9 tb) (hKs : Ke s) (hE : mEok E A) (hkw : gKw Ke) (hX : xSt l Ke E A adM adD) (hSt : sSt Ke A (KW D cA E A) adS adV) (hE0 : E s s.heap) (hT : ∀ x ∈ c.exceptionTable.toList, False) {Rt : Type} {QX : Rt → State → Prop} (a0 : Nat) (l3 : Nat) (l4 : Nat) {k137 : Km → Int32 → Option Rt} (hk137 : ∀ (sx : Km) (l5 : Int32), gS p l e rm_X9_differ s m args below meth c 10 A (KW D cA E A) QX (2) (12) (k137 sx l5) sx 137 [(5, .int l5)] []) : ∀ (F : Nat), ∀ (s0 : Km) (l5 : Int32) (l6 : Int32), gS p l e rm_X9_differ s m args below meth c 10 A (KW D cA E A) QX (2) (12) (K9_differ_L19 a0 l3 l4 k137 F s0 l5 l6) s0 19 [(0, .ref a0), (3, .ref l3), (4, .ref l4), (5, .int l5), (6, .int l6)] [] := by
  intro F
  induction F with
  | zero =>
    intro s0 l5 l6
    unfold K9_differ_L19
    exact g_none
  | succ F ih =>
    intro s0 l5 l6
    unfold K9_differ_L19
    refine g_iload h 4 dX9_differ_19 rfl ?_
    refine g_aload_n h 0 dX9_differ_21 rfl ?_
    refine k_kind (fun hk22_0 => ?_)
    refine k_geti h (RX9, TX9, 13) 8 (by decide) rfl hinX9 6 (by decide) rfl tW_120 dX9_differ_22 hk22_0 ?_
    refine g_icmp_ge h 137 dX9_differ_25 (by decide) ?_ ?_
    · refine g_lv [(5, .int l5)] [3] rfl ?_
      exact hk137 s0 l5
    · refine g_iconst (v := 0) h dX9_differ_28 (by decide) ?_
      refine g_istore h [(7, .int (0 : Int32)), (0, .ref a0), (3, .ref l3), (4, .ref l4), (5, .int l5), (6, .int l6)] dX9_differ_29 (by decide) rfl ?_
      refine g_lv [(0, .ref a0), (3, .ref l3), (4, .ref l4), (5, .int l5), (6, .int l6), (7, .int (0 : Int32))] [1, 2, 3, 4, 5, 0] rfl ?_
      refine K9_differ_L31_w h hKs hE hkw hX hSt hE0 hT a0 l3 l4 l6 (fun s_131 v5_131 => ?_) gF s0 l5 (0 : Int32)
      · refine g_iinc (v := l6 + 1) (i := 4) h [(6, .int (l6 + 1)), (0, .ref a0), (3, .ref l3), (4, .ref l4), (5, .int v5_131)] dX9_differ_131 rfl rfl (by decide) rfl ?_
        refine g_goto h 19 dX9_differ_134 (by decide) ?_
        refine g_lv [(0, .ref a0), (3, .ref l3), (4, .ref l4), (5, .int v5_131), (6, .int (l6 + 1))] [1, 2, 3, 4, 0] rfl ?_
        exact ih s_131 v5_131 (l6 + 1)
def K9_differ (s0 : Km) (a0 : Nat) (a1 : Int32) (a2 : Int32) : Option ((Int32 × Km) ⊕ (Bool × Km)) :=
  if kK s0 a0 = 9 then
  bxq (K9_setAt s0 a0 a1) (fun r_2 s_2 =>
  (r_2).bind (fun b2 =>
  if kK s_2 a0 = 9 then
  bxq (K9_setAt s_2 a0 a2) (fun r_8 s_8 =>
  (r_8).bind (fun b8 =>
  K9_differ_L19 a0 b2 b8 (fun s_137 v5_137 => some (.inl (v5_137, s_137))) gF s_8 (0 : Int32) (0 : Int32)))
  else none))
  else none
set_option maxHeartbeats 4000000 in
set_option maxRecDepth 100000 in
theorem c_X9_differ {l : Launch} {A : Nat → Prop} {Ke : State → Prop} {D : va_G} {cA : Nat → ClassId} {E : State → Heap → Prop} {adS adV adM : Nat → Nat} {adD : Nat} (hE : mEok E A) (hkw : gKw Ke) (hX : xSt l Ke E A adM adD) (hSt : sSt Ke A (KW D cA E A) adS adV) (s0 : Km) (a0 : Nat) (a1 : Int32) (a2 : Int32) : gXi l yX9_differ cX9_differ 10 (some .int) rm_X9_differ Ke (KW D cA E A) A [.ref a0, .int a1, .int a2] s0 (K9_differ s0 a0 a1 a2) := by
  refine g_metxi (by decide) (by simp [lg_sl, Value.category]) ?_
  intro p e s m below meth c h hr hKs hE0 hT
  refine g_lv [(0, .ref a0), (1, .int a1), (2, .int a2)] [0, 1, 2] rfl ?_
  unfold K9_differ
  refine g_aload_n h 0 dX9_differ_0 rfl ?_
  refine g_iload_n h 1 dX9_differ_1 rfl ?_
  refine k_kind (fun hk2_0 => ?_)
  refine g_xcallVq h hE hkw hKs hT [.int a1] (c_X9_setAt hE hkw hX hSt s0 a0 a1) yk_X9_setAt tW_788 ⟨(Nat.le_of_ble_eq_true rfl), (Nat.le_of_ble_eq_true rfl)⟩ (KW_recv a0 8 (r := (RX9, TX9, 13)) hk2_0 (by decide) rfl) rfl rfl (Nat.le_of_ble_eq_true rfl) dX9_differ_2 ⟨(Nat.le_of_ble_eq_true rfl), (Nat.le_of_ble_eq_true rfl)⟩ (Nat.le_of_ble_eq_true rfl) (Nat.le_of_ble_eq_true rfl) (fun r_2 s_2 => ?_)
  refine g_wid (1) (6) (Nat.le_of_ble_eq_true rfl) (Nat.le_of_ble_eq_true rfl) ?_
  refine g_ob (fun b2 => ?_)
  refine g_astore_n h [(3, .ref b2), (0, .ref a0), (1, .int a1), (2, .int a2)] dX9_differ_5 (by decide) rfl ?_
  refine g_aload_n h 1 dX9_differ_6 rfl ?_
  refine g_iload_n h 3 dX9_differ_7 rfl ?_
  refine k_kind (fun hk8_0 => ?_)
  refine g_xcallVq h hE hkw hKs hT [.int a2] (c_X9_setAt hE hkw hX hSt s_2 a0 a2) yk_X9_setAt tW_788 ⟨(Nat.le_of_ble_eq_true rfl), (Nat.le_of_ble_eq_true rfl)⟩ (KW_recv a0 8 (r := (RX9, TX9, 13)) hk8_0 (by decide) rfl) rfl rfl (Nat.le_of_ble_eq_true rfl) dX9_differ_8 ⟨(Nat.le_of_ble_eq_true rfl), (Nat.le_of_ble_eq_true rfl)⟩ (Nat.le_of_ble_eq_true rfl) (Nat.le_of_ble_eq_true rfl) (fun r_8 s_8 => ?_)
  refine g_wid (2) (12) (Nat.le_of_ble_eq_true rfl) (Nat.le_of_ble_eq_true rfl) ?_
  refine g_ob (fun b8 => ?_)
  refine g_astore h [(4, .ref b8), (3, .ref b2), (0, .ref a0), (1, .int a1), (2, .int a2)] dX9_differ_11 (by decide) rfl ?_
  refine g_iconst (v := 0) h dX9_differ_13 (by decide) ?_
  refine g_istore h [(5, .int (0 : Int32)), (4, .ref b8), (3, .ref b2), (0, .ref a0), (1, .int a1), (2, .int a2)] dX9_differ_14 (by decide) rfl ?_
  refine g_iconst (v := 0) h dX9_differ_16 (by decide) ?_
  refine g_istore h [(6, .int (0 : Int32)), (5, .int (0 : Int32)), (4, .ref b8), (3, .ref b2), (0, .ref a0), (1, .int a1), (2, .int a2)] dX9_differ_17 (by decide) rfl ?_
  refine g_lv [(0, .ref a0), (3, .ref b2), (4, .ref b8), (5, .int (0 : Int32)), (6, .int (0 : Int32))] [4, 3, 2, 1, 0] rfl ?_
  refine K9_differ_L19_w h hKs hE hkw hX hSt hE0 hT a0 b2 b8 (fun s_137 v5_137 => ?_) gF s_8 (0 : Int32) (0 : Int32)
  · refine g_iload h 0 dX9_differ_137 rfl ?_
    exact g_xiret h hE hr (Nat.le_of_ble_eq_true rfl) (Nat.le_of_ble_eq_true rfl) dX9_differ_139
def rm_X9_bites : Room := { frames := 7, cells := 2, slots := 12, locals := 111 }
theorem yk_X9_bites : yOkV yX9_bites cX9_bites 6 (some .boolean) RX9 2 := ⟨tW_848, tW_1, tW_846, tW_847, by decide, by decide, by decide +kernel⟩
def K9_bites_B18 (s0 : Km)  : Option ((Int32 × Km) ⊕ (Bool × Km)) :=
  some (.inr (true, s0))
set_option maxHeartbeats 4000000 in
set_option maxRecDepth 100000 in
theorem K9_bites_B18_w {p : Program} {l : Launch} {e : Env} {s : State} {m : MethodId} {args : Array Value} {below : List Frame} {meth : Method} {c : Code} {A : Nat → Prop} {Ke : State → Prop} {D : va_G} {cA : Nat → ClassId} {E : State → Heap → Prop} {adS adV adM : Nat → Nat} {adD : Nat} (h : gOk p s m args meth c cX9_bites 6 RX9 tb) (hKs : Ke s) (hE : mEok E A) (hkw : gKw Ke) (hX : xSt l Ke E A adM adD) (hSt : sSt Ke A (KW D cA E A) adS adV) (hE0 : E s s.heap) (hT : ∀ x ∈ c.exceptionTable.toList, False) (s0 : Km)  (hr : meth.sig.returnType = some .boolean)  : gS p l e rm_X9_bites s m args below meth c 6 A (KW D cA E A) (fun X => vx_MQ below (xQi (KW D cA E A) A X) (xC (KW D cA E A) A X) args s rm_X9_bites.cells rm_X9_bites.slots A) (1) (6) (K9_bites_B18 s0) s0 18 [] [] := by
  unfold K9_bites_B18
  exact g_throwi h hE hKs hX hE0 hT true 18 (by decide) xAll_t rfl (Nat.le_of_ble_eq_true rfl) (Nat.le_of_ble_eq_true rfl) (Nat.le_of_ble_eq_true rfl) (Nat.le_of_ble_eq_true rfl) (Nat.le_of_ble_eq_true rfl) (Nat.le_of_ble_eq_true rfl) dX9_bites_18 dX9_bites_21 dX9_bites_22 dX9_bites_24 dX9_bites_27
def K9_bites_B89 {Rt : Type} (s0 : Km) (rec : Int32 → Option Rt) (k87 : Option Rt) (k95 : Option Rt) (a0 : Nat) (a2 : Int32) (l3 : Nat) (l4 : Int32) (l5 : Int32) : Option (Rt) :=
  rec (l5 + 1)
set_option maxHeartbeats 4000000 in
set_option maxRecDepth 100000 in
theorem K9_bites_B89_w {p : Program} {l : Launch} {e : Env} {s : State} {m : MethodId} {args : Array Value} {below : List Frame} {meth : Method} {c : Code} {A : Nat → Prop} {Ke : State → Prop} {D : va_G} {cA : Nat → ClassId} {E : State → Heap → Prop} {adS adV adM : Nat → Nat} {adD : Nat} (h : gOk p s m args meth c cX9_bites 6 RX9 tb) (hKs : Ke s) (hE : mEok E A) (hkw : gKw Ke) (hX : xSt l Ke E A adM adD) (hSt : sSt Ke A (KW D cA E A) adS adV) (hE0 : E s s.heap) (hT : ∀ x ∈ c.exceptionTable.toList, False) {Rt : Type} {QX : Rt → State → Prop} {rec : Int32 → Option Rt} {k87 : Option Rt} {k95 : Option Rt} (s0 : Km) (a0 : Nat) (a2 : Int32) (l3 : Nat) (l4 : Int32) (l5 : Int32) (hrec : ∀ (l5 : Int32), gS p l e rm_X9_bites s m args below meth c 6 A (KW D cA E A) QX (1) (6) (rec l5) s0 43 [(0, .ref a0), (2, .int a2), (3, .ref l3), (4, .int l4), (5, .int l5)] []) (hk87 : gS p l e rm_X9_bites s m args below meth c 6 A (KW D cA E A) QX (1) (6) (k87) s0 87 [] []) (hk95 : gS p l e rm_X9_bites s m args below meth c 6 A (KW D cA E A) QX (1) (6) (k95) s0 95 [(0, .ref a0), (2, .int a2), (3, .ref l3), (4, .int l4)] []) : gS p l e rm_X9_bites s m args below meth c 6 A (KW D cA E A) QX (1) (6) (K9_bites_B89 s0 rec k87 k95 a0 a2 l3 l4 l5) s0 89 [(0, .ref a0), (2, .int a2), (3, .ref l3), (4, .int l4), (5, .int l5)] [] := by
  unfold K9_bites_B89
  refine g_iinc (v := l5 + 1) (i := 4) h [(5, .int (l5 + 1)), (0, .ref a0), (2, .int a2), (3, .ref l3), (4, .int l4)] dX9_bites_89 rfl rfl (by decide) rfl ?_
  refine g_goto h 43 dX9_bites_92 (by decide) ?_
  refine g_lv [(0, .ref a0), (2, .int a2), (3, .ref l3), (4, .int l4), (5, .int (l5 + 1))] [1, 2, 3, 4, 0] rfl ?_
  exact hrec (l5 + 1)
def K9_bites_L43 {Rt : Type} (s0 : Km) (a0 : Nat) (a2 : Int32) (l3 : Nat) (l4 : Int32) (k87 : Option Rt) (k95 : Option Rt) : Nat → Int32 → Option Rt
  | 0, _ => none
  | F + 1, l5 =>
  if (8 : Int32) ≤ l5 then
      k95
    else
      if kK s0 a0 = 9 then
      (kR s0 a0 5).bind (fun b51 =>
      if kK s0 b51 = 18 then
      if okI l4 (kN s0 b51) = true then
      (kR s0 b51 l4.toNatClampNeg).bind (fun b56 =>
      if kK s0 b56 = 8 then
      (kR s0 b56 3).bind (fun b57 =>
      if kK s0 b57 = 12 then
      if okI l5 (kN s0 b57) = true then
      if kI s0 b57 l5.toNatClampNeg = 0 then
        K9_bites_B89 s0 (K9_bites_L43 s0 a0 a2 l3 l4 k87 k95 F) k87 k95 a0 a2 l3 l4 l5
      else
        if kK s0 l3 = 5 then
        (kR s0 l3 1).bind (fun b67 =>
        if kK s0 b67 = 15 then
        if okI a2 (kN s0 b67) = true then
        (kR s0 b67 a2.toNatClampNeg).bind (fun b71 =>
        (kR s0 a0 5).bind (fun b73 =>
        if kK s0 b73 = 18 then
        if okI l4 (kN s0 b73) = true then
        (kR s0 b73 l4.toNatClampNeg).bind (fun b78 =>
        if kK s0 b71 = 3 then
        (K3_isFor s0 b71 b78 l5).bind (fun r_81 =>
        if r_81 = 0 then
          K9_bites_B89 s0 (K9_bites_L43 s0 a0 a2 l3 l4 k87 k95 F) k87 k95 a0 a2 l3 l4 l5
        else
          k87)
        else none)
        else none
        else none))
        else none
        else none)
        else none
      else none
      else none)
      else none)
      else none
      else none)
      else none
set_option maxHeartbeats 4000000 in
set_option maxRecDepth 100000 in
theorem K9_bites_L43_w {p : Program} {l : Launch} {e : Env} {s : State} {m : MethodId} {args : Array Value} {below : List Frame} {meth : Method} {c : Code} {A : Nat → Prop} {Ke : State → Prop} {D : va_G} {cA : Nat → ClassId} {E : State → Heap → Prop} {adS adV adM : Nat → Nat} {adD : Nat} (h : gOk p s m args meth c cX9_bites 6 RX9 tb) (hKs : Ke s) (hE : mEok E A) (hkw : gKw Ke) (hX : xSt l Ke E A adM adD) (hSt : sSt Ke A (KW D cA E A) adS adV) (hE0 : E s s.heap) (hT : ∀ x ∈ c.exceptionTable.toList, False) {Rt : Type} {QX : Rt → State → Prop} (s0 : Km) (a0 : Nat) (a2 : Int32) (l3 : Nat) (l4 : Int32) {k87 : Option Rt} {k95 : Option Rt} (hk87 : gS p l e rm_X9_bites s m args below meth c 6 A (KW D cA E A) QX (1) (6) (k87) s0 87 [] []) (hk95 : gS p l e rm_X9_bites s m args below meth c 6 A (KW D cA E A) QX (1) (6) (k95) s0 95 [(0, .ref a0), (2, .int a2), (3, .ref l3), (4, .int l4)] []) : ∀ (F : Nat), ∀ (l5 : Int32), gS p l e rm_X9_bites s m args below meth c 6 A (KW D cA E A) QX (1) (6) (K9_bites_L43 s0 a0 a2 l3 l4 k87 k95 F l5) s0 43 [(0, .ref a0), (2, .int a2), (3, .ref l3), (4, .int l4), (5, .int l5)] [] := by
  intro F
  induction F with
  | zero =>
    intro l5
    unfold K9_bites_L43
    exact g_none
  | succ F ih =>
    intro l5
    unfold K9_bites_L43
    refine g_iload h 4 dX9_bites_43 rfl ?_
    refine g_bipush (v := 8) h dX9_bites_45 (by decide) ?_
    refine g_icmp_ge h 95 dX9_bites_47 (by decide) ?_ ?_
    · refine g_lv [(0, .ref a0), (2, .int a2), (3, .ref l3), (4, .int l4)] [0, 1, 2, 3] rfl ?_
      exact hk95 
    · refine g_aload_n h 0 dX9_bites_50 rfl ?_
      refine k_kind (fun hk51_0 => ?_)
      refine k_getr h (RX9, TX9, 13) 8 (by decide) rfl hinX9 5 (by decide) rfl tW_119 dX9_bites_51 hk51_0 ?_
      refine g_ob (fun b51 => ?_)
      refine g_iload h 3 dX9_bites_54 rfl ?_
      refine k_kind (fun hk56_0 => ?_)
      refine k_aald h 18 7 (by decide) "KeepForget$Thing" rfl dX9_bites_56 hk56_0 ?_
      refine g_ob (fun b56 => ?_)
      refine k_kind (fun hk57_0 => ?_)
      refine k_getr h (RX8, TX8, 6) 7 (by decide) rfl hinX8 3 (by decide) rfl tW_184 dX9_bites_57 hk57_0 ?_
      refine g_ob (fun b57 => ?_)
      refine g_iload h 4 dX9_bites_60 rfl ?_
      refine k_kind (fun hk62_0 => ?_)
      refine k_iald h dX9_bites_62 hk62_0 ?_
      refine g_if_eq h 89 dX9_bites_63 (by decide) ?_ ?_
      · exact K9_bites_B89_w h hKs hE hkw hX hSt hE0 hT s0 a0 a2 l3 l4 l5 (ih) hk87 hk95
      · refine g_aload_n h 2 dX9_bites_66 rfl ?_
        refine k_kind (fun hk67_0 => ?_)
        refine k_getr h (RX5, TX5, 5) 4 (by decide) rfl hinX5 1 (by decide) rfl tW_376 dX9_bites_67 hk67_0 ?_
        refine g_ob (fun b67 => ?_)
        refine g_iload_n h 1 dX9_bites_70 rfl ?_
        refine k_kind (fun hk71_0 => ?_)
        refine k_aald h 15 4 (by decide) "KeepForget$Rule" rfl dX9_bites_71 hk71_0 ?_
        refine g_ob (fun b71 => ?_)
        refine g_aload_n h 0 dX9_bites_72 rfl ?_
        refine k_getr h (RX9, TX9, 13) 8 (by decide) rfl hinX9 5 (by decide) rfl tW_119 dX9_bites_73 hk51_0 ?_
        refine g_ob (fun b73 => ?_)
        refine g_iload h 3 dX9_bites_76 rfl ?_
        refine k_kind (fun hk78_0 => ?_)
        refine k_aald h 18 7 (by decide) "KeepForget$Thing" rfl dX9_bites_78 hk78_0 ?_
        refine g_ob (fun b78 => ?_)
        refine g_iload h 4 dX9_bites_79 rfl ?_
        refine k_kind (fun hk81_0 => ?_)
        refine g_callV0p h (KW_mv hE) hkw hKs [.ref b78, .int l5] (c_X3_isFor hE hkw hX hSt s0 b71 b78 l5) yk_X3_isFor tW_850 ⟨(Nat.le_of_ble_eq_true rfl), (Nat.le_of_ble_eq_true rfl)⟩ (KW_recv b71 2 (r := (RX3, TX3, 12)) hk81_0 (by decide) rfl) rfl rfl rfl rfl (Nat.le_of_ble_eq_true rfl) dX9_bites_81 ⟨(Nat.le_of_ble_eq_true rfl), (Nat.le_of_ble_eq_true rfl)⟩ (fun r_81 => ?_)
        refine g_if_eq h 89 dX9_bites_84 (by decide) ?_ ?_
        · exact K9_bites_B89_w h hKs hE hkw hX hSt hE0 hT s0 a0 a2 l3 l4 l5 (ih) hk87 hk95
        · refine g_lv [] [] rfl ?_
          exact hk87 
def K9_bites_L31 {Rt : Type} (s0 : Km) (a0 : Nat) (a2 : Int32) (l3 : Nat) (k87 : Option Rt) (k101 : Option Rt) : Nat → Int32 → Option Rt
  | 0, _ => none
  | F + 1, l4 =>
  if kK s0 a0 = 9 then
    if kI s0 a0 6 ≤ l4 then
      k101
    else
      K9_bites_L43 s0 a0 a2 l3 l4 (k87) (K9_bites_L31 s0 a0 a2 l3 k87 k101 F (l4 + 1)) gF (0 : Int32)
    else none
set_option maxHeartbeats 4000000 in
set_option maxRecDepth 100000 in
theorem K9_bites_L31_w {p : Program} {l : Launch} {e : Env} {s : State} {m : MethodId} {args : Array Value} {below : List Frame} {meth : Method} {c : Code} {A : Nat → Prop} {Ke : State → Prop} {D : va_G} {cA : Nat → ClassId} {E : State → Heap → Prop} {adS adV adM : Nat → Nat} {adD : Nat} (h : gOk p s m args meth c cX9_bites 6 RX9 tb) (hKs : Ke s) (hE : mEok E A) (hkw : gKw Ke) (hX : xSt l Ke E A adM adD) (hSt : sSt Ke A (KW D cA E A) adS adV) (hE0 : E s s.heap) (hT : ∀ x ∈ c.exceptionTable.toList, False) {Rt : Type} {QX : Rt → State → Prop} (s0 : Km) (a0 : Nat) (a2 : Int32) (l3 : Nat) {k87 : Option Rt} {k101 : Option Rt} (hk87 : gS p l e rm_X9_bites s m args below meth c 6 A (KW D cA E A) QX (1) (6) (k87) s0 87 [] []) (hk101 : gS p l e rm_X9_bites s m args below meth c 6 A (KW D cA E A) QX (1) (6) (k101) s0 101 [] []) : ∀ (F : Nat), ∀ (l4 : Int32), gS p l e rm_X9_bites s m args below meth c 6 A (KW D cA E A) QX (1) (6) (K9_bites_L31 s0 a0 a2 l3 k87 k101 F l4) s0 31 [(0, .ref a0), (2, .int a2), (3, .ref l3), (4, .int l4)] [] := by
  intro F
  induction F with
  | zero =>
    intro l4
    unfold K9_bites_L31
    exact g_none
  | succ F ih =>
    intro l4
    unfold K9_bites_L31
    refine g_iload h 3 dX9_bites_31 rfl ?_
    refine g_aload_n h 0 dX9_bites_33 rfl ?_
    refine k_kind (fun hk34_0 => ?_)
    refine k_geti h (RX9, TX9, 13) 8 (by decide) rfl hinX9 6 (by decide) rfl tW_120 dX9_bites_34 hk34_0 ?_
    refine g_icmp_ge h 101 dX9_bites_37 (by decide) ?_ ?_
    · refine g_lv [] [] rfl ?_
      exact hk101 
    · refine g_iconst (v := 0) h dX9_bites_40 (by decide) ?_
      refine g_istore h [(5, .int (0 : Int32)), (0, .ref a0), (2, .int a2), (3, .ref l3), (4, .int l4)] dX9_bites_41 (by decide) rfl ?_
      refine g_lv [(0, .ref a0), (2, .int a2), (3, .ref l3), (4, .int l4), (5, .int (0 : Int32))] [1, 2, 3, 4, 0] rfl ?_
      refine K9_bites_L43_w h hKs hE hkw hX hSt hE0 hT s0 a0 a2 l3 l4 ?_ ?_ gF (0 : Int32)
      · exact hk87 
      · refine g_iinc (v := l4 + 1) (i := 3) h [(4, .int (l4 + 1)), (0, .ref a0), (2, .int a2), (3, .ref l3)] dX9_bites_95 rfl rfl (by decide) rfl ?_
        refine g_goto h 31 dX9_bites_98 (by decide) ?_
        refine g_lv [(0, .ref a0), (2, .int a2), (3, .ref l3), (4, .int (l4 + 1))] [1, 2, 3, 0] rfl ?_
        exact ih (l4 + 1)
def K9_bites (s0 : Km) (a0 : Nat) (a1 : Int32) (a2 : Int32) : Option ((Int32 × Km) ⊕ (Bool × Km)) :=
  if kK s0 a0 = 9 then
  bxq (K9_setAt s0 a0 a1) (fun r_2 s_2 =>
  (r_2).bind (fun b2 =>
  if a2 < 0 then
    K9_bites_B18 s_2
  else
    if kK s_2 b2 = 5 then
    if a2 < kI s_2 b2 2 then
      K9_bites_L31 s_2 a0 a2 b2 (some (.inl ((1 : Int32), s_2))) (some (.inl ((0 : Int32), s_2))) gF (0 : Int32)
    else
      K9_bites_B18 s_2
    else none))
  else none
set_option maxHeartbeats 4000000 in
set_option maxRecDepth 100000 in
theorem c_X9_bites {l : Launch} {A : Nat → Prop} {Ke : State → Prop} {D : va_G} {cA : Nat → ClassId} {E : State → Heap → Prop} {adS adV adM : Nat → Nat} {adD : Nat} (hE : mEok E A) (hkw : gKw Ke) (hX : xSt l Ke E A adM adD) (hSt : sSt Ke A (KW D cA E A) adS adV) (s0 : Km) (a0 : Nat) (a1 : Int32) (a2 : Int32) : gXi l yX9_bites cX9_bites 6 (some .boolean) rm_X9_bites Ke (KW D cA E A) A [.ref a0, .int a1, .int a2] s0 (K9_bites s0 a0 a1 a2) := by
  refine g_metxi (by decide) (by simp [lg_sl, Value.category]) ?_
  intro p e s m below meth c h hr hKs hE0 hT
  refine g_lv [(0, .ref a0), (1, .int a1), (2, .int a2)] [0, 1, 2] rfl ?_
  unfold K9_bites
  refine g_aload_n h 0 dX9_bites_0 rfl ?_
  refine g_iload_n h 1 dX9_bites_1 rfl ?_
  refine k_kind (fun hk2_0 => ?_)
  refine g_xcallVq h hE hkw hKs hT [.int a1] (c_X9_setAt hE hkw hX hSt s0 a0 a1) yk_X9_setAt tW_788 ⟨(Nat.le_of_ble_eq_true rfl), (Nat.le_of_ble_eq_true rfl)⟩ (KW_recv a0 8 (r := (RX9, TX9, 13)) hk2_0 (by decide) rfl) rfl rfl (Nat.le_of_ble_eq_true rfl) dX9_bites_2 ⟨(Nat.le_of_ble_eq_true rfl), (Nat.le_of_ble_eq_true rfl)⟩ (Nat.le_of_ble_eq_true rfl) (Nat.le_of_ble_eq_true rfl) (fun r_2 s_2 => ?_)
  refine g_wid (1) (6) (Nat.le_of_ble_eq_true rfl) (Nat.le_of_ble_eq_true rfl) ?_
  refine g_ob (fun b2 => ?_)
  refine g_astore_n h [(3, .ref b2), (0, .ref a0), (1, .int a1), (2, .int a2)] dX9_bites_5 (by decide) rfl ?_
  refine g_iload_n h 3 dX9_bites_6 rfl ?_
  refine g_if_lt h 18 dX9_bites_7 (by decide) ?_ ?_
  · refine g_lv [] [] rfl ?_
    exact K9_bites_B18_w h hKs hE hkw hX hSt hE0 hT s_2  hr
  · refine g_iload_n h 3 dX9_bites_10 rfl ?_
    refine g_aload_n h 0 dX9_bites_11 rfl ?_
    refine k_kind (fun hk12_0 => ?_)
    refine k_geti h (RX5, TX5, 5) 4 (by decide) rfl hinX5 2 (by decide) rfl tW_378 dX9_bites_12 hk12_0 ?_
    refine g_icmp_lt h 28 dX9_bites_15 (by decide) ?_ ?_
    · refine g_iconst (v := 0) h dX9_bites_28 (by decide) ?_
      refine g_istore h [(4, .int (0 : Int32)), (3, .ref b2), (0, .ref a0), (1, .int a1), (2, .int a2)] dX9_bites_29 (by decide) rfl ?_
      refine g_lv [(0, .ref a0), (2, .int a2), (3, .ref b2), (4, .int (0 : Int32))] [2, 4, 1, 0] rfl ?_
      refine K9_bites_L31_w h hKs hE hkw hX hSt hE0 hT s_2 a0 a2 b2 ?_ ?_ gF (0 : Int32)
      · refine g_iconst (v := 1) h dX9_bites_87 (by decide) ?_
        exact g_xzret h hE hr (Nat.le_of_ble_eq_true rfl) (Nat.le_of_ble_eq_true rfl) (by decide) dX9_bites_88
      · refine g_iconst (v := 0) h dX9_bites_101 (by decide) ?_
        exact g_xzret h hE hr (Nat.le_of_ble_eq_true rfl) (Nat.le_of_ble_eq_true rfl) (by decide) dX9_bites_102
    · refine g_lv [] [] rfl ?_
      exact K9_bites_B18_w h hKs hE hkw hX hSt hE0 hT s_2  hr
def rm_X9_firstSettledDay : Room := { frames := 2, cells := 0, slots := 0, locals := 45 }
theorem yk_X9_firstSettledDay : yOkV yX9_firstSettledDay cX9_firstSettledDay 4 (some .int) RX9 1 := ⟨tW_867, tW_1, tW_866, tP_32, by decide, by decide, by decide +kernel⟩
def K9_firstSettledDay_B29 {Rt : Type} (s0 : Km) (rec : Int32 → Int32 → Option Rt) (k35 : Int32 → Option Rt) (a0 : Nat) (a1 : Int32) (l2 : Int32) (l3 : Int32) : Option (Rt) :=
  rec l2 (l3 + 1)
set_option maxHeartbeats 4000000 in
set_option maxRecDepth 100000 in
theorem K9_firstSettledDay_B29_w {p : Program} {l : Launch} {e : Env} {s : State} {m : MethodId} {args : Array Value} {below : List Frame} {meth : Method} {c : Code} {A : Nat → Prop} {Ke : State → Prop} {D : va_G} {cA : Nat → ClassId} {E : State → Heap → Prop} {adS adV adM : Nat → Nat} {adD : Nat} (h : gOk p s m args meth c cX9_firstSettledDay 4 RX9 tb) (hKs : Ke s) (hE : mEok E A) (hkw : gKw Ke) (hX : xSt l Ke E A adM adD) (hSt : sSt Ke A (KW D cA E A) adS adV) {Rt : Type} {QX : Rt → State → Prop} {rec : Int32 → Int32 → Option Rt} {k35 : Int32 → Option Rt} (s0 : Km) (a0 : Nat) (a1 : Int32) (l2 : Int32) (l3 : Int32) (hrec : ∀ (l2 : Int32) (l3 : Int32), gS p l e rm_X9_firstSettledDay s m args below meth c 4 A (KW D cA E A) QX (0) (0) (rec l2 l3) s0 6 [(0, .ref a0), (1, .int a1), (2, .int l2), (3, .int l3)] []) (hk35 : ∀ (l2 : Int32), gS p l e rm_X9_firstSettledDay s m args below meth c 4 A (KW D cA E A) QX (0) (0) (k35 l2) s0 35 [(2, .int l2)] []) : gS p l e rm_X9_firstSettledDay s m args below meth c 4 A (KW D cA E A) QX (0) (0) (K9_firstSettledDay_B29 s0 rec k35 a0 a1 l2 l3) s0 29 [(0, .ref a0), (1, .int a1), (2, .int l2), (3, .int l3)] [] := by
  unfold K9_firstSettledDay_B29
  refine g_iinc (v := l3 + 1) (i := 3) h [(3, .int (l3 + 1)), (0, .ref a0), (1, .int a1), (2, .int l2)] dX9_firstSettledDay_29 rfl rfl (by decide) rfl ?_
  refine g_goto h 6 dX9_firstSettledDay_32 (by decide) ?_
  refine g_lv [(0, .ref a0), (1, .int a1), (2, .int l2), (3, .int (l3 + 1))] [1, 2, 3, 0] rfl ?_
  exact hrec l2 (l3 + 1)
def K9_firstSettledDay_L6 {Rt : Type} (s0 : Km) (a0 : Nat) (a1 : Int32) (k35 : Int32 → Option Rt) : Nat → Int32 → Int32 → Option Rt
  | 0, _, _ => none
  | F + 1, l2, l3 =>
  if (4 : Int32) ≤ l3 then
      k35 l2
    else
      if (a1 >>> (l3 &&& 31)) &&& (1 : Int32) = 0 then
        K9_firstSettledDay_B29 s0 (K9_firstSettledDay_L6 s0 a0 a1 k35 F) k35 a0 a1 l2 l3
      else
        if kK s0 a0 = 9 then
        (K9_settledDay s0 a0 l3).bind (fun r_22 =>
        bnd ((if r_22 < l2 then r_22 else l2)) (fun v2_28 =>
        K9_firstSettledDay_B29 s0 (K9_firstSettledDay_L6 s0 a0 a1 k35 F) k35 a0 a1 v2_28 l3))
        else none
set_option maxHeartbeats 4000000 in
set_option maxRecDepth 100000 in
theorem K9_firstSettledDay_L6_w {p : Program} {l : Launch} {e : Env} {s : State} {m : MethodId} {args : Array Value} {below : List Frame} {meth : Method} {c : Code} {A : Nat → Prop} {Ke : State → Prop} {D : va_G} {cA : Nat → ClassId} {E : State → Heap → Prop} {adS adV adM : Nat → Nat} {adD : Nat} (h : gOk p s m args meth c cX9_firstSettledDay 4 RX9 tb) (hKs : Ke s) (hE : mEok E A) (hkw : gKw Ke) (hX : xSt l Ke E A adM adD) (hSt : sSt Ke A (KW D cA E A) adS adV) {Rt : Type} {QX : Rt → State → Prop} (s0 : Km) (a0 : Nat) (a1 : Int32) {k35 : Int32 → Option Rt} (hk35 : ∀ (l2 : Int32), gS p l e rm_X9_firstSettledDay s m args below meth c 4 A (KW D cA E A) QX (0) (0) (k35 l2) s0 35 [(2, .int l2)] []) : ∀ (F : Nat), ∀ (l2 : Int32) (l3 : Int32), gS p l e rm_X9_firstSettledDay s m args below meth c 4 A (KW D cA E A) QX (0) (0) (K9_firstSettledDay_L6 s0 a0 a1 k35 F l2 l3) s0 6 [(0, .ref a0), (1, .int a1), (2, .int l2), (3, .int l3)] [] := by
  intro F
  induction F with
  | zero =>
    intro l2 l3
    unfold K9_firstSettledDay_L6
    exact g_none
  | succ F ih =>
    intro l2 l3
    unfold K9_firstSettledDay_L6
    refine g_iload_n h 3 dX9_firstSettledDay_6 rfl ?_
    refine g_iconst (v := 4) h dX9_firstSettledDay_7 (by decide) ?_
    refine g_icmp_ge h 35 dX9_firstSettledDay_8 (by decide) ?_ ?_
    · refine g_lv [(2, .int l2)] [2] rfl ?_
      exact hk35 l2
    · refine g_iload_n h 1 dX9_firstSettledDay_11 rfl ?_
      refine g_iload_n h 3 dX9_firstSettledDay_12 rfl ?_
      refine g_ishr h dX9_firstSettledDay_13 ?_
      refine g_iconst (v := 1) h dX9_firstSettledDay_14 (by decide) ?_
      refine g_iand h dX9_firstSettledDay_15 ?_
      refine g_if_eq h 29 dX9_firstSettledDay_16 (by decide) ?_ ?_
      · exact K9_firstSettledDay_B29_w h hKs hE hkw hX hSt s0 a0 a1 l2 l3 (ih) hk35
      · refine g_iload_n h 2 dX9_firstSettledDay_19 rfl ?_
        refine g_aload_n h 0 dX9_firstSettledDay_20 rfl ?_
        refine g_iload_n h 3 dX9_firstSettledDay_21 rfl ?_
        refine k_kind (fun hk22_0 => ?_)
        refine g_callV0p h (KW_mv hE) hkw hKs [.int l3] (c_X9_settledDay hE hkw hX hSt s0 a0 l3) yk_X9_settledDay tW_823 ⟨(Nat.le_of_ble_eq_true rfl), (Nat.le_of_ble_eq_true rfl)⟩ (KW_recv a0 8 (r := (RX9, TX9, 13)) hk22_0 (by decide) rfl) rfl rfl rfl rfl (Nat.le_of_ble_eq_true rfl) dX9_firstSettledDay_22 ⟨(Nat.le_of_ble_eq_true rfl), (Nat.le_of_ble_eq_true rfl)⟩ (fun r_22 => ?_)
        refine g_mmin h tW_863 tW_353 tW_11 tW_354 (Nat.le_of_ble_eq_true rfl) (Nat.le_of_ble_eq_true rfl) (Nat.zero_le _) (Nat.zero_le _) dX9_firstSettledDay_25 ?_
        refine g_bndi (fun v2_28 => ?_)
        refine g_istore_n h [(2, .int v2_28), (0, .ref a0), (1, .int a1), (3, .int l3)] dX9_firstSettledDay_28 (by decide) rfl ?_
        refine g_lv [(0, .ref a0), (1, .int a1), (2, .int v2_28), (3, .int l3)] [1, 2, 0, 3] rfl ?_
        exact K9_firstSettledDay_B29_w h hKs hE hkw hX hSt s0 a0 a1 v2_28 l3 (ih) hk35
def K9_firstSettledDay (s0 : Km) (a0 : Nat) (a1 : Int32) : Option (Int32) :=
  K9_firstSettledDay_L6 s0 a0 a1 (fun v2_35 => some v2_35) gF (999999 : Int32) (0 : Int32)
set_option maxHeartbeats 4000000 in
set_option maxRecDepth 100000 in
theorem c_X9_firstSettledDay {l : Launch} {A : Nat → Prop} {Ke : State → Prop} {D : va_G} {cA : Nat → ClassId} {E : State → Heap → Prop} {adS adV adM : Nat → Nat} {adD : Nat} (hE : mEok E A) (hkw : gKw Ke) (hX : xSt l Ke E A adM adD) (hSt : sSt Ke A (KW D cA E A) adS adV) (s0 : Km) (a0 : Nat) (a1 : Int32) : gCp l yX9_firstSettledDay cX9_firstSettledDay 4 (some .int) rm_X9_firstSettledDay Ke (KW D cA E A) A [.ref a0, .int a1] s0 (K9_firstSettledDay s0 a0 a1) := by
  refine g_metp (by decide) (by simp [lg_sl, Value.category]) ?_
  intro p e s m below meth c h hr hKs
  refine g_lv [(0, .ref a0), (1, .int a1)] [0, 1] rfl ?_
  unfold K9_firstSettledDay
  refine g_ldcw (v := 999999) h tW_834 dX9_firstSettledDay_0 ?_
  refine g_istore_n h [(2, .int (999999 : Int32)), (0, .ref a0), (1, .int a1)] dX9_firstSettledDay_3 (by decide) rfl ?_
  refine g_iconst (v := 0) h dX9_firstSettledDay_4 (by decide) ?_
  refine g_istore_n h [(3, .int (0 : Int32)), (2, .int (999999 : Int32)), (0, .ref a0), (1, .int a1)] dX9_firstSettledDay_5 (by decide) rfl ?_
  refine g_lv [(0, .ref a0), (1, .int a1), (2, .int (999999 : Int32)), (3, .int (0 : Int32))] [2, 3, 1, 0] rfl ?_
  refine K9_firstSettledDay_L6_w h hKs hE hkw hX hSt s0 a0 a1 (fun v2_35 => ?_) gF (999999 : Int32) (0 : Int32)
  · refine g_iload_n h 0 dX9_firstSettledDay_35 rfl ?_
    exact g_iretp h (KW_mv hE) hr (Nat.le_of_ble_eq_true rfl) (Nat.le_of_ble_eq_true rfl) dX9_firstSettledDay_36
def rm_X9_nextBusyDay : Room := { frames := 5, cells := 0, slots := 0, locals := 118 }
theorem yk_X9_nextBusyDay : yOkV yX9_nextBusyDay cX9_nextBusyDay 6 (some .int) RX9 1 := ⟨tW_862, tW_1, tW_861, tP_31, by decide, by decide, by decide +kernel⟩
def K9_nextBusyDay_B42 {Rt : Type} (s0 : Km) (rec : Int32 → Int32 → Option Rt) (k48 : Int32 → Option Rt) (a0 : Nat) (l2 : Int32) (l3 : Int32) : Option (Rt) :=
  rec l2 (l3 + 1)
set_option maxHeartbeats 4000000 in
set_option maxRecDepth 100000 in
theorem K9_nextBusyDay_B42_w {p : Program} {l : Launch} {e : Env} {s : State} {m : MethodId} {args : Array Value} {below : List Frame} {meth : Method} {c : Code} {A : Nat → Prop} {Ke : State → Prop} {D : va_G} {cA : Nat → ClassId} {E : State → Heap → Prop} {adS adV adM : Nat → Nat} {adD : Nat} (h : gOk p s m args meth c cX9_nextBusyDay 6 RX9 tb) (hKs : Ke s) (hE : mEok E A) (hkw : gKw Ke) (hX : xSt l Ke E A adM adD) (hSt : sSt Ke A (KW D cA E A) adS adV) {Rt : Type} {QX : Rt → State → Prop} {rec : Int32 → Int32 → Option Rt} {k48 : Int32 → Option Rt} (s0 : Km) (a0 : Nat) (l2 : Int32) (l3 : Int32) (hrec : ∀ (l2 : Int32) (l3 : Int32), gS p l e rm_X9_nextBusyDay s m args below meth c 6 A (KW D cA E A) QX (0) (0) (rec l2 l3) s0 4 [(0, .ref a0), (2, .int l2), (3, .int l3)] []) (hk48 : ∀ (l2 : Int32), gS p l e rm_X9_nextBusyDay s m args below meth c 6 A (KW D cA E A) QX (0) (0) (k48 l2) s0 48 [(0, .ref a0), (2, .int l2)] []) : gS p l e rm_X9_nextBusyDay s m args below meth c 6 A (KW D cA E A) QX (0) (0) (K9_nextBusyDay_B42 s0 rec k48 a0 l2 l3) s0 42 [(0, .ref a0), (2, .int l2), (3, .int l3)] [] := by
  unfold K9_nextBusyDay_B42
  refine g_iinc (v := l3 + 1) (i := 2) h [(3, .int (l3 + 1)), (0, .ref a0), (2, .int l2)] dX9_nextBusyDay_42 rfl rfl (by decide) rfl ?_
  refine g_goto h 4 dX9_nextBusyDay_45 (by decide) ?_
  refine g_lv [(0, .ref a0), (2, .int l2), (3, .int (l3 + 1))] [1, 2, 0] rfl ?_
  exact hrec l2 (l3 + 1)
def K9_nextBusyDay_L4 {Rt : Type} (s0 : Km) (a0 : Nat) (k48 : Int32 → Option Rt) : Nat → Int32 → Int32 → Option Rt
  | 0, _, _ => none
  | F + 1, l2, l3 =>
  if kK s0 a0 = 9 then
    if kI s0 a0 4 ≤ l3 then
      k48 l2
    else
      (kR s0 a0 3).bind (fun b13 =>
      if kK s0 b13 = 16 then
      if okI l3 (kN s0 b13) = true then
      (kR s0 b13 l3.toNatClampNeg).bind (fun b17 =>
      if kK s0 b17 = 5 then
      if kI s0 b17 0 ≤ kI s0 a0 12 then
        K9_nextBusyDay_B42 s0 (K9_nextBusyDay_L4 s0 a0 k48 F) k48 a0 l2 l3
      else
        (kR s0 a0 3).bind (fun b30 =>
        if kK s0 b30 = 16 then
        if okI l3 (kN s0 b30) = true then
        (kR s0 b30 l3.toNatClampNeg).bind (fun b34 =>
        if kK s0 b34 = 5 then
        bnd ((if kI s0 b34 0 < l2 then kI s0 b34 0 else l2)) (fun v2_41 =>
        K9_nextBusyDay_B42 s0 (K9_nextBusyDay_L4 s0 a0 k48 F) k48 a0 v2_41 l3)
        else none)
        else none
        else none)
      else none)
      else none
      else none)
    else none
set_option maxHeartbeats 4000000 in
set_option maxRecDepth 100000 in
theorem K9_nextBusyDay_L4_w {p : Program} {l : Launch} {e : Env} {s : State} {m : MethodId} {args : Array Value} {below : List Frame} {meth : Method} {c : Code} {A : Nat → Prop} {Ke : State → Prop} {D : va_G} {cA : Nat → ClassId} {E : State → Heap → Prop} {adS adV adM : Nat → Nat} {adD : Nat} (h : gOk p s m args meth c cX9_nextBusyDay 6 RX9 tb) (hKs : Ke s) (hE : mEok E A) (hkw : gKw Ke) (hX : xSt l Ke E A adM adD) (hSt : sSt Ke A (KW D cA E A) adS adV) {Rt : Type} {QX : Rt → State → Prop} (s0 : Km) (a0 : Nat) {k48 : Int32 → Option Rt} (hk48 : ∀ (l2 : Int32), gS p l e rm_X9_nextBusyDay s m args below meth c 6 A (KW D cA E A) QX (0) (0) (k48 l2) s0 48 [(0, .ref a0), (2, .int l2)] []) : ∀ (F : Nat), ∀ (l2 : Int32) (l3 : Int32), gS p l e rm_X9_nextBusyDay s m args below meth c 6 A (KW D cA E A) QX (0) (0) (K9_nextBusyDay_L4 s0 a0 k48 F l2 l3) s0 4 [(0, .ref a0), (2, .int l2), (3, .int l3)] [] := by
  intro F
  induction F with
  | zero =>
    intro l2 l3
    unfold K9_nextBusyDay_L4
    exact g_none
  | succ F ih =>
    intro l2 l3
    unfold K9_nextBusyDay_L4
    refine g_iload_n h 2 dX9_nextBusyDay_4 rfl ?_
    refine g_aload_n h 0 dX9_nextBusyDay_5 rfl ?_
    refine k_kind (fun hk6_0 => ?_)
    refine k_geti h (RX9, TX9, 13) 8 (by decide) rfl hinX9 4 (by decide) rfl tW_118 dX9_nextBusyDay_6 hk6_0 ?_
    refine g_icmp_ge h 48 dX9_nextBusyDay_9 (by decide) ?_ ?_
    · refine g_lv [(0, .ref a0), (2, .int l2)] [0, 1] rfl ?_
      exact hk48 l2
    · refine g_aload_n h 0 dX9_nextBusyDay_12 rfl ?_
      refine k_getr h (RX9, TX9, 13) 8 (by decide) rfl hinX9 3 (by decide) rfl tW_117 dX9_nextBusyDay_13 hk6_0 ?_
      refine g_ob (fun b13 => ?_)
      refine g_iload_n h 2 dX9_nextBusyDay_16 rfl ?_
      refine k_kind (fun hk17_0 => ?_)
      refine k_aald h 16 5 (by decide) "KeepForget$RuleSet" rfl dX9_nextBusyDay_17 hk17_0 ?_
      refine g_ob (fun b17 => ?_)
      refine k_kind (fun hk18_0 => ?_)
      refine k_geti h (RX5, TX5, 5) 4 (by decide) rfl hinX5 0 (by decide) rfl tW_373 dX9_nextBusyDay_18 hk18_0 ?_
      refine g_aload_n h 0 dX9_nextBusyDay_21 rfl ?_
      refine k_geti h (RX9, TX9, 13) 8 (by decide) rfl hinX9 12 (by decide) rfl tW_126 dX9_nextBusyDay_22 hk6_0 ?_
      refine g_icmp_le h 42 dX9_nextBusyDay_25 (by decide) ?_ ?_
      · exact K9_nextBusyDay_B42_w h hKs hE hkw hX hSt s0 a0 l2 l3 (ih) hk48
      · refine g_iload_n h 1 dX9_nextBusyDay_28 rfl ?_
        refine g_aload_n h 0 dX9_nextBusyDay_29 rfl ?_
        refine k_getr h (RX9, TX9, 13) 8 (by decide) rfl hinX9 3 (by decide) rfl tW_117 dX9_nextBusyDay_30 hk6_0 ?_
        refine g_ob (fun b30 => ?_)
        refine g_iload_n h 2 dX9_nextBusyDay_33 rfl ?_
        refine k_kind (fun hk34_0 => ?_)
        refine k_aald h 16 5 (by decide) "KeepForget$RuleSet" rfl dX9_nextBusyDay_34 hk34_0 ?_
        refine g_ob (fun b34 => ?_)
        refine k_kind (fun hk35_0 => ?_)
        refine k_geti h (RX5, TX5, 5) 4 (by decide) rfl hinX5 0 (by decide) rfl tW_373 dX9_nextBusyDay_35 hk35_0 ?_
        refine g_mmin h tW_863 tW_353 tW_11 tW_354 (Nat.le_of_ble_eq_true rfl) (Nat.le_of_ble_eq_true rfl) (Nat.zero_le _) (Nat.zero_le _) dX9_nextBusyDay_38 ?_
        refine g_bndi (fun v2_41 => ?_)
        refine g_istore_n h [(2, .int v2_41), (0, .ref a0), (3, .int l3)] dX9_nextBusyDay_41 (by decide) rfl ?_
        refine g_lv [(0, .ref a0), (2, .int v2_41), (3, .int l3)] [1, 0, 2] rfl ?_
        exact K9_nextBusyDay_B42_w h hKs hE hkw hX hSt s0 a0 v2_41 l3 (ih) hk48
def K9_nextBusyDay_B130 {Rt : Type} (s0 : Km) (rec : Km → Int32 → Int32 → Option Rt) (k136 : Km → Int32 → Option Rt) (a0 : Nat) (l2 : Int32) (l3 : Option Nat) (l4 : Int32) (l5 : Int32) : Option (Rt) :=
  rec s0 l2 (l5 + 1)
set_option maxHeartbeats 4000000 in
set_option maxRecDepth 100000 in
theorem K9_nextBusyDay_B130_w {p : Program} {l : Launch} {e : Env} {s : State} {m : MethodId} {args : Array Value} {below : List Frame} {meth : Method} {c : Code} {A : Nat → Prop} {Ke : State → Prop} {D : va_G} {cA : Nat → ClassId} {E : State → Heap → Prop} {adS adV adM : Nat → Nat} {adD : Nat} (h : gOk p s m args meth c cX9_nextBusyDay 6 RX9 tb) (hKs : Ke s) (hE : mEok E A) (hkw : gKw Ke) (hX : xSt l Ke E A adM adD) (hSt : sSt Ke A (KW D cA E A) adS adV) {Rt : Type} {QX : Rt → State → Prop} {rec : Km → Int32 → Int32 → Option Rt} {k136 : Km → Int32 → Option Rt} (s0 : Km) (a0 : Nat) (l2 : Int32) (l3 : Option Nat) (l4 : Int32) (l5 : Int32) (hrec : ∀ (sx : Km) (l2 : Int32) (l5 : Int32), gS p l e rm_X9_nextBusyDay s m args below meth c 6 A (KW D cA E A) QX (0) (0) (rec sx l2 l5) sx 68 [(0, .ref a0), (2, .int l2), (3, va_rf l3), (4, .int l4), (5, .int l5)] []) (hk136 : ∀ (sx : Km) (l2 : Int32), gS p l e rm_X9_nextBusyDay s m args below meth c 6 A (KW D cA E A) QX (0) (0) (k136 sx l2) sx 136 [(0, .ref a0), (2, .int l2), (3, va_rf l3), (4, .int l4)] []) : gS p l e rm_X9_nextBusyDay s m args below meth c 6 A (KW D cA E A) QX (0) (0) (K9_nextBusyDay_B130 s0 rec k136 a0 l2 l3 l4 l5) s0 130 [(0, .ref a0), (2, .int l2), (3, va_rf l3), (4, .int l4), (5, .int l5)] [] := by
  unfold K9_nextBusyDay_B130
  refine g_iinc (v := l5 + 1) (i := 4) h [(5, .int (l5 + 1)), (0, .ref a0), (2, .int l2), (3, va_rf l3), (4, .int l4)] dX9_nextBusyDay_130 rfl rfl (by decide) rfl ?_
  refine g_goto h 68 dX9_nextBusyDay_133 (by decide) ?_
  refine g_lv [(0, .ref a0), (2, .int l2), (3, va_rf l3), (4, .int l4), (5, .int (l5 + 1))] [1, 2, 3, 4, 0] rfl ?_
  exact hrec s0 l2 (l5 + 1)
def K9_nextBusyDay_L68 {Rt : Type} (a0 : Nat) (l3 : Option Nat) (l4 : Int32) (k136 : Km → Int32 → Option Rt) : Nat → Km → Int32 → Int32 → Option Rt
  | 0, _, _, _ => none
  | F + 1, s0, l2, l5 =>
  if (8 : Int32) ≤ l5 then
      k136 s0 l2
    else
      if kK s0 a0 = 9 then
      (kR s0 a0 5).bind (fun b76 =>
      if kK s0 b76 = 18 then
      if okI l4 (kN s0 b76) = true then
      (kR s0 b76 l4.toNatClampNeg).bind (fun b81 =>
      if kK s0 b81 = 8 then
      (kR s0 b81 3).bind (fun b82 =>
      if kK s0 b82 = 12 then
      if okI l5 (kN s0 b82) = true then
      if kI s0 b82 l5.toNatClampNeg = 0 then
        K9_nextBusyDay_B130 s0 (K9_nextBusyDay_L68 a0 l3 l4 k136 F) k136 a0 l2 l3 l4 l5
      else
        (kR s0 a0 11).bind (fun b92 =>
        (kR s0 a0 5).bind (fun b96 =>
        if kK s0 b96 = 18 then
        if okI l4 (kN s0 b96) = true then
        (kR s0 b96 l4.toNatClampNeg).bind (fun b101 =>
        if kK s0 b92 = 6 then
        (K6_settle s0 b92 b101 l5 l3).bind (fun s_105 =>
        if kK s_105 a0 = 9 then
        (kR s_105 a0 5).bind (fun b111 =>
        if kK s_105 b111 = 18 then
        if okI l4 (kN s_105 b111) = true then
        (kR s_105 b111 l4.toNatClampNeg).bind (fun b116 =>
        if kK s_105 b116 = 8 then
        (kR s_105 b116 3).bind (fun b117 =>
        if kK s_105 b117 = 12 then
        if okI l5 (kN s_105 b117) = true then
        (K9_firstSettledDay s_105 a0 (kI s_105 b117 l5.toNatClampNeg)).bind (fun r_123 =>
        bnd ((if r_123 < l2 then r_123 else l2)) (fun v2_129 =>
        K9_nextBusyDay_B130 s_105 (K9_nextBusyDay_L68 a0 l3 l4 k136 F) k136 a0 v2_129 l3 l4 l5))
        else none
        else none)
        else none)
        else none
        else none)
        else none)
        else none)
        else none
        else none))
      else none
      else none)
      else none)
      else none
      else none)
      else none
set_option maxHeartbeats 4000000 in
set_option maxRecDepth 100000 in
theorem K9_nextBusyDay_L68_w {p : Program} {l : Launch} {e : Env} {s : State} {m : MethodId} {args : Array Value} {below : List Frame} {meth : Method} {c : Code} {A : Nat → Prop} {Ke : State → Prop} {D : va_G} {cA : Nat → ClassId} {E : State → Heap → Prop} {adS adV adM : Nat → Nat} {adD : Nat} (h : gOk p s m args meth c cX9_nextBusyDay 6 RX9 tb) (hKs : Ke s) (hE : mEok E A) (hkw : gKw Ke) (hX : xSt l Ke E A adM adD) (hSt : sSt Ke A (KW D cA E A) adS adV) {Rt : Type} {QX : Rt → State → Prop} (a0 : Nat) (l3 : Option Nat) (l4 : Int32) {k136 : Km → Int32 → Option Rt} (hk136 : ∀ (sx : Km) (l2 : Int32), gS p l e rm_X9_nextBusyDay s m args below meth c 6 A (KW D cA E A) QX (0) (0) (k136 sx l2) sx 136 [(0, .ref a0), (2, .int l2), (3, va_rf l3), (4, .int l4)] []) : ∀ (F : Nat), ∀ (s0 : Km) (l2 : Int32) (l5 : Int32), gS p l e rm_X9_nextBusyDay s m args below meth c 6 A (KW D cA E A) QX (0) (0) (K9_nextBusyDay_L68 a0 l3 l4 k136 F s0 l2 l5) s0 68 [(0, .ref a0), (2, .int l2), (3, va_rf l3), (4, .int l4), (5, .int l5)] [] := by
  intro F
  induction F with
  | zero =>
    intro s0 l2 l5
    unfold K9_nextBusyDay_L68
    exact g_none
  | succ F ih =>
    intro s0 l2 l5
    unfold K9_nextBusyDay_L68
    refine g_iload h 4 dX9_nextBusyDay_68 rfl ?_
    refine g_bipush (v := 8) h dX9_nextBusyDay_70 (by decide) ?_
    refine g_icmp_ge h 136 dX9_nextBusyDay_72 (by decide) ?_ ?_
    · refine g_lv [(0, .ref a0), (2, .int l2), (3, va_rf l3), (4, .int l4)] [0, 1, 2, 3] rfl ?_
      exact hk136 s0 l2
    · refine g_aload_n h 0 dX9_nextBusyDay_75 rfl ?_
      refine k_kind (fun hk76_0 => ?_)
      refine k_getr h (RX9, TX9, 13) 8 (by decide) rfl hinX9 5 (by decide) rfl tW_119 dX9_nextBusyDay_76 hk76_0 ?_
      refine g_ob (fun b76 => ?_)
      refine g_iload h 3 dX9_nextBusyDay_79 rfl ?_
      refine k_kind (fun hk81_0 => ?_)
      refine k_aald h 18 7 (by decide) "KeepForget$Thing" rfl dX9_nextBusyDay_81 hk81_0 ?_
      refine g_ob (fun b81 => ?_)
      refine k_kind (fun hk82_0 => ?_)
      refine k_getr h (RX8, TX8, 6) 7 (by decide) rfl hinX8 3 (by decide) rfl tW_184 dX9_nextBusyDay_82 hk82_0 ?_
      refine g_ob (fun b82 => ?_)
      refine g_iload h 4 dX9_nextBusyDay_85 rfl ?_
      refine k_kind (fun hk87_0 => ?_)
      refine k_iald h dX9_nextBusyDay_87 hk87_0 ?_
      refine g_if_eq h 130 dX9_nextBusyDay_88 (by decide) ?_ ?_
      · exact K9_nextBusyDay_B130_w h hKs hE hkw hX hSt s0 a0 l2 l3 l4 l5 (ih) hk136
      · refine g_aload_n h 0 dX9_nextBusyDay_91 rfl ?_
        refine k_getr h (RX9, TX9, 13) 8 (by decide) rfl hinX9 11 (by decide) rfl tW_125 dX9_nextBusyDay_92 hk76_0 ?_
        refine g_ob (fun b92 => ?_)
        refine g_aload_n h 0 dX9_nextBusyDay_95 rfl ?_
        refine k_getr h (RX9, TX9, 13) 8 (by decide) rfl hinX9 5 (by decide) rfl tW_119 dX9_nextBusyDay_96 hk76_0 ?_
        refine g_ob (fun b96 => ?_)
        refine g_iload h 3 dX9_nextBusyDay_99 rfl ?_
        refine k_kind (fun hk101_0 => ?_)
        refine k_aald h 18 7 (by decide) "KeepForget$Thing" rfl dX9_nextBusyDay_101 hk101_0 ?_
        refine g_ob (fun b101 => ?_)
        refine g_iload h 4 dX9_nextBusyDay_102 rfl ?_
        refine g_aload_nq h 2 dX9_nextBusyDay_104 rfl ?_
        refine k_kind (fun hk105_0 => ?_)
        refine g_callV0v h (KW_mv hE) hkw hKs [.ref b101, .int l5, va_rf l3] (c_X6_settle hE hkw hX hSt s0 b92 b101 l5 l3) yk_X6_settle tW_744 ⟨(Nat.le_of_ble_eq_true rfl), (Nat.le_of_ble_eq_true rfl)⟩ (KW_recv b92 5 (r := (RX6, TX6, 8)) hk105_0 (by decide) rfl) rfl rfl rfl rfl (Nat.le_of_ble_eq_true rfl) dX9_nextBusyDay_105 ⟨(Nat.le_of_ble_eq_true rfl), (Nat.le_of_ble_eq_true rfl)⟩ (fun s_105 => ?_)
        refine g_iload_n h 1 dX9_nextBusyDay_108 rfl ?_
        refine g_aload_n h 0 dX9_nextBusyDay_109 rfl ?_
        refine g_aload_n h 0 dX9_nextBusyDay_110 rfl ?_
        refine k_kind (fun hk111_0 => ?_)
        refine k_getr h (RX9, TX9, 13) 8 (by decide) rfl hinX9 5 (by decide) rfl tW_119 dX9_nextBusyDay_111 hk111_0 ?_
        refine g_ob (fun b111 => ?_)
        refine g_iload h 3 dX9_nextBusyDay_114 rfl ?_
        refine k_kind (fun hk116_0 => ?_)
        refine k_aald h 18 7 (by decide) "KeepForget$Thing" rfl dX9_nextBusyDay_116 hk116_0 ?_
        refine g_ob (fun b116 => ?_)
        refine k_kind (fun hk117_0 => ?_)
        refine k_getr h (RX8, TX8, 6) 7 (by decide) rfl hinX8 3 (by decide) rfl tW_184 dX9_nextBusyDay_117 hk117_0 ?_
        refine g_ob (fun b117 => ?_)
        refine g_iload h 4 dX9_nextBusyDay_120 rfl ?_
        refine k_kind (fun hk122_0 => ?_)
        refine k_iald h dX9_nextBusyDay_122 hk122_0 ?_
        refine g_callV0p h (KW_mv hE) hkw hKs [.int (kI s_105 b117 l5.toNatClampNeg)] (c_X9_firstSettledDay hE hkw hX hSt s_105 a0 (kI s_105 b117 l5.toNatClampNeg)) yk_X9_firstSettledDay tW_864 ⟨(Nat.le_of_ble_eq_true rfl), (Nat.le_of_ble_eq_true rfl)⟩ (KW_recv a0 8 (r := (RX9, TX9, 13)) hk111_0 (by decide) rfl) rfl rfl rfl rfl (Nat.le_of_ble_eq_true rfl) dX9_nextBusyDay_123 ⟨(Nat.le_of_ble_eq_true rfl), (Nat.le_of_ble_eq_true rfl)⟩ (fun r_123 => ?_)
        refine g_mmin h tW_863 tW_353 tW_11 tW_354 (Nat.le_of_ble_eq_true rfl) (Nat.le_of_ble_eq_true rfl) (Nat.zero_le _) (Nat.zero_le _) dX9_nextBusyDay_126 ?_
        refine g_bndi (fun v2_129 => ?_)
        refine g_istore_n h [(2, .int v2_129), (0, .ref a0), (3, va_rf l3), (4, .int l4), (5, .int l5)] dX9_nextBusyDay_129 (by decide) rfl ?_
        refine g_lv [(0, .ref a0), (2, .int v2_129), (3, va_rf l3), (4, .int l4), (5, .int l5)] [1, 0, 2, 3, 4] rfl ?_
        exact K9_nextBusyDay_B130_w h hKs hE hkw hX hSt s_105 a0 v2_129 l3 l4 l5 (ih) hk136
def K9_nextBusyDay_L56 {Rt : Type} (a0 : Nat) (l3 : Option Nat) (k142 : Km → Int32 → Option Rt) : Nat → Km → Int32 → Int32 → Option Rt
  | 0, _, _, _ => none
  | F + 1, s0, l2, l4 =>
  if kK s0 a0 = 9 then
    if kI s0 a0 6 ≤ l4 then
      k142 s0 l2
    else
      K9_nextBusyDay_L68 a0 l3 l4 (fun s_136 v2_136 => K9_nextBusyDay_L56 a0 l3 k142 F s_136 v2_136 (l4 + 1)) gF s0 l2 (0 : Int32)
    else none
set_option maxHeartbeats 4000000 in
set_option maxRecDepth 100000 in
theorem K9_nextBusyDay_L56_w {p : Program} {l : Launch} {e : Env} {s : State} {m : MethodId} {args : Array Value} {below : List Frame} {meth : Method} {c : Code} {A : Nat → Prop} {Ke : State → Prop} {D : va_G} {cA : Nat → ClassId} {E : State → Heap → Prop} {adS adV adM : Nat → Nat} {adD : Nat} (h : gOk p s m args meth c cX9_nextBusyDay 6 RX9 tb) (hKs : Ke s) (hE : mEok E A) (hkw : gKw Ke) (hX : xSt l Ke E A adM adD) (hSt : sSt Ke A (KW D cA E A) adS adV) {Rt : Type} {QX : Rt → State → Prop} (a0 : Nat) (l3 : Option Nat) {k142 : Km → Int32 → Option Rt} (hk142 : ∀ (sx : Km) (l2 : Int32), gS p l e rm_X9_nextBusyDay s m args below meth c 6 A (KW D cA E A) QX (0) (0) (k142 sx l2) sx 142 [(2, .int l2)] []) : ∀ (F : Nat), ∀ (s0 : Km) (l2 : Int32) (l4 : Int32), gS p l e rm_X9_nextBusyDay s m args below meth c 6 A (KW D cA E A) QX (0) (0) (K9_nextBusyDay_L56 a0 l3 k142 F s0 l2 l4) s0 56 [(0, .ref a0), (2, .int l2), (3, va_rf l3), (4, .int l4)] [] := by
  intro F
  induction F with
  | zero =>
    intro s0 l2 l4
    unfold K9_nextBusyDay_L56
    exact g_none
  | succ F ih =>
    intro s0 l2 l4
    unfold K9_nextBusyDay_L56
    refine g_iload h 3 dX9_nextBusyDay_56 rfl ?_
    refine g_aload_n h 0 dX9_nextBusyDay_58 rfl ?_
    refine k_kind (fun hk59_0 => ?_)
    refine k_geti h (RX9, TX9, 13) 8 (by decide) rfl hinX9 6 (by decide) rfl tW_120 dX9_nextBusyDay_59 hk59_0 ?_
    refine g_icmp_ge h 142 dX9_nextBusyDay_62 (by decide) ?_ ?_
    · refine g_lv [(2, .int l2)] [1] rfl ?_
      exact hk142 s0 l2
    · refine g_iconst (v := 0) h dX9_nextBusyDay_65 (by decide) ?_
      refine g_istore h [(5, .int (0 : Int32)), (0, .ref a0), (2, .int l2), (3, va_rf l3), (4, .int l4)] dX9_nextBusyDay_66 (by decide) rfl ?_
      refine g_lv [(0, .ref a0), (2, .int l2), (3, va_rf l3), (4, .int l4), (5, .int (0 : Int32))] [1, 2, 3, 4, 0] rfl ?_
      refine K9_nextBusyDay_L68_w h hKs hE hkw hX hSt a0 l3 l4 (fun s_136 v2_136 => ?_) gF s0 l2 (0 : Int32)
      · refine g_iinc (v := l4 + 1) (i := 3) h [(4, .int (l4 + 1)), (0, .ref a0), (2, .int v2_136), (3, va_rf l3)] dX9_nextBusyDay_136 rfl rfl (by decide) (by cases l3 <;> rfl) ?_
        refine g_goto h 56 dX9_nextBusyDay_139 (by decide) ?_
        refine g_lv [(0, .ref a0), (2, .int v2_136), (3, va_rf l3), (4, .int (l4 + 1))] [1, 2, 3, 0] rfl ?_
        exact ih s_136 v2_136 (l4 + 1)
def K9_nextBusyDay (s0 : Km) (a0 : Nat) (a1 : Int32) : Option (Int32 × Km) :=
  K9_nextBusyDay_L4 s0 a0 (fun v2_48 => if kK s0 a0 = 9 then
    (K9_setInForce s0 a0).bind (fun r_49 =>
    K9_nextBusyDay_L56 a0 r_49 (fun s_142 v2_142 => some (v2_142, s_142)) gF s0 v2_48 (0 : Int32))
    else none) gF a1 (0 : Int32)
set_option maxHeartbeats 4000000 in
set_option maxRecDepth 100000 in
theorem c_X9_nextBusyDay {l : Launch} {A : Nat → Prop} {Ke : State → Prop} {D : va_G} {cA : Nat → ClassId} {E : State → Heap → Prop} {adS adV adM : Nat → Nat} {adD : Nat} (hE : mEok E A) (hkw : gKw Ke) (hX : xSt l Ke E A adM adD) (hSt : sSt Ke A (KW D cA E A) adS adV) (s0 : Km) (a0 : Nat) (a1 : Int32) : gCi l yX9_nextBusyDay cX9_nextBusyDay 6 (some .int) rm_X9_nextBusyDay Ke (KW D cA E A) A [.ref a0, .int a1] s0 (K9_nextBusyDay s0 a0 a1) := by
  refine g_meti (by decide) (by simp [lg_sl, Value.category]) ?_
  intro p e s m below meth c h hr hKs
  refine g_lv [(0, .ref a0), (1, .int a1)] [0, 1] rfl ?_
  unfold K9_nextBusyDay
  refine g_iload_n h 1 dX9_nextBusyDay_0 rfl ?_
  refine g_istore_n h [(2, .int a1), (0, .ref a0), (1, .int a1)] dX9_nextBusyDay_1 (by decide) rfl ?_
  refine g_iconst (v := 0) h dX9_nextBusyDay_2 (by decide) ?_
  refine g_istore_n h [(3, .int (0 : Int32)), (2, .int a1), (0, .ref a0), (1, .int a1)] dX9_nextBusyDay_3 (by decide) rfl ?_
  refine g_lv [(0, .ref a0), (2, .int a1), (3, .int (0 : Int32))] [2, 1, 0] rfl ?_
  refine K9_nextBusyDay_L4_w h hKs hE hkw hX hSt s0 a0 (fun v2_48 => ?_) gF a1 (0 : Int32)
  · refine g_aload_n h 0 dX9_nextBusyDay_48 rfl ?_
    refine k_kind (fun hk49_0 => ?_)
    refine g_callV0q h (KW_mv hE) hkw hKs [] (c_X9_setInForce hE hkw hX hSt s0 a0) yk_X9_setInForce tW_210 ⟨(Nat.le_of_ble_eq_true rfl), (Nat.le_of_ble_eq_true rfl)⟩ (KW_recv a0 8 (r := (RX9, TX9, 13)) hk49_0 (by decide) rfl) rfl rfl rfl rfl (Nat.le_of_ble_eq_true rfl) dX9_nextBusyDay_49 ⟨(Nat.le_of_ble_eq_true rfl), (Nat.le_of_ble_eq_true rfl)⟩ (fun r_49 => ?_)
    refine g_astore_nq h [(3, va_rf r_49), (0, .ref a0), (2, .int v2_48)] dX9_nextBusyDay_52 (by decide) rfl ?_
    refine g_iconst (v := 0) h dX9_nextBusyDay_53 (by decide) ?_
    refine g_istore h [(4, .int (0 : Int32)), (3, va_rf r_49), (0, .ref a0), (2, .int v2_48)] dX9_nextBusyDay_54 (by decide) (by cases r_49 <;> rfl) ?_
    refine g_lv [(0, .ref a0), (2, .int v2_48), (3, va_rf r_49), (4, .int (0 : Int32))] [2, 3, 1, 0] rfl ?_
    refine K9_nextBusyDay_L56_w h hKs hE hkw hX hSt a0 r_49 (fun s_142 v2_142 => ?_) gF s0 v2_48 (0 : Int32)
    · refine g_iload_n h 0 dX9_nextBusyDay_142 rfl ?_
      exact g_iret h (KW_mv hE) hr (Nat.le_of_ble_eq_true rfl) (Nat.le_of_ble_eq_true rfl) dX9_nextBusyDay_143
def rm_X9_sweep : Room := { frames := 5, cells := 0, slots := 0, locals := 118 }
theorem yk_X9_sweep : yOkV yX9_sweep cX9_sweep 5 (none) RX9 1 := ⟨tW_871, tW_1, tW_870, tP_33, by decide, by decide, by decide +kernel⟩
def K9_sweep_B109 {Rt : Type} (s0 : Km) (rec : Km → Int32 → Option Rt) (k115 : Km → Option Rt) (a0 : Nat) (a1 : Int32) (l2 : Option Nat) (l3 : Int32) (l4 : Int32) : Option (Rt) :=
  rec s0 (l4 + 1)
set_option maxHeartbeats 4000000 in
set_option maxRecDepth 100000 in
theorem K9_sweep_B109_w {p : Program} {l : Launch} {e : Env} {s : State} {m : MethodId} {args : Array Value} {below : List Frame} {meth : Method} {c : Code} {A : Nat → Prop} {Ke : State → Prop} {D : va_G} {cA : Nat → ClassId} {E : State → Heap → Prop} {adS adV adM : Nat → Nat} {adD : Nat} (h : gOk p s m args meth c cX9_sweep 5 RX9 tb) (hKs : Ke s) (hE : mEok E A) (hkw : gKw Ke) (hX : xSt l Ke E A adM adD) (hSt : sSt Ke A (KW D cA E A) adS adV) {Rt : Type} {QX : Rt → State → Prop} {rec : Km → Int32 → Option Rt} {k115 : Km → Option Rt} (s0 : Km) (a0 : Nat) (a1 : Int32) (l2 : Option Nat) (l3 : Int32) (l4 : Int32) (hrec : ∀ (sx : Km) (l4 : Int32), gS p l e rm_X9_sweep s m args below meth c 5 A (KW D cA E A) QX (0) (0) (rec sx l4) sx 18 [(0, .ref a0), (1, .int a1), (2, va_rf l2), (3, .int l3), (4, .int l4)] []) (hk115 : ∀ (sx : Km), gS p l e rm_X9_sweep s m args below meth c 5 A (KW D cA E A) QX (0) (0) (k115 sx) sx 115 [(0, .ref a0), (1, .int a1), (2, va_rf l2), (3, .int l3)] []) : gS p l e rm_X9_sweep s m args below meth c 5 A (KW D cA E A) QX (0) (0) (K9_sweep_B109 s0 rec k115 a0 a1 l2 l3 l4) s0 109 [(0, .ref a0), (1, .int a1), (2, va_rf l2), (3, .int l3), (4, .int l4)] [] := by
  unfold K9_sweep_B109
  refine g_iinc (v := l4 + 1) (i := 4) h [(4, .int (l4 + 1)), (0, .ref a0), (1, .int a1), (2, va_rf l2), (3, .int l3)] dX9_sweep_109 rfl rfl (by decide) rfl ?_
  refine g_goto h 18 dX9_sweep_112 (by decide) ?_
  refine g_lv [(0, .ref a0), (1, .int a1), (2, va_rf l2), (3, .int l3), (4, .int (l4 + 1))] [1, 2, 3, 4, 0] rfl ?_
  exact hrec s0 (l4 + 1)
def K9_sweep_L18 {Rt : Type} (a0 : Nat) (a1 : Int32) (l2 : Option Nat) (l3 : Int32) (k115 : Km → Option Rt) : Nat → Km → Int32 → Option Rt
  | 0, _, _ => none
  | F + 1, s0, l4 =>
  if (8 : Int32) ≤ l4 then
      k115 s0
    else
      if kK s0 a0 = 9 then
      (kR s0 a0 5).bind (fun b26 =>
      if kK s0 b26 = 18 then
      if okI l3 (kN s0 b26) = true then
      (kR s0 b26 l3.toNatClampNeg).bind (fun b30 =>
      if kK s0 b30 = 8 then
      (K8_hasCopy s0 b30 l4 a1).bind (fun r_34 =>
      if r_34 = 0 then
        K9_sweep_B109 s0 (K9_sweep_L18 a0 a1 l2 l3 k115 F) k115 a0 a1 l2 l3 l4
      else
        (kR s0 a0 11).bind (fun b41 =>
        (kR s0 a0 5).bind (fun b45 =>
        if kK s0 b45 = 18 then
        if okI l3 (kN s0 b45) = true then
        (kR s0 b45 l3.toNatClampNeg).bind (fun b49 =>
        if kK s0 b41 = 6 then
        (K6_settle s0 b41 b49 l4 l2).bind (fun s_53 =>
        if kK s_53 a0 = 9 then
        (kR s_53 a0 11).bind (fun b57 =>
        if kK s_53 b57 = 6 then
        (K6_isDue s_53 b57 (kI s_53 a0 12)).bind (fun r_64 =>
        if r_64 = 0 then
          K9_sweep_B109 s_53 (K9_sweep_L18 a0 a1 l2 l3 k115 F) k115 a0 a1 l2 l3 l4
        else
          (kR s_53 a0 5).bind (fun b71 =>
          if kK s_53 b71 = 18 then
          if okI l3 (kN s_53 b71) = true then
          (kR s_53 b71 l3.toNatClampNeg).bind (fun b75 =>
          if kK s_53 b75 = 8 then
          (kR s_53 b75 3).bind (fun b76 =>
          if kK s_53 b76 = 12 then
          if okI l4 (kN s_53 b76) = true then
          if okI l4 (kN s_53 b76) = true then
          bnd (kSetI s_53 b76 l4.toNatClampNeg ((kI s_53 b76 l4.toNatClampNeg) &&& (((1 : Int32) <<< (a1 &&& 31)) ^^^ (-1 : Int32)))) (fun s_89 =>
          (kR s_89 a0 10).bind (fun b91 =>
          (kR s_89 a0 11).bind (fun b103 =>
          if kK s_89 b91 = 2 then
          (K2_add s_89 b91 l3 l4 a1 (kI s_89 a0 12) b103).bind (fun s_106 =>
          K9_sweep_B109 s_106 (K9_sweep_L18 a0 a1 l2 l3 k115 F) k115 a0 a1 l2 l3 l4)
          else none)))
          else none
          else none
          else none)
          else none)
          else none
          else none))
        else none)
        else none)
        else none)
        else none
        else none)))
      else none)
      else none
      else none)
      else none
set_option maxHeartbeats 4000000 in
set_option maxRecDepth 100000 in
theorem K9_sweep_L18_w {p : Program} {l : Launch} {e : Env} {s : State} {m : MethodId} {args : Array Value} {below : List Frame} {meth : Method} {c : Code} {A : Nat → Prop} {Ke : State → Prop} {D : va_G} {cA : Nat → ClassId} {E : State → Heap → Prop} {adS adV adM : Nat → Nat} {adD : Nat} (h : gOk p s m args meth c cX9_sweep 5 RX9 tb) (hKs : Ke s) (hE : mEok E A) (hkw : gKw Ke) (hX : xSt l Ke E A adM adD) (hSt : sSt Ke A (KW D cA E A) adS adV) {Rt : Type} {QX : Rt → State → Prop} (a0 : Nat) (a1 : Int32) (l2 : Option Nat) (l3 : Int32) {k115 : Km → Option Rt} (hk115 : ∀ (sx : Km), gS p l e rm_X9_sweep s m args below meth c 5 A (KW D cA E A) QX (0) (0) (k115 sx) sx 115 [(0, .ref a0), (1, .int a1), (2, va_rf l2), (3, .int l3)] []) : ∀ (F : Nat), ∀ (s0 : Km) (l4 : Int32), gS p l e rm_X9_sweep s m args below meth c 5 A (KW D cA E A) QX (0) (0) (K9_sweep_L18 a0 a1 l2 l3 k115 F s0 l4) s0 18 [(0, .ref a0), (1, .int a1), (2, va_rf l2), (3, .int l3), (4, .int l4)] [] := by
  intro F
  induction F with
  | zero =>
    intro s0 l4
    unfold K9_sweep_L18
    exact g_none
  | succ F ih =>
    intro s0 l4
    unfold K9_sweep_L18
    refine g_iload h 4 dX9_sweep_18 rfl ?_
    refine g_bipush (v := 8) h dX9_sweep_20 (by decide) ?_
    refine g_icmp_ge h 115 dX9_sweep_22 (by decide) ?_ ?_
    · refine g_lv [(0, .ref a0), (1, .int a1), (2, va_rf l2), (3, .int l3)] [0, 1, 2, 3] rfl ?_
      exact hk115 s0
    · refine g_aload_n h 0 dX9_sweep_25 rfl ?_
      refine k_kind (fun hk26_0 => ?_)
      refine k_getr h (RX9, TX9, 13) 8 (by decide) rfl hinX9 5 (by decide) rfl tW_119 dX9_sweep_26 hk26_0 ?_
      refine g_ob (fun b26 => ?_)
      refine g_iload_n h 3 dX9_sweep_29 rfl ?_
      refine k_kind (fun hk30_0 => ?_)
      refine k_aald h 18 7 (by decide) "KeepForget$Thing" rfl dX9_sweep_30 hk30_0 ?_
      refine g_ob (fun b30 => ?_)
      refine g_iload h 4 dX9_sweep_31 rfl ?_
      refine g_iload_n h 1 dX9_sweep_33 rfl ?_
      refine k_kind (fun hk34_0 => ?_)
      refine g_callV0p h (KW_mv hE) hkw hKs [.int l4, .int a1] (c_X8_hasCopy hE hkw hX hSt s0 b30 l4 a1) yk_X8_hasCopy tW_682 ⟨(Nat.le_of_ble_eq_true rfl), (Nat.le_of_ble_eq_true rfl)⟩ (KW_recv b30 7 (r := (RX8, TX8, 6)) hk34_0 (by decide) rfl) rfl rfl rfl rfl (Nat.le_of_ble_eq_true rfl) dX9_sweep_34 ⟨(Nat.le_of_ble_eq_true rfl), (Nat.le_of_ble_eq_true rfl)⟩ (fun r_34 => ?_)
      refine g_if_eq h 109 dX9_sweep_37 (by decide) ?_ ?_
      · exact K9_sweep_B109_w h hKs hE hkw hX hSt s0 a0 a1 l2 l3 l4 (ih) hk115
      · refine g_aload_n h 0 dX9_sweep_40 rfl ?_
        refine k_getr h (RX9, TX9, 13) 8 (by decide) rfl hinX9 11 (by decide) rfl tW_125 dX9_sweep_41 hk26_0 ?_
        refine g_ob (fun b41 => ?_)
        refine g_aload_n h 0 dX9_sweep_44 rfl ?_
        refine k_getr h (RX9, TX9, 13) 8 (by decide) rfl hinX9 5 (by decide) rfl tW_119 dX9_sweep_45 hk26_0 ?_
        refine g_ob (fun b45 => ?_)
        refine g_iload_n h 3 dX9_sweep_48 rfl ?_
        refine k_kind (fun hk49_0 => ?_)
        refine k_aald h 18 7 (by decide) "KeepForget$Thing" rfl dX9_sweep_49 hk49_0 ?_
        refine g_ob (fun b49 => ?_)
        refine g_iload h 4 dX9_sweep_50 rfl ?_
        refine g_aload_nq h 2 dX9_sweep_52 rfl ?_
        refine k_kind (fun hk53_0 => ?_)
        refine g_callV0v h (KW_mv hE) hkw hKs [.ref b49, .int l4, va_rf l2] (c_X6_settle hE hkw hX hSt s0 b41 b49 l4 l2) yk_X6_settle tW_744 ⟨(Nat.le_of_ble_eq_true rfl), (Nat.le_of_ble_eq_true rfl)⟩ (KW_recv b41 5 (r := (RX6, TX6, 8)) hk53_0 (by decide) rfl) rfl rfl rfl rfl (Nat.le_of_ble_eq_true rfl) dX9_sweep_53 ⟨(Nat.le_of_ble_eq_true rfl), (Nat.le_of_ble_eq_true rfl)⟩ (fun s_53 => ?_)
        refine g_aload_n h 0 dX9_sweep_56 rfl ?_
        refine k_kind (fun hk57_0 => ?_)
        refine k_getr h (RX9, TX9, 13) 8 (by decide) rfl hinX9 11 (by decide) rfl tW_125 dX9_sweep_57 hk57_0 ?_
        refine g_ob (fun b57 => ?_)
        refine g_aload_n h 0 dX9_sweep_60 rfl ?_
        refine k_geti h (RX9, TX9, 13) 8 (by decide) rfl hinX9 12 (by decide) rfl tW_126 dX9_sweep_61 hk57_0 ?_
        refine k_kind (fun hk64_0 => ?_)
        refine g_callV0p h (KW_mv hE) hkw hKs [.int (kI s_53 a0 12)] (c_X6_isDue hE hkw hX hSt s_53 b57 (kI s_53 a0 12)) yk_X6_isDue tW_773 ⟨(Nat.le_of_ble_eq_true rfl), (Nat.le_of_ble_eq_true rfl)⟩ (KW_recv b57 5 (r := (RX6, TX6, 8)) hk64_0 (by decide) rfl) rfl rfl rfl rfl (Nat.le_of_ble_eq_true rfl) dX9_sweep_64 ⟨(Nat.le_of_ble_eq_true rfl), (Nat.le_of_ble_eq_true rfl)⟩ (fun r_64 => ?_)
        refine g_if_eq h 109 dX9_sweep_67 (by decide) ?_ ?_
        · exact K9_sweep_B109_w h hKs hE hkw hX hSt s_53 a0 a1 l2 l3 l4 (ih) hk115
        · refine g_aload_n h 0 dX9_sweep_70 rfl ?_
          refine k_getr h (RX9, TX9, 13) 8 (by decide) rfl hinX9 5 (by decide) rfl tW_119 dX9_sweep_71 hk57_0 ?_
          refine g_ob (fun b71 => ?_)
          refine g_iload_n h 3 dX9_sweep_74 rfl ?_
          refine k_kind (fun hk75_0 => ?_)
          refine k_aald h 18 7 (by decide) "KeepForget$Thing" rfl dX9_sweep_75 hk75_0 ?_
          refine g_ob (fun b75 => ?_)
          refine k_kind (fun hk76_0 => ?_)
          refine k_getr h (RX8, TX8, 6) 7 (by decide) rfl hinX8 3 (by decide) rfl tW_184 dX9_sweep_76 hk76_0 ?_
          refine g_ob (fun b76 => ?_)
          refine g_iload h 4 dX9_sweep_79 rfl ?_
          refine g_dup2 h dX9_sweep_81 rfl rfl ?_
          refine k_kind (fun hk82_0 => ?_)
          refine k_iald h dX9_sweep_82 hk82_0 ?_
          refine g_iconst (v := 1) h dX9_sweep_83 (by decide) ?_
          refine g_iload_n h 1 dX9_sweep_84 rfl ?_
          refine g_ishl h dX9_sweep_85 ?_
          refine g_iconst (v := -1) h dX9_sweep_86 (by decide) ?_
          refine g_ixor h dX9_sweep_87 ?_
          refine g_iand h dX9_sweep_88 ?_
          refine k_iast h hE dX9_sweep_89 hk82_0 ?_
          refine g_bndE (fun s_89 hs_89 => ?_)
          refine g_aload_n h 0 dX9_sweep_90 rfl ?_
          refine k_getr h (RX9, TX9, 13) 8 (by decide) rfl hinX9 10 (by decide) rfl tW_124 dX9_sweep_91 (kKsI hs_89 hk57_0) ?_
          refine g_ob (fun b91 => ?_)
          refine g_iload_n h 3 dX9_sweep_94 rfl ?_
          refine g_iload h 4 dX9_sweep_95 rfl ?_
          refine g_iload_n h 1 dX9_sweep_97 rfl ?_
          refine g_aload_n h 0 dX9_sweep_98 rfl ?_
          refine k_geti h (RX9, TX9, 13) 8 (by decide) rfl hinX9 12 (by decide) rfl tW_126 dX9_sweep_99 (kKsI hs_89 hk57_0) ?_
          refine g_aload_n h 0 dX9_sweep_102 rfl ?_
          refine k_getr h (RX9, TX9, 13) 8 (by decide) rfl hinX9 11 (by decide) rfl tW_125 dX9_sweep_103 (kKsI hs_89 hk57_0) ?_
          refine g_ob (fun b103 => ?_)
          refine k_kind (fun hk106_0 => ?_)
          refine g_callV0v h (KW_mv hE) hkw hKs [.int l3, .int l4, .int a1, .int (kI s_89 a0 12), .ref b103] (c_X2_add hE hkw hX hSt s_89 b91 l3 l4 a1 (kI s_89 a0 12) b103) yk_X2_add tW_872 ⟨(Nat.le_of_ble_eq_true rfl), (Nat.le_of_ble_eq_true rfl)⟩ (KW_recv b91 1 (r := (RX2, TX2, 3)) hk106_0 (by decide) rfl) rfl rfl rfl rfl (Nat.le_of_ble_eq_true rfl) dX9_sweep_106 ⟨(Nat.le_of_ble_eq_true rfl), (Nat.le_of_ble_eq_true rfl)⟩ (fun s_106 => ?_)
          exact K9_sweep_B109_w h hKs hE hkw hX hSt s_106 a0 a1 l2 l3 l4 (ih) hk115
def K9_sweep_L7 {Rt : Type} (a0 : Nat) (a1 : Int32) (l2 : Option Nat) (k121 : Km → Option Rt) : Nat → Km → Int32 → Option Rt
  | 0, _, _ => none
  | F + 1, s0, l3 =>
  if kK s0 a0 = 9 then
    if kI s0 a0 6 ≤ l3 then
      k121 s0
    else
      K9_sweep_L18 a0 a1 l2 l3 (fun s_115 => K9_sweep_L7 a0 a1 l2 k121 F s_115 (l3 + 1)) gF s0 (0 : Int32)
    else none
set_option maxHeartbeats 4000000 in
set_option maxRecDepth 100000 in
theorem K9_sweep_L7_w {p : Program} {l : Launch} {e : Env} {s : State} {m : MethodId} {args : Array Value} {below : List Frame} {meth : Method} {c : Code} {A : Nat → Prop} {Ke : State → Prop} {D : va_G} {cA : Nat → ClassId} {E : State → Heap → Prop} {adS adV adM : Nat → Nat} {adD : Nat} (h : gOk p s m args meth c cX9_sweep 5 RX9 tb) (hKs : Ke s) (hE : mEok E A) (hkw : gKw Ke) (hX : xSt l Ke E A adM adD) (hSt : sSt Ke A (KW D cA E A) adS adV) {Rt : Type} {QX : Rt → State → Prop} (a0 : Nat) (a1 : Int32) (l2 : Option Nat) {k121 : Km → Option Rt} (hk121 : ∀ (sx : Km), gS p l e rm_X9_sweep s m args below meth c 5 A (KW D cA E A) QX (0) (0) (k121 sx) sx 121 [] []) : ∀ (F : Nat), ∀ (s0 : Km) (l3 : Int32), gS p l e rm_X9_sweep s m args below meth c 5 A (KW D cA E A) QX (0) (0) (K9_sweep_L7 a0 a1 l2 k121 F s0 l3) s0 7 [(0, .ref a0), (1, .int a1), (2, va_rf l2), (3, .int l3)] [] := by
  intro F
  induction F with
  | zero =>
    intro s0 l3
    unfold K9_sweep_L7
    exact g_none
  | succ F ih =>
    intro s0 l3
    unfold K9_sweep_L7
    refine g_iload_n h 3 dX9_sweep_7 rfl ?_
    refine g_aload_n h 0 dX9_sweep_8 rfl ?_
    refine k_kind (fun hk9_0 => ?_)
    refine k_geti h (RX9, TX9, 13) 8 (by decide) rfl hinX9 6 (by decide) rfl tW_120 dX9_sweep_9 hk9_0 ?_
    refine g_icmp_ge h 121 dX9_sweep_12 (by decide) ?_ ?_
    · refine g_lv [] [] rfl ?_
      exact hk121 s0
    · refine g_iconst (v := 0) h dX9_sweep_15 (by decide) ?_
      refine g_istore h [(4, .int (0 : Int32)), (0, .ref a0), (1, .int a1), (2, va_rf l2), (3, .int l3)] dX9_sweep_16 (by decide) rfl ?_
      refine g_lv [(0, .ref a0), (1, .int a1), (2, va_rf l2), (3, .int l3), (4, .int (0 : Int32))] [1, 2, 3, 4, 0] rfl ?_
      refine K9_sweep_L18_w h hKs hE hkw hX hSt a0 a1 l2 l3 (fun s_115 => ?_) gF s0 (0 : Int32)
      · refine g_iinc (v := l3 + 1) (i := 3) h [(3, .int (l3 + 1)), (0, .ref a0), (1, .int a1), (2, va_rf l2)] dX9_sweep_115 rfl rfl (by decide) (by cases l2 <;> rfl) ?_
        refine g_goto h 7 dX9_sweep_118 (by decide) ?_
        refine g_lv [(0, .ref a0), (1, .int a1), (2, va_rf l2), (3, .int (l3 + 1))] [1, 2, 3, 0] rfl ?_
        exact ih s_115 (l3 + 1)
def K9_sweep (s0 : Km) (a0 : Nat) (a1 : Int32) : Option (Km) :=
  if kK s0 a0 = 9 then
  (K9_setInForce s0 a0).bind (fun r_1 =>
  K9_sweep_L7 a0 a1 r_1 (fun s_121 => some s_121) gF s0 (0 : Int32))
  else none
set_option maxHeartbeats 4000000 in
set_option maxRecDepth 100000 in
theorem c_X9_sweep {l : Launch} {A : Nat → Prop} {Ke : State → Prop} {D : va_G} {cA : Nat → ClassId} {E : State → Heap → Prop} {adS adV adM : Nat → Nat} {adD : Nat} (hE : mEok E A) (hkw : gKw Ke) (hX : xSt l Ke E A adM adD) (hSt : sSt Ke A (KW D cA E A) adS adV) (s0 : Km) (a0 : Nat) (a1 : Int32) : gCv l yX9_sweep cX9_sweep 5 (none) rm_X9_sweep Ke (KW D cA E A) A [.ref a0, .int a1] s0 (K9_sweep s0 a0 a1) := by
  refine g_metv (by decide) (by simp [lg_sl, Value.category]) ?_
  intro p e s m below meth c h hr hKs
  refine g_lv [(0, .ref a0), (1, .int a1)] [0, 1] rfl ?_
  unfold K9_sweep
  refine g_aload_n h 0 dX9_sweep_0 rfl ?_
  refine k_kind (fun hk1_0 => ?_)
  refine g_callV0q h (KW_mv hE) hkw hKs [] (c_X9_setInForce hE hkw hX hSt s0 a0) yk_X9_setInForce tW_210 ⟨(Nat.le_of_ble_eq_true rfl), (Nat.le_of_ble_eq_true rfl)⟩ (KW_recv a0 8 (r := (RX9, TX9, 13)) hk1_0 (by decide) rfl) rfl rfl rfl rfl (Nat.le_of_ble_eq_true rfl) dX9_sweep_1 ⟨(Nat.le_of_ble_eq_true rfl), (Nat.le_of_ble_eq_true rfl)⟩ (fun r_1 => ?_)
  refine g_astore_nq h [(2, va_rf r_1), (0, .ref a0), (1, .int a1)] dX9_sweep_4 (by decide) rfl ?_
  refine g_iconst (v := 0) h dX9_sweep_5 (by decide) ?_
  refine g_istore_n h [(3, .int (0 : Int32)), (2, va_rf r_1), (0, .ref a0), (1, .int a1)] dX9_sweep_6 (by decide) (by cases r_1 <;> rfl) ?_
  refine g_lv [(0, .ref a0), (1, .int a1), (2, va_rf r_1), (3, .int (0 : Int32))] [2, 3, 1, 0] rfl ?_
  refine K9_sweep_L7_w h hKs hE hkw hX hSt a0 a1 r_1 (fun s_121 => ?_) gF s0 (0 : Int32)
  · exact g_vret h (KW_mv hE) hr (Nat.le_of_ble_eq_true rfl) (Nat.le_of_ble_eq_true rfl) dX9_sweep_121
def rm_X9_days : Room := { frames := 6, cells := 1, slots := 6, locals := 143 }
theorem yk_X9_days : yOkV yX9_days cX9_days 5 (some .int) RX9 1 := ⟨tW_857, tW_1, tW_855, tW_856, by decide, by decide, by decide +kernel⟩
def K9_days_B22 (s0 : Km)  : Option ((Int32 × Km) ⊕ (Bool × Km)) :=
  some (.inr (false, s0))
set_option maxHeartbeats 4000000 in
set_option maxRecDepth 100000 in
theorem K9_days_B22_w {p : Program} {l : Launch} {e : Env} {s : State} {m : MethodId} {args : Array Value} {below : List Frame} {meth : Method} {c : Code} {A : Nat → Prop} {Ke : State → Prop} {D : va_G} {cA : Nat → ClassId} {E : State → Heap → Prop} {adS adV adM : Nat → Nat} {adD : Nat} (h : gOk p s m args meth c cX9_days 5 RX9 tb) (hKs : Ke s) (hE : mEok E A) (hkw : gKw Ke) (hX : xSt l Ke E A adM adD) (hSt : sSt Ke A (KW D cA E A) adS adV) (hE0 : E s s.heap) (hT : ∀ x ∈ c.exceptionTable.toList, False) (s0 : Km)  (hr : meth.sig.returnType = some .int)  : gS p l e rm_X9_days s m args below meth c 5 A (KW D cA E A) (fun X => vx_MQ below (xQi (KW D cA E A) A X) (xC (KW D cA E A) A X) args s rm_X9_days.cells rm_X9_days.slots A) (0) (0) (K9_days_B22 s0) s0 22 [] [] := by
  unfold K9_days_B22
  exact g_throwWi h hE hKs hX hE0 hT false 19 (by decide) xAll_f rfl (Nat.le_of_ble_eq_true rfl) (Nat.le_of_ble_eq_true rfl) (Nat.le_of_ble_eq_true rfl) (Nat.le_of_ble_eq_true rfl) (Nat.le_of_ble_eq_true rfl) (Nat.le_of_ble_eq_true rfl) dX9_days_22 dX9_days_25 dX9_days_26 dX9_days_29 dX9_days_32
def K9_days_B100 {Rt : Type} (s0 : Km) (rec : Km → Int32 → Option Rt) (k106 : Km → Option Rt) (a0 : Nat) (a1 : Int32) (l2 : Int32) (l3 : Int32) (l4 : Int32) : Option (Rt) :=
  rec s0 (l4 + 1)
set_option maxHeartbeats 4000000 in
set_option maxRecDepth 100000 in
theorem K9_days_B100_w {p : Program} {l : Launch} {e : Env} {s : State} {m : MethodId} {args : Array Value} {below : List Frame} {meth : Method} {c : Code} {A : Nat → Prop} {Ke : State → Prop} {D : va_G} {cA : Nat → ClassId} {E : State → Heap → Prop} {adS adV adM : Nat → Nat} {adD : Nat} (h : gOk p s m args meth c cX9_days 5 RX9 tb) (hKs : Ke s) (hE : mEok E A) (hkw : gKw Ke) (hX : xSt l Ke E A adM adD) (hSt : sSt Ke A (KW D cA E A) adS adV) (hE0 : E s s.heap) (hT : ∀ x ∈ c.exceptionTable.toList, False) {Rt : Type} {QX : Rt → State → Prop} {rec : Km → Int32 → Option Rt} {k106 : Km → Option Rt} (s0 : Km) (a0 : Nat) (a1 : Int32) (l2 : Int32) (l3 : Int32) (l4 : Int32) (hrec : ∀ (sx : Km) (l4 : Int32), gS p l e rm_X9_days s m args below meth c 5 A (KW D cA E A) QX (0) (0) (rec sx l4) sx 67 [(0, .ref a0), (1, .int a1), (2, .int l2), (3, .int l3), (4, .int l4)] []) (hk106 : ∀ (sx : Km), gS p l e rm_X9_days s m args below meth c 5 A (KW D cA E A) QX (0) (0) (k106 sx) sx 106 [(0, .ref a0), (1, .int a1), (2, .int l2), (3, .int l3)] []) : gS p l e rm_X9_days s m args below meth c 5 A (KW D cA E A) QX (0) (0) (K9_days_B100 s0 rec k106 a0 a1 l2 l3 l4) s0 100 [(0, .ref a0), (1, .int a1), (2, .int l2), (3, .int l3), (4, .int l4)] [] := by
  unfold K9_days_B100
  refine g_iinc (v := l4 + 1) (i := 4) h [(4, .int (l4 + 1)), (0, .ref a0), (1, .int a1), (2, .int l2), (3, .int l3)] dX9_days_100 rfl rfl (by decide) rfl ?_
  refine g_goto h 67 dX9_days_103 (by decide) ?_
  refine g_lv [(0, .ref a0), (1, .int a1), (2, .int l2), (3, .int l3), (4, .int (l4 + 1))] [1, 2, 3, 4, 0] rfl ?_
  exact hrec s0 (l4 + 1)
def K9_days_L67 {Rt : Type} (a0 : Nat) (a1 : Int32) (l2 : Int32) (l3 : Int32) (k106 : Km → Option Rt) : Nat → Km → Int32 → Option Rt
  | 0, _, _ => none
  | F + 1, s0, l4 =>
  if (4 : Int32) ≤ l4 then
      k106 s0
    else
      if kK s0 a0 = 9 then
      (kR s0 a0 7).bind (fun b74 =>
      if kK s0 b74 = 17 then
      if okI l4 (kN s0 b74) = true then
      (kR s0 b74 l4.toNatClampNeg).bind (fun b79 =>
      if kK s0 b79 = 7 then
      (K7_firstFrom s0 b79 (kI s0 a0 12)).bind (fun r_84 =>
      if r_84 = kI s0 a0 12 then
        (K9_sweep s0 a0 l4).bind (fun s_97 =>
        K9_days_B100 s_97 (K9_days_L67 a0 a1 l2 l3 k106 F) k106 a0 a1 l2 l3 l4)
      else
        K9_days_B100 s0 (K9_days_L67 a0 a1 l2 l3 k106 F) k106 a0 a1 l2 l3 l4)
      else none)
      else none
      else none)
      else none
set_option maxHeartbeats 4000000 in
set_option maxRecDepth 100000 in
theorem K9_days_L67_w {p : Program} {l : Launch} {e : Env} {s : State} {m : MethodId} {args : Array Value} {below : List Frame} {meth : Method} {c : Code} {A : Nat → Prop} {Ke : State → Prop} {D : va_G} {cA : Nat → ClassId} {E : State → Heap → Prop} {adS adV adM : Nat → Nat} {adD : Nat} (h : gOk p s m args meth c cX9_days 5 RX9 tb) (hKs : Ke s) (hE : mEok E A) (hkw : gKw Ke) (hX : xSt l Ke E A adM adD) (hSt : sSt Ke A (KW D cA E A) adS adV) (hE0 : E s s.heap) (hT : ∀ x ∈ c.exceptionTable.toList, False) {Rt : Type} {QX : Rt → State → Prop} (a0 : Nat) (a1 : Int32) (l2 : Int32) (l3 : Int32) {k106 : Km → Option Rt} (hk106 : ∀ (sx : Km), gS p l e rm_X9_days s m args below meth c 5 A (KW D cA E A) QX (0) (0) (k106 sx) sx 106 [(0, .ref a0), (1, .int a1), (2, .int l2), (3, .int l3)] []) : ∀ (F : Nat), ∀ (s0 : Km) (l4 : Int32), gS p l e rm_X9_days s m args below meth c 5 A (KW D cA E A) QX (0) (0) (K9_days_L67 a0 a1 l2 l3 k106 F s0 l4) s0 67 [(0, .ref a0), (1, .int a1), (2, .int l2), (3, .int l3), (4, .int l4)] [] := by
  intro F
  induction F with
  | zero =>
    intro s0 l4
    unfold K9_days_L67
    exact g_none
  | succ F ih =>
    intro s0 l4
    unfold K9_days_L67
    refine g_iload h 4 dX9_days_67 rfl ?_
    refine g_iconst (v := 4) h dX9_days_69 (by decide) ?_
    refine g_icmp_ge h 106 dX9_days_70 (by decide) ?_ ?_
    · refine g_lv [(0, .ref a0), (1, .int a1), (2, .int l2), (3, .int l3)] [0, 1, 2, 3] rfl ?_
      exact hk106 s0
    · refine g_aload_n h 0 dX9_days_73 rfl ?_
      refine k_kind (fun hk74_0 => ?_)
      refine k_getr h (RX9, TX9, 13) 8 (by decide) rfl hinX9 7 (by decide) rfl tW_121 dX9_days_74 hk74_0 ?_
      refine g_ob (fun b74 => ?_)
      refine g_iload h 4 dX9_days_77 rfl ?_
      refine k_kind (fun hk79_0 => ?_)
      refine k_aald h 17 6 (by decide) "KeepForget$Sweeper" rfl dX9_days_79 hk79_0 ?_
      refine g_ob (fun b79 => ?_)
      refine g_aload_n h 0 dX9_days_80 rfl ?_
      refine k_geti h (RX9, TX9, 13) 8 (by decide) rfl hinX9 12 (by decide) rfl tW_126 dX9_days_81 hk74_0 ?_
      refine k_kind (fun hk84_0 => ?_)
      refine g_callV0p h (KW_mv hE) hkw hKs [.int (kI s0 a0 12)] (c_X7_firstFrom hE hkw hX hSt s0 b79 (kI s0 a0 12)) yk_X7_firstFrom tW_828 ⟨(Nat.le_of_ble_eq_true rfl), (Nat.le_of_ble_eq_true rfl)⟩ (KW_recv b79 6 (r := (RX7, TX7, 2)) hk84_0 (by decide) rfl) rfl rfl rfl rfl (Nat.le_of_ble_eq_true rfl) dX9_days_84 ⟨(Nat.le_of_ble_eq_true rfl), (Nat.le_of_ble_eq_true rfl)⟩ (fun r_84 => ?_)
      refine g_aload_n h 0 dX9_days_87 rfl ?_
      refine k_geti h (RX9, TX9, 13) 8 (by decide) rfl hinX9 12 (by decide) rfl tW_126 dX9_days_88 hk74_0 ?_
      refine g_icmp_ne h 100 dX9_days_91 (by decide) ?_ ?_
      · exact K9_days_B100_w h hKs hE hkw hX hSt hE0 hT s0 a0 a1 l2 l3 l4 (ih) hk106
      · refine g_aload_n h 0 dX9_days_94 rfl ?_
        refine g_iload h 4 dX9_days_95 rfl ?_
        refine g_callV0v h (KW_mv hE) hkw hKs [.int l4] (c_X9_sweep hE hkw hX hSt s0 a0 l4) yk_X9_sweep tW_868 ⟨(Nat.le_of_ble_eq_true rfl), (Nat.le_of_ble_eq_true rfl)⟩ (KW_recv a0 8 (r := (RX9, TX9, 13)) hk74_0 (by decide) rfl) rfl rfl rfl rfl (Nat.le_of_ble_eq_true rfl) dX9_days_97 ⟨(Nat.le_of_ble_eq_true rfl), (Nat.le_of_ble_eq_true rfl)⟩ (fun s_97 => ?_)
        exact K9_days_B100_w h hKs hE hkw hX hSt hE0 hT s_97 a0 a1 l2 l3 l4 (ih) hk106
def K9_days_L42 {Rt : Type} (a0 : Nat) (a1 : Int32) (l2 : Int32) (k112 : Km → Option Rt) : Nat → Km → Int32 → Option Rt
  | 0, _, _ => none
  | F + 1, s0, l3 =>
  if a1 ≤ l3 then
      k112 s0
    else
      if kK s0 a0 = 9 then
      if l2 ≤ kI s0 a0 12 then
        k112 s0
      else
        bi (K9_nextBusyDay s0 a0 l2) (fun r_58 s_58 =>
        if kK s_58 a0 = 9 then
        bnd (kSetI s_58 a0 12 r_58) (fun s_61 =>
        K9_days_L67 a0 a1 l2 l3 (fun s_106 => K9_days_L42 a0 a1 l2 k112 F s_106 (l3 + 1)) gF s_61 (0 : Int32))
        else none)
      else none
set_option maxHeartbeats 4000000 in
set_option maxRecDepth 100000 in
theorem K9_days_L42_w {p : Program} {l : Launch} {e : Env} {s : State} {m : MethodId} {args : Array Value} {below : List Frame} {meth : Method} {c : Code} {A : Nat → Prop} {Ke : State → Prop} {D : va_G} {cA : Nat → ClassId} {E : State → Heap → Prop} {adS adV adM : Nat → Nat} {adD : Nat} (h : gOk p s m args meth c cX9_days 5 RX9 tb) (hKs : Ke s) (hE : mEok E A) (hkw : gKw Ke) (hX : xSt l Ke E A adM adD) (hSt : sSt Ke A (KW D cA E A) adS adV) (hE0 : E s s.heap) (hT : ∀ x ∈ c.exceptionTable.toList, False) {Rt : Type} {QX : Rt → State → Prop} (a0 : Nat) (a1 : Int32) (l2 : Int32) {k112 : Km → Option Rt} (hk112 : ∀ (sx : Km), gS p l e rm_X9_days s m args below meth c 5 A (KW D cA E A) QX (0) (0) (k112 sx) sx 112 [(0, .ref a0)] []) : ∀ (F : Nat), ∀ (s0 : Km) (l3 : Int32), gS p l e rm_X9_days s m args below meth c 5 A (KW D cA E A) QX (0) (0) (K9_days_L42 a0 a1 l2 k112 F s0 l3) s0 42 [(0, .ref a0), (1, .int a1), (2, .int l2), (3, .int l3)] [] := by
  intro F
  induction F with
  | zero =>
    intro s0 l3
    unfold K9_days_L42
    exact g_none
  | succ F ih =>
    intro s0 l3
    unfold K9_days_L42
    refine g_iload_n h 3 dX9_days_42 rfl ?_
    refine g_iload_n h 1 dX9_days_43 rfl ?_
    refine g_icmp_ge h 112 dX9_days_44 (by decide) ?_ ?_
    · refine g_lv [(0, .ref a0)] [0] rfl ?_
      exact hk112 s0
    · refine g_aload_n h 0 dX9_days_47 rfl ?_
      refine k_kind (fun hk48_0 => ?_)
      refine k_geti h (RX9, TX9, 13) 8 (by decide) rfl hinX9 12 (by decide) rfl tW_126 dX9_days_48 hk48_0 ?_
      refine g_iload_n h 2 dX9_days_51 rfl ?_
      refine g_icmp_ge h 112 dX9_days_52 (by decide) ?_ ?_
      · refine g_lv [(0, .ref a0)] [0] rfl ?_
        exact hk112 s0
      · refine g_aload_n h 0 dX9_days_55 rfl ?_
        refine g_aload_n h 0 dX9_days_56 rfl ?_
        refine g_iload_n h 2 dX9_days_57 rfl ?_
        refine g_callV0i h (KW_mv hE) hkw hKs [.int l2] (c_X9_nextBusyDay hE hkw hX hSt s0 a0 l2) yk_X9_nextBusyDay tW_859 ⟨(Nat.le_of_ble_eq_true rfl), (Nat.le_of_ble_eq_true rfl)⟩ (KW_recv a0 8 (r := (RX9, TX9, 13)) hk48_0 (by decide) rfl) rfl rfl rfl rfl (Nat.le_of_ble_eq_true rfl) dX9_days_58 ⟨(Nat.le_of_ble_eq_true rfl), (Nat.le_of_ble_eq_true rfl)⟩ (fun r_58 s_58 => ?_)
        refine k_kind (fun hk61_0 => ?_)
        refine k_puti (x := r_58) h hE (RX9, TX9, 13) 8 (by decide) rfl hinX9 12 (by decide) rfl tyX9 tyX9_ok nmX9 rfl tW_126 rfl rfl dX9_days_61 hk61_0 ?_
        refine g_bndE (fun s_61 hs_61 => ?_)
        refine g_iconst (v := 0) h dX9_days_64 (by decide) ?_
        refine g_istore h [(4, .int (0 : Int32)), (0, .ref a0), (1, .int a1), (2, .int l2), (3, .int l3)] dX9_days_65 (by decide) rfl ?_
        refine g_lv [(0, .ref a0), (1, .int a1), (2, .int l2), (3, .int l3), (4, .int (0 : Int32))] [1, 2, 3, 4, 0] rfl ?_
        refine K9_days_L67_w h hKs hE hkw hX hSt hE0 hT a0 a1 l2 l3 (fun s_106 => ?_) gF s_61 (0 : Int32)
        · refine g_iinc (v := l3 + 1) (i := 3) h [(3, .int (l3 + 1)), (0, .ref a0), (1, .int a1), (2, .int l2)] dX9_days_106 rfl rfl (by decide) rfl ?_
          refine g_goto h 42 dX9_days_109 (by decide) ?_
          refine g_lv [(0, .ref a0), (1, .int a1), (2, .int l2), (3, .int (l3 + 1))] [1, 2, 3, 0] rfl ?_
          exact ih s_106 (l3 + 1)
def K9_days_B112 (s0 : Km) (a0 : Nat) : Option ((Int32 × Km) ⊕ (Bool × Km)) :=
  if kK s0 a0 = 9 then
  some (.inl (kI s0 a0 12, s0))
  else none
set_option maxHeartbeats 4000000 in
set_option maxRecDepth 100000 in
theorem K9_days_B112_w {p : Program} {l : Launch} {e : Env} {s : State} {m : MethodId} {args : Array Value} {below : List Frame} {meth : Method} {c : Code} {A : Nat → Prop} {Ke : State → Prop} {D : va_G} {cA : Nat → ClassId} {E : State → Heap → Prop} {adS adV adM : Nat → Nat} {adD : Nat} (h : gOk p s m args meth c cX9_days 5 RX9 tb) (hKs : Ke s) (hE : mEok E A) (hkw : gKw Ke) (hX : xSt l Ke E A adM adD) (hSt : sSt Ke A (KW D cA E A) adS adV) (hE0 : E s s.heap) (hT : ∀ x ∈ c.exceptionTable.toList, False) (s0 : Km) (a0 : Nat) (hr : meth.sig.returnType = some .int)  : gS p l e rm_X9_days s m args below meth c 5 A (KW D cA E A) (fun X => vx_MQ below (xQi (KW D cA E A) A X) (xC (KW D cA E A) A X) args s rm_X9_days.cells rm_X9_days.slots A) (0) (0) (K9_days_B112 s0 a0) s0 112 [(0, .ref a0)] [] := by
  unfold K9_days_B112
  refine g_aload_n h 0 dX9_days_112 rfl ?_
  refine k_kind (fun hk113_0 => ?_)
  refine k_geti h (RX9, TX9, 13) 8 (by decide) rfl hinX9 12 (by decide) rfl tW_126 dX9_days_113 hk113_0 ?_
  exact g_xiret h hE hr (Nat.le_of_ble_eq_true rfl) (Nat.le_of_ble_eq_true rfl) dX9_days_116
def K9_days (s0 : Km) (a0 : Nat) (a1 : Int32) : Option ((Int32 × Km) ⊕ (Bool × Km)) :=
  if a1 < 0 then
    K9_days_B22 s0
  else
    if (1000 : Int32) < a1 then
      K9_days_B22 s0
    else
      if kK s0 a0 = 9 then
      if (kI s0 a0 12) + a1 ≤ (200000 : Int32) then
        bnd ((kI s0 a0 12) + a1) (fun v2_39 =>
        K9_days_L42 a0 a1 v2_39 (fun s_112 => K9_days_B112 s_112 a0) gF s0 (0 : Int32))
      else
        K9_days_B22 s0
      else none
set_option maxHeartbeats 4000000 in
set_option maxRecDepth 100000 in
theorem c_X9_days {l : Launch} {A : Nat → Prop} {Ke : State → Prop} {D : va_G} {cA : Nat → ClassId} {E : State → Heap → Prop} {adS adV adM : Nat → Nat} {adD : Nat} (hE : mEok E A) (hkw : gKw Ke) (hX : xSt l Ke E A adM adD) (hSt : sSt Ke A (KW D cA E A) adS adV) (s0 : Km) (a0 : Nat) (a1 : Int32) : gXi l yX9_days cX9_days 5 (some .int) rm_X9_days Ke (KW D cA E A) A [.ref a0, .int a1] s0 (K9_days s0 a0 a1) := by
  refine g_metxi (by decide) (by simp [lg_sl, Value.category]) ?_
  intro p e s m below meth c h hr hKs hE0 hT
  refine g_lv [(0, .ref a0), (1, .int a1)] [0, 1] rfl ?_
  unfold K9_days
  refine g_iload_n h 1 dX9_days_0 rfl ?_
  refine g_if_lt h 22 dX9_days_1 (by decide) ?_ ?_
  · refine g_lv [] [] rfl ?_
    exact K9_days_B22_w h hKs hE hkw hX hSt hE0 hT s0  hr
  · refine g_iload_n h 1 dX9_days_4 rfl ?_
    refine g_sipush (v := 1000) h dX9_days_5 (by decide) ?_
    refine g_icmp_gt h 22 dX9_days_8 (by decide) ?_ ?_
    · refine g_lv [] [] rfl ?_
      exact K9_days_B22_w h hKs hE hkw hX hSt hE0 hT s0  hr
    · refine g_aload_n h 0 dX9_days_11 rfl ?_
      refine k_kind (fun hk12_0 => ?_)
      refine k_geti h (RX9, TX9, 13) 8 (by decide) rfl hinX9 12 (by decide) rfl tW_126 dX9_days_12 hk12_0 ?_
      refine g_iload_n h 1 dX9_days_15 rfl ?_
      refine g_iadd h dX9_days_16 ?_
      refine g_ldc (v := 200000) h tW_316 dX9_days_17 ?_
      refine g_icmp_le h 33 dX9_days_19 (by decide) ?_ ?_
      · refine g_aload_n h 0 dX9_days_33 rfl ?_
        refine k_geti h (RX9, TX9, 13) 8 (by decide) rfl hinX9 12 (by decide) rfl tW_126 dX9_days_34 hk12_0 ?_
        refine g_iload_n h 1 dX9_days_37 rfl ?_
        refine g_iadd h dX9_days_38 ?_
        refine g_bndi (fun v2_39 => ?_)
        refine g_istore_n h [(2, .int v2_39), (0, .ref a0), (1, .int a1)] dX9_days_39 (by decide) rfl ?_
        refine g_iconst (v := 0) h dX9_days_40 (by decide) ?_
        refine g_istore_n h [(3, .int (0 : Int32)), (2, .int v2_39), (0, .ref a0), (1, .int a1)] dX9_days_41 (by decide) rfl ?_
        refine g_lv [(0, .ref a0), (1, .int a1), (2, .int v2_39), (3, .int (0 : Int32))] [2, 3, 1, 0] rfl ?_
        refine K9_days_L42_w h hKs hE hkw hX hSt hE0 hT a0 a1 v2_39 (fun s_112 => ?_) gF s0 (0 : Int32)
        · exact K9_days_B112_w h hKs hE hkw hX hSt hE0 hT s_112 a0 hr
      · refine g_lv [] [] rfl ?_
        exact K9_days_B22_w h hKs hE hkw hX hSt hE0 hT s0  hr
def rm_X9_entry : Room := { frames := 6, cells := 1, slots := 6, locals := 90 }
theorem yk_X9_entry : yOkV yX9_entry cX9_entry 3 (some .int) RX9 2 := ⟨tW_882, tW_1, tW_880, tW_881, by decide, by decide, by decide +kernel⟩
def K9_entry_B31 (s0 : Km)  : Option ((Int32 × Km) ⊕ (Bool × Km)) :=
  some (.inr (true, s0))
set_option maxHeartbeats 4000000 in
set_option maxRecDepth 100000 in
theorem K9_entry_B31_w {p : Program} {l : Launch} {e : Env} {s : State} {m : MethodId} {args : Array Value} {below : List Frame} {meth : Method} {c : Code} {A : Nat → Prop} {Ke : State → Prop} {D : va_G} {cA : Nat → ClassId} {E : State → Heap → Prop} {adS adV adM : Nat → Nat} {adD : Nat} (h : gOk p s m args meth c cX9_entry 3 RX9 tb) (hKs : Ke s) (hE : mEok E A) (hkw : gKw Ke) (hX : xSt l Ke E A adM adD) (hSt : sSt Ke A (KW D cA E A) adS adV) (hE0 : E s s.heap) (hT : ∀ x ∈ c.exceptionTable.toList, False) (s0 : Km)  (hr : meth.sig.returnType = some .int)  : gS p l e rm_X9_entry s m args below meth c 3 A (KW D cA E A) (fun X => vx_MQ below (xQi (KW D cA E A) A X) (xC (KW D cA E A) A X) args s rm_X9_entry.cells rm_X9_entry.slots A) (0) (0) (K9_entry_B31 s0) s0 31 [] [] := by
  unfold K9_entry_B31
  exact g_throwWi h hE hKs hX hE0 hT true 20 (by decide) xAll_t rfl (Nat.le_of_ble_eq_true rfl) (Nat.le_of_ble_eq_true rfl) (Nat.le_of_ble_eq_true rfl) (Nat.le_of_ble_eq_true rfl) (Nat.le_of_ble_eq_true rfl) (Nat.le_of_ble_eq_true rfl) dX9_entry_31 dX9_entry_34 dX9_entry_35 dX9_entry_38 dX9_entry_41
def K9_entry (s0 : Km) (a0 : Nat) (a1 : Int32) (a2 : Int32) : Option ((Int32 × Km) ⊕ (Bool × Km)) :=
  if a1 < 0 then
    K9_entry_B31 s0
  else
    if kK s0 a0 = 9 then
    (kR s0 a0 10).bind (fun b6 =>
    if kK s0 b6 = 2 then
    if kI s0 b6 1 ≤ a1 then
      K9_entry_B31 s0
    else
      if (400 : Int32) ≤ a1 then
        K9_entry_B31 s0
      else
        if a2 < 0 then
          K9_entry_B31 s0
        else
          if a2 < (5 : Int32) then
            (kR s0 a0 10).bind (fun b43 =>
            if kK s0 b43 = 2 then
            (kR s0 b43 0).bind (fun b46 =>
            if kK s0 b46 = 12 then
            if okI ((a1 * (5 : Int32)) + a2) (kN s0 b46) = true then
            some (.inl (kI s0 b46 ((a1 * (5 : Int32)) + a2).toNatClampNeg, s0))
            else none
            else none)
            else none)
          else
            K9_entry_B31 s0
    else none)
    else none
set_option maxHeartbeats 4000000 in
set_option maxRecDepth 100000 in
theorem c_X9_entry {l : Launch} {A : Nat → Prop} {Ke : State → Prop} {D : va_G} {cA : Nat → ClassId} {E : State → Heap → Prop} {adS adV adM : Nat → Nat} {adD : Nat} (hE : mEok E A) (hkw : gKw Ke) (hX : xSt l Ke E A adM adD) (hSt : sSt Ke A (KW D cA E A) adS adV) (s0 : Km) (a0 : Nat) (a1 : Int32) (a2 : Int32) : gXi l yX9_entry cX9_entry 3 (some .int) rm_X9_entry Ke (KW D cA E A) A [.ref a0, .int a1, .int a2] s0 (K9_entry s0 a0 a1 a2) := by
  refine g_metxi (by decide) (by simp [lg_sl, Value.category]) ?_
  intro p e s m below meth c h hr hKs hE0 hT
  refine g_lv [(0, .ref a0), (1, .int a1), (2, .int a2)] [0, 1, 2] rfl ?_
  unfold K9_entry
  refine g_iload_n h 1 dX9_entry_0 rfl ?_
  refine g_if_lt h 31 dX9_entry_1 (by decide) ?_ ?_
  · refine g_lv [] [] rfl ?_
    exact K9_entry_B31_w h hKs hE hkw hX hSt hE0 hT s0  hr
  · refine g_iload_n h 1 dX9_entry_4 rfl ?_
    refine g_aload_n h 0 dX9_entry_5 rfl ?_
    refine k_kind (fun hk6_0 => ?_)
    refine k_getr h (RX9, TX9, 13) 8 (by decide) rfl hinX9 10 (by decide) rfl tW_124 dX9_entry_6 hk6_0 ?_
    refine g_ob (fun b6 => ?_)
    refine k_kind (fun hk9_0 => ?_)
    refine k_geti h (RX2, TX2, 3) 1 (by decide) rfl hinX2 1 (by decide) rfl tW_63 dX9_entry_9 hk9_0 ?_
    refine g_icmp_ge h 31 dX9_entry_12 (by decide) ?_ ?_
    · refine g_lv [] [] rfl ?_
      exact K9_entry_B31_w h hKs hE hkw hX hSt hE0 hT s0  hr
    · refine g_iload_n h 1 dX9_entry_15 rfl ?_
      refine g_sipush (v := 400) h dX9_entry_16 (by decide) ?_
      refine g_icmp_ge h 31 dX9_entry_19 (by decide) ?_ ?_
      · refine g_lv [] [] rfl ?_
        exact K9_entry_B31_w h hKs hE hkw hX hSt hE0 hT s0  hr
      · refine g_iload_n h 2 dX9_entry_22 rfl ?_
        refine g_if_lt h 31 dX9_entry_23 (by decide) ?_ ?_
        · refine g_lv [] [] rfl ?_
          exact K9_entry_B31_w h hKs hE hkw hX hSt hE0 hT s0  hr
        · refine g_iload_n h 2 dX9_entry_26 rfl ?_
          refine g_iconst (v := 5) h dX9_entry_27 (by decide) ?_
          refine g_icmp_lt h 42 dX9_entry_28 (by decide) ?_ ?_
          · refine g_aload_n h 0 dX9_entry_42 rfl ?_
            refine k_getr h (RX9, TX9, 13) 8 (by decide) rfl hinX9 10 (by decide) rfl tW_124 dX9_entry_43 hk6_0 ?_
            refine g_ob (fun b43 => ?_)
            refine k_kind (fun hk46_0 => ?_)
            refine k_getr h (RX2, TX2, 3) 1 (by decide) rfl hinX2 0 (by decide) rfl tW_61 dX9_entry_46 hk46_0 ?_
            refine g_ob (fun b46 => ?_)
            refine g_iload_n h 1 dX9_entry_49 rfl ?_
            refine g_iconst (v := 5) h dX9_entry_50 (by decide) ?_
            refine g_imul h dX9_entry_51 ?_
            refine g_iload_n h 2 dX9_entry_52 rfl ?_
            refine g_iadd h dX9_entry_53 ?_
            refine k_kind (fun hk54_0 => ?_)
            refine k_iald h dX9_entry_54 hk54_0 ?_
            exact g_xiret h hE hr (Nat.le_of_ble_eq_true rfl) (Nat.le_of_ble_eq_true rfl) dX9_entry_55
          · refine g_lv [] [] rfl ?_
            exact K9_entry_B31_w h hKs hE hkw hX hSt hE0 hT s0  hr
def rm_X9_copyCount : Room := { frames := 1, cells := 0, slots := 0, locals := 20 }
theorem yk_X9_copyCount : yOkV yX9_copyCount cX9_copyCount 4 (some .int) RX9 0 := ⟨tW_894, tW_1, tW_893, tP_34, by decide, by decide, by decide +kernel⟩
def K9_copyCount_L14 {Rt : Type} (s0 : Km) (a0 : Nat) (l2 : Int32) (k43 : Int32 → Option Rt) : Nat → Int32 → Int32 → Option Rt
  | 0, _, _ => none
  | F + 1, l1, l3 =>
  if (8 : Int32) ≤ l3 then
      k43 l1
    else
      if kK s0 a0 = 9 then
      (kR s0 a0 5).bind (fun b22 =>
      if kK s0 b22 = 18 then
      if okI l2 (kN s0 b22) = true then
      (kR s0 b22 l2.toNatClampNeg).bind (fun b26 =>
      if kK s0 b26 = 8 then
      (kR s0 b26 3).bind (fun b27 =>
      if kK s0 b27 = 12 then
      if okI l3 (kN s0 b27) = true then
      (KJ_bitCount s0 (kI s0 b27 l3.toNatClampNeg)).bind (fun r_32 =>
      bnd (l1 + r_32) (fun v1_36 =>
      K9_copyCount_L14 s0 a0 l2 k43 F v1_36 (l3 + 1)))
      else none
      else none)
      else none)
      else none
      else none)
      else none
set_option maxHeartbeats 4000000 in
set_option maxRecDepth 100000 in
theorem K9_copyCount_L14_w {p : Program} {l : Launch} {e : Env} {s : State} {m : MethodId} {args : Array Value} {below : List Frame} {meth : Method} {c : Code} {A : Nat → Prop} {Ke : State → Prop} {D : va_G} {cA : Nat → ClassId} {E : State → Heap → Prop} {adS adV adM : Nat → Nat} {adD : Nat} (h : gOk p s m args meth c cX9_copyCount 4 RX9 tb) (hKs : Ke s) (hE : mEok E A) (hkw : gKw Ke) (hX : xSt l Ke E A adM adD) (hSt : sSt Ke A (KW D cA E A) adS adV) {Rt : Type} {QX : Rt → State → Prop} (s0 : Km) (a0 : Nat) (l2 : Int32) {k43 : Int32 → Option Rt} (hk43 : ∀ (l1 : Int32), gS p l e rm_X9_copyCount s m args below meth c 4 A (KW D cA E A) QX (0) (0) (k43 l1) s0 43 [(0, .ref a0), (1, .int l1), (2, .int l2)] []) : ∀ (F : Nat), ∀ (l1 : Int32) (l3 : Int32), gS p l e rm_X9_copyCount s m args below meth c 4 A (KW D cA E A) QX (0) (0) (K9_copyCount_L14 s0 a0 l2 k43 F l1 l3) s0 14 [(0, .ref a0), (1, .int l1), (2, .int l2), (3, .int l3)] [] := by
  intro F
  induction F with
  | zero =>
    intro l1 l3
    unfold K9_copyCount_L14
    exact g_none
  | succ F ih =>
    intro l1 l3
    unfold K9_copyCount_L14
    refine g_iload_n h 3 dX9_copyCount_14 rfl ?_
    refine g_bipush (v := 8) h dX9_copyCount_15 (by decide) ?_
    refine g_icmp_ge h 43 dX9_copyCount_17 (by decide) ?_ ?_
    · refine g_lv [(0, .ref a0), (1, .int l1), (2, .int l2)] [0, 1, 2] rfl ?_
      exact hk43 l1
    · refine g_iload_n h 1 dX9_copyCount_20 rfl ?_
      refine g_aload_n h 0 dX9_copyCount_21 rfl ?_
      refine k_kind (fun hk22_0 => ?_)
      refine k_getr h (RX9, TX9, 13) 8 (by decide) rfl hinX9 5 (by decide) rfl tW_119 dX9_copyCount_22 hk22_0 ?_
      refine g_ob (fun b22 => ?_)
      refine g_iload_n h 2 dX9_copyCount_25 rfl ?_
      refine k_kind (fun hk26_0 => ?_)
      refine k_aald h 18 7 (by decide) "KeepForget$Thing" rfl dX9_copyCount_26 hk26_0 ?_
      refine g_ob (fun b26 => ?_)
      refine k_kind (fun hk27_0 => ?_)
      refine k_getr h (RX8, TX8, 6) 7 (by decide) rfl hinX8 3 (by decide) rfl tW_184 dX9_copyCount_27 hk27_0 ?_
      refine g_ob (fun b27 => ?_)
      refine g_iload_n h 3 dX9_copyCount_30 rfl ?_
      refine k_kind (fun hk31_0 => ?_)
      refine k_iald h dX9_copyCount_31 hk31_0 ?_
      refine g_callS0p h (KW_mv hE) hkw hKs [.int (kI s0 b27 l3.toNatClampNeg)] (c_J6_bitCount_0f7a4 hE hkw hX hSt s0 (kI s0 b27 l3.toNatClampNeg)) yk_J6_bitCount_0f7a4 tW_226 ⟨(Nat.le_of_ble_eq_true rfl), (Nat.le_of_ble_eq_true rfl)⟩ rfl rfl rfl rfl (Nat.le_of_ble_eq_true rfl) dX9_copyCount_32 ⟨(Nat.le_of_ble_eq_true rfl), (Nat.le_of_ble_eq_true rfl)⟩ (fun r_32 => ?_)
      refine g_iadd h dX9_copyCount_35 ?_
      refine g_bndi (fun v1_36 => ?_)
      refine g_istore_n h [(1, .int v1_36), (0, .ref a0), (2, .int l2), (3, .int l3)] dX9_copyCount_36 (by decide) rfl ?_
      refine g_iinc (v := l3 + 1) (i := 3) h [(3, .int (l3 + 1)), (1, .int v1_36), (0, .ref a0), (2, .int l2)] dX9_copyCount_37 rfl rfl (by decide) rfl ?_
      refine g_goto h 14 dX9_copyCount_40 (by decide) ?_
      refine g_lv [(0, .ref a0), (1, .int v1_36), (2, .int l2), (3, .int (l3 + 1))] [2, 1, 3, 0] rfl ?_
      exact ih v1_36 (l3 + 1)
def K9_copyCount_L4 {Rt : Type} (s0 : Km) (a0 : Nat) (k49 : Int32 → Option Rt) : Nat → Int32 → Int32 → Option Rt
  | 0, _, _ => none
  | F + 1, l1, l2 =>
  if kK s0 a0 = 9 then
    if kI s0 a0 6 ≤ l2 then
      k49 l1
    else
      K9_copyCount_L14 s0 a0 l2 (fun v1_43 => K9_copyCount_L4 s0 a0 k49 F v1_43 (l2 + 1)) gF l1 (0 : Int32)
    else none
set_option maxHeartbeats 4000000 in
set_option maxRecDepth 100000 in
theorem K9_copyCount_L4_w {p : Program} {l : Launch} {e : Env} {s : State} {m : MethodId} {args : Array Value} {below : List Frame} {meth : Method} {c : Code} {A : Nat → Prop} {Ke : State → Prop} {D : va_G} {cA : Nat → ClassId} {E : State → Heap → Prop} {adS adV adM : Nat → Nat} {adD : Nat} (h : gOk p s m args meth c cX9_copyCount 4 RX9 tb) (hKs : Ke s) (hE : mEok E A) (hkw : gKw Ke) (hX : xSt l Ke E A adM adD) (hSt : sSt Ke A (KW D cA E A) adS adV) {Rt : Type} {QX : Rt → State → Prop} (s0 : Km) (a0 : Nat) {k49 : Int32 → Option Rt} (hk49 : ∀ (l1 : Int32), gS p l e rm_X9_copyCount s m args below meth c 4 A (KW D cA E A) QX (0) (0) (k49 l1) s0 49 [(1, .int l1)] []) : ∀ (F : Nat), ∀ (l1 : Int32) (l2 : Int32), gS p l e rm_X9_copyCount s m args below meth c 4 A (KW D cA E A) QX (0) (0) (K9_copyCount_L4 s0 a0 k49 F l1 l2) s0 4 [(0, .ref a0), (1, .int l1), (2, .int l2)] [] := by
  intro F
  induction F with
  | zero =>
    intro l1 l2
    unfold K9_copyCount_L4
    exact g_none
  | succ F ih =>
    intro l1 l2
    unfold K9_copyCount_L4
    refine g_iload_n h 2 dX9_copyCount_4 rfl ?_
    refine g_aload_n h 0 dX9_copyCount_5 rfl ?_
    refine k_kind (fun hk6_0 => ?_)
    refine k_geti h (RX9, TX9, 13) 8 (by decide) rfl hinX9 6 (by decide) rfl tW_120 dX9_copyCount_6 hk6_0 ?_
    refine g_icmp_ge h 49 dX9_copyCount_9 (by decide) ?_ ?_
    · refine g_lv [(1, .int l1)] [1] rfl ?_
      exact hk49 l1
    · refine g_iconst (v := 0) h dX9_copyCount_12 (by decide) ?_
      refine g_istore_n h [(3, .int (0 : Int32)), (0, .ref a0), (1, .int l1), (2, .int l2)] dX9_copyCount_13 (by decide) rfl ?_
      refine g_lv [(0, .ref a0), (1, .int l1), (2, .int l2), (3, .int (0 : Int32))] [1, 2, 3, 0] rfl ?_
      refine K9_copyCount_L14_w h hKs hE hkw hX hSt s0 a0 l2 (fun v1_43 => ?_) gF l1 (0 : Int32)
      · refine g_iinc (v := l2 + 1) (i := 2) h [(2, .int (l2 + 1)), (0, .ref a0), (1, .int v1_43)] dX9_copyCount_43 rfl rfl (by decide) rfl ?_
        refine g_goto h 4 dX9_copyCount_46 (by decide) ?_
        refine g_lv [(0, .ref a0), (1, .int v1_43), (2, .int (l2 + 1))] [1, 2, 0] rfl ?_
        exact ih v1_43 (l2 + 1)
def K9_copyCount (s0 : Km) (a0 : Nat) : Option (Int32) :=
  K9_copyCount_L4 s0 a0 (fun v1_49 => some v1_49) gF (0 : Int32) (0 : Int32)
set_option maxHeartbeats 4000000 in
set_option maxRecDepth 100000 in
theorem c_X9_copyCount {l : Launch} {A : Nat → Prop} {Ke : State → Prop} {D : va_G} {cA : Nat → ClassId} {E : State → Heap → Prop} {adS adV adM : Nat → Nat} {adD : Nat} (hE : mEok E A) (hkw : gKw Ke) (hX : xSt l Ke E A adM adD) (hSt : sSt Ke A (KW D cA E A) adS adV) (s0 : Km) (a0 : Nat) : gCp l yX9_copyCount cX9_copyCount 4 (some .int) rm_X9_copyCount Ke (KW D cA E A) A [.ref a0] s0 (K9_copyCount s0 a0) := by
  refine g_metp (by decide) (by simp [lg_sl, Value.category]) ?_
  intro p e s m below meth c h hr hKs
  refine g_lv [(0, .ref a0)] [0] rfl ?_
  unfold K9_copyCount
  refine g_iconst (v := 0) h dX9_copyCount_0 (by decide) ?_
  refine g_istore_n h [(1, .int (0 : Int32)), (0, .ref a0)] dX9_copyCount_1 (by decide) rfl ?_
  refine g_iconst (v := 0) h dX9_copyCount_2 (by decide) ?_
  refine g_istore_n h [(2, .int (0 : Int32)), (1, .int (0 : Int32)), (0, .ref a0)] dX9_copyCount_3 (by decide) rfl ?_
  refine g_lv [(0, .ref a0), (1, .int (0 : Int32)), (2, .int (0 : Int32))] [2, 1, 0] rfl ?_
  refine K9_copyCount_L4_w h hKs hE hkw hX hSt s0 a0 (fun v1_49 => ?_) gF (0 : Int32) (0 : Int32)
  · refine g_iload_n h 0 dX9_copyCount_49 rfl ?_
    exact g_iretp h (KW_mv hE) hr (Nat.le_of_ble_eq_true rfl) (Nat.le_of_ble_eq_true rfl) dX9_copyCount_50
def rm_X9_openHoldCount : Room := { frames := 0, cells := 0, slots := 0, locals := 0 }
theorem yk_X9_openHoldCount : yOkV yX9_openHoldCount cX9_openHoldCount 3 (some .int) RX9 0 := ⟨tW_898, tW_1, tW_897, tP_35, by decide, by decide, by decide +kernel⟩
def K9_openHoldCount_B30 {Rt : Type} (s0 : Km) (rec : Int32 → Int32 → Option Rt) (k38 : Int32 → Option Rt) (t0 : Int32) (t1 : Int32) (a0 : Nat) (l2 : Int32) : Option (Rt) :=
  bnd (t1 + t0) (fun v1_31 =>
  rec v1_31 (l2 + 1))
set_option maxHeartbeats 4000000 in
set_option maxRecDepth 100000 in
theorem K9_openHoldCount_B30_w {p : Program} {l : Launch} {e : Env} {s : State} {m : MethodId} {args : Array Value} {below : List Frame} {meth : Method} {c : Code} {A : Nat → Prop} {Ke : State → Prop} {D : va_G} {cA : Nat → ClassId} {E : State → Heap → Prop} {adS adV adM : Nat → Nat} {adD : Nat} (h : gOk p s m args meth c cX9_openHoldCount 3 RX9 tb) (hKs : Ke s) (hE : mEok E A) (hkw : gKw Ke) (hX : xSt l Ke E A adM adD) (hSt : sSt Ke A (KW D cA E A) adS adV) {Rt : Type} {QX : Rt → State → Prop} {rec : Int32 → Int32 → Option Rt} {k38 : Int32 → Option Rt} (s0 : Km) (t0 : Int32) (t1 : Int32) (a0 : Nat) (l2 : Int32) (hrec : ∀ (l1 : Int32) (l2 : Int32), gS p l e rm_X9_openHoldCount s m args below meth c 3 A (KW D cA E A) QX (0) (0) (rec l1 l2) s0 4 [(0, .ref a0), (1, .int l1), (2, .int l2)] []) (hk38 : ∀ (l1 : Int32), gS p l e rm_X9_openHoldCount s m args below meth c 3 A (KW D cA E A) QX (0) (0) (k38 l1) s0 38 [(1, .int l1)] []) : gS p l e rm_X9_openHoldCount s m args below meth c 3 A (KW D cA E A) QX (0) (0) (K9_openHoldCount_B30 s0 rec k38 t0 t1 a0 l2) s0 30 [(0, .ref a0), (2, .int l2)] [.int t0, .int t1] := by
  unfold K9_openHoldCount_B30
  refine g_iadd h dX9_openHoldCount_30 ?_
  refine g_bndi (fun v1_31 => ?_)
  refine g_istore_n h [(1, .int v1_31), (0, .ref a0), (2, .int l2)] dX9_openHoldCount_31 (by decide) rfl ?_
  refine g_iinc (v := l2 + 1) (i := 2) h [(2, .int (l2 + 1)), (1, .int v1_31), (0, .ref a0)] dX9_openHoldCount_32 rfl rfl (by decide) rfl ?_
  refine g_goto h 4 dX9_openHoldCount_35 (by decide) ?_
  refine g_lv [(0, .ref a0), (1, .int v1_31), (2, .int (l2 + 1))] [2, 1, 0] rfl ?_
  exact hrec v1_31 (l2 + 1)
def K9_openHoldCount_L4 {Rt : Type} (s0 : Km) (a0 : Nat) (k38 : Int32 → Option Rt) : Nat → Int32 → Int32 → Option Rt
  | 0, _, _ => none
  | F + 1, l1, l2 =>
  if kK s0 a0 = 9 then
    if kI s0 a0 9 ≤ l2 then
      k38 l1
    else
      (kR s0 a0 8).bind (fun b14 =>
      if kK s0 b14 = 14 then
      if okI l2 (kN s0 b14) = true then
      (kR s0 b14 l2.toNatClampNeg).bind (fun b18 =>
      if kK s0 b18 = 1 then
      if kI s0 b18 2 = 0 then
        K9_openHoldCount_B30 s0 (K9_openHoldCount_L4 s0 a0 k38 F) k38 (1 : Int32) l1 a0 l2
      else
        K9_openHoldCount_B30 s0 (K9_openHoldCount_L4 s0 a0 k38 F) k38 (0 : Int32) l1 a0 l2
      else none)
      else none
      else none)
    else none
set_option maxHeartbeats 4000000 in
set_option maxRecDepth 100000 in
theorem K9_openHoldCount_L4_w {p : Program} {l : Launch} {e : Env} {s : State} {m : MethodId} {args : Array Value} {below : List Frame} {meth : Method} {c : Code} {A : Nat → Prop} {Ke : State → Prop} {D : va_G} {cA : Nat → ClassId} {E : State → Heap → Prop} {adS adV adM : Nat → Nat} {adD : Nat} (h : gOk p s m args meth c cX9_openHoldCount 3 RX9 tb) (hKs : Ke s) (hE : mEok E A) (hkw : gKw Ke) (hX : xSt l Ke E A adM adD) (hSt : sSt Ke A (KW D cA E A) adS adV) {Rt : Type} {QX : Rt → State → Prop} (s0 : Km) (a0 : Nat) {k38 : Int32 → Option Rt} (hk38 : ∀ (l1 : Int32), gS p l e rm_X9_openHoldCount s m args below meth c 3 A (KW D cA E A) QX (0) (0) (k38 l1) s0 38 [(1, .int l1)] []) : ∀ (F : Nat), ∀ (l1 : Int32) (l2 : Int32), gS p l e rm_X9_openHoldCount s m args below meth c 3 A (KW D cA E A) QX (0) (0) (K9_openHoldCount_L4 s0 a0 k38 F l1 l2) s0 4 [(0, .ref a0), (1, .int l1), (2, .int l2)] [] := by
  intro F
  induction F with
  | zero =>
    intro l1 l2
    unfold K9_openHoldCount_L4
    exact g_none
  | succ F ih =>
    intro l1 l2
    unfold K9_openHoldCount_L4
    refine g_iload_n h 2 dX9_openHoldCount_4 rfl ?_
    refine g_aload_n h 0 dX9_openHoldCount_5 rfl ?_
    refine k_kind (fun hk6_0 => ?_)
    refine k_geti h (RX9, TX9, 13) 8 (by decide) rfl hinX9 9 (by decide) rfl tW_123 dX9_openHoldCount_6 hk6_0 ?_
    refine g_icmp_ge h 38 dX9_openHoldCount_9 (by decide) ?_ ?_
    · refine g_lv [(1, .int l1)] [1] rfl ?_
      exact hk38 l1
    · refine g_iload_n h 1 dX9_openHoldCount_12 rfl ?_
      refine g_aload_n h 0 dX9_openHoldCount_13 rfl ?_
      refine k_getr h (RX9, TX9, 13) 8 (by decide) rfl hinX9 8 (by decide) rfl tW_122 dX9_openHoldCount_14 hk6_0 ?_
      refine g_ob (fun b14 => ?_)
      refine g_iload_n h 2 dX9_openHoldCount_17 rfl ?_
      refine k_kind (fun hk18_0 => ?_)
      refine k_aald h 14 3 (by decide) "KeepForget$Hold" rfl dX9_openHoldCount_18 hk18_0 ?_
      refine g_ob (fun b18 => ?_)
      refine k_kind (fun hk19_0 => ?_)
      refine k_geti h (RX1, TX1, 3) 0 (by decide) rfl hinX1 2 (by decide) rfl tW_717 dX9_openHoldCount_19 hk19_0 ?_
      refine g_if_eq h 29 dX9_openHoldCount_22 (by decide) ?_ ?_
      · refine g_iconst (v := 1) h dX9_openHoldCount_29 (by decide) ?_
        refine g_lv [(0, .ref a0), (2, .int l2)] [0, 2] rfl ?_
        exact K9_openHoldCount_B30_w h hKs hE hkw hX hSt s0 (1 : Int32) l1 a0 l2 (ih) hk38
      · refine g_iconst (v := 0) h dX9_openHoldCount_25 (by decide) ?_
        refine g_goto h 30 dX9_openHoldCount_26 (by decide) ?_
        refine g_lv [(0, .ref a0), (2, .int l2)] [0, 2] rfl ?_
        exact K9_openHoldCount_B30_w h hKs hE hkw hX hSt s0 (0 : Int32) l1 a0 l2 (ih) hk38
def K9_openHoldCount (s0 : Km) (a0 : Nat) : Option (Int32) :=
  K9_openHoldCount_L4 s0 a0 (fun v1_38 => some v1_38) gF (0 : Int32) (0 : Int32)
set_option maxHeartbeats 4000000 in
set_option maxRecDepth 100000 in
theorem c_X9_openHoldCount {l : Launch} {A : Nat → Prop} {Ke : State → Prop} {D : va_G} {cA : Nat → ClassId} {E : State → Heap → Prop} {adS adV adM : Nat → Nat} {adD : Nat} (hE : mEok E A) (hkw : gKw Ke) (hX : xSt l Ke E A adM adD) (hSt : sSt Ke A (KW D cA E A) adS adV) (s0 : Km) (a0 : Nat) : gCp l yX9_openHoldCount cX9_openHoldCount 3 (some .int) rm_X9_openHoldCount Ke (KW D cA E A) A [.ref a0] s0 (K9_openHoldCount s0 a0) := by
  refine g_metp (by decide) (by simp [lg_sl, Value.category]) ?_
  intro p e s m below meth c h hr hKs
  refine g_lv [(0, .ref a0)] [0] rfl ?_
  unfold K9_openHoldCount
  refine g_iconst (v := 0) h dX9_openHoldCount_0 (by decide) ?_
  refine g_istore_n h [(1, .int (0 : Int32)), (0, .ref a0)] dX9_openHoldCount_1 (by decide) rfl ?_
  refine g_iconst (v := 0) h dX9_openHoldCount_2 (by decide) ?_
  refine g_istore_n h [(2, .int (0 : Int32)), (1, .int (0 : Int32)), (0, .ref a0)] dX9_openHoldCount_3 (by decide) rfl ?_
  refine g_lv [(0, .ref a0), (1, .int (0 : Int32)), (2, .int (0 : Int32))] [2, 1, 0] rfl ?_
  refine K9_openHoldCount_L4_w h hKs hE hkw hX hSt s0 a0 (fun v1_38 => ?_) gF (0 : Int32) (0 : Int32)
  · refine g_iload_n h 0 dX9_openHoldCount_38 rfl ?_
    exact g_iretp h (KW_mv hE) hr (Nat.le_of_ble_eq_true rfl) (Nat.le_of_ble_eq_true rfl) dX9_openHoldCount_39
def rm_X9_count : Room := { frames := 6, cells := 1, slots := 6, locals := 90 }
theorem yk_X9_count : yOkV yX9_count cX9_count 3 (some .int) RX9 1 := ⟨tW_890, tW_1, tW_888, tW_889, by decide, by decide, by decide +kernel⟩
def K9_count_B124 (s0 : Km) (t0 : Int32) : Option ((Int32 × Km) ⊕ (Bool × Km)) :=
  some (.inl (t0, s0))
set_option maxHeartbeats 4000000 in
set_option maxRecDepth 100000 in
theorem K9_count_B124_w {p : Program} {l : Launch} {e : Env} {s : State} {m : MethodId} {args : Array Value} {below : List Frame} {meth : Method} {c : Code} {A : Nat → Prop} {Ke : State → Prop} {D : va_G} {cA : Nat → ClassId} {E : State → Heap → Prop} {adS adV adM : Nat → Nat} {adD : Nat} (h : gOk p s m args meth c cX9_count 3 RX9 tb) (hKs : Ke s) (hE : mEok E A) (hkw : gKw Ke) (hX : xSt l Ke E A adM adD) (hSt : sSt Ke A (KW D cA E A) adS adV) (hE0 : E s s.heap) (hT : ∀ x ∈ c.exceptionTable.toList, False) (s0 : Km) (t0 : Int32) (hr : meth.sig.returnType = some .int)  : gS p l e rm_X9_count s m args below meth c 3 A (KW D cA E A) (fun X => vx_MQ below (xQi (KW D cA E A) A X) (xC (KW D cA E A) A X) args s rm_X9_count.cells rm_X9_count.slots A) (0) (0) (K9_count_B124 s0 t0) s0 124 [] [.int t0] := by
  unfold K9_count_B124
  exact g_xiret h hE hr (Nat.le_of_ble_eq_true rfl) (Nat.le_of_ble_eq_true rfl) dX9_count_124
def K9_count (s0 : Km) (a0 : Nat) (a1 : Int32) : Option ((Int32 × Km) ⊕ (Bool × Km)) :=
  if a1 = 0 then
    if kK s0 a0 = 9 then
    some (.inl (kI s0 a0 12, s0))
    else none
    else if a1 = 1 then
      if kK s0 a0 = 9 then
      some (.inl (kI s0 a0 6, s0))
      else none
      else if a1 = 2 then
        if kK s0 a0 = 9 then
        some (.inl (kI s0 a0 4, s0))
        else none
        else if a1 = 3 then
          if kK s0 a0 = 9 then
          (K9_numberInForce s0 a0).bind (fun r_72 =>
          some (.inl (r_72, s0)))
          else none
          else if a1 = 4 then
            if kK s0 a0 = 9 then
            (kR s0 a0 10).bind (fun b77 =>
            if kK s0 b77 = 2 then
            some (.inl (kI s0 b77 1, s0))
            else none)
            else none
            else if a1 = 5 then
              if kK s0 a0 = 9 then
              (kR s0 a0 10).bind (fun b85 =>
              if kK s0 b85 = 2 then
              some (.inl (kI s0 b85 2, s0))
              else none)
              else none
              else if a1 = 6 then
                if kK s0 a0 = 9 then
                (K9_copyCount s0 a0).bind (fun r_93 =>
                some (.inl (r_93, s0)))
                else none
                else if a1 = 7 then
                  if kK s0 a0 = 9 then
                  (K9_openHoldCount s0 a0).bind (fun r_98 =>
                  some (.inl (r_98, s0)))
                  else none
                  else if a1 = 8 then
                    if kK s0 a0 = 9 then
                    some (.inl (kI s0 a0 1, s0))
                    else none
                    else if a1 = 9 then
                      if kK s0 a0 = 9 then
                      (K9_setInForce s0 a0).bind (fun r_108 =>
                      om r_108 (K9_count_B124 s0 (0 : Int32)) (fun b113 =>
                        if kK s0 b113 = 5 then
                        K9_count_B124 s0 (kI s0 b113 2)
                        else none))
                      else none
                      else some (.inr (true, s0))
set_option maxHeartbeats 4000000 in
set_option maxRecDepth 100000 in
theorem c_X9_count {l : Launch} {A : Nat → Prop} {Ke : State → Prop} {D : va_G} {cA : Nat → ClassId} {E : State → Heap → Prop} {adS adV adM : Nat → Nat} {adD : Nat} (hE : mEok E A) (hkw : gKw Ke) (hX : xSt l Ke E A adM adD) (hSt : sSt Ke A (KW D cA E A) adS adV) (s0 : Km) (a0 : Nat) (a1 : Int32) : gXi l yX9_count cX9_count 3 (some .int) rm_X9_count Ke (KW D cA E A) A [.ref a0, .int a1] s0 (K9_count s0 a0 a1) := by
  refine g_metxi (by decide) (by simp [lg_sl, Value.category]) ?_
  intro p e s m below meth c h hr hKs hE0 hT
  refine g_lv [(0, .ref a0), (1, .int a1)] [0, 1] rfl ?_
  unfold K9_count
  refine g_iload_n h 1 dX9_count_0 rfl ?_
  refine g_case (fun q1_0 => ?_) (fun q1_0 => ?_)
  · refine g_tabIn h 56 dX9_count_1 (by rw [q1_0]; decide) (by rw [q1_0]; decide) (by rw [q1_0]; rfl) (by decide) ?_
    refine g_aload_n h 0 dX9_count_56 rfl ?_
    refine k_kind (fun hk57_0 => ?_)
    refine k_geti h (RX9, TX9, 13) 8 (by decide) rfl hinX9 12 (by decide) rfl tW_126 dX9_count_57 hk57_0 ?_
    exact g_xiret h hE hr (Nat.le_of_ble_eq_true rfl) (Nat.le_of_ble_eq_true rfl) dX9_count_60
  · skip
    refine g_case (fun q1_1 => ?_) (fun q1_1 => ?_)
    · refine g_tabIn h 61 dX9_count_1 (by rw [q1_1]; decide) (by rw [q1_1]; decide) (by rw [q1_1]; rfl) (by decide) ?_
      refine g_aload_n h 0 dX9_count_61 rfl ?_
      refine k_kind (fun hk62_0 => ?_)
      refine k_geti h (RX9, TX9, 13) 8 (by decide) rfl hinX9 6 (by decide) rfl tW_120 dX9_count_62 hk62_0 ?_
      exact g_xiret h hE hr (Nat.le_of_ble_eq_true rfl) (Nat.le_of_ble_eq_true rfl) dX9_count_65
    · skip
      refine g_case (fun q1_2 => ?_) (fun q1_2 => ?_)
      · refine g_tabIn h 66 dX9_count_1 (by rw [q1_2]; decide) (by rw [q1_2]; decide) (by rw [q1_2]; rfl) (by decide) ?_
        refine g_aload_n h 0 dX9_count_66 rfl ?_
        refine k_kind (fun hk67_0 => ?_)
        refine k_geti h (RX9, TX9, 13) 8 (by decide) rfl hinX9 4 (by decide) rfl tW_118 dX9_count_67 hk67_0 ?_
        exact g_xiret h hE hr (Nat.le_of_ble_eq_true rfl) (Nat.le_of_ble_eq_true rfl) dX9_count_70
      · skip
        refine g_case (fun q1_3 => ?_) (fun q1_3 => ?_)
        · refine g_tabIn h 71 dX9_count_1 (by rw [q1_3]; decide) (by rw [q1_3]; decide) (by rw [q1_3]; rfl) (by decide) ?_
          refine g_aload_n h 0 dX9_count_71 rfl ?_
          refine k_kind (fun hk72_0 => ?_)
          refine g_callV0p h (KW_mv hE) hkw hKs [] (c_X9_numberInForce hE hkw hX hSt s0 a0) yk_X9_numberInForce tW_214 ⟨(Nat.le_of_ble_eq_true rfl), (Nat.le_of_ble_eq_true rfl)⟩ (KW_recv a0 8 (r := (RX9, TX9, 13)) hk72_0 (by decide) rfl) rfl rfl rfl rfl (Nat.le_of_ble_eq_true rfl) dX9_count_72 ⟨(Nat.le_of_ble_eq_true rfl), (Nat.le_of_ble_eq_true rfl)⟩ (fun r_72 => ?_)
          exact g_xiret h hE hr (Nat.le_of_ble_eq_true rfl) (Nat.le_of_ble_eq_true rfl) dX9_count_75
        · skip
          refine g_case (fun q1_4 => ?_) (fun q1_4 => ?_)
          · refine g_tabIn h 76 dX9_count_1 (by rw [q1_4]; decide) (by rw [q1_4]; decide) (by rw [q1_4]; rfl) (by decide) ?_
            refine g_aload_n h 0 dX9_count_76 rfl ?_
            refine k_kind (fun hk77_0 => ?_)
            refine k_getr h (RX9, TX9, 13) 8 (by decide) rfl hinX9 10 (by decide) rfl tW_124 dX9_count_77 hk77_0 ?_
            refine g_ob (fun b77 => ?_)
            refine k_kind (fun hk80_0 => ?_)
            refine k_geti h (RX2, TX2, 3) 1 (by decide) rfl hinX2 1 (by decide) rfl tW_63 dX9_count_80 hk80_0 ?_
            exact g_xiret h hE hr (Nat.le_of_ble_eq_true rfl) (Nat.le_of_ble_eq_true rfl) dX9_count_83
          · skip
            refine g_case (fun q1_5 => ?_) (fun q1_5 => ?_)
            · refine g_tabIn h 84 dX9_count_1 (by rw [q1_5]; decide) (by rw [q1_5]; decide) (by rw [q1_5]; rfl) (by decide) ?_
              refine g_aload_n h 0 dX9_count_84 rfl ?_
              refine k_kind (fun hk85_0 => ?_)
              refine k_getr h (RX9, TX9, 13) 8 (by decide) rfl hinX9 10 (by decide) rfl tW_124 dX9_count_85 hk85_0 ?_
              refine g_ob (fun b85 => ?_)
              refine k_kind (fun hk88_0 => ?_)
              refine k_geti h (RX2, TX2, 3) 1 (by decide) rfl hinX2 2 (by decide) rfl tW_65 dX9_count_88 hk88_0 ?_
              exact g_xiret h hE hr (Nat.le_of_ble_eq_true rfl) (Nat.le_of_ble_eq_true rfl) dX9_count_91
            · skip
              refine g_case (fun q1_6 => ?_) (fun q1_6 => ?_)
              · refine g_tabIn h 92 dX9_count_1 (by rw [q1_6]; decide) (by rw [q1_6]; decide) (by rw [q1_6]; rfl) (by decide) ?_
                refine g_aload_n h 0 dX9_count_92 rfl ?_
                refine k_kind (fun hk93_0 => ?_)
                refine g_callV0p h (KW_mv hE) hkw hKs [] (c_X9_copyCount hE hkw hX hSt s0 a0) yk_X9_copyCount tW_891 ⟨(Nat.le_of_ble_eq_true rfl), (Nat.le_of_ble_eq_true rfl)⟩ (KW_recv a0 8 (r := (RX9, TX9, 13)) hk93_0 (by decide) rfl) rfl rfl rfl rfl (Nat.le_of_ble_eq_true rfl) dX9_count_93 ⟨(Nat.le_of_ble_eq_true rfl), (Nat.le_of_ble_eq_true rfl)⟩ (fun r_93 => ?_)
                exact g_xiret h hE hr (Nat.le_of_ble_eq_true rfl) (Nat.le_of_ble_eq_true rfl) dX9_count_96
              · skip
                refine g_case (fun q1_7 => ?_) (fun q1_7 => ?_)
                · refine g_tabIn h 97 dX9_count_1 (by rw [q1_7]; decide) (by rw [q1_7]; decide) (by rw [q1_7]; rfl) (by decide) ?_
                  refine g_aload_n h 0 dX9_count_97 rfl ?_
                  refine k_kind (fun hk98_0 => ?_)
                  refine g_callV0p h (KW_mv hE) hkw hKs [] (c_X9_openHoldCount hE hkw hX hSt s0 a0) yk_X9_openHoldCount tW_895 ⟨(Nat.le_of_ble_eq_true rfl), (Nat.le_of_ble_eq_true rfl)⟩ (KW_recv a0 8 (r := (RX9, TX9, 13)) hk98_0 (by decide) rfl) rfl rfl rfl rfl (Nat.le_of_ble_eq_true rfl) dX9_count_98 ⟨(Nat.le_of_ble_eq_true rfl), (Nat.le_of_ble_eq_true rfl)⟩ (fun r_98 => ?_)
                  exact g_xiret h hE hr (Nat.le_of_ble_eq_true rfl) (Nat.le_of_ble_eq_true rfl) dX9_count_101
                · skip
                  refine g_case (fun q1_8 => ?_) (fun q1_8 => ?_)
                  · refine g_tabIn h 102 dX9_count_1 (by rw [q1_8]; decide) (by rw [q1_8]; decide) (by rw [q1_8]; rfl) (by decide) ?_
                    refine g_aload_n h 0 dX9_count_102 rfl ?_
                    refine k_kind (fun hk103_0 => ?_)
                    refine k_geti h (RX9, TX9, 13) 8 (by decide) rfl hinX9 1 (by decide) rfl tW_115 dX9_count_103 hk103_0 ?_
                    exact g_xiret h hE hr (Nat.le_of_ble_eq_true rfl) (Nat.le_of_ble_eq_true rfl) dX9_count_106
                  · skip
                    refine g_case (fun q1_9 => ?_) (fun q1_9 => ?_)
                    · refine g_tabIn h 107 dX9_count_1 (by rw [q1_9]; decide) (by rw [q1_9]; decide) (by rw [q1_9]; rfl) (by decide) ?_
                      refine g_aload_n h 0 dX9_count_107 rfl ?_
                      refine k_kind (fun hk108_0 => ?_)
                      refine g_callV0q h (KW_mv hE) hkw hKs [] (c_X9_setInForce hE hkw hX hSt s0 a0) yk_X9_setInForce tW_210 ⟨(Nat.le_of_ble_eq_true rfl), (Nat.le_of_ble_eq_true rfl)⟩ (KW_recv a0 8 (r := (RX9, TX9, 13)) hk108_0 (by decide) rfl) rfl rfl rfl rfl (Nat.le_of_ble_eq_true rfl) dX9_count_108 ⟨(Nat.le_of_ble_eq_true rfl), (Nat.le_of_ble_eq_true rfl)⟩ (fun r_108 => ?_)
                      refine g_astore_nq h [(2, va_rf r_108), (0, .ref a0), (1, .int a1)] dX9_count_111 (by decide) rfl ?_
                      refine g_aload_nq h 0 dX9_count_112 rfl ?_
                      refine g_ifnonnull h (fun z9 => [(2, va_rf z9), (0, .ref a0), (1, .int a1)]) 120 dX9_count_113 (by decide) ?_ (fun b113 => ?_)
                      · refine g_iconst (v := 0) h dX9_count_116 (by decide) ?_
                        refine g_goto h 124 dX9_count_117 (by decide) ?_
                        refine g_lv [] [] rfl ?_
                        exact K9_count_B124_w h hKs hE hkw hX hSt hE0 hT s0 (0 : Int32) hr
                      · refine g_aload_n h 0 dX9_count_120 rfl ?_
                        refine k_kind (fun hk121_0 => ?_)
                        refine k_geti h (RX5, TX5, 5) 4 (by decide) rfl hinX5 2 (by decide) rfl tW_378 dX9_count_121 hk121_0 ?_
                        refine g_lv [] [] rfl ?_
                        exact K9_count_B124_w h hKs hE hkw hX hSt hE0 hT s0 (kI s0 b113 2) hr
                    · skip
                      refine g_tabOut h 125 dX9_count_1 (by have z0 := lv_neT (a := 0) q1_0 (by decide); have z1 := lv_neT (a := 1) q1_1 (by decide); have z2 := lv_neT (a := 2) q1_2 (by decide); have z3 := lv_neT (a := 3) q1_3 (by decide); have z4 := lv_neT (a := 4) q1_4 (by decide); have z5 := lv_neT (a := 5) q1_5 (by decide); have z6 := lv_neT (a := 6) q1_6 (by decide); have z7 := lv_neT (a := 7) q1_7 (by decide); have z8 := lv_neT (a := 8) q1_8 (by decide); have z9 := lv_neT (a := 9) q1_9 (by decide); omega) (by decide) ?_
                      exact g_throwWi h hE hKs hX hE0 hT true 21 (by decide) xAll_t rfl (Nat.le_of_ble_eq_true rfl) (Nat.le_of_ble_eq_true rfl) (Nat.le_of_ble_eq_true rfl) (Nat.le_of_ble_eq_true rfl) (Nat.le_of_ble_eq_true rfl) (Nat.le_of_ble_eq_true rfl) dX9_count_125 dX9_count_128 dX9_count_129 dX9_count_132 dX9_count_135
