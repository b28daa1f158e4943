def rm_X4_init : Room := { frames := 1, cells := 0, slots := 0, locals := 21 }
theorem yk_X4_init : yOkI yX4_init cX4_init 3 2 := ⟨tW_398, tW_13, tW_397, rfl, by decide, by decide, by decide +kernel⟩
def K4_init (s0 : Km) (a0 : Nat) (a1 : Nat) (a2 : Int32) : Option (Km) :=
  if kK s0 a0 = 4 then
  bnd (kSetR s0 a0 0 (some a1)) (fun s_6 =>
  if kK s_6 a1 = 11 then
  bnd (kSetI s_6 a0 1 ((if nI (kN s_6 a1) < a2 then nI (kN s_6 a1) else a2))) (fun s_16 =>
  some s_16)
  else none)
  else none
set_option maxHeartbeats 4000000 in
set_option maxRecDepth 100000 in
theorem c_X4_init {l : Launch} {A : Nat → Prop} {Ke : State → Prop} {D : va_G} {cA : Nat → ClassId} {E : State → Heap → Prop} {adS adV adM : Nat → Nat} {adD : Nat} (hE : mEok E A) (hkw : gKw Ke) (hX : xSt l Ke E A adM adD) (hSt : sSt Ke A (KW D cA E A) adS adV) (s0 : Km) (a0 : Nat) (a1 : Nat) (a2 : Int32) : gCv l yX4_init cX4_init 3 none rm_X4_init Ke (KW D cA E A) A [.ref a0, .ref a1, .int a2] s0 (K4_init s0 a0 a1 a2) := by
  refine g_metI (by decide) rfl (by simp [lg_sl, Value.category]) ?_
  intro p e s m below meth c h hr hin hKs
  refine g_lv [(0, .ref a0), (1, .ref a1), (2, .int a2)] [0, 1, 2] rfl ?_
  unfold K4_init
  refine g_aload_n h 0 dX4_init_0 rfl ?_
  refine g_objInit h tW_399 tW_29 tW_30 (Nat.le_of_ble_eq_true rfl) (Nat.le_of_ble_eq_true rfl) dX4_init_1 ?_
  refine g_aload_n h 0 dX4_init_4 rfl ?_
  refine g_aload_n h 1 dX4_init_5 rfl ?_
  refine k_kind (fun hk6_0 => ?_)
  refine k_putFr (x := (some a1)) h hE (RX4, TX4, 7) 3 (by decide) rfl hinX4 0 (by decide) rfl tyX4 tyX4_ok nmX4 rfl hin rfl tW_401 rfl rfl dX4_init_6 hk6_0 ?_
  refine g_bndE (fun s_6 hs_6 => ?_)
  refine g_aload_n h 0 dX4_init_9 rfl ?_
  refine g_iload_n h 2 dX4_init_10 rfl ?_
  refine g_aload_n h 1 dX4_init_11 rfl ?_
  refine k_kind (fun hk12_0 => ?_)
  refine k_alenI h 11 0 (by decide) (by decide) .byte rfl dX4_init_12 hk12_0 ?_
  refine g_mmin h tW_400 tW_353 tW_11 tW_354 (Nat.le_of_ble_eq_true rfl) (Nat.le_of_ble_eq_true rfl) (Nat.zero_le _) (Nat.zero_le _) dX4_init_13 ?_
  refine k_putFi (x := ((if nI (kN s_6 a1) < a2 then nI (kN s_6 a1) else a2))) h hE (RX4, TX4, 7) 3 (by decide) rfl hinX4 1 (by decide) rfl tyX4 tyX4_ok nmX4 rfl hin rfl tW_402 rfl rfl dX4_init_16 (kKsR hs_6 hk6_0) ?_
  refine g_bndE (fun s_16 hs_16 => ?_)
  exact g_vret h (KW_mv hE) hr (Nat.le_of_ble_eq_true rfl) (Nat.le_of_ble_eq_true rfl) dX4_init_19
def rm_X4_isLetter : Room := { frames := 0, cells := 0, slots := 0, locals := 0 }
theorem yk_X4_isLetter : yOkS yX4_isLetter cX4_isLetter 1 (some .boolean) 1 := ⟨tW_435, tW_13, tW_434, by decide, by decide, by decide +kernel⟩
def K4_isLetter_B17 (s0 : Km) (t0 : Int32) : Option (Int32) :=
  if okZ t0 = true then some t0 else none
set_option maxHeartbeats 4000000 in
set_option maxRecDepth 100000 in
theorem K4_isLetter_B17_w {p : Program} {l : Launch} {e : Env} {s : State} {m : MethodId} {args : Array Value} {below : List Frame} {meth : Method} {c : Code} {A : Nat → Prop} {Ke : State → Prop} {D : va_G} {cA : Nat → ClassId} {E : State → Heap → Prop} {adS adV adM : Nat → Nat} {adD : Nat} (h : gOk p s m args meth c cX4_isLetter 1 RX4 tb) (hKs : Ke s) (hE : mEok E A) (hkw : gKw Ke) (hX : xSt l Ke E A adM adD) (hSt : sSt Ke A (KW D cA E A) adS adV) (s0 : Km) (t0 : Int32) (hr : meth.sig.returnType = some .boolean)  : gS p l e rm_X4_isLetter s m args below meth c 1 A (KW D cA E A) (fun X => MQ below (gPi (KW D cA E A) A (X, s0)) args s rm_X4_isLetter.cells rm_X4_isLetter.slots A) (0) (0) (K4_isLetter_B17 s0 t0) s0 17 [] [.int t0] := by
  unfold K4_isLetter_B17
  refine g_guard (fun hz => ?_)
  exact g_zretp h (KW_mv hE) hr (Nat.le_of_ble_eq_true rfl) (Nat.le_of_ble_eq_true rfl) hz dX4_isLetter_17
def K4_isLetter_B16 (s0 : Km)  : Option (Int32) :=
  K4_isLetter_B17 s0 (0 : Int32)
set_option maxHeartbeats 4000000 in
set_option maxRecDepth 100000 in
theorem K4_isLetter_B16_w {p : Program} {l : Launch} {e : Env} {s : State} {m : MethodId} {args : Array Value} {below : List Frame} {meth : Method} {c : Code} {A : Nat → Prop} {Ke : State → Prop} {D : va_G} {cA : Nat → ClassId} {E : State → Heap → Prop} {adS adV adM : Nat → Nat} {adD : Nat} (h : gOk p s m args meth c cX4_isLetter 1 RX4 tb) (hKs : Ke s) (hE : mEok E A) (hkw : gKw Ke) (hX : xSt l Ke E A adM adD) (hSt : sSt Ke A (KW D cA E A) adS adV) (s0 : Km)  (hr : meth.sig.returnType = some .boolean)  : gS p l e rm_X4_isLetter s m args below meth c 1 A (KW D cA E A) (fun X => MQ below (gPi (KW D cA E A) A (X, s0)) args s rm_X4_isLetter.cells rm_X4_isLetter.slots A) (0) (0) (K4_isLetter_B16 s0) s0 16 [] [] := by
  unfold K4_isLetter_B16
  refine g_iconst (v := 0) h dX4_isLetter_16 (by decide) ?_
  exact K4_isLetter_B17_w h hKs hE hkw hX hSt s0 (0 : Int32) hr
def K4_isLetter (s0 : Km) (a0 : Int32) : Option (Int32) :=
  if a0 < (97 : Int32) then
    K4_isLetter_B16 s0
  else
    if (122 : Int32) < a0 then
      K4_isLetter_B16 s0
    else
      K4_isLetter_B17 s0 (1 : Int32)
set_option maxHeartbeats 4000000 in
set_option maxRecDepth 100000 in
theorem c_X4_isLetter {l : Launch} {A : Nat → Prop} {Ke : State → Prop} {D : va_G} {cA : Nat → ClassId} {E : State → Heap → Prop} {adS adV adM : Nat → Nat} {adD : Nat} (hE : mEok E A) (hkw : gKw Ke) (hX : xSt l Ke E A adM adD) (hSt : sSt Ke A (KW D cA E A) adS adV) (s0 : Km) (a0 : Int32) : gCp l yX4_isLetter cX4_isLetter 1 (some .boolean) rm_X4_isLetter Ke (KW D cA E A) A [.int a0] s0 (K4_isLetter s0 a0) := by
  refine g_metp (by decide) (by simp [lg_sl, Value.category]) ?_
  intro p e s m below meth c h hr hKs
  refine g_lv [(0, .int a0)] [0] rfl ?_
  unfold K4_isLetter
  refine g_iload_n h 0 dX4_isLetter_0 rfl ?_
  refine g_bipush (v := 97) h dX4_isLetter_1 (by decide) ?_
  refine g_icmp_lt h 16 dX4_isLetter_3 (by decide) ?_ ?_
  · refine g_lv [] [] rfl ?_
    exact K4_isLetter_B16_w h hKs hE hkw hX hSt s0  hr
  · refine g_iload_n h 0 dX4_isLetter_6 rfl ?_
    refine g_bipush (v := 122) h dX4_isLetter_7 (by decide) ?_
    refine g_icmp_gt h 16 dX4_isLetter_9 (by decide) ?_ ?_
    · refine g_lv [] [] rfl ?_
      exact K4_isLetter_B16_w h hKs hE hkw hX hSt s0  hr
    · refine g_iconst (v := 1) h dX4_isLetter_12 (by decide) ?_
      refine g_goto h 17 dX4_isLetter_13 (by decide) ?_
      refine g_lv [] [] rfl ?_
      exact K4_isLetter_B17_w h hKs hE hkw hX hSt s0 (1 : Int32) hr
def rm_X4_isDigit : Room := { frames := 0, cells := 0, slots := 0, locals := 0 }
theorem yk_X4_isDigit : yOkS yX4_isDigit cX4_isDigit 1 (some .boolean) 1 := ⟨tW_438, tW_13, tW_437, by decide, by decide, by decide +kernel⟩
def K4_isDigit_B17 (s0 : Km) (t0 : Int32) : Option (Int32) :=
  if okZ t0 = true then some t0 else none
set_option maxHeartbeats 4000000 in
set_option maxRecDepth 100000 in
theorem K4_isDigit_B17_w {p : Program} {l : Launch} {e : Env} {s : State} {m : MethodId} {args : Array Value} {below : List Frame} {meth : Method} {c : Code} {A : Nat → Prop} {Ke : State → Prop} {D : va_G} {cA : Nat → ClassId} {E : State → Heap → Prop} {adS adV adM : Nat → Nat} {adD : Nat} (h : gOk p s m args meth c cX4_isDigit 1 RX4 tb) (hKs : Ke s) (hE : mEok E A) (hkw : gKw Ke) (hX : xSt l Ke E A adM adD) (hSt : sSt Ke A (KW D cA E A) adS adV) (s0 : Km) (t0 : Int32) (hr : meth.sig.returnType = some .boolean)  : gS p l e rm_X4_isDigit s m args below meth c 1 A (KW D cA E A) (fun X => MQ below (gPi (KW D cA E A) A (X, s0)) args s rm_X4_isDigit.cells rm_X4_isDigit.slots A) (0) (0) (K4_isDigit_B17 s0 t0) s0 17 [] [.int t0] := by
  unfold K4_isDigit_B17
  refine g_guard (fun hz => ?_)
  exact g_zretp h (KW_mv hE) hr (Nat.le_of_ble_eq_true rfl) (Nat.le_of_ble_eq_true rfl) hz dX4_isDigit_17
def K4_isDigit_B16 (s0 : Km)  : Option (Int32) :=
  K4_isDigit_B17 s0 (0 : Int32)
set_option maxHeartbeats 4000000 in
set_option maxRecDepth 100000 in
theorem K4_isDigit_B16_w {p : Program} {l : Launch} {e : Env} {s : State} {m : MethodId} {args : Array Value} {below : List Frame} {meth : Method} {c : Code} {A : Nat → Prop} {Ke : State → Prop} {D : va_G} {cA : Nat → ClassId} {E : State → Heap → Prop} {adS adV adM : Nat → Nat} {adD : Nat} (h : gOk p s m args meth c cX4_isDigit 1 RX4 tb) (hKs : Ke s) (hE : mEok E A) (hkw : gKw Ke) (hX : xSt l Ke E A adM adD) (hSt : sSt Ke A (KW D cA E A) adS adV) (s0 : Km)  (hr : meth.sig.returnType = some .boolean)  : gS p l e rm_X4_isDigit s m args below meth c 1 A (KW D cA E A) (fun X => MQ below (gPi (KW D cA E A) A (X, s0)) args s rm_X4_isDigit.cells rm_X4_isDigit.slots A) (0) (0) (K4_isDigit_B16 s0) s0 16 [] [] := by
  unfold K4_isDigit_B16
  refine g_iconst (v := 0) h dX4_isDigit_16 (by decide) ?_
  exact K4_isDigit_B17_w h hKs hE hkw hX hSt s0 (0 : Int32) hr
def K4_isDigit (s0 : Km) (a0 : Int32) : Option (Int32) :=
  if a0 < (48 : Int32) then
    K4_isDigit_B16 s0
  else
    if (57 : Int32) < a0 then
      K4_isDigit_B16 s0
    else
      K4_isDigit_B17 s0 (1 : Int32)
set_option maxHeartbeats 4000000 in
set_option maxRecDepth 100000 in
theorem c_X4_isDigit {l : Launch} {A : Nat → Prop} {Ke : State → Prop} {D : va_G} {cA : Nat → ClassId} {E : State → Heap → Prop} {adS adV adM : Nat → Nat} {adD : Nat} (hE : mEok E A) (hkw : gKw Ke) (hX : xSt l Ke E A adM adD) (hSt : sSt Ke A (KW D cA E A) adS adV) (s0 : Km) (a0 : Int32) : gCp l yX4_isDigit cX4_isDigit 1 (some .boolean) rm_X4_isDigit Ke (KW D cA E A) A [.int a0] s0 (K4_isDigit s0 a0) := by
  refine g_metp (by decide) (by simp [lg_sl, Value.category]) ?_
  intro p e s m below meth c h hr hKs
  refine g_lv [(0, .int a0)] [0] rfl ?_
  unfold K4_isDigit
  refine g_iload_n h 0 dX4_isDigit_0 rfl ?_
  refine g_bipush (v := 48) h dX4_isDigit_1 (by decide) ?_
  refine g_icmp_lt h 16 dX4_isDigit_3 (by decide) ?_ ?_
  · refine g_lv [] [] rfl ?_
    exact K4_isDigit_B16_w h hKs hE hkw hX hSt s0  hr
  · refine g_iload_n h 0 dX4_isDigit_6 rfl ?_
    refine g_bipush (v := 57) h dX4_isDigit_7 (by decide) ?_
    refine g_icmp_gt h 16 dX4_isDigit_9 (by decide) ?_ ?_
    · refine g_lv [] [] rfl ?_
      exact K4_isDigit_B16_w h hKs hE hkw hX hSt s0  hr
    · refine g_iconst (v := 1) h dX4_isDigit_12 (by decide) ?_
      refine g_goto h 17 dX4_isDigit_13 (by decide) ?_
      refine g_lv [] [] rfl ?_
      exact K4_isDigit_B17_w h hKs hE hkw hX hSt s0 (1 : Int32) hr
def rm_X4_next : Room := { frames := 1, cells := 0, slots := 0, locals := 20 }
theorem yk_X4_next : yOkV yX4_next cX4_next 2 (none) RX4 0 := ⟨tW_432, tW_13, tW_431, tP_5, by decide, by decide, by decide +kernel⟩
def K4_next_B47 {Rt : Type} (s0 : Km) (rec : Km → Option Rt) (k60 : Km → Option Rt) (a0 : Nat) : Option (Rt) :=
  if kK s0 a0 = 4 then
  bnd (kSetI s0 a0 3 ((kI s0 a0 3) + (1 : Int32))) (fun s_54 =>
  rec s_54)
  else none
set_option maxHeartbeats 4000000 in
set_option maxRecDepth 100000 in
theorem K4_next_B47_w {p : Program} {l : Launch} {e : Env} {s : State} {m : MethodId} {args : Array Value} {below : List Frame} {meth : Method} {c : Code} {A : Nat → Prop} {Ke : State → Prop} {D : va_G} {cA : Nat → ClassId} {E : State → Heap → Prop} {adS adV adM : Nat → Nat} {adD : Nat} (h : gOk p s m args meth c cX4_next 2 RX4 tb) (hKs : Ke s) (hE : mEok E A) (hkw : gKw Ke) (hX : xSt l Ke E A adM adD) (hSt : sSt Ke A (KW D cA E A) adS adV) {Rt : Type} {QX : Rt → State → Prop} {rec : Km → Option Rt} {k60 : Km → Option Rt} (s0 : Km) (a0 : Nat) (hrec : ∀ (sx : Km), gS p l e rm_X4_next s m args below meth c 2 A (KW D cA E A) QX (0) (0) (rec sx) sx 8 [(0, .ref a0)] []) (hk60 : ∀ (sx : Km), gS p l e rm_X4_next s m args below meth c 2 A (KW D cA E A) QX (0) (0) (k60 sx) sx 60 [(0, .ref a0)] []) : gS p l e rm_X4_next s m args below meth c 2 A (KW D cA E A) QX (0) (0) (K4_next_B47 s0 rec k60 a0) s0 47 [(0, .ref a0)] [] := by
  unfold K4_next_B47
  refine g_aload_n h 0 dX4_next_47 rfl ?_
  refine g_dup h dX4_next_48 rfl ?_
  refine k_kind (fun hk49_0 => ?_)
  refine k_geti h (RX4, TX4, 7) 3 (by decide) rfl hinX4 3 (by decide) rfl tW_404 dX4_next_49 hk49_0 ?_
  refine g_iconst (v := 1) h dX4_next_52 (by decide) ?_
  refine g_iadd h dX4_next_53 ?_
  refine k_puti (x := ((kI s0 a0 3) + (1 : Int32))) h hE (RX4, TX4, 7) 3 (by decide) rfl hinX4 3 (by decide) rfl tyX4 tyX4_ok nmX4 rfl tW_404 rfl rfl dX4_next_54 hk49_0 ?_
  refine g_bndE (fun s_54 hs_54 => ?_)
  refine g_goto h 8 dX4_next_57 (by decide) ?_
  exact hrec s_54
def K4_next_L8 {Rt : Type} (a0 : Nat) (k60 : Km → Option Rt) : Nat → Km → Option Rt
  | 0, _ => none
  | F + 1, s0 =>
  if kK s0 a0 = 4 then
    if kI s0 a0 1 ≤ kI s0 a0 3 then
      k60 s0
    else
      (kR s0 a0 0).bind (fun b20 =>
      if kK s0 b20 = 11 then
      if okI (kI s0 a0 3) (kN s0 b20) = true then
      if kI s0 b20 (kI s0 a0 3).toNatClampNeg = (32 : Int32) then
        K4_next_B47 s0 (K4_next_L8 a0 k60 F) k60 a0
      else
        (kR s0 a0 0).bind (fun b34 =>
        if kK s0 b34 = 11 then
        if okI (kI s0 a0 3) (kN s0 b34) = true then
        if kI s0 b34 (kI s0 a0 3).toNatClampNeg = (10 : Int32) then
          K4_next_B47 s0 (K4_next_L8 a0 k60 F) k60 a0
        else
          k60 s0
        else none
        else none)
      else none
      else none)
    else none
set_option maxHeartbeats 4000000 in
set_option maxRecDepth 100000 in
theorem K4_next_L8_w {p : Program} {l : Launch} {e : Env} {s : State} {m : MethodId} {args : Array Value} {below : List Frame} {meth : Method} {c : Code} {A : Nat → Prop} {Ke : State → Prop} {D : va_G} {cA : Nat → ClassId} {E : State → Heap → Prop} {adS adV adM : Nat → Nat} {adD : Nat} (h : gOk p s m args meth c cX4_next 2 RX4 tb) (hKs : Ke s) (hE : mEok E A) (hkw : gKw Ke) (hX : xSt l Ke E A adM adD) (hSt : sSt Ke A (KW D cA E A) adS adV) {Rt : Type} {QX : Rt → State → Prop} (a0 : Nat) {k60 : Km → Option Rt} (hk60 : ∀ (sx : Km), gS p l e rm_X4_next s m args below meth c 2 A (KW D cA E A) QX (0) (0) (k60 sx) sx 60 [(0, .ref a0)] []) : ∀ (F : Nat), ∀ (s0 : Km), gS p l e rm_X4_next s m args below meth c 2 A (KW D cA E A) QX (0) (0) (K4_next_L8 a0 k60 F s0) s0 8 [(0, .ref a0)] [] := by
  intro F
  induction F with
  | zero =>
    intro s0
    unfold K4_next_L8
    exact g_none
  | succ F ih =>
    intro s0
    unfold K4_next_L8
    refine g_aload_n h 0 dX4_next_8 rfl ?_
    refine k_kind (fun hk9_0 => ?_)
    refine k_geti h (RX4, TX4, 7) 3 (by decide) rfl hinX4 3 (by decide) rfl tW_404 dX4_next_9 hk9_0 ?_
    refine g_aload_n h 0 dX4_next_12 rfl ?_
    refine k_geti h (RX4, TX4, 7) 3 (by decide) rfl hinX4 1 (by decide) rfl tW_402 dX4_next_13 hk9_0 ?_
    refine g_icmp_ge h 60 dX4_next_16 (by decide) ?_ ?_
    · exact hk60 s0
    · refine g_aload_n h 0 dX4_next_19 rfl ?_
      refine k_getr h (RX4, TX4, 7) 3 (by decide) rfl hinX4 0 (by decide) rfl tW_401 dX4_next_20 hk9_0 ?_
      refine g_ob (fun b20 => ?_)
      refine g_aload_n h 0 dX4_next_23 rfl ?_
      refine k_geti h (RX4, TX4, 7) 3 (by decide) rfl hinX4 3 (by decide) rfl tW_404 dX4_next_24 hk9_0 ?_
      refine k_kind (fun hk27_0 => ?_)
      refine k_bald h dX4_next_27 hk27_0 ?_
      refine g_bipush (v := 32) h dX4_next_28 (by decide) ?_
      refine g_icmp_eq h 47 dX4_next_30 (by decide) ?_ ?_
      · exact K4_next_B47_w h hKs hE hkw hX hSt s0 a0 (ih) hk60
      · refine g_aload_n h 0 dX4_next_33 rfl ?_
        refine k_getr h (RX4, TX4, 7) 3 (by decide) rfl hinX4 0 (by decide) rfl tW_401 dX4_next_34 hk9_0 ?_
        refine g_ob (fun b34 => ?_)
        refine g_aload_n h 0 dX4_next_37 rfl ?_
        refine k_geti h (RX4, TX4, 7) 3 (by decide) rfl hinX4 3 (by decide) rfl tW_404 dX4_next_38 hk9_0 ?_
        refine k_kind (fun hk41_0 => ?_)
        refine k_bald h dX4_next_41 hk41_0 ?_
        refine g_bipush (v := 10) h dX4_next_42 (by decide) ?_
        refine g_icmp_ne h 60 dX4_next_44 (by decide) ?_ ?_
        · exact hk60 s0
        · exact K4_next_B47_w h hKs hE hkw hX hSt s0 a0 (ih) hk60
def K4_next_B289 (s0 : Km)  : Option (Km) :=
  some s0
set_option maxHeartbeats 4000000 in
set_option maxRecDepth 100000 in
theorem K4_next_B289_w {p : Program} {l : Launch} {e : Env} {s : State} {m : MethodId} {args : Array Value} {below : List Frame} {meth : Method} {c : Code} {A : Nat → Prop} {Ke : State → Prop} {D : va_G} {cA : Nat → ClassId} {E : State → Heap → Prop} {adS adV adM : Nat → Nat} {adD : Nat} (h : gOk p s m args meth c cX4_next 2 RX4 tb) (hKs : Ke s) (hE : mEok E A) (hkw : gKw Ke) (hX : xSt l Ke E A adM adD) (hSt : sSt Ke A (KW D cA E A) adS adV) (s0 : Km)  (hr : meth.sig.returnType = none)  : gS p l e rm_X4_next s m args below meth c 2 A (KW D cA E A) (fun X => MQ below (gPv (KW D cA E A) A X) args s rm_X4_next.cells rm_X4_next.slots A) (0) (0) (K4_next_B289 s0) s0 289 [] [] := by
  unfold K4_next_B289
  exact g_vret h (KW_mv hE) hr (Nat.le_of_ble_eq_true rfl) (Nat.le_of_ble_eq_true rfl) dX4_next_289
def K4_next_B286 (s0 : Km) (t0 : Int32) (t1 : Nat) : Option (Km) :=
  if kK s0 t1 = 4 then
  bnd (kSetI s0 t1 2 t0) (fun s_286 =>
  K4_next_B289 s_286)
  else none
set_option maxHeartbeats 4000000 in
set_option maxRecDepth 100000 in
theorem K4_next_B286_w {p : Program} {l : Launch} {e : Env} {s : State} {m : MethodId} {args : Array Value} {below : List Frame} {meth : Method} {c : Code} {A : Nat → Prop} {Ke : State → Prop} {D : va_G} {cA : Nat → ClassId} {E : State → Heap → Prop} {adS adV adM : Nat → Nat} {adD : Nat} (h : gOk p s m args meth c cX4_next 2 RX4 tb) (hKs : Ke s) (hE : mEok E A) (hkw : gKw Ke) (hX : xSt l Ke E A adM adD) (hSt : sSt Ke A (KW D cA E A) adS adV) (s0 : Km) (t0 : Int32) (t1 : Nat) (hr : meth.sig.returnType = none)  : gS p l e rm_X4_next s m args below meth c 2 A (KW D cA E A) (fun X => MQ below (gPv (KW D cA E A) A X) args s rm_X4_next.cells rm_X4_next.slots A) (0) (0) (K4_next_B286 s0 t0 t1) s0 286 [] [.int t0, .ref t1] := by
  unfold K4_next_B286
  refine k_kind (fun hk286_0 => ?_)
  refine k_puti (x := t0) h hE (RX4, TX4, 7) 3 (by decide) rfl hinX4 2 (by decide) rfl tyX4 tyX4_ok nmX4 rfl tW_403 rfl rfl dX4_next_286 hk286_0 ?_
  refine g_bndE (fun s_286 hs_286 => ?_)
  exact K4_next_B289_w h hKs hE hkw hX hSt s_286  hr
def K4_next_B275 (s0 : Km) (t0 : Int32) (a0 : Nat) : Option (Km) :=
  if t0 = 0 then
    K4_next_B286 s0 (4 : Int32) a0
  else
    K4_next_B286 s0 (3 : Int32) a0
set_option maxHeartbeats 4000000 in
set_option maxRecDepth 100000 in
theorem K4_next_B275_w {p : Program} {l : Launch} {e : Env} {s : State} {m : MethodId} {args : Array Value} {below : List Frame} {meth : Method} {c : Code} {A : Nat → Prop} {Ke : State → Prop} {D : va_G} {cA : Nat → ClassId} {E : State → Heap → Prop} {adS adV adM : Nat → Nat} {adD : Nat} (h : gOk p s m args meth c cX4_next 2 RX4 tb) (hKs : Ke s) (hE : mEok E A) (hkw : gKw Ke) (hX : xSt l Ke E A adM adD) (hSt : sSt Ke A (KW D cA E A) adS adV) (s0 : Km) (t0 : Int32) (a0 : Nat) (hr : meth.sig.returnType = none)  : gS p l e rm_X4_next s m args below meth c 2 A (KW D cA E A) (fun X => MQ below (gPv (KW D cA E A) A X) args s rm_X4_next.cells rm_X4_next.slots A) (0) (0) (K4_next_B275 s0 t0 a0) s0 275 [(0, .ref a0)] [.int t0] := by
  unfold K4_next_B275
  refine g_istore_n h [(1, .int t0), (0, .ref a0)] dX4_next_275 (by decide) rfl ?_
  refine g_aload_n h 1 dX4_next_276 rfl ?_
  refine g_iload_n h 0 dX4_next_277 rfl ?_
  refine g_if_eq h 285 dX4_next_278 (by decide) ?_ ?_
  · refine g_iconst (v := 4) h dX4_next_285 (by decide) ?_
    refine g_lv [] [] rfl ?_
    exact K4_next_B286_w h hKs hE hkw hX hSt s0 (4 : Int32) a0 hr
  · refine g_iconst (v := 3) h dX4_next_281 (by decide) ?_
    refine g_goto h 286 dX4_next_282 (by decide) ?_
    refine g_lv [] [] rfl ?_
    exact K4_next_B286_w h hKs hE hkw hX hSt s0 (3 : Int32) a0 hr
def K4_next_B270 (s0 : Km) (a0 : Nat) : Option (Km) :=
  K4_next_B275 s0 (1 : Int32) a0
set_option maxHeartbeats 4000000 in
set_option maxRecDepth 100000 in
theorem K4_next_B270_w {p : Program} {l : Launch} {e : Env} {s : State} {m : MethodId} {args : Array Value} {below : List Frame} {meth : Method} {c : Code} {A : Nat → Prop} {Ke : State → Prop} {D : va_G} {cA : Nat → ClassId} {E : State → Heap → Prop} {adS adV adM : Nat → Nat} {adD : Nat} (h : gOk p s m args meth c cX4_next 2 RX4 tb) (hKs : Ke s) (hE : mEok E A) (hkw : gKw Ke) (hX : xSt l Ke E A adM adD) (hSt : sSt Ke A (KW D cA E A) adS adV) (s0 : Km) (a0 : Nat) (hr : meth.sig.returnType = none)  : gS p l e rm_X4_next s m args below meth c 2 A (KW D cA E A) (fun X => MQ below (gPv (KW D cA E A) A X) args s rm_X4_next.cells rm_X4_next.slots A) (0) (0) (K4_next_B270 s0 a0) s0 270 [(0, .ref a0)] [] := by
  unfold K4_next_B270
  refine g_iconst (v := 1) h dX4_next_270 (by decide) ?_
  refine g_goto h 275 dX4_next_271 (by decide) ?_
  exact K4_next_B275_w h hKs hE hkw hX hSt s0 (1 : Int32) a0 hr
def K4_next_L189 {Rt : Type} (a0 : Nat) (k289 : Km → Option Rt) : Nat → Km → Option Rt
  | 0, _ => none
  | F + 1, s0 =>
  if kK s0 a0 = 4 then
    if kI s0 a0 1 ≤ kI s0 a0 4 then
      k289 s0
    else
      (kR s0 a0 0).bind (fun b201 =>
      if kK s0 b201 = 11 then
      if okI (kI s0 a0 4) (kN s0 b201) = true then
      (K4_isDigit s0 (kI s0 b201 (kI s0 a0 4).toNatClampNeg)).bind (fun r_209 =>
      if r_209 = 0 then
        k289 s0
      else
        bnd (kSetI s0 a0 4 ((kI s0 a0 4) + (1 : Int32))) (fun s_222 =>
        K4_next_L189 a0 k289 F s_222))
      else none
      else none)
    else none
set_option maxHeartbeats 4000000 in
set_option maxRecDepth 100000 in
theorem K4_next_L189_w {p : Program} {l : Launch} {e : Env} {s : State} {m : MethodId} {args : Array Value} {below : List Frame} {meth : Method} {c : Code} {A : Nat → Prop} {Ke : State → Prop} {D : va_G} {cA : Nat → ClassId} {E : State → Heap → Prop} {adS adV adM : Nat → Nat} {adD : Nat} (h : gOk p s m args meth c cX4_next 2 RX4 tb) (hKs : Ke s) (hE : mEok E A) (hkw : gKw Ke) (hX : xSt l Ke E A adM adD) (hSt : sSt Ke A (KW D cA E A) adS adV) {Rt : Type} {QX : Rt → State → Prop} (a0 : Nat) {k289 : Km → Option Rt} (hk289 : ∀ (sx : Km), gS p l e rm_X4_next s m args below meth c 2 A (KW D cA E A) QX (0) (0) (k289 sx) sx 289 [] []) : ∀ (F : Nat), ∀ (s0 : Km), gS p l e rm_X4_next s m args below meth c 2 A (KW D cA E A) QX (0) (0) (K4_next_L189 a0 k289 F s0) s0 189 [(0, .ref a0)] [] := by
  intro F
  induction F with
  | zero =>
    intro s0
    unfold K4_next_L189
    exact g_none
  | succ F ih =>
    intro s0
    unfold K4_next_L189
    refine g_aload_n h 0 dX4_next_189 rfl ?_
    refine k_kind (fun hk190_0 => ?_)
    refine k_geti h (RX4, TX4, 7) 3 (by decide) rfl hinX4 4 (by decide) rfl tW_405 dX4_next_190 hk190_0 ?_
    refine g_aload_n h 0 dX4_next_193 rfl ?_
    refine k_geti h (RX4, TX4, 7) 3 (by decide) rfl hinX4 1 (by decide) rfl tW_402 dX4_next_194 hk190_0 ?_
    refine g_icmp_ge h 289 dX4_next_197 (by decide) ?_ ?_
    · refine g_lv [] [] rfl ?_
      exact hk289 s0
    · refine g_aload_n h 0 dX4_next_200 rfl ?_
      refine k_getr h (RX4, TX4, 7) 3 (by decide) rfl hinX4 0 (by decide) rfl tW_401 dX4_next_201 hk190_0 ?_
      refine g_ob (fun b201 => ?_)
      refine g_aload_n h 0 dX4_next_204 rfl ?_
      refine k_geti h (RX4, TX4, 7) 3 (by decide) rfl hinX4 4 (by decide) rfl tW_405 dX4_next_205 hk190_0 ?_
      refine k_kind (fun hk208_0 => ?_)
      refine k_bald h dX4_next_208 hk208_0 ?_
      refine g_callS0p h (KW_mv hE) hkw hKs [.int (kI s0 b201 (kI s0 a0 4).toNatClampNeg)] (c_X4_isDigit hE hkw hX hSt s0 (kI s0 b201 (kI s0 a0 4).toNatClampNeg)) yk_X4_isDigit tW_436 ⟨(Nat.le_of_ble_eq_true rfl), (Nat.le_of_ble_eq_true rfl)⟩ rfl rfl rfl rfl (Nat.le_of_ble_eq_true rfl) dX4_next_209 ⟨(Nat.le_of_ble_eq_true rfl), (Nat.le_of_ble_eq_true rfl)⟩ (fun r_209 => ?_)
      refine g_if_eq h 289 dX4_next_212 (by decide) ?_ ?_
      · refine g_lv [] [] rfl ?_
        exact hk289 s0
      · refine g_aload_n h 0 dX4_next_215 rfl ?_
        refine g_dup h dX4_next_216 rfl ?_
        refine k_geti h (RX4, TX4, 7) 3 (by decide) rfl hinX4 4 (by decide) rfl tW_405 dX4_next_217 hk190_0 ?_
        refine g_iconst (v := 1) h dX4_next_220 (by decide) ?_
        refine g_iadd h dX4_next_221 ?_
        refine k_puti (x := ((kI s0 a0 4) + (1 : Int32))) h hE (RX4, TX4, 7) 3 (by decide) rfl hinX4 4 (by decide) rfl tyX4 tyX4_ok nmX4 rfl tW_405 rfl rfl dX4_next_222 hk190_0 ?_
        refine g_bndE (fun s_222 hs_222 => ?_)
        refine g_goto h 189 dX4_next_225 (by decide) ?_
        exact ih s_222
def K4_next_B156 {Rt : Type} (s0 : Km) (rec : Km → Option Rt) (k289 : Km → Option Rt) (a0 : Nat) : Option (Rt) :=
  if kK s0 a0 = 4 then
  bnd (kSetI s0 a0 4 ((kI s0 a0 4) + (1 : Int32))) (fun s_163 =>
  rec s_163)
  else none
set_option maxHeartbeats 4000000 in
set_option maxRecDepth 100000 in
theorem K4_next_B156_w {p : Program} {l : Launch} {e : Env} {s : State} {m : MethodId} {args : Array Value} {below : List Frame} {meth : Method} {c : Code} {A : Nat → Prop} {Ke : State → Prop} {D : va_G} {cA : Nat → ClassId} {E : State → Heap → Prop} {adS adV adM : Nat → Nat} {adD : Nat} (h : gOk p s m args meth c cX4_next 2 RX4 tb) (hKs : Ke s) (hE : mEok E A) (hkw : gKw Ke) (hX : xSt l Ke E A adM adD) (hSt : sSt Ke A (KW D cA E A) adS adV) {Rt : Type} {QX : Rt → State → Prop} {rec : Km → Option Rt} {k289 : Km → Option Rt} (s0 : Km) (a0 : Nat) (hrec : ∀ (sx : Km), gS p l e rm_X4_next s m args below meth c 2 A (KW D cA E A) QX (0) (0) (rec sx) sx 115 [(0, .ref a0)] []) (hk289 : ∀ (sx : Km), gS p l e rm_X4_next s m args below meth c 2 A (KW D cA E A) QX (0) (0) (k289 sx) sx 289 [] []) : gS p l e rm_X4_next s m args below meth c 2 A (KW D cA E A) QX (0) (0) (K4_next_B156 s0 rec k289 a0) s0 156 [(0, .ref a0)] [] := by
  unfold K4_next_B156
  refine g_aload_n h 0 dX4_next_156 rfl ?_
  refine g_dup h dX4_next_157 rfl ?_
  refine k_kind (fun hk158_0 => ?_)
  refine k_geti h (RX4, TX4, 7) 3 (by decide) rfl hinX4 4 (by decide) rfl tW_405 dX4_next_158 hk158_0 ?_
  refine g_iconst (v := 1) h dX4_next_161 (by decide) ?_
  refine g_iadd h dX4_next_162 ?_
  refine k_puti (x := ((kI s0 a0 4) + (1 : Int32))) h hE (RX4, TX4, 7) 3 (by decide) rfl hinX4 4 (by decide) rfl tyX4 tyX4_ok nmX4 rfl tW_405 rfl rfl dX4_next_163 hk158_0 ?_
  refine g_bndE (fun s_163 hs_163 => ?_)
  refine g_goto h 115 dX4_next_166 (by decide) ?_
  exact hrec s_163
def K4_next_L115 {Rt : Type} (a0 : Nat) (k289 : Km → Option Rt) : Nat → Km → Option Rt
  | 0, _ => none
  | F + 1, s0 =>
  if kK s0 a0 = 4 then
    if kI s0 a0 1 ≤ kI s0 a0 4 then
      k289 s0
    else
      (kR s0 a0 0).bind (fun b127 =>
      if kK s0 b127 = 11 then
      if okI (kI s0 a0 4) (kN s0 b127) = true then
      (K4_isLetter s0 (kI s0 b127 (kI s0 a0 4).toNatClampNeg)).bind (fun r_135 =>
      if r_135 = 0 then
        (kR s0 a0 0).bind (fun b142 =>
        if kK s0 b142 = 11 then
        if okI (kI s0 a0 4) (kN s0 b142) = true then
        (K4_isDigit s0 (kI s0 b142 (kI s0 a0 4).toNatClampNeg)).bind (fun r_150 =>
        if r_150 = 0 then
          k289 s0
        else
          K4_next_B156 s0 (K4_next_L115 a0 k289 F) k289 a0)
        else none
        else none)
      else
        K4_next_B156 s0 (K4_next_L115 a0 k289 F) k289 a0)
      else none
      else none)
    else none
set_option maxHeartbeats 4000000 in
set_option maxRecDepth 100000 in
theorem K4_next_L115_w {p : Program} {l : Launch} {e : Env} {s : State} {m : MethodId} {args : Array Value} {below : List Frame} {meth : Method} {c : Code} {A : Nat → Prop} {Ke : State → Prop} {D : va_G} {cA : Nat → ClassId} {E : State → Heap → Prop} {adS adV adM : Nat → Nat} {adD : Nat} (h : gOk p s m args meth c cX4_next 2 RX4 tb) (hKs : Ke s) (hE : mEok E A) (hkw : gKw Ke) (hX : xSt l Ke E A adM adD) (hSt : sSt Ke A (KW D cA E A) adS adV) {Rt : Type} {QX : Rt → State → Prop} (a0 : Nat) {k289 : Km → Option Rt} (hk289 : ∀ (sx : Km), gS p l e rm_X4_next s m args below meth c 2 A (KW D cA E A) QX (0) (0) (k289 sx) sx 289 [] []) : ∀ (F : Nat), ∀ (s0 : Km), gS p l e rm_X4_next s m args below meth c 2 A (KW D cA E A) QX (0) (0) (K4_next_L115 a0 k289 F s0) s0 115 [(0, .ref a0)] [] := by
  intro F
  induction F with
  | zero =>
    intro s0
    unfold K4_next_L115
    exact g_none
  | succ F ih =>
    intro s0
    unfold K4_next_L115
    refine g_aload_n h 0 dX4_next_115 rfl ?_
    refine k_kind (fun hk116_0 => ?_)
    refine k_geti h (RX4, TX4, 7) 3 (by decide) rfl hinX4 4 (by decide) rfl tW_405 dX4_next_116 hk116_0 ?_
    refine g_aload_n h 0 dX4_next_119 rfl ?_
    refine k_geti h (RX4, TX4, 7) 3 (by decide) rfl hinX4 1 (by decide) rfl tW_402 dX4_next_120 hk116_0 ?_
    refine g_icmp_ge h 289 dX4_next_123 (by decide) ?_ ?_
    · refine g_lv [] [] rfl ?_
      exact hk289 s0
    · refine g_aload_n h 0 dX4_next_126 rfl ?_
      refine k_getr h (RX4, TX4, 7) 3 (by decide) rfl hinX4 0 (by decide) rfl tW_401 dX4_next_127 hk116_0 ?_
      refine g_ob (fun b127 => ?_)
      refine g_aload_n h 0 dX4_next_130 rfl ?_
      refine k_geti h (RX4, TX4, 7) 3 (by decide) rfl hinX4 4 (by decide) rfl tW_405 dX4_next_131 hk116_0 ?_
      refine k_kind (fun hk134_0 => ?_)
      refine k_bald h dX4_next_134 hk134_0 ?_
      refine g_callS0p h (KW_mv hE) hkw hKs [.int (kI s0 b127 (kI s0 a0 4).toNatClampNeg)] (c_X4_isLetter hE hkw hX hSt s0 (kI s0 b127 (kI s0 a0 4).toNatClampNeg)) yk_X4_isLetter tW_433 ⟨(Nat.le_of_ble_eq_true rfl), (Nat.le_of_ble_eq_true rfl)⟩ rfl rfl rfl rfl (Nat.le_of_ble_eq_true rfl) dX4_next_135 ⟨(Nat.le_of_ble_eq_true rfl), (Nat.le_of_ble_eq_true rfl)⟩ (fun r_135 => ?_)
      refine g_if_ne h 156 dX4_next_138 (by decide) ?_ ?_
      · exact K4_next_B156_w h hKs hE hkw hX hSt s0 a0 (ih) hk289
      · refine g_aload_n h 0 dX4_next_141 rfl ?_
        refine k_getr h (RX4, TX4, 7) 3 (by decide) rfl hinX4 0 (by decide) rfl tW_401 dX4_next_142 hk116_0 ?_
        refine g_ob (fun b142 => ?_)
        refine g_aload_n h 0 dX4_next_145 rfl ?_
        refine k_geti h (RX4, TX4, 7) 3 (by decide) rfl hinX4 4 (by decide) rfl tW_405 dX4_next_146 hk116_0 ?_
        refine k_kind (fun hk149_0 => ?_)
        refine k_bald h dX4_next_149 hk149_0 ?_
        refine g_callS0p h (KW_mv hE) hkw hKs [.int (kI s0 b142 (kI s0 a0 4).toNatClampNeg)] (c_X4_isDigit hE hkw hX hSt s0 (kI s0 b142 (kI s0 a0 4).toNatClampNeg)) yk_X4_isDigit tW_436 ⟨(Nat.le_of_ble_eq_true rfl), (Nat.le_of_ble_eq_true rfl)⟩ rfl rfl rfl rfl (Nat.le_of_ble_eq_true rfl) dX4_next_150 ⟨(Nat.le_of_ble_eq_true rfl), (Nat.le_of_ble_eq_true rfl)⟩ (fun r_150 => ?_)
        refine g_if_eq h 289 dX4_next_153 (by decide) ?_ ?_
        · refine g_lv [] [] rfl ?_
          exact hk289 s0
        · exact K4_next_B156_w h hKs hE hkw hX hSt s0 a0 (ih) hk289
def K4_next_B60 (s0 : Km) (a0 : Nat) : Option (Km) :=
  if kK s0 a0 = 4 then
  bnd (kSetI s0 a0 4 (kI s0 a0 3)) (fun s_65 =>
  if kI s_65 a0 3 < kI s_65 a0 1 then
    bnd (kSetI s_65 a0 4 ((kI s_65 a0 4) + (1 : Int32))) (fun s_92 =>
    (kR s_92 a0 0).bind (fun b96 =>
    if kK s_92 b96 = 11 then
    if okI (kI s_92 a0 3) (kN s_92 b96) = true then
    (K4_isLetter s_92 (kI s_92 b96 (kI s_92 a0 3).toNatClampNeg)).bind (fun r_104 =>
    if r_104 = 0 then
      (kR s_92 a0 0).bind (fun b170 =>
      if kK s_92 b170 = 11 then
      if okI (kI s_92 a0 3) (kN s_92 b170) = true then
      (K4_isDigit s_92 (kI s_92 b170 (kI s_92 a0 3).toNatClampNeg)).bind (fun r_178 =>
      if r_178 = 0 then
        (kR s_92 a0 0).bind (fun b229 =>
        if kK s_92 b229 = 11 then
        if okI (kI s_92 a0 3) (kN s_92 b229) = true then
        if kI s_92 b229 (kI s_92 a0 3).toNatClampNeg = (59 : Int32) then
          K4_next_B270 s_92 a0
        else
          (kR s_92 a0 0).bind (fun b243 =>
          if kK s_92 b243 = 11 then
          if okI (kI s_92 a0 3) (kN s_92 b243) = true then
          if kI s_92 b243 (kI s_92 a0 3).toNatClampNeg = (61 : Int32) then
            K4_next_B270 s_92 a0
          else
            (kR s_92 a0 0).bind (fun b257 =>
            if kK s_92 b257 = 11 then
            if okI (kI s_92 a0 3) (kN s_92 b257) = true then
            if kI s_92 b257 (kI s_92 a0 3).toNatClampNeg = (60 : Int32) then
              K4_next_B270 s_92 a0
            else
              K4_next_B275 s_92 (0 : Int32) a0
            else none
            else none)
          else none
          else none)
        else none
        else none)
      else
        bnd (kSetI s_92 a0 2 (2 : Int32)) (fun s_186 =>
        K4_next_L189 a0 (fun s_289 => K4_next_B289 s_289) gF s_186))
      else none
      else none)
    else
      bnd (kSetI s_92 a0 2 (1 : Int32)) (fun s_112 =>
      K4_next_L115 a0 (fun s_289 => K4_next_B289 s_289) gF s_112))
    else none
    else none))
  else
    bnd (kSetI s_65 a0 2 (0 : Int32)) (fun s_81 =>
    some s_81))
  else none
set_option maxHeartbeats 4000000 in
set_option maxRecDepth 100000 in
theorem K4_next_B60_w {p : Program} {l : Launch} {e : Env} {s : State} {m : MethodId} {args : Array Value} {below : List Frame} {meth : Method} {c : Code} {A : Nat → Prop} {Ke : State → Prop} {D : va_G} {cA : Nat → ClassId} {E : State → Heap → Prop} {adS adV adM : Nat → Nat} {adD : Nat} (h : gOk p s m args meth c cX4_next 2 RX4 tb) (hKs : Ke s) (hE : mEok E A) (hkw : gKw Ke) (hX : xSt l Ke E A adM adD) (hSt : sSt Ke A (KW D cA E A) adS adV) (s0 : Km) (a0 : Nat) (hr : meth.sig.returnType = none)  : gS p l e rm_X4_next s m args below meth c 2 A (KW D cA E A) (fun X => MQ below (gPv (KW D cA E A) A X) args s rm_X4_next.cells rm_X4_next.slots A) (0) (0) (K4_next_B60 s0 a0) s0 60 [(0, .ref a0)] [] := by
  unfold K4_next_B60
  refine g_aload_n h 0 dX4_next_60 rfl ?_
  refine g_aload_n h 0 dX4_next_61 rfl ?_
  refine k_kind (fun hk62_0 => ?_)
  refine k_geti h (RX4, TX4, 7) 3 (by decide) rfl hinX4 3 (by decide) rfl tW_404 dX4_next_62 hk62_0 ?_
  refine k_puti (x := (kI s0 a0 3)) h hE (RX4, TX4, 7) 3 (by decide) rfl hinX4 4 (by decide) rfl tyX4 tyX4_ok nmX4 rfl tW_405 rfl rfl dX4_next_65 hk62_0 ?_
  refine g_bndE (fun s_65 hs_65 => ?_)
  refine g_aload_n h 0 dX4_next_68 rfl ?_
  refine k_geti h (RX4, TX4, 7) 3 (by decide) rfl hinX4 3 (by decide) rfl tW_404 dX4_next_69 (kKsI hs_65 hk62_0) ?_
  refine g_aload_n h 0 dX4_next_72 rfl ?_
  refine k_geti h (RX4, TX4, 7) 3 (by decide) rfl hinX4 1 (by decide) rfl tW_402 dX4_next_73 (kKsI hs_65 hk62_0) ?_
  refine g_icmp_lt h 85 dX4_next_76 (by decide) ?_ ?_
  · refine g_aload_n h 0 dX4_next_85 rfl ?_
    refine g_dup h dX4_next_86 rfl ?_
    refine k_geti h (RX4, TX4, 7) 3 (by decide) rfl hinX4 4 (by decide) rfl tW_405 dX4_next_87 (kKsI hs_65 hk62_0) ?_
    refine g_iconst (v := 1) h dX4_next_90 (by decide) ?_
    refine g_iadd h dX4_next_91 ?_
    refine k_puti (x := ((kI s_65 a0 4) + (1 : Int32))) h hE (RX4, TX4, 7) 3 (by decide) rfl hinX4 4 (by decide) rfl tyX4 tyX4_ok nmX4 rfl tW_405 rfl rfl dX4_next_92 (kKsI hs_65 hk62_0) ?_
    refine g_bndE (fun s_92 hs_92 => ?_)
    refine g_aload_n h 0 dX4_next_95 rfl ?_
    refine k_getr h (RX4, TX4, 7) 3 (by decide) rfl hinX4 0 (by decide) rfl tW_401 dX4_next_96 (kKsI hs_92 (kKsI hs_65 hk62_0)) ?_
    refine g_ob (fun b96 => ?_)
    refine g_aload_n h 0 dX4_next_99 rfl ?_
    refine k_geti h (RX4, TX4, 7) 3 (by decide) rfl hinX4 3 (by decide) rfl tW_404 dX4_next_100 (kKsI hs_92 (kKsI hs_65 hk62_0)) ?_
    refine k_kind (fun hk103_0 => ?_)
    refine k_bald h dX4_next_103 hk103_0 ?_
    refine g_callS0p h (KW_mv hE) hkw hKs [.int (kI s_92 b96 (kI s_92 a0 3).toNatClampNeg)] (c_X4_isLetter hE hkw hX hSt s_92 (kI s_92 b96 (kI s_92 a0 3).toNatClampNeg)) yk_X4_isLetter tW_433 ⟨(Nat.le_of_ble_eq_true rfl), (Nat.le_of_ble_eq_true rfl)⟩ rfl rfl rfl rfl (Nat.le_of_ble_eq_true rfl) dX4_next_104 ⟨(Nat.le_of_ble_eq_true rfl), (Nat.le_of_ble_eq_true rfl)⟩ (fun r_104 => ?_)
    refine g_if_eq h 169 dX4_next_107 (by decide) ?_ ?_
    · refine g_aload_n h 0 dX4_next_169 rfl ?_
      refine k_getr h (RX4, TX4, 7) 3 (by decide) rfl hinX4 0 (by decide) rfl tW_401 dX4_next_170 (kKsI hs_92 (kKsI hs_65 hk62_0)) ?_
      refine g_ob (fun b170 => ?_)
      refine g_aload_n h 0 dX4_next_173 rfl ?_
      refine k_geti h (RX4, TX4, 7) 3 (by decide) rfl hinX4 3 (by decide) rfl tW_404 dX4_next_174 (kKsI hs_92 (kKsI hs_65 hk62_0)) ?_
      refine k_kind (fun hk177_0 => ?_)
      refine k_bald h dX4_next_177 hk177_0 ?_
      refine g_callS0p h (KW_mv hE) hkw hKs [.int (kI s_92 b170 (kI s_92 a0 3).toNatClampNeg)] (c_X4_isDigit hE hkw hX hSt s_92 (kI s_92 b170 (kI s_92 a0 3).toNatClampNeg)) yk_X4_isDigit tW_436 ⟨(Nat.le_of_ble_eq_true rfl), (Nat.le_of_ble_eq_true rfl)⟩ rfl rfl rfl rfl (Nat.le_of_ble_eq_true rfl) dX4_next_178 ⟨(Nat.le_of_ble_eq_true rfl), (Nat.le_of_ble_eq_true rfl)⟩ (fun r_178 => ?_)
      refine g_if_eq h 228 dX4_next_181 (by decide) ?_ ?_
      · refine g_aload_n h 0 dX4_next_228 rfl ?_
        refine k_getr h (RX4, TX4, 7) 3 (by decide) rfl hinX4 0 (by decide) rfl tW_401 dX4_next_229 (kKsI hs_92 (kKsI hs_65 hk62_0)) ?_
        refine g_ob (fun b229 => ?_)
        refine g_aload_n h 0 dX4_next_232 rfl ?_
        refine k_geti h (RX4, TX4, 7) 3 (by decide) rfl hinX4 3 (by decide) rfl tW_404 dX4_next_233 (kKsI hs_92 (kKsI hs_65 hk62_0)) ?_
        refine k_kind (fun hk236_0 => ?_)
        refine k_bald h dX4_next_236 hk236_0 ?_
        refine g_bipush (v := 59) h dX4_next_237 (by decide) ?_
        refine g_icmp_eq h 270 dX4_next_239 (by decide) ?_ ?_
        · exact K4_next_B270_w h hKs hE hkw hX hSt s_92 a0 hr
        · refine g_aload_n h 0 dX4_next_242 rfl ?_
          refine k_getr h (RX4, TX4, 7) 3 (by decide) rfl hinX4 0 (by decide) rfl tW_401 dX4_next_243 (kKsI hs_92 (kKsI hs_65 hk62_0)) ?_
          refine g_ob (fun b243 => ?_)
          refine g_aload_n h 0 dX4_next_246 rfl ?_
          refine k_geti h (RX4, TX4, 7) 3 (by decide) rfl hinX4 3 (by decide) rfl tW_404 dX4_next_247 (kKsI hs_92 (kKsI hs_65 hk62_0)) ?_
          refine k_kind (fun hk250_0 => ?_)
          refine k_bald h dX4_next_250 hk250_0 ?_
          refine g_bipush (v := 61) h dX4_next_251 (by decide) ?_
          refine g_icmp_eq h 270 dX4_next_253 (by decide) ?_ ?_
          · exact K4_next_B270_w h hKs hE hkw hX hSt s_92 a0 hr
          · refine g_aload_n h 0 dX4_next_256 rfl ?_
            refine k_getr h (RX4, TX4, 7) 3 (by decide) rfl hinX4 0 (by decide) rfl tW_401 dX4_next_257 (kKsI hs_92 (kKsI hs_65 hk62_0)) ?_
            refine g_ob (fun b257 => ?_)
            refine g_aload_n h 0 dX4_next_260 rfl ?_
            refine k_geti h (RX4, TX4, 7) 3 (by decide) rfl hinX4 3 (by decide) rfl tW_404 dX4_next_261 (kKsI hs_92 (kKsI hs_65 hk62_0)) ?_
            refine k_kind (fun hk264_0 => ?_)
            refine k_bald h dX4_next_264 hk264_0 ?_
            refine g_bipush (v := 60) h dX4_next_265 (by decide) ?_
            refine g_icmp_ne h 274 dX4_next_267 (by decide) ?_ ?_
            · refine g_iconst (v := 0) h dX4_next_274 (by decide) ?_
              exact K4_next_B275_w h hKs hE hkw hX hSt s_92 (0 : Int32) a0 hr
            · exact K4_next_B270_w h hKs hE hkw hX hSt s_92 a0 hr
      · refine g_aload_n h 0 dX4_next_184 rfl ?_
        refine g_iconst (v := 2) h dX4_next_185 (by decide) ?_
        refine k_puti (x := (2 : Int32)) h hE (RX4, TX4, 7) 3 (by decide) rfl hinX4 2 (by decide) rfl tyX4 tyX4_ok nmX4 rfl tW_403 rfl rfl dX4_next_186 (kKsI hs_92 (kKsI hs_65 hk62_0)) ?_
        refine g_bndE (fun s_186 hs_186 => ?_)
        refine K4_next_L189_w h hKs hE hkw hX hSt a0 (fun s_289 => ?_) gF s_186
        · exact K4_next_B289_w h hKs hE hkw hX hSt s_289  hr
    · refine g_aload_n h 0 dX4_next_110 rfl ?_
      refine g_iconst (v := 1) h dX4_next_111 (by decide) ?_
      refine k_puti (x := (1 : Int32)) h hE (RX4, TX4, 7) 3 (by decide) rfl hinX4 2 (by decide) rfl tyX4 tyX4_ok nmX4 rfl tW_403 rfl rfl dX4_next_112 (kKsI hs_92 (kKsI hs_65 hk62_0)) ?_
      refine g_bndE (fun s_112 hs_112 => ?_)
      refine K4_next_L115_w h hKs hE hkw hX hSt a0 (fun s_289 => ?_) gF s_112
      · exact K4_next_B289_w h hKs hE hkw hX hSt s_289  hr
  · refine g_aload_n h 0 dX4_next_79 rfl ?_
    refine g_iconst (v := 0) h dX4_next_80 (by decide) ?_
    refine k_puti (x := (0 : Int32)) h hE (RX4, TX4, 7) 3 (by decide) rfl hinX4 2 (by decide) rfl tyX4 tyX4_ok nmX4 rfl tW_403 rfl rfl dX4_next_81 (kKsI hs_65 hk62_0) ?_
    refine g_bndE (fun s_81 hs_81 => ?_)
    exact g_vret h (KW_mv hE) hr (Nat.le_of_ble_eq_true rfl) (Nat.le_of_ble_eq_true rfl) dX4_next_84
def K4_next (s0 : Km) (a0 : Nat) : Option (Km) :=
  if kK s0 a0 = 4 then
  bnd (kSetI s0 a0 3 (kI s0 a0 4)) (fun s_5 =>
  K4_next_L8 a0 (fun s_60 => K4_next_B60 s_60 a0) gF s_5)
  else none
set_option maxHeartbeats 4000000 in
set_option maxRecDepth 100000 in
theorem c_X4_next {l : Launch} {A : Nat → Prop} {Ke : State → Prop} {D : va_G} {cA : Nat → ClassId} {E : State → Heap → Prop} {adS adV adM : Nat → Nat} {adD : Nat} (hE : mEok E A) (hkw : gKw Ke) (hX : xSt l Ke E A adM adD) (hSt : sSt Ke A (KW D cA E A) adS adV) (s0 : Km) (a0 : Nat) : gCv l yX4_next cX4_next 2 (none) rm_X4_next Ke (KW D cA E A) A [.ref a0] s0 (K4_next s0 a0) := by
  refine g_metv (by decide) (by simp [lg_sl, Value.category]) ?_
  intro p e s m below meth c h hr hKs
  refine g_lv [(0, .ref a0)] [0] rfl ?_
  unfold K4_next
  refine g_aload_n h 0 dX4_next_0 rfl ?_
  refine g_aload_n h 0 dX4_next_1 rfl ?_
  refine k_kind (fun hk2_0 => ?_)
  refine k_geti h (RX4, TX4, 7) 3 (by decide) rfl hinX4 4 (by decide) rfl tW_405 dX4_next_2 hk2_0 ?_
  refine k_puti (x := (kI s0 a0 4)) h hE (RX4, TX4, 7) 3 (by decide) rfl hinX4 3 (by decide) rfl tyX4 tyX4_ok nmX4 rfl tW_404 rfl rfl dX4_next_5 hk2_0 ?_
  refine g_bndE (fun s_5 hs_5 => ?_)
  refine K4_next_L8_w h hKs hE hkw hX hSt a0 (fun s_60 => ?_) gF s_5
  · exact K4_next_B60_w h hKs hE hkw hX hSt s_60 a0 hr
def rm_X4_isWord : Room := { frames := 4, cells := 0, slots := 0, locals := 85 }
theorem yk_X4_isWord : yOkV yX4_isWord cX4_isWord 3 (some .boolean) RX4 1 := ⟨tW_451, tW_13, tW_450, tP_8, by decide, by decide, by decide +kernel⟩
def K4_isWord_B24 (w1 : List Int32) (s0 : Km)  : Option (Int32) :=
  some (0 : Int32)
set_option maxHeartbeats 4000000 in
set_option maxRecDepth 100000 in
theorem K4_isWord_B24_w {p : Program} {l : Launch} {e : Env} {s : State} {m : MethodId} {args : Array Value} {below : List Frame} {meth : Method} {c : Code} {A : Nat → Prop} {Ke : State → Prop} {D : va_G} {cA : Nat → ClassId} {E : State → Heap → Prop} {adS adV adM : Nat → Nat} {adD : Nat} {q1 v1 : Nat} {w1 : List Int32} (h : gOk p s m args meth c cX4_isWord 3 RX4 tb) (hKs : Ke s) (hE : mEok E A) (hkw : gKw Ke) (hX : xSt l Ke E A adM adD) (hSt : sSt Ke A (KW D cA E A) adS adV) (hs1 : sIs A (KW D cA E A) q1 v1 w1) (hl1 : w1.length < 2 ^ 31) (s0 : Km)  (hr : meth.sig.returnType = some .boolean)  : gS p l e rm_X4_isWord s m args below meth c 3 A (KW D cA E A) (fun X => MQ below (gPi (KW D cA E A) A (X, s0)) args s rm_X4_isWord.cells rm_X4_isWord.slots A) (0) (0) (K4_isWord_B24 w1 s0) s0 24 [] [] := by
  unfold K4_isWord_B24
  refine g_iconst (v := 0) h dX4_isWord_24 (by decide) ?_
  exact g_zretp h (KW_mv hE) hr (Nat.le_of_ble_eq_true rfl) (Nat.le_of_ble_eq_true rfl) (by decide) dX4_isWord_25
def K4_isWord_L28 {Rt : Type} (w1 : List Int32) (s0 : Km) (a0 : Nat) (k55 : Option Rt) (k63 : Option Rt) : Nat → Int32 → Option Rt
  | 0, _ => none
  | F + 1, l2 =>
  (some (nI w1.length)).bind (fun r_30 =>
    if r_30 ≤ l2 then
      k63
    else
      if kK s0 a0 = 4 then
      (kR s0 a0 0).bind (fun b37 =>
      if kK s0 b37 = 11 then
      if okI ((kI s0 a0 3) + l2) (kN s0 b37) = true then
      if okI l2 w1.length = true then
      (some (w1.getD l2.toNatClampNeg 0 &&& 255)).bind (fun r_49 =>
      if kI s0 b37 ((kI s0 a0 3) + l2).toNatClampNeg = r_49 then
        K4_isWord_L28 w1 s0 a0 k55 k63 F (l2 + 1)
      else
        k55)
      else none
      else none
      else none)
      else none)
set_option maxHeartbeats 4000000 in
set_option maxRecDepth 100000 in
theorem K4_isWord_L28_w {p : Program} {l : Launch} {e : Env} {s : State} {m : MethodId} {args : Array Value} {below : List Frame} {meth : Method} {c : Code} {A : Nat → Prop} {Ke : State → Prop} {D : va_G} {cA : Nat → ClassId} {E : State → Heap → Prop} {adS adV adM : Nat → Nat} {adD : Nat} {q1 v1 : Nat} {w1 : List Int32} (h : gOk p s m args meth c cX4_isWord 3 RX4 tb) (hKs : Ke s) (hE : mEok E A) (hkw : gKw Ke) (hX : xSt l Ke E A adM adD) (hSt : sSt Ke A (KW D cA E A) adS adV) (hs1 : sIs A (KW D cA E A) q1 v1 w1) (hl1 : w1.length < 2 ^ 31) {Rt : Type} {QX : Rt → State → Prop} (s0 : Km) (a0 : Nat) {k55 : Option Rt} {k63 : Option Rt} (hk55 : gS p l e rm_X4_isWord s m args below meth c 3 A (KW D cA E A) QX (0) (0) (k55) s0 55 [] []) (hk63 : gS p l e rm_X4_isWord s m args below meth c 3 A (KW D cA E A) QX (0) (0) (k63) s0 63 [] []) : ∀ (F : Nat), ∀ (l2 : Int32), gS p l e rm_X4_isWord s m args below meth c 3 A (KW D cA E A) QX (0) (0) (K4_isWord_L28 w1 s0 a0 k55 k63 F l2) s0 28 [(0, .ref a0), (1, .ref q1), (2, .int l2)] [] := by
  intro F
  induction F with
  | zero =>
    intro l2
    unfold K4_isWord_L28
    exact g_none
  | succ F ih =>
    intro l2
    unfold K4_isWord_L28
    refine g_iload_n h 2 dX4_isWord_28 rfl ?_
    refine g_aload_n h 1 dX4_isWord_29 rfl ?_
    refine g_callV0p h (KW_mv hE) hkw hKs [] (c_J0_length_8abf5 (KW_mv hE) hkw hSt.1 s0 q1 v1 w1 hs1) yk_J0_length_8abf5 tW_452 ⟨(Nat.le_of_ble_eq_true rfl), (Nat.le_of_ble_eq_true rfl)⟩ (fun H hw => by obtain ⟨cell, q1, q2, q3, -⟩ := (hs1 _ _ _ hw).1; exact ⟨cell, q1, q2, q3⟩) rfl rfl rfl rfl (Nat.le_of_ble_eq_true rfl) dX4_isWord_30 ⟨(Nat.le_of_ble_eq_true rfl), (Nat.le_of_ble_eq_true rfl)⟩ (fun r_30 => ?_)
    refine g_icmp_ge h 63 dX4_isWord_33 (by decide) ?_ ?_
    · refine g_lv [] [] rfl ?_
      exact hk63 
    · refine g_aload_n h 0 dX4_isWord_36 rfl ?_
      refine k_kind (fun hk37_0 => ?_)
      refine k_getr h (RX4, TX4, 7) 3 (by decide) rfl hinX4 0 (by decide) rfl tW_401 dX4_isWord_37 hk37_0 ?_
      refine g_ob (fun b37 => ?_)
      refine g_aload_n h 0 dX4_isWord_40 rfl ?_
      refine k_geti h (RX4, TX4, 7) 3 (by decide) rfl hinX4 3 (by decide) rfl tW_404 dX4_isWord_41 hk37_0 ?_
      refine g_iload_n h 2 dX4_isWord_44 rfl ?_
      refine g_iadd h dX4_isWord_45 ?_
      refine k_kind (fun hk46_0 => ?_)
      refine k_bald h dX4_isWord_46 hk46_0 ?_
      refine g_aload_n h 1 dX4_isWord_47 rfl ?_
      refine g_iload_n h 2 dX4_isWord_48 rfl ?_
      refine g_guard (fun hz49 => ?_)
      refine g_callV0p h (KW_mv hE) hkw hKs [.int l2] (c_J0_charAt_5068e (KW_mv hE) hkw hSt.1 s0 q1 v1 w1 hs1 hl1 l2 hz49) yk_J0_charAt_5068e tW_462 ⟨(Nat.le_of_ble_eq_true rfl), (Nat.le_of_ble_eq_true rfl)⟩ (fun H hw => by obtain ⟨cell, q1, q2, q3, -⟩ := (hs1 _ _ _ hw).1; exact ⟨cell, q1, q2, q3⟩) rfl rfl rfl rfl (Nat.le_of_ble_eq_true rfl) dX4_isWord_49 ⟨(Nat.le_of_ble_eq_true rfl), (Nat.le_of_ble_eq_true rfl)⟩ (fun r_49 => ?_)
      refine g_icmp_eq h 57 dX4_isWord_52 (by decide) ?_ ?_
      · refine g_iinc (v := l2 + 1) (i := 2) h [(2, .int (l2 + 1)), (0, .ref a0), (1, .ref q1)] dX4_isWord_57 rfl rfl (by decide) rfl ?_
        refine g_goto h 28 dX4_isWord_60 (by decide) ?_
        refine g_lv [(0, .ref a0), (1, .ref q1), (2, .int (l2 + 1))] [1, 2, 0] rfl ?_
        exact ih (l2 + 1)
      · refine g_lv [] [] rfl ?_
        exact hk55 
def K4_isWord (s0 : Km) (a0 : Nat) (w1 : List Int32) : Option (Int32) :=
  if kK s0 a0 = 4 then
  if kI s0 a0 2 = (1 : Int32) then
    (some (nI w1.length)).bind (fun r_18 =>
    if (kI s0 a0 4) - (kI s0 a0 3) = r_18 then
      K4_isWord_L28 w1 s0 a0 (some (0 : Int32)) (some (1 : Int32)) gF (0 : Int32)
    else
      K4_isWord_B24 w1 s0)
  else
    K4_isWord_B24 w1 s0
  else none
set_option maxHeartbeats 4000000 in
set_option maxRecDepth 100000 in
theorem c_X4_isWord {l : Launch} {A : Nat → Prop} {Ke : State → Prop} {D : va_G} {cA : Nat → ClassId} {E : State → Heap → Prop} {adS adV adM : Nat → Nat} {adD : Nat} {q1 v1 : Nat} {w1 : List Int32} (hE : mEok E A) (hkw : gKw Ke) (hX : xSt l Ke E A adM adD) (hSt : sSt Ke A (KW D cA E A) adS adV) (hs1 : sIs A (KW D cA E A) q1 v1 w1) (hl1 : w1.length < 2 ^ 31) (s0 : Km) (a0 : Nat) : gCp l yX4_isWord cX4_isWord 3 (some .boolean) rm_X4_isWord Ke (KW D cA E A) A [.ref a0, .ref q1] s0 (K4_isWord s0 a0 w1) := by
  refine g_metp (by decide) (by simp [lg_sl, Value.category]) ?_
  intro p e s m below meth c h hr hKs
  refine g_lv [(0, .ref a0), (1, .ref q1)] [0, 1] rfl ?_
  unfold K4_isWord
  refine g_aload_n h 0 dX4_isWord_0 rfl ?_
  refine k_kind (fun hk1_0 => ?_)
  refine k_geti h (RX4, TX4, 7) 3 (by decide) rfl hinX4 2 (by decide) rfl tW_403 dX4_isWord_1 hk1_0 ?_
  refine g_iconst (v := 1) h dX4_isWord_4 (by decide) ?_
  refine g_icmp_ne h 24 dX4_isWord_5 (by decide) ?_ ?_
  · refine g_lv [] [] rfl ?_
    exact K4_isWord_B24_w h hKs hE hkw hX hSt hs1 hl1 s0  hr
  · refine g_aload_n h 0 dX4_isWord_8 rfl ?_
    refine k_geti h (RX4, TX4, 7) 3 (by decide) rfl hinX4 4 (by decide) rfl tW_405 dX4_isWord_9 hk1_0 ?_
    refine g_aload_n h 0 dX4_isWord_12 rfl ?_
    refine k_geti h (RX4, TX4, 7) 3 (by decide) rfl hinX4 3 (by decide) rfl tW_404 dX4_isWord_13 hk1_0 ?_
    refine g_isub h dX4_isWord_16 ?_
    refine g_aload_n h 1 dX4_isWord_17 rfl ?_
    refine g_callV0p h (KW_mv hE) hkw hKs [] (c_J0_length_8abf5 (KW_mv hE) hkw hSt.1 s0 q1 v1 w1 hs1) yk_J0_length_8abf5 tW_452 ⟨(Nat.le_of_ble_eq_true rfl), (Nat.le_of_ble_eq_true rfl)⟩ (fun H hw => by obtain ⟨cell, q1, q2, q3, -⟩ := (hs1 _ _ _ hw).1; exact ⟨cell, q1, q2, q3⟩) rfl rfl rfl rfl (Nat.le_of_ble_eq_true rfl) dX4_isWord_18 ⟨(Nat.le_of_ble_eq_true rfl), (Nat.le_of_ble_eq_true rfl)⟩ (fun r_18 => ?_)
    refine g_icmp_eq h 26 dX4_isWord_21 (by decide) ?_ ?_
    · refine g_iconst (v := 0) h dX4_isWord_26 (by decide) ?_
      refine g_istore_n h [(2, .int (0 : Int32)), (0, .ref a0), (1, .ref q1)] dX4_isWord_27 (by decide) rfl ?_
      refine g_lv [(0, .ref a0), (1, .ref q1), (2, .int (0 : Int32))] [1, 2, 0] rfl ?_
      refine K4_isWord_L28_w h hKs hE hkw hX hSt hs1 hl1 s0 a0 ?_ ?_ gF (0 : Int32)
      · refine g_iconst (v := 0) h dX4_isWord_55 (by decide) ?_
        exact g_zretp h (KW_mv hE) hr (Nat.le_of_ble_eq_true rfl) (Nat.le_of_ble_eq_true rfl) (by decide) dX4_isWord_56
      · refine g_iconst (v := 1) h dX4_isWord_63 (by decide) ?_
        exact g_zretp h (KW_mv hE) hr (Nat.le_of_ble_eq_true rfl) (Nat.le_of_ble_eq_true rfl) (by decide) dX4_isWord_64
    · refine g_lv [] [] rfl ?_
      exact K4_isWord_B24_w h hKs hE hkw hX hSt hs1 hl1 s0  hr
def rm_X4_ruleSort : Room := { frames := 5, cells := 0, slots := 0, locals := 107 }
theorem yk_X4_ruleSort : yOkV yX4_ruleSort cX4_ruleSort 1 (some .int) RX4 0 := ⟨tW_446, tW_13, tW_445, tP_7, by decide, by decide, by decide +kernel⟩
def K4_ruleSort_B36 (s0 : Km) (t0 : Int32) : Option (Int32) :=
  some t0
set_option maxHeartbeats 4000000 in
set_option maxRecDepth 100000 in
theorem K4_ruleSort_B36_w {p : Program} {l : Launch} {e : Env} {s : State} {m : MethodId} {args : Array Value} {below : List Frame} {meth : Method} {c : Code} {A : Nat → Prop} {Ke : State → Prop} {D : va_G} {cA : Nat → ClassId} {E : State → Heap → Prop} {adS adV adM : Nat → Nat} {adD : Nat} (h : gOk p s m args meth c cX4_ruleSort 1 RX4 tb) (hKs : Ke s) (hE : mEok E A) (hkw : gKw Ke) (hX : xSt l Ke E A adM adD) (hSt : sSt Ke A (KW D cA E A) adS adV) (s0 : Km) (t0 : Int32) (hr : meth.sig.returnType = some .int)  : gS p l e rm_X4_ruleSort s m args below meth c 1 A (KW D cA E A) (fun X => MQ below (gPi (KW D cA E A) A (X, s0)) args s rm_X4_ruleSort.cells rm_X4_ruleSort.slots A) (0) (0) (K4_ruleSort_B36 s0 t0) s0 36 [] [.int t0] := by
  unfold K4_ruleSort_B36
  exact g_iretp h (KW_mv hE) hr (Nat.le_of_ble_eq_true rfl) (Nat.le_of_ble_eq_true rfl) dX4_ruleSort_36
def K4_ruleSort (s0 : Km) (a0 : Nat) : Option (Int32) :=
  if kK s0 a0 = 4 then
  (K4_isWord s0 a0 (sW 12)).bind (fun r_3 =>
  if r_3 = 0 then
    (K4_isWord s0 a0 (sW 13)).bind (fun r_14 =>
    if r_14 = 0 then
      (K4_isWord s0 a0 (sW 14)).bind (fun r_25 =>
      if r_25 = 0 then
        K4_ruleSort_B36 s0 (-1 : Int32)
      else
        K4_ruleSort_B36 s0 (2 : Int32))
    else
      some (1 : Int32))
  else
    some (0 : Int32))
  else none
set_option maxHeartbeats 4000000 in
set_option maxRecDepth 100000 in
theorem c_X4_ruleSort {l : Launch} {A : Nat → Prop} {Ke : State → Prop} {D : va_G} {cA : Nat → ClassId} {E : State → Heap → Prop} {adS adV adM : Nat → Nat} {adD : Nat} (hE : mEok E A) (hkw : gKw Ke) (hX : xSt l Ke E A adM adD) (hSt : sSt Ke A (KW D cA E A) adS adV) (s0 : Km) (a0 : Nat) : gCp l yX4_ruleSort cX4_ruleSort 1 (some .int) rm_X4_ruleSort Ke (KW D cA E A) A [.ref a0] s0 (K4_ruleSort s0 a0) := by
  refine g_metp (by decide) (by simp [lg_sl, Value.category]) ?_
  intro p e s m below meth c h hr hKs
  refine g_lv [(0, .ref a0)] [0] rfl ?_
  unfold K4_ruleSort
  refine g_aload_n h 0 dX4_ruleSort_0 rfl ?_
  refine g_ldcS h (hSt.2.2 _ hKs 12 (by decide)) dX4_ruleSort_1 ?_
  refine k_kind (fun hk3_0 => ?_)
  refine g_callV0p h (KW_mv hE) hkw hKs [.ref (adS 12)] (c_X4_isWord hE hkw hX hSt (hSt.2.1 12 (by decide)) (by decide) s0 a0) yk_X4_isWord tW_448 ⟨(Nat.le_of_ble_eq_true rfl), (Nat.le_of_ble_eq_true rfl)⟩ (KW_recv a0 3 (r := (RX4, TX4, 7)) hk3_0 (by decide) rfl) rfl rfl rfl rfl (Nat.le_of_ble_eq_true rfl) dX4_ruleSort_3 ⟨(Nat.le_of_ble_eq_true rfl), (Nat.le_of_ble_eq_true rfl)⟩ (fun r_3 => ?_)
  refine g_if_eq h 11 dX4_ruleSort_6 (by decide) ?_ ?_
  · refine g_aload_n h 0 dX4_ruleSort_11 rfl ?_
    refine g_ldcS h (hSt.2.2 _ hKs 13 (by decide)) dX4_ruleSort_12 ?_
    refine g_callV0p h (KW_mv hE) hkw hKs [.ref (adS 13)] (c_X4_isWord hE hkw hX hSt (hSt.2.1 13 (by decide)) (by decide) s0 a0) yk_X4_isWord tW_448 ⟨(Nat.le_of_ble_eq_true rfl), (Nat.le_of_ble_eq_true rfl)⟩ (KW_recv a0 3 (r := (RX4, TX4, 7)) hk3_0 (by decide) rfl) rfl rfl rfl rfl (Nat.le_of_ble_eq_true rfl) dX4_ruleSort_14 ⟨(Nat.le_of_ble_eq_true rfl), (Nat.le_of_ble_eq_true rfl)⟩ (fun r_14 => ?_)
    refine g_if_eq h 22 dX4_ruleSort_17 (by decide) ?_ ?_
    · refine g_aload_n h 0 dX4_ruleSort_22 rfl ?_
      refine g_ldcS h (hSt.2.2 _ hKs 14 (by decide)) dX4_ruleSort_23 ?_
      refine g_callV0p h (KW_mv hE) hkw hKs [.ref (adS 14)] (c_X4_isWord hE hkw hX hSt (hSt.2.1 14 (by decide)) (by decide) s0 a0) yk_X4_isWord tW_448 ⟨(Nat.le_of_ble_eq_true rfl), (Nat.le_of_ble_eq_true rfl)⟩ (KW_recv a0 3 (r := (RX4, TX4, 7)) hk3_0 (by decide) rfl) rfl rfl rfl rfl (Nat.le_of_ble_eq_true rfl) dX4_ruleSort_25 ⟨(Nat.le_of_ble_eq_true rfl), (Nat.le_of_ble_eq_true rfl)⟩ (fun r_25 => ?_)
      refine g_if_eq h 35 dX4_ruleSort_28 (by decide) ?_ ?_
      · refine g_iconst (v := -1) h dX4_ruleSort_35 (by decide) ?_
        refine g_lv [] [] rfl ?_
        exact K4_ruleSort_B36_w h hKs hE hkw hX hSt s0 (-1 : Int32) hr
      · refine g_iconst (v := 2) h dX4_ruleSort_31 (by decide) ?_
        refine g_goto h 36 dX4_ruleSort_32 (by decide) ?_
        refine g_lv [] [] rfl ?_
        exact K4_ruleSort_B36_w h hKs hE hkw hX hSt s0 (2 : Int32) hr
    · refine g_iconst (v := 1) h dX4_ruleSort_20 (by decide) ?_
      exact g_iretp h (KW_mv hE) hr (Nat.le_of_ble_eq_true rfl) (Nat.le_of_ble_eq_true rfl) dX4_ruleSort_21
  · refine g_iconst (v := 0) h dX4_ruleSort_9 (by decide) ?_
    exact g_iretp h (KW_mv hE) hr (Nat.le_of_ble_eq_true rfl) (Nat.le_of_ble_eq_true rfl) dX4_ruleSort_10
def rm_X4_fail : Room := { frames := 0, cells := 0, slots := 0, locals := 0 }
theorem yk_X4_fail : yOkV yX4_fail cX4_fail 2 (some .boolean) RX4 1 := ⟨tW_505, tW_13, tW_504, tP_9, by decide, by decide, by decide +kernel⟩
def K4_fail (s0 : Km) (a0 : Nat) (a1 : Int32) : Option (Int32 × Km) :=
  if kK s0 a0 = 4 then
  bnd (kSetI s0 a0 5 a1) (fun s_2 =>
  bnd (kSetI s_2 a0 6 (kI s_2 a0 3)) (fun s_10 =>
  some ((0 : Int32), s_10)))
  else none
set_option maxHeartbeats 4000000 in
set_option maxRecDepth 100000 in
theorem c_X4_fail {l : Launch} {A : Nat → Prop} {Ke : State → Prop} {D : va_G} {cA : Nat → ClassId} {E : State → Heap → Prop} {adS adV adM : Nat → Nat} {adD : Nat} (hE : mEok E A) (hkw : gKw Ke) (hX : xSt l Ke E A adM adD) (hSt : sSt Ke A (KW D cA E A) adS adV) (s0 : Km) (a0 : Nat) (a1 : Int32) : gCi l yX4_fail cX4_fail 2 (some .boolean) rm_X4_fail Ke (KW D cA E A) A [.ref a0, .int a1] s0 (K4_fail s0 a0 a1) := by
  refine g_meti (by decide) (by simp [lg_sl, Value.category]) ?_
  intro p e s m below meth c h hr hKs
  refine g_lv [(0, .ref a0), (1, .int a1)] [0, 1] rfl ?_
  unfold K4_fail
  refine g_aload_n h 0 dX4_fail_0 rfl ?_
  refine g_iload_n h 1 dX4_fail_1 rfl ?_
  refine k_kind (fun hk2_0 => ?_)
  refine k_puti (x := a1) h hE (RX4, TX4, 7) 3 (by decide) rfl hinX4 5 (by decide) rfl tyX4 tyX4_ok nmX4 rfl tW_407 rfl rfl dX4_fail_2 hk2_0 ?_
  refine g_bndE (fun s_2 hs_2 => ?_)
  refine g_aload_n h 0 dX4_fail_5 rfl ?_
  refine g_aload_n h 0 dX4_fail_6 rfl ?_
  refine k_geti h (RX4, TX4, 7) 3 (by decide) rfl hinX4 3 (by decide) rfl tW_404 dX4_fail_7 (kKsI hs_2 hk2_0) ?_
  refine k_puti (x := (kI s_2 a0 3)) h hE (RX4, TX4, 7) 3 (by decide) rfl hinX4 6 (by decide) rfl tyX4 tyX4_ok nmX4 rfl tW_409 rfl rfl dX4_fail_10 (kKsI hs_2 hk2_0) ?_
  refine g_bndE (fun s_10 hs_10 => ?_)
  refine g_iconst (v := 0) h dX4_fail_13 (by decide) ?_
  exact g_zret h (KW_mv hE) hr (Nat.le_of_ble_eq_true rfl) (Nat.le_of_ble_eq_true rfl) (by decide) dX4_fail_14
def rm_X5_isFull : Room := { frames := 0, cells := 0, slots := 0, locals := 0 }
theorem yk_X5_isFull : yOkV yX5_isFull cX5_isFull 1 (some .boolean) RX5 0 := ⟨tW_509, tW_12, tW_507, tW_508, by decide, by decide, by decide +kernel⟩
def K5_isFull_B14 (s0 : Km) (t0 : Int32) : Option (Int32) :=
  if okZ t0 = true then some t0 else none
set_option maxHeartbeats 4000000 in
set_option maxRecDepth 100000 in
theorem K5_isFull_B14_w {p : Program} {l : Launch} {e : Env} {s : State} {m : MethodId} {args : Array Value} {below : List Frame} {meth : Method} {c : Code} {A : Nat → Prop} {Ke : State → Prop} {D : va_G} {cA : Nat → ClassId} {E : State → Heap → Prop} {adS adV adM : Nat → Nat} {adD : Nat} (h : gOk p s m args meth c cX5_isFull 1 RX5 tb) (hKs : Ke s) (hE : mEok E A) (hkw : gKw Ke) (hX : xSt l Ke E A adM adD) (hSt : sSt Ke A (KW D cA E A) adS adV) (s0 : Km) (t0 : Int32) (hr : meth.sig.returnType = some .boolean)  : gS p l e rm_X5_isFull s m args below meth c 1 A (KW D cA E A) (fun X => MQ below (gPi (KW D cA E A) A (X, s0)) args s rm_X5_isFull.cells rm_X5_isFull.slots A) (0) (0) (K5_isFull_B14 s0 t0) s0 14 [] [.int t0] := by
  unfold K5_isFull_B14
  refine g_guard (fun hz => ?_)
  exact g_zretp h (KW_mv hE) hr (Nat.le_of_ble_eq_true rfl) (Nat.le_of_ble_eq_true rfl) hz dX5_isFull_14
def K5_isFull (s0 : Km) (a0 : Nat) : Option (Int32) :=
  if kK s0 a0 = 5 then
  if kI s0 a0 2 < (24 : Int32) then
    K5_isFull_B14 s0 (0 : Int32)
  else
    K5_isFull_B14 s0 (1 : Int32)
  else none
set_option maxHeartbeats 4000000 in
set_option maxRecDepth 100000 in
theorem c_X5_isFull {l : Launch} {A : Nat → Prop} {Ke : State → Prop} {D : va_G} {cA : Nat → ClassId} {E : State → Heap → Prop} {adS adV adM : Nat → Nat} {adD : Nat} (hE : mEok E A) (hkw : gKw Ke) (hX : xSt l Ke E A adM adD) (hSt : sSt Ke A (KW D cA E A) adS adV) (s0 : Km) (a0 : Nat) : gCp l yX5_isFull cX5_isFull 1 (some .boolean) rm_X5_isFull Ke (KW D cA E A) A [.ref a0] s0 (K5_isFull s0 a0) := by
  refine g_metp (by decide) (by simp [lg_sl, Value.category]) ?_
  intro p e s m below meth c h hr hKs
  refine g_lv [(0, .ref a0)] [0] rfl ?_
  unfold K5_isFull
  refine g_aload_n h 0 dX5_isFull_0 rfl ?_
  refine k_kind (fun hk1_0 => ?_)
  refine k_geti h (RX5, TX5, 5) 4 (by decide) rfl hinX5 2 (by decide) rfl tW_377 dX5_isFull_1 hk1_0 ?_
  refine g_bipush (v := 24) h dX5_isFull_4 (by decide) ?_
  refine g_icmp_lt h 13 dX5_isFull_6 (by decide) ?_ ?_
  · refine g_iconst (v := 0) h dX5_isFull_13 (by decide) ?_
    refine g_lv [] [] rfl ?_
    exact K5_isFull_B14_w h hKs hE hkw hX hSt s0 (0 : Int32) hr
  · refine g_iconst (v := 1) h dX5_isFull_9 (by decide) ?_
    refine g_goto h 14 dX5_isFull_10 (by decide) ?_
    refine g_lv [] [] rfl ?_
    exact K5_isFull_B14_w h hKs hE hkw hX hSt s0 (1 : Int32) hr
def rm_X4_numbered : Room := { frames := 0, cells := 0, slots := 0, locals := 0 }
theorem yk_X4_numbered : yOkV yX4_numbered cX4_numbered 4 (some .int) RX4 2 := ⟨tW_579, tW_13, tW_578, tP_12, by decide, by decide, by decide +kernel⟩
def K4_numbered_B34 (s0 : Km)  : Option (Int32) :=
  some (-1 : Int32)
set_option maxHeartbeats 4000000 in
set_option maxRecDepth 100000 in
theorem K4_numbered_B34_w {p : Program} {l : Launch} {e : Env} {s : State} {m : MethodId} {args : Array Value} {below : List Frame} {meth : Method} {c : Code} {A : Nat → Prop} {Ke : State → Prop} {D : va_G} {cA : Nat → ClassId} {E : State → Heap → Prop} {adS adV adM : Nat → Nat} {adD : Nat} (h : gOk p s m args meth c cX4_numbered 4 RX4 tb) (hKs : Ke s) (hE : mEok E A) (hkw : gKw Ke) (hX : xSt l Ke E A adM adD) (hSt : sSt Ke A (KW D cA E A) adS adV) (s0 : Km)  (hr : meth.sig.returnType = some .int)  : gS p l e rm_X4_numbered s m args below meth c 4 A (KW D cA E A) (fun X => MQ below (gPi (KW D cA E A) A (X, s0)) args s rm_X4_numbered.cells rm_X4_numbered.slots A) (0) (0) (K4_numbered_B34 s0) s0 34 [] [] := by
  unfold K4_numbered_B34
  refine g_iconst (v := -1) h dX4_numbered_34 (by decide) ?_
  exact g_iretp h (KW_mv hE) hr (Nat.le_of_ble_eq_true rfl) (Nat.le_of_ble_eq_true rfl) dX4_numbered_35
def K4_numbered_B65 (s0 : Km) (t0 : Int32) : Option (Int32) :=
  some t0
set_option maxHeartbeats 4000000 in
set_option maxRecDepth 100000 in
theorem K4_numbered_B65_w {p : Program} {l : Launch} {e : Env} {s : State} {m : MethodId} {args : Array Value} {below : List Frame} {meth : Method} {c : Code} {A : Nat → Prop} {Ke : State → Prop} {D : va_G} {cA : Nat → ClassId} {E : State → Heap → Prop} {adS adV adM : Nat → Nat} {adD : Nat} (h : gOk p s m args meth c cX4_numbered 4 RX4 tb) (hKs : Ke s) (hE : mEok E A) (hkw : gKw Ke) (hX : xSt l Ke E A adM adD) (hSt : sSt Ke A (KW D cA E A) adS adV) (s0 : Km) (t0 : Int32) (hr : meth.sig.returnType = some .int)  : gS p l e rm_X4_numbered s m args below meth c 4 A (KW D cA E A) (fun X => MQ below (gPi (KW D cA E A) A (X, s0)) args s rm_X4_numbered.cells rm_X4_numbered.slots A) (0) (0) (K4_numbered_B65 s0 t0) s0 65 [] [.int t0] := by
  unfold K4_numbered_B65
  exact g_iretp h (KW_mv hE) hr (Nat.le_of_ble_eq_true rfl) (Nat.le_of_ble_eq_true rfl) dX4_numbered_65
def K4_numbered_B64 (s0 : Km)  : Option (Int32) :=
  K4_numbered_B65 s0 (-1 : Int32)
set_option maxHeartbeats 4000000 in
set_option maxRecDepth 100000 in
theorem K4_numbered_B64_w {p : Program} {l : Launch} {e : Env} {s : State} {m : MethodId} {args : Array Value} {below : List Frame} {meth : Method} {c : Code} {A : Nat → Prop} {Ke : State → Prop} {D : va_G} {cA : Nat → ClassId} {E : State → Heap → Prop} {adS adV adM : Nat → Nat} {adD : Nat} (h : gOk p s m args meth c cX4_numbered 4 RX4 tb) (hKs : Ke s) (hE : mEok E A) (hkw : gKw Ke) (hX : xSt l Ke E A adM adD) (hSt : sSt Ke A (KW D cA E A) adS adV) (s0 : Km)  (hr : meth.sig.returnType = some .int)  : gS p l e rm_X4_numbered s m args below meth c 4 A (KW D cA E A) (fun X => MQ below (gPi (KW D cA E A) A (X, s0)) args s rm_X4_numbered.cells rm_X4_numbered.slots A) (0) (0) (K4_numbered_B64 s0) s0 64 [] [] := by
  unfold K4_numbered_B64
  refine g_iconst (v := -1) h dX4_numbered_64 (by decide) ?_
  exact K4_numbered_B65_w h hKs hE hkw hX hSt s0 (-1 : Int32) hr
def K4_numbered (s0 : Km) (a0 : Nat) (a1 : Int32) (a2 : Int32) : Option (Int32) :=
  if kK s0 a0 = 4 then
  if kI s0 a0 2 = (1 : Int32) then
    if (kI s0 a0 4) - (kI s0 a0 3) = (2 : Int32) then
      (kR s0 a0 0).bind (fun b22 =>
      if kK s0 b22 = 11 then
      if okI (kI s0 a0 3) (kN s0 b22) = true then
      if kI s0 b22 (kI s0 a0 3).toNatClampNeg = a1 then
        (kR s0 a0 0).bind (fun b37 =>
        if kK s0 b37 = 11 then
        if okI ((kI s0 a0 3) + (1 : Int32)) (kN s0 b37) = true then
        bnd ((kI s0 b37 ((kI s0 a0 3) + (1 : Int32)).toNatClampNeg) - (48 : Int32)) (fun v3_50 =>
        if v3_50 < 0 then
          K4_numbered_B64 s0
        else
          if a2 ≤ v3_50 then
            K4_numbered_B64 s0
          else
            K4_numbered_B65 s0 v3_50)
        else none
        else none)
      else
        K4_numbered_B34 s0
      else none
      else none)
    else
      K4_numbered_B34 s0
  else
    K4_numbered_B34 s0
  else none
set_option maxHeartbeats 4000000 in
set_option maxRecDepth 100000 in
theorem c_X4_numbered {l : Launch} {A : Nat → Prop} {Ke : State → Prop} {D : va_G} {cA : Nat → ClassId} {E : State → Heap → Prop} {adS adV adM : Nat → Nat} {adD : Nat} (hE : mEok E A) (hkw : gKw Ke) (hX : xSt l Ke E A adM adD) (hSt : sSt Ke A (KW D cA E A) adS adV) (s0 : Km) (a0 : Nat) (a1 : Int32) (a2 : Int32) : gCp l yX4_numbered cX4_numbered 4 (some .int) rm_X4_numbered Ke (KW D cA E A) A [.ref a0, .int a1, .int a2] s0 (K4_numbered s0 a0 a1 a2) := by
  refine g_metp (by decide) (by simp [lg_sl, Value.category]) ?_
  intro p e s m below meth c h hr hKs
  refine g_lv [(0, .ref a0), (1, .int a1), (2, .int a2)] [0, 1, 2] rfl ?_
  unfold K4_numbered
  refine g_aload_n h 0 dX4_numbered_0 rfl ?_
  refine k_kind (fun hk1_0 => ?_)
  refine k_geti h (RX4, TX4, 7) 3 (by decide) rfl hinX4 2 (by decide) rfl tW_403 dX4_numbered_1 hk1_0 ?_
  refine g_iconst (v := 1) h dX4_numbered_4 (by decide) ?_
  refine g_icmp_ne h 34 dX4_numbered_5 (by decide) ?_ ?_
  · refine g_lv [] [] rfl ?_
    exact K4_numbered_B34_w h hKs hE hkw hX hSt s0  hr
  · refine g_aload_n h 0 dX4_numbered_8 rfl ?_
    refine k_geti h (RX4, TX4, 7) 3 (by decide) rfl hinX4 4 (by decide) rfl tW_405 dX4_numbered_9 hk1_0 ?_
    refine g_aload_n h 0 dX4_numbered_12 rfl ?_
    refine k_geti h (RX4, TX4, 7) 3 (by decide) rfl hinX4 3 (by decide) rfl tW_404 dX4_numbered_13 hk1_0 ?_
    refine g_isub h dX4_numbered_16 ?_
    refine g_iconst (v := 2) h dX4_numbered_17 (by decide) ?_
    refine g_icmp_ne h 34 dX4_numbered_18 (by decide) ?_ ?_
    · refine g_lv [] [] rfl ?_
      exact K4_numbered_B34_w h hKs hE hkw hX hSt s0  hr
    · refine g_aload_n h 0 dX4_numbered_21 rfl ?_
      refine k_getr h (RX4, TX4, 7) 3 (by decide) rfl hinX4 0 (by decide) rfl tW_401 dX4_numbered_22 hk1_0 ?_
      refine g_ob (fun b22 => ?_)
      refine g_aload_n h 0 dX4_numbered_25 rfl ?_
      refine k_geti h (RX4, TX4, 7) 3 (by decide) rfl hinX4 3 (by decide) rfl tW_404 dX4_numbered_26 hk1_0 ?_
      refine k_kind (fun hk29_0 => ?_)
      refine k_bald h dX4_numbered_29 hk29_0 ?_
      refine g_iload_n h 1 dX4_numbered_30 rfl ?_
      refine g_icmp_eq h 36 dX4_numbered_31 (by decide) ?_ ?_
      · refine g_aload_n h 0 dX4_numbered_36 rfl ?_
        refine k_getr h (RX4, TX4, 7) 3 (by decide) rfl hinX4 0 (by decide) rfl tW_401 dX4_numbered_37 hk1_0 ?_
        refine g_ob (fun b37 => ?_)
        refine g_aload_n h 0 dX4_numbered_40 rfl ?_
        refine k_geti h (RX4, TX4, 7) 3 (by decide) rfl hinX4 3 (by decide) rfl tW_404 dX4_numbered_41 hk1_0 ?_
        refine g_iconst (v := 1) h dX4_numbered_44 (by decide) ?_
        refine g_iadd h dX4_numbered_45 ?_
        refine k_kind (fun hk46_0 => ?_)
        refine k_bald h dX4_numbered_46 hk46_0 ?_
        refine g_bipush (v := 48) h dX4_numbered_47 (by decide) ?_
        refine g_isub h dX4_numbered_49 ?_
        refine g_bndi (fun v3_50 => ?_)
        refine g_istore_n h [(3, .int v3_50), (0, .ref a0), (1, .int a1), (2, .int a2)] dX4_numbered_50 (by decide) rfl ?_
        refine g_iload_n h 0 dX4_numbered_51 rfl ?_
        refine g_if_lt h 64 dX4_numbered_52 (by decide) ?_ ?_
        · refine g_lv [] [] rfl ?_
          exact K4_numbered_B64_w h hKs hE hkw hX hSt s0  hr
        · refine g_iload_n h 0 dX4_numbered_55 rfl ?_
          refine g_iload_n h 3 dX4_numbered_56 rfl ?_
          refine g_icmp_ge h 64 dX4_numbered_57 (by decide) ?_ ?_
          · refine g_lv [] [] rfl ?_
            exact K4_numbered_B64_w h hKs hE hkw hX hSt s0  hr
          · refine g_iload_n h 0 dX4_numbered_60 rfl ?_
            refine g_goto h 65 dX4_numbered_61 (by decide) ?_
            refine g_lv [] [] rfl ?_
            exact K4_numbered_B65_w h hKs hE hkw hX hSt s0 v3_50 hr
      · refine g_lv [] [] rfl ?_
        exact K4_numbered_B34_w h hKs hE hkw hX hSt s0  hr
def rm_X4_bitOf : Room := { frames := 1, cells := 0, slots := 0, locals := 23 }
theorem yk_X4_bitOf : yOkV yX4_bitOf cX4_bitOf 4 (some .int) RX4 2 := ⟨tW_575, tW_13, tW_574, tP_11, by decide, by decide, by decide +kernel⟩
def K4_bitOf_B19 (s0 : Km) (t0 : Int32) : Option (Int32) :=
  some t0
set_option maxHeartbeats 4000000 in
set_option maxRecDepth 100000 in
theorem K4_bitOf_B19_w {p : Program} {l : Launch} {e : Env} {s : State} {m : MethodId} {args : Array Value} {below : List Frame} {meth : Method} {c : Code} {A : Nat → Prop} {Ke : State → Prop} {D : va_G} {cA : Nat → ClassId} {E : State → Heap → Prop} {adS adV adM : Nat → Nat} {adD : Nat} (h : gOk p s m args meth c cX4_bitOf 4 RX4 tb) (hKs : Ke s) (hE : mEok E A) (hkw : gKw Ke) (hX : xSt l Ke E A adM adD) (hSt : sSt Ke A (KW D cA E A) adS adV) (s0 : Km) (t0 : Int32) (hr : meth.sig.returnType = some .int)  : gS p l e rm_X4_bitOf s m args below meth c 4 A (KW D cA E A) (fun X => MQ below (gPi (KW D cA E A) A (X, s0)) args s rm_X4_bitOf.cells rm_X4_bitOf.slots A) (0) (0) (K4_bitOf_B19 s0 t0) s0 19 [] [.int t0] := by
  unfold K4_bitOf_B19
  exact g_iretp h (KW_mv hE) hr (Nat.le_of_ble_eq_true rfl) (Nat.le_of_ble_eq_true rfl) dX4_bitOf_19
def K4_bitOf (s0 : Km) (a0 : Nat) (a1 : Int32) (a2 : Int32) : Option (Int32) :=
  if kK s0 a0 = 4 then
  (K4_numbered s0 a0 a1 a2).bind (fun r_3 =>
  if r_3 = (-1 : Int32) then
    K4_bitOf_B19 s0 (0 : Int32)
  else
    K4_bitOf_B19 s0 ((1 : Int32) <<< (r_3 &&& 31)))
  else none
set_option maxHeartbeats 4000000 in
set_option maxRecDepth 100000 in
theorem c_X4_bitOf {l : Launch} {A : Nat → Prop} {Ke : State → Prop} {D : va_G} {cA : Nat → ClassId} {E : State → Heap → Prop} {adS adV adM : Nat → Nat} {adD : Nat} (hE : mEok E A) (hkw : gKw Ke) (hX : xSt l Ke E A adM adD) (hSt : sSt Ke A (KW D cA E A) adS adV) (s0 : Km) (a0 : Nat) (a1 : Int32) (a2 : Int32) : gCp l yX4_bitOf cX4_bitOf 4 (some .int) rm_X4_bitOf Ke (KW D cA E A) A [.ref a0, .int a1, .int a2] s0 (K4_bitOf s0 a0 a1 a2) := by
  refine g_metp (by decide) (by simp [lg_sl, Value.category]) ?_
  intro p e s m below meth c h hr hKs
  refine g_lv [(0, .ref a0), (1, .int a1), (2, .int a2)] [0, 1, 2] rfl ?_
  unfold K4_bitOf
  refine g_aload_n h 0 dX4_bitOf_0 rfl ?_
  refine g_iload_n h 1 dX4_bitOf_1 rfl ?_
  refine g_iload_n h 2 dX4_bitOf_2 rfl ?_
  refine k_kind (fun hk3_0 => ?_)
  refine g_callV0p h (KW_mv hE) hkw hKs [.int a1, .int a2] (c_X4_numbered hE hkw hX hSt s0 a0 a1 a2) yk_X4_numbered tW_576 ⟨(Nat.le_of_ble_eq_true rfl), (Nat.le_of_ble_eq_true rfl)⟩ (KW_recv a0 3 (r := (RX4, TX4, 7)) hk3_0 (by decide) rfl) rfl rfl rfl rfl (Nat.le_of_ble_eq_true rfl) dX4_bitOf_3 ⟨(Nat.le_of_ble_eq_true rfl), (Nat.le_of_ble_eq_true rfl)⟩ (fun r_3 => ?_)
  refine g_istore_n h [(3, .int r_3), (0, .ref a0), (1, .int a1), (2, .int a2)] dX4_bitOf_6 (by decide) rfl ?_
  refine g_iload_n h 0 dX4_bitOf_7 rfl ?_
  refine g_iconst (v := -1) h dX4_bitOf_8 (by decide) ?_
  refine g_icmp_ne h 16 dX4_bitOf_9 (by decide) ?_ ?_
  · refine g_iconst (v := 1) h dX4_bitOf_16 (by decide) ?_
    refine g_iload_n h 0 dX4_bitOf_17 rfl ?_
    refine g_ishl h dX4_bitOf_18 ?_
    refine g_lv [] [] rfl ?_
    exact K4_bitOf_B19_w h hKs hE hkw hX hSt s0 ((1 : Int32) <<< (r_3 &&& 31)) hr
  · refine g_iconst (v := 0) h dX4_bitOf_12 (by decide) ?_
    refine g_goto h 19 dX4_bitOf_13 (by decide) ?_
    refine g_lv [] [] rfl ?_
    exact K4_bitOf_B19_w h hKs hE hkw hX hSt s0 (0 : Int32) hr
def rm_X4_readWhat : Room := { frames := 5, cells := 0, slots := 0, locals := 107 }
theorem yk_X4_readWhat : yOkV yX4_readWhat cX4_readWhat 2 (some .boolean) RX4 1 := ⟨tW_570, tW_13, tW_569, tP_10, by decide, by decide, by decide +kernel⟩
def K4_readWhat_B66 (s0 : Km) (t0 : Int32) (t1 : Nat) (a0 : Nat) (a1 : Nat) : Option (Int32 × Km) :=
  if kK s0 t1 = 3 then
  bnd (kSetI s0 t1 2 t0) (fun s_66 =>
  if kK s_66 a1 = 3 then
  if kI s_66 a1 2 = 0 then
    if kK s_66 a0 = 4 then
    bi (K4_fail s_66 a0 (1 : Int32)) (fun r_78 s_78 =>
    if okZ r_78 = true then some (r_78, s_78) else none)
    else none
  else
    if kK s_66 a0 = 4 then
    (K4_next s_66 a0).bind (fun s_83 =>
    some ((1 : Int32), s_83))
    else none
  else none)
  else none
set_option maxHeartbeats 4000000 in
set_option maxRecDepth 100000 in
theorem K4_readWhat_B66_w {p : Program} {l : Launch} {e : Env} {s : State} {m : MethodId} {args : Array Value} {below : List Frame} {meth : Method} {c : Code} {A : Nat → Prop} {Ke : State → Prop} {D : va_G} {cA : Nat → ClassId} {E : State → Heap → Prop} {adS adV adM : Nat → Nat} {adD : Nat} (h : gOk p s m args meth c cX4_readWhat 2 RX4 tb) (hKs : Ke s) (hE : mEok E A) (hkw : gKw Ke) (hX : xSt l Ke E A adM adD) (hSt : sSt Ke A (KW D cA E A) adS adV) (s0 : Km) (t0 : Int32) (t1 : Nat) (a0 : Nat) (a1 : Nat) (hr : meth.sig.returnType = some .boolean)  : gS p l e rm_X4_readWhat s m args below meth c 2 A (KW D cA E A) (fun X => MQ below (gPi (KW D cA E A) A X) args s rm_X4_readWhat.cells rm_X4_readWhat.slots A) (0) (0) (K4_readWhat_B66 s0 t0 t1 a0 a1) s0 66 [(0, .ref a0), (1, .ref a1)] [.int t0, .ref t1] := by
  unfold K4_readWhat_B66
  refine k_kind (fun hk66_0 => ?_)
  refine k_puti (x := t0) h hE (RX3, TX3, 12) 2 (by decide) rfl hinX3 2 (by decide) rfl tyX3 tyX3_ok nmX3 rfl tW_522 rfl rfl dX4_readWhat_66 hk66_0 ?_
  refine g_bndE (fun s_66 hs_66 => ?_)
  refine g_aload_n h 1 dX4_readWhat_69 rfl ?_
  refine k_kind (fun hk70_0 => ?_)
  refine k_geti h (RX3, TX3, 12) 2 (by decide) rfl hinX3 2 (by decide) rfl tW_522 dX4_readWhat_70 hk70_0 ?_
  refine g_if_ne h 82 dX4_readWhat_73 (by decide) ?_ ?_
  · refine g_aload_n h 0 dX4_readWhat_82 rfl ?_
    refine k_kind (fun hk83_0 => ?_)
    refine g_callV0v h (KW_mv hE) hkw hKs [] (c_X4_next hE hkw hX hSt s_66 a0) yk_X4_next tW_429 ⟨(Nat.le_of_ble_eq_true rfl), (Nat.le_of_ble_eq_true rfl)⟩ (KW_recv a0 3 (r := (RX4, TX4, 7)) hk83_0 (by decide) rfl) rfl rfl rfl rfl (Nat.le_of_ble_eq_true rfl) dX4_readWhat_83 ⟨(Nat.le_of_ble_eq_true rfl), (Nat.le_of_ble_eq_true rfl)⟩ (fun s_83 => ?_)
    refine g_iconst (v := 1) h dX4_readWhat_86 (by decide) ?_
    exact g_zret h (KW_mv hE) hr (Nat.le_of_ble_eq_true rfl) (Nat.le_of_ble_eq_true rfl) (by decide) dX4_readWhat_87
  · refine g_aload_n h 0 dX4_readWhat_76 rfl ?_
    refine g_iconst (v := 1) h dX4_readWhat_77 (by decide) ?_
    refine k_kind (fun hk78_0 => ?_)
    refine g_callV0i h (KW_mv hE) hkw hKs [.int (1 : Int32)] (c_X4_fail hE hkw hX hSt s_66 a0 (1 : Int32)) yk_X4_fail tW_502 ⟨(Nat.le_of_ble_eq_true rfl), (Nat.le_of_ble_eq_true rfl)⟩ (KW_recv a0 3 (r := (RX4, TX4, 7)) hk78_0 (by decide) rfl) rfl rfl rfl rfl (Nat.le_of_ble_eq_true rfl) dX4_readWhat_78 ⟨(Nat.le_of_ble_eq_true rfl), (Nat.le_of_ble_eq_true rfl)⟩ (fun r_78 s_78 => ?_)
    refine g_guard (fun hz => ?_)
    exact g_zret h (KW_mv hE) hr (Nat.le_of_ble_eq_true rfl) (Nat.le_of_ble_eq_true rfl) hz dX4_readWhat_81
def K4_readWhat_B22 (s0 : Km) (t0 : Int32) (t1 : Nat) (a0 : Nat) (a1 : Nat) : Option (Int32 × Km) :=
  if kK s0 t1 = 3 then
  bnd (kSetI s0 t1 1 t0) (fun s_22 =>
  if kK s_22 a1 = 3 then
  if kI s_22 a1 1 = 0 then
    if kK s_22 a0 = 4 then
    bi (K4_fail s_22 a0 (1 : Int32)) (fun r_34 s_34 =>
    if okZ r_34 = true then some (r_34, s_34) else none)
    else none
  else
    if kK s_22 a0 = 4 then
    (K4_next s_22 a0).bind (fun s_39 =>
    if kK s_39 a0 = 4 then
    (K4_isWord s_39 a0 (sW 16)).bind (fun r_46 =>
    if r_46 = 0 then
      (K4_bitOf s_39 a0 (102 : Int32) (8 : Int32)).bind (fun r_63 =>
      K4_readWhat_B66 s_39 r_63 a1 a0 a1)
    else
      K4_readWhat_B66 s_39 (255 : Int32) a1 a0 a1)
    else none)
    else none
  else none)
  else none
set_option maxHeartbeats 4000000 in
set_option maxRecDepth 100000 in
theorem K4_readWhat_B22_w {p : Program} {l : Launch} {e : Env} {s : State} {m : MethodId} {args : Array Value} {below : List Frame} {meth : Method} {c : Code} {A : Nat → Prop} {Ke : State → Prop} {D : va_G} {cA : Nat → ClassId} {E : State → Heap → Prop} {adS adV adM : Nat → Nat} {adD : Nat} (h : gOk p s m args meth c cX4_readWhat 2 RX4 tb) (hKs : Ke s) (hE : mEok E A) (hkw : gKw Ke) (hX : xSt l Ke E A adM adD) (hSt : sSt Ke A (KW D cA E A) adS adV) (s0 : Km) (t0 : Int32) (t1 : Nat) (a0 : Nat) (a1 : Nat) (hr : meth.sig.returnType = some .boolean)  : gS p l e rm_X4_readWhat s m args below meth c 2 A (KW D cA E A) (fun X => MQ below (gPi (KW D cA E A) A X) args s rm_X4_readWhat.cells rm_X4_readWhat.slots A) (0) (0) (K4_readWhat_B22 s0 t0 t1 a0 a1) s0 22 [(0, .ref a0), (1, .ref a1)] [.int t0, .ref t1] := by
  unfold K4_readWhat_B22
  refine k_kind (fun hk22_0 => ?_)
  refine k_puti (x := t0) h hE (RX3, TX3, 12) 2 (by decide) rfl hinX3 1 (by decide) rfl tyX3 tyX3_ok nmX3 rfl tW_520 rfl rfl dX4_readWhat_22 hk22_0 ?_
  refine g_bndE (fun s_22 hs_22 => ?_)
  refine g_aload_n h 1 dX4_readWhat_25 rfl ?_
  refine k_kind (fun hk26_0 => ?_)
  refine k_geti h (RX3, TX3, 12) 2 (by decide) rfl hinX3 1 (by decide) rfl tW_520 dX4_readWhat_26 hk26_0 ?_
  refine g_if_ne h 38 dX4_readWhat_29 (by decide) ?_ ?_
  · refine g_aload_n h 0 dX4_readWhat_38 rfl ?_
    refine k_kind (fun hk39_0 => ?_)
    refine g_callV0v h (KW_mv hE) hkw hKs [] (c_X4_next hE hkw hX hSt s_22 a0) yk_X4_next tW_429 ⟨(Nat.le_of_ble_eq_true rfl), (Nat.le_of_ble_eq_true rfl)⟩ (KW_recv a0 3 (r := (RX4, TX4, 7)) hk39_0 (by decide) rfl) rfl rfl rfl rfl (Nat.le_of_ble_eq_true rfl) dX4_readWhat_39 ⟨(Nat.le_of_ble_eq_true rfl), (Nat.le_of_ble_eq_true rfl)⟩ (fun s_39 => ?_)
    refine g_aload_n h 1 dX4_readWhat_42 rfl ?_
    refine g_aload_n h 0 dX4_readWhat_43 rfl ?_
    refine g_ldcS h (hSt.2.2 _ hKs 16 (by decide)) dX4_readWhat_44 ?_
    refine k_kind (fun hk46_0 => ?_)
    refine g_callV0p h (KW_mv hE) hkw hKs [.ref (adS 16)] (c_X4_isWord hE hkw hX hSt (hSt.2.1 16 (by decide)) (by decide) s_39 a0) yk_X4_isWord tW_448 ⟨(Nat.le_of_ble_eq_true rfl), (Nat.le_of_ble_eq_true rfl)⟩ (KW_recv a0 3 (r := (RX4, TX4, 7)) hk46_0 (by decide) rfl) rfl rfl rfl rfl (Nat.le_of_ble_eq_true rfl) dX4_readWhat_46 ⟨(Nat.le_of_ble_eq_true rfl), (Nat.le_of_ble_eq_true rfl)⟩ (fun r_46 => ?_)
    refine g_if_eq h 58 dX4_readWhat_49 (by decide) ?_ ?_
    · refine g_aload_n h 0 dX4_readWhat_58 rfl ?_
      refine g_bipush (v := 102) h dX4_readWhat_59 (by decide) ?_
      refine g_bipush (v := 8) h dX4_readWhat_61 (by decide) ?_
      refine g_callV0p h (KW_mv hE) hkw hKs [.int (102 : Int32), .int (8 : Int32)] (c_X4_bitOf hE hkw hX hSt s_39 a0 (102 : Int32) (8 : Int32)) yk_X4_bitOf tW_572 ⟨(Nat.le_of_ble_eq_true rfl), (Nat.le_of_ble_eq_true rfl)⟩ (KW_recv a0 3 (r := (RX4, TX4, 7)) hk46_0 (by decide) rfl) rfl rfl rfl rfl (Nat.le_of_ble_eq_true rfl) dX4_readWhat_63 ⟨(Nat.le_of_ble_eq_true rfl), (Nat.le_of_ble_eq_true rfl)⟩ (fun r_63 => ?_)
      exact K4_readWhat_B66_w h hKs hE hkw hX hSt s_39 r_63 a1 a0 a1 hr
    · refine g_sipush (v := 255) h dX4_readWhat_52 (by decide) ?_
      refine g_goto h 66 dX4_readWhat_55 (by decide) ?_
      exact K4_readWhat_B66_w h hKs hE hkw hX hSt s_39 (255 : Int32) a1 a0 a1 hr
  · refine g_aload_n h 0 dX4_readWhat_32 rfl ?_
    refine g_iconst (v := 1) h dX4_readWhat_33 (by decide) ?_
    refine k_kind (fun hk34_0 => ?_)
    refine g_callV0i h (KW_mv hE) hkw hKs [.int (1 : Int32)] (c_X4_fail hE hkw hX hSt s_22 a0 (1 : Int32)) yk_X4_fail tW_502 ⟨(Nat.le_of_ble_eq_true rfl), (Nat.le_of_ble_eq_true rfl)⟩ (KW_recv a0 3 (r := (RX4, TX4, 7)) hk34_0 (by decide) rfl) rfl rfl rfl rfl (Nat.le_of_ble_eq_true rfl) dX4_readWhat_34 ⟨(Nat.le_of_ble_eq_true rfl), (Nat.le_of_ble_eq_true rfl)⟩ (fun r_34 s_34 => ?_)
    refine g_guard (fun hz => ?_)
    exact g_zret h (KW_mv hE) hr (Nat.le_of_ble_eq_true rfl) (Nat.le_of_ble_eq_true rfl) hz dX4_readWhat_37
def K4_readWhat (s0 : Km) (a0 : Nat) (a1 : Nat) : Option (Int32 × Km) :=
  if kK s0 a0 = 4 then
  (K4_isWord s0 a0 (sW 15)).bind (fun r_4 =>
  if r_4 = 0 then
    (K4_bitOf s0 a0 (107 : Int32) (4 : Int32)).bind (fun r_19 =>
    K4_readWhat_B22 s0 r_19 a1 a0 a1)
  else
    K4_readWhat_B22 s0 (15 : Int32) a1 a0 a1)
  else none
set_option maxHeartbeats 4000000 in
set_option maxRecDepth 100000 in
theorem c_X4_readWhat {l : Launch} {A : Nat → Prop} {Ke : State → Prop} {D : va_G} {cA : Nat → ClassId} {E : State → Heap → Prop} {adS adV adM : Nat → Nat} {adD : Nat} (hE : mEok E A) (hkw : gKw Ke) (hX : xSt l Ke E A adM adD) (hSt : sSt Ke A (KW D cA E A) adS adV) (s0 : Km) (a0 : Nat) (a1 : Nat) : gCi l yX4_readWhat cX4_readWhat 2 (some .boolean) rm_X4_readWhat Ke (KW D cA E A) A [.ref a0, .ref a1] s0 (K4_readWhat s0 a0 a1) := by
  refine g_meti (by decide) (by simp [lg_sl, Value.category]) ?_
  intro p e s m below meth c h hr hKs
  refine g_lv [(0, .ref a0), (1, .ref a1)] [0, 1] rfl ?_
  unfold K4_readWhat
  refine g_aload_n h 1 dX4_readWhat_0 rfl ?_
  refine g_aload_n h 0 dX4_readWhat_1 rfl ?_
  refine g_ldcS h (hSt.2.2 _ hKs 15 (by decide)) dX4_readWhat_2 ?_
  refine k_kind (fun hk4_0 => ?_)
  refine g_callV0p h (KW_mv hE) hkw hKs [.ref (adS 15)] (c_X4_isWord hE hkw hX hSt (hSt.2.1 15 (by decide)) (by decide) s0 a0) yk_X4_isWord tW_448 ⟨(Nat.le_of_ble_eq_true rfl), (Nat.le_of_ble_eq_true rfl)⟩ (KW_recv a0 3 (r := (RX4, TX4, 7)) hk4_0 (by decide) rfl) rfl rfl rfl rfl (Nat.le_of_ble_eq_true rfl) dX4_readWhat_4 ⟨(Nat.le_of_ble_eq_true rfl), (Nat.le_of_ble_eq_true rfl)⟩ (fun r_4 => ?_)
  refine g_if_eq h 15 dX4_readWhat_7 (by decide) ?_ ?_
  · refine g_aload_n h 0 dX4_readWhat_15 rfl ?_
    refine g_bipush (v := 107) h dX4_readWhat_16 (by decide) ?_
    refine g_iconst (v := 4) h dX4_readWhat_18 (by decide) ?_
    refine g_callV0p h (KW_mv hE) hkw hKs [.int (107 : Int32), .int (4 : Int32)] (c_X4_bitOf hE hkw hX hSt s0 a0 (107 : Int32) (4 : Int32)) yk_X4_bitOf tW_572 ⟨(Nat.le_of_ble_eq_true rfl), (Nat.le_of_ble_eq_true rfl)⟩ (KW_recv a0 3 (r := (RX4, TX4, 7)) hk4_0 (by decide) rfl) rfl rfl rfl rfl (Nat.le_of_ble_eq_true rfl) dX4_readWhat_19 ⟨(Nat.le_of_ble_eq_true rfl), (Nat.le_of_ble_eq_true rfl)⟩ (fun r_19 => ?_)
    exact K4_readWhat_B22_w h hKs hE hkw hX hSt s0 r_19 a1 a0 a1 hr
  · refine g_bipush (v := 15) h dX4_readWhat_10 (by decide) ?_
    refine g_goto h 22 dX4_readWhat_12 (by decide) ?_
    exact K4_readWhat_B22_w h hKs hE hkw hX hSt s0 (15 : Int32) a1 a0 a1 hr
def rm_X4_readStores : Room := { frames := 2, cells := 0, slots := 0, locals := 46 }
theorem yk_X4_readStores : yOkV yX4_readStores cX4_readStores 4 (some .boolean) RX4 1 := ⟨tW_584, tW_13, tW_583, tP_13, by decide, by decide, by decide +kernel⟩
def K4_readStores_L20 {Rt : Type} (a0 : Nat) (a1 : Nat) (k38 : Km → Option Rt) (k72 : Km → Option Rt) : Nat → Km → Int32 → Int32 → Option Rt
  | 0, _, _, _ => none
  | F + 1, s0, l2, l3 =>
  if (4 : Int32) < l3 then
      k72 s0
    else
      if l2 = 0 then
        k72 s0
      else
        if kK s0 a1 = 3 then
        if (kI s0 a1 3) &&& l2 = 0 then
          bnd (kSetI s0 a1 3 ((kI s0 a1 3) ||| l2)) (fun s_51 =>
          if kK s_51 a0 = 4 then
          (K4_next s_51 a0).bind (fun s_55 =>
          if kK s_55 a0 = 4 then
          (K4_bitOf s_55 a0 (115 : Int32) (4 : Int32)).bind (fun r_62 =>
          K4_readStores_L20 a0 a1 k38 k72 F s_55 r_62 (l3 + 1))
          else none)
          else none)
        else
          k38 s0
        else none
set_option maxHeartbeats 4000000 in
set_option maxRecDepth 100000 in
theorem K4_readStores_L20_w {p : Program} {l : Launch} {e : Env} {s : State} {m : MethodId} {args : Array Value} {below : List Frame} {meth : Method} {c : Code} {A : Nat → Prop} {Ke : State → Prop} {D : va_G} {cA : Nat → ClassId} {E : State → Heap → Prop} {adS adV adM : Nat → Nat} {adD : Nat} (h : gOk p s m args meth c cX4_readStores 4 RX4 tb) (hKs : Ke s) (hE : mEok E A) (hkw : gKw Ke) (hX : xSt l Ke E A adM adD) (hSt : sSt Ke A (KW D cA E A) adS adV) {Rt : Type} {QX : Rt → State → Prop} (a0 : Nat) (a1 : Nat) {k38 : Km → Option Rt} {k72 : Km → Option Rt} (hk38 : ∀ (sx : Km), gS p l e rm_X4_readStores s m args below meth c 4 A (KW D cA E A) QX (0) (0) (k38 sx) sx 38 [(0, .ref a0)] []) (hk72 : ∀ (sx : Km), gS p l e rm_X4_readStores s m args below meth c 4 A (KW D cA E A) QX (0) (0) (k72 sx) sx 72 [] []) : ∀ (F : Nat), ∀ (s0 : Km) (l2 : Int32) (l3 : Int32), gS p l e rm_X4_readStores s m args below meth c 4 A (KW D cA E A) QX (0) (0) (K4_readStores_L20 a0 a1 k38 k72 F s0 l2 l3) s0 20 [(0, .ref a0), (1, .ref a1), (2, .int l2), (3, .int l3)] [] := by
  intro F
  induction F with
  | zero =>
    intro s0 l2 l3
    unfold K4_readStores_L20
    exact g_none
  | succ F ih =>
    intro s0 l2 l3
    unfold K4_readStores_L20
    refine g_iload_n h 3 dX4_readStores_20 rfl ?_
    refine g_iconst (v := 4) h dX4_readStores_21 (by decide) ?_
    refine g_icmp_gt h 72 dX4_readStores_22 (by decide) ?_ ?_
    · refine g_lv [] [] rfl ?_
      exact hk72 s0
    · refine g_iload_n h 2 dX4_readStores_25 rfl ?_
      refine g_if_eq h 72 dX4_readStores_26 (by decide) ?_ ?_
      · refine g_lv [] [] rfl ?_
        exact hk72 s0
      · refine g_aload_n h 1 dX4_readStores_29 rfl ?_
        refine k_kind (fun hk30_0 => ?_)
        refine k_geti h (RX3, TX3, 12) 2 (by decide) rfl hinX3 3 (by decide) rfl tW_524 dX4_readStores_30 hk30_0 ?_
        refine g_iload_n h 2 dX4_readStores_33 rfl ?_
        refine g_iand h dX4_readStores_34 ?_
        refine g_if_eq h 44 dX4_readStores_35 (by decide) ?_ ?_
        · refine g_aload_n h 1 dX4_readStores_44 rfl ?_
          refine g_dup h dX4_readStores_45 rfl ?_
          refine k_geti h (RX3, TX3, 12) 2 (by decide) rfl hinX3 3 (by decide) rfl tW_524 dX4_readStores_46 hk30_0 ?_
          refine g_iload_n h 2 dX4_readStores_49 rfl ?_
          refine g_ior h dX4_readStores_50 ?_
          refine k_puti (x := ((kI s0 a1 3) ||| l2)) h hE (RX3, TX3, 12) 2 (by decide) rfl hinX3 3 (by decide) rfl tyX3 tyX3_ok nmX3 rfl tW_524 rfl rfl dX4_readStores_51 hk30_0 ?_
          refine g_bndE (fun s_51 hs_51 => ?_)
          refine g_aload_n h 0 dX4_readStores_54 rfl ?_
          refine k_kind (fun hk55_0 => ?_)
          refine g_callV0v h (KW_mv hE) hkw hKs [] (c_X4_next hE hkw hX hSt s_51 a0) yk_X4_next tW_429 ⟨(Nat.le_of_ble_eq_true rfl), (Nat.le_of_ble_eq_true rfl)⟩ (KW_recv a0 3 (r := (RX4, TX4, 7)) hk55_0 (by decide) rfl) rfl rfl rfl rfl (Nat.le_of_ble_eq_true rfl) dX4_readStores_55 ⟨(Nat.le_of_ble_eq_true rfl), (Nat.le_of_ble_eq_true rfl)⟩ (fun s_55 => ?_)
          refine g_aload_n h 0 dX4_readStores_58 rfl ?_
          refine g_bipush (v := 115) h dX4_readStores_59 (by decide) ?_
          refine g_iconst (v := 4) h dX4_readStores_61 (by decide) ?_
          refine k_kind (fun hk62_0 => ?_)
          refine g_callV0p h (KW_mv hE) hkw hKs [.int (115 : Int32), .int (4 : Int32)] (c_X4_bitOf hE hkw hX hSt s_55 a0 (115 : Int32) (4 : Int32)) yk_X4_bitOf tW_572 ⟨(Nat.le_of_ble_eq_true rfl), (Nat.le_of_ble_eq_true rfl)⟩ (KW_recv a0 3 (r := (RX4, TX4, 7)) hk62_0 (by decide) rfl) rfl rfl rfl rfl (Nat.le_of_ble_eq_true rfl) dX4_readStores_62 ⟨(Nat.le_of_ble_eq_true rfl), (Nat.le_of_ble_eq_true rfl)⟩ (fun r_62 => ?_)
          refine g_istore_n h [(2, .int r_62), (0, .ref a0), (1, .ref a1), (3, .int l3)] dX4_readStores_65 (by decide) rfl ?_
          refine g_iinc (v := l3 + 1) (i := 3) h [(3, .int (l3 + 1)), (2, .int r_62), (0, .ref a0), (1, .ref a1)] dX4_readStores_66 rfl rfl (by decide) rfl ?_
          refine g_goto h 20 dX4_readStores_69 (by decide) ?_
          refine g_lv [(0, .ref a0), (1, .ref a1), (2, .int r_62), (3, .int (l3 + 1))] [2, 3, 1, 0] rfl ?_
          exact ih s_55 r_62 (l3 + 1)
        · refine g_lv [(0, .ref a0)] [0] rfl ?_
          exact hk38 s0
def K4_readStores_B72 (s0 : Km)  : Option (Int32 × Km) :=
  some ((1 : Int32), s0)
set_option maxHeartbeats 4000000 in
set_option maxRecDepth 100000 in
theorem K4_readStores_B72_w {p : Program} {l : Launch} {e : Env} {s : State} {m : MethodId} {args : Array Value} {below : List Frame} {meth : Method} {c : Code} {A : Nat → Prop} {Ke : State → Prop} {D : va_G} {cA : Nat → ClassId} {E : State → Heap → Prop} {adS adV adM : Nat → Nat} {adD : Nat} (h : gOk p s m args meth c cX4_readStores 4 RX4 tb) (hKs : Ke s) (hE : mEok E A) (hkw : gKw Ke) (hX : xSt l Ke E A adM adD) (hSt : sSt Ke A (KW D cA E A) adS adV) (s0 : Km)  (hr : meth.sig.returnType = some .boolean)  : gS p l e rm_X4_readStores s m args below meth c 4 A (KW D cA E A) (fun X => MQ below (gPi (KW D cA E A) A X) args s rm_X4_readStores.cells rm_X4_readStores.slots A) (0) (0) (K4_readStores_B72 s0) s0 72 [] [] := by
  unfold K4_readStores_B72
  refine g_iconst (v := 1) h dX4_readStores_72 (by decide) ?_
  exact g_zret h (KW_mv hE) hr (Nat.le_of_ble_eq_true rfl) (Nat.le_of_ble_eq_true rfl) (by decide) dX4_readStores_73
def K4_readStores (s0 : Km) (a0 : Nat) (a1 : Nat) : Option (Int32 × Km) :=
  if kK s0 a0 = 4 then
  (K4_bitOf s0 a0 (115 : Int32) (4 : Int32)).bind (fun r_4 =>
  if r_4 = 0 then
    bi (K4_fail s0 a0 (1 : Int32)) (fun r_14 s_14 =>
    if okZ r_14 = true then some (r_14, s_14) else none)
  else
    K4_readStores_L20 a0 a1 (fun s_38 => if kK s_38 a0 = 4 then
      bi (K4_fail s_38 a0 (3 : Int32)) (fun r_40 s_40 =>
      if okZ r_40 = true then some (r_40, s_40) else none)
      else none) (fun s_72 => K4_readStores_B72 s_72) gF s0 r_4 (0 : Int32))
  else none
set_option maxHeartbeats 4000000 in
set_option maxRecDepth 100000 in
theorem c_X4_readStores {l : Launch} {A : Nat → Prop} {Ke : State → Prop} {D : va_G} {cA : Nat → ClassId} {E : State → Heap → Prop} {adS adV adM : Nat → Nat} {adD : Nat} (hE : mEok E A) (hkw : gKw Ke) (hX : xSt l Ke E A adM adD) (hSt : sSt Ke A (KW D cA E A) adS adV) (s0 : Km) (a0 : Nat) (a1 : Nat) : gCi l yX4_readStores cX4_readStores 4 (some .boolean) rm_X4_readStores Ke (KW D cA E A) A [.ref a0, .ref a1] s0 (K4_readStores s0 a0 a1) := by
  refine g_meti (by decide) (by simp [lg_sl, Value.category]) ?_
  intro p e s m below meth c h hr hKs
  refine g_lv [(0, .ref a0), (1, .ref a1)] [0, 1] rfl ?_
  unfold K4_readStores
  refine g_aload_n h 0 dX4_readStores_0 rfl ?_
  refine g_bipush (v := 115) h dX4_readStores_1 (by decide) ?_
  refine g_iconst (v := 4) h dX4_readStores_3 (by decide) ?_
  refine k_kind (fun hk4_0 => ?_)
  refine g_callV0p h (KW_mv hE) hkw hKs [.int (115 : Int32), .int (4 : Int32)] (c_X4_bitOf hE hkw hX hSt s0 a0 (115 : Int32) (4 : Int32)) yk_X4_bitOf tW_572 ⟨(Nat.le_of_ble_eq_true rfl), (Nat.le_of_ble_eq_true rfl)⟩ (KW_recv a0 3 (r := (RX4, TX4, 7)) hk4_0 (by decide) rfl) rfl rfl rfl rfl (Nat.le_of_ble_eq_true rfl) dX4_readStores_4 ⟨(Nat.le_of_ble_eq_true rfl), (Nat.le_of_ble_eq_true rfl)⟩ (fun r_4 => ?_)
  refine g_istore_n h [(2, .int r_4), (0, .ref a0), (1, .ref a1)] dX4_readStores_7 (by decide) rfl ?_
  refine g_iload_n h 0 dX4_readStores_8 rfl ?_
  refine g_if_ne h 18 dX4_readStores_9 (by decide) ?_ ?_
  · refine g_iconst (v := 0) h dX4_readStores_18 (by decide) ?_
    refine g_istore_n h [(3, .int (0 : Int32)), (2, .int r_4), (0, .ref a0), (1, .ref a1)] dX4_readStores_19 (by decide) rfl ?_
    refine g_lv [(0, .ref a0), (1, .ref a1), (2, .int r_4), (3, .int (0 : Int32))] [2, 3, 1, 0] rfl ?_
    refine K4_readStores_L20_w h hKs hE hkw hX hSt a0 a1 (fun s_38 => ?_) (fun s_72 => ?_) gF s0 r_4 (0 : Int32)
    · refine g_aload_n h 0 dX4_readStores_38 rfl ?_
      refine g_iconst (v := 3) h dX4_readStores_39 (by decide) ?_
      refine k_kind (fun hk40_0 => ?_)
      refine g_callV0i h (KW_mv hE) hkw hKs [.int (3 : Int32)] (c_X4_fail hE hkw hX hSt s_38 a0 (3 : Int32)) yk_X4_fail tW_502 ⟨(Nat.le_of_ble_eq_true rfl), (Nat.le_of_ble_eq_true rfl)⟩ (KW_recv a0 3 (r := (RX4, TX4, 7)) hk40_0 (by decide) rfl) rfl rfl rfl rfl (Nat.le_of_ble_eq_true rfl) dX4_readStores_40 ⟨(Nat.le_of_ble_eq_true rfl), (Nat.le_of_ble_eq_true rfl)⟩ (fun r_40 s_40 => ?_)
      refine g_guard (fun hz => ?_)
      exact g_zret h (KW_mv hE) hr (Nat.le_of_ble_eq_true rfl) (Nat.le_of_ble_eq_true rfl) hz dX4_readStores_43
    · exact K4_readStores_B72_w h hKs hE hkw hX hSt s_72  hr
  · refine g_aload_n h 1 dX4_readStores_12 rfl ?_
    refine g_iconst (v := 1) h dX4_readStores_13 (by decide) ?_
    refine g_callV0i h (KW_mv hE) hkw hKs [.int (1 : Int32)] (c_X4_fail hE hkw hX hSt s0 a0 (1 : Int32)) yk_X4_fail tW_502 ⟨(Nat.le_of_ble_eq_true rfl), (Nat.le_of_ble_eq_true rfl)⟩ (KW_recv a0 3 (r := (RX4, TX4, 7)) hk4_0 (by decide) rfl) rfl rfl rfl rfl (Nat.le_of_ble_eq_true rfl) dX4_readStores_14 ⟨(Nat.le_of_ble_eq_true rfl), (Nat.le_of_ble_eq_true rfl)⟩ (fun r_14 s_14 => ?_)
    refine g_guard (fun hz => ?_)
    exact g_zret h (KW_mv hE) hr (Nat.le_of_ble_eq_true rfl) (Nat.le_of_ble_eq_true rfl) hz dX4_readStores_17
def rm_X4_checkNumber : Room := { frames := 1, cells := 0, slots := 0, locals := 21 }
theorem yk_X4_checkNumber : yOkV yX4_checkNumber cX4_checkNumber 1 (some .boolean) RX4 0 := ⟨tW_592, tW_13, tW_591, tP_15, by decide, by decide, by decide +kernel⟩
def K4_checkNumber_B40 (s0 : Km) (t0 : Int32) : Option (Int32 × Km) :=
  if okZ t0 = true then some (t0, s0) else none
set_option maxHeartbeats 4000000 in
set_option maxRecDepth 100000 in
theorem K4_checkNumber_B40_w {p : Program} {l : Launch} {e : Env} {s : State} {m : MethodId} {args : Array Value} {below : List Frame} {meth : Method} {c : Code} {A : Nat → Prop} {Ke : State → Prop} {D : va_G} {cA : Nat → ClassId} {E : State → Heap → Prop} {adS adV adM : Nat → Nat} {adD : Nat} (h : gOk p s m args meth c cX4_checkNumber 1 RX4 tb) (hKs : Ke s) (hE : mEok E A) (hkw : gKw Ke) (hX : xSt l Ke E A adM adD) (hSt : sSt Ke A (KW D cA E A) adS adV) (s0 : Km) (t0 : Int32) (hr : meth.sig.returnType = some .boolean)  : gS p l e rm_X4_checkNumber s m args below meth c 1 A (KW D cA E A) (fun X => MQ below (gPi (KW D cA E A) A X) args s rm_X4_checkNumber.cells rm_X4_checkNumber.slots A) (0) (0) (K4_checkNumber_B40 s0 t0) s0 40 [] [.int t0] := by
  unfold K4_checkNumber_B40
  refine g_guard (fun hz => ?_)
  exact g_zret h (KW_mv hE) hr (Nat.le_of_ble_eq_true rfl) (Nat.le_of_ble_eq_true rfl) hz dX4_checkNumber_40
def K4_checkNumber_B35 (s0 : Km)  : Option (Int32 × Km) :=
  K4_checkNumber_B40 s0 (1 : Int32)
set_option maxHeartbeats 4000000 in
set_option maxRecDepth 100000 in
theorem K4_checkNumber_B35_w {p : Program} {l : Launch} {e : Env} {s : State} {m : MethodId} {args : Array Value} {below : List Frame} {meth : Method} {c : Code} {A : Nat → Prop} {Ke : State → Prop} {D : va_G} {cA : Nat → ClassId} {E : State → Heap → Prop} {adS adV adM : Nat → Nat} {adD : Nat} (h : gOk p s m args meth c cX4_checkNumber 1 RX4 tb) (hKs : Ke s) (hE : mEok E A) (hkw : gKw Ke) (hX : xSt l Ke E A adM adD) (hSt : sSt Ke A (KW D cA E A) adS adV) (s0 : Km)  (hr : meth.sig.returnType = some .boolean)  : gS p l e rm_X4_checkNumber s m args below meth c 1 A (KW D cA E A) (fun X => MQ below (gPi (KW D cA E A) A X) args s rm_X4_checkNumber.cells rm_X4_checkNumber.slots A) (0) (0) (K4_checkNumber_B35 s0) s0 35 [] [] := by
  unfold K4_checkNumber_B35
  refine g_iconst (v := 1) h dX4_checkNumber_35 (by decide) ?_
  refine g_goto h 40 dX4_checkNumber_36 (by decide) ?_
  exact K4_checkNumber_B40_w h hKs hE hkw hX hSt s0 (1 : Int32) hr
def K4_checkNumber (s0 : Km) (a0 : Nat) : Option (Int32 × Km) :=
  if kK s0 a0 = 4 then
  if kI s0 a0 2 = (2 : Int32) then
    if (kI s0 a0 4) - (kI s0 a0 3) ≤ (4 : Int32) then
      K4_checkNumber_B35 s0
    else
      bi (K4_fail s0 a0 (2 : Int32)) (fun r_29 s_29 =>
      if r_29 = 0 then
        K4_checkNumber_B40 s_29 (0 : Int32)
      else
        K4_checkNumber_B35 s_29)
  else
    bi (K4_fail s0 a0 (1 : Int32)) (fun r_10 s_10 =>
    if okZ r_10 = true then some (r_10, s_10) else none)
  else none
set_option maxHeartbeats 4000000 in
set_option maxRecDepth 100000 in
theorem c_X4_checkNumber {l : Launch} {A : Nat → Prop} {Ke : State → Prop} {D : va_G} {cA : Nat → ClassId} {E : State → Heap → Prop} {adS adV adM : Nat → Nat} {adD : Nat} (hE : mEok E A) (hkw : gKw Ke) (hX : xSt l Ke E A adM adD) (hSt : sSt Ke A (KW D cA E A) adS adV) (s0 : Km) (a0 : Nat) : gCi l yX4_checkNumber cX4_checkNumber 1 (some .boolean) rm_X4_checkNumber Ke (KW D cA E A) A [.ref a0] s0 (K4_checkNumber s0 a0) := by
  refine g_meti (by decide) (by simp [lg_sl, Value.category]) ?_
  intro p e s m below meth c h hr hKs
  refine g_lv [(0, .ref a0)] [0] rfl ?_
  unfold K4_checkNumber
  refine g_aload_n h 0 dX4_checkNumber_0 rfl ?_
  refine k_kind (fun hk1_0 => ?_)
  refine k_geti h (RX4, TX4, 7) 3 (by decide) rfl hinX4 2 (by decide) rfl tW_403 dX4_checkNumber_1 hk1_0 ?_
  refine g_iconst (v := 2) h dX4_checkNumber_4 (by decide) ?_
  refine g_icmp_eq h 14 dX4_checkNumber_5 (by decide) ?_ ?_
  · refine g_aload_n h 0 dX4_checkNumber_14 rfl ?_
    refine k_geti h (RX4, TX4, 7) 3 (by decide) rfl hinX4 4 (by decide) rfl tW_405 dX4_checkNumber_15 hk1_0 ?_
    refine g_aload_n h 0 dX4_checkNumber_18 rfl ?_
    refine k_geti h (RX4, TX4, 7) 3 (by decide) rfl hinX4 3 (by decide) rfl tW_404 dX4_checkNumber_19 hk1_0 ?_
    refine g_isub h dX4_checkNumber_22 ?_
    refine g_iconst (v := 4) h dX4_checkNumber_23 (by decide) ?_
    refine g_icmp_le h 35 dX4_checkNumber_24 (by decide) ?_ ?_
    · refine g_lv [] [] rfl ?_
      exact K4_checkNumber_B35_w h hKs hE hkw hX hSt s0  hr
    · refine g_aload_n h 0 dX4_checkNumber_27 rfl ?_
      refine g_iconst (v := 2) h dX4_checkNumber_28 (by decide) ?_
      refine g_callV0i h (KW_mv hE) hkw hKs [.int (2 : Int32)] (c_X4_fail hE hkw hX hSt s0 a0 (2 : Int32)) yk_X4_fail tW_502 ⟨(Nat.le_of_ble_eq_true rfl), (Nat.le_of_ble_eq_true rfl)⟩ (KW_recv a0 3 (r := (RX4, TX4, 7)) hk1_0 (by decide) rfl) rfl rfl rfl rfl (Nat.le_of_ble_eq_true rfl) dX4_checkNumber_29 ⟨(Nat.le_of_ble_eq_true rfl), (Nat.le_of_ble_eq_true rfl)⟩ (fun r_29 s_29 => ?_)
      refine g_if_eq h 39 dX4_checkNumber_32 (by decide) ?_ ?_
      · refine g_iconst (v := 0) h dX4_checkNumber_39 (by decide) ?_
        refine g_lv [] [] rfl ?_
        exact K4_checkNumber_B40_w h hKs hE hkw hX hSt s_29 (0 : Int32) hr
      · refine g_lv [] [] rfl ?_
        exact K4_checkNumber_B35_w h hKs hE hkw hX hSt s_29  hr
  · refine g_aload_n h 0 dX4_checkNumber_8 rfl ?_
    refine g_iconst (v := 1) h dX4_checkNumber_9 (by decide) ?_
    refine g_callV0i h (KW_mv hE) hkw hKs [.int (1 : Int32)] (c_X4_fail hE hkw hX hSt s0 a0 (1 : Int32)) yk_X4_fail tW_502 ⟨(Nat.le_of_ble_eq_true rfl), (Nat.le_of_ble_eq_true rfl)⟩ (KW_recv a0 3 (r := (RX4, TX4, 7)) hk1_0 (by decide) rfl) rfl rfl rfl rfl (Nat.le_of_ble_eq_true rfl) dX4_checkNumber_10 ⟨(Nat.le_of_ble_eq_true rfl), (Nat.le_of_ble_eq_true rfl)⟩ (fun r_10 s_10 => ?_)
    refine g_guard (fun hz => ?_)
    exact g_zret h (KW_mv hE) hr (Nat.le_of_ble_eq_true rfl) (Nat.le_of_ble_eq_true rfl) hz dX4_checkNumber_13
def rm_X4_number : Room := { frames := 0, cells := 0, slots := 0, locals := 0 }
theorem yk_X4_number : yOkV yX4_number cX4_number 3 (some .int) RX4 0 := ⟨tW_596, tW_13, tW_595, tP_16, by decide, by decide, by decide +kernel⟩
def K4_number_L7 {Rt : Type} (s0 : Km) (a0 : Nat) (k36 : Int32 → Option Rt) : Nat → Int32 → Int32 → Option Rt
  | 0, _, _ => none
  | F + 1, l1, l2 =>
  if kK s0 a0 = 4 then
    if kI s0 a0 4 ≤ l2 then
      k36 l1
    else
      (kR s0 a0 0).bind (fun b20 =>
      if kK s0 b20 = 11 then
      if okI l2 (kN s0 b20) = true then
      bnd (((l1 * (10 : Int32)) + (kI s0 b20 l2.toNatClampNeg)) - (48 : Int32)) (fun v1_29 =>
      K4_number_L7 s0 a0 k36 F v1_29 (l2 + 1))
      else none
      else none)
    else none
set_option maxHeartbeats 4000000 in
set_option maxRecDepth 100000 in
theorem K4_number_L7_w {p : Program} {l : Launch} {e : Env} {s : State} {m : MethodId} {args : Array Value} {below : List Frame} {meth : Method} {c : Code} {A : Nat → Prop} {Ke : State → Prop} {D : va_G} {cA : Nat → ClassId} {E : State → Heap → Prop} {adS adV adM : Nat → Nat} {adD : Nat} (h : gOk p s m args meth c cX4_number 3 RX4 tb) (hKs : Ke s) (hE : mEok E A) (hkw : gKw Ke) (hX : xSt l Ke E A adM adD) (hSt : sSt Ke A (KW D cA E A) adS adV) {Rt : Type} {QX : Rt → State → Prop} (s0 : Km) (a0 : Nat) {k36 : Int32 → Option Rt} (hk36 : ∀ (l1 : Int32), gS p l e rm_X4_number s m args below meth c 3 A (KW D cA E A) QX (0) (0) (k36 l1) s0 36 [(1, .int l1)] []) : ∀ (F : Nat), ∀ (l1 : Int32) (l2 : Int32), gS p l e rm_X4_number s m args below meth c 3 A (KW D cA E A) QX (0) (0) (K4_number_L7 s0 a0 k36 F l1 l2) s0 7 [(0, .ref a0), (1, .int l1), (2, .int l2)] [] := by
  intro F
  induction F with
  | zero =>
    intro l1 l2
    unfold K4_number_L7
    exact g_none
  | succ F ih =>
    intro l1 l2
    unfold K4_number_L7
    refine g_iload_n h 2 dX4_number_7 rfl ?_
    refine g_aload_n h 0 dX4_number_8 rfl ?_
    refine k_kind (fun hk9_0 => ?_)
    refine k_geti h (RX4, TX4, 7) 3 (by decide) rfl hinX4 4 (by decide) rfl tW_405 dX4_number_9 hk9_0 ?_
    refine g_icmp_ge h 36 dX4_number_12 (by decide) ?_ ?_
    · refine g_lv [(1, .int l1)] [1] rfl ?_
      exact hk36 l1
    · refine g_iload_n h 1 dX4_number_15 rfl ?_
      refine g_bipush (v := 10) h dX4_number_16 (by decide) ?_
      refine g_imul h dX4_number_18 ?_
      refine g_aload_n h 0 dX4_number_19 rfl ?_
      refine k_getr h (RX4, TX4, 7) 3 (by decide) rfl hinX4 0 (by decide) rfl tW_401 dX4_number_20 hk9_0 ?_
      refine g_ob (fun b20 => ?_)
      refine g_iload_n h 2 dX4_number_23 rfl ?_
      refine k_kind (fun hk24_0 => ?_)
      refine k_bald h dX4_number_24 hk24_0 ?_
      refine g_iadd h dX4_number_25 ?_
      refine g_bipush (v := 48) h dX4_number_26 (by decide) ?_
      refine g_isub h dX4_number_28 ?_
      refine g_bndi (fun v1_29 => ?_)
      refine g_istore_n h [(1, .int v1_29), (0, .ref a0), (2, .int l2)] dX4_number_29 (by decide) rfl ?_
      refine g_iinc (v := l2 + 1) (i := 2) h [(2, .int (l2 + 1)), (1, .int v1_29), (0, .ref a0)] dX4_number_30 rfl rfl (by decide) rfl ?_
      refine g_goto h 7 dX4_number_33 (by decide) ?_
      refine g_lv [(0, .ref a0), (1, .int v1_29), (2, .int (l2 + 1))] [2, 1, 0] rfl ?_
      exact ih v1_29 (l2 + 1)
def K4_number (s0 : Km) (a0 : Nat) : Option (Int32) :=
  if kK s0 a0 = 4 then
  bnd (kI s0 a0 3) (fun v2_6 =>
  K4_number_L7 s0 a0 (fun v1_36 => some v1_36) gF (0 : Int32) v2_6)
  else none
set_option maxHeartbeats 4000000 in
set_option maxRecDepth 100000 in
theorem c_X4_number {l : Launch} {A : Nat → Prop} {Ke : State → Prop} {D : va_G} {cA : Nat → ClassId} {E : State → Heap → Prop} {adS adV adM : Nat → Nat} {adD : Nat} (hE : mEok E A) (hkw : gKw Ke) (hX : xSt l Ke E A adM adD) (hSt : sSt Ke A (KW D cA E A) adS adV) (s0 : Km) (a0 : Nat) : gCp l yX4_number cX4_number 3 (some .int) rm_X4_number Ke (KW D cA E A) A [.ref a0] s0 (K4_number s0 a0) := by
  refine g_metp (by decide) (by simp [lg_sl, Value.category]) ?_
  intro p e s m below meth c h hr hKs
  refine g_lv [(0, .ref a0)] [0] rfl ?_
  unfold K4_number
  refine g_iconst (v := 0) h dX4_number_0 (by decide) ?_
  refine g_istore_n h [(1, .int (0 : Int32)), (0, .ref a0)] dX4_number_1 (by decide) rfl ?_
  refine g_aload_n h 1 dX4_number_2 rfl ?_
  refine k_kind (fun hk3_0 => ?_)
  refine k_geti h (RX4, TX4, 7) 3 (by decide) rfl hinX4 3 (by decide) rfl tW_404 dX4_number_3 hk3_0 ?_
  refine g_bndi (fun v2_6 => ?_)
  refine g_istore_n h [(2, .int v2_6), (1, .int (0 : Int32)), (0, .ref a0)] dX4_number_6 (by decide) rfl ?_
  refine g_lv [(0, .ref a0), (1, .int (0 : Int32)), (2, .int v2_6)] [2, 1, 0] rfl ?_
  refine K4_number_L7_w h hKs hE hkw hX hSt s0 a0 (fun v1_36 => ?_) gF (0 : Int32) v2_6
  · refine g_iload_n h 0 dX4_number_36 rfl ?_
    exact g_iretp h (KW_mv hE) hr (Nat.le_of_ble_eq_true rfl) (Nat.le_of_ble_eq_true rfl) dX4_number_37
def rm_X4_readTime : Room := { frames := 5, cells := 0, slots := 0, locals := 107 }
theorem yk_X4_readTime : yOkV yX4_readTime cX4_readTime 2 (some .boolean) RX4 1 := ⟨tW_588, tW_13, tW_587, tP_14, by decide, by decide, by decide +kernel⟩
def K4_readTime_B83 (s0 : Km) (t0 : Int32) (t1 : Nat) (a0 : Nat) (a1 : Nat) : Option (Int32 × Km) :=
  if kK s0 t1 = 3 then
  bnd (kSetI s0 t1 5 t0) (fun s_83 =>
  if kK s_83 a0 = 4 then
  (K4_next s_83 a0).bind (fun s_87 =>
  if kK s_87 a0 = 4 then
  (K4_isWord s_87 a0 (sW 20)).bind (fun r_93 =>
  if r_93 = 0 then
    bi (K4_fail s_87 a0 (1 : Int32)) (fun r_101 s_101 =>
    if okZ r_101 = true then some (r_101, s_101) else none)
  else
    (K4_next s_87 a0).bind (fun s_106 =>
    if kK s_106 a0 = 4 then
    (K4_numbered s_106 a0 (101 : Int32) (4 : Int32)).bind (fun r_114 =>
    if kK s_106 a1 = 3 then
    bnd (kSetI s_106 a1 6 r_114) (fun s_117 =>
    if kI s_117 a1 6 = (-1 : Int32) then
      bi (K4_fail s_117 a0 (1 : Int32)) (fun r_130 s_130 =>
      if okZ r_130 = true then some (r_130, s_130) else none)
    else
      (K4_next s_117 a0).bind (fun s_135 =>
      some ((1 : Int32), s_135)))
    else none)
    else none))
  else none)
  else none)
  else none
set_option maxHeartbeats 4000000 in
set_option maxRecDepth 100000 in
theorem K4_readTime_B83_w {p : Program} {l : Launch} {e : Env} {s : State} {m : MethodId} {args : Array Value} {below : List Frame} {meth : Method} {c : Code} {A : Nat → Prop} {Ke : State → Prop} {D : va_G} {cA : Nat → ClassId} {E : State → Heap → Prop} {adS adV adM : Nat → Nat} {adD : Nat} (h : gOk p s m args meth c cX4_readTime 2 RX4 tb) (hKs : Ke s) (hE : mEok E A) (hkw : gKw Ke) (hX : xSt l Ke E A adM adD) (hSt : sSt Ke A (KW D cA E A) adS adV) (s0 : Km) (t0 : Int32) (t1 : Nat) (a0 : Nat) (a1 : Nat) (hr : meth.sig.returnType = some .boolean)  : gS p l e rm_X4_readTime s m args below meth c 2 A (KW D cA E A) (fun X => MQ below (gPi (KW D cA E A) A X) args s rm_X4_readTime.cells rm_X4_readTime.slots A) (0) (0) (K4_readTime_B83 s0 t0 t1 a0 a1) s0 83 [(0, .ref a0), (1, .ref a1)] [.int t0, .ref t1] := by
  unfold K4_readTime_B83
  refine k_kind (fun hk83_0 => ?_)
  refine k_puti (x := t0) h hE (RX3, TX3, 12) 2 (by decide) rfl hinX3 5 (by decide) rfl tyX3 tyX3_ok nmX3 rfl tW_528 rfl rfl dX4_readTime_83 hk83_0 ?_
  refine g_bndE (fun s_83 hs_83 => ?_)
  refine g_aload_n h 0 dX4_readTime_86 rfl ?_
  refine k_kind (fun hk87_0 => ?_)
  refine g_callV0v h (KW_mv hE) hkw hKs [] (c_X4_next hE hkw hX hSt s_83 a0) yk_X4_next tW_429 ⟨(Nat.le_of_ble_eq_true rfl), (Nat.le_of_ble_eq_true rfl)⟩ (KW_recv a0 3 (r := (RX4, TX4, 7)) hk87_0 (by decide) rfl) rfl rfl rfl rfl (Nat.le_of_ble_eq_true rfl) dX4_readTime_87 ⟨(Nat.le_of_ble_eq_true rfl), (Nat.le_of_ble_eq_true rfl)⟩ (fun s_87 => ?_)
  refine g_aload_n h 0 dX4_readTime_90 rfl ?_
  refine g_ldcS h (hSt.2.2 _ hKs 20 (by decide)) dX4_readTime_91 ?_
  refine k_kind (fun hk93_0 => ?_)
  refine g_callV0p h (KW_mv hE) hkw hKs [.ref (adS 20)] (c_X4_isWord hE hkw hX hSt (hSt.2.1 20 (by decide)) (by decide) s_87 a0) yk_X4_isWord tW_448 ⟨(Nat.le_of_ble_eq_true rfl), (Nat.le_of_ble_eq_true rfl)⟩ (KW_recv a0 3 (r := (RX4, TX4, 7)) hk93_0 (by decide) rfl) rfl rfl rfl rfl (Nat.le_of_ble_eq_true rfl) dX4_readTime_93 ⟨(Nat.le_of_ble_eq_true rfl), (Nat.le_of_ble_eq_true rfl)⟩ (fun r_93 => ?_)
  refine g_if_ne h 105 dX4_readTime_96 (by decide) ?_ ?_
  · refine g_aload_n h 0 dX4_readTime_105 rfl ?_
    refine g_callV0v h (KW_mv hE) hkw hKs [] (c_X4_next hE hkw hX hSt s_87 a0) yk_X4_next tW_429 ⟨(Nat.le_of_ble_eq_true rfl), (Nat.le_of_ble_eq_true rfl)⟩ (KW_recv a0 3 (r := (RX4, TX4, 7)) hk93_0 (by decide) rfl) rfl rfl rfl rfl (Nat.le_of_ble_eq_true rfl) dX4_readTime_106 ⟨(Nat.le_of_ble_eq_true rfl), (Nat.le_of_ble_eq_true rfl)⟩ (fun s_106 => ?_)
    refine g_aload_n h 1 dX4_readTime_109 rfl ?_
    refine g_aload_n h 0 dX4_readTime_110 rfl ?_
    refine g_bipush (v := 101) h dX4_readTime_111 (by decide) ?_
    refine g_iconst (v := 4) h dX4_readTime_113 (by decide) ?_
    refine k_kind (fun hk114_0 => ?_)
    refine g_callV0p h (KW_mv hE) hkw hKs [.int (101 : Int32), .int (4 : Int32)] (c_X4_numbered hE hkw hX hSt s_106 a0 (101 : Int32) (4 : Int32)) yk_X4_numbered tW_576 ⟨(Nat.le_of_ble_eq_true rfl), (Nat.le_of_ble_eq_true rfl)⟩ (KW_recv a0 3 (r := (RX4, TX4, 7)) hk114_0 (by decide) rfl) rfl rfl rfl rfl (Nat.le_of_ble_eq_true rfl) dX4_readTime_114 ⟨(Nat.le_of_ble_eq_true rfl), (Nat.le_of_ble_eq_true rfl)⟩ (fun r_114 => ?_)
    refine k_kind (fun hk117_0 => ?_)
    refine k_puti (x := r_114) h hE (RX3, TX3, 12) 2 (by decide) rfl hinX3 6 (by decide) rfl tyX3 tyX3_ok nmX3 rfl tW_530 rfl rfl dX4_readTime_117 hk117_0 ?_
    refine g_bndE (fun s_117 hs_117 => ?_)
    refine g_aload_n h 1 dX4_readTime_120 rfl ?_
    refine k_geti h (RX3, TX3, 12) 2 (by decide) rfl hinX3 6 (by decide) rfl tW_530 dX4_readTime_121 (kKsI hs_117 hk117_0) ?_
    refine g_iconst (v := -1) h dX4_readTime_124 (by decide) ?_
    refine g_icmp_ne h 134 dX4_readTime_125 (by decide) ?_ ?_
    · refine g_aload_n h 0 dX4_readTime_134 rfl ?_
      refine g_callV0v h (KW_mv hE) hkw hKs [] (c_X4_next hE hkw hX hSt s_117 a0) yk_X4_next tW_429 ⟨(Nat.le_of_ble_eq_true rfl), (Nat.le_of_ble_eq_true rfl)⟩ (KW_recv a0 3 (r := (RX4, TX4, 7)) (kKsI hs_117 hk114_0) (by decide) rfl) rfl rfl rfl rfl (Nat.le_of_ble_eq_true rfl) dX4_readTime_135 ⟨(Nat.le_of_ble_eq_true rfl), (Nat.le_of_ble_eq_true rfl)⟩ (fun s_135 => ?_)
      refine g_iconst (v := 1) h dX4_readTime_138 (by decide) ?_
      exact g_zret h (KW_mv hE) hr (Nat.le_of_ble_eq_true rfl) (Nat.le_of_ble_eq_true rfl) (by decide) dX4_readTime_139
    · refine g_aload_n h 0 dX4_readTime_128 rfl ?_
      refine g_iconst (v := 1) h dX4_readTime_129 (by decide) ?_
      refine g_callV0i h (KW_mv hE) hkw hKs [.int (1 : Int32)] (c_X4_fail hE hkw hX hSt s_117 a0 (1 : Int32)) yk_X4_fail tW_502 ⟨(Nat.le_of_ble_eq_true rfl), (Nat.le_of_ble_eq_true rfl)⟩ (KW_recv a0 3 (r := (RX4, TX4, 7)) (kKsI hs_117 hk114_0) (by decide) rfl) rfl rfl rfl rfl (Nat.le_of_ble_eq_true rfl) dX4_readTime_130 ⟨(Nat.le_of_ble_eq_true rfl), (Nat.le_of_ble_eq_true rfl)⟩ (fun r_130 s_130 => ?_)
      refine g_guard (fun hz => ?_)
      exact g_zret h (KW_mv hE) hr (Nat.le_of_ble_eq_true rfl) (Nat.le_of_ble_eq_true rfl) hz dX4_readTime_133
  · refine g_aload_n h 0 dX4_readTime_99 rfl ?_
    refine g_iconst (v := 1) h dX4_readTime_100 (by decide) ?_
    refine g_callV0i h (KW_mv hE) hkw hKs [.int (1 : Int32)] (c_X4_fail hE hkw hX hSt s_87 a0 (1 : Int32)) yk_X4_fail tW_502 ⟨(Nat.le_of_ble_eq_true rfl), (Nat.le_of_ble_eq_true rfl)⟩ (KW_recv a0 3 (r := (RX4, TX4, 7)) hk93_0 (by decide) rfl) rfl rfl rfl rfl (Nat.le_of_ble_eq_true rfl) dX4_readTime_101 ⟨(Nat.le_of_ble_eq_true rfl), (Nat.le_of_ble_eq_true rfl)⟩ (fun r_101 s_101 => ?_)
    refine g_guard (fun hz => ?_)
    exact g_zret h (KW_mv hE) hr (Nat.le_of_ble_eq_true rfl) (Nat.le_of_ble_eq_true rfl) hz dX4_readTime_104
def K4_readTime_B54 (s0 : Km) (a0 : Nat) (a1 : Nat) : Option (Int32 × Km) :=
  if kK s0 a0 = 4 then
  (K4_isWord s0 a0 (sW 19)).bind (fun r_58 =>
  if r_58 = 0 then
    (K4_isWord s0 a0 (sW 18)).bind (fun r_72 =>
    if r_72 = 0 then
      K4_readTime_B83 s0 (0 : Int32) a1 a0 a1
    else
      K4_readTime_B83 s0 (1 : Int32) a1 a0 a1)
  else
    K4_readTime_B83 s0 (12 : Int32) a1 a0 a1)
  else none
set_option maxHeartbeats 4000000 in
set_option maxRecDepth 100000 in
theorem K4_readTime_B54_w {p : Program} {l : Launch} {e : Env} {s : State} {m : MethodId} {args : Array Value} {below : List Frame} {meth : Method} {c : Code} {A : Nat → Prop} {Ke : State → Prop} {D : va_G} {cA : Nat → ClassId} {E : State → Heap → Prop} {adS adV adM : Nat → Nat} {adD : Nat} (h : gOk p s m args meth c cX4_readTime 2 RX4 tb) (hKs : Ke s) (hE : mEok E A) (hkw : gKw Ke) (hX : xSt l Ke E A adM adD) (hSt : sSt Ke A (KW D cA E A) adS adV) (s0 : Km) (a0 : Nat) (a1 : Nat) (hr : meth.sig.returnType = some .boolean)  : gS p l e rm_X4_readTime s m args below meth c 2 A (KW D cA E A) (fun X => MQ below (gPi (KW D cA E A) A X) args s rm_X4_readTime.cells rm_X4_readTime.slots A) (0) (0) (K4_readTime_B54 s0 a0 a1) s0 54 [(0, .ref a0), (1, .ref a1)] [] := by
  unfold K4_readTime_B54
  refine g_aload_n h 1 dX4_readTime_54 rfl ?_
  refine g_aload_n h 0 dX4_readTime_55 rfl ?_
  refine g_ldcS h (hSt.2.2 _ hKs 19 (by decide)) dX4_readTime_56 ?_
  refine k_kind (fun hk58_0 => ?_)
  refine g_callV0p h (KW_mv hE) hkw hKs [.ref (adS 19)] (c_X4_isWord hE hkw hX hSt (hSt.2.1 19 (by decide)) (by decide) s0 a0) yk_X4_isWord tW_448 ⟨(Nat.le_of_ble_eq_true rfl), (Nat.le_of_ble_eq_true rfl)⟩ (KW_recv a0 3 (r := (RX4, TX4, 7)) hk58_0 (by decide) rfl) rfl rfl rfl rfl (Nat.le_of_ble_eq_true rfl) dX4_readTime_58 ⟨(Nat.le_of_ble_eq_true rfl), (Nat.le_of_ble_eq_true rfl)⟩ (fun r_58 => ?_)
  refine g_if_eq h 69 dX4_readTime_61 (by decide) ?_ ?_
  · refine g_aload_n h 0 dX4_readTime_69 rfl ?_
    refine g_ldcS h (hSt.2.2 _ hKs 18 (by decide)) dX4_readTime_70 ?_
    refine g_callV0p h (KW_mv hE) hkw hKs [.ref (adS 18)] (c_X4_isWord hE hkw hX hSt (hSt.2.1 18 (by decide)) (by decide) s0 a0) yk_X4_isWord tW_448 ⟨(Nat.le_of_ble_eq_true rfl), (Nat.le_of_ble_eq_true rfl)⟩ (KW_recv a0 3 (r := (RX4, TX4, 7)) hk58_0 (by decide) rfl) rfl rfl rfl rfl (Nat.le_of_ble_eq_true rfl) dX4_readTime_72 ⟨(Nat.le_of_ble_eq_true rfl), (Nat.le_of_ble_eq_true rfl)⟩ (fun r_72 => ?_)
    refine g_if_eq h 82 dX4_readTime_75 (by decide) ?_ ?_
    · refine g_iconst (v := 0) h dX4_readTime_82 (by decide) ?_
      exact K4_readTime_B83_w h hKs hE hkw hX hSt s0 (0 : Int32) a1 a0 a1 hr
    · refine g_iconst (v := 1) h dX4_readTime_78 (by decide) ?_
      refine g_goto h 83 dX4_readTime_79 (by decide) ?_
      exact K4_readTime_B83_w h hKs hE hkw hX hSt s0 (1 : Int32) a1 a0 a1 hr
  · refine g_bipush (v := 12) h dX4_readTime_64 (by decide) ?_
    refine g_goto h 83 dX4_readTime_66 (by decide) ?_
    exact K4_readTime_B83_w h hKs hE hkw hX hSt s0 (12 : Int32) a1 a0 a1 hr
def K4_readTime (s0 : Km) (a0 : Nat) (a1 : Nat) : Option (Int32 × Km) :=
  if kK s0 a0 = 4 then
  bi (K4_checkNumber s0 a0) (fun r_1 s_1 =>
  if r_1 = 0 then
    some ((0 : Int32), s_1)
  else
    if kK s_1 a0 = 4 then
    (K4_number s_1 a0).bind (fun r_11 =>
    if kK s_1 a1 = 3 then
    bnd (kSetI s_1 a1 4 r_11) (fun s_14 =>
    (K4_next s_14 a0).bind (fun s_18 =>
    if kK s_18 a0 = 4 then
    (K4_isWord s_18 a0 (sW 17)).bind (fun r_24 =>
    if r_24 = 0 then
      (K4_isWord s_18 a0 (sW 18)).bind (fun r_33 =>
      if r_33 = 0 then
        (K4_isWord s_18 a0 (sW 19)).bind (fun r_42 =>
        if r_42 = 0 then
          bi (K4_fail s_18 a0 (1 : Int32)) (fun r_50 s_50 =>
          if okZ r_50 = true then some (r_50, s_50) else none)
        else
          K4_readTime_B54 s_18 a0 a1)
      else
        K4_readTime_B54 s_18 a0 a1)
    else
      K4_readTime_B54 s_18 a0 a1)
    else none))
    else none)
    else none)
  else none
set_option maxHeartbeats 4000000 in
set_option maxRecDepth 100000 in
theorem c_X4_readTime {l : Launch} {A : Nat → Prop} {Ke : State → Prop} {D : va_G} {cA : Nat → ClassId} {E : State → Heap → Prop} {adS adV adM : Nat → Nat} {adD : Nat} (hE : mEok E A) (hkw : gKw Ke) (hX : xSt l Ke E A adM adD) (hSt : sSt Ke A (KW D cA E A) adS adV) (s0 : Km) (a0 : Nat) (a1 : Nat) : gCi l yX4_readTime cX4_readTime 2 (some .boolean) rm_X4_readTime Ke (KW D cA E A) A [.ref a0, .ref a1] s0 (K4_readTime s0 a0 a1) := by
  refine g_meti (by decide) (by simp [lg_sl, Value.category]) ?_
  intro p e s m below meth c h hr hKs
  refine g_lv [(0, .ref a0), (1, .ref a1)] [0, 1] rfl ?_
  unfold K4_readTime
  refine g_aload_n h 0 dX4_readTime_0 rfl ?_
  refine k_kind (fun hk1_0 => ?_)
  refine g_callV0i h (KW_mv hE) hkw hKs [] (c_X4_checkNumber hE hkw hX hSt s0 a0) yk_X4_checkNumber tW_589 ⟨(Nat.le_of_ble_eq_true rfl), (Nat.le_of_ble_eq_true rfl)⟩ (KW_recv a0 3 (r := (RX4, TX4, 7)) hk1_0 (by decide) rfl) rfl rfl rfl rfl (Nat.le_of_ble_eq_true rfl) dX4_readTime_1 ⟨(Nat.le_of_ble_eq_true rfl), (Nat.le_of_ble_eq_true rfl)⟩ (fun r_1 s_1 => ?_)
  refine g_if_ne h 9 dX4_readTime_4 (by decide) ?_ ?_
  · refine g_aload_n h 1 dX4_readTime_9 rfl ?_
    refine g_aload_n h 0 dX4_readTime_10 rfl ?_
    refine k_kind (fun hk11_0 => ?_)
    refine g_callV0p h (KW_mv hE) hkw hKs [] (c_X4_number hE hkw hX hSt s_1 a0) yk_X4_number tW_593 ⟨(Nat.le_of_ble_eq_true rfl), (Nat.le_of_ble_eq_true rfl)⟩ (KW_recv a0 3 (r := (RX4, TX4, 7)) hk11_0 (by decide) rfl) rfl rfl rfl rfl (Nat.le_of_ble_eq_true rfl) dX4_readTime_11 ⟨(Nat.le_of_ble_eq_true rfl), (Nat.le_of_ble_eq_true rfl)⟩ (fun r_11 => ?_)
    refine k_kind (fun hk14_0 => ?_)
    refine k_puti (x := r_11) h hE (RX3, TX3, 12) 2 (by decide) rfl hinX3 4 (by decide) rfl tyX3 tyX3_ok nmX3 rfl tW_526 rfl rfl dX4_readTime_14 hk14_0 ?_
    refine g_bndE (fun s_14 hs_14 => ?_)
    refine g_aload_n h 0 dX4_readTime_17 rfl ?_
    refine g_callV0v h (KW_mv hE) hkw hKs [] (c_X4_next hE hkw hX hSt s_14 a0) yk_X4_next tW_429 ⟨(Nat.le_of_ble_eq_true rfl), (Nat.le_of_ble_eq_true rfl)⟩ (KW_recv a0 3 (r := (RX4, TX4, 7)) (kKsI hs_14 hk11_0) (by decide) rfl) rfl rfl rfl rfl (Nat.le_of_ble_eq_true rfl) dX4_readTime_18 ⟨(Nat.le_of_ble_eq_true rfl), (Nat.le_of_ble_eq_true rfl)⟩ (fun s_18 => ?_)
    refine g_aload_n h 0 dX4_readTime_21 rfl ?_
    refine g_ldcS h (hSt.2.2 _ hKs 17 (by decide)) dX4_readTime_22 ?_
    refine k_kind (fun hk24_0 => ?_)
    refine g_callV0p h (KW_mv hE) hkw hKs [.ref (adS 17)] (c_X4_isWord hE hkw hX hSt (hSt.2.1 17 (by decide)) (by decide) s_18 a0) yk_X4_isWord tW_448 ⟨(Nat.le_of_ble_eq_true rfl), (Nat.le_of_ble_eq_true rfl)⟩ (KW_recv a0 3 (r := (RX4, TX4, 7)) hk24_0 (by decide) rfl) rfl rfl rfl rfl (Nat.le_of_ble_eq_true rfl) dX4_readTime_24 ⟨(Nat.le_of_ble_eq_true rfl), (Nat.le_of_ble_eq_true rfl)⟩ (fun r_24 => ?_)
    refine g_if_ne h 54 dX4_readTime_27 (by decide) ?_ ?_
    · exact K4_readTime_B54_w h hKs hE hkw hX hSt s_18 a0 a1 hr
    · refine g_aload_n h 0 dX4_readTime_30 rfl ?_
      refine g_ldcS h (hSt.2.2 _ hKs 18 (by decide)) dX4_readTime_31 ?_
      refine g_callV0p h (KW_mv hE) hkw hKs [.ref (adS 18)] (c_X4_isWord hE hkw hX hSt (hSt.2.1 18 (by decide)) (by decide) s_18 a0) yk_X4_isWord tW_448 ⟨(Nat.le_of_ble_eq_true rfl), (Nat.le_of_ble_eq_true rfl)⟩ (KW_recv a0 3 (r := (RX4, TX4, 7)) hk24_0 (by decide) rfl) rfl rfl rfl rfl (Nat.le_of_ble_eq_true rfl) dX4_readTime_33 ⟨(Nat.le_of_ble_eq_true rfl), (Nat.le_of_ble_eq_true rfl)⟩ (fun r_33 => ?_)
      refine g_if_ne h 54 dX4_readTime_36 (by decide) ?_ ?_
      · exact K4_readTime_B54_w h hKs hE hkw hX hSt s_18 a0 a1 hr
      · refine g_aload_n h 0 dX4_readTime_39 rfl ?_
        refine g_ldcS h (hSt.2.2 _ hKs 19 (by decide)) dX4_readTime_40 ?_
        refine g_callV0p h (KW_mv hE) hkw hKs [.ref (adS 19)] (c_X4_isWord hE hkw hX hSt (hSt.2.1 19 (by decide)) (by decide) s_18 a0) yk_X4_isWord tW_448 ⟨(Nat.le_of_ble_eq_true rfl), (Nat.le_of_ble_eq_true rfl)⟩ (KW_recv a0 3 (r := (RX4, TX4, 7)) hk24_0 (by decide) rfl) rfl rfl rfl rfl (Nat.le_of_ble_eq_true rfl) dX4_readTime_42 ⟨(Nat.le_of_ble_eq_true rfl), (Nat.le_of_ble_eq_true rfl)⟩ (fun r_42 => ?_)
        refine g_if_ne h 54 dX4_readTime_45 (by decide) ?_ ?_
        · exact K4_readTime_B54_w h hKs hE hkw hX hSt s_18 a0 a1 hr
        · refine g_aload_n h 0 dX4_readTime_48 rfl ?_
          refine g_iconst (v := 1) h dX4_readTime_49 (by decide) ?_
          refine g_callV0i h (KW_mv hE) hkw hKs [.int (1 : Int32)] (c_X4_fail hE hkw hX hSt s_18 a0 (1 : Int32)) yk_X4_fail tW_502 ⟨(Nat.le_of_ble_eq_true rfl), (Nat.le_of_ble_eq_true rfl)⟩ (KW_recv a0 3 (r := (RX4, TX4, 7)) hk24_0 (by decide) rfl) rfl rfl rfl rfl (Nat.le_of_ble_eq_true rfl) dX4_readTime_50 ⟨(Nat.le_of_ble_eq_true rfl), (Nat.le_of_ble_eq_true rfl)⟩ (fun r_50 s_50 => ?_)
          refine g_guard (fun hz => ?_)
          exact g_zret h (KW_mv hE) hr (Nat.le_of_ble_eq_true rfl) (Nat.le_of_ble_eq_true rfl) hz dX4_readTime_53
  · refine g_iconst (v := 0) h dX4_readTime_7 (by decide) ?_
    exact g_zret h (KW_mv hE) hr (Nat.le_of_ble_eq_true rfl) (Nat.le_of_ble_eq_true rfl) (by decide) dX4_readTime_8
def rm_X4_isSign : Room := { frames := 0, cells := 0, slots := 0, locals := 0 }
theorem yk_X4_isSign : yOkV yX4_isSign cX4_isSign 2 (some .boolean) RX4 1 := ⟨tW_613, tW_13, tW_612, tP_19, by decide, by decide, by decide +kernel⟩
def K4_isSign_B26 (s0 : Km) (t0 : Int32) : Option (Int32) :=
  if okZ t0 = true then some t0 else none
set_option maxHeartbeats 4000000 in
set_option maxRecDepth 100000 in
theorem K4_isSign_B26_w {p : Program} {l : Launch} {e : Env} {s : State} {m : MethodId} {args : Array Value} {below : List Frame} {meth : Method} {c : Code} {A : Nat → Prop} {Ke : State → Prop} {D : va_G} {cA : Nat → ClassId} {E : State → Heap → Prop} {adS adV adM : Nat → Nat} {adD : Nat} (h : gOk p s m args meth c cX4_isSign 2 RX4 tb) (hKs : Ke s) (hE : mEok E A) (hkw : gKw Ke) (hX : xSt l Ke E A adM adD) (hSt : sSt Ke A (KW D cA E A) adS adV) (s0 : Km) (t0 : Int32) (hr : meth.sig.returnType = some .boolean)  : gS p l e rm_X4_isSign s m args below meth c 2 A (KW D cA E A) (fun X => MQ below (gPi (KW D cA E A) A (X, s0)) args s rm_X4_isSign.cells rm_X4_isSign.slots A) (0) (0) (K4_isSign_B26 s0 t0) s0 26 [] [.int t0] := by
  unfold K4_isSign_B26
  refine g_guard (fun hz => ?_)
  exact g_zretp h (KW_mv hE) hr (Nat.le_of_ble_eq_true rfl) (Nat.le_of_ble_eq_true rfl) hz dX4_isSign_26
def K4_isSign_B25 (s0 : Km)  : Option (Int32) :=
  K4_isSign_B26 s0 (0 : Int32)
set_option maxHeartbeats 4000000 in
set_option maxRecDepth 100000 in
theorem K4_isSign_B25_w {p : Program} {l : Launch} {e : Env} {s : State} {m : MethodId} {args : Array Value} {below : List Frame} {meth : Method} {c : Code} {A : Nat → Prop} {Ke : State → Prop} {D : va_G} {cA : Nat → ClassId} {E : State → Heap → Prop} {adS adV adM : Nat → Nat} {adD : Nat} (h : gOk p s m args meth c cX4_isSign 2 RX4 tb) (hKs : Ke s) (hE : mEok E A) (hkw : gKw Ke) (hX : xSt l Ke E A adM adD) (hSt : sSt Ke A (KW D cA E A) adS adV) (s0 : Km)  (hr : meth.sig.returnType = some .boolean)  : gS p l e rm_X4_isSign s m args below meth c 2 A (KW D cA E A) (fun X => MQ below (gPi (KW D cA E A) A (X, s0)) args s rm_X4_isSign.cells rm_X4_isSign.slots A) (0) (0) (K4_isSign_B25 s0) s0 25 [] [] := by
  unfold K4_isSign_B25
  refine g_iconst (v := 0) h dX4_isSign_25 (by decide) ?_
  exact K4_isSign_B26_w h hKs hE hkw hX hSt s0 (0 : Int32) hr
def K4_isSign (s0 : Km) (a0 : Nat) (a1 : Int32) : Option (Int32) :=
  if kK s0 a0 = 4 then
  if kI s0 a0 2 = (3 : Int32) then
    (kR s0 a0 0).bind (fun b9 =>
    if kK s0 b9 = 11 then
    if okI (kI s0 a0 3) (kN s0 b9) = true then
    if kI s0 b9 (kI s0 a0 3).toNatClampNeg = a1 then
      K4_isSign_B26 s0 (1 : Int32)
    else
      K4_isSign_B25 s0
    else none
    else none)
  else
    K4_isSign_B25 s0
  else none
set_option maxHeartbeats 4000000 in
set_option maxRecDepth 100000 in
theorem c_X4_isSign {l : Launch} {A : Nat → Prop} {Ke : State → Prop} {D : va_G} {cA : Nat → ClassId} {E : State → Heap → Prop} {adS adV adM : Nat → Nat} {adD : Nat} (hE : mEok E A) (hkw : gKw Ke) (hX : xSt l Ke E A adM adD) (hSt : sSt Ke A (KW D cA E A) adS adV) (s0 : Km) (a0 : Nat) (a1 : Int32) : gCp l yX4_isSign cX4_isSign 2 (some .boolean) rm_X4_isSign Ke (KW D cA E A) A [.ref a0, .int a1] s0 (K4_isSign s0 a0 a1) := by
  refine g_metp (by decide) (by simp [lg_sl, Value.category]) ?_
  intro p e s m below meth c h hr hKs
  refine g_lv [(0, .ref a0), (1, .int a1)] [0, 1] rfl ?_
  unfold K4_isSign
  refine g_aload_n h 0 dX4_isSign_0 rfl ?_
  refine k_kind (fun hk1_0 => ?_)
  refine k_geti h (RX4, TX4, 7) 3 (by decide) rfl hinX4 2 (by decide) rfl tW_403 dX4_isSign_1 hk1_0 ?_
  refine g_iconst (v := 3) h dX4_isSign_4 (by decide) ?_
  refine g_icmp_ne h 25 dX4_isSign_5 (by decide) ?_ ?_
  · refine g_lv [] [] rfl ?_
    exact K4_isSign_B25_w h hKs hE hkw hX hSt s0  hr
  · refine g_aload_n h 0 dX4_isSign_8 rfl ?_
    refine k_getr h (RX4, TX4, 7) 3 (by decide) rfl hinX4 0 (by decide) rfl tW_401 dX4_isSign_9 hk1_0 ?_
    refine g_ob (fun b9 => ?_)
    refine g_aload_n h 0 dX4_isSign_12 rfl ?_
    refine k_geti h (RX4, TX4, 7) 3 (by decide) rfl hinX4 3 (by decide) rfl tW_404 dX4_isSign_13 hk1_0 ?_
    refine k_kind (fun hk16_0 => ?_)
    refine k_bald h dX4_isSign_16 hk16_0 ?_
    refine g_iload_n h 1 dX4_isSign_17 rfl ?_
    refine g_icmp_ne h 25 dX4_isSign_18 (by decide) ?_ ?_
    · refine g_lv [] [] rfl ?_
      exact K4_isSign_B25_w h hKs hE hkw hX hSt s0  hr
    · refine g_iconst (v := 1) h dX4_isSign_21 (by decide) ?_
      refine g_goto h 26 dX4_isSign_22 (by decide) ?_
      refine g_lv [] [] rfl ?_
      exact K4_isSign_B26_w h hKs hE hkw hX hSt s0 (1 : Int32) hr
def rm_X4_readTest : Room := { frames := 2, cells := 0, slots := 0, locals := 41 }
theorem yk_X4_readTest : yOkV yX4_readTest cX4_readTest 4 (some .boolean) RX4 1 := ⟨tW_609, tW_13, tW_608, tP_18, by decide, by decide, by decide +kernel⟩
def K4_readTest_B63 (s0 : Km) (a0 : Nat) (a1 : Nat) (l2 : Int32) (l3 : Int32) : Option (Int32 × Km) :=
  if kK s0 a1 = 3 then
  (kR s0 a1 9).bind (fun b64 =>
  if kK s0 b64 = 12 then
  if okI l3 (kN s0 b64) = true then
  bnd (kSetI s0 b64 l3.toNatClampNeg l2) (fun s_69 =>
  (kR s_69 a1 10).bind (fun b71 =>
  if kK s_69 a0 = 4 then
  (K4_isSign s_69 a0 (60 : Int32)).bind (fun r_78 =>
  if kK s_69 b71 = 13 then
  if okZ r_78 = true then
  if okI l3 (kN s_69 b71) = true then
  bnd (kSetI s_69 b71 l3.toNatClampNeg r_78) (fun s_81 =>
  (K4_next s_81 a0).bind (fun s_83 =>
  if kK s_83 a0 = 4 then
  bi (K4_checkNumber s_83 a0) (fun r_87 s_87 =>
  if r_87 = 0 then
    some ((0 : Int32), s_87)
  else
    if kK s_87 a1 = 3 then
    (kR s_87 a1 11).bind (fun b96 =>
    if kK s_87 a0 = 4 then
    (K4_number s_87 a0).bind (fun r_101 =>
    if kK s_87 b96 = 12 then
    if okI l3 (kN s_87 b96) = true then
    bnd (kSetI s_87 b96 l3.toNatClampNeg r_101) (fun s_104 =>
    bnd (kSetI s_104 a1 8 ((kI s_104 a1 8) + (1 : Int32))) (fun s_112 =>
    (K4_next s_112 a0).bind (fun s_116 =>
    some ((1 : Int32), s_116))))
    else none
    else none)
    else none)
    else none)
  else none))
  else none
  else none
  else none)
  else none))
  else none
  else none)
  else none
set_option maxHeartbeats 4000000 in
set_option maxRecDepth 100000 in
theorem K4_readTest_B63_w {p : Program} {l : Launch} {e : Env} {s : State} {m : MethodId} {args : Array Value} {below : List Frame} {meth : Method} {c : Code} {A : Nat → Prop} {Ke : State → Prop} {D : va_G} {cA : Nat → ClassId} {E : State → Heap → Prop} {adS adV adM : Nat → Nat} {adD : Nat} (h : gOk p s m args meth c cX4_readTest 4 RX4 tb) (hKs : Ke s) (hE : mEok E A) (hkw : gKw Ke) (hX : xSt l Ke E A adM adD) (hSt : sSt Ke A (KW D cA E A) adS adV) (s0 : Km) (a0 : Nat) (a1 : Nat) (l2 : Int32) (l3 : Int32) (hr : meth.sig.returnType = some .boolean)  : gS p l e rm_X4_readTest s m args below meth c 4 A (KW D cA E A) (fun X => MQ below (gPi (KW D cA E A) A X) args s rm_X4_readTest.cells rm_X4_readTest.slots A) (0) (0) (K4_readTest_B63 s0 a0 a1 l2 l3) s0 63 [(0, .ref a0), (1, .ref a1), (2, .int l2), (3, .int l3)] [] := by
  unfold K4_readTest_B63
  refine g_aload_n h 1 dX4_readTest_63 rfl ?_
  refine k_kind (fun hk64_0 => ?_)
  refine k_getr h (RX3, TX3, 12) 2 (by decide) rfl hinX3 9 (by decide) rfl tW_536 dX4_readTest_64 hk64_0 ?_
  refine g_ob (fun b64 => ?_)
  refine g_iload_n h 3 dX4_readTest_67 rfl ?_
  refine g_iload_n h 2 dX4_readTest_68 rfl ?_
  refine k_kind (fun hk69_0 => ?_)
  refine k_iast h hE dX4_readTest_69 hk69_0 ?_
  refine g_bndE (fun s_69 hs_69 => ?_)
  refine g_aload_n h 1 dX4_readTest_70 rfl ?_
  refine k_getr h (RX3, TX3, 12) 2 (by decide) rfl hinX3 10 (by decide) rfl tW_538 dX4_readTest_71 (kKsI hs_69 hk64_0) ?_
  refine g_ob (fun b71 => ?_)
  refine g_iload_n h 3 dX4_readTest_74 rfl ?_
  refine g_aload_n h 0 dX4_readTest_75 rfl ?_
  refine g_bipush (v := 60) h dX4_readTest_76 (by decide) ?_
  refine k_kind (fun hk78_0 => ?_)
  refine g_callV0p h (KW_mv hE) hkw hKs [.int (60 : Int32)] (c_X4_isSign hE hkw hX hSt s_69 a0 (60 : Int32)) yk_X4_isSign tW_610 ⟨(Nat.le_of_ble_eq_true rfl), (Nat.le_of_ble_eq_true rfl)⟩ (KW_recv a0 3 (r := (RX4, TX4, 7)) hk78_0 (by decide) rfl) rfl rfl rfl rfl (Nat.le_of_ble_eq_true rfl) dX4_readTest_78 ⟨(Nat.le_of_ble_eq_true rfl), (Nat.le_of_ble_eq_true rfl)⟩ (fun r_78 => ?_)
  refine k_kind (fun hk81_0 => ?_)
  refine g_guard (fun hz81 => ?_)
  refine k_zast h hE hz81 dX4_readTest_81 hk81_0 ?_
  refine g_bndE (fun s_81 hs_81 => ?_)
  refine g_aload_n h 0 dX4_readTest_82 rfl ?_
  refine g_callV0v h (KW_mv hE) hkw hKs [] (c_X4_next hE hkw hX hSt s_81 a0) yk_X4_next tW_429 ⟨(Nat.le_of_ble_eq_true rfl), (Nat.le_of_ble_eq_true rfl)⟩ (KW_recv a0 3 (r := (RX4, TX4, 7)) (kKsI hs_81 hk78_0) (by decide) rfl) rfl rfl rfl rfl (Nat.le_of_ble_eq_true rfl) dX4_readTest_83 ⟨(Nat.le_of_ble_eq_true rfl), (Nat.le_of_ble_eq_true rfl)⟩ (fun s_83 => ?_)
  refine g_aload_n h 0 dX4_readTest_86 rfl ?_
  refine k_kind (fun hk87_0 => ?_)
  refine g_callV0i h (KW_mv hE) hkw hKs [] (c_X4_checkNumber hE hkw hX hSt s_83 a0) yk_X4_checkNumber tW_589 ⟨(Nat.le_of_ble_eq_true rfl), (Nat.le_of_ble_eq_true rfl)⟩ (KW_recv a0 3 (r := (RX4, TX4, 7)) hk87_0 (by decide) rfl) rfl rfl rfl rfl (Nat.le_of_ble_eq_true rfl) dX4_readTest_87 ⟨(Nat.le_of_ble_eq_true rfl), (Nat.le_of_ble_eq_true rfl)⟩ (fun r_87 s_87 => ?_)
  refine g_if_ne h 95 dX4_readTest_90 (by decide) ?_ ?_
  · refine g_aload_n h 1 dX4_readTest_95 rfl ?_
    refine k_kind (fun hk96_0 => ?_)
    refine k_getr h (RX3, TX3, 12) 2 (by decide) rfl hinX3 11 (by decide) rfl tW_540 dX4_readTest_96 hk96_0 ?_
    refine g_ob (fun b96 => ?_)
    refine g_iload_n h 3 dX4_readTest_99 rfl ?_
    refine g_aload_n h 0 dX4_readTest_100 rfl ?_
    refine k_kind (fun hk101_0 => ?_)
    refine g_callV0p h (KW_mv hE) hkw hKs [] (c_X4_number hE hkw hX hSt s_87 a0) yk_X4_number tW_593 ⟨(Nat.le_of_ble_eq_true rfl), (Nat.le_of_ble_eq_true rfl)⟩ (KW_recv a0 3 (r := (RX4, TX4, 7)) hk101_0 (by decide) rfl) rfl rfl rfl rfl (Nat.le_of_ble_eq_true rfl) dX4_readTest_101 ⟨(Nat.le_of_ble_eq_true rfl), (Nat.le_of_ble_eq_true rfl)⟩ (fun r_101 => ?_)
    refine k_kind (fun hk104_0 => ?_)
    refine k_iast h hE dX4_readTest_104 hk104_0 ?_
    refine g_bndE (fun s_104 hs_104 => ?_)
    refine g_aload_n h 1 dX4_readTest_105 rfl ?_
    refine g_dup h dX4_readTest_106 rfl ?_
    refine k_geti h (RX3, TX3, 12) 2 (by decide) rfl hinX3 8 (by decide) rfl tW_534 dX4_readTest_107 (kKsI hs_104 hk96_0) ?_
    refine g_iconst (v := 1) h dX4_readTest_110 (by decide) ?_
    refine g_iadd h dX4_readTest_111 ?_
    refine k_puti (x := ((kI s_104 a1 8) + (1 : Int32))) h hE (RX3, TX3, 12) 2 (by decide) rfl hinX3 8 (by decide) rfl tyX3 tyX3_ok nmX3 rfl tW_534 rfl rfl dX4_readTest_112 (kKsI hs_104 hk96_0) ?_
    refine g_bndE (fun s_112 hs_112 => ?_)
    refine g_aload_n h 0 dX4_readTest_115 rfl ?_
    refine g_callV0v h (KW_mv hE) hkw hKs [] (c_X4_next hE hkw hX hSt s_112 a0) yk_X4_next tW_429 ⟨(Nat.le_of_ble_eq_true rfl), (Nat.le_of_ble_eq_true rfl)⟩ (KW_recv a0 3 (r := (RX4, TX4, 7)) (kKsI hs_112 (kKsI hs_104 hk101_0)) (by decide) rfl) rfl rfl rfl rfl (Nat.le_of_ble_eq_true rfl) dX4_readTest_116 ⟨(Nat.le_of_ble_eq_true rfl), (Nat.le_of_ble_eq_true rfl)⟩ (fun s_116 => ?_)
    refine g_iconst (v := 1) h dX4_readTest_119 (by decide) ?_
    exact g_zret h (KW_mv hE) hr (Nat.le_of_ble_eq_true rfl) (Nat.le_of_ble_eq_true rfl) (by decide) dX4_readTest_120
  · refine g_iconst (v := 0) h dX4_readTest_93 (by decide) ?_
    exact g_zret h (KW_mv hE) hr (Nat.le_of_ble_eq_true rfl) (Nat.le_of_ble_eq_true rfl) (by decide) dX4_readTest_94
def K4_readTest (s0 : Km) (a0 : Nat) (a1 : Nat) : Option (Int32 × Km) :=
  if kK s0 a0 = 4 then
  (K4_numbered s0 a0 (97 : Int32) (4 : Int32)).bind (fun r_4 =>
  if r_4 = (-1 : Int32) then
    bi (K4_fail s0 a0 (1 : Int32)) (fun r_15 s_15 =>
    if okZ r_15 = true then some (r_15, s_15) else none)
  else
    if kK s0 a1 = 3 then
    bnd (kI s0 a1 8) (fun v3_23 =>
    if v3_23 < (4 : Int32) then
      (K4_next s0 a0).bind (fun s_36 =>
      if kK s_36 a0 = 4 then
      (K4_isSign s_36 a0 (61 : Int32)).bind (fun r_42 =>
      if r_42 = 0 then
        (K4_isSign s_36 a0 (60 : Int32)).bind (fun r_51 =>
        if r_51 = 0 then
          bi (K4_fail s_36 a0 (1 : Int32)) (fun r_59 s_59 =>
          if okZ r_59 = true then some (r_59, s_59) else none)
        else
          K4_readTest_B63 s_36 a0 a1 r_4 v3_23)
      else
        K4_readTest_B63 s_36 a0 a1 r_4 v3_23)
      else none)
    else
      bi (K4_fail s0 a0 (2 : Int32)) (fun r_31 s_31 =>
      if okZ r_31 = true then some (r_31, s_31) else none))
    else none)
  else none
set_option maxHeartbeats 4000000 in
set_option maxRecDepth 100000 in
theorem c_X4_readTest {l : Launch} {A : Nat → Prop} {Ke : State → Prop} {D : va_G} {cA : Nat → ClassId} {E : State → Heap → Prop} {adS adV adM : Nat → Nat} {adD : Nat} (hE : mEok E A) (hkw : gKw Ke) (hX : xSt l Ke E A adM adD) (hSt : sSt Ke A (KW D cA E A) adS adV) (s0 : Km) (a0 : Nat) (a1 : Nat) : gCi l yX4_readTest cX4_readTest 4 (some .boolean) rm_X4_readTest Ke (KW D cA E A) A [.ref a0, .ref a1] s0 (K4_readTest s0 a0 a1) := by
  refine g_meti (by decide) (by simp [lg_sl, Value.category]) ?_
  intro p e s m below meth c h hr hKs
  refine g_lv [(0, .ref a0), (1, .ref a1)] [0, 1] rfl ?_
  unfold K4_readTest
  refine g_aload_n h 0 dX4_readTest_0 rfl ?_
  refine g_bipush (v := 97) h dX4_readTest_1 (by decide) ?_
  refine g_iconst (v := 4) h dX4_readTest_3 (by decide) ?_
  refine k_kind (fun hk4_0 => ?_)
  refine g_callV0p h (KW_mv hE) hkw hKs [.int (97 : Int32), .int (4 : Int32)] (c_X4_numbered hE hkw hX hSt s0 a0 (97 : Int32) (4 : Int32)) yk_X4_numbered tW_576 ⟨(Nat.le_of_ble_eq_true rfl), (Nat.le_of_ble_eq_true rfl)⟩ (KW_recv a0 3 (r := (RX4, TX4, 7)) hk4_0 (by decide) rfl) rfl rfl rfl rfl (Nat.le_of_ble_eq_true rfl) dX4_readTest_4 ⟨(Nat.le_of_ble_eq_true rfl), (Nat.le_of_ble_eq_true rfl)⟩ (fun r_4 => ?_)
  refine g_istore_n h [(2, .int r_4), (0, .ref a0), (1, .ref a1)] dX4_readTest_7 (by decide) rfl ?_
  refine g_iload_n h 0 dX4_readTest_8 rfl ?_
  refine g_iconst (v := -1) h dX4_readTest_9 (by decide) ?_
  refine g_icmp_ne h 19 dX4_readTest_10 (by decide) ?_ ?_
  · refine g_aload_n h 2 dX4_readTest_19 rfl ?_
    refine k_kind (fun hk20_0 => ?_)
    refine k_geti h (RX3, TX3, 12) 2 (by decide) rfl hinX3 8 (by decide) rfl tW_534 dX4_readTest_20 hk20_0 ?_
    refine g_bndi (fun v3_23 => ?_)
    refine g_istore_n h [(3, .int v3_23), (2, .int r_4), (0, .ref a0), (1, .ref a1)] dX4_readTest_23 (by decide) rfl ?_
    refine g_iload_n h 0 dX4_readTest_24 rfl ?_
    refine g_iconst (v := 4) h dX4_readTest_25 (by decide) ?_
    refine g_icmp_lt h 35 dX4_readTest_26 (by decide) ?_ ?_
    · refine g_aload_n h 2 dX4_readTest_35 rfl ?_
      refine g_callV0v h (KW_mv hE) hkw hKs [] (c_X4_next hE hkw hX hSt s0 a0) yk_X4_next tW_429 ⟨(Nat.le_of_ble_eq_true rfl), (Nat.le_of_ble_eq_true rfl)⟩ (KW_recv a0 3 (r := (RX4, TX4, 7)) hk4_0 (by decide) rfl) rfl rfl rfl rfl (Nat.le_of_ble_eq_true rfl) dX4_readTest_36 ⟨(Nat.le_of_ble_eq_true rfl), (Nat.le_of_ble_eq_true rfl)⟩ (fun s_36 => ?_)
      refine g_aload_n h 2 dX4_readTest_39 rfl ?_
      refine g_bipush (v := 61) h dX4_readTest_40 (by decide) ?_
      refine k_kind (fun hk42_0 => ?_)
      refine g_callV0p h (KW_mv hE) hkw hKs [.int (61 : Int32)] (c_X4_isSign hE hkw hX hSt s_36 a0 (61 : Int32)) yk_X4_isSign tW_610 ⟨(Nat.le_of_ble_eq_true rfl), (Nat.le_of_ble_eq_true rfl)⟩ (KW_recv a0 3 (r := (RX4, TX4, 7)) hk42_0 (by decide) rfl) rfl rfl rfl rfl (Nat.le_of_ble_eq_true rfl) dX4_readTest_42 ⟨(Nat.le_of_ble_eq_true rfl), (Nat.le_of_ble_eq_true rfl)⟩ (fun r_42 => ?_)
      refine g_if_ne h 63 dX4_readTest_45 (by decide) ?_ ?_
      · refine g_lv [(0, .ref a0), (1, .ref a1), (2, .int r_4), (3, .int v3_23)] [2, 3, 1, 0] rfl ?_
        exact K4_readTest_B63_w h hKs hE hkw hX hSt s_36 a0 a1 r_4 v3_23 hr
      · refine g_aload_n h 2 dX4_readTest_48 rfl ?_
        refine g_bipush (v := 60) h dX4_readTest_49 (by decide) ?_
        refine g_callV0p h (KW_mv hE) hkw hKs [.int (60 : Int32)] (c_X4_isSign hE hkw hX hSt s_36 a0 (60 : Int32)) yk_X4_isSign tW_610 ⟨(Nat.le_of_ble_eq_true rfl), (Nat.le_of_ble_eq_true rfl)⟩ (KW_recv a0 3 (r := (RX4, TX4, 7)) hk42_0 (by decide) rfl) rfl rfl rfl rfl (Nat.le_of_ble_eq_true rfl) dX4_readTest_51 ⟨(Nat.le_of_ble_eq_true rfl), (Nat.le_of_ble_eq_true rfl)⟩ (fun r_51 => ?_)
        refine g_if_ne h 63 dX4_readTest_54 (by decide) ?_ ?_
        · refine g_lv [(0, .ref a0), (1, .ref a1), (2, .int r_4), (3, .int v3_23)] [2, 3, 1, 0] rfl ?_
          exact K4_readTest_B63_w h hKs hE hkw hX hSt s_36 a0 a1 r_4 v3_23 hr
        · refine g_aload_n h 2 dX4_readTest_57 rfl ?_
          refine g_iconst (v := 1) h dX4_readTest_58 (by decide) ?_
          refine g_callV0i h (KW_mv hE) hkw hKs [.int (1 : Int32)] (c_X4_fail hE hkw hX hSt s_36 a0 (1 : Int32)) yk_X4_fail tW_502 ⟨(Nat.le_of_ble_eq_true rfl), (Nat.le_of_ble_eq_true rfl)⟩ (KW_recv a0 3 (r := (RX4, TX4, 7)) hk42_0 (by decide) rfl) rfl rfl rfl rfl (Nat.le_of_ble_eq_true rfl) dX4_readTest_59 ⟨(Nat.le_of_ble_eq_true rfl), (Nat.le_of_ble_eq_true rfl)⟩ (fun r_59 s_59 => ?_)
          refine g_guard (fun hz => ?_)
          exact g_zret h (KW_mv hE) hr (Nat.le_of_ble_eq_true rfl) (Nat.le_of_ble_eq_true rfl) hz dX4_readTest_62
    · refine g_aload_n h 2 dX4_readTest_29 rfl ?_
      refine g_iconst (v := 2) h dX4_readTest_30 (by decide) ?_
      refine g_callV0i h (KW_mv hE) hkw hKs [.int (2 : Int32)] (c_X4_fail hE hkw hX hSt s0 a0 (2 : Int32)) yk_X4_fail tW_502 ⟨(Nat.le_of_ble_eq_true rfl), (Nat.le_of_ble_eq_true rfl)⟩ (KW_recv a0 3 (r := (RX4, TX4, 7)) hk4_0 (by decide) rfl) rfl rfl rfl rfl (Nat.le_of_ble_eq_true rfl) dX4_readTest_31 ⟨(Nat.le_of_ble_eq_true rfl), (Nat.le_of_ble_eq_true rfl)⟩ (fun r_31 s_31 => ?_)
      refine g_guard (fun hz => ?_)
      exact g_zret h (KW_mv hE) hr (Nat.le_of_ble_eq_true rfl) (Nat.le_of_ble_eq_true rfl) hz dX4_readTest_34
  · refine g_aload_n h 1 dX4_readTest_13 rfl ?_
    refine g_iconst (v := 1) h dX4_readTest_14 (by decide) ?_
    refine g_callV0i h (KW_mv hE) hkw hKs [.int (1 : Int32)] (c_X4_fail hE hkw hX hSt s0 a0 (1 : Int32)) yk_X4_fail tW_502 ⟨(Nat.le_of_ble_eq_true rfl), (Nat.le_of_ble_eq_true rfl)⟩ (KW_recv a0 3 (r := (RX4, TX4, 7)) hk4_0 (by decide) rfl) rfl rfl rfl rfl (Nat.le_of_ble_eq_true rfl) dX4_readTest_15 ⟨(Nat.le_of_ble_eq_true rfl), (Nat.le_of_ble_eq_true rfl)⟩ (fun r_15 s_15 => ?_)
    refine g_guard (fun hz => ?_)
    exact g_zret h (KW_mv hE) hr (Nat.le_of_ble_eq_true rfl) (Nat.le_of_ble_eq_true rfl) hz dX4_readTest_18
def rm_X4_readTests : Room := { frames := 5, cells := 0, slots := 0, locals := 107 }
theorem yk_X4_readTests : yOkV yX4_readTests cX4_readTests 4 (some .boolean) RX4 1 := ⟨tW_604, tW_13, tW_603, tP_17, by decide, by decide, by decide +kernel⟩
def K4_readTests_L9 {Rt : Type} (a0 : Nat) (a1 : Nat) (k30 : Km → Option Rt) (k45 : Km → Option Rt) : Nat → Km → Int32 → Int32 → Option Rt
  | 0, _, _, _ => none
  | F + 1, s0, l2, l3 =>
  if (4 : Int32) < l3 then
      k45 s0
    else
      if l2 = 0 then
        k45 s0
      else
        if kK s0 a0 = 4 then
        (K4_next s0 a0).bind (fun s_19 =>
        if kK s_19 a0 = 4 then
        bi (K4_readTest s_19 a0 a1) (fun r_24 s_24 =>
        if r_24 = 0 then
          k30 s_24
        else
          if kK s_24 a0 = 4 then
          (K4_isWord s_24 a0 (sW 22)).bind (fun r_35 =>
          K4_readTests_L9 a0 a1 k30 k45 F s_24 r_35 (l3 + 1))
          else none)
        else none)
        else none
set_option maxHeartbeats 4000000 in
set_option maxRecDepth 100000 in
theorem K4_readTests_L9_w {p : Program} {l : Launch} {e : Env} {s : State} {m : MethodId} {args : Array Value} {below : List Frame} {meth : Method} {c : Code} {A : Nat → Prop} {Ke : State → Prop} {D : va_G} {cA : Nat → ClassId} {E : State → Heap → Prop} {adS adV adM : Nat → Nat} {adD : Nat} (h : gOk p s m args meth c cX4_readTests 4 RX4 tb) (hKs : Ke s) (hE : mEok E A) (hkw : gKw Ke) (hX : xSt l Ke E A adM adD) (hSt : sSt Ke A (KW D cA E A) adS adV) {Rt : Type} {QX : Rt → State → Prop} (a0 : Nat) (a1 : Nat) {k30 : Km → Option Rt} {k45 : Km → Option Rt} (hk30 : ∀ (sx : Km), gS p l e rm_X4_readTests s m args below meth c 4 A (KW D cA E A) QX (0) (0) (k30 sx) sx 30 [] []) (hk45 : ∀ (sx : Km), gS p l e rm_X4_readTests s m args below meth c 4 A (KW D cA E A) QX (0) (0) (k45 sx) sx 45 [] []) : ∀ (F : Nat), ∀ (s0 : Km) (l2 : Int32) (l3 : Int32), gS p l e rm_X4_readTests s m args below meth c 4 A (KW D cA E A) QX (0) (0) (K4_readTests_L9 a0 a1 k30 k45 F s0 l2 l3) s0 9 [(0, .ref a0), (1, .ref a1), (2, .int l2), (3, .int l3)] [] := by
  intro F
  induction F with
  | zero =>
    intro s0 l2 l3
    unfold K4_readTests_L9
    exact g_none
  | succ F ih =>
    intro s0 l2 l3
    unfold K4_readTests_L9
    refine g_iload_n h 3 dX4_readTests_9 rfl ?_
    refine g_iconst (v := 4) h dX4_readTests_10 (by decide) ?_
    refine g_icmp_gt h 45 dX4_readTests_11 (by decide) ?_ ?_
    · refine g_lv [] [] rfl ?_
      exact hk45 s0
    · refine g_iload_n h 2 dX4_readTests_14 rfl ?_
      refine g_if_eq h 45 dX4_readTests_15 (by decide) ?_ ?_
      · refine g_lv [] [] rfl ?_
        exact hk45 s0
      · refine g_aload_n h 0 dX4_readTests_18 rfl ?_
        refine k_kind (fun hk19_0 => ?_)
        refine g_callV0v h (KW_mv hE) hkw hKs [] (c_X4_next hE hkw hX hSt s0 a0) yk_X4_next tW_429 ⟨(Nat.le_of_ble_eq_true rfl), (Nat.le_of_ble_eq_true rfl)⟩ (KW_recv a0 3 (r := (RX4, TX4, 7)) hk19_0 (by decide) rfl) rfl rfl rfl rfl (Nat.le_of_ble_eq_true rfl) dX4_readTests_19 ⟨(Nat.le_of_ble_eq_true rfl), (Nat.le_of_ble_eq_true rfl)⟩ (fun s_19 => ?_)
        refine g_aload_n h 0 dX4_readTests_22 rfl ?_
        refine g_aload_n h 1 dX4_readTests_23 rfl ?_
        refine k_kind (fun hk24_0 => ?_)
        refine g_callV0i h (KW_mv hE) hkw hKs [.ref a1] (c_X4_readTest hE hkw hX hSt s_19 a0 a1) yk_X4_readTest tW_606 ⟨(Nat.le_of_ble_eq_true rfl), (Nat.le_of_ble_eq_true rfl)⟩ (KW_recv a0 3 (r := (RX4, TX4, 7)) hk24_0 (by decide) rfl) rfl rfl rfl rfl (Nat.le_of_ble_eq_true rfl) dX4_readTests_24 ⟨(Nat.le_of_ble_eq_true rfl), (Nat.le_of_ble_eq_true rfl)⟩ (fun r_24 s_24 => ?_)
        refine g_if_ne h 32 dX4_readTests_27 (by decide) ?_ ?_
        · refine g_aload_n h 0 dX4_readTests_32 rfl ?_
          refine g_ldcS h (hSt.2.2 _ hKs 22 (by decide)) dX4_readTests_33 ?_
          refine k_kind (fun hk35_0 => ?_)
          refine g_callV0p h (KW_mv hE) hkw hKs [.ref (adS 22)] (c_X4_isWord hE hkw hX hSt (hSt.2.1 22 (by decide)) (by decide) s_24 a0) yk_X4_isWord tW_448 ⟨(Nat.le_of_ble_eq_true rfl), (Nat.le_of_ble_eq_true rfl)⟩ (KW_recv a0 3 (r := (RX4, TX4, 7)) hk35_0 (by decide) rfl) rfl rfl rfl rfl (Nat.le_of_ble_eq_true rfl) dX4_readTests_35 ⟨(Nat.le_of_ble_eq_true rfl), (Nat.le_of_ble_eq_true rfl)⟩ (fun r_35 => ?_)
          refine g_istore_n h [(2, .int r_35), (0, .ref a0), (1, .ref a1), (3, .int l3)] dX4_readTests_38 (by decide) rfl ?_
          refine g_iinc (v := l3 + 1) (i := 3) h [(3, .int (l3 + 1)), (2, .int r_35), (0, .ref a0), (1, .ref a1)] dX4_readTests_39 rfl rfl (by decide) rfl ?_
          refine g_goto h 9 dX4_readTests_42 (by decide) ?_
          refine g_lv [(0, .ref a0), (1, .ref a1), (2, .int r_35), (3, .int (l3 + 1))] [2, 3, 1, 0] rfl ?_
          exact ih s_24 r_35 (l3 + 1)
        · refine g_lv [] [] rfl ?_
          exact hk30 s_24
def K4_readTests_B45 (s0 : Km)  : Option (Int32 × Km) :=
  some ((1 : Int32), s0)
set_option maxHeartbeats 4000000 in
set_option maxRecDepth 100000 in
theorem K4_readTests_B45_w {p : Program} {l : Launch} {e : Env} {s : State} {m : MethodId} {args : Array Value} {below : List Frame} {meth : Method} {c : Code} {A : Nat → Prop} {Ke : State → Prop} {D : va_G} {cA : Nat → ClassId} {E : State → Heap → Prop} {adS adV adM : Nat → Nat} {adD : Nat} (h : gOk p s m args meth c cX4_readTests 4 RX4 tb) (hKs : Ke s) (hE : mEok E A) (hkw : gKw Ke) (hX : xSt l Ke E A adM adD) (hSt : sSt Ke A (KW D cA E A) adS adV) (s0 : Km)  (hr : meth.sig.returnType = some .boolean)  : gS p l e rm_X4_readTests s m args below meth c 4 A (KW D cA E A) (fun X => MQ below (gPi (KW D cA E A) A X) args s rm_X4_readTests.cells rm_X4_readTests.slots A) (0) (0) (K4_readTests_B45 s0) s0 45 [] [] := by
  unfold K4_readTests_B45
  refine g_iconst (v := 1) h dX4_readTests_45 (by decide) ?_
  exact g_zret h (KW_mv hE) hr (Nat.le_of_ble_eq_true rfl) (Nat.le_of_ble_eq_true rfl) (by decide) dX4_readTests_46
def K4_readTests (s0 : Km) (a0 : Nat) (a1 : Nat) : Option (Int32 × Km) :=
  if kK s0 a0 = 4 then
  (K4_isWord s0 a0 (sW 21)).bind (fun r_3 =>
  K4_readTests_L9 a0 a1 (fun s_30 => some ((0 : Int32), s_30)) (fun s_45 => K4_readTests_B45 s_45) gF s0 r_3 (0 : Int32))
  else none
set_option maxHeartbeats 4000000 in
set_option maxRecDepth 100000 in
theorem c_X4_readTests {l : Launch} {A : Nat → Prop} {Ke : State → Prop} {D : va_G} {cA : Nat → ClassId} {E : State → Heap → Prop} {adS adV adM : Nat → Nat} {adD : Nat} (hE : mEok E A) (hkw : gKw Ke) (hX : xSt l Ke E A adM adD) (hSt : sSt Ke A (KW D cA E A) adS adV) (s0 : Km) (a0 : Nat) (a1 : Nat) : gCi l yX4_readTests cX4_readTests 4 (some .boolean) rm_X4_readTests Ke (KW D cA E A) A [.ref a0, .ref a1] s0 (K4_readTests s0 a0 a1) := by
  refine g_meti (by decide) (by simp [lg_sl, Value.category]) ?_
  intro p e s m below meth c h hr hKs
  refine g_lv [(0, .ref a0), (1, .ref a1)] [0, 1] rfl ?_
  unfold K4_readTests
  refine g_aload_n h 0 dX4_readTests_0 rfl ?_
  refine g_ldcS h (hSt.2.2 _ hKs 21 (by decide)) dX4_readTests_1 ?_
  refine k_kind (fun hk3_0 => ?_)
  refine g_callV0p h (KW_mv hE) hkw hKs [.ref (adS 21)] (c_X4_isWord hE hkw hX hSt (hSt.2.1 21 (by decide)) (by decide) s0 a0) yk_X4_isWord tW_448 ⟨(Nat.le_of_ble_eq_true rfl), (Nat.le_of_ble_eq_true rfl)⟩ (KW_recv a0 3 (r := (RX4, TX4, 7)) hk3_0 (by decide) rfl) rfl rfl rfl rfl (Nat.le_of_ble_eq_true rfl) dX4_readTests_3 ⟨(Nat.le_of_ble_eq_true rfl), (Nat.le_of_ble_eq_true rfl)⟩ (fun r_3 => ?_)
  refine g_istore_n h [(2, .int r_3), (0, .ref a0), (1, .ref a1)] dX4_readTests_6 (by decide) rfl ?_
  refine g_iconst (v := 0) h dX4_readTests_7 (by decide) ?_
  refine g_istore_n h [(3, .int (0 : Int32)), (2, .int r_3), (0, .ref a0), (1, .ref a1)] dX4_readTests_8 (by decide) rfl ?_
  refine g_lv [(0, .ref a0), (1, .ref a1), (2, .int r_3), (3, .int (0 : Int32))] [2, 3, 1, 0] rfl ?_
  refine K4_readTests_L9_w h hKs hE hkw hX hSt a0 a1 (fun s_30 => ?_) (fun s_45 => ?_) gF s0 r_3 (0 : Int32)
  · refine g_iconst (v := 0) h dX4_readTests_30 (by decide) ?_
    exact g_zret h (KW_mv hE) hr (Nat.le_of_ble_eq_true rfl) (Nat.le_of_ble_eq_true rfl) (by decide) dX4_readTests_31
  · exact K4_readTests_B45_w h hKs hE hkw hX hSt s_45  hr
def rm_X4_readRank : Room := { frames := 5, cells := 0, slots := 0, locals := 107 }
theorem yk_X4_readRank : yOkV yX4_readRank cX4_readRank 2 (some .boolean) RX4 1 := ⟨tW_618, tW_13, tW_617, tP_20, by decide, by decide, by decide +kernel⟩
def K4_readRank (s0 : Km) (a0 : Nat) (a1 : Nat) : Option (Int32 × Km) :=
  if kK s0 a0 = 4 then
  (K4_isWord s0 a0 (sW 23)).bind (fun r_3 =>
  if r_3 = 0 then
    some ((1 : Int32), s0)
  else
    (K4_next s0 a0).bind (fun s_12 =>
    if kK s_12 a0 = 4 then
    bi (K4_checkNumber s_12 a0) (fun r_16 s_16 =>
    if r_16 = 0 then
      some ((0 : Int32), s_16)
    else
      if kK s_16 a0 = 4 then
      (K4_number s_16 a0).bind (fun r_26 =>
      if kK s_16 a1 = 3 then
      bnd (kSetI s_16 a1 7 r_26) (fun s_29 =>
      (K4_next s_29 a0).bind (fun s_33 =>
      some ((1 : Int32), s_33)))
      else none)
      else none)
    else none))
  else none
set_option maxHeartbeats 4000000 in
set_option maxRecDepth 100000 in
theorem c_X4_readRank {l : Launch} {A : Nat → Prop} {Ke : State → Prop} {D : va_G} {cA : Nat → ClassId} {E : State → Heap → Prop} {adS adV adM : Nat → Nat} {adD : Nat} (hE : mEok E A) (hkw : gKw Ke) (hX : xSt l Ke E A adM adD) (hSt : sSt Ke A (KW D cA E A) adS adV) (s0 : Km) (a0 : Nat) (a1 : Nat) : gCi l yX4_readRank cX4_readRank 2 (some .boolean) rm_X4_readRank Ke (KW D cA E A) A [.ref a0, .ref a1] s0 (K4_readRank s0 a0 a1) := by
  refine g_meti (by decide) (by simp [lg_sl, Value.category]) ?_
  intro p e s m below meth c h hr hKs
  refine g_lv [(0, .ref a0), (1, .ref a1)] [0, 1] rfl ?_
  unfold K4_readRank
  refine g_aload_n h 0 dX4_readRank_0 rfl ?_
  refine g_ldcS h (hSt.2.2 _ hKs 23 (by decide)) dX4_readRank_1 ?_
  refine k_kind (fun hk3_0 => ?_)
  refine g_callV0p h (KW_mv hE) hkw hKs [.ref (adS 23)] (c_X4_isWord hE hkw hX hSt (hSt.2.1 23 (by decide)) (by decide) s0 a0) yk_X4_isWord tW_448 ⟨(Nat.le_of_ble_eq_true rfl), (Nat.le_of_ble_eq_true rfl)⟩ (KW_recv a0 3 (r := (RX4, TX4, 7)) hk3_0 (by decide) rfl) rfl rfl rfl rfl (Nat.le_of_ble_eq_true rfl) dX4_readRank_3 ⟨(Nat.le_of_ble_eq_true rfl), (Nat.le_of_ble_eq_true rfl)⟩ (fun r_3 => ?_)
  refine g_if_ne h 11 dX4_readRank_6 (by decide) ?_ ?_
  · refine g_aload_n h 0 dX4_readRank_11 rfl ?_
    refine g_callV0v h (KW_mv hE) hkw hKs [] (c_X4_next hE hkw hX hSt s0 a0) yk_X4_next tW_429 ⟨(Nat.le_of_ble_eq_true rfl), (Nat.le_of_ble_eq_true rfl)⟩ (KW_recv a0 3 (r := (RX4, TX4, 7)) hk3_0 (by decide) rfl) rfl rfl rfl rfl (Nat.le_of_ble_eq_true rfl) dX4_readRank_12 ⟨(Nat.le_of_ble_eq_true rfl), (Nat.le_of_ble_eq_true rfl)⟩ (fun s_12 => ?_)
    refine g_aload_n h 0 dX4_readRank_15 rfl ?_
    refine k_kind (fun hk16_0 => ?_)
    refine g_callV0i h (KW_mv hE) hkw hKs [] (c_X4_checkNumber hE hkw hX hSt s_12 a0) yk_X4_checkNumber tW_589 ⟨(Nat.le_of_ble_eq_true rfl), (Nat.le_of_ble_eq_true rfl)⟩ (KW_recv a0 3 (r := (RX4, TX4, 7)) hk16_0 (by decide) rfl) rfl rfl rfl rfl (Nat.le_of_ble_eq_true rfl) dX4_readRank_16 ⟨(Nat.le_of_ble_eq_true rfl), (Nat.le_of_ble_eq_true rfl)⟩ (fun r_16 s_16 => ?_)
    refine g_if_ne h 24 dX4_readRank_19 (by decide) ?_ ?_
    · refine g_aload_n h 1 dX4_readRank_24 rfl ?_
      refine g_aload_n h 0 dX4_readRank_25 rfl ?_
      refine k_kind (fun hk26_0 => ?_)
      refine g_callV0p h (KW_mv hE) hkw hKs [] (c_X4_number hE hkw hX hSt s_16 a0) yk_X4_number tW_593 ⟨(Nat.le_of_ble_eq_true rfl), (Nat.le_of_ble_eq_true rfl)⟩ (KW_recv a0 3 (r := (RX4, TX4, 7)) hk26_0 (by decide) rfl) rfl rfl rfl rfl (Nat.le_of_ble_eq_true rfl) dX4_readRank_26 ⟨(Nat.le_of_ble_eq_true rfl), (Nat.le_of_ble_eq_true rfl)⟩ (fun r_26 => ?_)
      refine k_kind (fun hk29_0 => ?_)
      refine k_puti (x := r_26) h hE (RX3, TX3, 12) 2 (by decide) rfl hinX3 7 (by decide) rfl tyX3 tyX3_ok nmX3 rfl tW_532 rfl rfl dX4_readRank_29 hk29_0 ?_
      refine g_bndE (fun s_29 hs_29 => ?_)
      refine g_aload_n h 0 dX4_readRank_32 rfl ?_
      refine g_callV0v h (KW_mv hE) hkw hKs [] (c_X4_next hE hkw hX hSt s_29 a0) yk_X4_next tW_429 ⟨(Nat.le_of_ble_eq_true rfl), (Nat.le_of_ble_eq_true rfl)⟩ (KW_recv a0 3 (r := (RX4, TX4, 7)) (kKsI hs_29 hk26_0) (by decide) rfl) rfl rfl rfl rfl (Nat.le_of_ble_eq_true rfl) dX4_readRank_33 ⟨(Nat.le_of_ble_eq_true rfl), (Nat.le_of_ble_eq_true rfl)⟩ (fun s_33 => ?_)
      refine g_iconst (v := 1) h dX4_readRank_36 (by decide) ?_
      exact g_zret h (KW_mv hE) hr (Nat.le_of_ble_eq_true rfl) (Nat.le_of_ble_eq_true rfl) (by decide) dX4_readRank_37
    · refine g_iconst (v := 0) h dX4_readRank_22 (by decide) ?_
      exact g_zret h (KW_mv hE) hr (Nat.le_of_ble_eq_true rfl) (Nat.le_of_ble_eq_true rfl) (by decide) dX4_readRank_23
  · refine g_iconst (v := 1) h dX4_readRank_9 (by decide) ?_
    exact g_zret h (KW_mv hE) hr (Nat.le_of_ble_eq_true rfl) (Nat.le_of_ble_eq_true rfl) (by decide) dX4_readRank_10
def rm_X5_putInTurn : Room := { frames := 0, cells := 0, slots := 0, locals := 0 }
theorem yk_X5_putInTurn : yOkV yX5_putInTurn cX5_putInTurn 4 (none) RX5 2 := ⟨tW_628, tW_12, tW_627, tP_21, by decide, by decide, by decide +kernel⟩
def K5_putInTurn_L5 {Rt : Type} (a0 : Nat) (a1 : Int32) (a2 : Int32) (k49 : Km → Int32 → Option Rt) : Nat → Km → Int32 → Option Rt
  | 0, _, _ => none
  | F + 1, s0, l3 =>
  if l3 ≤ 0 then
      k49 s0 l3
    else
      if kK s0 a0 = 5 then
      (kR s0 a0 1).bind (fun b10 =>
      (kR s0 a0 3).bind (fun b14 =>
      if kK s0 b14 = 12 then
      if okI (l3 - (1 : Int32)) (kN s0 b14) = true then
      if kK s0 b10 = 15 then
      if okI (kI s0 b14 (l3 - (1 : Int32)).toNatClampNeg) (kN s0 b10) = true then
      (kR s0 b10 (kI s0 b14 (l3 - (1 : Int32)).toNatClampNeg).toNatClampNeg).bind (fun b21 =>
      if kK s0 b21 = 3 then
      if a2 ≤ kI s0 b21 7 then
        k49 s0 l3
      else
        (kR s0 a0 3).bind (fun b30 =>
        (kR s0 a0 3).bind (fun b35 =>
        if kK s0 b35 = 12 then
        if okI (l3 - (1 : Int32)) (kN s0 b35) = true then
        if kK s0 b30 = 12 then
        if okI l3 (kN s0 b30) = true then
        bnd (kSetI s0 b30 l3.toNatClampNeg (kI s0 b35 (l3 - (1 : Int32)).toNatClampNeg)) (fun s_42 =>
        K5_putInTurn_L5 a0 a1 a2 k49 F s_42 (l3 + (-1)))
        else none
        else none
        else none
        else none))
      else none)
      else none
      else none
      else none
      else none))
      else none
set_option maxHeartbeats 4000000 in
set_option maxRecDepth 100000 in
theorem K5_putInTurn_L5_w {p : Program} {l : Launch} {e : Env} {s : State} {m : MethodId} {args : Array Value} {below : List Frame} {meth : Method} {c : Code} {A : Nat → Prop} {Ke : State → Prop} {D : va_G} {cA : Nat → ClassId} {E : State → Heap → Prop} {adS adV adM : Nat → Nat} {adD : Nat} (h : gOk p s m args meth c cX5_putInTurn 4 RX5 tb) (hKs : Ke s) (hE : mEok E A) (hkw : gKw Ke) (hX : xSt l Ke E A adM adD) (hSt : sSt Ke A (KW D cA E A) adS adV) {Rt : Type} {QX : Rt → State → Prop} (a0 : Nat) (a1 : Int32) (a2 : Int32) {k49 : Km → Int32 → Option Rt} (hk49 : ∀ (sx : Km) (l3 : Int32), gS p l e rm_X5_putInTurn s m args below meth c 4 A (KW D cA E A) QX (0) (0) (k49 sx l3) sx 49 [(0, .ref a0), (1, .int a1), (3, .int l3)] []) : ∀ (F : Nat), ∀ (s0 : Km) (l3 : Int32), gS p l e rm_X5_putInTurn s m args below meth c 4 A (KW D cA E A) QX (0) (0) (K5_putInTurn_L5 a0 a1 a2 k49 F s0 l3) s0 5 [(0, .ref a0), (1, .int a1), (2, .int a2), (3, .int l3)] [] := by
  intro F
  induction F with
  | zero =>
    intro s0 l3
    unfold K5_putInTurn_L5
    exact g_none
  | succ F ih =>
    intro s0 l3
    unfold K5_putInTurn_L5
    refine g_iload_n h 3 dX5_putInTurn_5 rfl ?_
    refine g_if_le h 49 dX5_putInTurn_6 (by decide) ?_ ?_
    · refine g_lv [(0, .ref a0), (1, .int a1), (3, .int l3)] [0, 1, 3] rfl ?_
      exact hk49 s0 l3
    · refine g_aload_n h 0 dX5_putInTurn_9 rfl ?_
      refine k_kind (fun hk10_0 => ?_)
      refine k_getr h (RX5, TX5, 5) 4 (by decide) rfl hinX5 1 (by decide) rfl tW_374 dX5_putInTurn_10 hk10_0 ?_
      refine g_ob (fun b10 => ?_)
      refine g_aload_n h 0 dX5_putInTurn_13 rfl ?_
      refine k_getr h (RX5, TX5, 5) 4 (by decide) rfl hinX5 3 (by decide) rfl tW_379 dX5_putInTurn_14 hk10_0 ?_
      refine g_ob (fun b14 => ?_)
      refine g_iload_n h 3 dX5_putInTurn_17 rfl ?_
      refine g_iconst (v := 1) h dX5_putInTurn_18 (by decide) ?_
      refine g_isub h dX5_putInTurn_19 ?_
      refine k_kind (fun hk20_0 => ?_)
      refine k_iald h dX5_putInTurn_20 hk20_0 ?_
      refine k_kind (fun hk21_0 => ?_)
      refine k_aald h 15 4 (by decide) "KeepForget$Rule" rfl dX5_putInTurn_21 hk21_0 ?_
      refine g_ob (fun b21 => ?_)
      refine k_kind (fun hk22_0 => ?_)
      refine k_geti h (RX3, TX3, 12) 2 (by decide) rfl hinX3 7 (by decide) rfl tW_531 dX5_putInTurn_22 hk22_0 ?_
      refine g_iload_n h 2 dX5_putInTurn_25 rfl ?_
      refine g_icmp_ge h 49 dX5_putInTurn_26 (by decide) ?_ ?_
      · refine g_lv [(0, .ref a0), (1, .int a1), (3, .int l3)] [0, 1, 3] rfl ?_
        exact hk49 s0 l3
      · refine g_aload_n h 0 dX5_putInTurn_29 rfl ?_
        refine k_getr h (RX5, TX5, 5) 4 (by decide) rfl hinX5 3 (by decide) rfl tW_379 dX5_putInTurn_30 hk10_0 ?_
        refine g_ob (fun b30 => ?_)
        refine g_iload_n h 3 dX5_putInTurn_33 rfl ?_
        refine g_aload_n h 0 dX5_putInTurn_34 rfl ?_
        refine k_getr h (RX5, TX5, 5) 4 (by decide) rfl hinX5 3 (by decide) rfl tW_379 dX5_putInTurn_35 hk10_0 ?_
        refine g_ob (fun b35 => ?_)
        refine g_iload_n h 3 dX5_putInTurn_38 rfl ?_
        refine g_iconst (v := 1) h dX5_putInTurn_39 (by decide) ?_
        refine g_isub h dX5_putInTurn_40 ?_
        refine k_kind (fun hk41_0 => ?_)
        refine k_iald h dX5_putInTurn_41 hk41_0 ?_
        refine k_kind (fun hk42_0 => ?_)
        refine k_iast h hE dX5_putInTurn_42 hk42_0 ?_
        refine g_bndE (fun s_42 hs_42 => ?_)
        refine g_iinc (v := l3 + (-1)) (i := 3) h [(3, .int (l3 + (-1))), (0, .ref a0), (1, .int a1), (2, .int a2)] dX5_putInTurn_43 rfl rfl (by decide) rfl ?_
        refine g_goto h 5 dX5_putInTurn_46 (by decide) ?_
        refine g_lv [(0, .ref a0), (1, .int a1), (2, .int a2), (3, .int (l3 + (-1)))] [1, 2, 3, 0] rfl ?_
        exact ih s_42 (l3 + (-1))
def K5_putInTurn_B49 (s0 : Km) (a0 : Nat) (a1 : Int32) (l3 : Int32) : Option (Km) :=
  if kK s0 a0 = 5 then
  (kR s0 a0 3).bind (fun b50 =>
  if kK s0 b50 = 12 then
  if okI l3 (kN s0 b50) = true then
  bnd (kSetI s0 b50 l3.toNatClampNeg a1) (fun s_55 =>
  bnd (kSetI s_55 a0 4 ((kI s_55 a0 4) + (1 : Int32))) (fun s_63 =>
  some s_63))
  else none
  else none)
  else none
set_option maxHeartbeats 4000000 in
set_option maxRecDepth 100000 in
theorem K5_putInTurn_B49_w {p : Program} {l : Launch} {e : Env} {s : State} {m : MethodId} {args : Array Value} {below : List Frame} {meth : Method} {c : Code} {A : Nat → Prop} {Ke : State → Prop} {D : va_G} {cA : Nat → ClassId} {E : State → Heap → Prop} {adS adV adM : Nat → Nat} {adD : Nat} (h : gOk p s m args meth c cX5_putInTurn 4 RX5 tb) (hKs : Ke s) (hE : mEok E A) (hkw : gKw Ke) (hX : xSt l Ke E A adM adD) (hSt : sSt Ke A (KW D cA E A) adS adV) (s0 : Km) (a0 : Nat) (a1 : Int32) (l3 : Int32) (hr : meth.sig.returnType = none)  : gS p l e rm_X5_putInTurn s m args below meth c 4 A (KW D cA E A) (fun X => MQ below (gPv (KW D cA E A) A X) args s rm_X5_putInTurn.cells rm_X5_putInTurn.slots A) (0) (0) (K5_putInTurn_B49 s0 a0 a1 l3) s0 49 [(0, .ref a0), (1, .int a1), (3, .int l3)] [] := by
  unfold K5_putInTurn_B49
  refine g_aload_n h 0 dX5_putInTurn_49 rfl ?_
  refine k_kind (fun hk50_0 => ?_)
  refine k_getr h (RX5, TX5, 5) 4 (by decide) rfl hinX5 3 (by decide) rfl tW_379 dX5_putInTurn_50 hk50_0 ?_
  refine g_ob (fun b50 => ?_)
  refine g_iload_n h 2 dX5_putInTurn_53 rfl ?_
  refine g_iload_n h 1 dX5_putInTurn_54 rfl ?_
  refine k_kind (fun hk55_0 => ?_)
  refine k_iast h hE dX5_putInTurn_55 hk55_0 ?_
  refine g_bndE (fun s_55 hs_55 => ?_)
  refine g_aload_n h 0 dX5_putInTurn_56 rfl ?_
  refine g_dup h dX5_putInTurn_57 rfl ?_
  refine k_geti h (RX5, TX5, 5) 4 (by decide) rfl hinX5 4 (by decide) rfl tW_382 dX5_putInTurn_58 (kKsI hs_55 hk50_0) ?_
  refine g_iconst (v := 1) h dX5_putInTurn_61 (by decide) ?_
  refine g_iadd h dX5_putInTurn_62 ?_
  refine k_puti (x := ((kI s_55 a0 4) + (1 : Int32))) h hE (RX5, TX5, 5) 4 (by decide) rfl hinX5 4 (by decide) rfl tyX5 tyX5_ok nmX5 rfl tW_382 rfl rfl dX5_putInTurn_63 (kKsI hs_55 hk50_0) ?_
  refine g_bndE (fun s_63 hs_63 => ?_)
  exact g_vret h (KW_mv hE) hr (Nat.le_of_ble_eq_true rfl) (Nat.le_of_ble_eq_true rfl) dX5_putInTurn_66
def K5_putInTurn (s0 : Km) (a0 : Nat) (a1 : Int32) (a2 : Int32) : Option (Km) :=
  if kK s0 a0 = 5 then
  bnd (kI s0 a0 4) (fun v3_4 =>
  K5_putInTurn_L5 a0 a1 a2 (fun s_49 v3_49 => K5_putInTurn_B49 s_49 a0 a1 v3_49) gF s0 v3_4)
  else none
set_option maxHeartbeats 4000000 in
set_option maxRecDepth 100000 in
theorem c_X5_putInTurn {l : Launch} {A : Nat → Prop} {Ke : State → Prop} {D : va_G} {cA : Nat → ClassId} {E : State → Heap → Prop} {adS adV adM : Nat → Nat} {adD : Nat} (hE : mEok E A) (hkw : gKw Ke) (hX : xSt l Ke E A adM adD) (hSt : sSt Ke A (KW D cA E A) adS adV) (s0 : Km) (a0 : Nat) (a1 : Int32) (a2 : Int32) : gCv l yX5_putInTurn cX5_putInTurn 4 (none) rm_X5_putInTurn Ke (KW D cA E A) A [.ref a0, .int a1, .int a2] s0 (K5_putInTurn s0 a0 a1 a2) := by
  refine g_metv (by decide) (by simp [lg_sl, Value.category]) ?_
  intro p e s m below meth c h hr hKs
  refine g_lv [(0, .ref a0), (1, .int a1), (2, .int a2)] [0, 1, 2] rfl ?_
  unfold K5_putInTurn
  refine g_aload_n h 0 dX5_putInTurn_0 rfl ?_
  refine k_kind (fun hk1_0 => ?_)
  refine k_geti h (RX5, TX5, 5) 4 (by decide) rfl hinX5 4 (by decide) rfl tW_382 dX5_putInTurn_1 hk1_0 ?_
  refine g_bndi (fun v3_4 => ?_)
  refine g_istore_n h [(3, .int v3_4), (0, .ref a0), (1, .int a1), (2, .int a2)] dX5_putInTurn_4 (by decide) rfl ?_
  refine g_lv [(0, .ref a0), (1, .int a1), (2, .int a2), (3, .int v3_4)] [1, 2, 3, 0] rfl ?_
  refine K5_putInTurn_L5_w h hKs hE hkw hX hSt a0 a1 a2 (fun s_49 v3_49 => ?_) gF s0 v3_4
  · exact K5_putInTurn_B49_w h hKs hE hkw hX hSt s_49 a0 a1 v3_49 hr
def rm_X5_add : Room := { frames := 1, cells := 0, slots := 0, locals := 23 }
theorem yk_X5_add : yOkV yX5_add cX5_add 2 (none) RX5 1 := ⟨tW_623, tW_12, tW_621, tW_622, by decide, by decide, by decide +kernel⟩
def K5_add_B38 (s0 : Km) (a0 : Nat) : Option (Km) :=
  if kK s0 a0 = 5 then
  bnd (kSetI s0 a0 2 ((kI s0 a0 2) + (1 : Int32))) (fun s_45 =>
  some s_45)
  else none
set_option maxHeartbeats 4000000 in
set_option maxRecDepth 100000 in
theorem K5_add_B38_w {p : Program} {l : Launch} {e : Env} {s : State} {m : MethodId} {args : Array Value} {below : List Frame} {meth : Method} {c : Code} {A : Nat → Prop} {Ke : State → Prop} {D : va_G} {cA : Nat → ClassId} {E : State → Heap → Prop} {adS adV adM : Nat → Nat} {adD : Nat} (h : gOk p s m args meth c cX5_add 2 RX5 tb) (hKs : Ke s) (hE : mEok E A) (hkw : gKw Ke) (hX : xSt l Ke E A adM adD) (hSt : sSt Ke A (KW D cA E A) adS adV) (s0 : Km) (a0 : Nat) (hr : meth.sig.returnType = none)  : gS p l e rm_X5_add s m args below meth c 2 A (KW D cA E A) (fun X => MQ below (gPv (KW D cA E A) A X) args s rm_X5_add.cells rm_X5_add.slots A) (0) (0) (K5_add_B38 s0 a0) s0 38 [(0, .ref a0)] [] := by
  unfold K5_add_B38
  refine g_aload_n h 0 dX5_add_38 rfl ?_
  refine g_dup h dX5_add_39 rfl ?_
  refine k_kind (fun hk40_0 => ?_)
  refine k_geti h (RX5, TX5, 5) 4 (by decide) rfl hinX5 2 (by decide) rfl tW_377 dX5_add_40 hk40_0 ?_
  refine g_iconst (v := 1) h dX5_add_43 (by decide) ?_
  refine g_iadd h dX5_add_44 ?_
  refine k_puti (x := ((kI s0 a0 2) + (1 : Int32))) h hE (RX5, TX5, 5) 4 (by decide) rfl hinX5 2 (by decide) rfl tyX5 tyX5_ok nmX5 rfl tW_377 rfl rfl dX5_add_45 hk40_0 ?_
  refine g_bndE (fun s_45 hs_45 => ?_)
  exact g_vret h (KW_mv hE) hr (Nat.le_of_ble_eq_true rfl) (Nat.le_of_ble_eq_true rfl) dX5_add_48
def K5_add (s0 : Km) (a0 : Nat) (a1 : Nat) : Option (Km) :=
  if kK s0 a0 = 5 then
  (K5_isFull s0 a0).bind (fun r_1 =>
  if r_1 = 0 then
    (kR s0 a0 1).bind (fun b9 =>
    if kK s0 b9 = 15 then
    if kK s0 a1 = 3 then
    if okI (kI s0 a0 2) (kN s0 b9) = true then
    bnd (kSetR s0 b9 (kI s0 a0 2).toNatClampNeg (some a1)) (fun s_17 =>
    if kI s_17 a1 0 = (2 : Int32) then
      K5_add_B38 s_17 a0
    else
      (K5_putInTurn s_17 a0 (kI s_17 a0 2) (kI s_17 a1 7)).bind (fun s_35 =>
      K5_add_B38 s_35 a0))
    else none
    else none
    else none)
  else
    some s0)
  else none
set_option maxHeartbeats 4000000 in
set_option maxRecDepth 100000 in
theorem c_X5_add {l : Launch} {A : Nat → Prop} {Ke : State → Prop} {D : va_G} {cA : Nat → ClassId} {E : State → Heap → Prop} {adS adV adM : Nat → Nat} {adD : Nat} (hE : mEok E A) (hkw : gKw Ke) (hX : xSt l Ke E A adM adD) (hSt : sSt Ke A (KW D cA E A) adS adV) (s0 : Km) (a0 : Nat) (a1 : Nat) : gCv l yX5_add cX5_add 2 (none) rm_X5_add Ke (KW D cA E A) A [.ref a0, .ref a1] s0 (K5_add s0 a0 a1) := by
  refine g_metv (by decide) (by simp [lg_sl, Value.category]) ?_
  intro p e s m below meth c h hr hKs
  refine g_lv [(0, .ref a0), (1, .ref a1)] [0, 1] rfl ?_
  unfold K5_add
  refine g_aload_n h 0 dX5_add_0 rfl ?_
  refine k_kind (fun hk1_0 => ?_)
  refine g_callV0p h (KW_mv hE) hkw hKs [] (c_X5_isFull hE hkw hX hSt s0 a0) yk_X5_isFull tW_624 ⟨(Nat.le_of_ble_eq_true rfl), (Nat.le_of_ble_eq_true rfl)⟩ (KW_recv a0 4 (r := (RX5, TX5, 5)) hk1_0 (by decide) rfl) rfl rfl rfl rfl (Nat.le_of_ble_eq_true rfl) dX5_add_1 ⟨(Nat.le_of_ble_eq_true rfl), (Nat.le_of_ble_eq_true rfl)⟩ (fun r_1 => ?_)
  refine g_if_eq h 8 dX5_add_4 (by decide) ?_ ?_
  · refine g_aload_n h 0 dX5_add_8 rfl ?_
    refine k_getr h (RX5, TX5, 5) 4 (by decide) rfl hinX5 1 (by decide) rfl tW_374 dX5_add_9 hk1_0 ?_
    refine g_ob (fun b9 => ?_)
    refine g_aload_n h 0 dX5_add_12 rfl ?_
    refine k_geti h (RX5, TX5, 5) 4 (by decide) rfl hinX5 2 (by decide) rfl tW_377 dX5_add_13 hk1_0 ?_
    refine g_aload_n h 1 dX5_add_16 rfl ?_
    refine k_kind (fun hk17_0 => ?_)
    refine k_kind (fun hk17_1 => ?_)
    refine k_aast h hE 15 4 2 (by decide) (by decide) (RX3, TX3, 12) rfl rfl dX5_add_17 hk17_0 hk17_1 ?_
    refine g_bndE (fun s_17 hs_17 => ?_)
    refine g_aload_n h 1 dX5_add_18 rfl ?_
    refine k_geti h (RX3, TX3, 12) 2 (by decide) rfl hinX3 0 (by decide) rfl tW_518 dX5_add_19 (kKsR hs_17 hk17_1) ?_
    refine g_iconst (v := 2) h dX5_add_22 (by decide) ?_
    refine g_icmp_eq h 38 dX5_add_23 (by decide) ?_ ?_
    · refine g_lv [(0, .ref a0)] [0] rfl ?_
      exact K5_add_B38_w h hKs hE hkw hX hSt s_17 a0 hr
    · refine g_aload_n h 0 dX5_add_26 rfl ?_
      refine g_aload_n h 0 dX5_add_27 rfl ?_
      refine k_geti h (RX5, TX5, 5) 4 (by decide) rfl hinX5 2 (by decide) rfl tW_377 dX5_add_28 (kKsR hs_17 hk1_0) ?_
      refine g_aload_n h 1 dX5_add_31 rfl ?_
      refine k_geti h (RX3, TX3, 12) 2 (by decide) rfl hinX3 7 (by decide) rfl tW_531 dX5_add_32 (kKsR hs_17 hk17_1) ?_
      refine g_callV0v h (KW_mv hE) hkw hKs [.int (kI s_17 a0 2), .int (kI s_17 a1 7)] (c_X5_putInTurn hE hkw hX hSt s_17 a0 (kI s_17 a0 2) (kI s_17 a1 7)) yk_X5_putInTurn tW_625 ⟨(Nat.le_of_ble_eq_true rfl), (Nat.le_of_ble_eq_true rfl)⟩ (KW_recv a0 4 (r := (RX5, TX5, 5)) (kKsR hs_17 hk1_0) (by decide) rfl) rfl rfl rfl rfl (Nat.le_of_ble_eq_true rfl) dX5_add_35 ⟨(Nat.le_of_ble_eq_true rfl), (Nat.le_of_ble_eq_true rfl)⟩ (fun s_35 => ?_)
      refine g_lv [(0, .ref a0)] [0] rfl ?_
      exact K5_add_B38_w h hKs hE hkw hX hSt s_35 a0 hr
  · exact g_vret h (KW_mv hE) hr (Nat.le_of_ble_eq_true rfl) (Nat.le_of_ble_eq_true rfl) dX5_add_7
def rm_X4_readRule : Room := { frames := 6, cells := 4, slots := 24, locals := 130 }
theorem yk_X4_readRule : yOkV yX4_readRule cX4_readRule 4 (some .boolean) RX4 1 := ⟨tW_442, tW_13, tW_441, tP_6, by decide, by decide, by decide +kernel⟩
def K4_readRule_B94 (s0 : Km)  : Option (Int32 × Km) :=
  some ((0 : Int32), s0)
set_option maxHeartbeats 4000000 in
set_option maxRecDepth 100000 in
theorem K4_readRule_B94_w {p : Program} {l : Launch} {e : Env} {s : State} {m : MethodId} {args : Array Value} {below : List Frame} {meth : Method} {c : Code} {A : Nat → Prop} {Ke : State → Prop} {D : va_G} {cA : Nat → ClassId} {E : State → Heap → Prop} {adS adV adM : Nat → Nat} {adD : Nat} (h : gOk p s m args meth c cX4_readRule 4 RX4 tb) (hKs : Ke s) (hE : mEok E A) (hkw : gKw Ke) (hX : xSt l Ke E A adM adD) (hSt : sSt Ke A (KW D cA E A) adS adV) (s0 : Km)  (hr : meth.sig.returnType = some .boolean)  : gS p l e rm_X4_readRule s m args below meth c 4 A (KW D cA E A) (fun X => MQ below (gPi (KW D cA E A) A X) args s rm_X4_readRule.cells rm_X4_readRule.slots A) (4) (24) (K4_readRule_B94 s0) s0 94 [] [] := by
  unfold K4_readRule_B94
  refine g_iconst (v := 0) h dX4_readRule_94 (by decide) ?_
  exact g_zret h (KW_mv hE) hr (Nat.le_of_ble_eq_true rfl) (Nat.le_of_ble_eq_true rfl) (by decide) dX4_readRule_95
def K4_readRule_B78 (s0 : Km) (a0 : Nat) (a1 : Nat) (l3 : Nat) : Option (Int32 × Km) :=
  if kK s0 a0 = 4 then
  bi (K4_readTests s0 a0 l3) (fun r_80 s_80 =>
  if r_80 = 0 then
    K4_readRule_B94 s_80
  else
    if kK s_80 a0 = 4 then
    bi (K4_readRank s_80 a0 l3) (fun r_88 s_88 =>
    if r_88 = 0 then
      K4_readRule_B94 s_88
    else
      if kK s_88 a0 = 4 then
      (K4_isSign s_88 a0 (59 : Int32)).bind (fun r_99 =>
      if r_99 = 0 then
        bi (K4_fail s_88 a0 (1 : Int32)) (fun r_107 s_107 =>
        if okZ r_107 = true then some (r_107, s_107) else none)
      else
        (K4_next s_88 a0).bind (fun s_112 =>
        if kK s_112 a1 = 5 then
        (K5_add s_112 a1 l3).bind (fun s_117 =>
        some ((1 : Int32), s_117))
        else none))
      else none)
    else none)
  else none
set_option maxHeartbeats 4000000 in
set_option maxRecDepth 100000 in
theorem K4_readRule_B78_w {p : Program} {l : Launch} {e : Env} {s : State} {m : MethodId} {args : Array Value} {below : List Frame} {meth : Method} {c : Code} {A : Nat → Prop} {Ke : State → Prop} {D : va_G} {cA : Nat → ClassId} {E : State → Heap → Prop} {adS adV adM : Nat → Nat} {adD : Nat} (h : gOk p s m args meth c cX4_readRule 4 RX4 tb) (hKs : Ke s) (hE : mEok E A) (hkw : gKw Ke) (hX : xSt l Ke E A adM adD) (hSt : sSt Ke A (KW D cA E A) adS adV) (s0 : Km) (a0 : Nat) (a1 : Nat) (l3 : Nat) (hr : meth.sig.returnType = some .boolean)  : gS p l e rm_X4_readRule s m args below meth c 4 A (KW D cA E A) (fun X => MQ below (gPi (KW D cA E A) A X) args s rm_X4_readRule.cells rm_X4_readRule.slots A) (4) (24) (K4_readRule_B78 s0 a0 a1 l3) s0 78 [(0, .ref a0), (1, .ref a1), (3, .ref l3)] [] := by
  unfold K4_readRule_B78
  refine g_aload_n h 0 dX4_readRule_78 rfl ?_
  refine g_aload_n h 2 dX4_readRule_79 rfl ?_
  refine k_kind (fun hk80_0 => ?_)
  refine g_callV0i h (KW_mv hE) hkw hKs [.ref l3] (c_X4_readTests hE hkw hX hSt s0 a0 l3) yk_X4_readTests tW_601 ⟨(Nat.le_of_ble_eq_true rfl), (Nat.le_of_ble_eq_true rfl)⟩ (KW_recv a0 3 (r := (RX4, TX4, 7)) hk80_0 (by decide) rfl) rfl rfl rfl rfl (Nat.le_of_ble_eq_true rfl) dX4_readRule_80 ⟨(Nat.le_of_ble_eq_true rfl), (Nat.le_of_ble_eq_true rfl)⟩ (fun r_80 s_80 => ?_)
  refine g_if_eq h 94 dX4_readRule_83 (by decide) ?_ ?_
  · refine g_lv [] [] rfl ?_
    exact K4_readRule_B94_w h hKs hE hkw hX hSt s_80  hr
  · refine g_aload_n h 0 dX4_readRule_86 rfl ?_
    refine g_aload_n h 2 dX4_readRule_87 rfl ?_
    refine k_kind (fun hk88_0 => ?_)
    refine g_callV0i h (KW_mv hE) hkw hKs [.ref l3] (c_X4_readRank hE hkw hX hSt s_80 a0 l3) yk_X4_readRank tW_615 ⟨(Nat.le_of_ble_eq_true rfl), (Nat.le_of_ble_eq_true rfl)⟩ (KW_recv a0 3 (r := (RX4, TX4, 7)) hk88_0 (by decide) rfl) rfl rfl rfl rfl (Nat.le_of_ble_eq_true rfl) dX4_readRule_88 ⟨(Nat.le_of_ble_eq_true rfl), (Nat.le_of_ble_eq_true rfl)⟩ (fun r_88 s_88 => ?_)
    refine g_if_ne h 96 dX4_readRule_91 (by decide) ?_ ?_
    · refine g_aload_n h 0 dX4_readRule_96 rfl ?_
      refine g_bipush (v := 59) h dX4_readRule_97 (by decide) ?_
      refine k_kind (fun hk99_0 => ?_)
      refine g_callV0p h (KW_mv hE) hkw hKs [.int (59 : Int32)] (c_X4_isSign hE hkw hX hSt s_88 a0 (59 : Int32)) yk_X4_isSign tW_610 ⟨(Nat.le_of_ble_eq_true rfl), (Nat.le_of_ble_eq_true rfl)⟩ (KW_recv a0 3 (r := (RX4, TX4, 7)) hk99_0 (by decide) rfl) rfl rfl rfl rfl (Nat.le_of_ble_eq_true rfl) dX4_readRule_99 ⟨(Nat.le_of_ble_eq_true rfl), (Nat.le_of_ble_eq_true rfl)⟩ (fun r_99 => ?_)
      refine g_if_ne h 111 dX4_readRule_102 (by decide) ?_ ?_
      · refine g_aload_n h 0 dX4_readRule_111 rfl ?_
        refine g_callV0v h (KW_mv hE) hkw hKs [] (c_X4_next hE hkw hX hSt s_88 a0) yk_X4_next tW_429 ⟨(Nat.le_of_ble_eq_true rfl), (Nat.le_of_ble_eq_true rfl)⟩ (KW_recv a0 3 (r := (RX4, TX4, 7)) hk99_0 (by decide) rfl) rfl rfl rfl rfl (Nat.le_of_ble_eq_true rfl) dX4_readRule_112 ⟨(Nat.le_of_ble_eq_true rfl), (Nat.le_of_ble_eq_true rfl)⟩ (fun s_112 => ?_)
        refine g_aload_n h 1 dX4_readRule_115 rfl ?_
        refine g_aload_n h 2 dX4_readRule_116 rfl ?_
        refine k_kind (fun hk117_0 => ?_)
        refine g_callV0v h (KW_mv hE) hkw hKs [.ref l3] (c_X5_add hE hkw hX hSt s_112 a1 l3) yk_X5_add tW_620 ⟨(Nat.le_of_ble_eq_true rfl), (Nat.le_of_ble_eq_true rfl)⟩ (KW_recv a1 4 (r := (RX5, TX5, 5)) hk117_0 (by decide) rfl) rfl rfl rfl rfl (Nat.le_of_ble_eq_true rfl) dX4_readRule_117 ⟨(Nat.le_of_ble_eq_true rfl), (Nat.le_of_ble_eq_true rfl)⟩ (fun s_117 => ?_)
        refine g_iconst (v := 1) h dX4_readRule_120 (by decide) ?_
        exact g_zret h (KW_mv hE) hr (Nat.le_of_ble_eq_true rfl) (Nat.le_of_ble_eq_true rfl) (by decide) dX4_readRule_121
      · refine g_aload_n h 0 dX4_readRule_105 rfl ?_
        refine g_iconst (v := 1) h dX4_readRule_106 (by decide) ?_
        refine g_callV0i h (KW_mv hE) hkw hKs [.int (1 : Int32)] (c_X4_fail hE hkw hX hSt s_88 a0 (1 : Int32)) yk_X4_fail tW_502 ⟨(Nat.le_of_ble_eq_true rfl), (Nat.le_of_ble_eq_true rfl)⟩ (KW_recv a0 3 (r := (RX4, TX4, 7)) hk99_0 (by decide) rfl) rfl rfl rfl rfl (Nat.le_of_ble_eq_true rfl) dX4_readRule_107 ⟨(Nat.le_of_ble_eq_true rfl), (Nat.le_of_ble_eq_true rfl)⟩ (fun r_107 s_107 => ?_)
        refine g_guard (fun hz => ?_)
        exact g_zret h (KW_mv hE) hr (Nat.le_of_ble_eq_true rfl) (Nat.le_of_ble_eq_true rfl) hz dX4_readRule_110
    · refine g_lv [] [] rfl ?_
      exact K4_readRule_B94_w h hKs hE hkw hX hSt s_88  hr
def K4_readRule_B76 (s0 : Km)  : Option (Int32 × Km) :=
  some ((0 : Int32), s0)
set_option maxHeartbeats 4000000 in
set_option maxRecDepth 100000 in
theorem K4_readRule_B76_w {p : Program} {l : Launch} {e : Env} {s : State} {m : MethodId} {args : Array Value} {below : List Frame} {meth : Method} {c : Code} {A : Nat → Prop} {Ke : State → Prop} {D : va_G} {cA : Nat → ClassId} {E : State → Heap → Prop} {adS adV adM : Nat → Nat} {adD : Nat} (h : gOk p s m args meth c cX4_readRule 4 RX4 tb) (hKs : Ke s) (hE : mEok E A) (hkw : gKw Ke) (hX : xSt l Ke E A adM adD) (hSt : sSt Ke A (KW D cA E A) adS adV) (s0 : Km)  (hr : meth.sig.returnType = some .boolean)  : gS p l e rm_X4_readRule s m args below meth c 4 A (KW D cA E A) (fun X => MQ below (gPi (KW D cA E A) A X) args s rm_X4_readRule.cells rm_X4_readRule.slots A) (4) (24) (K4_readRule_B76 s0) s0 76 [] [] := by
  unfold K4_readRule_B76
  refine g_iconst (v := 0) h dX4_readRule_76 (by decide) ?_
  exact g_zret h (KW_mv hE) hr (Nat.le_of_ble_eq_true rfl) (Nat.le_of_ble_eq_true rfl) (by decide) dX4_readRule_77
def K4_readRule (s0 : Km) (a0 : Nat) (a1 : Nat) : Option (Int32 × Km) :=
  if kK s0 a0 = 4 then
  (K4_ruleSort s0 a0).bind (fun r_1 =>
  if r_1 = (-1 : Int32) then
    bi (K4_fail s0 a0 (1 : Int32)) (fun r_12 s_12 =>
    if okZ r_12 = true then some (r_12, s_12) else none)
  else
    if kK s0 a1 = 5 then
    (K5_isFull s0 a1).bind (fun r_17 =>
    if r_17 = 0 then
      (K4_next s0 a0).bind (fun s_30 =>
      bnd2 (kn s_30) (kNew s_30 3 0) (fun q_33 s_33 =>
      (K3_init s_33 q_33 r_1).bind (fun s_38 =>
      if kK s_38 a0 = 4 then
      bi (K4_readWhat s_38 a0 q_33) (fun r_44 s_44 =>
      if r_44 = 0 then
        some ((0 : Int32), s_44)
      else
        if r_1 = (2 : Int32) then
          if kK s_44 a0 = 4 then
          bi (K4_readStores s_44 a0 q_33) (fun r_59 s_59 =>
          if r_59 = 0 then
            K4_readRule_B76 s_59
          else
            K4_readRule_B78 s_59 a0 a1 q_33)
          else none
        else
          if kK s_44 a0 = 4 then
          bi (K4_readTime s_44 a0 q_33) (fun r_70 s_70 =>
          if r_70 = 0 then
            K4_readRule_B76 s_70
          else
            K4_readRule_B78 s_70 a0 a1 q_33)
          else none)
      else none)))
    else
      bi (K4_fail s0 a0 (2 : Int32)) (fun r_25 s_25 =>
      if okZ r_25 = true then some (r_25, s_25) else none))
    else none)
  else none
set_option maxHeartbeats 4000000 in
set_option maxRecDepth 100000 in
theorem c_X4_readRule {l : Launch} {A : Nat → Prop} {Ke : State → Prop} {D : va_G} {cA : Nat → ClassId} {E : State → Heap → Prop} {adS adV adM : Nat → Nat} {adD : Nat} (hE : mEok E A) (hkw : gKw Ke) (hX : xSt l Ke E A adM adD) (hSt : sSt Ke A (KW D cA E A) adS adV) (s0 : Km) (a0 : Nat) (a1 : Nat) : gCi l yX4_readRule cX4_readRule 4 (some .boolean) rm_X4_readRule Ke (KW D cA E A) A [.ref a0, .ref a1] s0 (K4_readRule s0 a0 a1) := by
  refine g_meti (by decide) (by simp [lg_sl, Value.category]) ?_
  intro p e s m below meth c h hr hKs
  refine g_lv [(0, .ref a0), (1, .ref a1)] [0, 1] rfl ?_
  unfold K4_readRule
  refine g_aload_n h 0 dX4_readRule_0 rfl ?_
  refine k_kind (fun hk1_0 => ?_)
  refine g_callV0p h (KW_mv hE) hkw hKs [] (c_X4_ruleSort hE hkw hX hSt s0 a0) yk_X4_ruleSort tW_443 ⟨(Nat.le_of_ble_eq_true rfl), (Nat.le_of_ble_eq_true rfl)⟩ (KW_recv a0 3 (r := (RX4, TX4, 7)) hk1_0 (by decide) rfl) rfl rfl rfl rfl (Nat.le_of_ble_eq_true rfl) dX4_readRule_1 ⟨(Nat.le_of_ble_eq_true rfl), (Nat.le_of_ble_eq_true rfl)⟩ (fun r_1 => ?_)
  refine g_istore_n h [(2, .int r_1), (0, .ref a0), (1, .ref a1)] dX4_readRule_4 (by decide) rfl ?_
  refine g_iload_n h 0 dX4_readRule_5 rfl ?_
  refine g_iconst (v := -1) h dX4_readRule_6 (by decide) ?_
  refine g_icmp_ne h 16 dX4_readRule_7 (by decide) ?_ ?_
  · refine g_aload_n h 2 dX4_readRule_16 rfl ?_
    refine k_kind (fun hk17_0 => ?_)
    refine g_callV0p h (KW_mv hE) hkw hKs [] (c_X5_isFull hE hkw hX hSt s0 a1) yk_X5_isFull tW_506 ⟨(Nat.le_of_ble_eq_true rfl), (Nat.le_of_ble_eq_true rfl)⟩ (KW_recv a1 4 (r := (RX5, TX5, 5)) hk17_0 (by decide) rfl) rfl rfl rfl rfl (Nat.le_of_ble_eq_true rfl) dX4_readRule_17 ⟨(Nat.le_of_ble_eq_true rfl), (Nat.le_of_ble_eq_true rfl)⟩ (fun r_17 => ?_)
    refine g_if_eq h 29 dX4_readRule_20 (by decide) ?_ ?_
    · refine g_aload_n h 1 dX4_readRule_29 rfl ?_
      refine g_callV0v h (KW_mv hE) hkw hKs [] (c_X4_next hE hkw hX hSt s0 a0) yk_X4_next tW_429 ⟨(Nat.le_of_ble_eq_true rfl), (Nat.le_of_ble_eq_true rfl)⟩ (KW_recv a0 3 (r := (RX4, TX4, 7)) hk1_0 (by decide) rfl) rfl rfl rfl rfl (Nat.le_of_ble_eq_true rfl) dX4_readRule_30 ⟨(Nat.le_of_ble_eq_true rfl), (Nat.le_of_ble_eq_true rfl)⟩ (fun s_30 => ?_)
      refine k_new h hE (RX3, TX3, 12) 2 (by decide) rfl hinX3 tyX3 tyX3_ok (by decide) tW_510 tW_511 tW_18 (Nat.le_of_ble_eq_true rfl) (Nat.le_of_ble_eq_true rfl) dX4_readRule_33 ?_
      refine g_wid (1) (12) (Nat.le_of_ble_eq_true rfl) (Nat.le_of_ble_eq_true rfl) ?_
      refine g_bnd2 (fun q_33 s_33 hq_33 hs_33 => ?_)
      refine g_dup h dX4_readRule_36 rfl ?_
      refine g_iload_n h 0 dX4_readRule_37 rfl ?_
      refine g_callIv h (KW_mv hE) hkw hKs [.int r_1] (c_X3_init hE hkw hX hSt s_33 q_33 r_1) yk_X3_init tW_512 ⟨(Nat.le_of_ble_eq_true rfl), (Nat.le_of_ble_eq_true rfl)⟩ rfl rfl (Nat.le_of_ble_eq_true rfl) dX4_readRule_38 ⟨(Nat.le_of_ble_eq_true rfl), (Nat.le_of_ble_eq_true rfl)⟩ (fun s_38 _ => ?_)
      refine g_wid (4) (24) (Nat.le_of_ble_eq_true rfl) (Nat.le_of_ble_eq_true rfl) ?_
      refine g_astore_n h [(3, .ref q_33), (2, .int r_1), (0, .ref a0), (1, .ref a1)] dX4_readRule_41 (by decide) rfl ?_
      refine g_aload_n h 2 dX4_readRule_42 rfl ?_
      refine g_aload_n h 0 dX4_readRule_43 rfl ?_
      refine k_kind (fun hk44_0 => ?_)
      refine g_callV0i h (KW_mv hE) hkw hKs [.ref q_33] (c_X4_readWhat hE hkw hX hSt s_38 a0 q_33) yk_X4_readWhat tW_567 ⟨(Nat.le_of_ble_eq_true rfl), (Nat.le_of_ble_eq_true rfl)⟩ (KW_recv a0 3 (r := (RX4, TX4, 7)) hk44_0 (by decide) rfl) rfl rfl rfl rfl (Nat.le_of_ble_eq_true rfl) dX4_readRule_44 ⟨(Nat.le_of_ble_eq_true rfl), (Nat.le_of_ble_eq_true rfl)⟩ (fun r_44 s_44 => ?_)
      refine g_if_ne h 52 dX4_readRule_47 (by decide) ?_ ?_
      · refine g_iload_n h 1 dX4_readRule_52 rfl ?_
        refine g_iconst (v := 2) h dX4_readRule_53 (by decide) ?_
        refine g_icmp_ne h 68 dX4_readRule_54 (by decide) ?_ ?_
        · refine g_aload_n h 2 dX4_readRule_68 rfl ?_
          refine g_aload_n h 0 dX4_readRule_69 rfl ?_
          refine k_kind (fun hk70_0 => ?_)
          refine g_callV0i h (KW_mv hE) hkw hKs [.ref q_33] (c_X4_readTime hE hkw hX hSt s_44 a0 q_33) yk_X4_readTime tW_585 ⟨(Nat.le_of_ble_eq_true rfl), (Nat.le_of_ble_eq_true rfl)⟩ (KW_recv a0 3 (r := (RX4, TX4, 7)) hk70_0 (by decide) rfl) rfl rfl rfl rfl (Nat.le_of_ble_eq_true rfl) dX4_readRule_70 ⟨(Nat.le_of_ble_eq_true rfl), (Nat.le_of_ble_eq_true rfl)⟩ (fun r_70 s_70 => ?_)
          refine g_if_ne h 78 dX4_readRule_73 (by decide) ?_ ?_
          · refine g_lv [(0, .ref a0), (1, .ref a1), (3, .ref q_33)] [2, 3, 0] rfl ?_
            exact K4_readRule_B78_w h hKs hE hkw hX hSt s_70 a0 a1 q_33 hr
          · refine g_lv [] [] rfl ?_
            exact K4_readRule_B76_w h hKs hE hkw hX hSt s_70  hr
        · refine g_aload_n h 2 dX4_readRule_57 rfl ?_
          refine g_aload_n h 0 dX4_readRule_58 rfl ?_
          refine k_kind (fun hk59_0 => ?_)
          refine g_callV0i h (KW_mv hE) hkw hKs [.ref q_33] (c_X4_readStores hE hkw hX hSt s_44 a0 q_33) yk_X4_readStores tW_581 ⟨(Nat.le_of_ble_eq_true rfl), (Nat.le_of_ble_eq_true rfl)⟩ (KW_recv a0 3 (r := (RX4, TX4, 7)) hk59_0 (by decide) rfl) rfl rfl rfl rfl (Nat.le_of_ble_eq_true rfl) dX4_readRule_59 ⟨(Nat.le_of_ble_eq_true rfl), (Nat.le_of_ble_eq_true rfl)⟩ (fun r_59 s_59 => ?_)
          refine g_if_ne h 78 dX4_readRule_62 (by decide) ?_ ?_
          · refine g_lv [(0, .ref a0), (1, .ref a1), (3, .ref q_33)] [2, 3, 0] rfl ?_
            exact K4_readRule_B78_w h hKs hE hkw hX hSt s_59 a0 a1 q_33 hr
          · refine g_goto h 76 dX4_readRule_65 (by decide) ?_
            refine g_lv [] [] rfl ?_
            exact K4_readRule_B76_w h hKs hE hkw hX hSt s_59  hr
      · refine g_iconst (v := 0) h dX4_readRule_50 (by decide) ?_
        exact g_zret h (KW_mv hE) hr (Nat.le_of_ble_eq_true rfl) (Nat.le_of_ble_eq_true rfl) (by decide) dX4_readRule_51
    · refine g_aload_n h 1 dX4_readRule_23 rfl ?_
      refine g_iconst (v := 2) h dX4_readRule_24 (by decide) ?_
      refine g_callV0i h (KW_mv hE) hkw hKs [.int (2 : Int32)] (c_X4_fail hE hkw hX hSt s0 a0 (2 : Int32)) yk_X4_fail tW_502 ⟨(Nat.le_of_ble_eq_true rfl), (Nat.le_of_ble_eq_true rfl)⟩ (KW_recv a0 3 (r := (RX4, TX4, 7)) hk1_0 (by decide) rfl) rfl rfl rfl rfl (Nat.le_of_ble_eq_true rfl) dX4_readRule_25 ⟨(Nat.le_of_ble_eq_true rfl), (Nat.le_of_ble_eq_true rfl)⟩ (fun r_25 s_25 => ?_)
      refine g_guard (fun hz => ?_)
      exact g_zret h (KW_mv hE) hr (Nat.le_of_ble_eq_true rfl) (Nat.le_of_ble_eq_true rfl) hz dX4_readRule_28
  · refine g_aload_n h 1 dX4_readRule_10 rfl ?_
    refine g_iconst (v := 1) h dX4_readRule_11 (by decide) ?_
    refine g_callV0i h (KW_mv hE) hkw hKs [.int (1 : Int32)] (c_X4_fail hE hkw hX hSt s0 a0 (1 : Int32)) yk_X4_fail tW_502 ⟨(Nat.le_of_ble_eq_true rfl), (Nat.le_of_ble_eq_true rfl)⟩ (KW_recv a0 3 (r := (RX4, TX4, 7)) hk1_0 (by decide) rfl) rfl rfl rfl rfl (Nat.le_of_ble_eq_true rfl) dX4_readRule_12 ⟨(Nat.le_of_ble_eq_true rfl), (Nat.le_of_ble_eq_true rfl)⟩ (fun r_12 s_12 => ?_)
    refine g_guard (fun hz => ?_)
    exact g_zret h (KW_mv hE) hr (Nat.le_of_ble_eq_true rfl) (Nat.le_of_ble_eq_true rfl) hz dX4_readRule_15
def rm_X4_readInto : Room := { frames := 7, cells := 104, slots := 624, locals := 153 }
theorem yk_X4_readInto : yOkV yX4_readInto cX4_readInto 3 (none) RX4 1 := ⟨tW_428, tW_13, tW_426, tW_427, by decide, by decide, by decide +kernel⟩
def K4_readInto_L6 {Rt : Type} (a0 : Nat) (a1 : Nat) (k27 : Km → Option Rt) (k34 : Km → Option Rt) : Nat → Km → Int32 → Option Rt
  | 0, _, _ => none
  | F + 1, s0, l2 =>
  if (24 : Int32) < l2 then
      k34 s0
    else
      if kK s0 a0 = 4 then
      if kI s0 a0 2 = 0 then
        k34 s0
      else
        bi (K4_readRule s0 a0 a1) (fun r_21 s_21 =>
        if r_21 = 0 then
          k27 s_21
        else
          K4_readInto_L6 a0 a1 k27 k34 F s_21 (l2 + 1))
      else none
set_option maxHeartbeats 4000000 in
set_option maxRecDepth 100000 in
theorem K4_readInto_L6_w {p : Program} {l : Launch} {e : Env} {s : State} {m : MethodId} {args : Array Value} {below : List Frame} {meth : Method} {c : Code} {A : Nat → Prop} {Ke : State → Prop} {D : va_G} {cA : Nat → ClassId} {E : State → Heap → Prop} {adS adV adM : Nat → Nat} {adD : Nat} (h : gOk p s m args meth c cX4_readInto 3 RX4 tb) (hKs : Ke s) (hE : mEok E A) (hkw : gKw Ke) (hX : xSt l Ke E A adM adD) (hSt : sSt Ke A (KW D cA E A) adS adV) {Rt : Type} {QX : Rt → State → Prop} (a0 : Nat) (a1 : Nat) {k27 : Km → Option Rt} {k34 : Km → Option Rt} (hk27 : ∀ (sx : Km), gS p l e rm_X4_readInto s m args below meth c 3 A (KW D cA E A) QX (104) (624) (k27 sx) sx 27 [] []) (hk34 : ∀ (sx : Km), gS p l e rm_X4_readInto s m args below meth c 3 A (KW D cA E A) QX (104) (624) (k34 sx) sx 34 [] []) : ∀ (F : Nat), F ≤ 26 → ∀ (s0 : Km) (l2 : Int32), gS p l e rm_X4_readInto s m args below meth c 3 A (KW D cA E A) QX (0 + 4 * (26 - F)) (0 + 24 * (26 - F)) (K4_readInto_L6 a0 a1 k27 k34 F s0 l2) s0 6 [(0, .ref a0), (1, .ref a1), (2, .int l2)] [] := by
  intro F
  induction F with
  | zero =>
    intro hF s0 l2
    unfold K4_readInto_L6
    exact g_none
  | succ F ih =>
    intro hF s0 l2
    unfold K4_readInto_L6
    refine g_iload_n h 2 dX4_readInto_6 rfl ?_
    refine g_bipush (v := 24) h dX4_readInto_7 (by decide) ?_
    refine g_icmp_gt h 34 dX4_readInto_9 (by decide) ?_ ?_
    · refine g_wid (104) (624) (by omega) (by omega) ?_
      refine g_lv [] [] rfl ?_
      exact hk34 s0
    · refine g_aload_n h 0 dX4_readInto_12 rfl ?_
      refine k_kind (fun hk13_0 => ?_)
      refine k_geti h (RX4, TX4, 7) 3 (by decide) rfl hinX4 2 (by decide) rfl tW_403 dX4_readInto_13 hk13_0 ?_
      refine g_if_eq h 34 dX4_readInto_16 (by decide) ?_ ?_
      · refine g_wid (104) (624) (by omega) (by omega) ?_
        refine g_lv [] [] rfl ?_
        exact hk34 s0
      · refine g_aload_n h 0 dX4_readInto_19 rfl ?_
        refine g_aload_n h 1 dX4_readInto_20 rfl ?_
        refine g_callVi h (KW_mv hE) hkw hKs [.ref a1] (c_X4_readRule hE hkw hX hSt s0 a0 a1) yk_X4_readRule tW_439 ⟨(Nat.le_of_ble_eq_true rfl), (Nat.le_of_ble_eq_true rfl)⟩ (KW_recv a0 3 (r := (RX4, TX4, 7)) hk13_0 (by decide) rfl) rfl rfl (Nat.le_of_ble_eq_true rfl) dX4_readInto_21 ⟨(by show 0 + 4 * (26 - (F + 1)) + 4 ≤ 104; omega), (by show 0 + 24 * (26 - (F + 1)) + 24 ≤ 624; omega)⟩ (fun r_21 s_21 _ => ?_)
        refine g_wid (0 + 4 * (26 - (F + 1)) + 4) (0 + 24 * (26 - (F + 1)) + 24) (by show _ + 4 ≤ _; omega) (by show _ + 24 ≤ _; omega) ?_
        refine g_if_ne h 28 dX4_readInto_24 (by decide) ?_ ?_
        · refine g_iinc (v := l2 + 1) (i := 2) h [(2, .int (l2 + 1)), (0, .ref a0), (1, .ref a1)] dX4_readInto_28 rfl rfl (by decide) rfl ?_
          refine g_goto h 6 dX4_readInto_31 (by decide) ?_
          refine g_wid (0 + 4 * (26 - F)) (0 + 24 * (26 - F)) (by omega) (by omega) ?_
          refine g_lv [(0, .ref a0), (1, .ref a1), (2, .int (l2 + 1))] [1, 2, 0] rfl ?_
          exact ih (by omega) s_21 (l2 + 1)
        · refine g_wid (104) (624) (by omega) (by omega) ?_
          refine g_lv [] [] rfl ?_
          exact hk27 s_21
def K4_readInto_B34 (s0 : Km)  : Option (Km) :=
  some s0
set_option maxHeartbeats 4000000 in
set_option maxRecDepth 100000 in
theorem K4_readInto_B34_w {p : Program} {l : Launch} {e : Env} {s : State} {m : MethodId} {args : Array Value} {below : List Frame} {meth : Method} {c : Code} {A : Nat → Prop} {Ke : State → Prop} {D : va_G} {cA : Nat → ClassId} {E : State → Heap → Prop} {adS adV adM : Nat → Nat} {adD : Nat} (h : gOk p s m args meth c cX4_readInto 3 RX4 tb) (hKs : Ke s) (hE : mEok E A) (hkw : gKw Ke) (hX : xSt l Ke E A adM adD) (hSt : sSt Ke A (KW D cA E A) adS adV) (s0 : Km)  (hr : meth.sig.returnType = none)  : gS p l e rm_X4_readInto s m args below meth c 3 A (KW D cA E A) (fun X => MQ below (gPv (KW D cA E A) A X) args s rm_X4_readInto.cells rm_X4_readInto.slots A) (104) (624) (K4_readInto_B34 s0) s0 34 [] [] := by
  unfold K4_readInto_B34
  exact g_vret h (KW_mv hE) hr (Nat.le_of_ble_eq_true rfl) (Nat.le_of_ble_eq_true rfl) dX4_readInto_34
def K4_readInto (s0 : Km) (a0 : Nat) (a1 : Nat) : Option (Km) :=
  if kK s0 a0 = 4 then
  (K4_next s0 a0).bind (fun s_1 =>
  K4_readInto_L6 a0 a1 (fun s_27 => some s_27) (fun s_34 => K4_readInto_B34 s_34) 26 s_1 (0 : Int32))
  else none
set_option maxHeartbeats 4000000 in
set_option maxRecDepth 100000 in
theorem c_X4_readInto {l : Launch} {A : Nat → Prop} {Ke : State → Prop} {D : va_G} {cA : Nat → ClassId} {E : State → Heap → Prop} {adS adV adM : Nat → Nat} {adD : Nat} (hE : mEok E A) (hkw : gKw Ke) (hX : xSt l Ke E A adM adD) (hSt : sSt Ke A (KW D cA E A) adS adV) (s0 : Km) (a0 : Nat) (a1 : Nat) : gCv l yX4_readInto cX4_readInto 3 (none) rm_X4_readInto Ke (KW D cA E A) A [.ref a0, .ref a1] s0 (K4_readInto s0 a0 a1) := by
  refine g_metv (by decide) (by simp [lg_sl, Value.category]) ?_
  intro p e s m below meth c h hr hKs
  refine g_lv [(0, .ref a0), (1, .ref a1)] [0, 1] rfl ?_
  unfold K4_readInto
  refine g_aload_n h 0 dX4_readInto_0 rfl ?_
  refine k_kind (fun hk1_0 => ?_)
  refine g_callV0v h (KW_mv hE) hkw hKs [] (c_X4_next hE hkw hX hSt s0 a0) yk_X4_next tW_429 ⟨(Nat.le_of_ble_eq_true rfl), (Nat.le_of_ble_eq_true rfl)⟩ (KW_recv a0 3 (r := (RX4, TX4, 7)) hk1_0 (by decide) rfl) rfl rfl rfl rfl (Nat.le_of_ble_eq_true rfl) dX4_readInto_1 ⟨(Nat.le_of_ble_eq_true rfl), (Nat.le_of_ble_eq_true rfl)⟩ (fun s_1 => ?_)
  refine g_iconst (v := 0) h dX4_readInto_4 (by decide) ?_
  refine g_istore_n h [(2, .int (0 : Int32)), (0, .ref a0), (1, .ref a1)] dX4_readInto_5 (by decide) rfl ?_
  refine g_lv [(0, .ref a0), (1, .ref a1), (2, .int (0 : Int32))] [1, 2, 0] rfl ?_
  refine g_wid (0 + 4 * (26 - 26)) (0 + 24 * (26 - 26)) (Nat.le_of_ble_eq_true rfl) (Nat.le_of_ble_eq_true rfl) ?_
  refine K4_readInto_L6_w h hKs hE hkw hX hSt a0 a1 (fun s_27 => ?_) (fun s_34 => ?_) 26 (Nat.le_refl _) s_1 (0 : Int32)
  · exact g_vret h (KW_mv hE) hr (Nat.le_of_ble_eq_true rfl) (Nat.le_of_ble_eq_true rfl) dX4_readInto_27
  · exact K4_readInto_B34_w h hKs hE hkw hX hSt s_34  hr
