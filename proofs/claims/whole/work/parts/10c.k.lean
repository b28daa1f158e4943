def rm_X9_init : Room := { frames := 2, cells := 14, slots := 3127, locals := 41 }
theorem yk_X9_init : yOkI yX9_init cX9_init 2 0 := ⟨tW_27, tW_1, tW_26, rfl, by decide, by decide, by decide +kernel⟩
def K9_init_L46 {Rt : Type} (a0 : Nat) (k70 : Km → Option Rt) : Nat → Km → Int32 → Option Rt
  | 0, _, _ => none
  | F + 1, s0, l1 =>
  if (4 : Int32) ≤ l1 then
      k70 s0
    else
      if kK s0 a0 = 9 then
      (kR s0 a0 7).bind (fun b52 =>
      bnd2 (kn s0) (kNew s0 7 0) (fun q_56 s_56 =>
      (K7_init s_56 q_56).bind (fun s_60 =>
      if kK s_60 b52 = 17 then
      if kK s_60 q_56 = 7 then
      if okI l1 (kN s_60 b52) = true then
      bnd (kSetR s_60 b52 l1.toNatClampNeg (some q_56)) (fun s_63 =>
      K9_init_L46 a0 k70 F s_63 (l1 + 1))
      else none
      else none
      else none)))
      else none
set_option maxHeartbeats 4000000 in
set_option maxRecDepth 100000 in
theorem K9_init_L46_w {p : Program} {l : Launch} {e : Env} {s : State} {m : MethodId} {args : Array Value} {below : List Frame} {meth : Method} {c : Code} {A : Nat → Prop} {Ke : State → Prop} {D : va_G} {cA : Nat → ClassId} {E : State → Heap → Prop} {adS adV adM : Nat → Nat} {adD : Nat} (h : gOk p s m args meth c cX9_init 2 RX9 tb) (hKs : Ke s) (hE : mEok E A) (hkw : gKw Ke) (hX : xSt l Ke E A adM adD) (hSt : sSt Ke A (KW D cA E A) adS adV) (hin : meth.name = "<init>") {Rt : Type} {QX : Rt → State → Prop} (a0 : Nat) {k70 : Km → Option Rt} (hk70 : ∀ (sx : Km), gS p l e rm_X9_init s m args below meth c 2 A (KW D cA E A) QX (9) (1052) (k70 sx) sx 70 [(0, .ref a0)] []) : ∀ (F : Nat), F ≤ 5 → ∀ (s0 : Km) (l1 : Int32), gS p l e rm_X9_init s m args below meth c 2 A (KW D cA E A) QX (4 + 1 * (5 - F)) (1042 + 2 * (5 - F)) (K9_init_L46 a0 k70 F s0 l1) s0 46 [(0, .ref a0), (1, .int l1)] [] := by
  intro F
  induction F with
  | zero =>
    intro hF s0 l1
    unfold K9_init_L46
    exact g_none
  | succ F ih =>
    intro hF s0 l1
    unfold K9_init_L46
    refine g_iload_n h 1 dX9_init_46 rfl ?_
    refine g_iconst (v := 4) h dX9_init_47 (by decide) ?_
    refine g_icmp_ge h 70 dX9_init_48 (by decide) ?_ ?_
    · refine g_wid (9) (1052) (by omega) (by omega) ?_
      refine g_lv [(0, .ref a0)] [0] rfl ?_
      exact hk70 s0
    · refine g_aload_n h 0 dX9_init_51 rfl ?_
      refine k_kind (fun hk52_0 => ?_)
      refine k_getr h (RX9, TX9, 13) 8 (by decide) rfl hinX9 7 (by decide) rfl tW_121 dX9_init_52 hk52_0 ?_
      refine g_ob (fun b52 => ?_)
      refine g_iload_n h 1 dX9_init_55 rfl ?_
      refine k_new h hE (RX7, TX7, 2) 6 (by decide) rfl hinX7 tyX7 tyX7_ok (by decide) tW_35 tW_37 tW_2 (by show 4 + 1 * (5 - (F + 1)) + 1 ≤ 14; omega) (by show 1042 + 2 * (5 - (F + 1)) + 2 ≤ 3127; omega) dX9_init_56 ?_
      refine g_wid (4 + 1 * (5 - (F + 1)) + 1) (1042 + 2 * (5 - (F + 1)) + 2) (by omega) (by show _ + 2 ≤ _; omega) ?_
      refine g_bnd2 (fun q_56 s_56 hq_56 hs_56 => ?_)
      refine g_dup h dX9_init_59 rfl ?_
      refine g_callIv h (KW_mv hE) hkw hKs [] (c_X7_init hE hkw hX hSt s_56 q_56) yk_X7_init tW_38 ⟨(Nat.le_of_ble_eq_true rfl), (Nat.le_of_ble_eq_true rfl)⟩ rfl rfl (Nat.le_of_ble_eq_true rfl) dX9_init_60 ⟨(by show 4 + 1 * (5 - (F + 1)) + 1 + 0 ≤ 14; omega), (by show 1042 + 2 * (5 - (F + 1)) + 2 + 0 ≤ 3127; omega)⟩ (fun s_60 _ => ?_)
      refine g_wid (4 + 1 * (5 - (F + 1)) + 1) (1042 + 2 * (5 - (F + 1)) + 2) (by show _ + 0 ≤ _; omega) (by show _ + 0 ≤ _; omega) ?_
      refine k_kind (fun hk63_0 => ?_)
      refine k_kind (fun hk63_1 => ?_)
      refine k_aast h hE 17 6 6 (by decide) (by decide) (RX7, TX7, 2) rfl rfl dX9_init_63 hk63_0 hk63_1 ?_
      refine g_bndE (fun s_63 hs_63 => ?_)
      refine g_iinc (v := l1 + 1) (i := 1) h [(1, .int (l1 + 1)), (0, .ref a0)] dX9_init_64 rfl rfl (by decide) rfl ?_
      refine g_goto h 46 dX9_init_67 (by decide) ?_
      refine g_wid (4 + 1 * (5 - F)) (1042 + 2 * (5 - F)) (by omega) (by omega) ?_
      refine g_lv [(0, .ref a0), (1, .int (l1 + 1))] [1, 0] rfl ?_
      exact ih (by omega) s_63 (l1 + 1)
def K9_init (s0 : Km) (a0 : Nat) : Option (Km) :=
  bnd2 (kn s0) (kNew s0 11 1000) (fun q_8 s_8 =>
  if kK s_8 a0 = 9 then
  bnd (kSetR s_8 a0 0 (some q_8)) (fun s_10 =>
  bnd (kSetI s_10 a0 2 (-1 : Int32)) (fun s_15 =>
  bnd2 (kn s_15) (kNew s_15 16 8) (fun q_21 s_21 =>
  if kK s_21 a0 = 9 then
  bnd (kSetR s_21 a0 3 (some q_21)) (fun s_24 =>
  bnd2 (kn s_24) (kNew s_24 18 30) (fun q_30 s_30 =>
  if kK s_30 a0 = 9 then
  bnd (kSetR s_30 a0 5 (some q_30)) (fun s_33 =>
  bnd2 (kn s_33) (kNew s_33 17 4) (fun q_38 s_38 =>
  if kK s_38 a0 = 9 then
  bnd (kSetR s_38 a0 7 (some q_38)) (fun s_41 =>
  K9_init_L46 a0 (fun s_70 => bnd2 (kn s_70) (kNew s_70 14 40) (fun q_73 s_73 =>
    if kK s_73 a0 = 9 then
    bnd (kSetR s_73 a0 8 (some q_73)) (fun s_76 =>
    bnd2 (kn s_76) (kNew s_76 2 0) (fun q_80 s_80 =>
    (K2_init s_80 q_80).bind (fun s_84 =>
    if kK s_84 a0 = 9 then
    bnd (kSetR s_84 a0 10 (some q_80)) (fun s_87 =>
    bnd2 (kn s_87) (kNew s_87 6 0) (fun q_91 s_91 =>
    (K6_init s_91 q_91).bind (fun s_95 =>
    if kK s_95 a0 = 9 then
    bnd (kSetR s_95 a0 11 (some q_91)) (fun s_98 =>
    some s_98)
    else none)))
    else none)))
    else none)) 5 s_41 (0 : Int32))
  else none))
  else none))
  else none)))
  else none)
set_option maxHeartbeats 4000000 in
set_option maxRecDepth 100000 in
theorem c_X9_init {l : Launch} {A : Nat → Prop} {Ke : State → Prop} {D : va_G} {cA : Nat → ClassId} {E : State → Heap → Prop} {adS adV adM : Nat → Nat} {adD : Nat} (hE : mEok E A) (hkw : gKw Ke) (hX : xSt l Ke E A adM adD) (hSt : sSt Ke A (KW D cA E A) adS adV) (s0 : Km) (a0 : Nat) : gCv l yX9_init cX9_init 2 none rm_X9_init Ke (KW D cA E A) A [.ref a0] s0 (K9_init s0 a0) := by
  refine g_metI (by decide) rfl (by simp [lg_sl, Value.category]) ?_
  intro p e s m below meth c h hr hin hKs
  refine g_lv [(0, .ref a0)] [0] rfl ?_
  unfold K9_init
  refine g_aload_n h 0 dX9_init_0 rfl ?_
  refine g_objInit h tW_28 tW_29 tW_30 (Nat.le_of_ble_eq_true rfl) (Nat.le_of_ble_eq_true rfl) dX9_init_1 ?_
  refine g_aload_n h 0 dX9_init_4 rfl ?_
  refine g_sipush (v := 1000) h dX9_init_5 (by decide) ?_
  refine k_newi h hE 11 0 (by decide) (by decide) .byte rfl rfl rfl (fun _ _ q9 => q9) tW_51 1000 (by decide) (by decide) (by decide) (Nat.le_of_ble_eq_true rfl) (Nat.le_of_ble_eq_true rfl) dX9_init_8 ?_
  refine g_bnd2 (fun q_8 s_8 hq_8 hs_8 => ?_)
  refine k_kind (fun hk10_0 => ?_)
  refine k_putFr (x := (some q_8)) h hE (RX9, TX9, 13) 8 (by decide) rfl hinX9 0 (by decide) rfl tyX9 tyX9_ok nmX9 rfl hin rfl tW_114 rfl rfl dX9_init_10 hk10_0 ?_
  refine g_bndE (fun s_10 hs_10 => ?_)
  refine g_aload_n h 0 dX9_init_13 rfl ?_
  refine g_iconst (v := -1) h dX9_init_14 (by decide) ?_
  refine k_puti (x := (-1 : Int32)) h hE (RX9, TX9, 13) 8 (by decide) rfl hinX9 2 (by decide) rfl tyX9 tyX9_ok nmX9 rfl tW_116 rfl rfl dX9_init_15 (kKsR hs_10 hk10_0) ?_
  refine g_bndE (fun s_15 hs_15 => ?_)
  refine g_aload_n h 0 dX9_init_18 rfl ?_
  refine g_bipush (v := 8) h dX9_init_19 (by decide) ?_
  refine k_newq h hE 16 5 (by decide) "KeepForget$RuleSet" rfl tW_31 ((hX.2.1 _ hKs).2.2 _ (by decide)) 8 (by decide) (by decide) (by decide) (Nat.le_of_ble_eq_true rfl) (Nat.le_of_ble_eq_true rfl) dX9_init_21 ?_
  refine g_bnd2 (fun q_21 s_21 hq_21 hs_21 => ?_)
  refine k_kind (fun hk24_0 => ?_)
  refine k_putFr (x := (some q_21)) h hE (RX9, TX9, 13) 8 (by decide) rfl hinX9 3 (by decide) rfl tyX9 tyX9_ok nmX9 rfl hin rfl tW_117 rfl rfl dX9_init_24 hk24_0 ?_
  refine g_bndE (fun s_24 hs_24 => ?_)
  refine g_aload_n h 0 dX9_init_27 rfl ?_
  refine g_bipush (v := 30) h dX9_init_28 (by decide) ?_
  refine k_newq h hE 18 7 (by decide) "KeepForget$Thing" rfl tW_33 ((hX.2.1 _ hKs).2.2 _ (by decide)) 30 (by decide) (by decide) (by decide) (Nat.le_of_ble_eq_true rfl) (Nat.le_of_ble_eq_true rfl) dX9_init_30 ?_
  refine g_bnd2 (fun q_30 s_30 hq_30 hs_30 => ?_)
  refine k_kind (fun hk33_0 => ?_)
  refine k_putFr (x := (some q_30)) h hE (RX9, TX9, 13) 8 (by decide) rfl hinX9 5 (by decide) rfl tyX9 tyX9_ok nmX9 rfl hin rfl tW_119 rfl rfl dX9_init_33 hk33_0 ?_
  refine g_bndE (fun s_33 hs_33 => ?_)
  refine g_aload_n h 0 dX9_init_36 rfl ?_
  refine g_iconst (v := 4) h dX9_init_37 (by decide) ?_
  refine k_newq h hE 17 6 (by decide) "KeepForget$Sweeper" rfl tW_35 ((hX.2.1 _ hKs).2.2 _ (by decide)) 4 (by decide) (by decide) (by decide) (Nat.le_of_ble_eq_true rfl) (Nat.le_of_ble_eq_true rfl) dX9_init_38 ?_
  refine g_bnd2 (fun q_38 s_38 hq_38 hs_38 => ?_)
  refine k_kind (fun hk41_0 => ?_)
  refine k_putFr (x := (some q_38)) h hE (RX9, TX9, 13) 8 (by decide) rfl hinX9 7 (by decide) rfl tyX9 tyX9_ok nmX9 rfl hin rfl tW_121 rfl rfl dX9_init_41 hk41_0 ?_
  refine g_bndE (fun s_41 hs_41 => ?_)
  refine g_iconst (v := 0) h dX9_init_44 (by decide) ?_
  refine g_istore_n h [(1, .int (0 : Int32)), (0, .ref a0)] dX9_init_45 (by decide) rfl ?_
  refine g_lv [(0, .ref a0), (1, .int (0 : Int32))] [1, 0] rfl ?_
  refine g_wid (4 + 1 * (5 - 5)) (1042 + 2 * (5 - 5)) (Nat.le_of_ble_eq_true rfl) (Nat.le_of_ble_eq_true rfl) ?_
  refine K9_init_L46_w h hKs hE hkw hX hSt hin a0 (fun s_70 => ?_) 5 (Nat.le_refl _) s_41 (0 : Int32)
  · refine g_aload_n h 0 dX9_init_70 rfl ?_
    refine g_bipush (v := 40) h dX9_init_71 (by decide) ?_
    refine k_newq h hE 14 3 (by decide) "KeepForget$Hold" rfl tW_52 ((hX.2.1 _ hKs).2.2 _ (by decide)) 40 (by decide) (by decide) (by decide) (Nat.le_of_ble_eq_true rfl) (Nat.le_of_ble_eq_true rfl) dX9_init_73 ?_
    refine g_bnd2 (fun q_73 s_73 hq_73 hs_73 => ?_)
    refine k_kind (fun hk76_0 => ?_)
    refine k_putFr (x := (some q_73)) h hE (RX9, TX9, 13) 8 (by decide) rfl hinX9 8 (by decide) rfl tyX9 tyX9_ok nmX9 rfl hin rfl tW_122 rfl rfl dX9_init_76 hk76_0 ?_
    refine g_bndE (fun s_76 hs_76 => ?_)
    refine g_aload_n h 0 dX9_init_79 rfl ?_
    refine k_new h hE (RX2, TX2, 3) 1 (by decide) rfl hinX2 tyX2 tyX2_ok (by decide) tW_54 tW_55 tW_3 (Nat.le_of_ble_eq_true rfl) (Nat.le_of_ble_eq_true rfl) dX9_init_80 ?_
    refine g_wid (11) (1095) (Nat.le_of_ble_eq_true rfl) (Nat.le_of_ble_eq_true rfl) ?_
    refine g_bnd2 (fun q_80 s_80 hq_80 hs_80 => ?_)
    refine g_dup h dX9_init_83 rfl ?_
    refine g_callIv h (KW_mv hE) hkw hKs [] (c_X2_init hE hkw hX hSt s_80 q_80) yk_X2_init tW_56 ⟨(Nat.le_of_ble_eq_true rfl), (Nat.le_of_ble_eq_true rfl)⟩ rfl rfl (Nat.le_of_ble_eq_true rfl) dX9_init_84 ⟨(Nat.le_of_ble_eq_true rfl), (Nat.le_of_ble_eq_true rfl)⟩ (fun s_84 _ => ?_)
    refine g_wid (12) (3095) (Nat.le_of_ble_eq_true rfl) (Nat.le_of_ble_eq_true rfl) ?_
    refine k_kind (fun hk87_0 => ?_)
    refine k_putFr (x := (some q_80)) h hE (RX9, TX9, 13) 8 (by decide) rfl hinX9 10 (by decide) rfl tyX9 tyX9_ok nmX9 rfl hin rfl tW_124 rfl rfl dX9_init_87 hk87_0 ?_
    refine g_bndE (fun s_87 hs_87 => ?_)
    refine g_aload_n h 0 dX9_init_90 rfl ?_
    refine k_new h hE (RX6, TX6, 8) 5 (by decide) rfl hinX6 tyX6 tyX6_ok (by decide) tW_74 tW_75 tW_4 (Nat.le_of_ble_eq_true rfl) (Nat.le_of_ble_eq_true rfl) dX9_init_91 ?_
    refine g_wid (13) (3103) (Nat.le_of_ble_eq_true rfl) (Nat.le_of_ble_eq_true rfl) ?_
    refine g_bnd2 (fun q_91 s_91 hq_91 hs_91 => ?_)
    refine g_dup h dX9_init_94 rfl ?_
    refine g_callIv h (KW_mv hE) hkw hKs [] (c_X6_init hE hkw hX hSt s_91 q_91) yk_X6_init tW_76 ⟨(Nat.le_of_ble_eq_true rfl), (Nat.le_of_ble_eq_true rfl)⟩ rfl rfl (Nat.le_of_ble_eq_true rfl) dX9_init_95 ⟨(Nat.le_of_ble_eq_true rfl), (Nat.le_of_ble_eq_true rfl)⟩ (fun s_95 _ => ?_)
    refine g_wid (14) (3127) (Nat.le_of_ble_eq_true rfl) (Nat.le_of_ble_eq_true rfl) ?_
    refine k_kind (fun hk98_0 => ?_)
    refine k_putFr (x := (some q_91)) h hE (RX9, TX9, 13) 8 (by decide) rfl hinX9 11 (by decide) rfl tyX9 tyX9_ok nmX9 rfl hin rfl tW_125 rfl rfl dX9_init_98 hk98_0 ?_
    refine g_bndE (fun s_98 hs_98 => ?_)
    exact g_vret h (KW_mv hE) hr (Nat.le_of_ble_eq_true rfl) (Nat.le_of_ble_eq_true rfl) dX9_init_101
def rm_X9_day : Room := { frames := 6, cells := 1, slots := 6, locals := 90 }
theorem yk_X9_day : yOkV yX9_day cX9_day 6 (some .int) RX9 3 := ⟨tW_239, tW_1, tW_237, tW_238, by decide, by decide, by decide +kernel⟩
def K9_day_B25 (s0 : Km)  : Option ((Int32 × Km) ⊕ (Bool × Km)) :=
  some (.inr (false, s0))
set_option maxHeartbeats 4000000 in
set_option maxRecDepth 100000 in
theorem K9_day_B25_w {p : Program} {l : Launch} {e : Env} {s : State} {m : MethodId} {args : Array Value} {below : List Frame} {meth : Method} {c : Code} {A : Nat → Prop} {Ke : State → Prop} {D : va_G} {cA : Nat → ClassId} {E : State → Heap → Prop} {adS adV adM : Nat → Nat} {adD : Nat} (h : gOk p s m args meth c cX9_day 6 RX9 tb) (hKs : Ke s) (hE : mEok E A) (hkw : gKw Ke) (hX : xSt l Ke E A adM adD) (hSt : sSt Ke A (KW D cA E A) adS adV) (hE0 : E s s.heap) (hT : ∀ x ∈ c.exceptionTable.toList, False) (s0 : Km)  (hr : meth.sig.returnType = some .int)  : gS p l e rm_X9_day s m args below meth c 6 A (KW D cA E A) (fun X => vx_MQ below (xQi (KW D cA E A) A X) (xC (KW D cA E A) A X) args s rm_X9_day.cells rm_X9_day.slots A) (0) (0) (K9_day_B25 s0) s0 25 [] [] := by
  unfold K9_day_B25
  exact g_throwi h hE hKs hX hE0 hT false 0 (by decide) xAll_f rfl (Nat.le_of_ble_eq_true rfl) (Nat.le_of_ble_eq_true rfl) (Nat.le_of_ble_eq_true rfl) (Nat.le_of_ble_eq_true rfl) (Nat.le_of_ble_eq_true rfl) (Nat.le_of_ble_eq_true rfl) dX9_day_25 dX9_day_28 dX9_day_29 dX9_day_31 dX9_day_34
def K9_day_B63 (s0 : Km)  : Option ((Int32 × Km) ⊕ (Bool × Km)) :=
  some (.inr (false, s0))
set_option maxHeartbeats 4000000 in
set_option maxRecDepth 100000 in
theorem K9_day_B63_w {p : Program} {l : Launch} {e : Env} {s : State} {m : MethodId} {args : Array Value} {below : List Frame} {meth : Method} {c : Code} {A : Nat → Prop} {Ke : State → Prop} {D : va_G} {cA : Nat → ClassId} {E : State → Heap → Prop} {adS adV adM : Nat → Nat} {adD : Nat} (h : gOk p s m args meth c cX9_day 6 RX9 tb) (hKs : Ke s) (hE : mEok E A) (hkw : gKw Ke) (hX : xSt l Ke E A adM adD) (hSt : sSt Ke A (KW D cA E A) adS adV) (hE0 : E s s.heap) (hT : ∀ x ∈ c.exceptionTable.toList, False) (s0 : Km)  (hr : meth.sig.returnType = some .int)  : gS p l e rm_X9_day s m args below meth c 6 A (KW D cA E A) (fun X => vx_MQ below (xQi (KW D cA E A) A X) (xC (KW D cA E A) A X) args s rm_X9_day.cells rm_X9_day.slots A) (0) (0) (K9_day_B63 s0) s0 63 [] [] := by
  unfold K9_day_B63
  exact g_throwi h hE hKs hX hE0 hT false 1 (by decide) xAll_f rfl (Nat.le_of_ble_eq_true rfl) (Nat.le_of_ble_eq_true rfl) (Nat.le_of_ble_eq_true rfl) (Nat.le_of_ble_eq_true rfl) (Nat.le_of_ble_eq_true rfl) (Nat.le_of_ble_eq_true rfl) dX9_day_63 dX9_day_66 dX9_day_67 dX9_day_69 dX9_day_72
def K9_day (s0 : Km) (a0 : Nat) (a1 : Int32) (a2 : Int32) (a3 : Int32) : Option ((Int32 × Km) ⊕ (Bool × Km)) :=
  if a1 < (2000 : Int32) then
    K9_day_B25 s0
  else
    if (2547 : Int32) < a1 then
      K9_day_B25 s0
    else
      if a2 < (1 : Int32) then
        K9_day_B25 s0
      else
        if a2 ≤ (12 : Int32) then
          bnd ((((a1 - (2000 : Int32)) * (12 : Int32)) + a2) - (1 : Int32)) (fun v4_47 =>
          if a3 < (1 : Int32) then
            K9_day_B63 s0
          else
            (K0_monthLength s0 v4_47).bind (fun r_57 =>
            if a3 ≤ r_57 then
              (K0_monthStart s0 v4_47).bind (fun r_75 =>
              bnd ((r_75 + a3) - (1 : Int32)) (fun v5_82 =>
              if v5_82 ≤ (200000 : Int32) then
                some (.inl (v5_82, s0))
              else
                some (.inr (false, s0))))
            else
              K9_day_B63 s0))
        else
          K9_day_B25 s0
set_option maxHeartbeats 4000000 in
set_option maxRecDepth 100000 in
theorem c_X9_day {l : Launch} {A : Nat → Prop} {Ke : State → Prop} {D : va_G} {cA : Nat → ClassId} {E : State → Heap → Prop} {adS adV adM : Nat → Nat} {adD : Nat} (hE : mEok E A) (hkw : gKw Ke) (hX : xSt l Ke E A adM adD) (hSt : sSt Ke A (KW D cA E A) adS adV) (s0 : Km) (a0 : Nat) (a1 : Int32) (a2 : Int32) (a3 : Int32) : gXi l yX9_day cX9_day 6 (some .int) rm_X9_day Ke (KW D cA E A) A [.ref a0, .int a1, .int a2, .int a3] s0 (K9_day s0 a0 a1 a2 a3) := by
  refine g_metxi (by decide) (by simp [lg_sl, Value.category]) ?_
  intro p e s m below meth c h hr hKs hE0 hT
  refine g_lv [(0, .ref a0), (1, .int a1), (2, .int a2), (3, .int a3)] [0, 1, 2, 3] rfl ?_
  unfold K9_day
  refine g_iload_n h 1 dX9_day_0 rfl ?_
  refine g_sipush (v := 2000) h dX9_day_1 (by decide) ?_
  refine g_icmp_lt h 25 dX9_day_4 (by decide) ?_ ?_
  · refine g_lv [] [] rfl ?_
    exact K9_day_B25_w h hKs hE hkw hX hSt hE0 hT s0  hr
  · refine g_iload_n h 1 dX9_day_7 rfl ?_
    refine g_sipush (v := 2547) h dX9_day_8 (by decide) ?_
    refine g_icmp_gt h 25 dX9_day_11 (by decide) ?_ ?_
    · refine g_lv [] [] rfl ?_
      exact K9_day_B25_w h hKs hE hkw hX hSt hE0 hT s0  hr
    · refine g_iload_n h 2 dX9_day_14 rfl ?_
      refine g_iconst (v := 1) h dX9_day_15 (by decide) ?_
      refine g_icmp_lt h 25 dX9_day_16 (by decide) ?_ ?_
      · refine g_lv [] [] rfl ?_
        exact K9_day_B25_w h hKs hE hkw hX hSt hE0 hT s0  hr
      · refine g_iload_n h 2 dX9_day_19 rfl ?_
        refine g_bipush (v := 12) h dX9_day_20 (by decide) ?_
        refine g_icmp_le h 35 dX9_day_22 (by decide) ?_ ?_
        · refine g_iload_n h 1 dX9_day_35 rfl ?_
          refine g_sipush (v := 2000) h dX9_day_36 (by decide) ?_
          refine g_isub h dX9_day_39 ?_
          refine g_bipush (v := 12) h dX9_day_40 (by decide) ?_
          refine g_imul h dX9_day_42 ?_
          refine g_iload_n h 2 dX9_day_43 rfl ?_
          refine g_iadd h dX9_day_44 ?_
          refine g_iconst (v := 1) h dX9_day_45 (by decide) ?_
          refine g_isub h dX9_day_46 ?_
          refine g_bndi (fun v4_47 => ?_)
          refine g_istore h [(4, .int v4_47), (0, .ref a0), (1, .int a1), (2, .int a2), (3, .int a3)] dX9_day_47 (by decide) rfl ?_
          refine g_iload_n h 4 dX9_day_49 rfl ?_
          refine g_iconst (v := 1) h dX9_day_50 (by decide) ?_
          refine g_icmp_lt h 63 dX9_day_51 (by decide) ?_ ?_
          · refine g_lv [] [] rfl ?_
            exact K9_day_B63_w h hKs hE hkw hX hSt hE0 hT s0  hr
          · refine g_iload_n h 4 dX9_day_54 rfl ?_
            refine g_iload h 0 dX9_day_55 rfl ?_
            refine g_callS0p h (KW_mv hE) hkw hKs [.int v4_47] (c_X0_monthLength hE hkw hX hSt s0 v4_47) yk_X0_monthLength tW_306 ⟨(Nat.le_of_ble_eq_true rfl), (Nat.le_of_ble_eq_true rfl)⟩ rfl rfl rfl rfl (Nat.le_of_ble_eq_true rfl) dX9_day_57 ⟨(Nat.le_of_ble_eq_true rfl), (Nat.le_of_ble_eq_true rfl)⟩ (fun r_57 => ?_)
            refine g_icmp_le h 73 dX9_day_60 (by decide) ?_ ?_
            · refine g_iload h 0 dX9_day_73 rfl ?_
              refine g_callS0p h (KW_mv hE) hkw hKs [.int v4_47] (c_X0_monthStart hE hkw hX hSt s0 v4_47) yk_X0_monthStart tW_315 ⟨(Nat.le_of_ble_eq_true rfl), (Nat.le_of_ble_eq_true rfl)⟩ rfl rfl rfl rfl (Nat.le_of_ble_eq_true rfl) dX9_day_75 ⟨(Nat.le_of_ble_eq_true rfl), (Nat.le_of_ble_eq_true rfl)⟩ (fun r_75 => ?_)
              refine g_iload_n h 4 dX9_day_78 rfl ?_
              refine g_iadd h dX9_day_79 ?_
              refine g_iconst (v := 1) h dX9_day_80 (by decide) ?_
              refine g_isub h dX9_day_81 ?_
              refine g_bndi (fun v5_82 => ?_)
              refine g_istore h [(5, .int v5_82), (4, .int v4_47), (0, .ref a0), (1, .int a1), (2, .int a2), (3, .int a3)] dX9_day_82 (by decide) rfl ?_
              refine g_iload h 0 dX9_day_84 rfl ?_
              refine g_ldc (v := 200000) h tW_316 dX9_day_86 ?_
              refine g_icmp_le h 101 dX9_day_88 (by decide) ?_ ?_
              · refine g_iload h 0 dX9_day_101 rfl ?_
                exact g_xiret h hE hr (Nat.le_of_ble_eq_true rfl) (Nat.le_of_ble_eq_true rfl) dX9_day_103
              · exact g_throwi h hE hKs hX hE0 hT false 2 (by decide) xAll_f rfl (Nat.le_of_ble_eq_true rfl) (Nat.le_of_ble_eq_true rfl) (Nat.le_of_ble_eq_true rfl) (Nat.le_of_ble_eq_true rfl) (Nat.le_of_ble_eq_true rfl) (Nat.le_of_ble_eq_true rfl) dX9_day_91 dX9_day_94 dX9_day_95 dX9_day_97 dX9_day_100
            · refine g_lv [] [] rfl ?_
              exact K9_day_B63_w h hKs hE hkw hX hSt hE0 hT s0  hr
        · refine g_lv [] [] rfl ?_
          exact K9_day_B25_w h hKs hE hkw hX hSt hE0 hT s0  hr
def rm_X9_checkDay : Room := { frames := 6, cells := 1, slots := 6, locals := 90 }
theorem yk_X9_checkDay : yOkS yX9_checkDay cX9_checkDay 1 (none) 1 := ⟨tW_327, tW_1, tW_326, by decide, by decide, by decide +kernel⟩
def K9_checkDay_B10 (s0 : Km)  : Option (Km ⊕ (Bool × Km)) :=
  some (.inr (false, s0))
set_option maxHeartbeats 4000000 in
set_option maxRecDepth 100000 in
theorem K9_checkDay_B10_w {p : Program} {l : Launch} {e : Env} {s : State} {m : MethodId} {args : Array Value} {below : List Frame} {meth : Method} {c : Code} {A : Nat → Prop} {Ke : State → Prop} {D : va_G} {cA : Nat → ClassId} {E : State → Heap → Prop} {adS adV adM : Nat → Nat} {adD : Nat} (h : gOk p s m args meth c cX9_checkDay 1 RX9 tb) (hKs : Ke s) (hE : mEok E A) (hkw : gKw Ke) (hX : xSt l Ke E A adM adD) (hSt : sSt Ke A (KW D cA E A) adS adV) (hE0 : E s s.heap) (hT : ∀ x ∈ c.exceptionTable.toList, False) (s0 : Km)  (hr : meth.sig.returnType = none)  : gS p l e rm_X9_checkDay s m args below meth c 1 A (KW D cA E A) (fun X => vx_MQ below (xQv (KW D cA E A) A X) (xC (KW D cA E A) A X) args s rm_X9_checkDay.cells rm_X9_checkDay.slots A) (0) (0) (K9_checkDay_B10 s0) s0 10 [] [] := by
  unfold K9_checkDay_B10
  exact g_throwWv h hE hKs hX hE0 hT false 3 (by decide) xAll_f rfl (Nat.le_of_ble_eq_true rfl) (Nat.le_of_ble_eq_true rfl) (Nat.le_of_ble_eq_true rfl) (Nat.le_of_ble_eq_true rfl) (Nat.le_of_ble_eq_true rfl) (Nat.le_of_ble_eq_true rfl) dX9_checkDay_10 dX9_checkDay_13 dX9_checkDay_14 dX9_checkDay_17 dX9_checkDay_20
def K9_checkDay (s0 : Km) (a0 : Int32) : Option (Km ⊕ (Bool × Km)) :=
  if a0 < 0 then
    K9_checkDay_B10 s0
  else
    if a0 ≤ (200000 : Int32) then
      some (.inl s0)
    else
      K9_checkDay_B10 s0
set_option maxHeartbeats 4000000 in
set_option maxRecDepth 100000 in
theorem c_X9_checkDay {l : Launch} {A : Nat → Prop} {Ke : State → Prop} {D : va_G} {cA : Nat → ClassId} {E : State → Heap → Prop} {adS adV adM : Nat → Nat} {adD : Nat} (hE : mEok E A) (hkw : gKw Ke) (hX : xSt l Ke E A adM adD) (hSt : sSt Ke A (KW D cA E A) adS adV) (s0 : Km) (a0 : Int32) : gXv l yX9_checkDay cX9_checkDay 1 (none) rm_X9_checkDay Ke (KW D cA E A) A [.int a0] s0 (K9_checkDay s0 a0) := by
  refine g_metxv (by decide) (by simp [lg_sl, Value.category]) ?_
  intro p e s m below meth c h hr hKs hE0 hT
  refine g_lv [(0, .int a0)] [0] rfl ?_
  unfold K9_checkDay
  refine g_iload_n h 0 dX9_checkDay_0 rfl ?_
  refine g_if_lt h 10 dX9_checkDay_1 (by decide) ?_ ?_
  · refine g_lv [] [] rfl ?_
    exact K9_checkDay_B10_w h hKs hE hkw hX hSt hE0 hT s0  hr
  · refine g_iload_n h 0 dX9_checkDay_4 rfl ?_
    refine g_ldc (v := 200000) h tW_316 dX9_checkDay_5 ?_
    refine g_icmp_le h 21 dX9_checkDay_7 (by decide) ?_ ?_
    · exact g_xvret h hE hr (Nat.le_of_ble_eq_true rfl) (Nat.le_of_ble_eq_true rfl) dX9_checkDay_21
    · refine g_lv [] [] rfl ?_
      exact K9_checkDay_B10_w h hKs hE hkw hX hSt hE0 hT s0  hr
def rm_X9_date : Room := { frames := 7, cells := 2, slots := 12, locals := 110 }
theorem yk_X9_date : yOkV yX9_date cX9_date 4 (some .int) RX9 2 := ⟨tW_324, tW_1, tW_322, tW_323, by decide, by decide, by decide +kernel⟩
def K9_date (s0 : Km) (a0 : Nat) (a1 : Int32) (a2 : Int32) : Option ((Int32 × Km) ⊕ (Bool × Km)) :=
  bxv (K9_checkDay s0 a1) (fun s_1 =>
  (K0_monthOf s_1 a1).bind (fun r_5 =>
  if a2 = 0 then
    some (.inl ((2000 : Int32) + (r_5 / (12 : Int32)), s_1))
    else if a2 = 1 then
      some (.inl ((r_5 - r_5 / (12 : Int32) * (12 : Int32)) + (1 : Int32), s_1))
      else if a2 = 2 then
        (K0_monthStart s_1 r_5).bind (fun r_54 =>
        some (.inl ((a1 - r_54) + (1 : Int32), s_1)))
        else some (.inr (false, s_1))))
set_option maxHeartbeats 4000000 in
set_option maxRecDepth 100000 in
theorem c_X9_date {l : Launch} {A : Nat → Prop} {Ke : State → Prop} {D : va_G} {cA : Nat → ClassId} {E : State → Heap → Prop} {adS adV adM : Nat → Nat} {adD : Nat} (hE : mEok E A) (hkw : gKw Ke) (hX : xSt l Ke E A adM adD) (hSt : sSt Ke A (KW D cA E A) adS adV) (s0 : Km) (a0 : Nat) (a1 : Int32) (a2 : Int32) : gXi l yX9_date cX9_date 4 (some .int) rm_X9_date Ke (KW D cA E A) A [.ref a0, .int a1, .int a2] s0 (K9_date s0 a0 a1 a2) := by
  refine g_metxi (by decide) (by simp [lg_sl, Value.category]) ?_
  intro p e s m below meth c h hr hKs hE0 hT
  refine g_lv [(0, .ref a0), (1, .int a1), (2, .int a2)] [0, 1, 2] rfl ?_
  unfold K9_date
  refine g_iload_n h 1 dX9_date_0 rfl ?_
  refine g_xcallSv h hE hkw hKs hT [.int a1] (c_X9_checkDay hE hkw hX hSt s0 a1) yk_X9_checkDay tW_325 ⟨(Nat.le_of_ble_eq_true rfl), (Nat.le_of_ble_eq_true rfl)⟩ rfl rfl (Nat.le_of_ble_eq_true rfl) dX9_date_1 ⟨(Nat.le_of_ble_eq_true rfl), (Nat.le_of_ble_eq_true rfl)⟩ (Nat.le_of_ble_eq_true rfl) (Nat.le_of_ble_eq_true rfl) (fun s_1 => ?_)
  refine g_wid (1) (6) (Nat.le_of_ble_eq_true rfl) (Nat.le_of_ble_eq_true rfl) ?_
  refine g_iload_n h 1 dX9_date_4 rfl ?_
  refine g_callS0p h (KW_mv hE) hkw hKs [.int a1] (c_X0_monthOf hE hkw hX hSt s_1 a1) yk_X0_monthOf tW_329 ⟨(Nat.le_of_ble_eq_true rfl), (Nat.le_of_ble_eq_true rfl)⟩ rfl rfl rfl rfl (Nat.le_of_ble_eq_true rfl) dX9_date_5 ⟨(Nat.le_of_ble_eq_true rfl), (Nat.le_of_ble_eq_true rfl)⟩ (fun r_5 => ?_)
  refine g_istore_n h [(3, .int r_5), (0, .ref a0), (1, .int a1), (2, .int a2)] dX9_date_8 (by decide) rfl ?_
  refine g_iload_n h 3 dX9_date_9 rfl ?_
  refine g_case (fun q10_0 => ?_) (fun q10_0 => ?_)
  · refine g_tabIn h 36 dX9_date_10 (by rw [q10_0]; decide) (by rw [q10_0]; decide) (by rw [q10_0]; rfl) (by decide) ?_
    refine g_sipush (v := 2000) h dX9_date_36 (by decide) ?_
    refine g_iload_n h 0 dX9_date_39 rfl ?_
    refine g_bipush (v := 12) h dX9_date_40 (by decide) ?_
    refine g_idiv h dX9_date_42 (by decide) ?_
    refine g_iadd h dX9_date_43 ?_
    exact g_xiret h hE hr (Nat.le_of_ble_eq_true rfl) (Nat.le_of_ble_eq_true rfl) dX9_date_44
  · skip
    refine g_case (fun q10_1 => ?_) (fun q10_1 => ?_)
    · refine g_tabIn h 45 dX9_date_10 (by rw [q10_1]; decide) (by rw [q10_1]; decide) (by rw [q10_1]; rfl) (by decide) ?_
      refine g_iload_n h 0 dX9_date_45 rfl ?_
      refine g_bipush (v := 12) h dX9_date_46 (by decide) ?_
      refine g_irem h dX9_date_48 (by decide) ?_
      refine g_iconst (v := 1) h dX9_date_49 (by decide) ?_
      refine g_iadd h dX9_date_50 ?_
      exact g_xiret h hE hr (Nat.le_of_ble_eq_true rfl) (Nat.le_of_ble_eq_true rfl) dX9_date_51
    · skip
      refine g_case (fun q10_2 => ?_) (fun q10_2 => ?_)
      · refine g_tabIn h 52 dX9_date_10 (by rw [q10_2]; decide) (by rw [q10_2]; decide) (by rw [q10_2]; rfl) (by decide) ?_
        refine g_iload_n h 2 dX9_date_52 rfl ?_
        refine g_iload_n h 0 dX9_date_53 rfl ?_
        refine g_callS0p h (KW_mv hE) hkw hKs [.int r_5] (c_X0_monthStart hE hkw hX hSt s_1 r_5) yk_X0_monthStart tW_315 ⟨(Nat.le_of_ble_eq_true rfl), (Nat.le_of_ble_eq_true rfl)⟩ rfl rfl rfl rfl (Nat.le_of_ble_eq_true rfl) dX9_date_54 ⟨(Nat.le_of_ble_eq_true rfl), (Nat.le_of_ble_eq_true rfl)⟩ (fun r_54 => ?_)
        refine g_isub h dX9_date_57 ?_
        refine g_iconst (v := 1) h dX9_date_58 (by decide) ?_
        refine g_iadd h dX9_date_59 ?_
        exact g_xiret h hE hr (Nat.le_of_ble_eq_true rfl) (Nat.le_of_ble_eq_true rfl) dX9_date_60
      · skip
        refine g_tabOut h 61 dX9_date_10 (by have z0 := lv_neT (a := 0) q10_0 (by decide); have z1 := lv_neT (a := 1) q10_1 (by decide); have z2 := lv_neT (a := 2) q10_2 (by decide); omega) (by decide) ?_
        exact g_throwi h hE hKs hX hE0 hT false 4 (by decide) xAll_f rfl (Nat.le_of_ble_eq_true rfl) (Nat.le_of_ble_eq_true rfl) (Nat.le_of_ble_eq_true rfl) (Nat.le_of_ble_eq_true rfl) (Nat.le_of_ble_eq_true rfl) (Nat.le_of_ble_eq_true rfl) dX9_date_61 dX9_date_64 dX9_date_65 dX9_date_67 dX9_date_70
def rm_X9_later : Room := { frames := 7, cells := 2, slots := 12, locals := 110 }
theorem yk_X9_later : yOkV yX9_later cX9_later 3 (some .int) RX9 2 := ⟨tW_344, tW_1, tW_342, tW_343, by decide, by decide, by decide +kernel⟩
def K9_later_B14 (s0 : Km)  : Option ((Int32 × Km) ⊕ (Bool × Km)) :=
  some (.inr (false, s0))
set_option maxHeartbeats 4000000 in
set_option maxRecDepth 100000 in
theorem K9_later_B14_w {p : Program} {l : Launch} {e : Env} {s : State} {m : MethodId} {args : Array Value} {below : List Frame} {meth : Method} {c : Code} {A : Nat → Prop} {Ke : State → Prop} {D : va_G} {cA : Nat → ClassId} {E : State → Heap → Prop} {adS adV adM : Nat → Nat} {adD : Nat} (h : gOk p s m args meth c cX9_later 3 RX9 tb) (hKs : Ke s) (hE : mEok E A) (hkw : gKw Ke) (hX : xSt l Ke E A adM adD) (hSt : sSt Ke A (KW D cA E A) adS adV) (hE0 : E s s.heap) (hT : ∀ x ∈ c.exceptionTable.toList, False) (s0 : Km)  (hr : meth.sig.returnType = some .int)  : gS p l e rm_X9_later s m args below meth c 3 A (KW D cA E A) (fun X => vx_MQ below (xQi (KW D cA E A) A X) (xC (KW D cA E A) A X) args s rm_X9_later.cells rm_X9_later.slots A) (1) (6) (K9_later_B14 s0) s0 14 [] [] := by
  unfold K9_later_B14
  exact g_throwi h hE hKs hX hE0 hT false 5 (by decide) xAll_f rfl (Nat.le_of_ble_eq_true rfl) (Nat.le_of_ble_eq_true rfl) (Nat.le_of_ble_eq_true rfl) (Nat.le_of_ble_eq_true rfl) (Nat.le_of_ble_eq_true rfl) (Nat.le_of_ble_eq_true rfl) dX9_later_14 dX9_later_17 dX9_later_18 dX9_later_20 dX9_later_23
def K9_later (s0 : Km) (a0 : Nat) (a1 : Int32) (a2 : Int32) : Option ((Int32 × Km) ⊕ (Bool × Km)) :=
  bxv (K9_checkDay s0 a1) (fun s_1 =>
  if a2 < 0 then
    K9_later_B14 s_1
  else
    if a2 ≤ (119988 : Int32) then
      (K0_monthsAfter s_1 a1 a2).bind (fun r_26 =>
      some (.inl (r_26, s_1)))
    else
      K9_later_B14 s_1)
set_option maxHeartbeats 4000000 in
set_option maxRecDepth 100000 in
theorem c_X9_later {l : Launch} {A : Nat → Prop} {Ke : State → Prop} {D : va_G} {cA : Nat → ClassId} {E : State → Heap → Prop} {adS adV adM : Nat → Nat} {adD : Nat} (hE : mEok E A) (hkw : gKw Ke) (hX : xSt l Ke E A adM adD) (hSt : sSt Ke A (KW D cA E A) adS adV) (s0 : Km) (a0 : Nat) (a1 : Int32) (a2 : Int32) : gXi l yX9_later cX9_later 3 (some .int) rm_X9_later Ke (KW D cA E A) A [.ref a0, .int a1, .int a2] s0 (K9_later s0 a0 a1 a2) := by
  refine g_metxi (by decide) (by simp [lg_sl, Value.category]) ?_
  intro p e s m below meth c h hr hKs hE0 hT
  refine g_lv [(0, .ref a0), (1, .int a1), (2, .int a2)] [0, 1, 2] rfl ?_
  unfold K9_later
  refine g_iload_n h 1 dX9_later_0 rfl ?_
  refine g_xcallSv h hE hkw hKs hT [.int a1] (c_X9_checkDay hE hkw hX hSt s0 a1) yk_X9_checkDay tW_325 ⟨(Nat.le_of_ble_eq_true rfl), (Nat.le_of_ble_eq_true rfl)⟩ rfl rfl (Nat.le_of_ble_eq_true rfl) dX9_later_1 ⟨(Nat.le_of_ble_eq_true rfl), (Nat.le_of_ble_eq_true rfl)⟩ (Nat.le_of_ble_eq_true rfl) (Nat.le_of_ble_eq_true rfl) (fun s_1 => ?_)
  refine g_wid (1) (6) (Nat.le_of_ble_eq_true rfl) (Nat.le_of_ble_eq_true rfl) ?_
  refine g_iload_n h 2 dX9_later_4 rfl ?_
  refine g_if_lt h 14 dX9_later_5 (by decide) ?_ ?_
  · refine g_lv [] [] rfl ?_
    exact K9_later_B14_w h hKs hE hkw hX hSt hE0 hT s_1  hr
  · refine g_iload_n h 2 dX9_later_8 rfl ?_
    refine g_ldc (v := 119988) h tW_345 dX9_later_9 ?_
    refine g_icmp_le h 24 dX9_later_11 (by decide) ?_ ?_
    · refine g_iload_n h 1 dX9_later_24 rfl ?_
      refine g_iload_n h 2 dX9_later_25 rfl ?_
      refine g_callS0p h (KW_mv hE) hkw hKs [.int a1, .int a2] (c_X0_monthsAfter hE hkw hX hSt s_1 a1 a2) yk_X0_monthsAfter tW_347 ⟨(Nat.le_of_ble_eq_true rfl), (Nat.le_of_ble_eq_true rfl)⟩ rfl rfl rfl rfl (Nat.le_of_ble_eq_true rfl) dX9_later_26 ⟨(Nat.le_of_ble_eq_true rfl), (Nat.le_of_ble_eq_true rfl)⟩ (fun r_26 => ?_)
      exact g_xiret h hE hr (Nat.le_of_ble_eq_true rfl) (Nat.le_of_ble_eq_true rfl) dX9_later_29
    · refine g_lv [] [] rfl ?_
      exact K9_later_B14_w h hKs hE hkw hX hSt hE0 hT s_1  hr
def rm_X9_putOnTape : Room := { frames := 0, cells := 0, slots := 0, locals := 0 }
theorem yk_X9_putOnTape : yOkV yX9_putOnTape cX9_putOnTape 3 (none) RX9 1 := ⟨tW_161, tW_1, tW_160, tP_0, by decide, by decide, by decide +kernel⟩
def K9_putOnTape_L3 {Rt : Type} (a0 : Nat) (a1 : Int32) (k46 : Km → Option Rt) : Nat → Km → Int32 → Option Rt
  | 0, _, _ => none
  | F + 1, s0, l2 =>
  if l2 < 0 then
      k46 s0
    else
      if kK s0 a0 = 9 then
      if (1000 : Int32) ≤ kI s0 a0 1 then
        k46 s0
      else
        (kR s0 a0 0).bind (fun b18 =>
        if kK s0 b18 = 11 then
        if okI (kI s0 a0 1) (kN s0 b18) = true then
        bnd (kSetI s0 b18 (kI s0 a0 1).toNatClampNeg (vp_nar .byte ((a1 >>> (l2 &&& 31)).toInt8.toInt32))) (fun s_29 =>
        bnd (kSetI s_29 a0 1 ((kI s_29 a0 1) + (1 : Int32))) (fun s_37 =>
        K9_putOnTape_L3 a0 a1 k46 F s_37 (l2 + (-8))))
        else none
        else none)
      else none
set_option maxHeartbeats 4000000 in
set_option maxRecDepth 100000 in
theorem K9_putOnTape_L3_w {p : Program} {l : Launch} {e : Env} {s : State} {m : MethodId} {args : Array Value} {below : List Frame} {meth : Method} {c : Code} {A : Nat → Prop} {Ke : State → Prop} {D : va_G} {cA : Nat → ClassId} {E : State → Heap → Prop} {adS adV adM : Nat → Nat} {adD : Nat} (h : gOk p s m args meth c cX9_putOnTape 3 RX9 tb) (hKs : Ke s) (hE : mEok E A) (hkw : gKw Ke) (hX : xSt l Ke E A adM adD) (hSt : sSt Ke A (KW D cA E A) adS adV) {Rt : Type} {QX : Rt → State → Prop} (a0 : Nat) (a1 : Int32) {k46 : Km → Option Rt} (hk46 : ∀ (sx : Km), gS p l e rm_X9_putOnTape s m args below meth c 3 A (KW D cA E A) QX (0) (0) (k46 sx) sx 46 [] []) : ∀ (F : Nat), ∀ (s0 : Km) (l2 : Int32), gS p l e rm_X9_putOnTape s m args below meth c 3 A (KW D cA E A) QX (0) (0) (K9_putOnTape_L3 a0 a1 k46 F s0 l2) s0 3 [(0, .ref a0), (1, .int a1), (2, .int l2)] [] := by
  intro F
  induction F with
  | zero =>
    intro s0 l2
    unfold K9_putOnTape_L3
    exact g_none
  | succ F ih =>
    intro s0 l2
    unfold K9_putOnTape_L3
    refine g_iload_n h 2 dX9_putOnTape_3 rfl ?_
    refine g_if_lt h 46 dX9_putOnTape_4 (by decide) ?_ ?_
    · refine g_lv [] [] rfl ?_
      exact hk46 s0
    · refine g_aload_n h 0 dX9_putOnTape_7 rfl ?_
      refine k_kind (fun hk8_0 => ?_)
      refine k_geti h (RX9, TX9, 13) 8 (by decide) rfl hinX9 1 (by decide) rfl tW_115 dX9_putOnTape_8 hk8_0 ?_
      refine g_sipush (v := 1000) h dX9_putOnTape_11 (by decide) ?_
      refine g_icmp_ge h 46 dX9_putOnTape_14 (by decide) ?_ ?_
      · refine g_lv [] [] rfl ?_
        exact hk46 s0
      · refine g_aload_n h 0 dX9_putOnTape_17 rfl ?_
        refine k_getr h (RX9, TX9, 13) 8 (by decide) rfl hinX9 0 (by decide) rfl tW_114 dX9_putOnTape_18 hk8_0 ?_
        refine g_ob (fun b18 => ?_)
        refine g_aload_n h 0 dX9_putOnTape_21 rfl ?_
        refine k_geti h (RX9, TX9, 13) 8 (by decide) rfl hinX9 1 (by decide) rfl tW_115 dX9_putOnTape_22 hk8_0 ?_
        refine g_iload_n h 1 dX9_putOnTape_25 rfl ?_
        refine g_iload_n h 2 dX9_putOnTape_26 rfl ?_
        refine g_ishr h dX9_putOnTape_27 ?_
        refine g_i2b h dX9_putOnTape_28 ?_
        refine k_kind (fun hk29_0 => ?_)
        refine k_bast h hE dX9_putOnTape_29 hk29_0 ?_
        refine g_bndE (fun s_29 hs_29 => ?_)
        refine g_aload_n h 0 dX9_putOnTape_30 rfl ?_
        refine g_dup h dX9_putOnTape_31 rfl ?_
        refine k_geti h (RX9, TX9, 13) 8 (by decide) rfl hinX9 1 (by decide) rfl tW_115 dX9_putOnTape_32 (kKsI hs_29 hk8_0) ?_
        refine g_iconst (v := 1) h dX9_putOnTape_35 (by decide) ?_
        refine g_iadd h dX9_putOnTape_36 ?_
        refine k_puti (x := ((kI s_29 a0 1) + (1 : Int32))) h hE (RX9, TX9, 13) 8 (by decide) rfl hinX9 1 (by decide) rfl tyX9 tyX9_ok nmX9 rfl tW_115 rfl rfl dX9_putOnTape_37 (kKsI hs_29 hk8_0) ?_
        refine g_bndE (fun s_37 hs_37 => ?_)
        refine g_iinc (v := l2 + (-8)) (i := 2) h [(2, .int (l2 + (-8))), (0, .ref a0), (1, .int a1)] dX9_putOnTape_40 rfl rfl (by decide) rfl ?_
        refine g_goto h 3 dX9_putOnTape_43 (by decide) ?_
        refine g_lv [(0, .ref a0), (1, .int a1), (2, .int (l2 + (-8)))] [1, 2, 0] rfl ?_
        exact ih s_37 (l2 + (-8))
def K9_putOnTape_B46 (s0 : Km)  : Option (Km) :=
  some s0
set_option maxHeartbeats 4000000 in
set_option maxRecDepth 100000 in
theorem K9_putOnTape_B46_w {p : Program} {l : Launch} {e : Env} {s : State} {m : MethodId} {args : Array Value} {below : List Frame} {meth : Method} {c : Code} {A : Nat → Prop} {Ke : State → Prop} {D : va_G} {cA : Nat → ClassId} {E : State → Heap → Prop} {adS adV adM : Nat → Nat} {adD : Nat} (h : gOk p s m args meth c cX9_putOnTape 3 RX9 tb) (hKs : Ke s) (hE : mEok E A) (hkw : gKw Ke) (hX : xSt l Ke E A adM adD) (hSt : sSt Ke A (KW D cA E A) adS adV) (s0 : Km)  (hr : meth.sig.returnType = none)  : gS p l e rm_X9_putOnTape s m args below meth c 3 A (KW D cA E A) (fun X => MQ below (gPv (KW D cA E A) A X) args s rm_X9_putOnTape.cells rm_X9_putOnTape.slots A) (0) (0) (K9_putOnTape_B46 s0) s0 46 [] [] := by
  unfold K9_putOnTape_B46
  exact g_vret h (KW_mv hE) hr (Nat.le_of_ble_eq_true rfl) (Nat.le_of_ble_eq_true rfl) dX9_putOnTape_46
def K9_putOnTape (s0 : Km) (a0 : Nat) (a1 : Int32) : Option (Km) :=
  K9_putOnTape_L3 a0 a1 (fun s_46 => K9_putOnTape_B46 s_46) gF s0 (24 : Int32)
set_option maxHeartbeats 4000000 in
set_option maxRecDepth 100000 in
theorem c_X9_putOnTape {l : Launch} {A : Nat → Prop} {Ke : State → Prop} {D : va_G} {cA : Nat → ClassId} {E : State → Heap → Prop} {adS adV adM : Nat → Nat} {adD : Nat} (hE : mEok E A) (hkw : gKw Ke) (hX : xSt l Ke E A adM adD) (hSt : sSt Ke A (KW D cA E A) adS adV) (s0 : Km) (a0 : Nat) (a1 : Int32) : gCv l yX9_putOnTape cX9_putOnTape 3 (none) rm_X9_putOnTape Ke (KW D cA E A) A [.ref a0, .int a1] s0 (K9_putOnTape s0 a0 a1) := by
  refine g_metv (by decide) (by simp [lg_sl, Value.category]) ?_
  intro p e s m below meth c h hr hKs
  refine g_lv [(0, .ref a0), (1, .int a1)] [0, 1] rfl ?_
  unfold K9_putOnTape
  refine g_bipush (v := 24) h dX9_putOnTape_0 (by decide) ?_
  refine g_istore_n h [(2, .int (24 : Int32)), (0, .ref a0), (1, .int a1)] dX9_putOnTape_2 (by decide) rfl ?_
  refine g_lv [(0, .ref a0), (1, .int a1), (2, .int (24 : Int32))] [1, 2, 0] rfl ?_
  refine K9_putOnTape_L3_w h hKs hE hkw hX hSt a0 a1 (fun s_46 => ?_) gF s0 (24 : Int32)
  · exact K9_putOnTape_B46_w h hKs hE hkw hX hSt s_46  hr
def rm_X9_feed : Room := { frames := 1, cells := 0, slots := 0, locals := 22 }
theorem yk_X9_feed : yOkV yX9_feed cX9_feed 6 (some .int) RX9 5 := ⟨tW_157, tW_1, tW_155, tW_156, by decide, by decide, by decide +kernel⟩
def K9_feed (s0 : Km) (a0 : Nat) (a1 : Int32) (a2 : Int32) (a3 : Int32) (a4 : Int32) (a5 : Int32) : Option (Int32 × Km) :=
  if kK s0 a0 = 9 then
  if (kI s0 a0 1) + (20 : Int32) ≤ (1000 : Int32) then
    (K9_putOnTape s0 a0 a1).bind (fun s_17 =>
    if kK s_17 a0 = 9 then
    (K9_putOnTape s_17 a0 a2).bind (fun s_22 =>
    if kK s_22 a0 = 9 then
    (K9_putOnTape s_22 a0 a3).bind (fun s_27 =>
    if kK s_27 a0 = 9 then
    (K9_putOnTape s_27 a0 a4).bind (fun s_33 =>
    if kK s_33 a0 = 9 then
    (K9_putOnTape s_33 a0 a5).bind (fun s_39 =>
    if kK s_39 a0 = 9 then
    some (kI s_39 a0 1, s_39)
    else none)
    else none)
    else none)
    else none)
    else none)
  else
    some ((-1 : Int32), s0)
  else none
set_option maxHeartbeats 4000000 in
set_option maxRecDepth 100000 in
theorem c_X9_feed {l : Launch} {A : Nat → Prop} {Ke : State → Prop} {D : va_G} {cA : Nat → ClassId} {E : State → Heap → Prop} {adS adV adM : Nat → Nat} {adD : Nat} (hE : mEok E A) (hkw : gKw Ke) (hX : xSt l Ke E A adM adD) (hSt : sSt Ke A (KW D cA E A) adS adV) (s0 : Km) (a0 : Nat) (a1 : Int32) (a2 : Int32) (a3 : Int32) (a4 : Int32) (a5 : Int32) : gCi l yX9_feed cX9_feed 6 (some .int) rm_X9_feed Ke (KW D cA E A) A [.ref a0, .int a1, .int a2, .int a3, .int a4, .int a5] s0 (K9_feed s0 a0 a1 a2 a3 a4 a5) := by
  refine g_meti (by decide) (by simp [lg_sl, Value.category]) ?_
  intro p e s m below meth c h hr hKs
  refine g_lv [(0, .ref a0), (1, .int a1), (2, .int a2), (3, .int a3), (4, .int a4), (5, .int a5)] [0, 1, 2, 3, 4, 5] rfl ?_
  unfold K9_feed
  refine g_aload_n h 0 dX9_feed_0 rfl ?_
  refine k_kind (fun hk1_0 => ?_)
  refine k_geti h (RX9, TX9, 13) 8 (by decide) rfl hinX9 1 (by decide) rfl tW_115 dX9_feed_1 hk1_0 ?_
  refine g_bipush (v := 20) h dX9_feed_4 (by decide) ?_
  refine g_iadd h dX9_feed_6 ?_
  refine g_sipush (v := 1000) h dX9_feed_7 (by decide) ?_
  refine g_icmp_le h 15 dX9_feed_10 (by decide) ?_ ?_
  · refine g_aload_n h 0 dX9_feed_15 rfl ?_
    refine g_iload_n h 1 dX9_feed_16 rfl ?_
    refine g_callV0v h (KW_mv hE) hkw hKs [.int a1] (c_X9_putOnTape hE hkw hX hSt s0 a0 a1) yk_X9_putOnTape tW_158 ⟨(Nat.le_of_ble_eq_true rfl), (Nat.le_of_ble_eq_true rfl)⟩ (KW_recv a0 8 (r := (RX9, TX9, 13)) hk1_0 (by decide) rfl) rfl rfl rfl rfl (Nat.le_of_ble_eq_true rfl) dX9_feed_17 ⟨(Nat.le_of_ble_eq_true rfl), (Nat.le_of_ble_eq_true rfl)⟩ (fun s_17 => ?_)
    refine g_aload_n h 0 dX9_feed_20 rfl ?_
    refine g_iload_n h 2 dX9_feed_21 rfl ?_
    refine k_kind (fun hk22_0 => ?_)
    refine g_callV0v h (KW_mv hE) hkw hKs [.int a2] (c_X9_putOnTape hE hkw hX hSt s_17 a0 a2) yk_X9_putOnTape tW_158 ⟨(Nat.le_of_ble_eq_true rfl), (Nat.le_of_ble_eq_true rfl)⟩ (KW_recv a0 8 (r := (RX9, TX9, 13)) hk22_0 (by decide) rfl) rfl rfl rfl rfl (Nat.le_of_ble_eq_true rfl) dX9_feed_22 ⟨(Nat.le_of_ble_eq_true rfl), (Nat.le_of_ble_eq_true rfl)⟩ (fun s_22 => ?_)
    refine g_aload_n h 0 dX9_feed_25 rfl ?_
    refine g_iload_n h 3 dX9_feed_26 rfl ?_
    refine k_kind (fun hk27_0 => ?_)
    refine g_callV0v h (KW_mv hE) hkw hKs [.int a3] (c_X9_putOnTape hE hkw hX hSt s_22 a0 a3) yk_X9_putOnTape tW_158 ⟨(Nat.le_of_ble_eq_true rfl), (Nat.le_of_ble_eq_true rfl)⟩ (KW_recv a0 8 (r := (RX9, TX9, 13)) hk27_0 (by decide) rfl) rfl rfl rfl rfl (Nat.le_of_ble_eq_true rfl) dX9_feed_27 ⟨(Nat.le_of_ble_eq_true rfl), (Nat.le_of_ble_eq_true rfl)⟩ (fun s_27 => ?_)
    refine g_aload_n h 0 dX9_feed_30 rfl ?_
    refine g_iload h 4 dX9_feed_31 rfl ?_
    refine k_kind (fun hk33_0 => ?_)
    refine g_callV0v h (KW_mv hE) hkw hKs [.int a4] (c_X9_putOnTape hE hkw hX hSt s_27 a0 a4) yk_X9_putOnTape tW_158 ⟨(Nat.le_of_ble_eq_true rfl), (Nat.le_of_ble_eq_true rfl)⟩ (KW_recv a0 8 (r := (RX9, TX9, 13)) hk33_0 (by decide) rfl) rfl rfl rfl rfl (Nat.le_of_ble_eq_true rfl) dX9_feed_33 ⟨(Nat.le_of_ble_eq_true rfl), (Nat.le_of_ble_eq_true rfl)⟩ (fun s_33 => ?_)
    refine g_aload_n h 0 dX9_feed_36 rfl ?_
    refine g_iload h 5 dX9_feed_37 rfl ?_
    refine k_kind (fun hk39_0 => ?_)
    refine g_callV0v h (KW_mv hE) hkw hKs [.int a5] (c_X9_putOnTape hE hkw hX hSt s_33 a0 a5) yk_X9_putOnTape tW_158 ⟨(Nat.le_of_ble_eq_true rfl), (Nat.le_of_ble_eq_true rfl)⟩ (KW_recv a0 8 (r := (RX9, TX9, 13)) hk39_0 (by decide) rfl) rfl rfl rfl rfl (Nat.le_of_ble_eq_true rfl) dX9_feed_39 ⟨(Nat.le_of_ble_eq_true rfl), (Nat.le_of_ble_eq_true rfl)⟩ (fun s_39 => ?_)
    refine g_aload_n h 0 dX9_feed_42 rfl ?_
    refine k_kind (fun hk43_0 => ?_)
    refine k_geti h (RX9, TX9, 13) 8 (by decide) rfl hinX9 1 (by decide) rfl tW_115 dX9_feed_43 hk43_0 ?_
    exact g_iret h (KW_mv hE) hr (Nat.le_of_ble_eq_true rfl) (Nat.le_of_ble_eq_true rfl) dX9_feed_46
  · refine g_iconst (v := -1) h dX9_feed_13 (by decide) ?_
    exact g_iret h (KW_mv hE) hr (Nat.le_of_ble_eq_true rfl) (Nat.le_of_ble_eq_true rfl) dX9_feed_14
def rm_X9_rules : Room := { frames := 8, cells := 109, slots := 690, locals := 175 }
theorem yk_X9_rules : yOkV yX9_rules cX9_rules 5 (some .int) RX9 2 := ⟨tW_363, tW_1, tW_361, tW_362, by decide, by decide, by decide +kernel⟩
def K9_rules_B16 (s0 : Km)  : Option ((Int32 × Km) ⊕ (Bool × Km)) :=
  some (.inr (false, s0))
set_option maxHeartbeats 4000000 in
set_option maxRecDepth 100000 in
theorem K9_rules_B16_w {p : Program} {l : Launch} {e : Env} {s : State} {m : MethodId} {args : Array Value} {below : List Frame} {meth : Method} {c : Code} {A : Nat → Prop} {Ke : State → Prop} {D : va_G} {cA : Nat → ClassId} {E : State → Heap → Prop} {adS adV adM : Nat → Nat} {adD : Nat} (h : gOk p s m args meth c cX9_rules 5 RX9 tb) (hKs : Ke s) (hE : mEok E A) (hkw : gKw Ke) (hX : xSt l Ke E A adM adD) (hSt : sSt Ke A (KW D cA E A) adS adV) (hE0 : E s s.heap) (hT : ∀ x ∈ c.exceptionTable.toList, False) (s0 : Km)  (hr : meth.sig.returnType = some .int)  : gS p l e rm_X9_rules s m args below meth c 5 A (KW D cA E A) (fun X => vx_MQ below (xQi (KW D cA E A) A X) (xC (KW D cA E A) A X) args s rm_X9_rules.cells rm_X9_rules.slots A) (1) (6) (K9_rules_B16 s0) s0 16 [] [] := by
  unfold K9_rules_B16
  exact g_throwi h hE hKs hX hE0 hT false 6 (by decide) xAll_f rfl (Nat.le_of_ble_eq_true rfl) (Nat.le_of_ble_eq_true rfl) (Nat.le_of_ble_eq_true rfl) (Nat.le_of_ble_eq_true rfl) (Nat.le_of_ble_eq_true rfl) (Nat.le_of_ble_eq_true rfl) dX9_rules_16 dX9_rules_19 dX9_rules_20 dX9_rules_22 dX9_rules_25
def K9_rules (s0 : Km) (a0 : Nat) (a1 : Int32) (a2 : Int32) : Option ((Int32 × Km) ⊕ (Bool × Km)) :=
  bxv (K9_checkDay s0 a2) (fun s_1 =>
  if a1 < 0 then
    K9_rules_B16 s_1
  else
    if kK s_1 a0 = 9 then
    if a1 ≤ kI s_1 a0 1 then
      bnd (kSetI s_1 a0 1 (0 : Int32)) (fun s_28 =>
      bnd (kSetI s_28 a0 2 (-1 : Int32)) (fun s_33 =>
      if kI s_33 a0 4 < (8 : Int32) then
        bnd2 (kn s_33) (kNew s_33 5 0) (fun q_48 s_48 =>
        (K5_init s_48 q_48 a2).bind (fun s_53 =>
        bnd2 (kn s_53) (kNew s_53 4 0) (fun q_57 s_57 =>
        if kK s_57 a0 = 9 then
        (kR s_57 a0 0).bind (fun b62 =>
        (K4_init s_57 q_57 b62 a1).bind (fun s_66 =>
        if kK s_66 q_57 = 4 then
        (K4_readInto s_66 q_57 q_48).bind (fun s_74 =>
        if kK s_74 q_57 = 4 then
        if kI s_74 q_57 5 = 0 then
          if kK s_74 a0 = 9 then
          (kR s_74 a0 3).bind (fun b103 =>
          if kK s_74 b103 = 16 then
          if kK s_74 q_48 = 5 then
          if okI (kI s_74 a0 4) (kN s_74 b103) = true then
          bnd (kSetR s_74 b103 (kI s_74 a0 4).toNatClampNeg (some q_48)) (fun s_111 =>
          bnd (kSetI s_111 a0 4 ((kI s_111 a0 4) + (1 : Int32))) (fun s_119 =>
          some (.inl ((kI s_119 a0 4) - (1 : Int32), s_119))))
          else none
          else none
          else none)
          else none
        else
          if kK s_74 a0 = 9 then
          bnd (kSetI s_74 a0 2 (kI s_74 q_57 6)) (fun s_91 =>
          some (.inl ((-1 : Int32) - (kI s_91 q_57 5), s_91)))
          else none
        else none)
        else none))
        else none)))
      else
        some (.inl ((-9 : Int32), s_33))))
    else
      K9_rules_B16 s_1
    else none)
set_option maxHeartbeats 4000000 in
set_option maxRecDepth 100000 in
theorem c_X9_rules {l : Launch} {A : Nat → Prop} {Ke : State → Prop} {D : va_G} {cA : Nat → ClassId} {E : State → Heap → Prop} {adS adV adM : Nat → Nat} {adD : Nat} (hE : mEok E A) (hkw : gKw Ke) (hX : xSt l Ke E A adM adD) (hSt : sSt Ke A (KW D cA E A) adS adV) (s0 : Km) (a0 : Nat) (a1 : Int32) (a2 : Int32) : gXi l yX9_rules cX9_rules 5 (some .int) rm_X9_rules Ke (KW D cA E A) A [.ref a0, .int a1, .int a2] s0 (K9_rules s0 a0 a1 a2) := by
  refine g_metxi (by decide) (by simp [lg_sl, Value.category]) ?_
  intro p e s m below meth c h hr hKs hE0 hT
  refine g_lv [(0, .ref a0), (1, .int a1), (2, .int a2)] [0, 1, 2] rfl ?_
  unfold K9_rules
  refine g_iload_n h 2 dX9_rules_0 rfl ?_
  refine g_xcallSv h hE hkw hKs hT [.int a2] (c_X9_checkDay hE hkw hX hSt s0 a2) yk_X9_checkDay tW_325 ⟨(Nat.le_of_ble_eq_true rfl), (Nat.le_of_ble_eq_true rfl)⟩ rfl rfl (Nat.le_of_ble_eq_true rfl) dX9_rules_1 ⟨(Nat.le_of_ble_eq_true rfl), (Nat.le_of_ble_eq_true rfl)⟩ (Nat.le_of_ble_eq_true rfl) (Nat.le_of_ble_eq_true rfl) (fun s_1 => ?_)
  refine g_wid (1) (6) (Nat.le_of_ble_eq_true rfl) (Nat.le_of_ble_eq_true rfl) ?_
  refine g_iload_n h 1 dX9_rules_4 rfl ?_
  refine g_if_lt h 16 dX9_rules_5 (by decide) ?_ ?_
  · refine g_lv [] [] rfl ?_
    exact K9_rules_B16_w h hKs hE hkw hX hSt hE0 hT s_1  hr
  · refine g_iload_n h 1 dX9_rules_8 rfl ?_
    refine g_aload_n h 0 dX9_rules_9 rfl ?_
    refine k_kind (fun hk10_0 => ?_)
    refine k_geti h (RX9, TX9, 13) 8 (by decide) rfl hinX9 1 (by decide) rfl tW_115 dX9_rules_10 hk10_0 ?_
    refine g_icmp_le h 26 dX9_rules_13 (by decide) ?_ ?_
    · refine g_aload_n h 0 dX9_rules_26 rfl ?_
      refine g_iconst (v := 0) h dX9_rules_27 (by decide) ?_
      refine k_puti (x := (0 : Int32)) h hE (RX9, TX9, 13) 8 (by decide) rfl hinX9 1 (by decide) rfl tyX9 tyX9_ok nmX9 rfl tW_115 rfl rfl dX9_rules_28 hk10_0 ?_
      refine g_bndE (fun s_28 hs_28 => ?_)
      refine g_aload_n h 0 dX9_rules_31 rfl ?_
      refine g_iconst (v := -1) h dX9_rules_32 (by decide) ?_
      refine k_puti (x := (-1 : Int32)) h hE (RX9, TX9, 13) 8 (by decide) rfl hinX9 2 (by decide) rfl tyX9 tyX9_ok nmX9 rfl tW_116 rfl rfl dX9_rules_33 (kKsI hs_28 hk10_0) ?_
      refine g_bndE (fun s_33 hs_33 => ?_)
      refine g_aload_n h 0 dX9_rules_36 rfl ?_
      refine k_geti h (RX9, TX9, 13) 8 (by decide) rfl hinX9 4 (by decide) rfl tW_118 dX9_rules_37 (kKsI hs_33 (kKsI hs_28 hk10_0)) ?_
      refine g_bipush (v := 8) h dX9_rules_40 (by decide) ?_
      refine g_icmp_lt h 48 dX9_rules_42 (by decide) ?_ ?_
      · refine k_new h hE (RX5, TX5, 5) 4 (by decide) rfl hinX5 tyX5 tyX5_ok (by decide) tW_31 tW_365 tW_12 (Nat.le_of_ble_eq_true rfl) (Nat.le_of_ble_eq_true rfl) dX9_rules_48 ?_
        refine g_wid (2) (11) (Nat.le_of_ble_eq_true rfl) (Nat.le_of_ble_eq_true rfl) ?_
        refine g_bnd2 (fun q_48 s_48 hq_48 hs_48 => ?_)
        refine g_dup h dX9_rules_51 rfl ?_
        refine g_iload_n h 2 dX9_rules_52 rfl ?_
        refine g_callIv h (KW_mv hE) hkw hKs [.int a2] (c_X5_init hE hkw hX hSt s_48 q_48 a2) yk_X5_init tW_366 ⟨(Nat.le_of_ble_eq_true rfl), (Nat.le_of_ble_eq_true rfl)⟩ rfl rfl (Nat.le_of_ble_eq_true rfl) dX9_rules_53 ⟨(Nat.le_of_ble_eq_true rfl), (Nat.le_of_ble_eq_true rfl)⟩ (fun s_53 _ => ?_)
        refine g_wid (4) (59) (Nat.le_of_ble_eq_true rfl) (Nat.le_of_ble_eq_true rfl) ?_
        refine g_astore_n h [(3, .ref q_48), (0, .ref a0), (1, .int a1), (2, .int a2)] dX9_rules_56 (by decide) rfl ?_
        refine k_new h hE (RX4, TX4, 7) 3 (by decide) rfl hinX4 tyX4 tyX4_ok (by decide) tW_394 tW_395 tW_13 (Nat.le_of_ble_eq_true rfl) (Nat.le_of_ble_eq_true rfl) dX9_rules_57 ?_
        refine g_wid (5) (66) (Nat.le_of_ble_eq_true rfl) (Nat.le_of_ble_eq_true rfl) ?_
        refine g_bnd2 (fun q_57 s_57 hq_57 hs_57 => ?_)
        refine g_dup h dX9_rules_60 rfl ?_
        refine g_aload_n h 1 dX9_rules_61 rfl ?_
        refine k_kind (fun hk62_0 => ?_)
        refine k_getr h (RX9, TX9, 13) 8 (by decide) rfl hinX9 0 (by decide) rfl tW_114 dX9_rules_62 hk62_0 ?_
        refine g_ob (fun b62 => ?_)
        refine g_iload_n h 2 dX9_rules_65 rfl ?_
        refine g_callIv h (KW_mv hE) hkw hKs [.ref b62, .int a1] (c_X4_init hE hkw hX hSt s_57 q_57 b62 a1) yk_X4_init tW_396 ⟨(Nat.le_of_ble_eq_true rfl), (Nat.le_of_ble_eq_true rfl)⟩ rfl rfl (Nat.le_of_ble_eq_true rfl) dX9_rules_66 ⟨(Nat.le_of_ble_eq_true rfl), (Nat.le_of_ble_eq_true rfl)⟩ (fun s_66 _ => ?_)
        refine g_astore h [(4, .ref q_57), (3, .ref q_48), (0, .ref a0), (1, .int a1), (2, .int a2)] dX9_rules_69 (by decide) rfl ?_
        refine g_aload h 0 dX9_rules_71 rfl ?_
        refine g_aload_n h 1 dX9_rules_73 rfl ?_
        refine k_kind (fun hk74_0 => ?_)
        refine g_callVv h (KW_mv hE) hkw hKs [.ref q_48] (c_X4_readInto hE hkw hX hSt s_66 q_57 q_48) yk_X4_readInto tW_425 ⟨(Nat.le_of_ble_eq_true rfl), (Nat.le_of_ble_eq_true rfl)⟩ (KW_recv q_57 3 (r := (RX4, TX4, 7)) hk74_0 (by decide) rfl) rfl rfl (Nat.le_of_ble_eq_true rfl) dX9_rules_74 ⟨(Nat.le_of_ble_eq_true rfl), (Nat.le_of_ble_eq_true rfl)⟩ (fun s_74 _ => ?_)
        refine g_wid (109) (690) (Nat.le_of_ble_eq_true rfl) (Nat.le_of_ble_eq_true rfl) ?_
        refine g_aload h 0 dX9_rules_77 rfl ?_
        refine k_kind (fun hk79_0 => ?_)
        refine k_geti h (RX4, TX4, 7) 3 (by decide) rfl hinX4 5 (by decide) rfl tW_406 dX9_rules_79 hk79_0 ?_
        refine g_if_eq h 102 dX9_rules_82 (by decide) ?_ ?_
        · refine g_aload_n h 2 dX9_rules_102 rfl ?_
          refine k_kind (fun hk103_0 => ?_)
          refine k_getr h (RX9, TX9, 13) 8 (by decide) rfl hinX9 3 (by decide) rfl tW_117 dX9_rules_103 hk103_0 ?_
          refine g_ob (fun b103 => ?_)
          refine g_aload_n h 2 dX9_rules_106 rfl ?_
          refine k_geti h (RX9, TX9, 13) 8 (by decide) rfl hinX9 4 (by decide) rfl tW_118 dX9_rules_107 hk103_0 ?_
          refine g_aload_n h 1 dX9_rules_110 rfl ?_
          refine k_kind (fun hk111_0 => ?_)
          refine k_kind (fun hk111_1 => ?_)
          refine k_aast h hE 16 5 4 (by decide) (by decide) (RX5, TX5, 5) rfl rfl dX9_rules_111 hk111_0 hk111_1 ?_
          refine g_bndE (fun s_111 hs_111 => ?_)
          refine g_aload_n h 2 dX9_rules_112 rfl ?_
          refine g_dup h dX9_rules_113 rfl ?_
          refine k_geti h (RX9, TX9, 13) 8 (by decide) rfl hinX9 4 (by decide) rfl tW_118 dX9_rules_114 (kKsR hs_111 hk103_0) ?_
          refine g_iconst (v := 1) h dX9_rules_117 (by decide) ?_
          refine g_iadd h dX9_rules_118 ?_
          refine k_puti (x := ((kI s_111 a0 4) + (1 : Int32))) h hE (RX9, TX9, 13) 8 (by decide) rfl hinX9 4 (by decide) rfl tyX9 tyX9_ok nmX9 rfl tW_118 rfl rfl dX9_rules_119 (kKsR hs_111 hk103_0) ?_
          refine g_bndE (fun s_119 hs_119 => ?_)
          refine g_aload_n h 2 dX9_rules_122 rfl ?_
          refine k_geti h (RX9, TX9, 13) 8 (by decide) rfl hinX9 4 (by decide) rfl tW_118 dX9_rules_123 (kKsI hs_119 (kKsR hs_111 hk103_0)) ?_
          refine g_iconst (v := 1) h dX9_rules_126 (by decide) ?_
          refine g_isub h dX9_rules_127 ?_
          exact g_xiret h hE hr (Nat.le_of_ble_eq_true rfl) (Nat.le_of_ble_eq_true rfl) dX9_rules_128
        · refine g_aload_n h 2 dX9_rules_85 rfl ?_
          refine g_aload h 0 dX9_rules_86 rfl ?_
          refine k_geti h (RX4, TX4, 7) 3 (by decide) rfl hinX4 6 (by decide) rfl tW_408 dX9_rules_88 hk79_0 ?_
          refine k_kind (fun hk91_0 => ?_)
          refine k_puti (x := (kI s_74 q_57 6)) h hE (RX9, TX9, 13) 8 (by decide) rfl hinX9 2 (by decide) rfl tyX9 tyX9_ok nmX9 rfl tW_116 rfl rfl dX9_rules_91 hk91_0 ?_
          refine g_bndE (fun s_91 hs_91 => ?_)
          refine g_iconst (v := -1) h dX9_rules_94 (by decide) ?_
          refine g_aload h 0 dX9_rules_95 rfl ?_
          refine k_geti h (RX4, TX4, 7) 3 (by decide) rfl hinX4 5 (by decide) rfl tW_406 dX9_rules_97 (kKsI hs_91 hk79_0) ?_
          refine g_isub h dX9_rules_100 ?_
          exact g_xiret h hE hr (Nat.le_of_ble_eq_true rfl) (Nat.le_of_ble_eq_true rfl) dX9_rules_101
      · refine g_bipush (v := -9) h dX9_rules_45 (by decide) ?_
        exact g_xiret h hE hr (Nat.le_of_ble_eq_true rfl) (Nat.le_of_ble_eq_true rfl) dX9_rules_47
    · refine g_lv [] [] rfl ?_
      exact K9_rules_B16_w h hKs hE hkw hX hSt hE0 hT s_1  hr
def rm_X9_fault : Room := { frames := 0, cells := 0, slots := 0, locals := 0 }
theorem yk_X9_fault : yOkV yX9_fault cX9_fault 1 (some .int) RX9 0 := ⟨tW_165, tW_1, tW_163, tW_164, by decide, by decide, by decide +kernel⟩
def K9_fault (s0 : Km) (a0 : Nat) : Option (Int32) :=
  if kK s0 a0 = 9 then
  some (kI s0 a0 2)
  else none
set_option maxHeartbeats 4000000 in
set_option maxRecDepth 100000 in
theorem c_X9_fault {l : Launch} {A : Nat → Prop} {Ke : State → Prop} {D : va_G} {cA : Nat → ClassId} {E : State → Heap → Prop} {adS adV adM : Nat → Nat} {adD : Nat} (hE : mEok E A) (hkw : gKw Ke) (hX : xSt l Ke E A adM adD) (hSt : sSt Ke A (KW D cA E A) adS adV) (s0 : Km) (a0 : Nat) : gCp l yX9_fault cX9_fault 1 (some .int) rm_X9_fault Ke (KW D cA E A) A [.ref a0] s0 (K9_fault s0 a0) := by
  refine g_metp (by decide) (by simp [lg_sl, Value.category]) ?_
  intro p e s m below meth c h hr hKs
  refine g_lv [(0, .ref a0)] [0] rfl ?_
  unfold K9_fault
  refine g_aload_n h 0 dX9_fault_0 rfl ?_
  refine k_kind (fun hk1_0 => ?_)
  refine k_geti h (RX9, TX9, 13) 8 (by decide) rfl hinX9 2 (by decide) rfl tW_116 dX9_fault_1 hk1_0 ?_
  exact g_iretp h (KW_mv hE) hr (Nat.le_of_ble_eq_true rfl) (Nat.le_of_ble_eq_true rfl) dX9_fault_4
def rm_X9_thing : Room := { frames := 2, cells := 4, slots := 22, locals := 43 }
theorem yk_X9_thing : yOkV yX9_thing cX9_thing 2 (some .int) RX9 1 := ⟨tW_169, tW_1, tW_167, tW_168, by decide, by decide, by decide +kernel⟩
def K9_thing_B18 (s0 : Km)  : Option (Int32 × Km) :=
  some ((-1 : Int32), s0)
set_option maxHeartbeats 4000000 in
set_option maxRecDepth 100000 in
theorem K9_thing_B18_w {p : Program} {l : Launch} {e : Env} {s : State} {m : MethodId} {args : Array Value} {below : List Frame} {meth : Method} {c : Code} {A : Nat → Prop} {Ke : State → Prop} {D : va_G} {cA : Nat → ClassId} {E : State → Heap → Prop} {adS adV adM : Nat → Nat} {adD : Nat} (h : gOk p s m args meth c cX9_thing 2 RX9 tb) (hKs : Ke s) (hE : mEok E A) (hkw : gKw Ke) (hX : xSt l Ke E A adM adD) (hSt : sSt Ke A (KW D cA E A) adS adV) (s0 : Km)  (hr : meth.sig.returnType = some .int)  : gS p l e rm_X9_thing s m args below meth c 2 A (KW D cA E A) (fun X => MQ below (gPi (KW D cA E A) A X) args s rm_X9_thing.cells rm_X9_thing.slots A) (0) (0) (K9_thing_B18 s0) s0 18 [] [] := by
  unfold K9_thing_B18
  refine g_iconst (v := -1) h dX9_thing_18 (by decide) ?_
  exact g_iret h (KW_mv hE) hr (Nat.le_of_ble_eq_true rfl) (Nat.le_of_ble_eq_true rfl) dX9_thing_19
def K9_thing (s0 : Km) (a0 : Nat) (a1 : Int32) : Option (Int32 × Km) :=
  if kK s0 a0 = 9 then
  if (30 : Int32) ≤ kI s0 a0 6 then
    K9_thing_B18 s0
  else
    if a1 < 0 then
      K9_thing_B18 s0
    else
      if a1 < (4 : Int32) then
        (kR s0 a0 5).bind (fun b21 =>
        bnd2 (kn s0) (kNew s0 8 0) (fun q_28 s_28 =>
        (K8_init s_28 q_28 a1).bind (fun s_33 =>
        if kK s_33 b21 = 18 then
        if kK s_33 q_28 = 8 then
        if okI (kI s0 a0 6) (kN s_33 b21) = true then
        bnd (kSetR s_33 b21 (kI s0 a0 6).toNatClampNeg (some q_28)) (fun s_36 =>
        if kK s_36 a0 = 9 then
        bnd (kSetI s_36 a0 6 ((kI s_36 a0 6) + (1 : Int32))) (fun s_44 =>
        some ((kI s_44 a0 6) - (1 : Int32), s_44))
        else none)
        else none
        else none
        else none)))
      else
        K9_thing_B18 s0
  else none
set_option maxHeartbeats 4000000 in
set_option maxRecDepth 100000 in
theorem c_X9_thing {l : Launch} {A : Nat → Prop} {Ke : State → Prop} {D : va_G} {cA : Nat → ClassId} {E : State → Heap → Prop} {adS adV adM : Nat → Nat} {adD : Nat} (hE : mEok E A) (hkw : gKw Ke) (hX : xSt l Ke E A adM adD) (hSt : sSt Ke A (KW D cA E A) adS adV) (s0 : Km) (a0 : Nat) (a1 : Int32) : gCi l yX9_thing cX9_thing 2 (some .int) rm_X9_thing Ke (KW D cA E A) A [.ref a0, .int a1] s0 (K9_thing s0 a0 a1) := by
  refine g_meti (by decide) (by simp [lg_sl, Value.category]) ?_
  intro p e s m below meth c h hr hKs
  refine g_lv [(0, .ref a0), (1, .int a1)] [0, 1] rfl ?_
  unfold K9_thing
  refine g_aload_n h 0 dX9_thing_0 rfl ?_
  refine k_kind (fun hk1_0 => ?_)
  refine k_geti h (RX9, TX9, 13) 8 (by decide) rfl hinX9 6 (by decide) rfl tW_120 dX9_thing_1 hk1_0 ?_
  refine g_bipush (v := 30) h dX9_thing_4 (by decide) ?_
  refine g_icmp_ge h 18 dX9_thing_6 (by decide) ?_ ?_
  · refine g_lv [] [] rfl ?_
    exact K9_thing_B18_w h hKs hE hkw hX hSt s0  hr
  · refine g_iload_n h 1 dX9_thing_9 rfl ?_
    refine g_if_lt h 18 dX9_thing_10 (by decide) ?_ ?_
    · refine g_lv [] [] rfl ?_
      exact K9_thing_B18_w h hKs hE hkw hX hSt s0  hr
    · refine g_iload_n h 1 dX9_thing_13 rfl ?_
      refine g_iconst (v := 4) h dX9_thing_14 (by decide) ?_
      refine g_icmp_lt h 20 dX9_thing_15 (by decide) ?_ ?_
      · refine g_aload_n h 0 dX9_thing_20 rfl ?_
        refine k_getr h (RX9, TX9, 13) 8 (by decide) rfl hinX9 5 (by decide) rfl tW_119 dX9_thing_21 hk1_0 ?_
        refine g_ob (fun b21 => ?_)
        refine g_aload_n h 0 dX9_thing_24 rfl ?_
        refine k_geti h (RX9, TX9, 13) 8 (by decide) rfl hinX9 6 (by decide) rfl tW_120 dX9_thing_25 hk1_0 ?_
        refine k_new h hE (RX8, TX8, 6) 7 (by decide) rfl hinX8 tyX8 tyX8_ok (by decide) tW_33 tW_170 tW_19 (Nat.le_of_ble_eq_true rfl) (Nat.le_of_ble_eq_true rfl) dX9_thing_28 ?_
        refine g_wid (1) (6) (Nat.le_of_ble_eq_true rfl) (Nat.le_of_ble_eq_true rfl) ?_
        refine g_bnd2 (fun q_28 s_28 hq_28 hs_28 => ?_)
        refine g_dup h dX9_thing_31 rfl ?_
        refine g_iload_n h 1 dX9_thing_32 rfl ?_
        refine g_callIv h (KW_mv hE) hkw hKs [.int a1] (c_X8_init hE hkw hX hSt s_28 q_28 a1) yk_X8_init tW_171 ⟨(Nat.le_of_ble_eq_true rfl), (Nat.le_of_ble_eq_true rfl)⟩ rfl rfl (Nat.le_of_ble_eq_true rfl) dX9_thing_33 ⟨(Nat.le_of_ble_eq_true rfl), (Nat.le_of_ble_eq_true rfl)⟩ (fun s_33 _ => ?_)
        refine g_wid (4) (22) (Nat.le_of_ble_eq_true rfl) (Nat.le_of_ble_eq_true rfl) ?_
        refine k_kind (fun hk36_0 => ?_)
        refine k_kind (fun hk36_1 => ?_)
        refine k_aast h hE 18 7 7 (by decide) (by decide) (RX8, TX8, 6) rfl rfl dX9_thing_36 hk36_0 hk36_1 ?_
        refine g_bndE (fun s_36 hs_36 => ?_)
        refine g_aload_n h 0 dX9_thing_37 rfl ?_
        refine g_dup h dX9_thing_38 rfl ?_
        refine k_kind (fun hk39_0 => ?_)
        refine k_geti h (RX9, TX9, 13) 8 (by decide) rfl hinX9 6 (by decide) rfl tW_120 dX9_thing_39 hk39_0 ?_
        refine g_iconst (v := 1) h dX9_thing_42 (by decide) ?_
        refine g_iadd h dX9_thing_43 ?_
        refine k_puti (x := ((kI s_36 a0 6) + (1 : Int32))) h hE (RX9, TX9, 13) 8 (by decide) rfl hinX9 6 (by decide) rfl tyX9 tyX9_ok nmX9 rfl tW_120 rfl rfl dX9_thing_44 hk39_0 ?_
        refine g_bndE (fun s_44 hs_44 => ?_)
        refine g_aload_n h 0 dX9_thing_47 rfl ?_
        refine k_geti h (RX9, TX9, 13) 8 (by decide) rfl hinX9 6 (by decide) rfl tW_120 dX9_thing_48 (kKsI hs_44 hk39_0) ?_
        refine g_iconst (v := 1) h dX9_thing_51 (by decide) ?_
        refine g_isub h dX9_thing_52 ?_
        exact g_iret h (KW_mv hE) hr (Nat.le_of_ble_eq_true rfl) (Nat.le_of_ble_eq_true rfl) dX9_thing_53
      · refine g_lv [] [] rfl ?_
        exact K9_thing_B18_w h hKs hE hkw hX hSt s0  hr
def rm_X9_thingAt : Room := { frames := 6, cells := 1, slots := 6, locals := 90 }
theorem yk_X9_thingAt : yOkV yX9_thingAt cX9_thingAt 2 (some (.object "KeepForget$Thing")) RX9 1 := ⟨tW_640, tW_1, tW_639, tP_22, by decide, by decide, by decide +kernel⟩
def K9_thingAt_B12 (s0 : Km)  : Option ((Option Nat × Km) ⊕ (Bool × Km)) :=
  some (.inr (true, s0))
set_option maxHeartbeats 4000000 in
set_option maxRecDepth 100000 in
theorem K9_thingAt_B12_w {p : Program} {l : Launch} {e : Env} {s : State} {m : MethodId} {args : Array Value} {below : List Frame} {meth : Method} {c : Code} {A : Nat → Prop} {Ke : State → Prop} {D : va_G} {cA : Nat → ClassId} {E : State → Heap → Prop} {adS adV adM : Nat → Nat} {adD : Nat} (h : gOk p s m args meth c cX9_thingAt 2 RX9 tb) (hKs : Ke s) (hE : mEok E A) (hkw : gKw Ke) (hX : xSt l Ke E A adM adD) (hSt : sSt Ke A (KW D cA E A) adS adV) (hE0 : E s s.heap) (hT : ∀ x ∈ c.exceptionTable.toList, False) (s0 : Km)  (hr : meth.sig.returnType = some (.object "KeepForget$Thing"))  : gS p l e rm_X9_thingAt s m args below meth c 2 A (KW D cA E A) (fun X => vx_MQ below (xQq (KW D cA E A) A X) (xC (KW D cA E A) A X) args s rm_X9_thingAt.cells rm_X9_thingAt.slots A) (0) (0) (K9_thingAt_B12 s0) s0 12 [] [] := by
  unfold K9_thingAt_B12
  exact g_throwWq h hE hKs hX hE0 hT true 7 (by decide) xAll_t rfl (Nat.le_of_ble_eq_true rfl) (Nat.le_of_ble_eq_true rfl) (Nat.le_of_ble_eq_true rfl) (Nat.le_of_ble_eq_true rfl) (Nat.le_of_ble_eq_true rfl) (Nat.le_of_ble_eq_true rfl) dX9_thingAt_12 dX9_thingAt_15 dX9_thingAt_16 dX9_thingAt_19 dX9_thingAt_22
def K9_thingAt (s0 : Km) (a0 : Nat) (a1 : Int32) : Option ((Option Nat × Km) ⊕ (Bool × Km)) :=
  if a1 < 0 then
    K9_thingAt_B12 s0
  else
    if kK s0 a0 = 9 then
    if a1 < kI s0 a0 6 then
      (kR s0 a0 5).bind (fun b24 =>
      if kK s0 b24 = 18 then
      if okI a1 (kN s0 b24) = true then
      (kR s0 b24 a1.toNatClampNeg).bind (fun b28 =>
      some (.inl (some b28, s0)))
      else none
      else none)
    else
      K9_thingAt_B12 s0
    else none
set_option maxHeartbeats 4000000 in
set_option maxRecDepth 100000 in
theorem c_X9_thingAt {l : Launch} {A : Nat → Prop} {Ke : State → Prop} {D : va_G} {cA : Nat → ClassId} {E : State → Heap → Prop} {adS adV adM : Nat → Nat} {adD : Nat} (hE : mEok E A) (hkw : gKw Ke) (hX : xSt l Ke E A adM adD) (hSt : sSt Ke A (KW D cA E A) adS adV) (s0 : Km) (a0 : Nat) (a1 : Int32) : gXq l yX9_thingAt cX9_thingAt 2 (some (.object "KeepForget$Thing")) rm_X9_thingAt Ke (KW D cA E A) A [.ref a0, .int a1] s0 (K9_thingAt s0 a0 a1) := by
  refine g_metxq (by decide) (by simp [lg_sl, Value.category]) ?_
  intro p e s m below meth c h hr hKs hE0 hT
  refine g_lv [(0, .ref a0), (1, .int a1)] [0, 1] rfl ?_
  unfold K9_thingAt
  refine g_iload_n h 1 dX9_thingAt_0 rfl ?_
  refine g_if_lt h 12 dX9_thingAt_1 (by decide) ?_ ?_
  · refine g_lv [] [] rfl ?_
    exact K9_thingAt_B12_w h hKs hE hkw hX hSt hE0 hT s0  hr
  · refine g_iload_n h 1 dX9_thingAt_4 rfl ?_
    refine g_aload_n h 0 dX9_thingAt_5 rfl ?_
    refine k_kind (fun hk6_0 => ?_)
    refine k_geti h (RX9, TX9, 13) 8 (by decide) rfl hinX9 6 (by decide) rfl tW_120 dX9_thingAt_6 hk6_0 ?_
    refine g_icmp_lt h 23 dX9_thingAt_9 (by decide) ?_ ?_
    · refine g_aload_n h 0 dX9_thingAt_23 rfl ?_
      refine k_getr h (RX9, TX9, 13) 8 (by decide) rfl hinX9 5 (by decide) rfl tW_119 dX9_thingAt_24 hk6_0 ?_
      refine g_ob (fun b24 => ?_)
      refine g_iload_n h 1 dX9_thingAt_27 rfl ?_
      refine k_kind (fun hk28_0 => ?_)
      refine k_aald h 18 7 (by decide) "KeepForget$Thing" rfl dX9_thingAt_28 hk28_0 ?_
      refine g_ob (fun b28 => ?_)
      exact g_xqret (r := some b28) h hE hr rfl (Nat.le_of_ble_eq_true rfl) (Nat.le_of_ble_eq_true rfl) dX9_thingAt_29
    · refine g_lv [] [] rfl ?_
      exact K9_thingAt_B12_w h hKs hE hkw hX hSt hE0 hT s0  hr
def rm_X9_fact : Room := { frames := 7, cells := 2, slots := 12, locals := 111 }
theorem yk_X9_fact : yOkV yX9_fact cX9_fact 6 (some .int) RX9 3 := ⟨tW_636, tW_1, tW_634, tW_635, by decide, by decide, by decide +kernel⟩
def K9_fact_B16 (s0 : Km)  : Option ((Int32 × Km) ⊕ (Bool × Km)) :=
  some (.inr (true, s0))
set_option maxHeartbeats 4000000 in
set_option maxRecDepth 100000 in
theorem K9_fact_B16_w {p : Program} {l : Launch} {e : Env} {s : State} {m : MethodId} {args : Array Value} {below : List Frame} {meth : Method} {c : Code} {A : Nat → Prop} {Ke : State → Prop} {D : va_G} {cA : Nat → ClassId} {E : State → Heap → Prop} {adS adV adM : Nat → Nat} {adD : Nat} (h : gOk p s m args meth c cX9_fact 6 RX9 tb) (hKs : Ke s) (hE : mEok E A) (hkw : gKw Ke) (hX : xSt l Ke E A adM adD) (hSt : sSt Ke A (KW D cA E A) adS adV) (hE0 : E s s.heap) (hT : ∀ x ∈ c.exceptionTable.toList, False) (s0 : Km)  (hr : meth.sig.returnType = some .int)  : gS p l e rm_X9_fact s m args below meth c 6 A (KW D cA E A) (fun X => vx_MQ below (xQi (KW D cA E A) A X) (xC (KW D cA E A) A X) args s rm_X9_fact.cells rm_X9_fact.slots A) (1) (6) (K9_fact_B16 s0) s0 16 [] [] := by
  unfold K9_fact_B16
  exact g_throwi h hE hKs hX hE0 hT true 8 (by decide) xAll_t rfl (Nat.le_of_ble_eq_true rfl) (Nat.le_of_ble_eq_true rfl) (Nat.le_of_ble_eq_true rfl) (Nat.le_of_ble_eq_true rfl) (Nat.le_of_ble_eq_true rfl) (Nat.le_of_ble_eq_true rfl) dX9_fact_16 dX9_fact_19 dX9_fact_20 dX9_fact_22 dX9_fact_25
def K9_fact_B37 (s0 : Km)  : Option ((Int32 × Km) ⊕ (Bool × Km)) :=
  some (.inr (false, s0))
set_option maxHeartbeats 4000000 in
set_option maxRecDepth 100000 in
theorem K9_fact_B37_w {p : Program} {l : Launch} {e : Env} {s : State} {m : MethodId} {args : Array Value} {below : List Frame} {meth : Method} {c : Code} {A : Nat → Prop} {Ke : State → Prop} {D : va_G} {cA : Nat → ClassId} {E : State → Heap → Prop} {adS adV adM : Nat → Nat} {adD : Nat} (h : gOk p s m args meth c cX9_fact 6 RX9 tb) (hKs : Ke s) (hE : mEok E A) (hkw : gKw Ke) (hX : xSt l Ke E A adM adD) (hSt : sSt Ke A (KW D cA E A) adS adV) (hE0 : E s s.heap) (hT : ∀ x ∈ c.exceptionTable.toList, False) (s0 : Km)  (hr : meth.sig.returnType = some .int)  : gS p l e rm_X9_fact s m args below meth c 6 A (KW D cA E A) (fun X => vx_MQ below (xQi (KW D cA E A) A X) (xC (KW D cA E A) A X) args s rm_X9_fact.cells rm_X9_fact.slots A) (1) (6) (K9_fact_B37 s0) s0 37 [] [] := by
  unfold K9_fact_B37
  exact g_throwi h hE hKs hX hE0 hT false 9 (by decide) xAll_f rfl (Nat.le_of_ble_eq_true rfl) (Nat.le_of_ble_eq_true rfl) (Nat.le_of_ble_eq_true rfl) (Nat.le_of_ble_eq_true rfl) (Nat.le_of_ble_eq_true rfl) (Nat.le_of_ble_eq_true rfl) dX9_fact_37 dX9_fact_40 dX9_fact_41 dX9_fact_43 dX9_fact_46
def K9_fact (s0 : Km) (a0 : Nat) (a1 : Int32) (a2 : Int32) (a3 : Int32) : Option ((Int32 × Km) ⊕ (Bool × Km)) :=
  if kK s0 a0 = 9 then
  bxq (K9_thingAt s0 a0 a1) (fun r_2 s_2 =>
  (r_2).bind (fun b2 =>
  if a2 < 0 then
    K9_fact_B16 s_2
  else
    if a2 < (4 : Int32) then
      if a3 < 0 then
        K9_fact_B37 s_2
      else
        if a3 ≤ (9999 : Int32) then
          if kK s_2 b2 = 8 then
          (kR s_2 b2 1).bind (fun b49 =>
          if kK s_2 b49 = 12 then
          if okI a2 (kN s_2 b49) = true then
          bnd (kI s_2 b49 a2.toNatClampNeg) (fun v5_54 =>
          (kR s_2 b2 1).bind (fun b58 =>
          if kK s_2 b58 = 12 then
          if okI a2 (kN s_2 b58) = true then
          bnd (kSetI s_2 b58 a2.toNatClampNeg a3) (fun s_63 =>
          some (.inl (v5_54, s_63)))
          else none
          else none))
          else none
          else none)
          else none
        else
          K9_fact_B37 s_2
    else
      K9_fact_B16 s_2))
  else none
set_option maxHeartbeats 4000000 in
set_option maxRecDepth 100000 in
theorem c_X9_fact {l : Launch} {A : Nat → Prop} {Ke : State → Prop} {D : va_G} {cA : Nat → ClassId} {E : State → Heap → Prop} {adS adV adM : Nat → Nat} {adD : Nat} (hE : mEok E A) (hkw : gKw Ke) (hX : xSt l Ke E A adM adD) (hSt : sSt Ke A (KW D cA E A) adS adV) (s0 : Km) (a0 : Nat) (a1 : Int32) (a2 : Int32) (a3 : Int32) : gXi l yX9_fact cX9_fact 6 (some .int) rm_X9_fact Ke (KW D cA E A) A [.ref a0, .int a1, .int a2, .int a3] s0 (K9_fact s0 a0 a1 a2 a3) := by
  refine g_metxi (by decide) (by simp [lg_sl, Value.category]) ?_
  intro p e s m below meth c h hr hKs hE0 hT
  refine g_lv [(0, .ref a0), (1, .int a1), (2, .int a2), (3, .int a3)] [0, 1, 2, 3] rfl ?_
  unfold K9_fact
  refine g_aload_n h 0 dX9_fact_0 rfl ?_
  refine g_iload_n h 1 dX9_fact_1 rfl ?_
  refine k_kind (fun hk2_0 => ?_)
  refine g_xcallVq h hE hkw hKs hT [.int a1] (c_X9_thingAt hE hkw hX hSt s0 a0 a1) yk_X9_thingAt tW_637 ⟨(Nat.le_of_ble_eq_true rfl), (Nat.le_of_ble_eq_true rfl)⟩ (KW_recv a0 8 (r := (RX9, TX9, 13)) hk2_0 (by decide) rfl) rfl rfl (Nat.le_of_ble_eq_true rfl) dX9_fact_2 ⟨(Nat.le_of_ble_eq_true rfl), (Nat.le_of_ble_eq_true rfl)⟩ (Nat.le_of_ble_eq_true rfl) (Nat.le_of_ble_eq_true rfl) (fun r_2 s_2 => ?_)
  refine g_wid (1) (6) (Nat.le_of_ble_eq_true rfl) (Nat.le_of_ble_eq_true rfl) ?_
  refine g_ob (fun b2 => ?_)
  refine g_astore h [(4, .ref b2), (0, .ref a0), (1, .int a1), (2, .int a2), (3, .int a3)] dX9_fact_5 (by decide) rfl ?_
  refine g_iload_n h 3 dX9_fact_7 rfl ?_
  refine g_if_lt h 16 dX9_fact_8 (by decide) ?_ ?_
  · refine g_lv [] [] rfl ?_
    exact K9_fact_B16_w h hKs hE hkw hX hSt hE0 hT s_2  hr
  · refine g_iload_n h 3 dX9_fact_11 rfl ?_
    refine g_iconst (v := 4) h dX9_fact_12 (by decide) ?_
    refine g_icmp_lt h 26 dX9_fact_13 (by decide) ?_ ?_
    · refine g_iload_n h 4 dX9_fact_26 rfl ?_
      refine g_if_lt h 37 dX9_fact_27 (by decide) ?_ ?_
      · refine g_lv [] [] rfl ?_
        exact K9_fact_B37_w h hKs hE hkw hX hSt hE0 hT s_2  hr
      · refine g_iload_n h 4 dX9_fact_30 rfl ?_
        refine g_sipush (v := 9999) h dX9_fact_31 (by decide) ?_
        refine g_icmp_le h 47 dX9_fact_34 (by decide) ?_ ?_
        · refine g_aload h 0 dX9_fact_47 rfl ?_
          refine k_kind (fun hk49_0 => ?_)
          refine k_getr h (RX8, TX8, 6) 7 (by decide) rfl hinX8 1 (by decide) rfl tW_179 dX9_fact_49 hk49_0 ?_
          refine g_ob (fun b49 => ?_)
          refine g_iload_n h 3 dX9_fact_52 rfl ?_
          refine k_kind (fun hk53_0 => ?_)
          refine k_iald h dX9_fact_53 hk53_0 ?_
          refine g_bndi (fun v5_54 => ?_)
          refine g_istore h [(5, .int v5_54), (4, .ref b2), (0, .ref a0), (1, .int a1), (2, .int a2), (3, .int a3)] dX9_fact_54 (by decide) rfl ?_
          refine g_aload h 1 dX9_fact_56 rfl ?_
          refine k_getr h (RX8, TX8, 6) 7 (by decide) rfl hinX8 1 (by decide) rfl tW_179 dX9_fact_58 hk49_0 ?_
          refine g_ob (fun b58 => ?_)
          refine g_iload_n h 4 dX9_fact_61 rfl ?_
          refine g_iload_n h 5 dX9_fact_62 rfl ?_
          refine k_kind (fun hk63_0 => ?_)
          refine k_iast h hE dX9_fact_63 hk63_0 ?_
          refine g_bndE (fun s_63 hs_63 => ?_)
          refine g_iload h 0 dX9_fact_64 rfl ?_
          exact g_xiret h hE hr (Nat.le_of_ble_eq_true rfl) (Nat.le_of_ble_eq_true rfl) dX9_fact_66
        · refine g_lv [] [] rfl ?_
          exact K9_fact_B37_w h hKs hE hkw hX hSt hE0 hT s_2  hr
    · refine g_lv [] [] rfl ?_
      exact K9_fact_B16_w h hKs hE hkw hX hSt hE0 hT s_2  hr
def rm_X9_event : Room := { frames := 7, cells := 2, slots := 12, locals := 111 }
theorem yk_X9_event : yOkV yX9_event cX9_event 6 (some .int) RX9 3 := ⟨tW_665, tW_1, tW_663, tW_664, by decide, by decide, by decide +kernel⟩
def K9_event_B16 (s0 : Km)  : Option ((Int32 × Km) ⊕ (Bool × Km)) :=
  some (.inr (true, s0))
set_option maxHeartbeats 4000000 in
set_option maxRecDepth 100000 in
theorem K9_event_B16_w {p : Program} {l : Launch} {e : Env} {s : State} {m : MethodId} {args : Array Value} {below : List Frame} {meth : Method} {c : Code} {A : Nat → Prop} {Ke : State → Prop} {D : va_G} {cA : Nat → ClassId} {E : State → Heap → Prop} {adS adV adM : Nat → Nat} {adD : Nat} (h : gOk p s m args meth c cX9_event 6 RX9 tb) (hKs : Ke s) (hE : mEok E A) (hkw : gKw Ke) (hX : xSt l Ke E A adM adD) (hSt : sSt Ke A (KW D cA E A) adS adV) (hE0 : E s s.heap) (hT : ∀ x ∈ c.exceptionTable.toList, False) (s0 : Km)  (hr : meth.sig.returnType = some .int)  : gS p l e rm_X9_event s m args below meth c 6 A (KW D cA E A) (fun X => vx_MQ below (xQi (KW D cA E A) A X) (xC (KW D cA E A) A X) args s rm_X9_event.cells rm_X9_event.slots A) (1) (6) (K9_event_B16 s0) s0 16 [] [] := by
  unfold K9_event_B16
  exact g_throwi h hE hKs hX hE0 hT true 10 (by decide) xAll_t rfl (Nat.le_of_ble_eq_true rfl) (Nat.le_of_ble_eq_true rfl) (Nat.le_of_ble_eq_true rfl) (Nat.le_of_ble_eq_true rfl) (Nat.le_of_ble_eq_true rfl) (Nat.le_of_ble_eq_true rfl) dX9_event_16 dX9_event_19 dX9_event_20 dX9_event_22 dX9_event_25
def K9_event_B35 (s0 : Km) (a2 : Int32) (a3 : Int32) (l4 : Nat) : Option ((Int32 × Km) ⊕ (Bool × Km)) :=
  if kK s0 l4 = 8 then
  (kR s0 l4 2).bind (fun b37 =>
  if kK s0 b37 = 12 then
  if okI a2 (kN s0 b37) = true then
  bnd (kI s0 b37 a2.toNatClampNeg) (fun v5_42 =>
  (kR s0 l4 2).bind (fun b46 =>
  if kK s0 b46 = 12 then
  if okI a2 (kN s0 b46) = true then
  bnd (kSetI s0 b46 a2.toNatClampNeg a3) (fun s_51 =>
  some (.inl (v5_42, s_51)))
  else none
  else none))
  else none
  else none)
  else none
set_option maxHeartbeats 4000000 in
set_option maxRecDepth 100000 in
theorem K9_event_B35_w {p : Program} {l : Launch} {e : Env} {s : State} {m : MethodId} {args : Array Value} {below : List Frame} {meth : Method} {c : Code} {A : Nat → Prop} {Ke : State → Prop} {D : va_G} {cA : Nat → ClassId} {E : State → Heap → Prop} {adS adV adM : Nat → Nat} {adD : Nat} (h : gOk p s m args meth c cX9_event 6 RX9 tb) (hKs : Ke s) (hE : mEok E A) (hkw : gKw Ke) (hX : xSt l Ke E A adM adD) (hSt : sSt Ke A (KW D cA E A) adS adV) (hE0 : E s s.heap) (hT : ∀ x ∈ c.exceptionTable.toList, False) (s0 : Km) (a2 : Int32) (a3 : Int32) (l4 : Nat) (hr : meth.sig.returnType = some .int)  : gS p l e rm_X9_event s m args below meth c 6 A (KW D cA E A) (fun X => vx_MQ below (xQi (KW D cA E A) A X) (xC (KW D cA E A) A X) args s rm_X9_event.cells rm_X9_event.slots A) (2) (12) (K9_event_B35 s0 a2 a3 l4) s0 35 [(2, .int a2), (3, .int a3), (4, .ref l4)] [] := by
  unfold K9_event_B35
  refine g_aload h 2 dX9_event_35 rfl ?_
  refine k_kind (fun hk37_0 => ?_)
  refine k_getr h (RX8, TX8, 6) 7 (by decide) rfl hinX8 2 (by decide) rfl tW_182 dX9_event_37 hk37_0 ?_
  refine g_ob (fun b37 => ?_)
  refine g_iload_n h 0 dX9_event_40 rfl ?_
  refine k_kind (fun hk41_0 => ?_)
  refine k_iald h dX9_event_41 hk41_0 ?_
  refine g_bndi (fun v5_42 => ?_)
  refine g_istore h [(5, .int v5_42), (2, .int a2), (3, .int a3), (4, .ref l4)] dX9_event_42 (by decide) rfl ?_
  refine g_aload h 3 dX9_event_44 rfl ?_
  refine k_getr h (RX8, TX8, 6) 7 (by decide) rfl hinX8 2 (by decide) rfl tW_182 dX9_event_46 hk37_0 ?_
  refine g_ob (fun b46 => ?_)
  refine g_iload_n h 1 dX9_event_49 rfl ?_
  refine g_iload_n h 2 dX9_event_50 rfl ?_
  refine k_kind (fun hk51_0 => ?_)
  refine k_iast h hE dX9_event_51 hk51_0 ?_
  refine g_bndE (fun s_51 hs_51 => ?_)
  refine g_iload h 0 dX9_event_52 rfl ?_
  exact g_xiret h hE hr (Nat.le_of_ble_eq_true rfl) (Nat.le_of_ble_eq_true rfl) dX9_event_54
def K9_event (s0 : Km) (a0 : Nat) (a1 : Int32) (a2 : Int32) (a3 : Int32) : Option ((Int32 × Km) ⊕ (Bool × Km)) :=
  if kK s0 a0 = 9 then
  bxq (K9_thingAt s0 a0 a1) (fun r_2 s_2 =>
  (r_2).bind (fun b2 =>
  if a2 < 0 then
    K9_event_B16 s_2
  else
    if a2 < (4 : Int32) then
      if a3 = (-1 : Int32) then
        K9_event_B35 s_2 a2 a3 b2
      else
        bxv (K9_checkDay s_2 a3) (fun s_32 =>
        K9_event_B35 s_32 a2 a3 b2)
    else
      K9_event_B16 s_2))
  else none
set_option maxHeartbeats 4000000 in
set_option maxRecDepth 100000 in
theorem c_X9_event {l : Launch} {A : Nat → Prop} {Ke : State → Prop} {D : va_G} {cA : Nat → ClassId} {E : State → Heap → Prop} {adS adV adM : Nat → Nat} {adD : Nat} (hE : mEok E A) (hkw : gKw Ke) (hX : xSt l Ke E A adM adD) (hSt : sSt Ke A (KW D cA E A) adS adV) (s0 : Km) (a0 : Nat) (a1 : Int32) (a2 : Int32) (a3 : Int32) : gXi l yX9_event cX9_event 6 (some .int) rm_X9_event Ke (KW D cA E A) A [.ref a0, .int a1, .int a2, .int a3] s0 (K9_event s0 a0 a1 a2 a3) := by
  refine g_metxi (by decide) (by simp [lg_sl, Value.category]) ?_
  intro p e s m below meth c h hr hKs hE0 hT
  refine g_lv [(0, .ref a0), (1, .int a1), (2, .int a2), (3, .int a3)] [0, 1, 2, 3] rfl ?_
  unfold K9_event
  refine g_aload_n h 0 dX9_event_0 rfl ?_
  refine g_iload_n h 1 dX9_event_1 rfl ?_
  refine k_kind (fun hk2_0 => ?_)
  refine g_xcallVq h hE hkw hKs hT [.int a1] (c_X9_thingAt hE hkw hX hSt s0 a0 a1) yk_X9_thingAt tW_637 ⟨(Nat.le_of_ble_eq_true rfl), (Nat.le_of_ble_eq_true rfl)⟩ (KW_recv a0 8 (r := (RX9, TX9, 13)) hk2_0 (by decide) rfl) rfl rfl (Nat.le_of_ble_eq_true rfl) dX9_event_2 ⟨(Nat.le_of_ble_eq_true rfl), (Nat.le_of_ble_eq_true rfl)⟩ (Nat.le_of_ble_eq_true rfl) (Nat.le_of_ble_eq_true rfl) (fun r_2 s_2 => ?_)
  refine g_wid (1) (6) (Nat.le_of_ble_eq_true rfl) (Nat.le_of_ble_eq_true rfl) ?_
  refine g_ob (fun b2 => ?_)
  refine g_astore h [(4, .ref b2), (0, .ref a0), (1, .int a1), (2, .int a2), (3, .int a3)] dX9_event_5 (by decide) rfl ?_
  refine g_iload_n h 3 dX9_event_7 rfl ?_
  refine g_if_lt h 16 dX9_event_8 (by decide) ?_ ?_
  · refine g_lv [] [] rfl ?_
    exact K9_event_B16_w h hKs hE hkw hX hSt hE0 hT s_2  hr
  · refine g_iload_n h 3 dX9_event_11 rfl ?_
    refine g_iconst (v := 4) h dX9_event_12 (by decide) ?_
    refine g_icmp_lt h 26 dX9_event_13 (by decide) ?_ ?_
    · refine g_iload_n h 4 dX9_event_26 rfl ?_
      refine g_iconst (v := -1) h dX9_event_27 (by decide) ?_
      refine g_icmp_eq h 35 dX9_event_28 (by decide) ?_ ?_
      · refine g_wid (2) (12) (Nat.le_of_ble_eq_true rfl) (Nat.le_of_ble_eq_true rfl) ?_
        refine g_lv [(2, .int a2), (3, .int a3), (4, .ref b2)] [3, 4, 0] rfl ?_
        exact K9_event_B35_w h hKs hE hkw hX hSt hE0 hT s_2 a2 a3 b2 hr
      · refine g_iload_n h 4 dX9_event_31 rfl ?_
        refine g_xcallSv h hE hkw hKs hT [.int a3] (c_X9_checkDay hE hkw hX hSt s_2 a3) yk_X9_checkDay tW_325 ⟨(Nat.le_of_ble_eq_true rfl), (Nat.le_of_ble_eq_true rfl)⟩ rfl rfl (Nat.le_of_ble_eq_true rfl) dX9_event_32 ⟨(Nat.le_of_ble_eq_true rfl), (Nat.le_of_ble_eq_true rfl)⟩ (Nat.le_of_ble_eq_true rfl) (Nat.le_of_ble_eq_true rfl) (fun s_32 => ?_)
        refine g_wid (2) (12) (Nat.le_of_ble_eq_true rfl) (Nat.le_of_ble_eq_true rfl) ?_
        refine g_lv [(2, .int a2), (3, .int a3), (4, .ref b2)] [3, 4, 0] rfl ?_
        exact K9_event_B35_w h hKs hE hkw hX hSt hE0 hT s_32 a2 a3 b2 hr
    · refine g_lv [] [] rfl ?_
      exact K9_event_B16_w h hKs hE hkw hX hSt hE0 hT s_2  hr
def rm_X9_checkField : Room := { frames := 6, cells := 1, slots := 6, locals := 90 }
theorem yk_X9_checkField : yOkS yX9_checkField cX9_checkField 1 (none) 1 := ⟨tW_676, tW_1, tW_675, by decide, by decide, by decide +kernel⟩
def K9_checkField_B10 (s0 : Km)  : Option (Km ⊕ (Bool × Km)) :=
  some (.inr (true, s0))
set_option maxHeartbeats 4000000 in
set_option maxRecDepth 100000 in
theorem K9_checkField_B10_w {p : Program} {l : Launch} {e : Env} {s : State} {m : MethodId} {args : Array Value} {below : List Frame} {meth : Method} {c : Code} {A : Nat → Prop} {Ke : State → Prop} {D : va_G} {cA : Nat → ClassId} {E : State → Heap → Prop} {adS adV adM : Nat → Nat} {adD : Nat} (h : gOk p s m args meth c cX9_checkField 1 RX9 tb) (hKs : Ke s) (hE : mEok E A) (hkw : gKw Ke) (hX : xSt l Ke E A adM adD) (hSt : sSt Ke A (KW D cA E A) adS adV) (hE0 : E s s.heap) (hT : ∀ x ∈ c.exceptionTable.toList, False) (s0 : Km)  (hr : meth.sig.returnType = none)  : gS p l e rm_X9_checkField s m args below meth c 1 A (KW D cA E A) (fun X => vx_MQ below (xQv (KW D cA E A) A X) (xC (KW D cA E A) A X) args s rm_X9_checkField.cells rm_X9_checkField.slots A) (0) (0) (K9_checkField_B10 s0) s0 10 [] [] := by
  unfold K9_checkField_B10
  exact g_throwWv h hE hKs hX hE0 hT true 11 (by decide) xAll_t rfl (Nat.le_of_ble_eq_true rfl) (Nat.le_of_ble_eq_true rfl) (Nat.le_of_ble_eq_true rfl) (Nat.le_of_ble_eq_true rfl) (Nat.le_of_ble_eq_true rfl) (Nat.le_of_ble_eq_true rfl) dX9_checkField_10 dX9_checkField_13 dX9_checkField_14 dX9_checkField_17 dX9_checkField_20
def K9_checkField (s0 : Km) (a0 : Int32) : Option (Km ⊕ (Bool × Km)) :=
  if a0 < 0 then
    K9_checkField_B10 s0
  else
    if a0 < (8 : Int32) then
      some (.inl s0)
    else
      K9_checkField_B10 s0
set_option maxHeartbeats 4000000 in
set_option maxRecDepth 100000 in
theorem c_X9_checkField {l : Launch} {A : Nat → Prop} {Ke : State → Prop} {D : va_G} {cA : Nat → ClassId} {E : State → Heap → Prop} {adS adV adM : Nat → Nat} {adD : Nat} (hE : mEok E A) (hkw : gKw Ke) (hX : xSt l Ke E A adM adD) (hSt : sSt Ke A (KW D cA E A) adS adV) (s0 : Km) (a0 : Int32) : gXv l yX9_checkField cX9_checkField 1 (none) rm_X9_checkField Ke (KW D cA E A) A [.int a0] s0 (K9_checkField s0 a0) := by
  refine g_metxv (by decide) (by simp [lg_sl, Value.category]) ?_
  intro p e s m below meth c h hr hKs hE0 hT
  refine g_lv [(0, .int a0)] [0] rfl ?_
  unfold K9_checkField
  refine g_iload_n h 0 dX9_checkField_0 rfl ?_
  refine g_if_lt h 10 dX9_checkField_1 (by decide) ?_ ?_
  · refine g_lv [] [] rfl ?_
    exact K9_checkField_B10_w h hKs hE hkw hX hSt hE0 hT s0  hr
  · refine g_iload_n h 0 dX9_checkField_4 rfl ?_
    refine g_bipush (v := 8) h dX9_checkField_5 (by decide) ?_
    refine g_icmp_lt h 21 dX9_checkField_7 (by decide) ?_ ?_
    · exact g_xvret h hE hr (Nat.le_of_ble_eq_true rfl) (Nat.le_of_ble_eq_true rfl) dX9_checkField_21
    · refine g_lv [] [] rfl ?_
      exact K9_checkField_B10_w h hKs hE hkw hX hSt hE0 hT s0  hr
def rm_X9_checkStore : Room := { frames := 6, cells := 1, slots := 6, locals := 90 }
theorem yk_X9_checkStore : yOkS yX9_checkStore cX9_checkStore 1 (none) 1 := ⟨tW_680, tW_1, tW_679, by decide, by decide, by decide +kernel⟩
def K9_checkStore_B9 (s0 : Km)  : Option (Km ⊕ (Bool × Km)) :=
  some (.inr (true, s0))
set_option maxHeartbeats 4000000 in
set_option maxRecDepth 100000 in
theorem K9_checkStore_B9_w {p : Program} {l : Launch} {e : Env} {s : State} {m : MethodId} {args : Array Value} {below : List Frame} {meth : Method} {c : Code} {A : Nat → Prop} {Ke : State → Prop} {D : va_G} {cA : Nat → ClassId} {E : State → Heap → Prop} {adS adV adM : Nat → Nat} {adD : Nat} (h : gOk p s m args meth c cX9_checkStore 1 RX9 tb) (hKs : Ke s) (hE : mEok E A) (hkw : gKw Ke) (hX : xSt l Ke E A adM adD) (hSt : sSt Ke A (KW D cA E A) adS adV) (hE0 : E s s.heap) (hT : ∀ x ∈ c.exceptionTable.toList, False) (s0 : Km)  (hr : meth.sig.returnType = none)  : gS p l e rm_X9_checkStore s m args below meth c 1 A (KW D cA E A) (fun X => vx_MQ below (xQv (KW D cA E A) A X) (xC (KW D cA E A) A X) args s rm_X9_checkStore.cells rm_X9_checkStore.slots A) (0) (0) (K9_checkStore_B9 s0) s0 9 [] [] := by
  unfold K9_checkStore_B9
  exact g_throwWv h hE hKs hX hE0 hT true 12 (by decide) xAll_t rfl (Nat.le_of_ble_eq_true rfl) (Nat.le_of_ble_eq_true rfl) (Nat.le_of_ble_eq_true rfl) (Nat.le_of_ble_eq_true rfl) (Nat.le_of_ble_eq_true rfl) (Nat.le_of_ble_eq_true rfl) dX9_checkStore_9 dX9_checkStore_12 dX9_checkStore_13 dX9_checkStore_16 dX9_checkStore_19
def K9_checkStore (s0 : Km) (a0 : Int32) : Option (Km ⊕ (Bool × Km)) :=
  if a0 < 0 then
    K9_checkStore_B9 s0
  else
    if a0 < (4 : Int32) then
      some (.inl s0)
    else
      K9_checkStore_B9 s0
set_option maxHeartbeats 4000000 in
set_option maxRecDepth 100000 in
theorem c_X9_checkStore {l : Launch} {A : Nat → Prop} {Ke : State → Prop} {D : va_G} {cA : Nat → ClassId} {E : State → Heap → Prop} {adS adV adM : Nat → Nat} {adD : Nat} (hE : mEok E A) (hkw : gKw Ke) (hX : xSt l Ke E A adM adD) (hSt : sSt Ke A (KW D cA E A) adS adV) (s0 : Km) (a0 : Int32) : gXv l yX9_checkStore cX9_checkStore 1 (none) rm_X9_checkStore Ke (KW D cA E A) A [.int a0] s0 (K9_checkStore s0 a0) := by
  refine g_metxv (by decide) (by simp [lg_sl, Value.category]) ?_
  intro p e s m below meth c h hr hKs hE0 hT
  refine g_lv [(0, .int a0)] [0] rfl ?_
  unfold K9_checkStore
  refine g_iload_n h 0 dX9_checkStore_0 rfl ?_
  refine g_if_lt h 9 dX9_checkStore_1 (by decide) ?_ ?_
  · refine g_lv [] [] rfl ?_
    exact K9_checkStore_B9_w h hKs hE hkw hX hSt hE0 hT s0  hr
  · refine g_iload_n h 0 dX9_checkStore_4 rfl ?_
    refine g_iconst (v := 4) h dX9_checkStore_5 (by decide) ?_
    refine g_icmp_lt h 20 dX9_checkStore_6 (by decide) ?_ ?_
    · exact g_xvret h hE hr (Nat.le_of_ble_eq_true rfl) (Nat.le_of_ble_eq_true rfl) dX9_checkStore_20
    · refine g_lv [] [] rfl ?_
      exact K9_checkStore_B9_w h hKs hE hkw hX hSt hE0 hT s0  hr
def rm_X9_numberInForce : Room := { frames := 0, cells := 0, slots := 0, locals := 0 }
theorem yk_X9_numberInForce : yOkV yX9_numberInForce cX9_numberInForce 3 (some .int) RX9 0 := ⟨tW_217, tW_1, tW_216, tP_3, by decide, by decide, by decide +kernel⟩
def K9_numberInForce_B56 {Rt : Type} (s0 : Km) (rec : Int32 → Int32 → Option Rt) (k62 : Int32 → Option Rt) (a0 : Nat) (l1 : Int32) (l2 : Int32) : Option (Rt) :=
  rec l1 (l2 + 1)
set_option maxHeartbeats 4000000 in
set_option maxRecDepth 100000 in
theorem K9_numberInForce_B56_w {p : Program} {l : Launch} {e : Env} {s : State} {m : MethodId} {args : Array Value} {below : List Frame} {meth : Method} {c : Code} {A : Nat → Prop} {Ke : State → Prop} {D : va_G} {cA : Nat → ClassId} {E : State → Heap → Prop} {adS adV adM : Nat → Nat} {adD : Nat} (h : gOk p s m args meth c cX9_numberInForce 3 RX9 tb) (hKs : Ke s) (hE : mEok E A) (hkw : gKw Ke) (hX : xSt l Ke E A adM adD) (hSt : sSt Ke A (KW D cA E A) adS adV) {Rt : Type} {QX : Rt → State → Prop} {rec : Int32 → Int32 → Option Rt} {k62 : Int32 → Option Rt} (s0 : Km) (a0 : Nat) (l1 : Int32) (l2 : Int32) (hrec : ∀ (l1 : Int32) (l2 : Int32), gS p l e rm_X9_numberInForce s m args below meth c 3 A (KW D cA E A) QX (0) (0) (rec l1 l2) s0 4 [(0, .ref a0), (1, .int l1), (2, .int l2)] []) (hk62 : ∀ (l1 : Int32), gS p l e rm_X9_numberInForce s m args below meth c 3 A (KW D cA E A) QX (0) (0) (k62 l1) s0 62 [(1, .int l1)] []) : gS p l e rm_X9_numberInForce s m args below meth c 3 A (KW D cA E A) QX (0) (0) (K9_numberInForce_B56 s0 rec k62 a0 l1 l2) s0 56 [(0, .ref a0), (1, .int l1), (2, .int l2)] [] := by
  unfold K9_numberInForce_B56
  refine g_iinc (v := l2 + 1) (i := 2) h [(2, .int (l2 + 1)), (0, .ref a0), (1, .int l1)] dX9_numberInForce_56 rfl rfl (by decide) rfl ?_
  refine g_goto h 4 dX9_numberInForce_59 (by decide) ?_
  refine g_lv [(0, .ref a0), (1, .int l1), (2, .int (l2 + 1))] [1, 2, 0] rfl ?_
  exact hrec l1 (l2 + 1)
def K9_numberInForce_B54 {Rt : Type} (s0 : Km) (rec : Int32 → Int32 → Option Rt) (k62 : Int32 → Option Rt) (a0 : Nat) (l2 : Int32) : Option (Rt) :=
  K9_numberInForce_B56 s0 rec k62 a0 l2 l2
set_option maxHeartbeats 4000000 in
set_option maxRecDepth 100000 in
theorem K9_numberInForce_B54_w {p : Program} {l : Launch} {e : Env} {s : State} {m : MethodId} {args : Array Value} {below : List Frame} {meth : Method} {c : Code} {A : Nat → Prop} {Ke : State → Prop} {D : va_G} {cA : Nat → ClassId} {E : State → Heap → Prop} {adS adV adM : Nat → Nat} {adD : Nat} (h : gOk p s m args meth c cX9_numberInForce 3 RX9 tb) (hKs : Ke s) (hE : mEok E A) (hkw : gKw Ke) (hX : xSt l Ke E A adM adD) (hSt : sSt Ke A (KW D cA E A) adS adV) {Rt : Type} {QX : Rt → State → Prop} {rec : Int32 → Int32 → Option Rt} {k62 : Int32 → Option Rt} (s0 : Km) (a0 : Nat) (l2 : Int32) (hrec : ∀ (l1 : Int32) (l2 : Int32), gS p l e rm_X9_numberInForce s m args below meth c 3 A (KW D cA E A) QX (0) (0) (rec l1 l2) s0 4 [(0, .ref a0), (1, .int l1), (2, .int l2)] []) (hk62 : ∀ (l1 : Int32), gS p l e rm_X9_numberInForce s m args below meth c 3 A (KW D cA E A) QX (0) (0) (k62 l1) s0 62 [(1, .int l1)] []) : gS p l e rm_X9_numberInForce s m args below meth c 3 A (KW D cA E A) QX (0) (0) (K9_numberInForce_B54 s0 rec k62 a0 l2) s0 54 [(0, .ref a0), (2, .int l2)] [] := by
  unfold K9_numberInForce_B54
  refine g_iload_n h 1 dX9_numberInForce_54 rfl ?_
  refine g_istore_n h [(1, .int l2), (0, .ref a0), (2, .int l2)] dX9_numberInForce_55 (by decide) rfl ?_
  refine g_lv [(0, .ref a0), (1, .int l2), (2, .int l2)] [1, 0, 2] rfl ?_
  exact K9_numberInForce_B56_w h hKs hE hkw hX hSt s0 a0 l2 l2 hrec hk62
def K9_numberInForce_L4 {Rt : Type} (s0 : Km) (a0 : Nat) (k62 : Int32 → Option Rt) : Nat → Int32 → Int32 → Option Rt
  | 0, _, _ => none
  | F + 1, l1, l2 =>
  if kK s0 a0 = 9 then
    if kI s0 a0 4 ≤ l2 then
      k62 l1
    else
      (kR s0 a0 3).bind (fun b13 =>
      if kK s0 b13 = 16 then
      if okI l2 (kN s0 b13) = true then
      (kR s0 b13 l2.toNatClampNeg).bind (fun b17 =>
      if kK s0 b17 = 5 then
      if kI s0 a0 12 < kI s0 b17 0 then
        K9_numberInForce_B56 s0 (K9_numberInForce_L4 s0 a0 k62 F) k62 a0 l1 l2
      else
        if l1 = (-1 : Int32) then
          K9_numberInForce_B54 s0 (K9_numberInForce_L4 s0 a0 k62 F) k62 a0 l2
        else
          (kR s0 a0 3).bind (fun b34 =>
          if kK s0 b34 = 16 then
          if okI l2 (kN s0 b34) = true then
          (kR s0 b34 l2.toNatClampNeg).bind (fun b38 =>
          if kK s0 b38 = 5 then
          (kR s0 a0 3).bind (fun b43 =>
          if kK s0 b43 = 16 then
          if okI l1 (kN s0 b43) = true then
          (kR s0 b43 l1.toNatClampNeg).bind (fun b47 =>
          if kK s0 b47 = 5 then
          if kI s0 b38 0 < kI s0 b47 0 then
            K9_numberInForce_B56 s0 (K9_numberInForce_L4 s0 a0 k62 F) k62 a0 l1 l2
          else
            K9_numberInForce_B54 s0 (K9_numberInForce_L4 s0 a0 k62 F) k62 a0 l2
          else none)
          else none
          else none)
          else none)
          else none
          else none)
      else none)
      else none
      else none)
    else none
set_option maxHeartbeats 4000000 in
set_option maxRecDepth 100000 in
theorem K9_numberInForce_L4_w {p : Program} {l : Launch} {e : Env} {s : State} {m : MethodId} {args : Array Value} {below : List Frame} {meth : Method} {c : Code} {A : Nat → Prop} {Ke : State → Prop} {D : va_G} {cA : Nat → ClassId} {E : State → Heap → Prop} {adS adV adM : Nat → Nat} {adD : Nat} (h : gOk p s m args meth c cX9_numberInForce 3 RX9 tb) (hKs : Ke s) (hE : mEok E A) (hkw : gKw Ke) (hX : xSt l Ke E A adM adD) (hSt : sSt Ke A (KW D cA E A) adS adV) {Rt : Type} {QX : Rt → State → Prop} (s0 : Km) (a0 : Nat) {k62 : Int32 → Option Rt} (hk62 : ∀ (l1 : Int32), gS p l e rm_X9_numberInForce s m args below meth c 3 A (KW D cA E A) QX (0) (0) (k62 l1) s0 62 [(1, .int l1)] []) : ∀ (F : Nat), ∀ (l1 : Int32) (l2 : Int32), gS p l e rm_X9_numberInForce s m args below meth c 3 A (KW D cA E A) QX (0) (0) (K9_numberInForce_L4 s0 a0 k62 F l1 l2) s0 4 [(0, .ref a0), (1, .int l1), (2, .int l2)] [] := by
  intro F
  induction F with
  | zero =>
    intro l1 l2
    unfold K9_numberInForce_L4
    exact g_none
  | succ F ih =>
    intro l1 l2
    unfold K9_numberInForce_L4
    refine g_iload_n h 2 dX9_numberInForce_4 rfl ?_
    refine g_aload_n h 0 dX9_numberInForce_5 rfl ?_
    refine k_kind (fun hk6_0 => ?_)
    refine k_geti h (RX9, TX9, 13) 8 (by decide) rfl hinX9 4 (by decide) rfl tW_118 dX9_numberInForce_6 hk6_0 ?_
    refine g_icmp_ge h 62 dX9_numberInForce_9 (by decide) ?_ ?_
    · refine g_lv [(1, .int l1)] [1] rfl ?_
      exact hk62 l1
    · refine g_aload_n h 0 dX9_numberInForce_12 rfl ?_
      refine k_getr h (RX9, TX9, 13) 8 (by decide) rfl hinX9 3 (by decide) rfl tW_117 dX9_numberInForce_13 hk6_0 ?_
      refine g_ob (fun b13 => ?_)
      refine g_iload_n h 2 dX9_numberInForce_16 rfl ?_
      refine k_kind (fun hk17_0 => ?_)
      refine k_aald h 16 5 (by decide) "KeepForget$RuleSet" rfl dX9_numberInForce_17 hk17_0 ?_
      refine g_ob (fun b17 => ?_)
      refine k_kind (fun hk18_0 => ?_)
      refine k_geti h (RX5, TX5, 5) 4 (by decide) rfl hinX5 0 (by decide) rfl tW_373 dX9_numberInForce_18 hk18_0 ?_
      refine g_aload_n h 0 dX9_numberInForce_21 rfl ?_
      refine k_geti h (RX9, TX9, 13) 8 (by decide) rfl hinX9 12 (by decide) rfl tW_126 dX9_numberInForce_22 hk6_0 ?_
      refine g_icmp_gt h 56 dX9_numberInForce_25 (by decide) ?_ ?_
      · exact K9_numberInForce_B56_w h hKs hE hkw hX hSt s0 a0 l1 l2 (ih) hk62
      · refine g_iload_n h 1 dX9_numberInForce_28 rfl ?_
        refine g_iconst (v := -1) h dX9_numberInForce_29 (by decide) ?_
        refine g_icmp_eq h 54 dX9_numberInForce_30 (by decide) ?_ ?_
        · refine g_lv [(0, .ref a0), (2, .int l2)] [0, 2] rfl ?_
          exact K9_numberInForce_B54_w h hKs hE hkw hX hSt s0 a0 l2 (ih) hk62
        · refine g_aload_n h 0 dX9_numberInForce_33 rfl ?_
          refine k_getr h (RX9, TX9, 13) 8 (by decide) rfl hinX9 3 (by decide) rfl tW_117 dX9_numberInForce_34 hk6_0 ?_
          refine g_ob (fun b34 => ?_)
          refine g_iload_n h 2 dX9_numberInForce_37 rfl ?_
          refine k_kind (fun hk38_0 => ?_)
          refine k_aald h 16 5 (by decide) "KeepForget$RuleSet" rfl dX9_numberInForce_38 hk38_0 ?_
          refine g_ob (fun b38 => ?_)
          refine k_kind (fun hk39_0 => ?_)
          refine k_geti h (RX5, TX5, 5) 4 (by decide) rfl hinX5 0 (by decide) rfl tW_373 dX9_numberInForce_39 hk39_0 ?_
          refine g_aload_n h 0 dX9_numberInForce_42 rfl ?_
          refine k_getr h (RX9, TX9, 13) 8 (by decide) rfl hinX9 3 (by decide) rfl tW_117 dX9_numberInForce_43 hk6_0 ?_
          refine g_ob (fun b43 => ?_)
          refine g_iload_n h 1 dX9_numberInForce_46 rfl ?_
          refine k_kind (fun hk47_0 => ?_)
          refine k_aald h 16 5 (by decide) "KeepForget$RuleSet" rfl dX9_numberInForce_47 hk47_0 ?_
          refine g_ob (fun b47 => ?_)
          refine k_kind (fun hk48_0 => ?_)
          refine k_geti h (RX5, TX5, 5) 4 (by decide) rfl hinX5 0 (by decide) rfl tW_373 dX9_numberInForce_48 hk48_0 ?_
          refine g_icmp_lt h 56 dX9_numberInForce_51 (by decide) ?_ ?_
          · exact K9_numberInForce_B56_w h hKs hE hkw hX hSt s0 a0 l1 l2 (ih) hk62
          · refine g_lv [(0, .ref a0), (2, .int l2)] [0, 2] rfl ?_
            exact K9_numberInForce_B54_w h hKs hE hkw hX hSt s0 a0 l2 (ih) hk62
def K9_numberInForce (s0 : Km) (a0 : Nat) : Option (Int32) :=
  K9_numberInForce_L4 s0 a0 (fun v1_62 => some v1_62) gF (-1 : Int32) (0 : Int32)
set_option maxHeartbeats 4000000 in
set_option maxRecDepth 100000 in
theorem c_X9_numberInForce {l : Launch} {A : Nat → Prop} {Ke : State → Prop} {D : va_G} {cA : Nat → ClassId} {E : State → Heap → Prop} {adS adV adM : Nat → Nat} {adD : Nat} (hE : mEok E A) (hkw : gKw Ke) (hX : xSt l Ke E A adM adD) (hSt : sSt Ke A (KW D cA E A) adS adV) (s0 : Km) (a0 : Nat) : gCp l yX9_numberInForce cX9_numberInForce 3 (some .int) rm_X9_numberInForce Ke (KW D cA E A) A [.ref a0] s0 (K9_numberInForce s0 a0) := by
  refine g_metp (by decide) (by simp [lg_sl, Value.category]) ?_
  intro p e s m below meth c h hr hKs
  refine g_lv [(0, .ref a0)] [0] rfl ?_
  unfold K9_numberInForce
  refine g_iconst (v := -1) h dX9_numberInForce_0 (by decide) ?_
  refine g_istore_n h [(1, .int (-1 : Int32)), (0, .ref a0)] dX9_numberInForce_1 (by decide) rfl ?_
  refine g_iconst (v := 0) h dX9_numberInForce_2 (by decide) ?_
  refine g_istore_n h [(2, .int (0 : Int32)), (1, .int (-1 : Int32)), (0, .ref a0)] dX9_numberInForce_3 (by decide) rfl ?_
  refine g_lv [(0, .ref a0), (1, .int (-1 : Int32)), (2, .int (0 : Int32))] [2, 1, 0] rfl ?_
  refine K9_numberInForce_L4_w h hKs hE hkw hX hSt s0 a0 (fun v1_62 => ?_) gF (-1 : Int32) (0 : Int32)
  · refine g_iload_n h 0 dX9_numberInForce_62 rfl ?_
    exact g_iretp h (KW_mv hE) hr (Nat.le_of_ble_eq_true rfl) (Nat.le_of_ble_eq_true rfl) dX9_numberInForce_63
def rm_X9_setInForce : Room := { frames := 1, cells := 0, slots := 0, locals := 22 }
theorem yk_X9_setInForce : yOkV yX9_setInForce cX9_setInForce 2 (some (.object "KeepForget$RuleSet")) RX9 0 := ⟨tW_213, tW_1, tW_212, tP_2, by decide, by decide, by decide +kernel⟩
def K9_setInForce_B20 (s0 : Km) (t0 : Option Nat) : Option (Option Nat) :=
  some (t0)
set_option maxHeartbeats 4000000 in
set_option maxRecDepth 100000 in
theorem K9_setInForce_B20_w {p : Program} {l : Launch} {e : Env} {s : State} {m : MethodId} {args : Array Value} {below : List Frame} {meth : Method} {c : Code} {A : Nat → Prop} {Ke : State → Prop} {D : va_G} {cA : Nat → ClassId} {E : State → Heap → Prop} {adS adV adM : Nat → Nat} {adD : Nat} (h : gOk p s m args meth c cX9_setInForce 2 RX9 tb) (hKs : Ke s) (hE : mEok E A) (hkw : gKw Ke) (hX : xSt l Ke E A adM adD) (hSt : sSt Ke A (KW D cA E A) adS adV) (s0 : Km) (t0 : Option Nat) (hr : meth.sig.returnType = some (.object "KeepForget$RuleSet"))  : gS p l e rm_X9_setInForce s m args below meth c 2 A (KW D cA E A) (fun X => MQ below (gPq (KW D cA E A) A (X, s0)) args s rm_X9_setInForce.cells rm_X9_setInForce.slots A) (0) (0) (K9_setInForce_B20 s0 t0) s0 20 [] [va_rf t0] := by
  unfold K9_setInForce_B20
  exact g_qret (r := t0) h (KW_mv hE) hr rfl (Nat.le_of_ble_eq_true rfl) (Nat.le_of_ble_eq_true rfl) dX9_setInForce_20
def K9_setInForce (s0 : Km) (a0 : Nat) : Option (Option Nat) :=
  if kK s0 a0 = 9 then
  (K9_numberInForce s0 a0).bind (fun r_1 =>
  if r_1 = (-1 : Int32) then
    K9_setInForce_B20 s0 none
  else
    (kR s0 a0 3).bind (fun b15 =>
    if kK s0 b15 = 16 then
    if okI r_1 (kN s0 b15) = true then
    (kR s0 b15 r_1.toNatClampNeg).bind (fun b19 =>
    K9_setInForce_B20 s0 (some b19))
    else none
    else none))
  else none
set_option maxHeartbeats 4000000 in
set_option maxRecDepth 100000 in
theorem c_X9_setInForce {l : Launch} {A : Nat → Prop} {Ke : State → Prop} {D : va_G} {cA : Nat → ClassId} {E : State → Heap → Prop} {adS adV adM : Nat → Nat} {adD : Nat} (hE : mEok E A) (hkw : gKw Ke) (hX : xSt l Ke E A adM adD) (hSt : sSt Ke A (KW D cA E A) adS adV) (s0 : Km) (a0 : Nat) : gCq l yX9_setInForce cX9_setInForce 2 (some (.object "KeepForget$RuleSet")) rm_X9_setInForce Ke (KW D cA E A) A [.ref a0] s0 (K9_setInForce s0 a0) := by
  refine g_metq (by decide) (by simp [lg_sl, Value.category]) ?_
  intro p e s m below meth c h hr hKs
  refine g_lv [(0, .ref a0)] [0] rfl ?_
  unfold K9_setInForce
  refine g_aload_n h 0 dX9_setInForce_0 rfl ?_
  refine k_kind (fun hk1_0 => ?_)
  refine g_callV0p h (KW_mv hE) hkw hKs [] (c_X9_numberInForce hE hkw hX hSt s0 a0) yk_X9_numberInForce tW_214 ⟨(Nat.le_of_ble_eq_true rfl), (Nat.le_of_ble_eq_true rfl)⟩ (KW_recv a0 8 (r := (RX9, TX9, 13)) hk1_0 (by decide) rfl) rfl rfl rfl rfl (Nat.le_of_ble_eq_true rfl) dX9_setInForce_1 ⟨(Nat.le_of_ble_eq_true rfl), (Nat.le_of_ble_eq_true rfl)⟩ (fun r_1 => ?_)
  refine g_istore_n h [(1, .int r_1), (0, .ref a0)] dX9_setInForce_4 (by decide) rfl ?_
  refine g_iload_n h 0 dX9_setInForce_5 rfl ?_
  refine g_iconst (v := -1) h dX9_setInForce_6 (by decide) ?_
  refine g_icmp_ne h 14 dX9_setInForce_7 (by decide) ?_ ?_
  · refine g_aload_n h 1 dX9_setInForce_14 rfl ?_
    refine k_getr h (RX9, TX9, 13) 8 (by decide) rfl hinX9 3 (by decide) rfl tW_117 dX9_setInForce_15 hk1_0 ?_
    refine g_ob (fun b15 => ?_)
    refine g_iload_n h 0 dX9_setInForce_18 rfl ?_
    refine k_kind (fun hk19_0 => ?_)
    refine k_aald h 16 5 (by decide) "KeepForget$RuleSet" rfl dX9_setInForce_19 hk19_0 ?_
    refine g_ob (fun b19 => ?_)
    refine g_lv [] [] rfl ?_
    exact K9_setInForce_B20_w h hKs hE hkw hX hSt s0 (some b19) hr
  · refine g_null h dX9_setInForce_10 ?_
    refine g_goto h 20 dX9_setInForce_11 (by decide) ?_
    refine g_lv [] [] rfl ?_
    exact K9_setInForce_B20_w h hKs hE hkw hX hSt s0 none hr
def rm_X9_placesOf : Room := { frames := 2, cells := 0, slots := 0, locals := 48 }
theorem yk_X9_placesOf : yOkV yX9_placesOf cX9_placesOf 4 (some .int) RX9 2 := ⟨tW_209, tW_1, tW_208, tP_1, by decide, by decide, by decide +kernel⟩
def K9_placesOf_B20 (s0 : Km) (t0 : Int32) : Option (Int32) :=
  some t0
set_option maxHeartbeats 4000000 in
set_option maxRecDepth 100000 in
theorem K9_placesOf_B20_w {p : Program} {l : Launch} {e : Env} {s : State} {m : MethodId} {args : Array Value} {below : List Frame} {meth : Method} {c : Code} {A : Nat → Prop} {Ke : State → Prop} {D : va_G} {cA : Nat → ClassId} {E : State → Heap → Prop} {adS adV adM : Nat → Nat} {adD : Nat} (h : gOk p s m args meth c cX9_placesOf 4 RX9 tb) (hKs : Ke s) (hE : mEok E A) (hkw : gKw Ke) (hX : xSt l Ke E A adM adD) (hSt : sSt Ke A (KW D cA E A) adS adV) (s0 : Km) (t0 : Int32) (hr : meth.sig.returnType = some .int)  : gS p l e rm_X9_placesOf s m args below meth c 4 A (KW D cA E A) (fun X => MQ below (gPi (KW D cA E A) A (X, s0)) args s rm_X9_placesOf.cells rm_X9_placesOf.slots A) (0) (0) (K9_placesOf_B20 s0 t0) s0 20 [] [.int t0] := by
  unfold K9_placesOf_B20
  exact g_iretp h (KW_mv hE) hr (Nat.le_of_ble_eq_true rfl) (Nat.le_of_ble_eq_true rfl) dX9_placesOf_20
def K9_placesOf (s0 : Km) (a0 : Nat) (a1 : Nat) (a2 : Int32) : Option (Int32) :=
  if kK s0 a0 = 9 then
  (K9_setInForce s0 a0).bind (fun r_1 =>
  om r_1 (K9_placesOf_B20 s0 (15 : Int32)) (fun b6 =>
    if kK s0 b6 = 5 then
    (K5_storesFor s0 b6 a1 a2).bind (fun r_17 =>
    K9_placesOf_B20 s0 r_17)
    else none))
  else none
set_option maxHeartbeats 4000000 in
set_option maxRecDepth 100000 in
theorem c_X9_placesOf {l : Launch} {A : Nat → Prop} {Ke : State → Prop} {D : va_G} {cA : Nat → ClassId} {E : State → Heap → Prop} {adS adV adM : Nat → Nat} {adD : Nat} (hE : mEok E A) (hkw : gKw Ke) (hX : xSt l Ke E A adM adD) (hSt : sSt Ke A (KW D cA E A) adS adV) (s0 : Km) (a0 : Nat) (a1 : Nat) (a2 : Int32) : gCp l yX9_placesOf cX9_placesOf 4 (some .int) rm_X9_placesOf Ke (KW D cA E A) A [.ref a0, .ref a1, .int a2] s0 (K9_placesOf s0 a0 a1 a2) := by
  refine g_metp (by decide) (by simp [lg_sl, Value.category]) ?_
  intro p e s m below meth c h hr hKs
  refine g_lv [(0, .ref a0), (1, .ref a1), (2, .int a2)] [0, 1, 2] rfl ?_
  unfold K9_placesOf
  refine g_aload_n h 0 dX9_placesOf_0 rfl ?_
  refine k_kind (fun hk1_0 => ?_)
  refine g_callV0q h (KW_mv hE) hkw hKs [] (c_X9_setInForce hE hkw hX hSt s0 a0) yk_X9_setInForce tW_210 ⟨(Nat.le_of_ble_eq_true rfl), (Nat.le_of_ble_eq_true rfl)⟩ (KW_recv a0 8 (r := (RX9, TX9, 13)) hk1_0 (by decide) rfl) rfl rfl rfl rfl (Nat.le_of_ble_eq_true rfl) dX9_placesOf_1 ⟨(Nat.le_of_ble_eq_true rfl), (Nat.le_of_ble_eq_true rfl)⟩ (fun r_1 => ?_)
  refine g_astore_nq h [(3, va_rf r_1), (0, .ref a0), (1, .ref a1), (2, .int a2)] dX9_placesOf_4 (by decide) rfl ?_
  refine g_aload_nq h 0 dX9_placesOf_5 rfl ?_
  refine g_ifnonnull h (fun z9 => [(3, va_rf z9), (0, .ref a0), (1, .ref a1), (2, .int a2)]) 14 dX9_placesOf_6 (by decide) ?_ (fun b6 => ?_)
  · refine g_bipush (v := 15) h dX9_placesOf_9 (by decide) ?_
    refine g_goto h 20 dX9_placesOf_11 (by decide) ?_
    refine g_lv [] [] rfl ?_
    exact K9_placesOf_B20_w h hKs hE hkw hX hSt s0 (15 : Int32) hr
  · refine g_aload_n h 0 dX9_placesOf_14 rfl ?_
    refine g_aload_n h 2 dX9_placesOf_15 rfl ?_
    refine g_iload_n h 3 dX9_placesOf_16 rfl ?_
    refine k_kind (fun hk17_0 => ?_)
    refine g_callV0p h (KW_mv hE) hkw hKs [.ref a1, .int a2] (c_X5_storesFor hE hkw hX hSt s0 b6 a1 a2) yk_X5_storesFor tW_218 ⟨(Nat.le_of_ble_eq_true rfl), (Nat.le_of_ble_eq_true rfl)⟩ (KW_recv b6 4 (r := (RX5, TX5, 5)) hk17_0 (by decide) rfl) rfl rfl rfl rfl (Nat.le_of_ble_eq_true rfl) dX9_placesOf_17 ⟨(Nat.le_of_ble_eq_true rfl), (Nat.le_of_ble_eq_true rfl)⟩ (fun r_17 => ?_)
    refine g_lv [] [] rfl ?_
    exact K9_placesOf_B20_w h hKs hE hkw hX hSt s0 r_17 hr
def rm_X9_copy : Room := { frames := 7, cells := 3, slots := 18, locals := 111 }
theorem yk_X9_copy : yOkV yX9_copy cX9_copy 5 (some .boolean) RX9 3 := ⟨tW_673, tW_1, tW_671, tW_672, by decide, by decide, by decide +kernel⟩
def K9_copy_B39 (s0 : Km)  : Option ((Int32 × Km) ⊕ (Bool × Km)) :=
  some (.inl ((0 : Int32), s0))
set_option maxHeartbeats 4000000 in
set_option maxRecDepth 100000 in
theorem K9_copy_B39_w {p : Program} {l : Launch} {e : Env} {s : State} {m : MethodId} {args : Array Value} {below : List Frame} {meth : Method} {c : Code} {A : Nat → Prop} {Ke : State → Prop} {D : va_G} {cA : Nat → ClassId} {E : State → Heap → Prop} {adS adV adM : Nat → Nat} {adD : Nat} (h : gOk p s m args meth c cX9_copy 5 RX9 tb) (hKs : Ke s) (hE : mEok E A) (hkw : gKw Ke) (hX : xSt l Ke E A adM adD) (hSt : sSt Ke A (KW D cA E A) adS adV) (hE0 : E s s.heap) (hT : ∀ x ∈ c.exceptionTable.toList, False) (s0 : Km)  (hr : meth.sig.returnType = some .boolean)  : gS p l e rm_X9_copy s m args below meth c 5 A (KW D cA E A) (fun X => vx_MQ below (xQi (KW D cA E A) A X) (xC (KW D cA E A) A X) args s rm_X9_copy.cells rm_X9_copy.slots A) (3) (18) (K9_copy_B39 s0) s0 39 [] [] := by
  unfold K9_copy_B39
  refine g_iconst (v := 0) h dX9_copy_39 (by decide) ?_
  exact g_xzret h hE hr (Nat.le_of_ble_eq_true rfl) (Nat.le_of_ble_eq_true rfl) (by decide) dX9_copy_40
def K9_copy (s0 : Km) (a0 : Nat) (a1 : Int32) (a2 : Int32) (a3 : Int32) : Option ((Int32 × Km) ⊕ (Bool × Km)) :=
  if kK s0 a0 = 9 then
  bxq (K9_thingAt s0 a0 a1) (fun r_2 s_2 =>
  (r_2).bind (fun b2 =>
  bxv (K9_checkField s_2 a2) (fun s_8 =>
  bxv (K9_checkStore s_8 a3) (fun s_12 =>
  if kK s_12 b2 = 8 then
  (K8_hasCopy s_12 b2 a2 a3).bind (fun r_19 =>
  if r_19 = 0 then
    if kK s_12 a0 = 9 then
    (K9_placesOf s_12 a0 b2 a2).bind (fun r_29 =>
    if (r_29 >>> (a3 &&& 31)) &&& (1 : Int32) = 0 then
      K9_copy_B39 s_12
    else
      (kR s_12 b2 3).bind (fun b43 =>
      if kK s_12 b43 = 12 then
      if okI a2 (kN s_12 b43) = true then
      if okI a2 (kN s_12 b43) = true then
      bnd (kSetI s_12 b43 a2.toNatClampNeg ((kI s_12 b43 a2.toNatClampNeg) ||| ((1 : Int32) <<< (a3 &&& 31)))) (fun s_53 =>
      some (.inl ((1 : Int32), s_53)))
      else none
      else none
      else none))
    else none
  else
    K9_copy_B39 s_12)
  else none))))
  else none
set_option maxHeartbeats 4000000 in
set_option maxRecDepth 100000 in
theorem c_X9_copy {l : Launch} {A : Nat → Prop} {Ke : State → Prop} {D : va_G} {cA : Nat → ClassId} {E : State → Heap → Prop} {adS adV adM : Nat → Nat} {adD : Nat} (hE : mEok E A) (hkw : gKw Ke) (hX : xSt l Ke E A adM adD) (hSt : sSt Ke A (KW D cA E A) adS adV) (s0 : Km) (a0 : Nat) (a1 : Int32) (a2 : Int32) (a3 : Int32) : gXi l yX9_copy cX9_copy 5 (some .boolean) rm_X9_copy Ke (KW D cA E A) A [.ref a0, .int a1, .int a2, .int a3] s0 (K9_copy s0 a0 a1 a2 a3) := by
  refine g_metxi (by decide) (by simp [lg_sl, Value.category]) ?_
  intro p e s m below meth c h hr hKs hE0 hT
  refine g_lv [(0, .ref a0), (1, .int a1), (2, .int a2), (3, .int a3)] [0, 1, 2, 3] rfl ?_
  unfold K9_copy
  refine g_aload_n h 0 dX9_copy_0 rfl ?_
  refine g_iload_n h 1 dX9_copy_1 rfl ?_
  refine k_kind (fun hk2_0 => ?_)
  refine g_xcallVq h hE hkw hKs hT [.int a1] (c_X9_thingAt hE hkw hX hSt s0 a0 a1) yk_X9_thingAt tW_637 ⟨(Nat.le_of_ble_eq_true rfl), (Nat.le_of_ble_eq_true rfl)⟩ (KW_recv a0 8 (r := (RX9, TX9, 13)) hk2_0 (by decide) rfl) rfl rfl (Nat.le_of_ble_eq_true rfl) dX9_copy_2 ⟨(Nat.le_of_ble_eq_true rfl), (Nat.le_of_ble_eq_true rfl)⟩ (Nat.le_of_ble_eq_true rfl) (Nat.le_of_ble_eq_true rfl) (fun r_2 s_2 => ?_)
  refine g_wid (1) (6) (Nat.le_of_ble_eq_true rfl) (Nat.le_of_ble_eq_true rfl) ?_
  refine g_ob (fun b2 => ?_)
  refine g_astore h [(4, .ref b2), (0, .ref a0), (1, .int a1), (2, .int a2), (3, .int a3)] dX9_copy_5 (by decide) rfl ?_
  refine g_iload_n h 3 dX9_copy_7 rfl ?_
  refine g_xcallSv h hE hkw hKs hT [.int a2] (c_X9_checkField hE hkw hX hSt s_2 a2) yk_X9_checkField tW_674 ⟨(Nat.le_of_ble_eq_true rfl), (Nat.le_of_ble_eq_true rfl)⟩ rfl rfl (Nat.le_of_ble_eq_true rfl) dX9_copy_8 ⟨(Nat.le_of_ble_eq_true rfl), (Nat.le_of_ble_eq_true rfl)⟩ (Nat.le_of_ble_eq_true rfl) (Nat.le_of_ble_eq_true rfl) (fun s_8 => ?_)
  refine g_wid (2) (12) (Nat.le_of_ble_eq_true rfl) (Nat.le_of_ble_eq_true rfl) ?_
  refine g_iload_n h 4 dX9_copy_11 rfl ?_
  refine g_xcallSv h hE hkw hKs hT [.int a3] (c_X9_checkStore hE hkw hX hSt s_8 a3) yk_X9_checkStore tW_678 ⟨(Nat.le_of_ble_eq_true rfl), (Nat.le_of_ble_eq_true rfl)⟩ rfl rfl (Nat.le_of_ble_eq_true rfl) dX9_copy_12 ⟨(Nat.le_of_ble_eq_true rfl), (Nat.le_of_ble_eq_true rfl)⟩ (Nat.le_of_ble_eq_true rfl) (Nat.le_of_ble_eq_true rfl) (fun s_12 => ?_)
  refine g_wid (3) (18) (Nat.le_of_ble_eq_true rfl) (Nat.le_of_ble_eq_true rfl) ?_
  refine g_aload h 0 dX9_copy_15 rfl ?_
  refine g_iload_n h 3 dX9_copy_17 rfl ?_
  refine g_iload_n h 4 dX9_copy_18 rfl ?_
  refine k_kind (fun hk19_0 => ?_)
  refine g_callV0p h (KW_mv hE) hkw hKs [.int a2, .int a3] (c_X8_hasCopy hE hkw hX hSt s_12 b2 a2 a3) yk_X8_hasCopy tW_682 ⟨(Nat.le_of_ble_eq_true rfl), (Nat.le_of_ble_eq_true rfl)⟩ (KW_recv b2 7 (r := (RX8, TX8, 6)) hk19_0 (by decide) rfl) rfl rfl rfl rfl (Nat.le_of_ble_eq_true rfl) dX9_copy_19 ⟨(Nat.le_of_ble_eq_true rfl), (Nat.le_of_ble_eq_true rfl)⟩ (fun r_19 => ?_)
  refine g_if_ne h 39 dX9_copy_22 (by decide) ?_ ?_
  · refine g_lv [] [] rfl ?_
    exact K9_copy_B39_w h hKs hE hkw hX hSt hE0 hT s_12  hr
  · refine g_aload_n h 1 dX9_copy_25 rfl ?_
    refine g_aload h 0 dX9_copy_26 rfl ?_
    refine g_iload_n h 3 dX9_copy_28 rfl ?_
    refine k_kind (fun hk29_0 => ?_)
    refine g_callV0p h (KW_mv hE) hkw hKs [.ref b2, .int a2] (c_X9_placesOf hE hkw hX hSt s_12 a0 b2 a2) yk_X9_placesOf tW_206 ⟨(Nat.le_of_ble_eq_true rfl), (Nat.le_of_ble_eq_true rfl)⟩ (KW_recv a0 8 (r := (RX9, TX9, 13)) hk29_0 (by decide) rfl) rfl rfl rfl rfl (Nat.le_of_ble_eq_true rfl) dX9_copy_29 ⟨(Nat.le_of_ble_eq_true rfl), (Nat.le_of_ble_eq_true rfl)⟩ (fun r_29 => ?_)
    refine g_iload_n h 4 dX9_copy_32 rfl ?_
    refine g_ishr h dX9_copy_33 ?_
    refine g_iconst (v := 1) h dX9_copy_34 (by decide) ?_
    refine g_iand h dX9_copy_35 ?_
    refine g_if_ne h 41 dX9_copy_36 (by decide) ?_ ?_
    · refine g_aload h 0 dX9_copy_41 rfl ?_
      refine k_getr h (RX8, TX8, 6) 7 (by decide) rfl hinX8 3 (by decide) rfl tW_184 dX9_copy_43 hk19_0 ?_
      refine g_ob (fun b43 => ?_)
      refine g_iload_n h 3 dX9_copy_46 rfl ?_
      refine g_dup2 h dX9_copy_47 rfl rfl ?_
      refine k_kind (fun hk48_0 => ?_)
      refine k_iald h dX9_copy_48 hk48_0 ?_
      refine g_iconst (v := 1) h dX9_copy_49 (by decide) ?_
      refine g_iload_n h 4 dX9_copy_50 rfl ?_
      refine g_ishl h dX9_copy_51 ?_
      refine g_ior h dX9_copy_52 ?_
      refine k_iast h hE dX9_copy_53 hk48_0 ?_
      refine g_bndE (fun s_53 hs_53 => ?_)
      refine g_iconst (v := 1) h dX9_copy_54 (by decide) ?_
      exact g_xzret h hE hr (Nat.le_of_ble_eq_true rfl) (Nat.le_of_ble_eq_true rfl) (by decide) dX9_copy_55
    · refine g_lv [] [] rfl ?_
      exact K9_copy_B39_w h hKs hE hkw hX hSt hE0 hT s_12  hr
def rm_X9_copies : Room := { frames := 7, cells := 2, slots := 12, locals := 111 }
theorem yk_X9_copies : yOkV yX9_copies cX9_copies 4 (some .int) RX9 2 := ⟨tW_692, tW_1, tW_690, tW_691, by decide, by decide, by decide +kernel⟩
def K9_copies (s0 : Km) (a0 : Nat) (a1 : Int32) (a2 : Int32) : Option ((Int32 × Km) ⊕ (Bool × Km)) :=
  if kK s0 a0 = 9 then
  bxq (K9_thingAt s0 a0 a1) (fun r_2 s_2 =>
  (r_2).bind (fun b2 =>
  bxv (K9_checkField s_2 a2) (fun s_7 =>
  if kK s_7 b2 = 8 then
  (kR s_7 b2 3).bind (fun b11 =>
  if kK s_7 b11 = 12 then
  if okI a2 (kN s_7 b11) = true then
  some (.inl (kI s_7 b11 a2.toNatClampNeg, s_7))
  else none
  else none)
  else none)))
  else none
set_option maxHeartbeats 4000000 in
set_option maxRecDepth 100000 in
theorem c_X9_copies {l : Launch} {A : Nat → Prop} {Ke : State → Prop} {D : va_G} {cA : Nat → ClassId} {E : State → Heap → Prop} {adS adV adM : Nat → Nat} {adD : Nat} (hE : mEok E A) (hkw : gKw Ke) (hX : xSt l Ke E A adM adD) (hSt : sSt Ke A (KW D cA E A) adS adV) (s0 : Km) (a0 : Nat) (a1 : Int32) (a2 : Int32) : gXi l yX9_copies cX9_copies 4 (some .int) rm_X9_copies Ke (KW D cA E A) A [.ref a0, .int a1, .int a2] s0 (K9_copies s0 a0 a1 a2) := by
  refine g_metxi (by decide) (by simp [lg_sl, Value.category]) ?_
  intro p e s m below meth c h hr hKs hE0 hT
  refine g_lv [(0, .ref a0), (1, .int a1), (2, .int a2)] [0, 1, 2] rfl ?_
  unfold K9_copies
  refine g_aload_n h 0 dX9_copies_0 rfl ?_
  refine g_iload_n h 1 dX9_copies_1 rfl ?_
  refine k_kind (fun hk2_0 => ?_)
  refine g_xcallVq h hE hkw hKs hT [.int a1] (c_X9_thingAt hE hkw hX hSt s0 a0 a1) yk_X9_thingAt tW_637 ⟨(Nat.le_of_ble_eq_true rfl), (Nat.le_of_ble_eq_true rfl)⟩ (KW_recv a0 8 (r := (RX9, TX9, 13)) hk2_0 (by decide) rfl) rfl rfl (Nat.le_of_ble_eq_true rfl) dX9_copies_2 ⟨(Nat.le_of_ble_eq_true rfl), (Nat.le_of_ble_eq_true rfl)⟩ (Nat.le_of_ble_eq_true rfl) (Nat.le_of_ble_eq_true rfl) (fun r_2 s_2 => ?_)
  refine g_wid (1) (6) (Nat.le_of_ble_eq_true rfl) (Nat.le_of_ble_eq_true rfl) ?_
  refine g_ob (fun b2 => ?_)
  refine g_astore_n h [(3, .ref b2), (0, .ref a0), (1, .int a1), (2, .int a2)] dX9_copies_5 (by decide) rfl ?_
  refine g_iload_n h 3 dX9_copies_6 rfl ?_
  refine g_xcallSv h hE hkw hKs hT [.int a2] (c_X9_checkField hE hkw hX hSt s_2 a2) yk_X9_checkField tW_674 ⟨(Nat.le_of_ble_eq_true rfl), (Nat.le_of_ble_eq_true rfl)⟩ rfl rfl (Nat.le_of_ble_eq_true rfl) dX9_copies_7 ⟨(Nat.le_of_ble_eq_true rfl), (Nat.le_of_ble_eq_true rfl)⟩ (Nat.le_of_ble_eq_true rfl) (Nat.le_of_ble_eq_true rfl) (fun s_7 => ?_)
  refine g_wid (2) (12) (Nat.le_of_ble_eq_true rfl) (Nat.le_of_ble_eq_true rfl) ?_
  refine g_aload_n h 0 dX9_copies_10 rfl ?_
  refine k_kind (fun hk11_0 => ?_)
  refine k_getr h (RX8, TX8, 6) 7 (by decide) rfl hinX8 3 (by decide) rfl tW_184 dX9_copies_11 hk11_0 ?_
  refine g_ob (fun b11 => ?_)
  refine g_iload_n h 3 dX9_copies_14 rfl ?_
  refine k_kind (fun hk15_0 => ?_)
  refine k_iald h dX9_copies_15 hk15_0 ?_
  exact g_xiret h hE hr (Nat.le_of_ble_eq_true rfl) (Nat.le_of_ble_eq_true rfl) dX9_copies_16
def rm_X9_store : Room := { frames := 7, cells := 2, slots := 12, locals := 110 }
theorem yk_X9_store : yOkV yX9_store cX9_store 4 (none) RX9 3 := ⟨tW_699, tW_1, tW_697, tW_698, by decide, by decide, by decide +kernel⟩
def K9_store_B27 (s0 : Km)  : Option (Km ⊕ (Bool × Km)) :=
  some (.inr (false, s0))
set_option maxHeartbeats 4000000 in
set_option maxRecDepth 100000 in
theorem K9_store_B27_w {p : Program} {l : Launch} {e : Env} {s : State} {m : MethodId} {args : Array Value} {below : List Frame} {meth : Method} {c : Code} {A : Nat → Prop} {Ke : State → Prop} {D : va_G} {cA : Nat → ClassId} {E : State → Heap → Prop} {adS adV adM : Nat → Nat} {adD : Nat} (h : gOk p s m args meth c cX9_store 4 RX9 tb) (hKs : Ke s) (hE : mEok E A) (hkw : gKw Ke) (hX : xSt l Ke E A adM adD) (hSt : sSt Ke A (KW D cA E A) adS adV) (hE0 : E s s.heap) (hT : ∀ x ∈ c.exceptionTable.toList, False) (s0 : Km)  (hr : meth.sig.returnType = none)  : gS p l e rm_X9_store s m args below meth c 4 A (KW D cA E A) (fun X => vx_MQ below (xQv (KW D cA E A) A X) (xC (KW D cA E A) A X) args s rm_X9_store.cells rm_X9_store.slots A) (1) (6) (K9_store_B27 s0) s0 27 [] [] := by
  unfold K9_store_B27
  exact g_throwv h hE hKs hX hE0 hT false 13 (by decide) xAll_f rfl (Nat.le_of_ble_eq_true rfl) (Nat.le_of_ble_eq_true rfl) (Nat.le_of_ble_eq_true rfl) (Nat.le_of_ble_eq_true rfl) (Nat.le_of_ble_eq_true rfl) (Nat.le_of_ble_eq_true rfl) dX9_store_27 dX9_store_30 dX9_store_31 dX9_store_33 dX9_store_36
def K9_store (s0 : Km) (a0 : Nat) (a1 : Int32) (a2 : Int32) (a3 : Int32) : Option (Km ⊕ (Bool × Km)) :=
  bxv (K9_checkStore s0 a1) (fun s_1 =>
  if a2 < (1 : Int32) then
    K9_store_B27 s_1
  else
    if (400 : Int32) < a2 then
      K9_store_B27 s_1
    else
      if a3 < 0 then
        K9_store_B27 s_1
      else
        if a3 ≤ (399 : Int32) then
          if kK s_1 a0 = 9 then
          (kR s_1 a0 7).bind (fun b38 =>
          if kK s_1 b38 = 17 then
          if okI a1 (kN s_1 b38) = true then
          (kR s_1 b38 a1.toNatClampNeg).bind (fun b42 =>
          if kK s_1 b42 = 7 then
          bnd (kSetI s_1 b42 0 a2) (fun s_44 =>
          (kR s_44 a0 7).bind (fun b48 =>
          if kK s_44 b48 = 17 then
          if okI a1 (kN s_44 b48) = true then
          (kR s_44 b48 a1.toNatClampNeg).bind (fun b52 =>
          if kK s_44 b52 = 7 then
          bnd (kSetI s_44 b52 1 a3) (fun s_54 =>
          some (.inl s_54))
          else none)
          else none
          else none))
          else none)
          else none
          else none)
          else none
        else
          K9_store_B27 s_1)
set_option maxHeartbeats 4000000 in
set_option maxRecDepth 100000 in
theorem c_X9_store {l : Launch} {A : Nat → Prop} {Ke : State → Prop} {D : va_G} {cA : Nat → ClassId} {E : State → Heap → Prop} {adS adV adM : Nat → Nat} {adD : Nat} (hE : mEok E A) (hkw : gKw Ke) (hX : xSt l Ke E A adM adD) (hSt : sSt Ke A (KW D cA E A) adS adV) (s0 : Km) (a0 : Nat) (a1 : Int32) (a2 : Int32) (a3 : Int32) : gXv l yX9_store cX9_store 4 (none) rm_X9_store Ke (KW D cA E A) A [.ref a0, .int a1, .int a2, .int a3] s0 (K9_store s0 a0 a1 a2 a3) := by
  refine g_metxv (by decide) (by simp [lg_sl, Value.category]) ?_
  intro p e s m below meth c h hr hKs hE0 hT
  refine g_lv [(0, .ref a0), (1, .int a1), (2, .int a2), (3, .int a3)] [0, 1, 2, 3] rfl ?_
  unfold K9_store
  refine g_iload_n h 1 dX9_store_0 rfl ?_
  refine g_xcallSv h hE hkw hKs hT [.int a1] (c_X9_checkStore hE hkw hX hSt s0 a1) yk_X9_checkStore tW_678 ⟨(Nat.le_of_ble_eq_true rfl), (Nat.le_of_ble_eq_true rfl)⟩ rfl rfl (Nat.le_of_ble_eq_true rfl) dX9_store_1 ⟨(Nat.le_of_ble_eq_true rfl), (Nat.le_of_ble_eq_true rfl)⟩ (Nat.le_of_ble_eq_true rfl) (Nat.le_of_ble_eq_true rfl) (fun s_1 => ?_)
  refine g_wid (1) (6) (Nat.le_of_ble_eq_true rfl) (Nat.le_of_ble_eq_true rfl) ?_
  refine g_iload_n h 2 dX9_store_4 rfl ?_
  refine g_iconst (v := 1) h dX9_store_5 (by decide) ?_
  refine g_icmp_lt h 27 dX9_store_6 (by decide) ?_ ?_
  · refine g_lv [] [] rfl ?_
    exact K9_store_B27_w h hKs hE hkw hX hSt hE0 hT s_1  hr
  · refine g_iload_n h 2 dX9_store_9 rfl ?_
    refine g_sipush (v := 400) h dX9_store_10 (by decide) ?_
    refine g_icmp_gt h 27 dX9_store_13 (by decide) ?_ ?_
    · refine g_lv [] [] rfl ?_
      exact K9_store_B27_w h hKs hE hkw hX hSt hE0 hT s_1  hr
    · refine g_iload_n h 3 dX9_store_16 rfl ?_
      refine g_if_lt h 27 dX9_store_17 (by decide) ?_ ?_
      · refine g_lv [] [] rfl ?_
        exact K9_store_B27_w h hKs hE hkw hX hSt hE0 hT s_1  hr
      · refine g_iload_n h 3 dX9_store_20 rfl ?_
        refine g_sipush (v := 399) h dX9_store_21 (by decide) ?_
        refine g_icmp_le h 37 dX9_store_24 (by decide) ?_ ?_
        · refine g_aload_n h 0 dX9_store_37 rfl ?_
          refine k_kind (fun hk38_0 => ?_)
          refine k_getr h (RX9, TX9, 13) 8 (by decide) rfl hinX9 7 (by decide) rfl tW_121 dX9_store_38 hk38_0 ?_
          refine g_ob (fun b38 => ?_)
          refine g_iload_n h 1 dX9_store_41 rfl ?_
          refine k_kind (fun hk42_0 => ?_)
          refine k_aald h 17 6 (by decide) "KeepForget$Sweeper" rfl dX9_store_42 hk42_0 ?_
          refine g_ob (fun b42 => ?_)
          refine g_iload_n h 2 dX9_store_43 rfl ?_
          refine k_kind (fun hk44_0 => ?_)
          refine k_puti (x := a2) h hE (RX7, TX7, 2) 6 (by decide) rfl hinX7 0 (by decide) rfl tyX7 tyX7_ok nmX7 rfl tW_43 rfl rfl dX9_store_44 hk44_0 ?_
          refine g_bndE (fun s_44 hs_44 => ?_)
          refine g_aload_n h 0 dX9_store_47 rfl ?_
          refine k_getr h (RX9, TX9, 13) 8 (by decide) rfl hinX9 7 (by decide) rfl tW_121 dX9_store_48 (kKsI hs_44 hk38_0) ?_
          refine g_ob (fun b48 => ?_)
          refine g_iload_n h 1 dX9_store_51 rfl ?_
          refine k_kind (fun hk52_0 => ?_)
          refine k_aald h 17 6 (by decide) "KeepForget$Sweeper" rfl dX9_store_52 hk52_0 ?_
          refine g_ob (fun b52 => ?_)
          refine g_iload_n h 3 dX9_store_53 rfl ?_
          refine k_kind (fun hk54_0 => ?_)
          refine k_puti (x := a3) h hE (RX7, TX7, 2) 6 (by decide) rfl hinX7 1 (by decide) rfl tyX7 tyX7_ok nmX7 rfl tW_45 rfl rfl dX9_store_54 hk54_0 ?_
          refine g_bndE (fun s_54 hs_54 => ?_)
          exact g_xvret h hE hr (Nat.le_of_ble_eq_true rfl) (Nat.le_of_ble_eq_true rfl) dX9_store_57
        · refine g_lv [] [] rfl ?_
          exact K9_store_B27_w h hKs hE hkw hX hSt hE0 hT s_1  hr
def rm_X9_hold : Room := { frames := 7, cells := 2, slots := 9, locals := 111 }
theorem yk_X9_hold : yOkV yX9_hold cX9_hold 4 (some .int) RX9 2 := ⟨tW_707, tW_1, tW_705, tW_706, by decide, by decide, by decide +kernel⟩
def K9_hold_B27 (s0 : Km)  : Option ((Int32 × Km) ⊕ (Bool × Km)) :=
  some (.inl ((-1 : Int32), s0))
set_option maxHeartbeats 4000000 in
set_option maxRecDepth 100000 in
theorem K9_hold_B27_w {p : Program} {l : Launch} {e : Env} {s : State} {m : MethodId} {args : Array Value} {below : List Frame} {meth : Method} {c : Code} {A : Nat → Prop} {Ke : State → Prop} {D : va_G} {cA : Nat → ClassId} {E : State → Heap → Prop} {adS adV adM : Nat → Nat} {adD : Nat} (h : gOk p s m args meth c cX9_hold 4 RX9 tb) (hKs : Ke s) (hE : mEok E A) (hkw : gKw Ke) (hX : xSt l Ke E A adM adD) (hSt : sSt Ke A (KW D cA E A) adS adV) (hE0 : E s s.heap) (hT : ∀ x ∈ c.exceptionTable.toList, False) (s0 : Km)  (hr : meth.sig.returnType = some .int)  : gS p l e rm_X9_hold s m args below meth c 4 A (KW D cA E A) (fun X => vx_MQ below (xQi (KW D cA E A) A X) (xC (KW D cA E A) A X) args s rm_X9_hold.cells rm_X9_hold.slots A) (1) (6) (K9_hold_B27 s0) s0 27 [] [] := by
  unfold K9_hold_B27
  refine g_iconst (v := -1) h dX9_hold_27 (by decide) ?_
  exact g_xiret h hE hr (Nat.le_of_ble_eq_true rfl) (Nat.le_of_ble_eq_true rfl) dX9_hold_28
def K9_hold (s0 : Km) (a0 : Nat) (a1 : Int32) (a2 : Int32) : Option ((Int32 × Km) ⊕ (Bool × Km)) :=
  if kK s0 a0 = 9 then
  bxq (K9_thingAt s0 a0 a1) (fun r_2 s_2 =>
  (r_2).bind (fun b2 =>
  if kK s_2 a0 = 9 then
  if (40 : Int32) ≤ kI s_2 a0 9 then
    K9_hold_B27 s_2
  else
    if a2 < (1 : Int32) then
      K9_hold_B27 s_2
    else
      if a2 ≤ (255 : Int32) then
        (kR s_2 a0 8).bind (fun b30 =>
        bnd2 (kn s_2) (kNew s_2 1 0) (fun q_37 s_37 =>
        (K1_init s_37 q_37 b2 a2).bind (fun s_43 =>
        if kK s_43 b30 = 14 then
        if kK s_43 q_37 = 1 then
        if okI (kI s_2 a0 9) (kN s_43 b30) = true then
        bnd (kSetR s_43 b30 (kI s_2 a0 9).toNatClampNeg (some q_37)) (fun s_46 =>
        if kK s_46 a0 = 9 then
        bnd (kSetI s_46 a0 9 ((kI s_46 a0 9) + (1 : Int32))) (fun s_54 =>
        if kK s_54 b2 = 8 then
        bnd (kSetI s_54 b2 4 ((kI s_54 b2 4) ||| a2)) (fun s_64 =>
        some (.inl ((kI s_64 a0 9) - (1 : Int32), s_64)))
        else none)
        else none)
        else none
        else none
        else none)))
      else
        K9_hold_B27 s_2
  else none))
  else none
set_option maxHeartbeats 4000000 in
set_option maxRecDepth 100000 in
theorem c_X9_hold {l : Launch} {A : Nat → Prop} {Ke : State → Prop} {D : va_G} {cA : Nat → ClassId} {E : State → Heap → Prop} {adS adV adM : Nat → Nat} {adD : Nat} (hE : mEok E A) (hkw : gKw Ke) (hX : xSt l Ke E A adM adD) (hSt : sSt Ke A (KW D cA E A) adS adV) (s0 : Km) (a0 : Nat) (a1 : Int32) (a2 : Int32) : gXi l yX9_hold cX9_hold 4 (some .int) rm_X9_hold Ke (KW D cA E A) A [.ref a0, .int a1, .int a2] s0 (K9_hold s0 a0 a1 a2) := by
  refine g_metxi (by decide) (by simp [lg_sl, Value.category]) ?_
  intro p e s m below meth c h hr hKs hE0 hT
  refine g_lv [(0, .ref a0), (1, .int a1), (2, .int a2)] [0, 1, 2] rfl ?_
  unfold K9_hold
  refine g_aload_n h 0 dX9_hold_0 rfl ?_
  refine g_iload_n h 1 dX9_hold_1 rfl ?_
  refine k_kind (fun hk2_0 => ?_)
  refine g_xcallVq h hE hkw hKs hT [.int a1] (c_X9_thingAt hE hkw hX hSt s0 a0 a1) yk_X9_thingAt tW_637 ⟨(Nat.le_of_ble_eq_true rfl), (Nat.le_of_ble_eq_true rfl)⟩ (KW_recv a0 8 (r := (RX9, TX9, 13)) hk2_0 (by decide) rfl) rfl rfl (Nat.le_of_ble_eq_true rfl) dX9_hold_2 ⟨(Nat.le_of_ble_eq_true rfl), (Nat.le_of_ble_eq_true rfl)⟩ (Nat.le_of_ble_eq_true rfl) (Nat.le_of_ble_eq_true rfl) (fun r_2 s_2 => ?_)
  refine g_wid (1) (6) (Nat.le_of_ble_eq_true rfl) (Nat.le_of_ble_eq_true rfl) ?_
  refine g_ob (fun b2 => ?_)
  refine g_astore_n h [(3, .ref b2), (0, .ref a0), (1, .int a1), (2, .int a2)] dX9_hold_5 (by decide) rfl ?_
  refine g_aload_n h 1 dX9_hold_6 rfl ?_
  refine k_kind (fun hk7_0 => ?_)
  refine k_geti h (RX9, TX9, 13) 8 (by decide) rfl hinX9 9 (by decide) rfl tW_123 dX9_hold_7 hk7_0 ?_
  refine g_bipush (v := 40) h dX9_hold_10 (by decide) ?_
  refine g_icmp_ge h 27 dX9_hold_12 (by decide) ?_ ?_
  · refine g_lv [] [] rfl ?_
    exact K9_hold_B27_w h hKs hE hkw hX hSt hE0 hT s_2  hr
  · refine g_iload_n h 3 dX9_hold_15 rfl ?_
    refine g_iconst (v := 1) h dX9_hold_16 (by decide) ?_
    refine g_icmp_lt h 27 dX9_hold_17 (by decide) ?_ ?_
    · refine g_lv [] [] rfl ?_
      exact K9_hold_B27_w h hKs hE hkw hX hSt hE0 hT s_2  hr
    · refine g_iload_n h 3 dX9_hold_20 rfl ?_
      refine g_sipush (v := 255) h dX9_hold_21 (by decide) ?_
      refine g_icmp_le h 29 dX9_hold_24 (by decide) ?_ ?_
      · refine g_aload_n h 1 dX9_hold_29 rfl ?_
        refine k_getr h (RX9, TX9, 13) 8 (by decide) rfl hinX9 8 (by decide) rfl tW_122 dX9_hold_30 hk7_0 ?_
        refine g_ob (fun b30 => ?_)
        refine g_aload_n h 1 dX9_hold_33 rfl ?_
        refine k_geti h (RX9, TX9, 13) 8 (by decide) rfl hinX9 9 (by decide) rfl tW_123 dX9_hold_34 hk7_0 ?_
        refine k_new h hE (RX1, TX1, 3) 0 (by decide) rfl hinX1 tyX1 tyX1_ok (by decide) tW_52 tW_708 tW_21 (Nat.le_of_ble_eq_true rfl) (Nat.le_of_ble_eq_true rfl) dX9_hold_37 ?_
        refine g_wid (2) (9) (Nat.le_of_ble_eq_true rfl) (Nat.le_of_ble_eq_true rfl) ?_
        refine g_bnd2 (fun q_37 s_37 hq_37 hs_37 => ?_)
        refine g_dup h dX9_hold_40 rfl ?_
        refine g_aload_n h 0 dX9_hold_41 rfl ?_
        refine g_iload_n h 3 dX9_hold_42 rfl ?_
        refine g_callIv h (KW_mv hE) hkw hKs [.ref b2, .int a2] (c_X1_init hE hkw hX hSt s_37 q_37 b2 a2) yk_X1_init tW_709 ⟨(Nat.le_of_ble_eq_true rfl), (Nat.le_of_ble_eq_true rfl)⟩ rfl rfl (Nat.le_of_ble_eq_true rfl) dX9_hold_43 ⟨(Nat.le_of_ble_eq_true rfl), (Nat.le_of_ble_eq_true rfl)⟩ (fun s_43 _ => ?_)
        refine k_kind (fun hk46_0 => ?_)
        refine k_kind (fun hk46_1 => ?_)
        refine k_aast h hE 14 3 0 (by decide) (by decide) (RX1, TX1, 3) rfl rfl dX9_hold_46 hk46_0 hk46_1 ?_
        refine g_bndE (fun s_46 hs_46 => ?_)
        refine g_aload_n h 1 dX9_hold_47 rfl ?_
        refine g_dup h dX9_hold_48 rfl ?_
        refine k_kind (fun hk49_0 => ?_)
        refine k_geti h (RX9, TX9, 13) 8 (by decide) rfl hinX9 9 (by decide) rfl tW_123 dX9_hold_49 hk49_0 ?_
        refine g_iconst (v := 1) h dX9_hold_52 (by decide) ?_
        refine g_iadd h dX9_hold_53 ?_
        refine k_puti (x := ((kI s_46 a0 9) + (1 : Int32))) h hE (RX9, TX9, 13) 8 (by decide) rfl hinX9 9 (by decide) rfl tyX9 tyX9_ok nmX9 rfl tW_123 rfl rfl dX9_hold_54 hk49_0 ?_
        refine g_bndE (fun s_54 hs_54 => ?_)
        refine g_aload_n h 0 dX9_hold_57 rfl ?_
        refine g_dup h dX9_hold_58 rfl ?_
        refine k_kind (fun hk59_0 => ?_)
        refine k_geti h (RX8, TX8, 6) 7 (by decide) rfl hinX8 4 (by decide) rfl tW_186 dX9_hold_59 hk59_0 ?_
        refine g_iload_n h 3 dX9_hold_62 rfl ?_
        refine g_ior h dX9_hold_63 ?_
        refine k_puti (x := ((kI s_54 b2 4) ||| a2)) h hE (RX8, TX8, 6) 7 (by decide) rfl hinX8 4 (by decide) rfl tyX8 tyX8_ok nmX8 rfl tW_186 rfl rfl dX9_hold_64 hk59_0 ?_
        refine g_bndE (fun s_64 hs_64 => ?_)
        refine g_aload_n h 1 dX9_hold_67 rfl ?_
        refine k_geti h (RX9, TX9, 13) 8 (by decide) rfl hinX9 9 (by decide) rfl tW_123 dX9_hold_68 (kKsI hs_64 (kKsI hs_54 hk49_0)) ?_
        refine g_iconst (v := 1) h dX9_hold_71 (by decide) ?_
        refine g_isub h dX9_hold_72 ?_
        exact g_xiret h hE hr (Nat.le_of_ble_eq_true rfl) (Nat.le_of_ble_eq_true rfl) dX9_hold_73
      · refine g_lv [] [] rfl ?_
        exact K9_hold_B27_w h hKs hE hkw hX hSt hE0 hT s_2  hr
def rm_X9_heldFields : Room := { frames := 0, cells := 0, slots := 0, locals := 0 }
theorem yk_X9_heldFields : yOkV yX9_heldFields cX9_heldFields 4 (some .int) RX9 1 := ⟨tW_736, tW_1, tW_735, tP_23, by decide, by decide, by decide +kernel⟩
def K9_heldFields_B49 {Rt : Type} (s0 : Km) (rec : Int32 → Int32 → Option Rt) (k55 : Int32 → Option Rt) (a0 : Nat) (a1 : Nat) (l2 : Int32) (l3 : Int32) : Option (Rt) :=
  rec l2 (l3 + 1)
set_option maxHeartbeats 4000000 in
set_option maxRecDepth 100000 in
theorem K9_heldFields_B49_w {p : Program} {l : Launch} {e : Env} {s : State} {m : MethodId} {args : Array Value} {below : List Frame} {meth : Method} {c : Code} {A : Nat → Prop} {Ke : State → Prop} {D : va_G} {cA : Nat → ClassId} {E : State → Heap → Prop} {adS adV adM : Nat → Nat} {adD : Nat} (h : gOk p s m args meth c cX9_heldFields 4 RX9 tb) (hKs : Ke s) (hE : mEok E A) (hkw : gKw Ke) (hX : xSt l Ke E A adM adD) (hSt : sSt Ke A (KW D cA E A) adS adV) {Rt : Type} {QX : Rt → State → Prop} {rec : Int32 → Int32 → Option Rt} {k55 : Int32 → Option Rt} (s0 : Km) (a0 : Nat) (a1 : Nat) (l2 : Int32) (l3 : Int32) (hrec : ∀ (l2 : Int32) (l3 : Int32), gS p l e rm_X9_heldFields s m args below meth c 4 A (KW D cA E A) QX (0) (0) (rec l2 l3) s0 4 [(0, .ref a0), (1, .ref a1), (2, .int l2), (3, .int l3)] []) (hk55 : ∀ (l2 : Int32), gS p l e rm_X9_heldFields s m args below meth c 4 A (KW D cA E A) QX (0) (0) (k55 l2) s0 55 [(2, .int l2)] []) : gS p l e rm_X9_heldFields s m args below meth c 4 A (KW D cA E A) QX (0) (0) (K9_heldFields_B49 s0 rec k55 a0 a1 l2 l3) s0 49 [(0, .ref a0), (1, .ref a1), (2, .int l2), (3, .int l3)] [] := by
  unfold K9_heldFields_B49
  refine g_iinc (v := l3 + 1) (i := 3) h [(3, .int (l3 + 1)), (0, .ref a0), (1, .ref a1), (2, .int l2)] dX9_heldFields_49 rfl rfl (by decide) rfl ?_
  refine g_goto h 4 dX9_heldFields_52 (by decide) ?_
  refine g_lv [(0, .ref a0), (1, .ref a1), (2, .int l2), (3, .int (l3 + 1))] [1, 2, 3, 0] rfl ?_
  exact hrec l2 (l3 + 1)
def K9_heldFields_L4 {Rt : Type} (s0 : Km) (a0 : Nat) (a1 : Nat) (k55 : Int32 → Option Rt) : Nat → Int32 → Int32 → Option Rt
  | 0, _, _ => none
  | F + 1, l2, l3 =>
  if kK s0 a0 = 9 then
    if kI s0 a0 9 ≤ l3 then
      k55 l2
    else
      (kR s0 a0 8).bind (fun b13 =>
      if kK s0 b13 = 14 then
      if okI l3 (kN s0 b13) = true then
      (kR s0 b13 l3.toNatClampNeg).bind (fun b17 =>
      if kK s0 b17 = 1 then
      (kR s0 b17 0).bind (fun b18 =>
      if b18 = a1 then
        (kR s0 a0 8).bind (fun b26 =>
        if kK s0 b26 = 14 then
        if okI l3 (kN s0 b26) = true then
        (kR s0 b26 l3.toNatClampNeg).bind (fun b30 =>
        if kK s0 b30 = 1 then
        if kI s0 b30 2 = 0 then
          (kR s0 a0 8).bind (fun b39 =>
          if kK s0 b39 = 14 then
          if okI l3 (kN s0 b39) = true then
          (kR s0 b39 l3.toNatClampNeg).bind (fun b43 =>
          if kK s0 b43 = 1 then
          bnd (l2 ||| (kI s0 b43 1)) (fun v2_48 =>
          K9_heldFields_B49 s0 (K9_heldFields_L4 s0 a0 a1 k55 F) k55 a0 a1 v2_48 l3)
          else none)
          else none
          else none)
        else
          K9_heldFields_B49 s0 (K9_heldFields_L4 s0 a0 a1 k55 F) k55 a0 a1 l2 l3
        else none)
        else none
        else none)
      else
        K9_heldFields_B49 s0 (K9_heldFields_L4 s0 a0 a1 k55 F) k55 a0 a1 l2 l3)
      else none)
      else none
      else none)
    else none
set_option maxHeartbeats 4000000 in
set_option maxRecDepth 100000 in
theorem K9_heldFields_L4_w {p : Program} {l : Launch} {e : Env} {s : State} {m : MethodId} {args : Array Value} {below : List Frame} {meth : Method} {c : Code} {A : Nat → Prop} {Ke : State → Prop} {D : va_G} {cA : Nat → ClassId} {E : State → Heap → Prop} {adS adV adM : Nat → Nat} {adD : Nat} (h : gOk p s m args meth c cX9_heldFields 4 RX9 tb) (hKs : Ke s) (hE : mEok E A) (hkw : gKw Ke) (hX : xSt l Ke E A adM adD) (hSt : sSt Ke A (KW D cA E A) adS adV) {Rt : Type} {QX : Rt → State → Prop} (s0 : Km) (a0 : Nat) (a1 : Nat) {k55 : Int32 → Option Rt} (hk55 : ∀ (l2 : Int32), gS p l e rm_X9_heldFields s m args below meth c 4 A (KW D cA E A) QX (0) (0) (k55 l2) s0 55 [(2, .int l2)] []) : ∀ (F : Nat), ∀ (l2 : Int32) (l3 : Int32), gS p l e rm_X9_heldFields s m args below meth c 4 A (KW D cA E A) QX (0) (0) (K9_heldFields_L4 s0 a0 a1 k55 F l2 l3) s0 4 [(0, .ref a0), (1, .ref a1), (2, .int l2), (3, .int l3)] [] := by
  intro F
  induction F with
  | zero =>
    intro l2 l3
    unfold K9_heldFields_L4
    exact g_none
  | succ F ih =>
    intro l2 l3
    unfold K9_heldFields_L4
    refine g_iload_n h 3 dX9_heldFields_4 rfl ?_
    refine g_aload_n h 0 dX9_heldFields_5 rfl ?_
    refine k_kind (fun hk6_0 => ?_)
    refine k_geti h (RX9, TX9, 13) 8 (by decide) rfl hinX9 9 (by decide) rfl tW_123 dX9_heldFields_6 hk6_0 ?_
    refine g_icmp_ge h 55 dX9_heldFields_9 (by decide) ?_ ?_
    · refine g_lv [(2, .int l2)] [2] rfl ?_
      exact hk55 l2
    · refine g_aload_n h 0 dX9_heldFields_12 rfl ?_
      refine k_getr h (RX9, TX9, 13) 8 (by decide) rfl hinX9 8 (by decide) rfl tW_122 dX9_heldFields_13 hk6_0 ?_
      refine g_ob (fun b13 => ?_)
      refine g_iload_n h 3 dX9_heldFields_16 rfl ?_
      refine k_kind (fun hk17_0 => ?_)
      refine k_aald h 14 3 (by decide) "KeepForget$Hold" rfl dX9_heldFields_17 hk17_0 ?_
      refine g_ob (fun b17 => ?_)
      refine k_kind (fun hk18_0 => ?_)
      refine k_getr h (RX1, TX1, 3) 0 (by decide) rfl hinX1 0 (by decide) rfl tW_714 dX9_heldFields_18 hk18_0 ?_
      refine g_ob (fun b18 => ?_)
      refine g_aload_n h 1 dX9_heldFields_21 rfl ?_
      refine g_acmp_ne h 49 dX9_heldFields_22 (by decide) ?_ ?_
      · exact K9_heldFields_B49_w h hKs hE hkw hX hSt s0 a0 a1 l2 l3 (ih) hk55
      · refine g_aload_n h 0 dX9_heldFields_25 rfl ?_
        refine k_getr h (RX9, TX9, 13) 8 (by decide) rfl hinX9 8 (by decide) rfl tW_122 dX9_heldFields_26 hk6_0 ?_
        refine g_ob (fun b26 => ?_)
        refine g_iload_n h 3 dX9_heldFields_29 rfl ?_
        refine k_kind (fun hk30_0 => ?_)
        refine k_aald h 14 3 (by decide) "KeepForget$Hold" rfl dX9_heldFields_30 hk30_0 ?_
        refine g_ob (fun b30 => ?_)
        refine k_kind (fun hk31_0 => ?_)
        refine k_geti h (RX1, TX1, 3) 0 (by decide) rfl hinX1 2 (by decide) rfl tW_717 dX9_heldFields_31 hk31_0 ?_
        refine g_if_ne h 49 dX9_heldFields_34 (by decide) ?_ ?_
        · exact K9_heldFields_B49_w h hKs hE hkw hX hSt s0 a0 a1 l2 l3 (ih) hk55
        · refine g_iload_n h 2 dX9_heldFields_37 rfl ?_
          refine g_aload_n h 0 dX9_heldFields_38 rfl ?_
          refine k_getr h (RX9, TX9, 13) 8 (by decide) rfl hinX9 8 (by decide) rfl tW_122 dX9_heldFields_39 hk6_0 ?_
          refine g_ob (fun b39 => ?_)
          refine g_iload_n h 3 dX9_heldFields_42 rfl ?_
          refine k_kind (fun hk43_0 => ?_)
          refine k_aald h 14 3 (by decide) "KeepForget$Hold" rfl dX9_heldFields_43 hk43_0 ?_
          refine g_ob (fun b43 => ?_)
          refine k_kind (fun hk44_0 => ?_)
          refine k_geti h (RX1, TX1, 3) 0 (by decide) rfl hinX1 1 (by decide) rfl tW_716 dX9_heldFields_44 hk44_0 ?_
          refine g_ior h dX9_heldFields_47 ?_
          refine g_bndi (fun v2_48 => ?_)
          refine g_istore_n h [(2, .int v2_48), (0, .ref a0), (1, .ref a1), (3, .int l3)] dX9_heldFields_48 (by decide) rfl ?_
          refine g_lv [(0, .ref a0), (1, .ref a1), (2, .int v2_48), (3, .int l3)] [1, 2, 0, 3] rfl ?_
          exact K9_heldFields_B49_w h hKs hE hkw hX hSt s0 a0 a1 v2_48 l3 (ih) hk55
def K9_heldFields (s0 : Km) (a0 : Nat) (a1 : Nat) : Option (Int32) :=
  K9_heldFields_L4 s0 a0 a1 (fun v2_55 => some v2_55) gF (0 : Int32) (0 : Int32)
set_option maxHeartbeats 4000000 in
set_option maxRecDepth 100000 in
theorem c_X9_heldFields {l : Launch} {A : Nat → Prop} {Ke : State → Prop} {D : va_G} {cA : Nat → ClassId} {E : State → Heap → Prop} {adS adV adM : Nat → Nat} {adD : Nat} (hE : mEok E A) (hkw : gKw Ke) (hX : xSt l Ke E A adM adD) (hSt : sSt Ke A (KW D cA E A) adS adV) (s0 : Km) (a0 : Nat) (a1 : Nat) : gCp l yX9_heldFields cX9_heldFields 4 (some .int) rm_X9_heldFields Ke (KW D cA E A) A [.ref a0, .ref a1] s0 (K9_heldFields s0 a0 a1) := by
  refine g_metp (by decide) (by simp [lg_sl, Value.category]) ?_
  intro p e s m below meth c h hr hKs
  refine g_lv [(0, .ref a0), (1, .ref a1)] [0, 1] rfl ?_
  unfold K9_heldFields
  refine g_iconst (v := 0) h dX9_heldFields_0 (by decide) ?_
  refine g_istore_n h [(2, .int (0 : Int32)), (0, .ref a0), (1, .ref a1)] dX9_heldFields_1 (by decide) rfl ?_
  refine g_iconst (v := 0) h dX9_heldFields_2 (by decide) ?_
  refine g_istore_n h [(3, .int (0 : Int32)), (2, .int (0 : Int32)), (0, .ref a0), (1, .ref a1)] dX9_heldFields_3 (by decide) rfl ?_
  refine g_lv [(0, .ref a0), (1, .ref a1), (2, .int (0 : Int32)), (3, .int (0 : Int32))] [2, 3, 1, 0] rfl ?_
  refine K9_heldFields_L4_w h hKs hE hkw hX hSt s0 a0 a1 (fun v2_55 => ?_) gF (0 : Int32) (0 : Int32)
  · refine g_iload_n h 0 dX9_heldFields_55 rfl ?_
    exact g_iretp h (KW_mv hE) hr (Nat.le_of_ble_eq_true rfl) (Nat.le_of_ble_eq_true rfl) dX9_heldFields_56
def rm_X9_lift : Room := { frames := 6, cells := 1, slots := 6, locals := 90 }
theorem yk_X9_lift : yOkV yX9_lift cX9_lift 3 (some .boolean) RX9 1 := ⟨tW_731, tW_1, tW_729, tW_730, by decide, by decide, by decide +kernel⟩
def K9_lift_B12 (s0 : Km)  : Option ((Int32 × Km) ⊕ (Bool × Km)) :=
  some (.inr (true, s0))
set_option maxHeartbeats 4000000 in
set_option maxRecDepth 100000 in
theorem K9_lift_B12_w {p : Program} {l : Launch} {e : Env} {s : State} {m : MethodId} {args : Array Value} {below : List Frame} {meth : Method} {c : Code} {A : Nat → Prop} {Ke : State → Prop} {D : va_G} {cA : Nat → ClassId} {E : State → Heap → Prop} {adS adV adM : Nat → Nat} {adD : Nat} (h : gOk p s m args meth c cX9_lift 3 RX9 tb) (hKs : Ke s) (hE : mEok E A) (hkw : gKw Ke) (hX : xSt l Ke E A adM adD) (hSt : sSt Ke A (KW D cA E A) adS adV) (hE0 : E s s.heap) (hT : ∀ x ∈ c.exceptionTable.toList, False) (s0 : Km)  (hr : meth.sig.returnType = some .boolean)  : gS p l e rm_X9_lift s m args below meth c 3 A (KW D cA E A) (fun X => vx_MQ below (xQi (KW D cA E A) A X) (xC (KW D cA E A) A X) args s rm_X9_lift.cells rm_X9_lift.slots A) (0) (0) (K9_lift_B12 s0) s0 12 [] [] := by
  unfold K9_lift_B12
  exact g_throwi h hE hKs hX hE0 hT true 14 (by decide) xAll_t rfl (Nat.le_of_ble_eq_true rfl) (Nat.le_of_ble_eq_true rfl) (Nat.le_of_ble_eq_true rfl) (Nat.le_of_ble_eq_true rfl) (Nat.le_of_ble_eq_true rfl) (Nat.le_of_ble_eq_true rfl) dX9_lift_12 dX9_lift_15 dX9_lift_16 dX9_lift_18 dX9_lift_21
def K9_lift (s0 : Km) (a0 : Nat) (a1 : Int32) : Option ((Int32 × Km) ⊕ (Bool × Km)) :=
  if a1 < 0 then
    K9_lift_B12 s0
  else
    if kK s0 a0 = 9 then
    if a1 < kI s0 a0 9 then
      (kR s0 a0 8).bind (fun b23 =>
      if kK s0 b23 = 14 then
      if okI a1 (kN s0 b23) = true then
      (kR s0 b23 a1.toNatClampNeg).bind (fun b27 =>
      if kK s0 b27 = 1 then
      if kI s0 b27 2 = 0 then
        bnd (kSetI s0 b27 2 (1 : Int32)) (fun s_40 =>
        (kR s_40 b27 0).bind (fun b44 =>
        (kR s_40 b27 0).bind (fun b49 =>
        (K9_heldFields s_40 a0 b49).bind (fun r_52 =>
        if kK s_40 b44 = 8 then
        bnd (kSetI s_40 b44 4 r_52) (fun s_55 =>
        some (.inl ((1 : Int32), s_55)))
        else none))))
      else
        some (.inl ((0 : Int32), s0))
      else none)
      else none
      else none)
    else
      K9_lift_B12 s0
    else none
set_option maxHeartbeats 4000000 in
set_option maxRecDepth 100000 in
theorem c_X9_lift {l : Launch} {A : Nat → Prop} {Ke : State → Prop} {D : va_G} {cA : Nat → ClassId} {E : State → Heap → Prop} {adS adV adM : Nat → Nat} {adD : Nat} (hE : mEok E A) (hkw : gKw Ke) (hX : xSt l Ke E A adM adD) (hSt : sSt Ke A (KW D cA E A) adS adV) (s0 : Km) (a0 : Nat) (a1 : Int32) : gXi l yX9_lift cX9_lift 3 (some .boolean) rm_X9_lift Ke (KW D cA E A) A [.ref a0, .int a1] s0 (K9_lift s0 a0 a1) := by
  refine g_metxi (by decide) (by simp [lg_sl, Value.category]) ?_
  intro p e s m below meth c h hr hKs hE0 hT
  refine g_lv [(0, .ref a0), (1, .int a1)] [0, 1] rfl ?_
  unfold K9_lift
  refine g_iload_n h 1 dX9_lift_0 rfl ?_
  refine g_if_lt h 12 dX9_lift_1 (by decide) ?_ ?_
  · refine g_lv [] [] rfl ?_
    exact K9_lift_B12_w h hKs hE hkw hX hSt hE0 hT s0  hr
  · refine g_iload_n h 1 dX9_lift_4 rfl ?_
    refine g_aload_n h 0 dX9_lift_5 rfl ?_
    refine k_kind (fun hk6_0 => ?_)
    refine k_geti h (RX9, TX9, 13) 8 (by decide) rfl hinX9 9 (by decide) rfl tW_123 dX9_lift_6 hk6_0 ?_
    refine g_icmp_lt h 22 dX9_lift_9 (by decide) ?_ ?_
    · refine g_aload_n h 0 dX9_lift_22 rfl ?_
      refine k_getr h (RX9, TX9, 13) 8 (by decide) rfl hinX9 8 (by decide) rfl tW_122 dX9_lift_23 hk6_0 ?_
      refine g_ob (fun b23 => ?_)
      refine g_iload_n h 1 dX9_lift_26 rfl ?_
      refine k_kind (fun hk27_0 => ?_)
      refine k_aald h 14 3 (by decide) "KeepForget$Hold" rfl dX9_lift_27 hk27_0 ?_
      refine g_ob (fun b27 => ?_)
      refine g_astore_n h [(2, .ref b27), (0, .ref a0), (1, .int a1)] dX9_lift_28 (by decide) rfl ?_
      refine g_aload_n h 0 dX9_lift_29 rfl ?_
      refine k_kind (fun hk30_0 => ?_)
      refine k_geti h (RX1, TX1, 3) 0 (by decide) rfl hinX1 2 (by decide) rfl tW_717 dX9_lift_30 hk30_0 ?_
      refine g_if_eq h 38 dX9_lift_33 (by decide) ?_ ?_
      · refine g_aload_n h 0 dX9_lift_38 rfl ?_
        refine g_iconst (v := 1) h dX9_lift_39 (by decide) ?_
        refine k_puti (x := (1 : Int32)) h hE (RX1, TX1, 3) 0 (by decide) rfl hinX1 2 (by decide) rfl tyX1 tyX1_ok nmX1 rfl tW_717 (okZ_nar (by decide)) (okZ_fit (by decide)) dX9_lift_40 hk30_0 ?_
        refine g_bndE (fun s_40 hs_40 => ?_)
        refine g_aload_n h 0 dX9_lift_43 rfl ?_
        refine k_getr h (RX1, TX1, 3) 0 (by decide) rfl hinX1 0 (by decide) rfl tW_714 dX9_lift_44 (kKsI hs_40 hk30_0) ?_
        refine g_ob (fun b44 => ?_)
        refine g_aload_n h 1 dX9_lift_47 rfl ?_
        refine g_aload_n h 0 dX9_lift_48 rfl ?_
        refine k_getr h (RX1, TX1, 3) 0 (by decide) rfl hinX1 0 (by decide) rfl tW_714 dX9_lift_49 (kKsI hs_40 hk30_0) ?_
        refine g_ob (fun b49 => ?_)
        refine g_callV0p h (KW_mv hE) hkw hKs [.ref b49] (c_X9_heldFields hE hkw hX hSt s_40 a0 b49) yk_X9_heldFields tW_733 ⟨(Nat.le_of_ble_eq_true rfl), (Nat.le_of_ble_eq_true rfl)⟩ (KW_recv a0 8 (r := (RX9, TX9, 13)) (kKsI hs_40 hk6_0) (by decide) rfl) rfl rfl rfl rfl (Nat.le_of_ble_eq_true rfl) dX9_lift_52 ⟨(Nat.le_of_ble_eq_true rfl), (Nat.le_of_ble_eq_true rfl)⟩ (fun r_52 => ?_)
        refine k_kind (fun hk55_0 => ?_)
        refine k_puti (x := r_52) h hE (RX8, TX8, 6) 7 (by decide) rfl hinX8 4 (by decide) rfl tyX8 tyX8_ok nmX8 rfl tW_186 rfl rfl dX9_lift_55 hk55_0 ?_
        refine g_bndE (fun s_55 hs_55 => ?_)
        refine g_iconst (v := 1) h dX9_lift_58 (by decide) ?_
        exact g_xzret h hE hr (Nat.le_of_ble_eq_true rfl) (Nat.le_of_ble_eq_true rfl) (by decide) dX9_lift_59
      · refine g_iconst (v := 0) h dX9_lift_36 (by decide) ?_
        exact g_xzret h hE hr (Nat.le_of_ble_eq_true rfl) (Nat.le_of_ble_eq_true rfl) (by decide) dX9_lift_37
    · refine g_lv [] [] rfl ?_
      exact K9_lift_B12_w h hKs hE hkw hX hSt hE0 hT s0  hr
