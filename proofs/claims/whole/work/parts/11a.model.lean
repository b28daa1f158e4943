def rm_X10_thrown : Room := { frames := 0, cells := 0, slots := 0, locals := 0 }
theorem yk_X10_thrown : yOkV yX10_thrown cX10_thrown 1 (some .int) RX10 0 := ⟨tW_1090, tW_5, tW_1088, tW_1089, by decide, by decide, by decide +kernel⟩
def M_thrown (s0 : Ms)  : Option (Int32) :=
  some (s0.1 0)
set_option maxHeartbeats 4000000 in
set_option maxRecDepth 100000 in
theorem c_X10_thrown {l : Launch} {A : Nat → Prop} {Ke : State → Prop} {D : va_G} {cI cZ : ClassId} {E : State → Heap → Prop} {h0 : Nat} {ps : Nat → Nat} (hE : mEok E A) (hkw : gKw Ke) (s0 : Ms)  : gCp l yX10_thrown cX10_thrown 1 (some .int) rm_X10_thrown Ke (MW D cI cZ E A h0 ps) A [.ref h0] s0 (M_thrown s0 ) := by
  refine g_metp (by decide) (by simp [lg_sl, Value.category]) ?_
  intro p e s m below meth c h hr hKs
  refine g_lv [(0, .ref h0)] [0] rfl ?_
  unfold M_thrown
  refine g_aload_n h 0 dX10_thrown_0 rfl ?_
  refine m_get h hinX10 0 (by decide) rfl tW_906 dX10_thrown_1 ?_
  exact g_iretp h (MW_mv hE) hr (Nat.le_refl _) (Nat.le_refl _) dX10_thrown_4
def rm_X10_fail : Room := { frames := 0, cells := 0, slots := 0, locals := 0 }
theorem yk_X10_fail : yOkV yX10_fail cX10_fail 2 (some .int) RX10 1 := ⟨tW_1114, tW_5, tW_1113, tP_36, by decide, by decide, by decide +kernel⟩
def M_fail (s0 : Ms) (a1 : Int32) : Option (Int32 × Ms) :=
  bnd (mSet s0 0 a1) (fun s_2 =>
  some ((0 : Int32), s_2))
set_option maxHeartbeats 4000000 in
set_option maxRecDepth 100000 in
theorem c_X10_fail {l : Launch} {A : Nat → Prop} {Ke : State → Prop} {D : va_G} {cI cZ : ClassId} {E : State → Heap → Prop} {h0 : Nat} {ps : Nat → Nat} (hE : mEok E A) (hkw : gKw Ke) (s0 : Ms) (a1 : Int32) : gCi l yX10_fail cX10_fail 2 (some .int) rm_X10_fail Ke (MW D cI cZ E A h0 ps) A [.ref h0, .int a1] s0 (M_fail s0 a1) := by
  refine g_meti (by decide) (by simp [lg_sl, Value.category]) ?_
  intro p e s m below meth c h hr hKs
  refine g_lv [(0, .ref h0), (1, .int a1)] [0, 1] rfl ?_
  unfold M_fail
  refine g_aload_n h 0 dX10_fail_0 rfl ?_
  refine g_iload_n h 1 dX10_fail_1 rfl ?_
  refine m_put h hE hinX10 0 (by decide) rfl rfl rfl tW_906 dX10_fail_2 ?_
  refine g_bnd (fun s_2 => ?_)
  refine g_iconst (v := 0) h dX10_fail_5 (by decide) ?_
  exact g_iret h (MW_mv hE) hr (Nat.le_refl _) (Nat.le_refl _) dX10_fail_6
def rm_X10_isLeap : Room := { frames := 0, cells := 0, slots := 0, locals := 0 }
theorem yk_X10_isLeap : yOkS yX10_isLeap cX10_isLeap 1 (some .boolean) 1 := ⟨tW_1100, tW_5, tW_1099, by decide, by decide, by decide +kernel⟩
def M_isLeap_B26 {S : Type} (s0 : S) (t0 : Int32) : Option (Int32) :=
  if okZ t0 = true then some t0 else none
set_option maxHeartbeats 4000000 in
set_option maxRecDepth 100000 in
theorem M_isLeap_B26_w {p : Program} {l : Launch} {e : Env} {s : State} {m : MethodId} {args : Array Value} {below : List Frame} {meth : Method} {c : Code} {A : Nat → Prop} {Ke : State → Prop} {S : Type} {Wd : S → State → Heap → Prop} (h : gOk p s m args meth c cX10_isLeap 1 RX10 tb) (hmv : gMv Wd) (hkw : gKw Ke) (hKs : Ke s) (s0 : S) (t0 : Int32) (hr : meth.sig.returnType = some .boolean)  : gS p l e rm_X10_isLeap s m args below meth c 1 A Wd (fun X => MQ below (gPi Wd A (X, s0)) args s rm_X10_isLeap.cells rm_X10_isLeap.slots A) 0 0 (M_isLeap_B26 s0 t0) s0 26 [] [.int t0] := by
  unfold M_isLeap_B26
  refine g_guard (fun hz => ?_)
  exact g_zretp h hmv hr (Nat.le_refl _) (Nat.le_refl _) hz dX10_isLeap_26
def M_isLeap_B25 {S : Type} (s0 : S)  : Option (Int32) :=
  M_isLeap_B26 s0 (0 : Int32)
set_option maxHeartbeats 4000000 in
set_option maxRecDepth 100000 in
theorem M_isLeap_B25_w {p : Program} {l : Launch} {e : Env} {s : State} {m : MethodId} {args : Array Value} {below : List Frame} {meth : Method} {c : Code} {A : Nat → Prop} {Ke : State → Prop} {S : Type} {Wd : S → State → Heap → Prop} (h : gOk p s m args meth c cX10_isLeap 1 RX10 tb) (hmv : gMv Wd) (hkw : gKw Ke) (hKs : Ke s) (s0 : S)  (hr : meth.sig.returnType = some .boolean)  : gS p l e rm_X10_isLeap s m args below meth c 1 A Wd (fun X => MQ below (gPi Wd A (X, s0)) args s rm_X10_isLeap.cells rm_X10_isLeap.slots A) 0 0 (M_isLeap_B25 s0) s0 25 [] [] := by
  unfold M_isLeap_B25
  refine g_iconst (v := 0) h dX10_isLeap_25 (by decide) ?_
  exact M_isLeap_B26_w h hmv hkw hKs _ _ hr
def M_isLeap_B21 {S : Type} (s0 : S)  : Option (Int32) :=
  M_isLeap_B26 s0 (1 : Int32)
set_option maxHeartbeats 4000000 in
set_option maxRecDepth 100000 in
theorem M_isLeap_B21_w {p : Program} {l : Launch} {e : Env} {s : State} {m : MethodId} {args : Array Value} {below : List Frame} {meth : Method} {c : Code} {A : Nat → Prop} {Ke : State → Prop} {S : Type} {Wd : S → State → Heap → Prop} (h : gOk p s m args meth c cX10_isLeap 1 RX10 tb) (hmv : gMv Wd) (hkw : gKw Ke) (hKs : Ke s) (s0 : S)  (hr : meth.sig.returnType = some .boolean)  : gS p l e rm_X10_isLeap s m args below meth c 1 A Wd (fun X => MQ below (gPi Wd A (X, s0)) args s rm_X10_isLeap.cells rm_X10_isLeap.slots A) 0 0 (M_isLeap_B21 s0) s0 21 [] [] := by
  unfold M_isLeap_B21
  refine g_iconst (v := 1) h dX10_isLeap_21 (by decide) ?_
  refine g_goto h 26 dX10_isLeap_22 (by decide) ?_
  exact M_isLeap_B26_w h hmv hkw hKs _ _ hr
def M_isLeap {S : Type} (s0 : S) (a0 : Int32) : Option (Int32) :=
  if a0 - a0 / (4 : Int32) * (4 : Int32) = 0 then
    if a0 - a0 / (100 : Int32) * (100 : Int32) = 0 then
      if a0 - a0 / (400 : Int32) * (400 : Int32) = 0 then
        M_isLeap_B21 s0
      else
        M_isLeap_B25 s0
    else
      M_isLeap_B21 s0
  else
    M_isLeap_B25 s0
set_option maxHeartbeats 4000000 in
set_option maxRecDepth 100000 in
theorem c_X10_isLeap {l : Launch} {A : Nat → Prop} {Ke : State → Prop} {S : Type} {Wd : S → State → Heap → Prop} (hmv : gMv Wd) (hkw : gKw Ke) (s0 : S) (a0 : Int32) : gCp l yX10_isLeap cX10_isLeap 1 (some .boolean) rm_X10_isLeap Ke Wd A [.int a0] s0 (M_isLeap s0 a0) := by
  refine g_metp (by decide) (by simp [lg_sl, Value.category]) ?_
  intro p e s m below meth c h hr hKs
  refine g_lv [(0, .int a0)] [0] rfl ?_
  unfold M_isLeap
  refine g_iload_n h 0 dX10_isLeap_0 rfl ?_
  refine g_iconst (v := 4) h dX10_isLeap_1 (by decide) ?_
  refine g_irem h dX10_isLeap_2 (by decide) ?_
  refine g_if_ne h 25 dX10_isLeap_3 (by decide) ?_ ?_
  · refine g_lv [] [] rfl ?_
    exact M_isLeap_B25_w h hmv hkw hKs _  hr
  · refine g_iload_n h 0 dX10_isLeap_6 rfl ?_
    refine g_bipush (v := 100) h dX10_isLeap_7 (by decide) ?_
    refine g_irem h dX10_isLeap_9 (by decide) ?_
    refine g_if_ne h 21 dX10_isLeap_10 (by decide) ?_ ?_
    · refine g_lv [] [] rfl ?_
      exact M_isLeap_B21_w h hmv hkw hKs _  hr
    · refine g_iload_n h 0 dX10_isLeap_13 rfl ?_
      refine g_sipush (v := 400) h dX10_isLeap_14 (by decide) ?_
      refine g_irem h dX10_isLeap_17 (by decide) ?_
      refine g_if_ne h 25 dX10_isLeap_18 (by decide) ?_ ?_
      · refine g_lv [] [] rfl ?_
        exact M_isLeap_B25_w h hmv hkw hKs _  hr
      · refine g_lv [] [] rfl ?_
        exact M_isLeap_B21_w h hmv hkw hKs _  hr
def rm_X10_leaps : Room := { frames := 0, cells := 0, slots := 0, locals := 0 }
theorem yk_X10_leaps : yOkS yX10_leaps cX10_leaps 1 (some .int) 1 := ⟨tW_1109, tW_5, tW_1108, by decide, by decide, by decide +kernel⟩
def M_leaps {S : Type} (s0 : S) (a0 : Int32) : Option (Int32) :=
  some (((a0 / (4 : Int32)) - (a0 / (100 : Int32))) + (a0 / (400 : Int32)))
set_option maxHeartbeats 4000000 in
set_option maxRecDepth 100000 in
theorem c_X10_leaps {l : Launch} {A : Nat → Prop} {Ke : State → Prop} {S : Type} {Wd : S → State → Heap → Prop} (hmv : gMv Wd) (hkw : gKw Ke) (s0 : S) (a0 : Int32) : gCp l yX10_leaps cX10_leaps 1 (some .int) rm_X10_leaps Ke Wd A [.int a0] s0 (M_leaps s0 a0) := by
  refine g_metp (by decide) (by simp [lg_sl, Value.category]) ?_
  intro p e s m below meth c h hr hKs
  refine g_lv [(0, .int a0)] [0] rfl ?_
  unfold M_leaps
  refine g_iload_n h 0 dX10_leaps_0 rfl ?_
  refine g_iconst (v := 4) h dX10_leaps_1 (by decide) ?_
  refine g_idiv h dX10_leaps_2 (by decide) ?_
  refine g_iload_n h 0 dX10_leaps_3 rfl ?_
  refine g_bipush (v := 100) h dX10_leaps_4 (by decide) ?_
  refine g_idiv h dX10_leaps_6 (by decide) ?_
  refine g_isub h dX10_leaps_7 ?_
  refine g_iload_n h 0 dX10_leaps_8 rfl ?_
  refine g_sipush (v := 400) h dX10_leaps_9 (by decide) ?_
  refine g_idiv h dX10_leaps_12 (by decide) ?_
  refine g_iadd h dX10_leaps_13 ?_
  exact g_iretp h hmv hr (Nat.le_refl _) (Nat.le_refl _) dX10_leaps_14
def rm_X10_yearDay : Room := { frames := 1, cells := 0, slots := 0, locals := 20 }
theorem yk_X10_yearDay : yOkS yX10_yearDay cX10_yearDay 1 (some .int) 1 := ⟨tW_1106, tW_5, tW_1105, by decide, by decide, by decide +kernel⟩
def M_yearDay {S : Type} (s0 : S) (a0 : Int32) : Option (Int32) :=
  (M_leaps s0 (a0 - (1 : Int32))).bind (fun r_12 =>
  (M_leaps s0 (1999 : Int32)).bind (fun r_19 =>
  some ((((365 : Int32) * (a0 - (2000 : Int32))) + r_12) - r_19)))
set_option maxHeartbeats 4000000 in
set_option maxRecDepth 100000 in
theorem c_X10_yearDay {l : Launch} {A : Nat → Prop} {Ke : State → Prop} {S : Type} {Wd : S → State → Heap → Prop} (hmv : gMv Wd) (hkw : gKw Ke) (s0 : S) (a0 : Int32) : gCp l yX10_yearDay cX10_yearDay 1 (some .int) rm_X10_yearDay Ke Wd A [.int a0] s0 (M_yearDay s0 a0) := by
  refine g_metp (by decide) (by simp [lg_sl, Value.category]) ?_
  intro p e s m below meth c h hr hKs
  refine g_lv [(0, .int a0)] [0] rfl ?_
  unfold M_yearDay
  refine g_sipush (v := 365) h dX10_yearDay_0 (by decide) ?_
  refine g_iload_n h 0 dX10_yearDay_3 rfl ?_
  refine g_sipush (v := 2000) h dX10_yearDay_4 (by decide) ?_
  refine g_isub h dX10_yearDay_7 ?_
  refine g_imul h dX10_yearDay_8 ?_
  refine g_iload_n h 0 dX10_yearDay_9 rfl ?_
  refine g_iconst (v := 1) h dX10_yearDay_10 (by decide) ?_
  refine g_isub h dX10_yearDay_11 ?_
  refine g_callS0p h hmv hkw hKs [.int (a0 - (1 : Int32))] (c_X10_leaps hmv hkw s0 (a0 - (1 : Int32))) yk_X10_leaps tW_1107 ⟨(Nat.le_of_ble_eq_true rfl), (Nat.le_of_ble_eq_true rfl)⟩ rfl rfl rfl rfl (Nat.le_of_ble_eq_true rfl) dX10_yearDay_12 ⟨Nat.zero_le _, Nat.zero_le _⟩ (fun r_12 => ?_)
  refine g_iadd h dX10_yearDay_15 ?_
  refine g_sipush (v := 1999) h dX10_yearDay_16 (by decide) ?_
  refine g_callS0p h hmv hkw hKs [.int (1999 : Int32)] (c_X10_leaps hmv hkw s0 (1999 : Int32)) yk_X10_leaps tW_1107 ⟨(Nat.le_of_ble_eq_true rfl), (Nat.le_of_ble_eq_true rfl)⟩ rfl rfl rfl rfl (Nat.le_of_ble_eq_true rfl) dX10_yearDay_19 ⟨Nat.zero_le _, Nat.zero_le _⟩ (fun r_19 => ?_)
  refine g_isub h dX10_yearDay_22 ?_
  exact g_iretp h hmv hr (Nat.le_refl _) (Nat.le_refl _) dX10_yearDay_23
def rm_X10_monthDays : Room := { frames := 1, cells := 0, slots := 0, locals := 20 }
theorem yk_X10_monthDays : yOkS yX10_monthDays cX10_monthDays 2 (some .int) 2 := ⟨tW_1097, tW_5, tW_1096, by decide, by decide, by decide +kernel⟩
def M_monthDays_B52 {S : Type} (s0 : S) (t0 : Int32) : Option (Int32) :=
  some t0
set_option maxHeartbeats 4000000 in
set_option maxRecDepth 100000 in
theorem M_monthDays_B52_w {p : Program} {l : Launch} {e : Env} {s : State} {m : MethodId} {args : Array Value} {below : List Frame} {meth : Method} {c : Code} {A : Nat → Prop} {Ke : State → Prop} {S : Type} {Wd : S → State → Heap → Prop} (h : gOk p s m args meth c cX10_monthDays 2 RX10 tb) (hmv : gMv Wd) (hkw : gKw Ke) (hKs : Ke s) (s0 : S) (t0 : Int32) (hr : meth.sig.returnType = some .int)  : gS p l e rm_X10_monthDays s m args below meth c 2 A Wd (fun X => MQ below (gPi Wd A (X, s0)) args s rm_X10_monthDays.cells rm_X10_monthDays.slots A) 0 0 (M_monthDays_B52 s0 t0) s0 52 [] [.int t0] := by
  unfold M_monthDays_B52
  exact g_iretp h hmv hr (Nat.le_refl _) (Nat.le_refl _) dX10_monthDays_52
def M_monthDays_B45 {S : Type} (s0 : S)  : Option (Int32) :=
  M_monthDays_B52 s0 (30 : Int32)
set_option maxHeartbeats 4000000 in
set_option maxRecDepth 100000 in
theorem M_monthDays_B45_w {p : Program} {l : Launch} {e : Env} {s : State} {m : MethodId} {args : Array Value} {below : List Frame} {meth : Method} {c : Code} {A : Nat → Prop} {Ke : State → Prop} {S : Type} {Wd : S → State → Heap → Prop} (h : gOk p s m args meth c cX10_monthDays 2 RX10 tb) (hmv : gMv Wd) (hkw : gKw Ke) (hKs : Ke s) (s0 : S)  (hr : meth.sig.returnType = some .int)  : gS p l e rm_X10_monthDays s m args below meth c 2 A Wd (fun X => MQ below (gPi Wd A (X, s0)) args s rm_X10_monthDays.cells rm_X10_monthDays.slots A) 0 0 (M_monthDays_B45 s0) s0 45 [] [] := by
  unfold M_monthDays_B45
  refine g_bipush (v := 30) h dX10_monthDays_45 (by decide) ?_
  refine g_goto h 52 dX10_monthDays_47 (by decide) ?_
  exact M_monthDays_B52_w h hmv hkw hKs _ _ hr
def M_monthDays {S : Type} (s0 : S) (a0 : Int32) (a1 : Int32) : Option (Int32) :=
  if a1 = (2 : Int32) then
    (M_isLeap s0 a0).bind (fun r_6 =>
    if r_6 = 0 then
      M_monthDays_B52 s0 (28 : Int32)
    else
      M_monthDays_B52 s0 (29 : Int32))
  else
    if a1 = (4 : Int32) then
      M_monthDays_B45 s0
    else
      if a1 = (6 : Int32) then
        M_monthDays_B45 s0
      else
        if a1 = (9 : Int32) then
          M_monthDays_B45 s0
        else
          if a1 = (11 : Int32) then
            M_monthDays_B45 s0
          else
            M_monthDays_B52 s0 (31 : Int32)
set_option maxHeartbeats 4000000 in
set_option maxRecDepth 100000 in
theorem c_X10_monthDays {l : Launch} {A : Nat → Prop} {Ke : State → Prop} {S : Type} {Wd : S → State → Heap → Prop} (hmv : gMv Wd) (hkw : gKw Ke) (s0 : S) (a0 : Int32) (a1 : Int32) : gCp l yX10_monthDays cX10_monthDays 2 (some .int) rm_X10_monthDays Ke Wd A [.int a0, .int a1] s0 (M_monthDays s0 a0 a1) := by
  refine g_metp (by decide) (by simp [lg_sl, Value.category]) ?_
  intro p e s m below meth c h hr hKs
  refine g_lv [(0, .int a0), (1, .int a1)] [0, 1] rfl ?_
  unfold M_monthDays
  refine g_iload_n h 1 dX10_monthDays_0 rfl ?_
  refine g_iconst (v := 2) h dX10_monthDays_1 (by decide) ?_
  refine g_icmp_ne h 22 dX10_monthDays_2 (by decide) ?_ ?_
  · refine g_iload_n h 1 dX10_monthDays_22 rfl ?_
    refine g_iconst (v := 4) h dX10_monthDays_23 (by decide) ?_
    refine g_icmp_eq h 45 dX10_monthDays_24 (by decide) ?_ ?_
    · refine g_lv [] [] rfl ?_
      exact M_monthDays_B45_w h hmv hkw hKs _  hr
    · refine g_iload_n h 1 dX10_monthDays_27 rfl ?_
      refine g_bipush (v := 6) h dX10_monthDays_28 (by decide) ?_
      refine g_icmp_eq h 45 dX10_monthDays_30 (by decide) ?_ ?_
      · refine g_lv [] [] rfl ?_
        exact M_monthDays_B45_w h hmv hkw hKs _  hr
      · refine g_iload_n h 1 dX10_monthDays_33 rfl ?_
        refine g_bipush (v := 9) h dX10_monthDays_34 (by decide) ?_
        refine g_icmp_eq h 45 dX10_monthDays_36 (by decide) ?_ ?_
        · refine g_lv [] [] rfl ?_
          exact M_monthDays_B45_w h hmv hkw hKs _  hr
        · refine g_iload_n h 1 dX10_monthDays_39 rfl ?_
          refine g_bipush (v := 11) h dX10_monthDays_40 (by decide) ?_
          refine g_icmp_ne h 50 dX10_monthDays_42 (by decide) ?_ ?_
          · refine g_bipush (v := 31) h dX10_monthDays_50 (by decide) ?_
            refine g_lv [] [] rfl ?_
            exact M_monthDays_B52_w h hmv hkw hKs _ _ hr
          · refine g_lv [] [] rfl ?_
            exact M_monthDays_B45_w h hmv hkw hKs _  hr
  · refine g_iload_n h 0 dX10_monthDays_5 rfl ?_
    refine g_callS0p h hmv hkw hKs [.int a0] (c_X10_isLeap hmv hkw s0 a0) yk_X10_isLeap tW_1098 ⟨(Nat.le_of_ble_eq_true rfl), (Nat.le_of_ble_eq_true rfl)⟩ rfl rfl rfl rfl (Nat.le_of_ble_eq_true rfl) dX10_monthDays_6 ⟨Nat.zero_le _, Nat.zero_le _⟩ (fun r_6 => ?_)
    refine g_if_eq h 17 dX10_monthDays_9 (by decide) ?_ ?_
    · refine g_bipush (v := 28) h dX10_monthDays_17 (by decide) ?_
      refine g_goto h 52 dX10_monthDays_19 (by decide) ?_
      refine g_lv [] [] rfl ?_
      exact M_monthDays_B52_w h hmv hkw hKs _ _ hr
    · refine g_bipush (v := 29) h dX10_monthDays_12 (by decide) ?_
      refine g_goto h 52 dX10_monthDays_14 (by decide) ?_
      refine g_lv [] [] rfl ?_
      exact M_monthDays_B52_w h hmv hkw hKs _ _ hr
def rm_X10_dayOf : Room := { frames := 2, cells := 0, slots := 0, locals := 41 }
theorem yk_X10_dayOf : yOkS yX10_dayOf cX10_dayOf 5 (some .int) 3 := ⟨tW_1103, tW_5, tW_1102, by decide, by decide, by decide +kernel⟩
def M_dayOf_L12 {S : Type} {Rt : Type} (s0 : S) (a0 : Int32) (a1 : Int32) (k33 : Int32 → Option Rt) : Nat → Int32 → Int32 → Option Rt
  | 0, _, _ => none
  | F + 1, l3, l4 =>
  if a1 ≤ l4 then
      k33 l3
    else
      (M_monthDays s0 a0 l4).bind (fun r_22 =>
      bnd (l3 + r_22) (fun v3_26 =>
      M_dayOf_L12 s0 a0 a1 k33 F v3_26 (l4 + 1)))
set_option maxHeartbeats 4000000 in
set_option maxRecDepth 100000 in
theorem M_dayOf_L12_w {p : Program} {l : Launch} {e : Env} {s : State} {m : MethodId} {args : Array Value} {below : List Frame} {meth : Method} {c : Code} {A : Nat → Prop} {Ke : State → Prop} {S : Type} {Wd : S → State → Heap → Prop} (h : gOk p s m args meth c cX10_dayOf 5 RX10 tb) (hmv : gMv Wd) (hkw : gKw Ke) (hKs : Ke s) {Rt : Type} {QX : Rt → State → Prop} (s0 : S) (a0 : Int32) (a1 : Int32) {k33 : Int32 → Option Rt} (hk33 : ∀ (l3 : Int32), gS p l e rm_X10_dayOf s m args below meth c 5 A Wd QX 0 0 (k33 l3) s0 33 [(3, .int l3)] []) : ∀ (F : Nat) (l3 : Int32) (l4 : Int32), gS p l e rm_X10_dayOf s m args below meth c 5 A Wd QX 0 0 (M_dayOf_L12 s0 a0 a1 k33 F l3 l4) s0 12 [(0, .int a0), (1, .int a1), (3, .int l3), (4, .int l4)] [] := by
  intro F
  induction F with
  | zero =>
    intro l3 l4
    unfold M_dayOf_L12
    exact g_none
  | succ F ih =>
    intro l3 l4
    unfold M_dayOf_L12
    refine g_iload h 3 dX10_dayOf_12 rfl ?_
    refine g_iload_n h 1 dX10_dayOf_14 rfl ?_
    refine g_icmp_ge h 33 dX10_dayOf_15 (by decide) ?_ ?_
    · refine g_lv [(3, .int l3)] [2] rfl ?_
      exact hk33 _
    · refine g_iload_n h 2 dX10_dayOf_18 rfl ?_
      refine g_iload_n h 0 dX10_dayOf_19 rfl ?_
      refine g_iload h 3 dX10_dayOf_20 rfl ?_
      refine g_callS0p h hmv hkw hKs [.int a0, .int l4] (c_X10_monthDays hmv hkw s0 a0 l4) yk_X10_monthDays tW_1095 ⟨(Nat.le_of_ble_eq_true rfl), (Nat.le_of_ble_eq_true rfl)⟩ rfl rfl rfl rfl (Nat.le_of_ble_eq_true rfl) dX10_dayOf_22 ⟨Nat.zero_le _, Nat.zero_le _⟩ (fun r_22 => ?_)
      refine g_iadd h dX10_dayOf_25 ?_
      refine g_bndi (fun v3_26 => ?_)
      refine g_istore_n h [(3, .int v3_26), (0, .int a0), (1, .int a1), (4, .int l4)] dX10_dayOf_26 (by decide) rfl ?_
      refine g_iinc (v := l4 + 1) (i := 3) h [(4, .int (l4 + 1)), (3, .int v3_26), (0, .int a0), (1, .int a1)] dX10_dayOf_27 rfl rfl (by decide) rfl ?_
      refine g_goto h 12 dX10_dayOf_30 (by decide) ?_
      refine g_lv [(0, .int a0), (1, .int a1), (3, .int v3_26), (4, .int (l4 + 1))] [2, 3, 1, 0] rfl ?_
      exact ih _ _
def M_dayOf {S : Type} (s0 : S) (a0 : Int32) (a1 : Int32) (a2 : Int32) : Option (Int32) :=
  (M_yearDay s0 a0).bind (fun r_1 =>
  bnd ((r_1 + a2) - (1 : Int32)) (fun v3_8 =>
  M_dayOf_L12 s0 a0 a1 (fun v3_33 => some v3_33) gF v3_8 (1 : Int32)))
set_option maxHeartbeats 4000000 in
set_option maxRecDepth 100000 in
theorem c_X10_dayOf {l : Launch} {A : Nat → Prop} {Ke : State → Prop} {S : Type} {Wd : S → State → Heap → Prop} (hmv : gMv Wd) (hkw : gKw Ke) (s0 : S) (a0 : Int32) (a1 : Int32) (a2 : Int32) : gCp l yX10_dayOf cX10_dayOf 5 (some .int) rm_X10_dayOf Ke Wd A [.int a0, .int a1, .int a2] s0 (M_dayOf s0 a0 a1 a2) := by
  refine g_metp (by decide) (by simp [lg_sl, Value.category]) ?_
  intro p e s m below meth c h hr hKs
  refine g_lv [(0, .int a0), (1, .int a1), (2, .int a2)] [0, 1, 2] rfl ?_
  unfold M_dayOf
  refine g_iload_n h 0 dX10_dayOf_0 rfl ?_
  refine g_callS0p h hmv hkw hKs [.int a0] (c_X10_yearDay hmv hkw s0 a0) yk_X10_yearDay tW_1104 ⟨(Nat.le_of_ble_eq_true rfl), (Nat.le_of_ble_eq_true rfl)⟩ rfl rfl rfl rfl (Nat.le_of_ble_eq_true rfl) dX10_dayOf_1 ⟨Nat.zero_le _, Nat.zero_le _⟩ (fun r_1 => ?_)
  refine g_iload_n h 2 dX10_dayOf_4 rfl ?_
  refine g_iadd h dX10_dayOf_5 ?_
  refine g_iconst (v := 1) h dX10_dayOf_6 (by decide) ?_
  refine g_isub h dX10_dayOf_7 ?_
  refine g_bndi (fun v3_8 => ?_)
  refine g_istore_n h [(3, .int v3_8), (0, .int a0), (1, .int a1), (2, .int a2)] dX10_dayOf_8 (by decide) rfl ?_
  refine g_iconst (v := 1) h dX10_dayOf_9 (by decide) ?_
  refine g_istore h [(4, .int (1 : Int32)), (3, .int v3_8), (0, .int a0), (1, .int a1), (2, .int a2)] dX10_dayOf_10 (by decide) rfl ?_
  refine g_lv [(0, .int a0), (1, .int a1), (3, .int v3_8), (4, .int (1 : Int32))] [2, 3, 1, 0] rfl ?_
  refine M_dayOf_L12_w h hmv hkw hKs _ _ _ (fun v3_33 => ?_) _ _ _
  · refine g_iload_n h 0 dX10_dayOf_33 rfl ?_
    exact g_iretp h hmv hr (Nat.le_refl _) (Nat.le_refl _) dX10_dayOf_34
def rm_X10_isDay : Room := { frames := 0, cells := 0, slots := 0, locals := 0 }
theorem yk_X10_isDay : yOkS yX10_isDay cX10_isDay 1 (some .boolean) 1 := ⟨tW_1121, tW_5, tW_1120, by decide, by decide, by decide +kernel⟩
def M_isDay_B15 {S : Type} (s0 : S) (t0 : Int32) : Option (Int32) :=
  if okZ t0 = true then some t0 else none
set_option maxHeartbeats 4000000 in
set_option maxRecDepth 100000 in
theorem M_isDay_B15_w {p : Program} {l : Launch} {e : Env} {s : State} {m : MethodId} {args : Array Value} {below : List Frame} {meth : Method} {c : Code} {A : Nat → Prop} {Ke : State → Prop} {S : Type} {Wd : S → State → Heap → Prop} (h : gOk p s m args meth c cX10_isDay 1 RX10 tb) (hmv : gMv Wd) (hkw : gKw Ke) (hKs : Ke s) (s0 : S) (t0 : Int32) (hr : meth.sig.returnType = some .boolean)  : gS p l e rm_X10_isDay s m args below meth c 1 A Wd (fun X => MQ below (gPi Wd A (X, s0)) args s rm_X10_isDay.cells rm_X10_isDay.slots A) 0 0 (M_isDay_B15 s0 t0) s0 15 [] [.int t0] := by
  unfold M_isDay_B15
  refine g_guard (fun hz => ?_)
  exact g_zretp h hmv hr (Nat.le_refl _) (Nat.le_refl _) hz dX10_isDay_15
def M_isDay_B14 {S : Type} (s0 : S)  : Option (Int32) :=
  M_isDay_B15 s0 (0 : Int32)
set_option maxHeartbeats 4000000 in
set_option maxRecDepth 100000 in
theorem M_isDay_B14_w {p : Program} {l : Launch} {e : Env} {s : State} {m : MethodId} {args : Array Value} {below : List Frame} {meth : Method} {c : Code} {A : Nat → Prop} {Ke : State → Prop} {S : Type} {Wd : S → State → Heap → Prop} (h : gOk p s m args meth c cX10_isDay 1 RX10 tb) (hmv : gMv Wd) (hkw : gKw Ke) (hKs : Ke s) (s0 : S)  (hr : meth.sig.returnType = some .boolean)  : gS p l e rm_X10_isDay s m args below meth c 1 A Wd (fun X => MQ below (gPi Wd A (X, s0)) args s rm_X10_isDay.cells rm_X10_isDay.slots A) 0 0 (M_isDay_B14 s0) s0 14 [] [] := by
  unfold M_isDay_B14
  refine g_iconst (v := 0) h dX10_isDay_14 (by decide) ?_
  exact M_isDay_B15_w h hmv hkw hKs _ _ hr
def M_isDay {S : Type} (s0 : S) (a0 : Int32) : Option (Int32) :=
  if a0 < 0 then
    M_isDay_B14 s0
  else
    if (200000 : Int32) < a0 then
      M_isDay_B14 s0
    else
      M_isDay_B15 s0 (1 : Int32)
set_option maxHeartbeats 4000000 in
set_option maxRecDepth 100000 in
theorem c_X10_isDay {l : Launch} {A : Nat → Prop} {Ke : State → Prop} {S : Type} {Wd : S → State → Heap → Prop} (hmv : gMv Wd) (hkw : gKw Ke) (s0 : S) (a0 : Int32) : gCp l yX10_isDay cX10_isDay 1 (some .boolean) rm_X10_isDay Ke Wd A [.int a0] s0 (M_isDay s0 a0) := by
  refine g_metp (by decide) (by simp [lg_sl, Value.category]) ?_
  intro p e s m below meth c h hr hKs
  refine g_lv [(0, .int a0)] [0] rfl ?_
  unfold M_isDay
  refine g_iload_n h 0 dX10_isDay_0 rfl ?_
  refine g_if_lt h 14 dX10_isDay_1 (by decide) ?_ ?_
  · refine g_lv [] [] rfl ?_
    exact M_isDay_B14_w h hmv hkw hKs _  hr
  · refine g_iload_n h 0 dX10_isDay_4 rfl ?_
    refine g_ldc (v := 200000) h tW_1110 dX10_isDay_5 ?_
    refine g_icmp_gt h 14 dX10_isDay_7 (by decide) ?_ ?_
    · refine g_lv [] [] rfl ?_
      exact M_isDay_B14_w h hmv hkw hKs _  hr
    · refine g_iconst (v := 1) h dX10_isDay_10 (by decide) ?_
      refine g_goto h 15 dX10_isDay_11 (by decide) ?_
      refine g_lv [] [] rfl ?_
      exact M_isDay_B15_w h hmv hkw hKs _ _ hr
def rm_X10_yearOf : Room := { frames := 2, cells := 0, slots := 0, locals := 40 }
theorem yk_X10_yearOf : yOkS yX10_yearOf cX10_yearOf 2 (some .int) 1 := ⟨tW_1124, tW_5, tW_1123, by decide, by decide, by decide +kernel⟩
def M_yearOf_L10 {S : Type} {Rt : Type} (s0 : S) (a0 : Int32) (k26 : Int32 → Option Rt) : Nat → Int32 → Option Rt
  | 0, _ => none
  | F + 1, l1 =>
  (M_yearDay s0 (l1 + (1 : Int32))).bind (fun r_13 =>
    if a0 < r_13 then
      k26 l1
    else
      M_yearOf_L10 s0 a0 k26 F (l1 + 1))
set_option maxHeartbeats 4000000 in
set_option maxRecDepth 100000 in
theorem M_yearOf_L10_w {p : Program} {l : Launch} {e : Env} {s : State} {m : MethodId} {args : Array Value} {below : List Frame} {meth : Method} {c : Code} {A : Nat → Prop} {Ke : State → Prop} {S : Type} {Wd : S → State → Heap → Prop} (h : gOk p s m args meth c cX10_yearOf 2 RX10 tb) (hmv : gMv Wd) (hkw : gKw Ke) (hKs : Ke s) {Rt : Type} {QX : Rt → State → Prop} (s0 : S) (a0 : Int32) {k26 : Int32 → Option Rt} (hk26 : ∀ (l1 : Int32), gS p l e rm_X10_yearOf s m args below meth c 2 A Wd QX 0 0 (k26 l1) s0 26 [(1, .int l1)] []) : ∀ (F : Nat) (l1 : Int32), gS p l e rm_X10_yearOf s m args below meth c 2 A Wd QX 0 0 (M_yearOf_L10 s0 a0 k26 F l1) s0 10 [(0, .int a0), (1, .int l1)] [] := by
  intro F
  induction F with
  | zero =>
    intro l1
    unfold M_yearOf_L10
    exact g_none
  | succ F ih =>
    intro l1
    unfold M_yearOf_L10
    refine g_iload_n h 1 dX10_yearOf_10 rfl ?_
    refine g_iconst (v := 1) h dX10_yearOf_11 (by decide) ?_
    refine g_iadd h dX10_yearOf_12 ?_
    refine g_callS0p h hmv hkw hKs [.int (l1 + (1 : Int32))] (c_X10_yearDay hmv hkw s0 (l1 + (1 : Int32))) yk_X10_yearDay tW_1104 ⟨(Nat.le_of_ble_eq_true rfl), (Nat.le_of_ble_eq_true rfl)⟩ rfl rfl rfl rfl (Nat.le_of_ble_eq_true rfl) dX10_yearOf_13 ⟨Nat.zero_le _, Nat.zero_le _⟩ (fun r_13 => ?_)
    refine g_iload_n h 0 dX10_yearOf_16 rfl ?_
    refine g_icmp_gt h 26 dX10_yearOf_17 (by decide) ?_ ?_
    · refine g_lv [(1, .int l1)] [1] rfl ?_
      exact hk26 _
    · refine g_iinc (v := l1 + 1) (i := 1) h [(1, .int (l1 + 1)), (0, .int a0)] dX10_yearOf_20 rfl rfl (by decide) rfl ?_
      refine g_goto h 10 dX10_yearOf_23 (by decide) ?_
      refine g_lv [(0, .int a0), (1, .int (l1 + 1))] [1, 0] rfl ?_
      exact ih _
def M_yearOf {S : Type} (s0 : S) (a0 : Int32) : Option (Int32) :=
  bnd ((2000 : Int32) + (a0 / (366 : Int32))) (fun v1_9 =>
  M_yearOf_L10 s0 a0 (fun v1_26 => some v1_26) gF v1_9)
set_option maxHeartbeats 4000000 in
set_option maxRecDepth 100000 in
theorem c_X10_yearOf {l : Launch} {A : Nat → Prop} {Ke : State → Prop} {S : Type} {Wd : S → State → Heap → Prop} (hmv : gMv Wd) (hkw : gKw Ke) (s0 : S) (a0 : Int32) : gCp l yX10_yearOf cX10_yearOf 2 (some .int) rm_X10_yearOf Ke Wd A [.int a0] s0 (M_yearOf s0 a0) := by
  refine g_metp (by decide) (by simp [lg_sl, Value.category]) ?_
  intro p e s m below meth c h hr hKs
  refine g_lv [(0, .int a0)] [0] rfl ?_
  unfold M_yearOf
  refine g_sipush (v := 2000) h dX10_yearOf_0 (by decide) ?_
  refine g_iload_n h 0 dX10_yearOf_3 rfl ?_
  refine g_sipush (v := 366) h dX10_yearOf_4 (by decide) ?_
  refine g_idiv h dX10_yearOf_7 (by decide) ?_
  refine g_iadd h dX10_yearOf_8 ?_
  refine g_bndi (fun v1_9 => ?_)
  refine g_istore_n h [(1, .int v1_9), (0, .int a0)] dX10_yearOf_9 (by decide) rfl ?_
  refine g_lv [(0, .int a0), (1, .int v1_9)] [1, 0] rfl ?_
  refine M_yearOf_L10_w h hmv hkw hKs _ _ (fun v1_26 => ?_) _ _
  · refine g_iload_n h 0 dX10_yearOf_26 rfl ?_
    exact g_iretp h hmv hr (Nat.le_refl _) (Nat.le_refl _) dX10_yearOf_27
def rm_X10_monthOf : Room := { frames := 3, cells := 0, slots := 0, locals := 65 }
theorem yk_X10_monthOf : yOkS yX10_monthOf cX10_monthOf 3 (some .int) 1 := ⟨tW_1127, tW_5, tW_1126, by decide, by decide, by decide +kernel⟩
def M_monthOf_L7 {S : Type} {Rt : Type} (s0 : S) (a0 : Int32) (l1 : Int32) (k31 : Int32 → Option Rt) : Nat → Int32 → Option Rt
  | 0, _ => none
  | F + 1, l2 =>
  if (12 : Int32) ≤ l2 then
      k31 l2
    else
      (M_dayOf s0 l1 (l2 + (1 : Int32)) (1 : Int32)).bind (fun r_18 =>
      if a0 < r_18 then
        k31 l2
      else
        M_monthOf_L7 s0 a0 l1 k31 F (l2 + 1))
set_option maxHeartbeats 4000000 in
set_option maxRecDepth 100000 in
theorem M_monthOf_L7_w {p : Program} {l : Launch} {e : Env} {s : State} {m : MethodId} {args : Array Value} {below : List Frame} {meth : Method} {c : Code} {A : Nat → Prop} {Ke : State → Prop} {S : Type} {Wd : S → State → Heap → Prop} (h : gOk p s m args meth c cX10_monthOf 3 RX10 tb) (hmv : gMv Wd) (hkw : gKw Ke) (hKs : Ke s) {Rt : Type} {QX : Rt → State → Prop} (s0 : S) (a0 : Int32) (l1 : Int32) {k31 : Int32 → Option Rt} (hk31 : ∀ (l2 : Int32), gS p l e rm_X10_monthOf s m args below meth c 3 A Wd QX 0 0 (k31 l2) s0 31 [(2, .int l2)] []) : ∀ (F : Nat) (l2 : Int32), gS p l e rm_X10_monthOf s m args below meth c 3 A Wd QX 0 0 (M_monthOf_L7 s0 a0 l1 k31 F l2) s0 7 [(0, .int a0), (1, .int l1), (2, .int l2)] [] := by
  intro F
  induction F with
  | zero =>
    intro l2
    unfold M_monthOf_L7
    exact g_none
  | succ F ih =>
    intro l2
    unfold M_monthOf_L7
    refine g_iload_n h 2 dX10_monthOf_7 rfl ?_
    refine g_bipush (v := 12) h dX10_monthOf_8 (by decide) ?_
    refine g_icmp_ge h 31 dX10_monthOf_10 (by decide) ?_ ?_
    · refine g_lv [(2, .int l2)] [2] rfl ?_
      exact hk31 _
    · refine g_iload_n h 1 dX10_monthOf_13 rfl ?_
      refine g_iload_n h 2 dX10_monthOf_14 rfl ?_
      refine g_iconst (v := 1) h dX10_monthOf_15 (by decide) ?_
      refine g_iadd h dX10_monthOf_16 ?_
      refine g_iconst (v := 1) h dX10_monthOf_17 (by decide) ?_
      refine g_callS0p h hmv hkw hKs [.int l1, .int (l2 + (1 : Int32)), .int (1 : Int32)] (c_X10_dayOf hmv hkw s0 l1 (l2 + (1 : Int32)) (1 : Int32)) yk_X10_dayOf tW_1101 ⟨(Nat.le_of_ble_eq_true rfl), (Nat.le_of_ble_eq_true rfl)⟩ rfl rfl rfl rfl (Nat.le_of_ble_eq_true rfl) dX10_monthOf_18 ⟨Nat.zero_le _, Nat.zero_le _⟩ (fun r_18 => ?_)
      refine g_iload_n h 0 dX10_monthOf_21 rfl ?_
      refine g_icmp_gt h 31 dX10_monthOf_22 (by decide) ?_ ?_
      · refine g_lv [(2, .int l2)] [2] rfl ?_
        exact hk31 _
      · refine g_iinc (v := l2 + 1) (i := 2) h [(2, .int (l2 + 1)), (0, .int a0), (1, .int l1)] dX10_monthOf_25 rfl rfl (by decide) rfl ?_
        refine g_goto h 7 dX10_monthOf_28 (by decide) ?_
        refine g_lv [(0, .int a0), (1, .int l1), (2, .int (l2 + 1))] [1, 2, 0] rfl ?_
        exact ih _
def M_monthOf_B31 {S : Type} (s0 : S) (l2 : Int32) : Option (Int32) :=
  some l2
set_option maxHeartbeats 4000000 in
set_option maxRecDepth 100000 in
theorem M_monthOf_B31_w {p : Program} {l : Launch} {e : Env} {s : State} {m : MethodId} {args : Array Value} {below : List Frame} {meth : Method} {c : Code} {A : Nat → Prop} {Ke : State → Prop} {S : Type} {Wd : S → State → Heap → Prop} (h : gOk p s m args meth c cX10_monthOf 3 RX10 tb) (hmv : gMv Wd) (hkw : gKw Ke) (hKs : Ke s) (s0 : S) (l2 : Int32) (hr : meth.sig.returnType = some .int)  : gS p l e rm_X10_monthOf s m args below meth c 3 A Wd (fun X => MQ below (gPi Wd A (X, s0)) args s rm_X10_monthOf.cells rm_X10_monthOf.slots A) 0 0 (M_monthOf_B31 s0 l2) s0 31 [(2, .int l2)] [] := by
  unfold M_monthOf_B31
  refine g_iload_n h 0 dX10_monthOf_31 rfl ?_
  exact g_iretp h hmv hr (Nat.le_refl _) (Nat.le_refl _) dX10_monthOf_32
def M_monthOf {S : Type} (s0 : S) (a0 : Int32) : Option (Int32) :=
  (M_yearOf s0 a0).bind (fun r_1 =>
  M_monthOf_L7 s0 a0 r_1 (fun v2_31 => M_monthOf_B31 s0 v2_31) gF (1 : Int32))
set_option maxHeartbeats 4000000 in
set_option maxRecDepth 100000 in
theorem c_X10_monthOf {l : Launch} {A : Nat → Prop} {Ke : State → Prop} {S : Type} {Wd : S → State → Heap → Prop} (hmv : gMv Wd) (hkw : gKw Ke) (s0 : S) (a0 : Int32) : gCp l yX10_monthOf cX10_monthOf 3 (some .int) rm_X10_monthOf Ke Wd A [.int a0] s0 (M_monthOf s0 a0) := by
  refine g_metp (by decide) (by simp [lg_sl, Value.category]) ?_
  intro p e s m below meth c h hr hKs
  refine g_lv [(0, .int a0)] [0] rfl ?_
  unfold M_monthOf
  refine g_iload_n h 0 dX10_monthOf_0 rfl ?_
  refine g_callS0p h hmv hkw hKs [.int a0] (c_X10_yearOf hmv hkw s0 a0) yk_X10_yearOf tW_1122 ⟨(Nat.le_of_ble_eq_true rfl), (Nat.le_of_ble_eq_true rfl)⟩ rfl rfl rfl rfl (Nat.le_of_ble_eq_true rfl) dX10_monthOf_1 ⟨Nat.zero_le _, Nat.zero_le _⟩ (fun r_1 => ?_)
  refine g_istore_n h [(1, .int r_1), (0, .int a0)] dX10_monthOf_4 (by decide) rfl ?_
  refine g_iconst (v := 1) h dX10_monthOf_5 (by decide) ?_
  refine g_istore_n h [(2, .int (1 : Int32)), (1, .int r_1), (0, .int a0)] dX10_monthOf_6 (by decide) rfl ?_
  refine g_lv [(0, .int a0), (1, .int r_1), (2, .int (1 : Int32))] [2, 1, 0] rfl ?_
  refine M_monthOf_L7_w h hmv hkw hKs _ _ _ (fun v2_31 => ?_) _ _
  · exact M_monthOf_B31_w h hmv hkw hKs _ _ hr
def rm_X10_day : Room := { frames := 3, cells := 0, slots := 0, locals := 65 }
theorem yk_X10_day : yOkV yX10_day cX10_day 4 (some .int) RX10 3 := ⟨tW_1094, tW_5, tW_1092, tW_1093, by decide, by decide, by decide +kernel⟩
def M_day_B55 (s0 : Ms)  : Option (Int32 × Ms) :=
  bi (M_fail s0 (1 : Int32)) (fun r_57 s_57 =>
  some (r_57, s_57))
set_option maxHeartbeats 4000000 in
set_option maxRecDepth 100000 in
theorem M_day_B55_w {p : Program} {l : Launch} {e : Env} {s : State} {m : MethodId} {args : Array Value} {below : List Frame} {meth : Method} {c : Code} {A : Nat → Prop} {Ke : State → Prop} {D : va_G} {cI cZ : ClassId} {E : State → Heap → Prop} {h0 : Nat} {ps : Nat → Nat} (h : gOk p s m args meth c cX10_day 4 RX10 tb) (hE : mEok E A) (hkw : gKw Ke) (hKs : Ke s) (s0 : Ms)  (hr : meth.sig.returnType = some .int)  : gS p l e rm_X10_day s m args below meth c 4 A (MW D cI cZ E A h0 ps) (fun X => MQ below (gPi (MW D cI cZ E A h0 ps) A X) args s rm_X10_day.cells rm_X10_day.slots A) 0 0 (M_day_B55 s0) s0 55 [(0, .ref h0)] [] := by
  unfold M_day_B55
  refine g_aload_n h 0 dX10_day_55 rfl ?_
  refine g_iconst (v := 1) h dX10_day_56 (by decide) ?_
  refine g_callV0i h (MW_mv hE) hkw hKs [.int (1 : Int32)] (c_X10_fail hE hkw s0 (1 : Int32)) yk_X10_fail tW_1111 ⟨(Nat.le_of_ble_eq_true rfl), (Nat.le_of_ble_eq_true rfl)⟩ MW_recv rfl rfl rfl rfl (Nat.le_of_ble_eq_true rfl) dX10_day_57 ⟨Nat.zero_le _, Nat.zero_le _⟩ (fun r_57 s_57 => ?_)
  exact g_iret h (MW_mv hE) hr (Nat.le_refl _) (Nat.le_refl _) dX10_day_60
def M_day (s0 : Ms) (a1 : Int32) (a2 : Int32) (a3 : Int32) : Option (Int32 × Ms) :=
  bnd (mSet s0 0 (0 : Int32)) (fun s_2 =>
  if a1 < (2000 : Int32) then
    M_day_B55 s_2
  else
    if (2600 : Int32) < a1 then
      M_day_B55 s_2
    else
      if a2 < (1 : Int32) then
        M_day_B55 s_2
      else
        if (12 : Int32) < a2 then
          M_day_B55 s_2
        else
          if a3 < (1 : Int32) then
            M_day_B55 s_2
          else
            (M_monthDays s_2 a1 a2).bind (fun r_38 =>
            if r_38 < a3 then
              M_day_B55 s_2
            else
              (M_dayOf s_2 a1 a2 a3).bind (fun r_47 =>
              if r_47 ≤ (200000 : Int32) then
                (M_dayOf s_2 a1 a2 a3).bind (fun r_64 =>
                some (r_64, s_2))
              else
                M_day_B55 s_2)))
set_option maxHeartbeats 4000000 in
set_option maxRecDepth 100000 in
theorem c_X10_day {l : Launch} {A : Nat → Prop} {Ke : State → Prop} {D : va_G} {cI cZ : ClassId} {E : State → Heap → Prop} {h0 : Nat} {ps : Nat → Nat} (hE : mEok E A) (hkw : gKw Ke) (s0 : Ms) (a1 : Int32) (a2 : Int32) (a3 : Int32) : gCi l yX10_day cX10_day 4 (some .int) rm_X10_day Ke (MW D cI cZ E A h0 ps) A [.ref h0, .int a1, .int a2, .int a3] s0 (M_day s0 a1 a2 a3) := by
  refine g_meti (by decide) (by simp [lg_sl, Value.category]) ?_
  intro p e s m below meth c h hr hKs
  refine g_lv [(0, .ref h0), (1, .int a1), (2, .int a2), (3, .int a3)] [0, 1, 2, 3] rfl ?_
  unfold M_day
  refine g_aload_n h 0 dX10_day_0 rfl ?_
  refine g_iconst (v := 0) h dX10_day_1 (by decide) ?_
  refine m_put h hE hinX10 0 (by decide) rfl rfl rfl tW_906 dX10_day_2 ?_
  refine g_bnd (fun s_2 => ?_)
  refine g_iload_n h 1 dX10_day_5 rfl ?_
  refine g_sipush (v := 2000) h dX10_day_6 (by decide) ?_
  refine g_icmp_lt h 55 dX10_day_9 (by decide) ?_ ?_
  · refine g_lv [(0, .ref h0)] [0] rfl ?_
    exact M_day_B55_w h hE hkw hKs _  hr
  · refine g_iload_n h 1 dX10_day_12 rfl ?_
    refine g_sipush (v := 2600) h dX10_day_13 (by decide) ?_
    refine g_icmp_gt h 55 dX10_day_16 (by decide) ?_ ?_
    · refine g_lv [(0, .ref h0)] [0] rfl ?_
      exact M_day_B55_w h hE hkw hKs _  hr
    · refine g_iload_n h 2 dX10_day_19 rfl ?_
      refine g_iconst (v := 1) h dX10_day_20 (by decide) ?_
      refine g_icmp_lt h 55 dX10_day_21 (by decide) ?_ ?_
      · refine g_lv [(0, .ref h0)] [0] rfl ?_
        exact M_day_B55_w h hE hkw hKs _  hr
      · refine g_iload_n h 2 dX10_day_24 rfl ?_
        refine g_bipush (v := 12) h dX10_day_25 (by decide) ?_
        refine g_icmp_gt h 55 dX10_day_27 (by decide) ?_ ?_
        · refine g_lv [(0, .ref h0)] [0] rfl ?_
          exact M_day_B55_w h hE hkw hKs _  hr
        · refine g_iload_n h 3 dX10_day_30 rfl ?_
          refine g_iconst (v := 1) h dX10_day_31 (by decide) ?_
          refine g_icmp_lt h 55 dX10_day_32 (by decide) ?_ ?_
          · refine g_lv [(0, .ref h0)] [0] rfl ?_
            exact M_day_B55_w h hE hkw hKs _  hr
          · refine g_iload_n h 3 dX10_day_35 rfl ?_
            refine g_iload_n h 1 dX10_day_36 rfl ?_
            refine g_iload_n h 2 dX10_day_37 rfl ?_
            refine g_callS0p h (MW_mv hE) hkw hKs [.int a1, .int a2] (c_X10_monthDays (MW_mv hE) hkw s_2 a1 a2) yk_X10_monthDays tW_1095 ⟨(Nat.le_of_ble_eq_true rfl), (Nat.le_of_ble_eq_true rfl)⟩ rfl rfl rfl rfl (Nat.le_of_ble_eq_true rfl) dX10_day_38 ⟨Nat.zero_le _, Nat.zero_le _⟩ (fun r_38 => ?_)
            refine g_icmp_gt h 55 dX10_day_41 (by decide) ?_ ?_
            · refine g_lv [(0, .ref h0)] [0] rfl ?_
              exact M_day_B55_w h hE hkw hKs _  hr
            · refine g_iload_n h 1 dX10_day_44 rfl ?_
              refine g_iload_n h 2 dX10_day_45 rfl ?_
              refine g_iload_n h 3 dX10_day_46 rfl ?_
              refine g_callS0p h (MW_mv hE) hkw hKs [.int a1, .int a2, .int a3] (c_X10_dayOf (MW_mv hE) hkw s_2 a1 a2 a3) yk_X10_dayOf tW_1101 ⟨(Nat.le_of_ble_eq_true rfl), (Nat.le_of_ble_eq_true rfl)⟩ rfl rfl rfl rfl (Nat.le_of_ble_eq_true rfl) dX10_day_47 ⟨Nat.zero_le _, Nat.zero_le _⟩ (fun r_47 => ?_)
              refine g_ldc (v := 200000) h tW_1110 dX10_day_50 ?_
              refine g_icmp_le h 61 dX10_day_52 (by decide) ?_ ?_
              · refine g_iload_n h 1 dX10_day_61 rfl ?_
                refine g_iload_n h 2 dX10_day_62 rfl ?_
                refine g_iload_n h 3 dX10_day_63 rfl ?_
                refine g_callS0p h (MW_mv hE) hkw hKs [.int a1, .int a2, .int a3] (c_X10_dayOf (MW_mv hE) hkw s_2 a1 a2 a3) yk_X10_dayOf tW_1101 ⟨(Nat.le_of_ble_eq_true rfl), (Nat.le_of_ble_eq_true rfl)⟩ rfl rfl rfl rfl (Nat.le_of_ble_eq_true rfl) dX10_day_64 ⟨Nat.zero_le _, Nat.zero_le _⟩ (fun r_64 => ?_)
                exact g_iret h (MW_mv hE) hr (Nat.le_refl _) (Nat.le_refl _) dX10_day_67
              · refine g_lv [(0, .ref h0)] [0] rfl ?_
                exact M_day_B55_w h hE hkw hKs _  hr
def rm_X10_date : Room := { frames := 4, cells := 0, slots := 0, locals := 87 }
theorem yk_X10_date : yOkV yX10_date cX10_date 5 (some .int) RX10 2 := ⟨tW_1118, tW_5, tW_1116, tW_1117, by decide, by decide, by decide +kernel⟩
def M_date_B21 (s0 : Ms)  : Option (Int32 × Ms) :=
  bi (M_fail s0 (1 : Int32)) (fun r_23 s_23 =>
  some (r_23, s_23))
set_option maxHeartbeats 4000000 in
set_option maxRecDepth 100000 in
theorem M_date_B21_w {p : Program} {l : Launch} {e : Env} {s : State} {m : MethodId} {args : Array Value} {below : List Frame} {meth : Method} {c : Code} {A : Nat → Prop} {Ke : State → Prop} {D : va_G} {cI cZ : ClassId} {E : State → Heap → Prop} {h0 : Nat} {ps : Nat → Nat} (h : gOk p s m args meth c cX10_date 5 RX10 tb) (hE : mEok E A) (hkw : gKw Ke) (hKs : Ke s) (s0 : Ms)  (hr : meth.sig.returnType = some .int)  : gS p l e rm_X10_date s m args below meth c 5 A (MW D cI cZ E A h0 ps) (fun X => MQ below (gPi (MW D cI cZ E A h0 ps) A X) args s rm_X10_date.cells rm_X10_date.slots A) 0 0 (M_date_B21 s0) s0 21 [(0, .ref h0)] [] := by
  unfold M_date_B21
  refine g_aload_n h 0 dX10_date_21 rfl ?_
  refine g_iconst (v := 1) h dX10_date_22 (by decide) ?_
  refine g_callV0i h (MW_mv hE) hkw hKs [.int (1 : Int32)] (c_X10_fail hE hkw s0 (1 : Int32)) yk_X10_fail tW_1111 ⟨(Nat.le_of_ble_eq_true rfl), (Nat.le_of_ble_eq_true rfl)⟩ MW_recv rfl rfl rfl rfl (Nat.le_of_ble_eq_true rfl) dX10_date_23 ⟨Nat.zero_le _, Nat.zero_le _⟩ (fun r_23 s_23 => ?_)
  exact g_iret h (MW_mv hE) hr (Nat.le_refl _) (Nat.le_refl _) dX10_date_26
def M_date_B67 (s0 : Ms) (t0 : Int32) : Option (Int32 × Ms) :=
  some (t0, s0)
set_option maxHeartbeats 4000000 in
set_option maxRecDepth 100000 in
theorem M_date_B67_w {p : Program} {l : Launch} {e : Env} {s : State} {m : MethodId} {args : Array Value} {below : List Frame} {meth : Method} {c : Code} {A : Nat → Prop} {Ke : State → Prop} {D : va_G} {cI cZ : ClassId} {E : State → Heap → Prop} {h0 : Nat} {ps : Nat → Nat} (h : gOk p s m args meth c cX10_date 5 RX10 tb) (hE : mEok E A) (hkw : gKw Ke) (hKs : Ke s) (s0 : Ms) (t0 : Int32) (hr : meth.sig.returnType = some .int)  : gS p l e rm_X10_date s m args below meth c 5 A (MW D cI cZ E A h0 ps) (fun X => MQ below (gPi (MW D cI cZ E A h0 ps) A X) args s rm_X10_date.cells rm_X10_date.slots A) 0 0 (M_date_B67 s0 t0) s0 67 [] [.int t0] := by
  unfold M_date_B67
  exact g_iret h (MW_mv hE) hr (Nat.le_refl _) (Nat.le_refl _) dX10_date_67
def M_date (s0 : Ms) (a1 : Int32) (a2 : Int32) : Option (Int32 × Ms) :=
  bnd (mSet s0 0 (0 : Int32)) (fun s_2 =>
  (M_isDay s_2 a1).bind (fun r_6 =>
  if r_6 = 0 then
    M_date_B21 s_2
  else
    if a2 < 0 then
      M_date_B21 s_2
    else
      if a2 ≤ (2 : Int32) then
        (M_yearOf s_2 a1).bind (fun r_28 =>
        (M_monthOf s_2 a1).bind (fun r_33 =>
        if a2 = 0 then
          M_date_B67 s_2 r_28
        else
          if a2 = (1 : Int32) then
            M_date_B67 s_2 r_33
          else
            (M_dayOf s_2 r_28 r_33 (1 : Int32)).bind (fun r_63 =>
            M_date_B67 s_2 (((1 : Int32) + a1) - r_63))))
      else
        M_date_B21 s_2))
set_option maxHeartbeats 4000000 in
set_option maxRecDepth 100000 in
theorem c_X10_date {l : Launch} {A : Nat → Prop} {Ke : State → Prop} {D : va_G} {cI cZ : ClassId} {E : State → Heap → Prop} {h0 : Nat} {ps : Nat → Nat} (hE : mEok E A) (hkw : gKw Ke) (s0 : Ms) (a1 : Int32) (a2 : Int32) : gCi l yX10_date cX10_date 5 (some .int) rm_X10_date Ke (MW D cI cZ E A h0 ps) A [.ref h0, .int a1, .int a2] s0 (M_date s0 a1 a2) := by
  refine g_meti (by decide) (by simp [lg_sl, Value.category]) ?_
  intro p e s m below meth c h hr hKs
  refine g_lv [(0, .ref h0), (1, .int a1), (2, .int a2)] [0, 1, 2] rfl ?_
  unfold M_date
  refine g_aload_n h 0 dX10_date_0 rfl ?_
  refine g_iconst (v := 0) h dX10_date_1 (by decide) ?_
  refine m_put h hE hinX10 0 (by decide) rfl rfl rfl tW_906 dX10_date_2 ?_
  refine g_bnd (fun s_2 => ?_)
  refine g_iload_n h 1 dX10_date_5 rfl ?_
  refine g_callS0p h (MW_mv hE) hkw hKs [.int a1] (c_X10_isDay (MW_mv hE) hkw s_2 a1) yk_X10_isDay tW_1119 ⟨(Nat.le_of_ble_eq_true rfl), (Nat.le_of_ble_eq_true rfl)⟩ rfl rfl rfl rfl (Nat.le_of_ble_eq_true rfl) dX10_date_6 ⟨Nat.zero_le _, Nat.zero_le _⟩ (fun r_6 => ?_)
  refine g_if_eq h 21 dX10_date_9 (by decide) ?_ ?_
  · refine g_lv [(0, .ref h0)] [0] rfl ?_
    exact M_date_B21_w h hE hkw hKs _  hr
  · refine g_iload_n h 2 dX10_date_12 rfl ?_
    refine g_if_lt h 21 dX10_date_13 (by decide) ?_ ?_
    · refine g_lv [(0, .ref h0)] [0] rfl ?_
      exact M_date_B21_w h hE hkw hKs _  hr
    · refine g_iload_n h 2 dX10_date_16 rfl ?_
      refine g_iconst (v := 2) h dX10_date_17 (by decide) ?_
      refine g_icmp_le h 27 dX10_date_18 (by decide) ?_ ?_
      · refine g_iload_n h 1 dX10_date_27 rfl ?_
        refine g_callS0p h (MW_mv hE) hkw hKs [.int a1] (c_X10_yearOf (MW_mv hE) hkw s_2 a1) yk_X10_yearOf tW_1122 ⟨(Nat.le_of_ble_eq_true rfl), (Nat.le_of_ble_eq_true rfl)⟩ rfl rfl rfl rfl (Nat.le_of_ble_eq_true rfl) dX10_date_28 ⟨Nat.zero_le _, Nat.zero_le _⟩ (fun r_28 => ?_)
        refine g_istore_n h [(3, .int r_28), (0, .ref h0), (1, .int a1), (2, .int a2)] dX10_date_31 (by decide) rfl ?_
        refine g_iload_n h 2 dX10_date_32 rfl ?_
        refine g_callS0p h (MW_mv hE) hkw hKs [.int a1] (c_X10_monthOf (MW_mv hE) hkw s_2 a1) yk_X10_monthOf tW_1125 ⟨(Nat.le_of_ble_eq_true rfl), (Nat.le_of_ble_eq_true rfl)⟩ rfl rfl rfl rfl (Nat.le_of_ble_eq_true rfl) dX10_date_33 ⟨Nat.zero_le _, Nat.zero_le _⟩ (fun r_33 => ?_)
        refine g_istore h [(4, .int r_33), (3, .int r_28), (0, .ref h0), (1, .int a1), (2, .int a2)] dX10_date_36 (by decide) rfl ?_
        refine g_iload_n h 4 dX10_date_38 rfl ?_
        refine g_if_ne h 46 dX10_date_39 (by decide) ?_ ?_
        · refine g_iload_n h 4 dX10_date_46 rfl ?_
          refine g_iconst (v := 1) h dX10_date_47 (by decide) ?_
          refine g_icmp_ne h 56 dX10_date_48 (by decide) ?_ ?_
          · refine g_iconst (v := 1) h dX10_date_56 (by decide) ?_
            refine g_iload_n h 3 dX10_date_57 rfl ?_
            refine g_iadd h dX10_date_58 ?_
            refine g_iload_n h 1 dX10_date_59 rfl ?_
            refine g_iload h 0 dX10_date_60 rfl ?_
            refine g_iconst (v := 1) h dX10_date_62 (by decide) ?_
            refine g_callS0p h (MW_mv hE) hkw hKs [.int r_28, .int r_33, .int (1 : Int32)] (c_X10_dayOf (MW_mv hE) hkw s_2 r_28 r_33 (1 : Int32)) yk_X10_dayOf tW_1101 ⟨(Nat.le_of_ble_eq_true rfl), (Nat.le_of_ble_eq_true rfl)⟩ rfl rfl rfl rfl (Nat.le_of_ble_eq_true rfl) dX10_date_63 ⟨Nat.zero_le _, Nat.zero_le _⟩ (fun r_63 => ?_)
            refine g_isub h dX10_date_66 ?_
            refine g_lv [] [] rfl ?_
            exact M_date_B67_w h hE hkw hKs _ _ hr
          · refine g_iload h 0 dX10_date_51 rfl ?_
            refine g_goto h 67 dX10_date_53 (by decide) ?_
            refine g_lv [] [] rfl ?_
            exact M_date_B67_w h hE hkw hKs _ _ hr
        · refine g_iload_n h 1 dX10_date_42 rfl ?_
          refine g_goto h 67 dX10_date_43 (by decide) ?_
          refine g_lv [] [] rfl ?_
          exact M_date_B67_w h hE hkw hKs _ _ hr
      · refine g_lv [(0, .ref h0)] [0] rfl ?_
        exact M_date_B21_w h hE hkw hKs _  hr
def rm_X10_behind : Room := { frames := 4, cells := 0, slots := 0, locals := 87 }
theorem yk_X10_behind : yOkS yX10_behind cX10_behind 9 (some .int) 2 := ⟨tW_1135, tW_5, tW_1134, by decide, by decide, by decide +kernel⟩
def M_behind_B96 {S : Type} (s0 : S) (t0 : Int32) : Option (Int32) :=
  some t0
set_option maxHeartbeats 4000000 in
set_option maxRecDepth 100000 in
theorem M_behind_B96_w {p : Program} {l : Launch} {e : Env} {s : State} {m : MethodId} {args : Array Value} {below : List Frame} {meth : Method} {c : Code} {A : Nat → Prop} {Ke : State → Prop} {S : Type} {Wd : S → State → Heap → Prop} (h : gOk p s m args meth c cX10_behind 9 RX10 tb) (hmv : gMv Wd) (hkw : gKw Ke) (hKs : Ke s) (s0 : S) (t0 : Int32) (hr : meth.sig.returnType = some .int)  : gS p l e rm_X10_behind s m args below meth c 9 A Wd (fun X => MQ below (gPi Wd A (X, s0)) args s rm_X10_behind.cells rm_X10_behind.slots A) 0 0 (M_behind_B96 s0 t0) s0 96 [] [.int t0] := by
  unfold M_behind_B96
  exact g_iretp h hmv hr (Nat.le_refl _) (Nat.le_refl _) dX10_behind_96
def M_behind {S : Type} (s0 : S) (a0 : Int32) (a1 : Int32) : Option (Int32) :=
  (M_yearOf s0 a0).bind (fun r_1 =>
  (M_monthOf s0 a0).bind (fun r_6 =>
  (M_dayOf s0 r_1 r_6 (1 : Int32)).bind (fun r_16 =>
  bnd (((1 : Int32) + a0) - r_16) (fun v4_20 =>
  bnd (((((12 : Int32) * r_1) + r_6) - (1 : Int32)) + a1) (fun v5_32 =>
  bnd (v5_32 / (12 : Int32)) (fun v6_39 =>
  bnd ((1 : Int32) + (v5_32 - v5_32 / (12 : Int32) * (12 : Int32))) (fun v7_48 =>
  if v6_39 ≤ (2600 : Int32) then
    (M_monthDays s0 v6_39 v7_48).bind (fun r_71 =>
    (M_dayOf s0 v6_39 v7_48 ((if r_71 < v4_20 then r_71 else v4_20))).bind (fun r_77 =>
    if r_77 ≤ (200000 : Int32) then
      M_behind_B96 s0 r_77
    else
      M_behind_B96 s0 (999999 : Int32)))
  else
    some (999999 : Int32))))))))
set_option maxHeartbeats 4000000 in
set_option maxRecDepth 100000 in
theorem c_X10_behind {l : Launch} {A : Nat → Prop} {Ke : State → Prop} {S : Type} {Wd : S → State → Heap → Prop} (hmv : gMv Wd) (hkw : gKw Ke) (s0 : S) (a0 : Int32) (a1 : Int32) : gCp l yX10_behind cX10_behind 9 (some .int) rm_X10_behind Ke Wd A [.int a0, .int a1] s0 (M_behind s0 a0 a1) := by
  refine g_metp (by decide) (by simp [lg_sl, Value.category]) ?_
  intro p e s m below meth c h hr hKs
  refine g_lv [(0, .int a0), (1, .int a1)] [0, 1] rfl ?_
  unfold M_behind
  refine g_iload_n h 0 dX10_behind_0 rfl ?_
  refine g_callS0p h hmv hkw hKs [.int a0] (c_X10_yearOf hmv hkw s0 a0) yk_X10_yearOf tW_1122 ⟨(Nat.le_of_ble_eq_true rfl), (Nat.le_of_ble_eq_true rfl)⟩ rfl rfl rfl rfl (Nat.le_of_ble_eq_true rfl) dX10_behind_1 ⟨Nat.zero_le _, Nat.zero_le _⟩ (fun r_1 => ?_)
  refine g_istore_n h [(2, .int r_1), (0, .int a0), (1, .int a1)] dX10_behind_4 (by decide) rfl ?_
  refine g_iload_n h 1 dX10_behind_5 rfl ?_
  refine g_callS0p h hmv hkw hKs [.int a0] (c_X10_monthOf hmv hkw s0 a0) yk_X10_monthOf tW_1125 ⟨(Nat.le_of_ble_eq_true rfl), (Nat.le_of_ble_eq_true rfl)⟩ rfl rfl rfl rfl (Nat.le_of_ble_eq_true rfl) dX10_behind_6 ⟨Nat.zero_le _, Nat.zero_le _⟩ (fun r_6 => ?_)
  refine g_istore_n h [(3, .int r_6), (2, .int r_1), (0, .int a0), (1, .int a1)] dX10_behind_9 (by decide) rfl ?_
  refine g_iconst (v := 1) h dX10_behind_10 (by decide) ?_
  refine g_iload_n h 2 dX10_behind_11 rfl ?_
  refine g_iadd h dX10_behind_12 ?_
  refine g_iload_n h 1 dX10_behind_13 rfl ?_
  refine g_iload_n h 0 dX10_behind_14 rfl ?_
  refine g_iconst (v := 1) h dX10_behind_15 (by decide) ?_
  refine g_callS0p h hmv hkw hKs [.int r_1, .int r_6, .int (1 : Int32)] (c_X10_dayOf hmv hkw s0 r_1 r_6 (1 : Int32)) yk_X10_dayOf tW_1101 ⟨(Nat.le_of_ble_eq_true rfl), (Nat.le_of_ble_eq_true rfl)⟩ rfl rfl rfl rfl (Nat.le_of_ble_eq_true rfl) dX10_behind_16 ⟨Nat.zero_le _, Nat.zero_le _⟩ (fun r_16 => ?_)
  refine g_isub h dX10_behind_19 ?_
  refine g_bndi (fun v4_20 => ?_)
  refine g_istore h [(4, .int v4_20), (3, .int r_6), (2, .int r_1), (0, .int a0), (1, .int a1)] dX10_behind_20 (by decide) rfl ?_
  refine g_bipush (v := 12) h dX10_behind_22 (by decide) ?_
  refine g_iload_n h 2 dX10_behind_24 rfl ?_
  refine g_imul h dX10_behind_25 ?_
  refine g_iload_n h 1 dX10_behind_26 rfl ?_
  refine g_iadd h dX10_behind_27 ?_
  refine g_iconst (v := 1) h dX10_behind_28 (by decide) ?_
  refine g_isub h dX10_behind_29 ?_
  refine g_iload_n h 4 dX10_behind_30 rfl ?_
  refine g_iadd h dX10_behind_31 ?_
  refine g_bndi (fun v5_32 => ?_)
  refine g_istore h [(5, .int v5_32), (4, .int v4_20), (3, .int r_6), (2, .int r_1), (0, .int a0), (1, .int a1)] dX10_behind_32 (by decide) rfl ?_
  refine g_iload h 0 dX10_behind_34 rfl ?_
  refine g_bipush (v := 12) h dX10_behind_36 (by decide) ?_
  refine g_idiv h dX10_behind_38 (by decide) ?_
  refine g_bndi (fun v6_39 => ?_)
  refine g_istore h [(6, .int v6_39), (5, .int v5_32), (4, .int v4_20), (3, .int r_6), (2, .int r_1), (0, .int a0), (1, .int a1)] dX10_behind_39 (by decide) rfl ?_
  refine g_iconst (v := 1) h dX10_behind_41 (by decide) ?_
  refine g_iload h 1 dX10_behind_42 rfl ?_
  refine g_bipush (v := 12) h dX10_behind_44 (by decide) ?_
  refine g_irem h dX10_behind_46 (by decide) ?_
  refine g_iadd h dX10_behind_47 ?_
  refine g_bndi (fun v7_48 => ?_)
  refine g_istore h [(7, .int v7_48), (6, .int v6_39), (5, .int v5_32), (4, .int v4_20), (3, .int r_6), (2, .int r_1), (0, .int a0), (1, .int a1)] dX10_behind_48 (by decide) rfl ?_
  refine g_iload h 1 dX10_behind_50 rfl ?_
  refine g_sipush (v := 2600) h dX10_behind_52 (by decide) ?_
  refine g_icmp_le h 61 dX10_behind_55 (by decide) ?_ ?_
  · refine g_iload h 1 dX10_behind_61 rfl ?_
    refine g_iload h 0 dX10_behind_63 rfl ?_
    refine g_iload h 3 dX10_behind_65 rfl ?_
    refine g_iload h 1 dX10_behind_67 rfl ?_
    refine g_iload h 0 dX10_behind_69 rfl ?_
    refine g_callS0p h hmv hkw hKs [.int v6_39, .int v7_48] (c_X10_monthDays hmv hkw s0 v6_39 v7_48) yk_X10_monthDays tW_1095 ⟨(Nat.le_of_ble_eq_true rfl), (Nat.le_of_ble_eq_true rfl)⟩ rfl rfl rfl rfl (Nat.le_of_ble_eq_true rfl) dX10_behind_71 ⟨Nat.zero_le _, Nat.zero_le _⟩ (fun r_71 => ?_)
    refine g_mmin h tW_1137 tW_353 tW_11 tW_354 (Nat.le_of_ble_eq_true rfl) (Nat.le_of_ble_eq_true rfl) (Nat.zero_le _) (Nat.zero_le _) dX10_behind_74 ?_
    refine g_callS0p h hmv hkw hKs [.int v6_39, .int v7_48, .int ((if r_71 < v4_20 then r_71 else v4_20))] (c_X10_dayOf hmv hkw s0 v6_39 v7_48 ((if r_71 < v4_20 then r_71 else v4_20))) yk_X10_dayOf tW_1101 ⟨(Nat.le_of_ble_eq_true rfl), (Nat.le_of_ble_eq_true rfl)⟩ rfl rfl rfl rfl (Nat.le_of_ble_eq_true rfl) dX10_behind_77 ⟨Nat.zero_le _, Nat.zero_le _⟩ (fun r_77 => ?_)
    refine g_istore h [(8, .int r_77), (7, .int v7_48), (6, .int v6_39), (5, .int v5_32), (4, .int v4_20), (3, .int r_6), (2, .int r_1), (0, .int a0), (1, .int a1)] dX10_behind_80 (by decide) rfl ?_
    refine g_iload h 0 dX10_behind_82 rfl ?_
    refine g_ldc (v := 200000) h tW_1110 dX10_behind_84 ?_
    refine g_icmp_le h 94 dX10_behind_86 (by decide) ?_ ?_
    · refine g_iload h 0 dX10_behind_94 rfl ?_
      refine g_lv [] [] rfl ?_
      exact M_behind_B96_w h hmv hkw hKs _ _ hr
    · refine g_ldc (v := 999999) h tW_1136 dX10_behind_89 ?_
      refine g_goto h 96 dX10_behind_91 (by decide) ?_
      refine g_lv [] [] rfl ?_
      exact M_behind_B96_w h hmv hkw hKs _ _ hr
  · refine g_ldc (v := 999999) h tW_1136 dX10_behind_58 ?_
    exact g_iretp h hmv hr (Nat.le_refl _) (Nat.le_refl _) dX10_behind_60
def rm_X10_later : Room := { frames := 5, cells := 0, slots := 0, locals := 115 }
theorem yk_X10_later : yOkV yX10_later cX10_later 3 (some .int) RX10 2 := ⟨tW_1131, tW_5, tW_1129, tW_1130, by decide, by decide, by decide +kernel⟩
def M_later_B22 (s0 : Ms)  : Option (Int32 × Ms) :=
  bi (M_fail s0 (1 : Int32)) (fun r_24 s_24 =>
  some (r_24, s_24))
set_option maxHeartbeats 4000000 in
set_option maxRecDepth 100000 in
theorem M_later_B22_w {p : Program} {l : Launch} {e : Env} {s : State} {m : MethodId} {args : Array Value} {below : List Frame} {meth : Method} {c : Code} {A : Nat → Prop} {Ke : State → Prop} {D : va_G} {cI cZ : ClassId} {E : State → Heap → Prop} {h0 : Nat} {ps : Nat → Nat} (h : gOk p s m args meth c cX10_later 3 RX10 tb) (hE : mEok E A) (hkw : gKw Ke) (hKs : Ke s) (s0 : Ms)  (hr : meth.sig.returnType = some .int)  : gS p l e rm_X10_later s m args below meth c 3 A (MW D cI cZ E A h0 ps) (fun X => MQ below (gPi (MW D cI cZ E A h0 ps) A X) args s rm_X10_later.cells rm_X10_later.slots A) 0 0 (M_later_B22 s0) s0 22 [(0, .ref h0)] [] := by
  unfold M_later_B22
  refine g_aload_n h 0 dX10_later_22 rfl ?_
  refine g_iconst (v := 1) h dX10_later_23 (by decide) ?_
  refine g_callV0i h (MW_mv hE) hkw hKs [.int (1 : Int32)] (c_X10_fail hE hkw s0 (1 : Int32)) yk_X10_fail tW_1111 ⟨(Nat.le_of_ble_eq_true rfl), (Nat.le_of_ble_eq_true rfl)⟩ MW_recv rfl rfl rfl rfl (Nat.le_of_ble_eq_true rfl) dX10_later_24 ⟨Nat.zero_le _, Nat.zero_le _⟩ (fun r_24 s_24 => ?_)
  exact g_iret h (MW_mv hE) hr (Nat.le_refl _) (Nat.le_refl _) dX10_later_27
def M_later (s0 : Ms) (a1 : Int32) (a2 : Int32) : Option (Int32 × Ms) :=
  bnd (mSet s0 0 (0 : Int32)) (fun s_2 =>
  (M_isDay s_2 a1).bind (fun r_6 =>
  if r_6 = 0 then
    M_later_B22 s_2
  else
    if a2 < 0 then
      M_later_B22 s_2
    else
      if a2 ≤ (119988 : Int32) then
        (M_behind s_2 a1 a2).bind (fun r_30 =>
        some (r_30, s_2))
      else
        M_later_B22 s_2))
set_option maxHeartbeats 4000000 in
set_option maxRecDepth 100000 in
theorem c_X10_later {l : Launch} {A : Nat → Prop} {Ke : State → Prop} {D : va_G} {cI cZ : ClassId} {E : State → Heap → Prop} {h0 : Nat} {ps : Nat → Nat} (hE : mEok E A) (hkw : gKw Ke) (s0 : Ms) (a1 : Int32) (a2 : Int32) : gCi l yX10_later cX10_later 3 (some .int) rm_X10_later Ke (MW D cI cZ E A h0 ps) A [.ref h0, .int a1, .int a2] s0 (M_later s0 a1 a2) := by
  refine g_meti (by decide) (by simp [lg_sl, Value.category]) ?_
  intro p e s m below meth c h hr hKs
  refine g_lv [(0, .ref h0), (1, .int a1), (2, .int a2)] [0, 1, 2] rfl ?_
  unfold M_later
  refine g_aload_n h 0 dX10_later_0 rfl ?_
  refine g_iconst (v := 0) h dX10_later_1 (by decide) ?_
  refine m_put h hE hinX10 0 (by decide) rfl rfl rfl tW_906 dX10_later_2 ?_
  refine g_bnd (fun s_2 => ?_)
  refine g_iload_n h 1 dX10_later_5 rfl ?_
  refine g_callS0p h (MW_mv hE) hkw hKs [.int a1] (c_X10_isDay (MW_mv hE) hkw s_2 a1) yk_X10_isDay tW_1119 ⟨(Nat.le_of_ble_eq_true rfl), (Nat.le_of_ble_eq_true rfl)⟩ rfl rfl rfl rfl (Nat.le_of_ble_eq_true rfl) dX10_later_6 ⟨Nat.zero_le _, Nat.zero_le _⟩ (fun r_6 => ?_)
  refine g_if_eq h 22 dX10_later_9 (by decide) ?_ ?_
  · refine g_lv [(0, .ref h0)] [0] rfl ?_
    exact M_later_B22_w h hE hkw hKs _  hr
  · refine g_iload_n h 2 dX10_later_12 rfl ?_
    refine g_if_lt h 22 dX10_later_13 (by decide) ?_ ?_
    · refine g_lv [(0, .ref h0)] [0] rfl ?_
      exact M_later_B22_w h hE hkw hKs _  hr
    · refine g_iload_n h 2 dX10_later_16 rfl ?_
      refine g_ldc (v := 119988) h tW_1132 dX10_later_17 ?_
      refine g_icmp_le h 28 dX10_later_19 (by decide) ?_ ?_
      · refine g_iload_n h 1 dX10_later_28 rfl ?_
        refine g_iload_n h 2 dX10_later_29 rfl ?_
        refine g_callS0p h (MW_mv hE) hkw hKs [.int a1, .int a2] (c_X10_behind (MW_mv hE) hkw s_2 a1 a2) yk_X10_behind tW_1133 ⟨(Nat.le_of_ble_eq_true rfl), (Nat.le_of_ble_eq_true rfl)⟩ rfl rfl rfl rfl (Nat.le_of_ble_eq_true rfl) dX10_later_30 ⟨Nat.zero_le _, Nat.zero_le _⟩ (fun r_30 => ?_)
        exact g_iret h (MW_mv hE) hr (Nat.le_refl _) (Nat.le_refl _) dX10_later_33
      · refine g_lv [(0, .ref h0)] [0] rfl ?_
        exact M_later_B22_w h hE hkw hKs _  hr
