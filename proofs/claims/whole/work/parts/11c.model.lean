def rm_X10_isWord : Room := { frames := 4, cells := 0, slots := 0, locals := 85 }
theorem yk_X10_isWord : yOkV yX10_isWord cX10_isWord 4 (some .boolean) RX10 1 := ⟨tW_1164, tW_5, tW_1163, tP_39, by decide, by decide, by decide +kernel⟩
def M_isWord_B75 {Rt : Type} (w1 : List Int32) (s0 : Ms) (rec : Int32 → Int32 → Option Rt) (k82 : Int32 → Option Rt) (t0 : Int32) (l3 : Int32) : Option (Rt) :=
  rec t0 (l3 + 1)
set_option maxHeartbeats 4000000 in
set_option maxRecDepth 100000 in
theorem M_isWord_B75_w {p : Program} {l : Launch} {e : Env} {s : State} {m : MethodId} {args : Array Value} {below : List Frame} {meth : Method} {c : Code} {A : Nat → Prop} {Ke : State → Prop} {D : va_G} {cI cZ : ClassId} {E : State → Heap → Prop} {h0 : Nat} {ps : Nat → Nat} {adS adV : Nat → Nat} {q1 v1 : Nat} {w1 : List Int32} (h : gOk p s m args meth c cX10_isWord 4 RX10 tb) (hE : mEok E A) (hkw : gKw Ke) (hKs : Ke s) (hSt : sSt Ke A (MW D cI cZ E A h0 ps) adS adV) (hs1 : sIs A (MW D cI cZ E A h0 ps) q1 v1 w1) (hl1 : w1.length < 2 ^ 31) {Rt : Type} {QX : Rt → State → Prop} {rec : Int32 → Int32 → Option Rt} {k82 : Int32 → Option Rt} (s0 : Ms) (t0 : Int32) (l3 : Int32) (hrec : ∀ (l2 : Int32) (l3 : Int32), gS p l e rm_X10_isWord s m args below meth c 4 A (MW D cI cZ E A h0 ps) QX 0 0 (rec l2 l3) s0 39 [(0, .ref h0), (1, .ref q1), (2, .int l2), (3, .int l3)] []) (hk82 : ∀ (l2 : Int32), gS p l e rm_X10_isWord s m args below meth c 4 A (MW D cI cZ E A h0 ps) QX 0 0 (k82 l2) s0 82 [(2, .int l2)] []) : gS p l e rm_X10_isWord s m args below meth c 4 A (MW D cI cZ E A h0 ps) QX 0 0 (M_isWord_B75 w1 s0 rec k82 t0 l3) s0 75 [(0, .ref h0), (1, .ref q1), (3, .int l3)] [.int t0] := by
  unfold M_isWord_B75
  refine g_istore_n h [(2, .int t0), (0, .ref h0), (1, .ref q1), (3, .int l3)] dX10_isWord_75 (by decide) rfl ?_
  refine g_iinc (v := l3 + 1) (i := 3) h [(3, .int (l3 + 1)), (2, .int t0), (0, .ref h0), (1, .ref q1)] dX10_isWord_76 rfl rfl (by decide) rfl ?_
  refine g_goto h 39 dX10_isWord_79 (by decide) ?_
  refine g_lv [(0, .ref h0), (1, .ref q1), (2, .int t0), (3, .int (l3 + 1))] [2, 3, 1, 0] rfl ?_
  exact hrec _ _
def M_isWord_L39 {Rt : Type} (w1 : List Int32) (s0 : Ms) (k82 : Int32 → Option Rt) : Nat → Int32 → Int32 → Option Rt
  | 0, _, _ => none
  | F + 1, l2, l3 =>
  if l2 = 0 then
      k82 l2
    else
      (some (nI w1.length)).bind (fun r_45 =>
      if r_45 ≤ l3 then
        k82 l2
      else
        if okI l3 w1.length = true then
        (some (w1.getD l3.toNatClampNeg 0 &&& 255)).bind (fun r_53 =>
        if okI ((s0.1 43) + l3) 1000 = true then
        if r_53 = s0.2 38 ((s0.1 43) + l3).toNatClampNeg then
          M_isWord_B75 w1 s0 (M_isWord_L39 w1 s0 k82 F) k82 (1 : Int32) l3
        else
          M_isWord_B75 w1 s0 (M_isWord_L39 w1 s0 k82 F) k82 (0 : Int32) l3
        else none)
        else none)
set_option maxHeartbeats 4000000 in
set_option maxRecDepth 100000 in
theorem M_isWord_L39_w {p : Program} {l : Launch} {e : Env} {s : State} {m : MethodId} {args : Array Value} {below : List Frame} {meth : Method} {c : Code} {A : Nat → Prop} {Ke : State → Prop} {D : va_G} {cI cZ : ClassId} {E : State → Heap → Prop} {h0 : Nat} {ps : Nat → Nat} {adS adV : Nat → Nat} {q1 v1 : Nat} {w1 : List Int32} (h : gOk p s m args meth c cX10_isWord 4 RX10 tb) (hE : mEok E A) (hkw : gKw Ke) (hKs : Ke s) (hSt : sSt Ke A (MW D cI cZ E A h0 ps) adS adV) (hs1 : sIs A (MW D cI cZ E A h0 ps) q1 v1 w1) (hl1 : w1.length < 2 ^ 31) {Rt : Type} {QX : Rt → State → Prop} (s0 : Ms)  {k82 : Int32 → Option Rt} (hk82 : ∀ (l2 : Int32), gS p l e rm_X10_isWord s m args below meth c 4 A (MW D cI cZ E A h0 ps) QX 0 0 (k82 l2) s0 82 [(2, .int l2)] []) : ∀ (F : Nat) (l2 : Int32) (l3 : Int32), gS p l e rm_X10_isWord s m args below meth c 4 A (MW D cI cZ E A h0 ps) QX 0 0 (M_isWord_L39 w1 s0 k82 F l2 l3) s0 39 [(0, .ref h0), (1, .ref q1), (2, .int l2), (3, .int l3)] [] := by
  intro F
  induction F with
  | zero =>
    intro l2 l3
    unfold M_isWord_L39
    exact g_none
  | succ F ih =>
    intro l2 l3
    unfold M_isWord_L39
    refine g_iload_n h 2 dX10_isWord_39 rfl ?_
    refine g_if_eq h 82 dX10_isWord_40 (by decide) ?_ ?_
    · refine g_lv [(2, .int l2)] [2] rfl ?_
      exact hk82 _
    · refine g_iload_n h 3 dX10_isWord_43 rfl ?_
      refine g_aload_n h 1 dX10_isWord_44 rfl ?_
      refine g_callV0p h (MW_mv hE) hkw hKs [] (c_J0_length_8abf5 (MW_mv hE) hkw hSt.1 s0 q1 v1 w1 hs1) yk_J0_length_8abf5 tW_1165 ⟨(Nat.le_of_ble_eq_true rfl), (Nat.le_of_ble_eq_true rfl)⟩ (fun H hw => by obtain ⟨cell, q1, q2, q3, -⟩ := (hs1 _ _ _ hw).1; exact ⟨cell, q1, q2, q3⟩) rfl rfl rfl rfl (Nat.le_of_ble_eq_true rfl) dX10_isWord_45 ⟨Nat.zero_le _, Nat.zero_le _⟩ (fun r_45 => ?_)
      refine g_icmp_ge h 82 dX10_isWord_48 (by decide) ?_ ?_
      · refine g_lv [(2, .int l2)] [2] rfl ?_
        exact hk82 _
      · refine g_aload_n h 1 dX10_isWord_51 rfl ?_
        refine g_iload_n h 3 dX10_isWord_52 rfl ?_
        refine g_guard (fun hz53 => ?_)
        refine g_callV0p h (MW_mv hE) hkw hKs [.int l3] (c_J0_charAt_5068e (MW_mv hE) hkw hSt.1 s0 q1 v1 w1 hs1 hl1 l3 hz53) yk_J0_charAt_5068e tW_1166 ⟨(Nat.le_of_ble_eq_true rfl), (Nat.le_of_ble_eq_true rfl)⟩ (fun H hw => by obtain ⟨cell, q1, q2, q3, -⟩ := (hs1 _ _ _ hw).1; exact ⟨cell, q1, q2, q3⟩) rfl rfl rfl rfl (Nat.le_of_ble_eq_true rfl) dX10_isWord_53 ⟨Nat.zero_le _, Nat.zero_le _⟩ (fun r_53 => ?_)
        refine g_aload_n h 0 dX10_isWord_56 rfl ?_
        refine m_geta h hinX10 38 (by decide) rfl tW_944 dX10_isWord_57 ?_
        refine g_aload_n h 0 dX10_isWord_60 rfl ?_
        refine m_get h hinX10 43 (by decide) rfl tW_949 dX10_isWord_61 ?_
        refine g_iload_n h 3 dX10_isWord_64 rfl ?_
        refine g_iadd h dX10_isWord_65 ?_
        refine m_iald h 38 rfl rfl 1000 rfl dX10_isWord_66 ?_
        refine g_icmp_ne h 74 dX10_isWord_67 (by decide) ?_ ?_
        · refine g_iconst (v := 0) h dX10_isWord_74 (by decide) ?_
          refine g_lv [(0, .ref h0), (1, .ref q1), (3, .int l3)] [0, 1, 3] rfl ?_
          exact M_isWord_B75_w h hE hkw hKs hSt hs1 hl1 _ _ _ (ih) hk82
        · refine g_iconst (v := 1) h dX10_isWord_70 (by decide) ?_
          refine g_goto h 75 dX10_isWord_71 (by decide) ?_
          refine g_lv [(0, .ref h0), (1, .ref q1), (3, .int l3)] [0, 1, 3] rfl ?_
          exact M_isWord_B75_w h hE hkw hKs hSt hs1 hl1 _ _ _ (ih) hk82
def M_isWord_B82 (w1 : List Int32) (s0 : Ms) (l2 : Int32) : Option (Int32) :=
  if okZ l2 = true then some l2 else none
set_option maxHeartbeats 4000000 in
set_option maxRecDepth 100000 in
theorem M_isWord_B82_w {p : Program} {l : Launch} {e : Env} {s : State} {m : MethodId} {args : Array Value} {below : List Frame} {meth : Method} {c : Code} {A : Nat → Prop} {Ke : State → Prop} {D : va_G} {cI cZ : ClassId} {E : State → Heap → Prop} {h0 : Nat} {ps : Nat → Nat} {adS adV : Nat → Nat} {q1 v1 : Nat} {w1 : List Int32} (h : gOk p s m args meth c cX10_isWord 4 RX10 tb) (hE : mEok E A) (hkw : gKw Ke) (hKs : Ke s) (hSt : sSt Ke A (MW D cI cZ E A h0 ps) adS adV) (hs1 : sIs A (MW D cI cZ E A h0 ps) q1 v1 w1) (hl1 : w1.length < 2 ^ 31) (s0 : Ms) (l2 : Int32) (hr : meth.sig.returnType = some .boolean)  : gS p l e rm_X10_isWord s m args below meth c 4 A (MW D cI cZ E A h0 ps) (fun X => MQ below (gPi (MW D cI cZ E A h0 ps) A (X, s0)) args s rm_X10_isWord.cells rm_X10_isWord.slots A) 0 0 (M_isWord_B82 w1 s0 l2) s0 82 [(2, .int l2)] [] := by
  unfold M_isWord_B82
  refine g_iload_n h 0 dX10_isWord_82 rfl ?_
  refine g_guard (fun hz => ?_)
  exact g_zretp h (MW_mv hE) hr (Nat.le_refl _) (Nat.le_refl _) hz dX10_isWord_83
def M_isWord_B36 (w1 : List Int32) (s0 : Ms) (t0 : Int32) : Option (Int32) :=
  M_isWord_L39 w1 s0 (fun v2_82 => M_isWord_B82 w1 s0 v2_82) gF t0 (0 : Int32)
set_option maxHeartbeats 4000000 in
set_option maxRecDepth 100000 in
theorem M_isWord_B36_w {p : Program} {l : Launch} {e : Env} {s : State} {m : MethodId} {args : Array Value} {below : List Frame} {meth : Method} {c : Code} {A : Nat → Prop} {Ke : State → Prop} {D : va_G} {cI cZ : ClassId} {E : State → Heap → Prop} {h0 : Nat} {ps : Nat → Nat} {adS adV : Nat → Nat} {q1 v1 : Nat} {w1 : List Int32} (h : gOk p s m args meth c cX10_isWord 4 RX10 tb) (hE : mEok E A) (hkw : gKw Ke) (hKs : Ke s) (hSt : sSt Ke A (MW D cI cZ E A h0 ps) adS adV) (hs1 : sIs A (MW D cI cZ E A h0 ps) q1 v1 w1) (hl1 : w1.length < 2 ^ 31) (s0 : Ms) (t0 : Int32) (hr : meth.sig.returnType = some .boolean)  : gS p l e rm_X10_isWord s m args below meth c 4 A (MW D cI cZ E A h0 ps) (fun X => MQ below (gPi (MW D cI cZ E A h0 ps) A (X, s0)) args s rm_X10_isWord.cells rm_X10_isWord.slots A) 0 0 (M_isWord_B36 w1 s0 t0) s0 36 [(0, .ref h0), (1, .ref q1)] [.int t0] := by
  unfold M_isWord_B36
  refine g_istore_n h [(2, .int t0), (0, .ref h0), (1, .ref q1)] dX10_isWord_36 (by decide) rfl ?_
  refine g_iconst (v := 0) h dX10_isWord_37 (by decide) ?_
  refine g_istore_n h [(3, .int (0 : Int32)), (2, .int t0), (0, .ref h0), (1, .ref q1)] dX10_isWord_38 (by decide) rfl ?_
  refine g_lv [(0, .ref h0), (1, .ref q1), (2, .int t0), (3, .int (0 : Int32))] [2, 3, 1, 0] rfl ?_
  refine M_isWord_L39_w h hE hkw hKs hSt hs1 hl1 _  (fun v2_82 => ?_) _ _ _
  · exact M_isWord_B82_w h hE hkw hKs hSt hs1 hl1 _ _ hr
def M_isWord_B35 (w1 : List Int32) (s0 : Ms)  : Option (Int32) :=
  M_isWord_B36 w1 s0 (0 : Int32)
set_option maxHeartbeats 4000000 in
set_option maxRecDepth 100000 in
theorem M_isWord_B35_w {p : Program} {l : Launch} {e : Env} {s : State} {m : MethodId} {args : Array Value} {below : List Frame} {meth : Method} {c : Code} {A : Nat → Prop} {Ke : State → Prop} {D : va_G} {cI cZ : ClassId} {E : State → Heap → Prop} {h0 : Nat} {ps : Nat → Nat} {adS adV : Nat → Nat} {q1 v1 : Nat} {w1 : List Int32} (h : gOk p s m args meth c cX10_isWord 4 RX10 tb) (hE : mEok E A) (hkw : gKw Ke) (hKs : Ke s) (hSt : sSt Ke A (MW D cI cZ E A h0 ps) adS adV) (hs1 : sIs A (MW D cI cZ E A h0 ps) q1 v1 w1) (hl1 : w1.length < 2 ^ 31) (s0 : Ms)  (hr : meth.sig.returnType = some .boolean)  : gS p l e rm_X10_isWord s m args below meth c 4 A (MW D cI cZ E A h0 ps) (fun X => MQ below (gPi (MW D cI cZ E A h0 ps) A (X, s0)) args s rm_X10_isWord.cells rm_X10_isWord.slots A) 0 0 (M_isWord_B35 w1 s0) s0 35 [(0, .ref h0), (1, .ref q1)] [] := by
  unfold M_isWord_B35
  refine g_iconst (v := 0) h dX10_isWord_35 (by decide) ?_
  exact M_isWord_B36_w h hE hkw hKs hSt hs1 hl1 _ _ hr
def M_isWord (s0 : Ms) (w1 : List Int32) : Option (Int32) :=
  if s0.1 45 = 0 then
    if s0.1 41 = (1 : Int32) then
      (some (nI w1.length)).bind (fun r_16 =>
      if r_16 = (s0.1 44) - (s0.1 43) then
        M_isWord_B36 w1 s0 (1 : Int32)
      else
        M_isWord_B35 w1 s0)
    else
      M_isWord_B35 w1 s0
  else
    M_isWord_B35 w1 s0
set_option maxHeartbeats 4000000 in
set_option maxRecDepth 100000 in
theorem c_X10_isWord {l : Launch} {A : Nat → Prop} {Ke : State → Prop} {D : va_G} {cI cZ : ClassId} {E : State → Heap → Prop} {h0 : Nat} {ps : Nat → Nat} {adS adV : Nat → Nat} {q1 v1 : Nat} {w1 : List Int32} (hE : mEok E A) (hkw : gKw Ke) (hSt : sSt Ke A (MW D cI cZ E A h0 ps) adS adV) (hs1 : sIs A (MW D cI cZ E A h0 ps) q1 v1 w1) (hl1 : w1.length < 2 ^ 31) (s0 : Ms)  : gCp l yX10_isWord cX10_isWord 4 (some .boolean) rm_X10_isWord Ke (MW D cI cZ E A h0 ps) A [.ref h0, .ref q1] s0 (M_isWord s0 w1) := by
  refine g_metp (by decide) (by simp [lg_sl, Value.category]) ?_
  intro p e s m below meth c h hr hKs
  refine g_lv [(0, .ref h0), (1, .ref q1)] [0, 1] rfl ?_
  unfold M_isWord
  refine g_aload_n h 0 dX10_isWord_0 rfl ?_
  refine m_get h hinX10 45 (by decide) rfl tW_951 dX10_isWord_1 ?_
  refine g_if_ne h 35 dX10_isWord_4 (by decide) ?_ ?_
  · exact M_isWord_B35_w h hE hkw hKs hSt hs1 hl1 _  hr
  · refine g_aload_n h 0 dX10_isWord_7 rfl ?_
    refine m_get h hinX10 41 (by decide) rfl tW_947 dX10_isWord_8 ?_
    refine g_iconst (v := 1) h dX10_isWord_11 (by decide) ?_
    refine g_icmp_ne h 35 dX10_isWord_12 (by decide) ?_ ?_
    · exact M_isWord_B35_w h hE hkw hKs hSt hs1 hl1 _  hr
    · refine g_aload_n h 1 dX10_isWord_15 rfl ?_
      refine g_callV0p h (MW_mv hE) hkw hKs [] (c_J0_length_8abf5 (MW_mv hE) hkw hSt.1 s0 q1 v1 w1 hs1) yk_J0_length_8abf5 tW_1165 ⟨(Nat.le_of_ble_eq_true rfl), (Nat.le_of_ble_eq_true rfl)⟩ (fun H hw => by obtain ⟨cell, q1, q2, q3, -⟩ := (hs1 _ _ _ hw).1; exact ⟨cell, q1, q2, q3⟩) rfl rfl rfl rfl (Nat.le_of_ble_eq_true rfl) dX10_isWord_16 ⟨Nat.zero_le _, Nat.zero_le _⟩ (fun r_16 => ?_)
      refine g_aload_n h 0 dX10_isWord_19 rfl ?_
      refine m_get h hinX10 44 (by decide) rfl tW_950 dX10_isWord_20 ?_
      refine g_aload_n h 0 dX10_isWord_23 rfl ?_
      refine m_get h hinX10 43 (by decide) rfl tW_949 dX10_isWord_24 ?_
      refine g_isub h dX10_isWord_27 ?_
      refine g_icmp_ne h 35 dX10_isWord_28 (by decide) ?_ ?_
      · exact M_isWord_B35_w h hE hkw hKs hSt hs1 hl1 _  hr
      · refine g_iconst (v := 1) h dX10_isWord_31 (by decide) ?_
        refine g_goto h 36 dX10_isWord_32 (by decide) ?_
        exact M_isWord_B36_w h hE hkw hKs hSt hs1 hl1 _ _ hr
def rm_X10_word : Room := { frames := 5, cells := 0, slots := 0, locals := 108 }
theorem yk_X10_word : yOkV yX10_word cX10_word 2 (none) RX10 1 := ⟨tW_1202, tW_5, tW_1201, tP_46, by decide, by decide, by decide +kernel⟩
def M_word_B28 (w1 : List Int32) (s0 : Ms)  : Option (Ms) :=
  some s0
set_option maxHeartbeats 4000000 in
set_option maxRecDepth 100000 in
theorem M_word_B28_w {p : Program} {l : Launch} {e : Env} {s : State} {m : MethodId} {args : Array Value} {below : List Frame} {meth : Method} {c : Code} {A : Nat → Prop} {Ke : State → Prop} {D : va_G} {cI cZ : ClassId} {E : State → Heap → Prop} {h0 : Nat} {ps : Nat → Nat} {adS adV : Nat → Nat} {q1 v1 : Nat} {w1 : List Int32} (h : gOk p s m args meth c cX10_word 2 RX10 tb) (hE : mEok E A) (hkw : gKw Ke) (hKs : Ke s) (hSt : sSt Ke A (MW D cI cZ E A h0 ps) adS adV) (hs1 : sIs A (MW D cI cZ E A h0 ps) q1 v1 w1) (hl1 : w1.length < 2 ^ 31) (s0 : Ms)  (hr : meth.sig.returnType = none)  : gS p l e rm_X10_word s m args below meth c 2 A (MW D cI cZ E A h0 ps) (fun X => MQ below (gPv (MW D cI cZ E A h0 ps) A X) args s rm_X10_word.cells rm_X10_word.slots A) 0 0 (M_word_B28 w1 s0) s0 28 [] [] := by
  unfold M_word_B28
  exact g_vret h (MW_mv hE) hr (Nat.le_refl _) (Nat.le_refl _) dX10_word_28
def M_word (s0 : Ms) (w1 : List Int32) : Option (Ms) :=
  if s0.1 45 = 0 then
    (M_isWord s0 w1).bind (fun r_10 =>
    if r_10 = 0 then
      (M_wrong s0 (1 : Int32)).bind (fun s_25 =>
      M_word_B28 w1 s_25)
    else
      (M_step s0).bind (fun s_17 =>
      M_word_B28 w1 s_17))
  else
    some s0
set_option maxHeartbeats 4000000 in
set_option maxRecDepth 100000 in
theorem c_X10_word {l : Launch} {A : Nat → Prop} {Ke : State → Prop} {D : va_G} {cI cZ : ClassId} {E : State → Heap → Prop} {h0 : Nat} {ps : Nat → Nat} {adS adV : Nat → Nat} {q1 v1 : Nat} {w1 : List Int32} (hE : mEok E A) (hkw : gKw Ke) (hSt : sSt Ke A (MW D cI cZ E A h0 ps) adS adV) (hs1 : sIs A (MW D cI cZ E A h0 ps) q1 v1 w1) (hl1 : w1.length < 2 ^ 31) (s0 : Ms)  : gCv l yX10_word cX10_word 2 (none) rm_X10_word Ke (MW D cI cZ E A h0 ps) A [.ref h0, .ref q1] s0 (M_word s0 w1) := by
  refine g_metv (by decide) (by simp [lg_sl, Value.category]) ?_
  intro p e s m below meth c h hr hKs
  refine g_lv [(0, .ref h0), (1, .ref q1)] [0, 1] rfl ?_
  unfold M_word
  refine g_aload_n h 0 dX10_word_0 rfl ?_
  refine m_get h hinX10 45 (by decide) rfl tW_951 dX10_word_1 ?_
  refine g_if_eq h 8 dX10_word_4 (by decide) ?_ ?_
  · refine g_aload_n h 0 dX10_word_8 rfl ?_
    refine g_aload_n h 1 dX10_word_9 rfl ?_
    refine g_callV0p h (MW_mv hE) hkw hKs [.ref q1] (c_X10_isWord hE hkw hSt hs1 hl1 s0 ) yk_X10_isWord tW_1161 ⟨(Nat.le_of_ble_eq_true rfl), (Nat.le_of_ble_eq_true rfl)⟩ MW_recv rfl rfl rfl rfl (Nat.le_of_ble_eq_true rfl) dX10_word_10 ⟨Nat.zero_le _, Nat.zero_le _⟩ (fun r_10 => ?_)
    refine g_if_eq h 23 dX10_word_13 (by decide) ?_ ?_
    · refine g_aload_n h 0 dX10_word_23 rfl ?_
      refine g_iconst (v := 1) h dX10_word_24 (by decide) ?_
      refine g_callV0v h (MW_mv hE) hkw hKs [.int (1 : Int32)] (c_X10_wrong hE hkw s0 (1 : Int32)) yk_X10_wrong tW_1169 ⟨(Nat.le_of_ble_eq_true rfl), (Nat.le_of_ble_eq_true rfl)⟩ MW_recv rfl rfl rfl rfl (Nat.le_of_ble_eq_true rfl) dX10_word_25 ⟨Nat.zero_le _, Nat.zero_le _⟩ (fun s_25 => ?_)
      refine g_lv [] [] rfl ?_
      exact M_word_B28_w h hE hkw hKs hSt hs1 hl1 _  hr
    · refine g_aload_n h 0 dX10_word_16 rfl ?_
      refine g_callV0v h (MW_mv hE) hkw hKs [] (c_X10_step hE hkw s0 ) yk_X10_step tW_1146 ⟨(Nat.le_of_ble_eq_true rfl), (Nat.le_of_ble_eq_true rfl)⟩ MW_recv rfl rfl rfl rfl (Nat.le_of_ble_eq_true rfl) dX10_word_17 ⟨Nat.zero_le _, Nat.zero_le _⟩ (fun s_17 => ?_)
      refine g_goto h 28 dX10_word_20 (by decide) ?_
      refine g_lv [] [] rfl ?_
      exact M_word_B28_w h hE hkw hKs hSt hs1 hl1 _  hr
  · exact g_vret h (MW_mv hE) hr (Nat.le_refl _) (Nat.le_refl _) dX10_word_7
def rm_X10_readWhat : Room := { frames := 5, cells := 0, slots := 0, locals := 108 }
theorem yk_X10_readWhat : yOkV yX10_readWhat cX10_readWhat 1 (none) RX10 0 := ⟨tW_1180, tW_5, tW_1179, tP_42, by decide, by decide, by decide +kernel⟩
def M_readWhat_B85 (s0 : Ms)  : Option (Ms) :=
  some s0
set_option maxHeartbeats 4000000 in
set_option maxRecDepth 100000 in
theorem M_readWhat_B85_w {p : Program} {l : Launch} {e : Env} {s : State} {m : MethodId} {args : Array Value} {below : List Frame} {meth : Method} {c : Code} {A : Nat → Prop} {Ke : State → Prop} {D : va_G} {cI cZ : ClassId} {E : State → Heap → Prop} {h0 : Nat} {ps : Nat → Nat} {adS adV : Nat → Nat} (h : gOk p s m args meth c cX10_readWhat 1 RX10 tb) (hE : mEok E A) (hkw : gKw Ke) (hKs : Ke s) (hSt : sSt Ke A (MW D cI cZ E A h0 ps) adS adV) (s0 : Ms)  (hr : meth.sig.returnType = none)  : gS p l e rm_X10_readWhat s m args below meth c 1 A (MW D cI cZ E A h0 ps) (fun X => MQ below (gPv (MW D cI cZ E A h0 ps) A X) args s rm_X10_readWhat.cells rm_X10_readWhat.slots A) 0 0 (M_readWhat_B85 s0) s0 85 [] [] := by
  unfold M_readWhat_B85
  exact g_vret h (MW_mv hE) hr (Nat.le_refl _) (Nat.le_refl _) dX10_readWhat_85
def M_readWhat_B42 (s0 : Ms)  : Option (Ms) :=
  (M_isWord s0 (sW 4)).bind (fun r_45 =>
  if r_45 = 0 then
    bi (M_readNumbered s0 (102 : Int32) (7 : Int32)) (fun r_81 s_81 =>
    if okI (s0.1 47) 192 = true then
    bnd (mSto s_81 28 (s0.1 47).toNatClampNeg r_81) (fun s_84 =>
    M_readWhat_B85 s_84)
    else none)
  else
    if okI (s0.1 47) 192 = true then
    bnd (mSto s0 28 (s0.1 47).toNatClampNeg (-1 : Int32)) (fun s_60 =>
    (M_step s_60).bind (fun s_62 =>
    M_readWhat_B85 s_62))
    else none)
set_option maxHeartbeats 4000000 in
set_option maxRecDepth 100000 in
theorem M_readWhat_B42_w {p : Program} {l : Launch} {e : Env} {s : State} {m : MethodId} {args : Array Value} {below : List Frame} {meth : Method} {c : Code} {A : Nat → Prop} {Ke : State → Prop} {D : va_G} {cI cZ : ClassId} {E : State → Heap → Prop} {h0 : Nat} {ps : Nat → Nat} {adS adV : Nat → Nat} (h : gOk p s m args meth c cX10_readWhat 1 RX10 tb) (hE : mEok E A) (hkw : gKw Ke) (hKs : Ke s) (hSt : sSt Ke A (MW D cI cZ E A h0 ps) adS adV) (s0 : Ms)  (hr : meth.sig.returnType = none)  : gS p l e rm_X10_readWhat s m args below meth c 1 A (MW D cI cZ E A h0 ps) (fun X => MQ below (gPv (MW D cI cZ E A h0 ps) A X) args s rm_X10_readWhat.cells rm_X10_readWhat.slots A) 0 0 (M_readWhat_B42 s0) s0 42 [(0, .ref h0)] [] := by
  unfold M_readWhat_B42
  refine g_aload_n h 0 dX10_readWhat_42 rfl ?_
  refine g_ldcS h (hSt.2.2 _ hKs 4 (by decide)) dX10_readWhat_43 ?_
  refine g_callV0p h (MW_mv hE) hkw hKs [.ref (adS 4)] (c_X10_isWord hE hkw hSt (hSt.2.1 4 (by decide)) (by decide) s0 ) yk_X10_isWord tW_1161 ⟨(Nat.le_of_ble_eq_true rfl), (Nat.le_of_ble_eq_true rfl)⟩ MW_recv rfl rfl rfl rfl (Nat.le_of_ble_eq_true rfl) dX10_readWhat_45 ⟨Nat.zero_le _, Nat.zero_le _⟩ (fun r_45 => ?_)
  refine g_if_eq h 68 dX10_readWhat_48 (by decide) ?_ ?_
  · refine g_aload_n h 0 dX10_readWhat_68 rfl ?_
    refine m_geta h hinX10 28 (by decide) rfl tW_934 dX10_readWhat_69 ?_
    refine g_aload_n h 0 dX10_readWhat_72 rfl ?_
    refine m_get h hinX10 47 (by decide) rfl tW_953 dX10_readWhat_73 ?_
    refine g_aload_n h 0 dX10_readWhat_76 rfl ?_
    refine g_bipush (v := 102) h dX10_readWhat_77 (by decide) ?_
    refine g_bipush (v := 7) h dX10_readWhat_79 (by decide) ?_
    refine g_callV0i h (MW_mv hE) hkw hKs [.int (102 : Int32), .int (7 : Int32)] (c_X10_readNumbered hE hkw s0 (102 : Int32) (7 : Int32)) yk_X10_readNumbered tW_1182 ⟨(Nat.le_of_ble_eq_true rfl), (Nat.le_of_ble_eq_true rfl)⟩ MW_recv rfl rfl rfl rfl (Nat.le_of_ble_eq_true rfl) dX10_readWhat_81 ⟨Nat.zero_le _, Nat.zero_le _⟩ (fun r_81 s_81 => ?_)
    refine m_iast h hE 28 rfl rfl 192 rfl dX10_readWhat_84 ?_
    refine g_bnd (fun s_84 => ?_)
    refine g_lv [] [] rfl ?_
    exact M_readWhat_B85_w h hE hkw hKs hSt _  hr
  · refine g_aload_n h 0 dX10_readWhat_51 rfl ?_
    refine m_geta h hinX10 28 (by decide) rfl tW_934 dX10_readWhat_52 ?_
    refine g_aload_n h 0 dX10_readWhat_55 rfl ?_
    refine m_get h hinX10 47 (by decide) rfl tW_953 dX10_readWhat_56 ?_
    refine g_iconst (v := -1) h dX10_readWhat_59 (by decide) ?_
    refine m_iast h hE 28 rfl rfl 192 rfl dX10_readWhat_60 ?_
    refine g_bnd (fun s_60 => ?_)
    refine g_aload_n h 0 dX10_readWhat_61 rfl ?_
    refine g_callV0v h (MW_mv hE) hkw hKs [] (c_X10_step hE hkw s_60 ) yk_X10_step tW_1146 ⟨(Nat.le_of_ble_eq_true rfl), (Nat.le_of_ble_eq_true rfl)⟩ MW_recv rfl rfl rfl rfl (Nat.le_of_ble_eq_true rfl) dX10_readWhat_62 ⟨Nat.zero_le _, Nat.zero_le _⟩ (fun s_62 => ?_)
    refine g_goto h 85 dX10_readWhat_65 (by decide) ?_
    refine g_lv [] [] rfl ?_
    exact M_readWhat_B85_w h hE hkw hKs hSt _  hr
def M_readWhat (s0 : Ms)  : Option (Ms) :=
  (M_isWord s0 (sW 3)).bind (fun r_3 =>
  if r_3 = 0 then
    bi (M_readNumbered s0 (107 : Int32) (3 : Int32)) (fun r_38 s_38 =>
    if okI (s0.1 47) 192 = true then
    bnd (mSto s_38 27 (s0.1 47).toNatClampNeg r_38) (fun s_41 =>
    M_readWhat_B42 s_41)
    else none)
  else
    if okI (s0.1 47) 192 = true then
    bnd (mSto s0 27 (s0.1 47).toNatClampNeg (-1 : Int32)) (fun s_18 =>
    (M_step s_18).bind (fun s_20 =>
    M_readWhat_B42 s_20))
    else none)
set_option maxHeartbeats 4000000 in
set_option maxRecDepth 100000 in
theorem c_X10_readWhat {l : Launch} {A : Nat → Prop} {Ke : State → Prop} {D : va_G} {cI cZ : ClassId} {E : State → Heap → Prop} {h0 : Nat} {ps : Nat → Nat} {adS adV : Nat → Nat} (hE : mEok E A) (hkw : gKw Ke) (hSt : sSt Ke A (MW D cI cZ E A h0 ps) adS adV) (s0 : Ms)  : gCv l yX10_readWhat cX10_readWhat 1 (none) rm_X10_readWhat Ke (MW D cI cZ E A h0 ps) A [.ref h0] s0 (M_readWhat s0 ) := by
  refine g_metv (by decide) (by simp [lg_sl, Value.category]) ?_
  intro p e s m below meth c h hr hKs
  refine g_lv [(0, .ref h0)] [0] rfl ?_
  unfold M_readWhat
  refine g_aload_n h 0 dX10_readWhat_0 rfl ?_
  refine g_ldcS h (hSt.2.2 _ hKs 3 (by decide)) dX10_readWhat_1 ?_
  refine g_callV0p h (MW_mv hE) hkw hKs [.ref (adS 3)] (c_X10_isWord hE hkw hSt (hSt.2.1 3 (by decide)) (by decide) s0 ) yk_X10_isWord tW_1161 ⟨(Nat.le_of_ble_eq_true rfl), (Nat.le_of_ble_eq_true rfl)⟩ MW_recv rfl rfl rfl rfl (Nat.le_of_ble_eq_true rfl) dX10_readWhat_3 ⟨Nat.zero_le _, Nat.zero_le _⟩ (fun r_3 => ?_)
  refine g_if_eq h 26 dX10_readWhat_6 (by decide) ?_ ?_
  · refine g_aload_n h 0 dX10_readWhat_26 rfl ?_
    refine m_geta h hinX10 27 (by decide) rfl tW_933 dX10_readWhat_27 ?_
    refine g_aload_n h 0 dX10_readWhat_30 rfl ?_
    refine m_get h hinX10 47 (by decide) rfl tW_953 dX10_readWhat_31 ?_
    refine g_aload_n h 0 dX10_readWhat_34 rfl ?_
    refine g_bipush (v := 107) h dX10_readWhat_35 (by decide) ?_
    refine g_iconst (v := 3) h dX10_readWhat_37 (by decide) ?_
    refine g_callV0i h (MW_mv hE) hkw hKs [.int (107 : Int32), .int (3 : Int32)] (c_X10_readNumbered hE hkw s0 (107 : Int32) (3 : Int32)) yk_X10_readNumbered tW_1182 ⟨(Nat.le_of_ble_eq_true rfl), (Nat.le_of_ble_eq_true rfl)⟩ MW_recv rfl rfl rfl rfl (Nat.le_of_ble_eq_true rfl) dX10_readWhat_38 ⟨Nat.zero_le _, Nat.zero_le _⟩ (fun r_38 s_38 => ?_)
    refine m_iast h hE 27 rfl rfl 192 rfl dX10_readWhat_41 ?_
    refine g_bnd (fun s_41 => ?_)
    exact M_readWhat_B42_w h hE hkw hKs hSt _  hr
  · refine g_aload_n h 0 dX10_readWhat_9 rfl ?_
    refine m_geta h hinX10 27 (by decide) rfl tW_933 dX10_readWhat_10 ?_
    refine g_aload_n h 0 dX10_readWhat_13 rfl ?_
    refine m_get h hinX10 47 (by decide) rfl tW_953 dX10_readWhat_14 ?_
    refine g_iconst (v := -1) h dX10_readWhat_17 (by decide) ?_
    refine m_iast h hE 27 rfl rfl 192 rfl dX10_readWhat_18 ?_
    refine g_bnd (fun s_18 => ?_)
    refine g_aload_n h 0 dX10_readWhat_19 rfl ?_
    refine g_callV0v h (MW_mv hE) hkw hKs [] (c_X10_step hE hkw s_18 ) yk_X10_step tW_1146 ⟨(Nat.le_of_ble_eq_true rfl), (Nat.le_of_ble_eq_true rfl)⟩ MW_recv rfl rfl rfl rfl (Nat.le_of_ble_eq_true rfl) dX10_readWhat_20 ⟨Nat.zero_le _, Nat.zero_le _⟩ (fun s_20 => ?_)
    refine g_goto h 42 dX10_readWhat_23 (by decide) ?_
    exact M_readWhat_B42_w h hE hkw hKs hSt _  hr
def rm_X10_readTests : Room := { frames := 5, cells := 0, slots := 0, locals := 108 }
theorem yk_X10_readTests : yOkV yX10_readTests cX10_readTests 5 (none) RX10 0 := ⟨tW_1206, tW_5, tW_1205, tP_47, by decide, by decide, by decide +kernel⟩
def M_readTests_B211 {Rt : Type} (s0 : Ms) (rec : Ms → Int32 → Option Rt) (k72 : Ms → Option Rt) (k133 : Ms → Option Rt) (k214 : Ms → Option Rt) (l1 : Int32) : Option (Rt) :=
  rec s0 l1
set_option maxHeartbeats 4000000 in
set_option maxRecDepth 100000 in
theorem M_readTests_B211_w {p : Program} {l : Launch} {e : Env} {s : State} {m : MethodId} {args : Array Value} {below : List Frame} {meth : Method} {c : Code} {A : Nat → Prop} {Ke : State → Prop} {D : va_G} {cI cZ : ClassId} {E : State → Heap → Prop} {h0 : Nat} {ps : Nat → Nat} {adS adV : Nat → Nat} (h : gOk p s m args meth c cX10_readTests 5 RX10 tb) (hE : mEok E A) (hkw : gKw Ke) (hKs : Ke s) (hSt : sSt Ke A (MW D cI cZ E A h0 ps) adS adV) {Rt : Type} {QX : Rt → State → Prop} {rec : Ms → Int32 → Option Rt} {k72 : Ms → Option Rt} {k133 : Ms → Option Rt} {k214 : Ms → Option Rt} (s0 : Ms) (l1 : Int32) (hrec : ∀ (sx : Ms) (l1 : Int32), gS p l e rm_X10_readTests s m args below meth c 5 A (MW D cI cZ E A h0 ps) QX 0 0 (rec sx l1) sx 15 [(0, .ref h0), (1, .int l1)] []) (hk72 : ∀ (sx : Ms), gS p l e rm_X10_readTests s m args below meth c 5 A (MW D cI cZ E A h0 ps) QX 0 0 (k72 sx) sx 72 [] []) (hk133 : ∀ (sx : Ms), gS p l e rm_X10_readTests s m args below meth c 5 A (MW D cI cZ E A h0 ps) QX 0 0 (k133 sx) sx 133 [] []) (hk214 : ∀ (sx : Ms), gS p l e rm_X10_readTests s m args below meth c 5 A (MW D cI cZ E A h0 ps) QX 0 0 (k214 sx) sx 214 [] []) : gS p l e rm_X10_readTests s m args below meth c 5 A (MW D cI cZ E A h0 ps) QX 0 0 (M_readTests_B211 s0 rec k72 k133 k214 l1) s0 211 [(0, .ref h0), (1, .int l1)] [] := by
  unfold M_readTests_B211
  refine g_goto h 15 dX10_readTests_211 (by decide) ?_
  exact hrec _ _
def M_readTests_B126 {Rt : Type} (s0 : Ms) (rec : Ms → Int32 → Option Rt) (k72 : Ms → Option Rt) (k133 : Ms → Option Rt) (k214 : Ms → Option Rt) (l2 : Int32) (l3 : Int32) : Option (Rt) :=
  if s0.1 45 = 0 then
    (M_step s0).bind (fun s_135 =>
    if okI (s_135.1 47) 192 = true then
    bnd (((4 : Int32) * (s_135.1 47)) + (s_135.2 34 (s_135.1 47).toNatClampNeg)) (fun v4_154 =>
    if okI v4_154 768 = true then
    bnd (mSto s_135 35 v4_154.toNatClampNeg l2) (fun s_163 =>
    if okZ l3 = true then
    if okI v4_154 768 = true then
    bnd (mSto s_163 37 v4_154.toNatClampNeg l3) (fun s_171 =>
    bi (M_readNumber s_171) (fun r_179 s_179 =>
    if okI v4_154 768 = true then
    bnd (mSto s_179 36 v4_154.toNatClampNeg r_179) (fun s_182 =>
    if okI (s_182.1 47) 192 = true then
    if okI (s_182.1 47) 192 = true then
    bnd (mSto s_182 34 (s_182.1 47).toNatClampNeg ((s_182.2 34 (s_182.1 47).toNatClampNeg) + (1 : Int32))) (fun s_195 =>
    (M_isWord s_195 (sW 10)).bind (fun r_199 =>
    if r_199 = 0 then
      M_readTests_B211 s_195 rec k72 k133 k214 r_199
    else
      (M_step s_195).bind (fun s_208 =>
      M_readTests_B211 s_208 rec k72 k133 k214 r_199)))
    else none
    else none)
    else none))
    else none
    else none)
    else none)
    else none)
  else
    k133 s0
set_option maxHeartbeats 4000000 in
set_option maxRecDepth 100000 in
theorem M_readTests_B126_w {p : Program} {l : Launch} {e : Env} {s : State} {m : MethodId} {args : Array Value} {below : List Frame} {meth : Method} {c : Code} {A : Nat → Prop} {Ke : State → Prop} {D : va_G} {cI cZ : ClassId} {E : State → Heap → Prop} {h0 : Nat} {ps : Nat → Nat} {adS adV : Nat → Nat} (h : gOk p s m args meth c cX10_readTests 5 RX10 tb) (hE : mEok E A) (hkw : gKw Ke) (hKs : Ke s) (hSt : sSt Ke A (MW D cI cZ E A h0 ps) adS adV) {Rt : Type} {QX : Rt → State → Prop} {rec : Ms → Int32 → Option Rt} {k72 : Ms → Option Rt} {k133 : Ms → Option Rt} {k214 : Ms → Option Rt} (s0 : Ms) (l2 : Int32) (l3 : Int32) (hrec : ∀ (sx : Ms) (l1 : Int32), gS p l e rm_X10_readTests s m args below meth c 5 A (MW D cI cZ E A h0 ps) QX 0 0 (rec sx l1) sx 15 [(0, .ref h0), (1, .int l1)] []) (hk72 : ∀ (sx : Ms), gS p l e rm_X10_readTests s m args below meth c 5 A (MW D cI cZ E A h0 ps) QX 0 0 (k72 sx) sx 72 [] []) (hk133 : ∀ (sx : Ms), gS p l e rm_X10_readTests s m args below meth c 5 A (MW D cI cZ E A h0 ps) QX 0 0 (k133 sx) sx 133 [] []) (hk214 : ∀ (sx : Ms), gS p l e rm_X10_readTests s m args below meth c 5 A (MW D cI cZ E A h0 ps) QX 0 0 (k214 sx) sx 214 [] []) : gS p l e rm_X10_readTests s m args below meth c 5 A (MW D cI cZ E A h0 ps) QX 0 0 (M_readTests_B126 s0 rec k72 k133 k214 l2 l3) s0 126 [(0, .ref h0), (2, .int l2), (3, .int l3)] [] := by
  unfold M_readTests_B126
  refine g_aload_n h 0 dX10_readTests_126 rfl ?_
  refine m_get h hinX10 45 (by decide) rfl tW_951 dX10_readTests_127 ?_
  refine g_if_eq h 134 dX10_readTests_130 (by decide) ?_ ?_
  · refine g_aload_n h 0 dX10_readTests_134 rfl ?_
    refine g_callV0v h (MW_mv hE) hkw hKs [] (c_X10_step hE hkw s0 ) yk_X10_step tW_1146 ⟨(Nat.le_of_ble_eq_true rfl), (Nat.le_of_ble_eq_true rfl)⟩ MW_recv rfl rfl rfl rfl (Nat.le_of_ble_eq_true rfl) dX10_readTests_135 ⟨Nat.zero_le _, Nat.zero_le _⟩ (fun s_135 => ?_)
    refine g_iconst (v := 4) h dX10_readTests_138 (by decide) ?_
    refine g_aload_n h 0 dX10_readTests_139 rfl ?_
    refine m_get h hinX10 47 (by decide) rfl tW_953 dX10_readTests_140 ?_
    refine g_imul h dX10_readTests_143 ?_
    refine g_aload_n h 0 dX10_readTests_144 rfl ?_
    refine m_geta h hinX10 34 (by decide) rfl tW_940 dX10_readTests_145 ?_
    refine g_aload_n h 0 dX10_readTests_148 rfl ?_
    refine m_get h hinX10 47 (by decide) rfl tW_953 dX10_readTests_149 ?_
    refine m_iald h 34 rfl rfl 192 rfl dX10_readTests_152 ?_
    refine g_iadd h dX10_readTests_153 ?_
    refine g_bndi (fun v4_154 => ?_)
    refine g_istore h [(4, .int v4_154), (0, .ref h0), (2, .int l2), (3, .int l3)] dX10_readTests_154 (by decide) rfl ?_
    refine g_aload_n h 1 dX10_readTests_156 rfl ?_
    refine m_geta h hinX10 35 (by decide) rfl tW_941 dX10_readTests_157 ?_
    refine g_iload h 0 dX10_readTests_160 rfl ?_
    refine g_iload_n h 2 dX10_readTests_162 rfl ?_
    refine m_iast h hE 35 rfl rfl 768 rfl dX10_readTests_163 ?_
    refine g_bnd (fun s_163 => ?_)
    refine g_aload_n h 1 dX10_readTests_164 rfl ?_
    refine m_geta h hinX10 37 (by decide) rfl tW_943 dX10_readTests_165 ?_
    refine g_iload h 0 dX10_readTests_168 rfl ?_
    refine g_iload_n h 3 dX10_readTests_170 rfl ?_
    refine g_guard (fun hz171 => ?_)
    refine m_zast h hE 37 rfl rfl 768 rfl hz171 dX10_readTests_171 ?_
    refine g_bnd (fun s_171 => ?_)
    refine g_aload_n h 1 dX10_readTests_172 rfl ?_
    refine m_geta h hinX10 36 (by decide) rfl tW_942 dX10_readTests_173 ?_
    refine g_iload h 0 dX10_readTests_176 rfl ?_
    refine g_aload_n h 1 dX10_readTests_178 rfl ?_
    refine g_callV0i h (MW_mv hE) hkw hKs [] (c_X10_readNumber hE hkw s_171 ) yk_X10_readNumber tW_1191 ⟨(Nat.le_of_ble_eq_true rfl), (Nat.le_of_ble_eq_true rfl)⟩ MW_recv rfl rfl rfl rfl (Nat.le_of_ble_eq_true rfl) dX10_readTests_179 ⟨Nat.zero_le _, Nat.zero_le _⟩ (fun r_179 s_179 => ?_)
    refine m_iast h hE 36 rfl rfl 768 rfl dX10_readTests_182 ?_
    refine g_bnd (fun s_182 => ?_)
    refine g_aload_n h 1 dX10_readTests_183 rfl ?_
    refine m_geta h hinX10 34 (by decide) rfl tW_940 dX10_readTests_184 ?_
    refine g_aload_n h 1 dX10_readTests_187 rfl ?_
    refine m_get h hinX10 47 (by decide) rfl tW_953 dX10_readTests_188 ?_
    refine g_dup2 h dX10_readTests_191 rfl rfl ?_
    refine m_iald h 34 rfl rfl 192 rfl dX10_readTests_192 ?_
    refine g_iconst (v := 1) h dX10_readTests_193 (by decide) ?_
    refine g_iadd h dX10_readTests_194 ?_
    refine m_iast h hE 34 rfl rfl 192 rfl dX10_readTests_195 ?_
    refine g_bnd (fun s_195 => ?_)
    refine g_aload_n h 1 dX10_readTests_196 rfl ?_
    refine g_ldcS h (hSt.2.2 _ hKs 10 (by decide)) dX10_readTests_197 ?_
    refine g_callV0p h (MW_mv hE) hkw hKs [.ref (adS 10)] (c_X10_isWord hE hkw hSt (hSt.2.1 10 (by decide)) (by decide) s_195 ) yk_X10_isWord tW_1161 ⟨(Nat.le_of_ble_eq_true rfl), (Nat.le_of_ble_eq_true rfl)⟩ MW_recv rfl rfl rfl rfl (Nat.le_of_ble_eq_true rfl) dX10_readTests_199 ⟨Nat.zero_le _, Nat.zero_le _⟩ (fun r_199 => ?_)
    refine g_istore_n h [(1, .int r_199), (4, .int v4_154), (0, .ref h0), (2, .int l2), (3, .int l3)] dX10_readTests_202 (by decide) rfl ?_
    refine g_iload_n h 0 dX10_readTests_203 rfl ?_
    refine g_if_eq h 211 dX10_readTests_204 (by decide) ?_ ?_
    · refine g_lv [(0, .ref h0), (1, .int r_199)] [2, 0] rfl ?_
      exact M_readTests_B211_w h hE hkw hKs hSt _ _ hrec hk72 hk133 hk214
    · refine g_aload_n h 2 dX10_readTests_207 rfl ?_
      refine g_callV0v h (MW_mv hE) hkw hKs [] (c_X10_step hE hkw s_195 ) yk_X10_step tW_1146 ⟨(Nat.le_of_ble_eq_true rfl), (Nat.le_of_ble_eq_true rfl)⟩ MW_recv rfl rfl rfl rfl (Nat.le_of_ble_eq_true rfl) dX10_readTests_208 ⟨Nat.zero_le _, Nat.zero_le _⟩ (fun s_208 => ?_)
      refine g_lv [(0, .ref h0), (1, .int r_199)] [2, 0] rfl ?_
      exact M_readTests_B211_w h hE hkw hKs hSt _ _ hrec hk72 hk133 hk214
  · refine g_lv [] [] rfl ?_
    exact hk133 _
def M_readTests_B121 {Rt : Type} (s0 : Ms) (rec : Ms → Int32 → Option Rt) (k72 : Ms → Option Rt) (k133 : Ms → Option Rt) (k214 : Ms → Option Rt) (l2 : Int32) (l3 : Int32) : Option (Rt) :=
  (M_wrong s0 (1 : Int32)).bind (fun s_123 =>
  M_readTests_B126 s_123 rec k72 k133 k214 l2 l3)
set_option maxHeartbeats 4000000 in
set_option maxRecDepth 100000 in
theorem M_readTests_B121_w {p : Program} {l : Launch} {e : Env} {s : State} {m : MethodId} {args : Array Value} {below : List Frame} {meth : Method} {c : Code} {A : Nat → Prop} {Ke : State → Prop} {D : va_G} {cI cZ : ClassId} {E : State → Heap → Prop} {h0 : Nat} {ps : Nat → Nat} {adS adV : Nat → Nat} (h : gOk p s m args meth c cX10_readTests 5 RX10 tb) (hE : mEok E A) (hkw : gKw Ke) (hKs : Ke s) (hSt : sSt Ke A (MW D cI cZ E A h0 ps) adS adV) {Rt : Type} {QX : Rt → State → Prop} {rec : Ms → Int32 → Option Rt} {k72 : Ms → Option Rt} {k133 : Ms → Option Rt} {k214 : Ms → Option Rt} (s0 : Ms) (l2 : Int32) (l3 : Int32) (hrec : ∀ (sx : Ms) (l1 : Int32), gS p l e rm_X10_readTests s m args below meth c 5 A (MW D cI cZ E A h0 ps) QX 0 0 (rec sx l1) sx 15 [(0, .ref h0), (1, .int l1)] []) (hk72 : ∀ (sx : Ms), gS p l e rm_X10_readTests s m args below meth c 5 A (MW D cI cZ E A h0 ps) QX 0 0 (k72 sx) sx 72 [] []) (hk133 : ∀ (sx : Ms), gS p l e rm_X10_readTests s m args below meth c 5 A (MW D cI cZ E A h0 ps) QX 0 0 (k133 sx) sx 133 [] []) (hk214 : ∀ (sx : Ms), gS p l e rm_X10_readTests s m args below meth c 5 A (MW D cI cZ E A h0 ps) QX 0 0 (k214 sx) sx 214 [] []) : gS p l e rm_X10_readTests s m args below meth c 5 A (MW D cI cZ E A h0 ps) QX 0 0 (M_readTests_B121 s0 rec k72 k133 k214 l2 l3) s0 121 [(0, .ref h0), (2, .int l2), (3, .int l3)] [] := by
  unfold M_readTests_B121
  refine g_aload_n h 0 dX10_readTests_121 rfl ?_
  refine g_iconst (v := 1) h dX10_readTests_122 (by decide) ?_
  refine g_callV0v h (MW_mv hE) hkw hKs [.int (1 : Int32)] (c_X10_wrong hE hkw s0 (1 : Int32)) yk_X10_wrong tW_1169 ⟨(Nat.le_of_ble_eq_true rfl), (Nat.le_of_ble_eq_true rfl)⟩ MW_recv rfl rfl rfl rfl (Nat.le_of_ble_eq_true rfl) dX10_readTests_123 ⟨Nat.zero_le _, Nat.zero_le _⟩ (fun s_123 => ?_)
  exact M_readTests_B126_w h hE hkw hKs hSt _ _ _ hrec hk72 hk133 hk214
def M_readTests_B99 {Rt : Type} (s0 : Ms) (rec : Ms → Int32 → Option Rt) (k72 : Ms → Option Rt) (k133 : Ms → Option Rt) (k214 : Ms → Option Rt) (t0 : Int32) (l2 : Int32) : Option (Rt) :=
  if t0 = 0 then
    if s0.1 41 = (3 : Int32) then
      if s0.1 42 = (61 : Int32) then
        M_readTests_B126 s0 rec k72 k133 k214 l2 t0
      else
        M_readTests_B121 s0 rec k72 k133 k214 l2 t0
    else
      M_readTests_B121 s0 rec k72 k133 k214 l2 t0
  else
    M_readTests_B126 s0 rec k72 k133 k214 l2 t0
set_option maxHeartbeats 4000000 in
set_option maxRecDepth 100000 in
theorem M_readTests_B99_w {p : Program} {l : Launch} {e : Env} {s : State} {m : MethodId} {args : Array Value} {below : List Frame} {meth : Method} {c : Code} {A : Nat → Prop} {Ke : State → Prop} {D : va_G} {cI cZ : ClassId} {E : State → Heap → Prop} {h0 : Nat} {ps : Nat → Nat} {adS adV : Nat → Nat} (h : gOk p s m args meth c cX10_readTests 5 RX10 tb) (hE : mEok E A) (hkw : gKw Ke) (hKs : Ke s) (hSt : sSt Ke A (MW D cI cZ E A h0 ps) adS adV) {Rt : Type} {QX : Rt → State → Prop} {rec : Ms → Int32 → Option Rt} {k72 : Ms → Option Rt} {k133 : Ms → Option Rt} {k214 : Ms → Option Rt} (s0 : Ms) (t0 : Int32) (l2 : Int32) (hrec : ∀ (sx : Ms) (l1 : Int32), gS p l e rm_X10_readTests s m args below meth c 5 A (MW D cI cZ E A h0 ps) QX 0 0 (rec sx l1) sx 15 [(0, .ref h0), (1, .int l1)] []) (hk72 : ∀ (sx : Ms), gS p l e rm_X10_readTests s m args below meth c 5 A (MW D cI cZ E A h0 ps) QX 0 0 (k72 sx) sx 72 [] []) (hk133 : ∀ (sx : Ms), gS p l e rm_X10_readTests s m args below meth c 5 A (MW D cI cZ E A h0 ps) QX 0 0 (k133 sx) sx 133 [] []) (hk214 : ∀ (sx : Ms), gS p l e rm_X10_readTests s m args below meth c 5 A (MW D cI cZ E A h0 ps) QX 0 0 (k214 sx) sx 214 [] []) : gS p l e rm_X10_readTests s m args below meth c 5 A (MW D cI cZ E A h0 ps) QX 0 0 (M_readTests_B99 s0 rec k72 k133 k214 t0 l2) s0 99 [(0, .ref h0), (2, .int l2)] [.int t0] := by
  unfold M_readTests_B99
  refine g_istore_n h [(3, .int t0), (0, .ref h0), (2, .int l2)] dX10_readTests_99 (by decide) rfl ?_
  refine g_iload_n h 0 dX10_readTests_100 rfl ?_
  refine g_if_ne h 126 dX10_readTests_101 (by decide) ?_ ?_
  · refine g_lv [(0, .ref h0), (2, .int l2), (3, .int t0)] [1, 2, 0] rfl ?_
    exact M_readTests_B126_w h hE hkw hKs hSt _ _ _ hrec hk72 hk133 hk214
  · refine g_aload_n h 1 dX10_readTests_104 rfl ?_
    refine m_get h hinX10 41 (by decide) rfl tW_947 dX10_readTests_105 ?_
    refine g_iconst (v := 3) h dX10_readTests_108 (by decide) ?_
    refine g_icmp_ne h 121 dX10_readTests_109 (by decide) ?_ ?_
    · refine g_lv [(0, .ref h0), (2, .int l2), (3, .int t0)] [1, 2, 0] rfl ?_
      exact M_readTests_B121_w h hE hkw hKs hSt _ _ _ hrec hk72 hk133 hk214
    · refine g_aload_n h 1 dX10_readTests_112 rfl ?_
      refine m_get h hinX10 42 (by decide) rfl tW_948 dX10_readTests_113 ?_
      refine g_bipush (v := 61) h dX10_readTests_116 (by decide) ?_
      refine g_icmp_eq h 126 dX10_readTests_118 (by decide) ?_ ?_
      · refine g_lv [(0, .ref h0), (2, .int l2), (3, .int t0)] [1, 2, 0] rfl ?_
        exact M_readTests_B126_w h hE hkw hKs hSt _ _ _ hrec hk72 hk133 hk214
      · refine g_lv [(0, .ref h0), (2, .int l2), (3, .int t0)] [1, 2, 0] rfl ?_
        exact M_readTests_B121_w h hE hkw hKs hSt _ _ _ hrec hk72 hk133 hk214
def M_readTests_B98 {Rt : Type} (s0 : Ms) (rec : Ms → Int32 → Option Rt) (k72 : Ms → Option Rt) (k133 : Ms → Option Rt) (k214 : Ms → Option Rt) (l2 : Int32) : Option (Rt) :=
  M_readTests_B99 s0 rec k72 k133 k214 (0 : Int32) l2
set_option maxHeartbeats 4000000 in
set_option maxRecDepth 100000 in
theorem M_readTests_B98_w {p : Program} {l : Launch} {e : Env} {s : State} {m : MethodId} {args : Array Value} {below : List Frame} {meth : Method} {c : Code} {A : Nat → Prop} {Ke : State → Prop} {D : va_G} {cI cZ : ClassId} {E : State → Heap → Prop} {h0 : Nat} {ps : Nat → Nat} {adS adV : Nat → Nat} (h : gOk p s m args meth c cX10_readTests 5 RX10 tb) (hE : mEok E A) (hkw : gKw Ke) (hKs : Ke s) (hSt : sSt Ke A (MW D cI cZ E A h0 ps) adS adV) {Rt : Type} {QX : Rt → State → Prop} {rec : Ms → Int32 → Option Rt} {k72 : Ms → Option Rt} {k133 : Ms → Option Rt} {k214 : Ms → Option Rt} (s0 : Ms) (l2 : Int32) (hrec : ∀ (sx : Ms) (l1 : Int32), gS p l e rm_X10_readTests s m args below meth c 5 A (MW D cI cZ E A h0 ps) QX 0 0 (rec sx l1) sx 15 [(0, .ref h0), (1, .int l1)] []) (hk72 : ∀ (sx : Ms), gS p l e rm_X10_readTests s m args below meth c 5 A (MW D cI cZ E A h0 ps) QX 0 0 (k72 sx) sx 72 [] []) (hk133 : ∀ (sx : Ms), gS p l e rm_X10_readTests s m args below meth c 5 A (MW D cI cZ E A h0 ps) QX 0 0 (k133 sx) sx 133 [] []) (hk214 : ∀ (sx : Ms), gS p l e rm_X10_readTests s m args below meth c 5 A (MW D cI cZ E A h0 ps) QX 0 0 (k214 sx) sx 214 [] []) : gS p l e rm_X10_readTests s m args below meth c 5 A (MW D cI cZ E A h0 ps) QX 0 0 (M_readTests_B98 s0 rec k72 k133 k214 l2) s0 98 [(0, .ref h0), (2, .int l2)] [] := by
  unfold M_readTests_B98
  refine g_iconst (v := 0) h dX10_readTests_98 (by decide) ?_
  exact M_readTests_B99_w h hE hkw hKs hSt _ _ _ hrec hk72 hk133 hk214
def M_readTests_B65 {Rt : Type} (s0 : Ms) (rec : Ms → Int32 → Option Rt) (k72 : Ms → Option Rt) (k133 : Ms → Option Rt) (k214 : Ms → Option Rt) (l2 : Int32) : Option (Rt) :=
  if s0.1 45 = 0 then
    (M_step s0).bind (fun s_74 =>
    if s_74.1 41 = (3 : Int32) then
      if s_74.1 42 = (60 : Int32) then
        M_readTests_B99 s_74 rec k72 k133 k214 (1 : Int32) l2
      else
        M_readTests_B98 s_74 rec k72 k133 k214 l2
    else
      M_readTests_B98 s_74 rec k72 k133 k214 l2)
  else
    k72 s0
set_option maxHeartbeats 4000000 in
set_option maxRecDepth 100000 in
theorem M_readTests_B65_w {p : Program} {l : Launch} {e : Env} {s : State} {m : MethodId} {args : Array Value} {below : List Frame} {meth : Method} {c : Code} {A : Nat → Prop} {Ke : State → Prop} {D : va_G} {cI cZ : ClassId} {E : State → Heap → Prop} {h0 : Nat} {ps : Nat → Nat} {adS adV : Nat → Nat} (h : gOk p s m args meth c cX10_readTests 5 RX10 tb) (hE : mEok E A) (hkw : gKw Ke) (hKs : Ke s) (hSt : sSt Ke A (MW D cI cZ E A h0 ps) adS adV) {Rt : Type} {QX : Rt → State → Prop} {rec : Ms → Int32 → Option Rt} {k72 : Ms → Option Rt} {k133 : Ms → Option Rt} {k214 : Ms → Option Rt} (s0 : Ms) (l2 : Int32) (hrec : ∀ (sx : Ms) (l1 : Int32), gS p l e rm_X10_readTests s m args below meth c 5 A (MW D cI cZ E A h0 ps) QX 0 0 (rec sx l1) sx 15 [(0, .ref h0), (1, .int l1)] []) (hk72 : ∀ (sx : Ms), gS p l e rm_X10_readTests s m args below meth c 5 A (MW D cI cZ E A h0 ps) QX 0 0 (k72 sx) sx 72 [] []) (hk133 : ∀ (sx : Ms), gS p l e rm_X10_readTests s m args below meth c 5 A (MW D cI cZ E A h0 ps) QX 0 0 (k133 sx) sx 133 [] []) (hk214 : ∀ (sx : Ms), gS p l e rm_X10_readTests s m args below meth c 5 A (MW D cI cZ E A h0 ps) QX 0 0 (k214 sx) sx 214 [] []) : gS p l e rm_X10_readTests s m args below meth c 5 A (MW D cI cZ E A h0 ps) QX 0 0 (M_readTests_B65 s0 rec k72 k133 k214 l2) s0 65 [(0, .ref h0), (2, .int l2)] [] := by
  unfold M_readTests_B65
  refine g_aload_n h 0 dX10_readTests_65 rfl ?_
  refine m_get h hinX10 45 (by decide) rfl tW_951 dX10_readTests_66 ?_
  refine g_if_eq h 73 dX10_readTests_69 (by decide) ?_ ?_
  · refine g_aload_n h 0 dX10_readTests_73 rfl ?_
    refine g_callV0v h (MW_mv hE) hkw hKs [] (c_X10_step hE hkw s0 ) yk_X10_step tW_1146 ⟨(Nat.le_of_ble_eq_true rfl), (Nat.le_of_ble_eq_true rfl)⟩ MW_recv rfl rfl rfl rfl (Nat.le_of_ble_eq_true rfl) dX10_readTests_74 ⟨Nat.zero_le _, Nat.zero_le _⟩ (fun s_74 => ?_)
    refine g_aload_n h 0 dX10_readTests_77 rfl ?_
    refine m_get h hinX10 41 (by decide) rfl tW_947 dX10_readTests_78 ?_
    refine g_iconst (v := 3) h dX10_readTests_81 (by decide) ?_
    refine g_icmp_ne h 98 dX10_readTests_82 (by decide) ?_ ?_
    · exact M_readTests_B98_w h hE hkw hKs hSt _ _ hrec hk72 hk133 hk214
    · refine g_aload_n h 0 dX10_readTests_85 rfl ?_
      refine m_get h hinX10 42 (by decide) rfl tW_948 dX10_readTests_86 ?_
      refine g_bipush (v := 60) h dX10_readTests_89 (by decide) ?_
      refine g_icmp_ne h 98 dX10_readTests_91 (by decide) ?_ ?_
      · exact M_readTests_B98_w h hE hkw hKs hSt _ _ hrec hk72 hk133 hk214
      · refine g_iconst (v := 1) h dX10_readTests_94 (by decide) ?_
        refine g_goto h 99 dX10_readTests_95 (by decide) ?_
        exact M_readTests_B99_w h hE hkw hKs hSt _ _ _ hrec hk72 hk133 hk214
  · refine g_lv [] [] rfl ?_
    exact hk72 _
def M_readTests_L15 {Rt : Type} (k72 : Ms → Option Rt) (k133 : Ms → Option Rt) (k214 : Ms → Option Rt) : Nat → Ms → Int32 → Option Rt
  | 0, _, _ => none
  | F + 1, s0, l1 =>
  if s0.1 45 = 0 then
      if l1 = 0 then
        k214 s0
      else
        (M_numbered s0 (97 : Int32) (3 : Int32)).bind (fun r_30 =>
        if r_30 = (-1 : Int32) then
          (M_wrong s0 (1 : Int32)).bind (fun s_41 =>
          M_readTests_B65 s_41 (M_readTests_L15 k72 k133 k214 F) k72 k133 k214 r_30)
        else
          if okI (s0.1 47) 192 = true then
          if s0.2 34 (s0.1 47).toNatClampNeg = (4 : Int32) then
            (M_wrong s0 (2 : Int32)).bind (fun s_62 =>
            M_readTests_B65 s_62 (M_readTests_L15 k72 k133 k214 F) k72 k133 k214 r_30)
          else
            M_readTests_B65 s0 (M_readTests_L15 k72 k133 k214 F) k72 k133 k214 r_30
          else none)
    else
      k214 s0
set_option maxHeartbeats 4000000 in
set_option maxRecDepth 100000 in
theorem M_readTests_L15_w {p : Program} {l : Launch} {e : Env} {s : State} {m : MethodId} {args : Array Value} {below : List Frame} {meth : Method} {c : Code} {A : Nat → Prop} {Ke : State → Prop} {D : va_G} {cI cZ : ClassId} {E : State → Heap → Prop} {h0 : Nat} {ps : Nat → Nat} {adS adV : Nat → Nat} (h : gOk p s m args meth c cX10_readTests 5 RX10 tb) (hE : mEok E A) (hkw : gKw Ke) (hKs : Ke s) (hSt : sSt Ke A (MW D cI cZ E A h0 ps) adS adV) {Rt : Type} {QX : Rt → State → Prop}  {k72 : Ms → Option Rt} {k133 : Ms → Option Rt} {k214 : Ms → Option Rt} (hk72 : ∀ (sx : Ms), gS p l e rm_X10_readTests s m args below meth c 5 A (MW D cI cZ E A h0 ps) QX 0 0 (k72 sx) sx 72 [] []) (hk133 : ∀ (sx : Ms), gS p l e rm_X10_readTests s m args below meth c 5 A (MW D cI cZ E A h0 ps) QX 0 0 (k133 sx) sx 133 [] []) (hk214 : ∀ (sx : Ms), gS p l e rm_X10_readTests s m args below meth c 5 A (MW D cI cZ E A h0 ps) QX 0 0 (k214 sx) sx 214 [] []) : ∀ (F : Nat) (s0 : Ms) (l1 : Int32), gS p l e rm_X10_readTests s m args below meth c 5 A (MW D cI cZ E A h0 ps) QX 0 0 (M_readTests_L15 k72 k133 k214 F s0 l1) s0 15 [(0, .ref h0), (1, .int l1)] [] := by
  intro F
  induction F with
  | zero =>
    intro s0 l1
    unfold M_readTests_L15
    exact g_none
  | succ F ih =>
    intro s0 l1
    unfold M_readTests_L15
    refine g_aload_n h 0 dX10_readTests_15 rfl ?_
    refine m_get h hinX10 45 (by decide) rfl tW_951 dX10_readTests_16 ?_
    refine g_if_ne h 214 dX10_readTests_19 (by decide) ?_ ?_
    · refine g_lv [] [] rfl ?_
      exact hk214 _
    · refine g_iload_n h 1 dX10_readTests_22 rfl ?_
      refine g_if_eq h 214 dX10_readTests_23 (by decide) ?_ ?_
      · refine g_lv [] [] rfl ?_
        exact hk214 _
      · refine g_aload_n h 0 dX10_readTests_26 rfl ?_
        refine g_bipush (v := 97) h dX10_readTests_27 (by decide) ?_
        refine g_iconst (v := 3) h dX10_readTests_29 (by decide) ?_
        refine g_callV0p h (MW_mv hE) hkw hKs [.int (97 : Int32), .int (3 : Int32)] (c_X10_numbered hE hkw s0 (97 : Int32) (3 : Int32)) yk_X10_numbered tW_1186 ⟨(Nat.le_of_ble_eq_true rfl), (Nat.le_of_ble_eq_true rfl)⟩ MW_recv rfl rfl rfl rfl (Nat.le_of_ble_eq_true rfl) dX10_readTests_30 ⟨Nat.zero_le _, Nat.zero_le _⟩ (fun r_30 => ?_)
        refine g_istore_n h [(2, .int r_30), (0, .ref h0), (1, .int l1)] dX10_readTests_33 (by decide) rfl ?_
        refine g_iload_n h 0 dX10_readTests_34 rfl ?_
        refine g_iconst (v := -1) h dX10_readTests_35 (by decide) ?_
        refine g_icmp_ne h 47 dX10_readTests_36 (by decide) ?_ ?_
        · refine g_aload_n h 1 dX10_readTests_47 rfl ?_
          refine m_geta h hinX10 34 (by decide) rfl tW_940 dX10_readTests_48 ?_
          refine g_aload_n h 1 dX10_readTests_51 rfl ?_
          refine m_get h hinX10 47 (by decide) rfl tW_953 dX10_readTests_52 ?_
          refine m_iald h 34 rfl rfl 192 rfl dX10_readTests_55 ?_
          refine g_iconst (v := 4) h dX10_readTests_56 (by decide) ?_
          refine g_icmp_ne h 65 dX10_readTests_57 (by decide) ?_ ?_
          · refine g_lv [(0, .ref h0), (2, .int r_30)] [1, 0] rfl ?_
            exact M_readTests_B65_w h hE hkw hKs hSt _ _ (ih) hk72 hk133 hk214
          · refine g_aload_n h 1 dX10_readTests_60 rfl ?_
            refine g_iconst (v := 2) h dX10_readTests_61 (by decide) ?_
            refine g_callV0v h (MW_mv hE) hkw hKs [.int (2 : Int32)] (c_X10_wrong hE hkw s0 (2 : Int32)) yk_X10_wrong tW_1169 ⟨(Nat.le_of_ble_eq_true rfl), (Nat.le_of_ble_eq_true rfl)⟩ MW_recv rfl rfl rfl rfl (Nat.le_of_ble_eq_true rfl) dX10_readTests_62 ⟨Nat.zero_le _, Nat.zero_le _⟩ (fun s_62 => ?_)
            refine g_lv [(0, .ref h0), (2, .int r_30)] [1, 0] rfl ?_
            exact M_readTests_B65_w h hE hkw hKs hSt _ _ (ih) hk72 hk133 hk214
        · refine g_aload_n h 1 dX10_readTests_39 rfl ?_
          refine g_iconst (v := 1) h dX10_readTests_40 (by decide) ?_
          refine g_callV0v h (MW_mv hE) hkw hKs [.int (1 : Int32)] (c_X10_wrong hE hkw s0 (1 : Int32)) yk_X10_wrong tW_1169 ⟨(Nat.le_of_ble_eq_true rfl), (Nat.le_of_ble_eq_true rfl)⟩ MW_recv rfl rfl rfl rfl (Nat.le_of_ble_eq_true rfl) dX10_readTests_41 ⟨Nat.zero_le _, Nat.zero_le _⟩ (fun s_41 => ?_)
          refine g_goto h 65 dX10_readTests_44 (by decide) ?_
          refine g_lv [(0, .ref h0), (2, .int r_30)] [1, 0] rfl ?_
          exact M_readTests_B65_w h hE hkw hKs hSt _ _ (ih) hk72 hk133 hk214
def M_readTests_B214 (s0 : Ms)  : Option (Ms) :=
  some s0
set_option maxHeartbeats 4000000 in
set_option maxRecDepth 100000 in
theorem M_readTests_B214_w {p : Program} {l : Launch} {e : Env} {s : State} {m : MethodId} {args : Array Value} {below : List Frame} {meth : Method} {c : Code} {A : Nat → Prop} {Ke : State → Prop} {D : va_G} {cI cZ : ClassId} {E : State → Heap → Prop} {h0 : Nat} {ps : Nat → Nat} {adS adV : Nat → Nat} (h : gOk p s m args meth c cX10_readTests 5 RX10 tb) (hE : mEok E A) (hkw : gKw Ke) (hKs : Ke s) (hSt : sSt Ke A (MW D cI cZ E A h0 ps) adS adV) (s0 : Ms)  (hr : meth.sig.returnType = none)  : gS p l e rm_X10_readTests s m args below meth c 5 A (MW D cI cZ E A h0 ps) (fun X => MQ below (gPv (MW D cI cZ E A h0 ps) A X) args s rm_X10_readTests.cells rm_X10_readTests.slots A) 0 0 (M_readTests_B214 s0) s0 214 [] [] := by
  unfold M_readTests_B214
  exact g_vret h (MW_mv hE) hr (Nat.le_refl _) (Nat.le_refl _) dX10_readTests_214
def M_readTests (s0 : Ms)  : Option (Ms) :=
  (M_isWord s0 (sW 9)).bind (fun r_3 =>
  if r_3 = 0 then
    M_readTests_L15 (fun s_72 => some s_72) (fun s_133 => some s_133) (fun s_214 => M_readTests_B214 s_214) gF s0 r_3
  else
    (M_step s0).bind (fun s_12 =>
    M_readTests_L15 (fun s_72 => some s_72) (fun s_133 => some s_133) (fun s_214 => M_readTests_B214 s_214) gF s_12 r_3))
set_option maxHeartbeats 4000000 in
set_option maxRecDepth 100000 in
theorem c_X10_readTests {l : Launch} {A : Nat → Prop} {Ke : State → Prop} {D : va_G} {cI cZ : ClassId} {E : State → Heap → Prop} {h0 : Nat} {ps : Nat → Nat} {adS adV : Nat → Nat} (hE : mEok E A) (hkw : gKw Ke) (hSt : sSt Ke A (MW D cI cZ E A h0 ps) adS adV) (s0 : Ms)  : gCv l yX10_readTests cX10_readTests 5 (none) rm_X10_readTests Ke (MW D cI cZ E A h0 ps) A [.ref h0] s0 (M_readTests s0 ) := by
  refine g_metv (by decide) (by simp [lg_sl, Value.category]) ?_
  intro p e s m below meth c h hr hKs
  refine g_lv [(0, .ref h0)] [0] rfl ?_
  unfold M_readTests
  refine g_aload_n h 0 dX10_readTests_0 rfl ?_
  refine g_ldcS h (hSt.2.2 _ hKs 9 (by decide)) dX10_readTests_1 ?_
  refine g_callV0p h (MW_mv hE) hkw hKs [.ref (adS 9)] (c_X10_isWord hE hkw hSt (hSt.2.1 9 (by decide)) (by decide) s0 ) yk_X10_isWord tW_1161 ⟨(Nat.le_of_ble_eq_true rfl), (Nat.le_of_ble_eq_true rfl)⟩ MW_recv rfl rfl rfl rfl (Nat.le_of_ble_eq_true rfl) dX10_readTests_3 ⟨Nat.zero_le _, Nat.zero_le _⟩ (fun r_3 => ?_)
  refine g_istore_n h [(1, .int r_3), (0, .ref h0)] dX10_readTests_6 (by decide) rfl ?_
  refine g_iload_n h 0 dX10_readTests_7 rfl ?_
  refine g_if_eq h 15 dX10_readTests_8 (by decide) ?_ ?_
  · refine g_lv [(0, .ref h0), (1, .int r_3)] [1, 0] rfl ?_
    refine M_readTests_L15_w h hE hkw hKs hSt  (fun s_72 => ?_) (fun s_133 => ?_) (fun s_214 => ?_) _ _ _
    · exact g_vret h (MW_mv hE) hr (Nat.le_refl _) (Nat.le_refl _) dX10_readTests_72
    · exact g_vret h (MW_mv hE) hr (Nat.le_refl _) (Nat.le_refl _) dX10_readTests_133
    · exact M_readTests_B214_w h hE hkw hKs hSt _  hr
  · refine g_aload_n h 1 dX10_readTests_11 rfl ?_
    refine g_callV0v h (MW_mv hE) hkw hKs [] (c_X10_step hE hkw s0 ) yk_X10_step tW_1146 ⟨(Nat.le_of_ble_eq_true rfl), (Nat.le_of_ble_eq_true rfl)⟩ MW_recv rfl rfl rfl rfl (Nat.le_of_ble_eq_true rfl) dX10_readTests_12 ⟨Nat.zero_le _, Nat.zero_le _⟩ (fun s_12 => ?_)
    refine g_lv [(0, .ref h0), (1, .int r_3)] [1, 0] rfl ?_
    refine M_readTests_L15_w h hE hkw hKs hSt  (fun s_72 => ?_) (fun s_133 => ?_) (fun s_214 => ?_) _ _ _
    · exact g_vret h (MW_mv hE) hr (Nat.le_refl _) (Nat.le_refl _) dX10_readTests_72
    · exact g_vret h (MW_mv hE) hr (Nat.le_refl _) (Nat.le_refl _) dX10_readTests_133
    · exact M_readTests_B214_w h hE hkw hKs hSt _  hr
def rm_X10_readRule : Room := { frames := 6, cells := 0, slots := 0, locals := 132 }
theorem yk_X10_readRule : yOkV yX10_readRule cX10_readRule 4 (none) RX10 0 := ⟨tW_1176, tW_5, tW_1175, tP_41, by decide, by decide, by decide +kernel⟩
def M_readRule_B373 (s0 : Ms)  : Option (Ms) :=
  some s0
set_option maxHeartbeats 4000000 in
set_option maxRecDepth 100000 in
theorem M_readRule_B373_w {p : Program} {l : Launch} {e : Env} {s : State} {m : MethodId} {args : Array Value} {below : List Frame} {meth : Method} {c : Code} {A : Nat → Prop} {Ke : State → Prop} {D : va_G} {cI cZ : ClassId} {E : State → Heap → Prop} {h0 : Nat} {ps : Nat → Nat} {adS adV : Nat → Nat} (h : gOk p s m args meth c cX10_readRule 4 RX10 tb) (hE : mEok E A) (hkw : gKw Ke) (hKs : Ke s) (hSt : sSt Ke A (MW D cI cZ E A h0 ps) adS adV) (s0 : Ms)  (hr : meth.sig.returnType = none)  : gS p l e rm_X10_readRule s m args below meth c 4 A (MW D cI cZ E A h0 ps) (fun X => MQ below (gPv (MW D cI cZ E A h0 ps) A X) args s rm_X10_readRule.cells rm_X10_readRule.slots A) 0 0 (M_readRule_B373 s0) s0 373 [] [] := by
  unfold M_readRule_B373
  exact g_vret h (MW_mv hE) hr (Nat.le_refl _) (Nat.le_refl _) dX10_readRule_373
def M_readRule_B362 (s0 : Ms)  : Option (Ms) :=
  if s0.1 45 = 0 then
    (M_step s0).bind (fun s_370 =>
    M_readRule_B373 s_370)
  else
    M_readRule_B373 s0
set_option maxHeartbeats 4000000 in
set_option maxRecDepth 100000 in
theorem M_readRule_B362_w {p : Program} {l : Launch} {e : Env} {s : State} {m : MethodId} {args : Array Value} {below : List Frame} {meth : Method} {c : Code} {A : Nat → Prop} {Ke : State → Prop} {D : va_G} {cI cZ : ClassId} {E : State → Heap → Prop} {h0 : Nat} {ps : Nat → Nat} {adS adV : Nat → Nat} (h : gOk p s m args meth c cX10_readRule 4 RX10 tb) (hE : mEok E A) (hkw : gKw Ke) (hKs : Ke s) (hSt : sSt Ke A (MW D cI cZ E A h0 ps) adS adV) (s0 : Ms)  (hr : meth.sig.returnType = none)  : gS p l e rm_X10_readRule s m args below meth c 4 A (MW D cI cZ E A h0 ps) (fun X => MQ below (gPv (MW D cI cZ E A h0 ps) A X) args s rm_X10_readRule.cells rm_X10_readRule.slots A) 0 0 (M_readRule_B362 s0) s0 362 [(0, .ref h0)] [] := by
  unfold M_readRule_B362
  refine g_aload_n h 0 dX10_readRule_362 rfl ?_
  refine m_get h hinX10 45 (by decide) rfl tW_951 dX10_readRule_363 ?_
  refine g_if_ne h 373 dX10_readRule_366 (by decide) ?_ ?_
  · refine g_lv [] [] rfl ?_
    exact M_readRule_B373_w h hE hkw hKs hSt _  hr
  · refine g_aload_n h 0 dX10_readRule_369 rfl ?_
    refine g_callV0v h (MW_mv hE) hkw hKs [] (c_X10_step hE hkw s0 ) yk_X10_step tW_1146 ⟨(Nat.le_of_ble_eq_true rfl), (Nat.le_of_ble_eq_true rfl)⟩ MW_recv rfl rfl rfl rfl (Nat.le_of_ble_eq_true rfl) dX10_readRule_370 ⟨Nat.zero_le _, Nat.zero_le _⟩ (fun s_370 => ?_)
    refine g_lv [] [] rfl ?_
    exact M_readRule_B373_w h hE hkw hKs hSt _  hr
def M_readRule_B357 (s0 : Ms)  : Option (Ms) :=
  (M_wrong s0 (1 : Int32)).bind (fun s_359 =>
  M_readRule_B362 s_359)
set_option maxHeartbeats 4000000 in
set_option maxRecDepth 100000 in
theorem M_readRule_B357_w {p : Program} {l : Launch} {e : Env} {s : State} {m : MethodId} {args : Array Value} {below : List Frame} {meth : Method} {c : Code} {A : Nat → Prop} {Ke : State → Prop} {D : va_G} {cI cZ : ClassId} {E : State → Heap → Prop} {h0 : Nat} {ps : Nat → Nat} {adS adV : Nat → Nat} (h : gOk p s m args meth c cX10_readRule 4 RX10 tb) (hE : mEok E A) (hkw : gKw Ke) (hKs : Ke s) (hSt : sSt Ke A (MW D cI cZ E A h0 ps) adS adV) (s0 : Ms)  (hr : meth.sig.returnType = none)  : gS p l e rm_X10_readRule s m args below meth c 4 A (MW D cI cZ E A h0 ps) (fun X => MQ below (gPv (MW D cI cZ E A h0 ps) A X) args s rm_X10_readRule.cells rm_X10_readRule.slots A) 0 0 (M_readRule_B357 s0) s0 357 [(0, .ref h0)] [] := by
  unfold M_readRule_B357
  refine g_aload_n h 0 dX10_readRule_357 rfl ?_
  refine g_iconst (v := 1) h dX10_readRule_358 (by decide) ?_
  refine g_callV0v h (MW_mv hE) hkw hKs [.int (1 : Int32)] (c_X10_wrong hE hkw s0 (1 : Int32)) yk_X10_wrong tW_1169 ⟨(Nat.le_of_ble_eq_true rfl), (Nat.le_of_ble_eq_true rfl)⟩ MW_recv rfl rfl rfl rfl (Nat.le_of_ble_eq_true rfl) dX10_readRule_359 ⟨Nat.zero_le _, Nat.zero_le _⟩ (fun s_359 => ?_)
  exact M_readRule_B362_w h hE hkw hKs hSt _  hr
def M_readRule_B333 (s0 : Ms)  : Option (Ms) :=
  if s0.1 45 = 0 then
    if s0.1 41 = (3 : Int32) then
      if s0.1 42 = (59 : Int32) then
        M_readRule_B362 s0
      else
        M_readRule_B357 s0
    else
      M_readRule_B357 s0
  else
    M_readRule_B362 s0
set_option maxHeartbeats 4000000 in
set_option maxRecDepth 100000 in
theorem M_readRule_B333_w {p : Program} {l : Launch} {e : Env} {s : State} {m : MethodId} {args : Array Value} {below : List Frame} {meth : Method} {c : Code} {A : Nat → Prop} {Ke : State → Prop} {D : va_G} {cI cZ : ClassId} {E : State → Heap → Prop} {h0 : Nat} {ps : Nat → Nat} {adS adV : Nat → Nat} (h : gOk p s m args meth c cX10_readRule 4 RX10 tb) (hE : mEok E A) (hkw : gKw Ke) (hKs : Ke s) (hSt : sSt Ke A (MW D cI cZ E A h0 ps) adS adV) (s0 : Ms)  (hr : meth.sig.returnType = none)  : gS p l e rm_X10_readRule s m args below meth c 4 A (MW D cI cZ E A h0 ps) (fun X => MQ below (gPv (MW D cI cZ E A h0 ps) A X) args s rm_X10_readRule.cells rm_X10_readRule.slots A) 0 0 (M_readRule_B333 s0) s0 333 [(0, .ref h0)] [] := by
  unfold M_readRule_B333
  refine g_aload_n h 0 dX10_readRule_333 rfl ?_
  refine m_get h hinX10 45 (by decide) rfl tW_951 dX10_readRule_334 ?_
  refine g_if_ne h 362 dX10_readRule_337 (by decide) ?_ ?_
  · exact M_readRule_B362_w h hE hkw hKs hSt _  hr
  · refine g_aload_n h 0 dX10_readRule_340 rfl ?_
    refine m_get h hinX10 41 (by decide) rfl tW_947 dX10_readRule_341 ?_
    refine g_iconst (v := 3) h dX10_readRule_344 (by decide) ?_
    refine g_icmp_ne h 357 dX10_readRule_345 (by decide) ?_ ?_
    · exact M_readRule_B357_w h hE hkw hKs hSt _  hr
    · refine g_aload_n h 0 dX10_readRule_348 rfl ?_
      refine m_get h hinX10 42 (by decide) rfl tW_948 dX10_readRule_349 ?_
      refine g_bipush (v := 59) h dX10_readRule_352 (by decide) ?_
      refine g_icmp_eq h 362 dX10_readRule_354 (by decide) ?_ ?_
      · exact M_readRule_B362_w h hE hkw hKs hSt _  hr
      · exact M_readRule_B357_w h hE hkw hKs hSt _  hr
def M_readRule_B302 (s0 : Ms)  : Option (Ms) :=
  (M_readTests s0).bind (fun s_303 =>
  (M_isWord s_303 (sW 11)).bind (fun r_310 =>
  if r_310 = 0 then
    M_readRule_B333 s_303
  else
    (M_step s_303).bind (fun s_317 =>
    bi (M_readNumber s_317) (fun r_329 s_329 =>
    if okI (s_317.1 47) 192 = true then
    bnd (mSto s_329 33 (s_317.1 47).toNatClampNeg r_329) (fun s_332 =>
    M_readRule_B333 s_332)
    else none))))
set_option maxHeartbeats 4000000 in
set_option maxRecDepth 100000 in
theorem M_readRule_B302_w {p : Program} {l : Launch} {e : Env} {s : State} {m : MethodId} {args : Array Value} {below : List Frame} {meth : Method} {c : Code} {A : Nat → Prop} {Ke : State → Prop} {D : va_G} {cI cZ : ClassId} {E : State → Heap → Prop} {h0 : Nat} {ps : Nat → Nat} {adS adV : Nat → Nat} (h : gOk p s m args meth c cX10_readRule 4 RX10 tb) (hE : mEok E A) (hkw : gKw Ke) (hKs : Ke s) (hSt : sSt Ke A (MW D cI cZ E A h0 ps) adS adV) (s0 : Ms)  (hr : meth.sig.returnType = none)  : gS p l e rm_X10_readRule s m args below meth c 4 A (MW D cI cZ E A h0 ps) (fun X => MQ below (gPv (MW D cI cZ E A h0 ps) A X) args s rm_X10_readRule.cells rm_X10_readRule.slots A) 0 0 (M_readRule_B302 s0) s0 302 [(0, .ref h0)] [] := by
  unfold M_readRule_B302
  refine g_aload_n h 0 dX10_readRule_302 rfl ?_
  refine g_callV0v h (MW_mv hE) hkw hKs [] (c_X10_readTests hE hkw hSt s0 ) yk_X10_readTests tW_1203 ⟨(Nat.le_of_ble_eq_true rfl), (Nat.le_of_ble_eq_true rfl)⟩ MW_recv rfl rfl rfl rfl (Nat.le_of_ble_eq_true rfl) dX10_readRule_303 ⟨Nat.zero_le _, Nat.zero_le _⟩ (fun s_303 => ?_)
  refine g_aload_n h 0 dX10_readRule_306 rfl ?_
  refine g_ldcwS h (hSt.2.2 _ hKs 11 (by decide)) dX10_readRule_307 ?_
  refine g_callV0p h (MW_mv hE) hkw hKs [.ref (adS 11)] (c_X10_isWord hE hkw hSt (hSt.2.1 11 (by decide)) (by decide) s_303 ) yk_X10_isWord tW_1161 ⟨(Nat.le_of_ble_eq_true rfl), (Nat.le_of_ble_eq_true rfl)⟩ MW_recv rfl rfl rfl rfl (Nat.le_of_ble_eq_true rfl) dX10_readRule_310 ⟨Nat.zero_le _, Nat.zero_le _⟩ (fun r_310 => ?_)
  refine g_if_eq h 333 dX10_readRule_313 (by decide) ?_ ?_
  · exact M_readRule_B333_w h hE hkw hKs hSt _  hr
  · refine g_aload_n h 0 dX10_readRule_316 rfl ?_
    refine g_callV0v h (MW_mv hE) hkw hKs [] (c_X10_step hE hkw s_303 ) yk_X10_step tW_1146 ⟨(Nat.le_of_ble_eq_true rfl), (Nat.le_of_ble_eq_true rfl)⟩ MW_recv rfl rfl rfl rfl (Nat.le_of_ble_eq_true rfl) dX10_readRule_317 ⟨Nat.zero_le _, Nat.zero_le _⟩ (fun s_317 => ?_)
    refine g_aload_n h 0 dX10_readRule_320 rfl ?_
    refine m_geta h hinX10 33 (by decide) rfl tW_939 dX10_readRule_321 ?_
    refine g_aload_n h 0 dX10_readRule_324 rfl ?_
    refine m_get h hinX10 47 (by decide) rfl tW_953 dX10_readRule_325 ?_
    refine g_aload_n h 0 dX10_readRule_328 rfl ?_
    refine g_callV0i h (MW_mv hE) hkw hKs [] (c_X10_readNumber hE hkw s_317 ) yk_X10_readNumber tW_1191 ⟨(Nat.le_of_ble_eq_true rfl), (Nat.le_of_ble_eq_true rfl)⟩ MW_recv rfl rfl rfl rfl (Nat.le_of_ble_eq_true rfl) dX10_readRule_329 ⟨Nat.zero_le _, Nat.zero_le _⟩ (fun r_329 s_329 => ?_)
    refine m_iast h hE 33 rfl rfl 192 rfl dX10_readRule_332 ?_
    refine g_bnd (fun s_332 => ?_)
    exact M_readRule_B333_w h hE hkw hKs hSt _  hr
def M_readRule_B187 (s0 : Ms)  : Option (Ms) :=
  (M_word s0 (sW 8)).bind (fun s_191 =>
  bi (M_readNumbered s_191 (101 : Int32) (3 : Int32)) (fun r_206 s_206 =>
  if okI (s_191.1 47) 192 = true then
  bnd (mSto s_206 31 (s_191.1 47).toNatClampNeg r_206) (fun s_209 =>
  M_readRule_B302 s_209)
  else none))
set_option maxHeartbeats 4000000 in
set_option maxRecDepth 100000 in
theorem M_readRule_B187_w {p : Program} {l : Launch} {e : Env} {s : State} {m : MethodId} {args : Array Value} {below : List Frame} {meth : Method} {c : Code} {A : Nat → Prop} {Ke : State → Prop} {D : va_G} {cI cZ : ClassId} {E : State → Heap → Prop} {h0 : Nat} {ps : Nat → Nat} {adS adV : Nat → Nat} (h : gOk p s m args meth c cX10_readRule 4 RX10 tb) (hE : mEok E A) (hkw : gKw Ke) (hKs : Ke s) (hSt : sSt Ke A (MW D cI cZ E A h0 ps) adS adV) (s0 : Ms)  (hr : meth.sig.returnType = none)  : gS p l e rm_X10_readRule s m args below meth c 4 A (MW D cI cZ E A h0 ps) (fun X => MQ below (gPv (MW D cI cZ E A h0 ps) A X) args s rm_X10_readRule.cells rm_X10_readRule.slots A) 0 0 (M_readRule_B187 s0) s0 187 [(0, .ref h0)] [] := by
  unfold M_readRule_B187
  refine g_aload_n h 0 dX10_readRule_187 rfl ?_
  refine g_ldcwS h (hSt.2.2 _ hKs 8 (by decide)) dX10_readRule_188 ?_
  refine g_callV0v h (MW_mv hE) hkw hKs [.ref (adS 8)] (c_X10_word hE hkw hSt (hSt.2.1 8 (by decide)) (by decide) s0 ) yk_X10_word tW_1199 ⟨(Nat.le_of_ble_eq_true rfl), (Nat.le_of_ble_eq_true rfl)⟩ MW_recv rfl rfl rfl rfl (Nat.le_of_ble_eq_true rfl) dX10_readRule_191 ⟨Nat.zero_le _, Nat.zero_le _⟩ (fun s_191 => ?_)
  refine g_aload_n h 0 dX10_readRule_194 rfl ?_
  refine m_geta h hinX10 31 (by decide) rfl tW_937 dX10_readRule_195 ?_
  refine g_aload_n h 0 dX10_readRule_198 rfl ?_
  refine m_get h hinX10 47 (by decide) rfl tW_953 dX10_readRule_199 ?_
  refine g_aload_n h 0 dX10_readRule_202 rfl ?_
  refine g_bipush (v := 101) h dX10_readRule_203 (by decide) ?_
  refine g_iconst (v := 3) h dX10_readRule_205 (by decide) ?_
  refine g_callV0i h (MW_mv hE) hkw hKs [.int (101 : Int32), .int (3 : Int32)] (c_X10_readNumbered hE hkw s_191 (101 : Int32) (3 : Int32)) yk_X10_readNumbered tW_1182 ⟨(Nat.le_of_ble_eq_true rfl), (Nat.le_of_ble_eq_true rfl)⟩ MW_recv rfl rfl rfl rfl (Nat.le_of_ble_eq_true rfl) dX10_readRule_206 ⟨Nat.zero_le _, Nat.zero_le _⟩ (fun r_206 s_206 => ?_)
  refine m_iast h hE 31 rfl rfl 192 rfl dX10_readRule_209 ?_
  refine g_bnd (fun s_209 => ?_)
  refine g_goto h 302 dX10_readRule_210 (by decide) ?_
  exact M_readRule_B302_w h hE hkw hKs hSt _  hr
def M_readRule_B176 (s0 : Ms)  : Option (Ms) :=
  if s0.1 45 = 0 then
    (M_step s0).bind (fun s_184 =>
    M_readRule_B187 s_184)
  else
    M_readRule_B187 s0
set_option maxHeartbeats 4000000 in
set_option maxRecDepth 100000 in
theorem M_readRule_B176_w {p : Program} {l : Launch} {e : Env} {s : State} {m : MethodId} {args : Array Value} {below : List Frame} {meth : Method} {c : Code} {A : Nat → Prop} {Ke : State → Prop} {D : va_G} {cI cZ : ClassId} {E : State → Heap → Prop} {h0 : Nat} {ps : Nat → Nat} {adS adV : Nat → Nat} (h : gOk p s m args meth c cX10_readRule 4 RX10 tb) (hE : mEok E A) (hkw : gKw Ke) (hKs : Ke s) (hSt : sSt Ke A (MW D cI cZ E A h0 ps) adS adV) (s0 : Ms)  (hr : meth.sig.returnType = none)  : gS p l e rm_X10_readRule s m args below meth c 4 A (MW D cI cZ E A h0 ps) (fun X => MQ below (gPv (MW D cI cZ E A h0 ps) A X) args s rm_X10_readRule.cells rm_X10_readRule.slots A) 0 0 (M_readRule_B176 s0) s0 176 [(0, .ref h0)] [] := by
  unfold M_readRule_B176
  refine g_aload_n h 0 dX10_readRule_176 rfl ?_
  refine m_get h hinX10 45 (by decide) rfl tW_951 dX10_readRule_177 ?_
  refine g_if_ne h 187 dX10_readRule_180 (by decide) ?_ ?_
  · exact M_readRule_B187_w h hE hkw hKs hSt _  hr
  · refine g_aload_n h 0 dX10_readRule_183 rfl ?_
    refine g_callV0v h (MW_mv hE) hkw hKs [] (c_X10_step hE hkw s0 ) yk_X10_step tW_1146 ⟨(Nat.le_of_ble_eq_true rfl), (Nat.le_of_ble_eq_true rfl)⟩ MW_recv rfl rfl rfl rfl (Nat.le_of_ble_eq_true rfl) dX10_readRule_184 ⟨Nat.zero_le _, Nat.zero_le _⟩ (fun s_184 => ?_)
    exact M_readRule_B187_w h hE hkw hKs hSt _  hr
def M_readRule_B150 (s0 : Ms) (t0 : Int32) (t1 : Int32) : Option (Ms) :=
  if okI t1 192 = true then
  bnd (mSto s0 30 t1.toNatClampNeg t0) (fun s_150 =>
  if s_150.1 45 = 0 then
    if okI (s_150.1 47) 192 = true then
    if s_150.2 30 (s_150.1 47).toNatClampNeg = (-1 : Int32) then
      (M_wrong s_150 (1 : Int32)).bind (fun s_173 =>
      M_readRule_B176 s_173)
    else
      M_readRule_B176 s_150
    else none
  else
    M_readRule_B176 s_150)
  else none
set_option maxHeartbeats 4000000 in
set_option maxRecDepth 100000 in
theorem M_readRule_B150_w {p : Program} {l : Launch} {e : Env} {s : State} {m : MethodId} {args : Array Value} {below : List Frame} {meth : Method} {c : Code} {A : Nat → Prop} {Ke : State → Prop} {D : va_G} {cI cZ : ClassId} {E : State → Heap → Prop} {h0 : Nat} {ps : Nat → Nat} {adS adV : Nat → Nat} (h : gOk p s m args meth c cX10_readRule 4 RX10 tb) (hE : mEok E A) (hkw : gKw Ke) (hKs : Ke s) (hSt : sSt Ke A (MW D cI cZ E A h0 ps) adS adV) (s0 : Ms) (t0 : Int32) (t1 : Int32) (hr : meth.sig.returnType = none)  : gS p l e rm_X10_readRule s m args below meth c 4 A (MW D cI cZ E A h0 ps) (fun X => MQ below (gPv (MW D cI cZ E A h0 ps) A X) args s rm_X10_readRule.cells rm_X10_readRule.slots A) 0 0 (M_readRule_B150 s0 t0 t1) s0 150 [(0, .ref h0)] [.int t0, .int t1, .ref (ps 30)] := by
  unfold M_readRule_B150
  refine m_iast h hE 30 rfl rfl 192 rfl dX10_readRule_150 ?_
  refine g_bnd (fun s_150 => ?_)
  refine g_aload_n h 0 dX10_readRule_151 rfl ?_
  refine m_get h hinX10 45 (by decide) rfl tW_951 dX10_readRule_152 ?_
  refine g_if_ne h 176 dX10_readRule_155 (by decide) ?_ ?_
  · exact M_readRule_B176_w h hE hkw hKs hSt _  hr
  · refine g_aload_n h 0 dX10_readRule_158 rfl ?_
    refine m_geta h hinX10 30 (by decide) rfl tW_936 dX10_readRule_159 ?_
    refine g_aload_n h 0 dX10_readRule_162 rfl ?_
    refine m_get h hinX10 47 (by decide) rfl tW_953 dX10_readRule_163 ?_
    refine m_iald h 30 rfl rfl 192 rfl dX10_readRule_166 ?_
    refine g_iconst (v := -1) h dX10_readRule_167 (by decide) ?_
    refine g_icmp_ne h 176 dX10_readRule_168 (by decide) ?_ ?_
    · exact M_readRule_B176_w h hE hkw hKs hSt _  hr
    · refine g_aload_n h 0 dX10_readRule_171 rfl ?_
      refine g_iconst (v := 1) h dX10_readRule_172 (by decide) ?_
      refine g_callV0v h (MW_mv hE) hkw hKs [.int (1 : Int32)] (c_X10_wrong hE hkw s_150 (1 : Int32)) yk_X10_wrong tW_1169 ⟨(Nat.le_of_ble_eq_true rfl), (Nat.le_of_ble_eq_true rfl)⟩ MW_recv rfl rfl rfl rfl (Nat.le_of_ble_eq_true rfl) dX10_readRule_173 ⟨Nat.zero_le _, Nat.zero_le _⟩ (fun s_173 => ?_)
      exact M_readRule_B176_w h hE hkw hKs hSt _  hr
def M_readRule_B86 (s0 : Ms)  : Option (Ms) :=
  bi (M_readNumber s0) (fun r_95 s_95 =>
  if okI (s0.1 47) 192 = true then
  bnd (mSto s_95 29 (s0.1 47).toNatClampNeg r_95) (fun s_98 =>
  (M_isWord s_98 (sW 5)).bind (fun r_110 =>
  if r_110 = 0 then
    (M_isWord s_98 (sW 6)).bind (fun r_124 =>
    if r_124 = 0 then
      (M_isWord s_98 (sW 7)).bind (fun r_138 =>
      if r_138 = 0 then
        M_readRule_B150 s_98 (-1 : Int32) (s_98.1 47)
      else
        M_readRule_B150 s_98 (12 : Int32) (s_98.1 47))
    else
      M_readRule_B150 s_98 (1 : Int32) (s_98.1 47))
  else
    M_readRule_B150 s_98 (0 : Int32) (s_98.1 47)))
  else none)
set_option maxHeartbeats 4000000 in
set_option maxRecDepth 100000 in
theorem M_readRule_B86_w {p : Program} {l : Launch} {e : Env} {s : State} {m : MethodId} {args : Array Value} {below : List Frame} {meth : Method} {c : Code} {A : Nat → Prop} {Ke : State → Prop} {D : va_G} {cI cZ : ClassId} {E : State → Heap → Prop} {h0 : Nat} {ps : Nat → Nat} {adS adV : Nat → Nat} (h : gOk p s m args meth c cX10_readRule 4 RX10 tb) (hE : mEok E A) (hkw : gKw Ke) (hKs : Ke s) (hSt : sSt Ke A (MW D cI cZ E A h0 ps) adS adV) (s0 : Ms)  (hr : meth.sig.returnType = none)  : gS p l e rm_X10_readRule s m args below meth c 4 A (MW D cI cZ E A h0 ps) (fun X => MQ below (gPv (MW D cI cZ E A h0 ps) A X) args s rm_X10_readRule.cells rm_X10_readRule.slots A) 0 0 (M_readRule_B86 s0) s0 86 [(0, .ref h0)] [] := by
  unfold M_readRule_B86
  refine g_aload_n h 0 dX10_readRule_86 rfl ?_
  refine m_geta h hinX10 29 (by decide) rfl tW_935 dX10_readRule_87 ?_
  refine g_aload_n h 0 dX10_readRule_90 rfl ?_
  refine m_get h hinX10 47 (by decide) rfl tW_953 dX10_readRule_91 ?_
  refine g_aload_n h 0 dX10_readRule_94 rfl ?_
  refine g_callV0i h (MW_mv hE) hkw hKs [] (c_X10_readNumber hE hkw s0 ) yk_X10_readNumber tW_1191 ⟨(Nat.le_of_ble_eq_true rfl), (Nat.le_of_ble_eq_true rfl)⟩ MW_recv rfl rfl rfl rfl (Nat.le_of_ble_eq_true rfl) dX10_readRule_95 ⟨Nat.zero_le _, Nat.zero_le _⟩ (fun r_95 s_95 => ?_)
  refine m_iast h hE 29 rfl rfl 192 rfl dX10_readRule_98 ?_
  refine g_bnd (fun s_98 => ?_)
  refine g_aload_n h 0 dX10_readRule_99 rfl ?_
  refine m_geta h hinX10 30 (by decide) rfl tW_936 dX10_readRule_100 ?_
  refine g_aload_n h 0 dX10_readRule_103 rfl ?_
  refine m_get h hinX10 47 (by decide) rfl tW_953 dX10_readRule_104 ?_
  refine g_aload_n h 0 dX10_readRule_107 rfl ?_
  refine g_ldcS h (hSt.2.2 _ hKs 5 (by decide)) dX10_readRule_108 ?_
  refine g_callV0p h (MW_mv hE) hkw hKs [.ref (adS 5)] (c_X10_isWord hE hkw hSt (hSt.2.1 5 (by decide)) (by decide) s_98 ) yk_X10_isWord tW_1161 ⟨(Nat.le_of_ble_eq_true rfl), (Nat.le_of_ble_eq_true rfl)⟩ MW_recv rfl rfl rfl rfl (Nat.le_of_ble_eq_true rfl) dX10_readRule_110 ⟨Nat.zero_le _, Nat.zero_le _⟩ (fun r_110 => ?_)
  refine g_if_eq h 120 dX10_readRule_113 (by decide) ?_ ?_
  · refine g_aload_n h 0 dX10_readRule_120 rfl ?_
    refine g_ldcwS h (hSt.2.2 _ hKs 6 (by decide)) dX10_readRule_121 ?_
    refine g_callV0p h (MW_mv hE) hkw hKs [.ref (adS 6)] (c_X10_isWord hE hkw hSt (hSt.2.1 6 (by decide)) (by decide) s_98 ) yk_X10_isWord tW_1161 ⟨(Nat.le_of_ble_eq_true rfl), (Nat.le_of_ble_eq_true rfl)⟩ MW_recv rfl rfl rfl rfl (Nat.le_of_ble_eq_true rfl) dX10_readRule_124 ⟨Nat.zero_le _, Nat.zero_le _⟩ (fun r_124 => ?_)
    refine g_if_eq h 134 dX10_readRule_127 (by decide) ?_ ?_
    · refine g_aload_n h 0 dX10_readRule_134 rfl ?_
      refine g_ldcwS h (hSt.2.2 _ hKs 7 (by decide)) dX10_readRule_135 ?_
      refine g_callV0p h (MW_mv hE) hkw hKs [.ref (adS 7)] (c_X10_isWord hE hkw hSt (hSt.2.1 7 (by decide)) (by decide) s_98 ) yk_X10_isWord tW_1161 ⟨(Nat.le_of_ble_eq_true rfl), (Nat.le_of_ble_eq_true rfl)⟩ MW_recv rfl rfl rfl rfl (Nat.le_of_ble_eq_true rfl) dX10_readRule_138 ⟨Nat.zero_le _, Nat.zero_le _⟩ (fun r_138 => ?_)
      refine g_if_eq h 149 dX10_readRule_141 (by decide) ?_ ?_
      · refine g_iconst (v := -1) h dX10_readRule_149 (by decide) ?_
        exact M_readRule_B150_w h hE hkw hKs hSt _ _ _ hr
      · refine g_bipush (v := 12) h dX10_readRule_144 (by decide) ?_
        refine g_goto h 150 dX10_readRule_146 (by decide) ?_
        exact M_readRule_B150_w h hE hkw hKs hSt _ _ _ hr
    · refine g_iconst (v := 1) h dX10_readRule_130 (by decide) ?_
      refine g_goto h 150 dX10_readRule_131 (by decide) ?_
      exact M_readRule_B150_w h hE hkw hKs hSt _ _ _ hr
  · refine g_iconst (v := 0) h dX10_readRule_116 (by decide) ?_
    refine g_goto h 150 dX10_readRule_117 (by decide) ?_
    exact M_readRule_B150_w h hE hkw hKs hSt _ _ _ hr
def M_readRule_B283 {Rt : Type} (s0 : Ms) (rec : Ms → Int32 → Option Rt) (k302 : Ms → Option Rt) (l3 : Int32) : Option (Rt) :=
  if s0.1 45 = 0 then
    if l3 = (-1 : Int32) then
      rec s0 l3
    else
      (M_step s0).bind (fun s_296 =>
      rec s_296 l3)
  else
    rec s0 l3
set_option maxHeartbeats 4000000 in
set_option maxRecDepth 100000 in
theorem M_readRule_B283_w {p : Program} {l : Launch} {e : Env} {s : State} {m : MethodId} {args : Array Value} {below : List Frame} {meth : Method} {c : Code} {A : Nat → Prop} {Ke : State → Prop} {D : va_G} {cI cZ : ClassId} {E : State → Heap → Prop} {h0 : Nat} {ps : Nat → Nat} {adS adV : Nat → Nat} (h : gOk p s m args meth c cX10_readRule 4 RX10 tb) (hE : mEok E A) (hkw : gKw Ke) (hKs : Ke s) (hSt : sSt Ke A (MW D cI cZ E A h0 ps) adS adV) {Rt : Type} {QX : Rt → State → Prop} {rec : Ms → Int32 → Option Rt} {k302 : Ms → Option Rt} (s0 : Ms) (l3 : Int32) (hrec : ∀ (sx : Ms) (l3 : Int32), gS p l e rm_X10_readRule s m args below meth c 4 A (MW D cI cZ E A h0 ps) QX 0 0 (rec sx l3) sx 221 [(0, .ref h0), (3, .int l3)] []) (hk302 : ∀ (sx : Ms), gS p l e rm_X10_readRule s m args below meth c 4 A (MW D cI cZ E A h0 ps) QX 0 0 (k302 sx) sx 302 [(0, .ref h0)] []) : gS p l e rm_X10_readRule s m args below meth c 4 A (MW D cI cZ E A h0 ps) QX 0 0 (M_readRule_B283 s0 rec k302 l3) s0 283 [(0, .ref h0), (3, .int l3)] [] := by
  unfold M_readRule_B283
  refine g_aload_n h 0 dX10_readRule_283 rfl ?_
  refine m_get h hinX10 45 (by decide) rfl tW_951 dX10_readRule_284 ?_
  refine g_if_ne h 221 dX10_readRule_287 (by decide) ?_ ?_
  · exact hrec _ _
  · refine g_iload_n h 1 dX10_readRule_290 rfl ?_
    refine g_iconst (v := -1) h dX10_readRule_291 (by decide) ?_
    refine g_icmp_eq h 221 dX10_readRule_292 (by decide) ?_ ?_
    · exact hrec _ _
    · refine g_aload_n h 0 dX10_readRule_295 rfl ?_
      refine g_callV0v h (MW_mv hE) hkw hKs [] (c_X10_step hE hkw s0 ) yk_X10_step tW_1146 ⟨(Nat.le_of_ble_eq_true rfl), (Nat.le_of_ble_eq_true rfl)⟩ MW_recv rfl rfl rfl rfl (Nat.le_of_ble_eq_true rfl) dX10_readRule_296 ⟨Nat.zero_le _, Nat.zero_le _⟩ (fun s_296 => ?_)
      refine g_goto h 221 dX10_readRule_299 (by decide) ?_
      exact hrec _ _
def M_readRule_L221 {Rt : Type} (k302 : Ms → Option Rt) : Nat → Ms → Int32 → Option Rt
  | 0, _, _ => none
  | F + 1, s0, l3 =>
  if s0.1 45 = 0 then
      if l3 = (-1 : Int32) then
        k302 s0
      else
        if okI (s0.1 47) 192 = true then
        if okI (s0.1 47) 192 = true then
        bnd (mSto s0 32 (s0.1 47).toNatClampNeg ((s0.2 32 (s0.1 47).toNatClampNeg) ||| ((1 : Int32) <<< (l3 &&& 31)))) (fun s_247 =>
        (M_numbered s_247 (115 : Int32) (3 : Int32)).bind (fun r_252 =>
        if r_252 = (-1 : Int32) then
          M_readRule_B283 s_247 (M_readRule_L221 k302 F) k302 r_252
        else
          if okI (s_247.1 47) 192 = true then
          if ((s_247.2 32 (s_247.1 47).toNatClampNeg) >>> (r_252 &&& 31)) &&& (1 : Int32) = (1 : Int32) then
            (M_wrong s_247 (3 : Int32)).bind (fun s_280 =>
            M_readRule_B283 s_280 (M_readRule_L221 k302 F) k302 r_252)
          else
            M_readRule_B283 s_247 (M_readRule_L221 k302 F) k302 r_252
          else none))
        else none
        else none
    else
      k302 s0
set_option maxHeartbeats 4000000 in
set_option maxRecDepth 100000 in
theorem M_readRule_L221_w {p : Program} {l : Launch} {e : Env} {s : State} {m : MethodId} {args : Array Value} {below : List Frame} {meth : Method} {c : Code} {A : Nat → Prop} {Ke : State → Prop} {D : va_G} {cI cZ : ClassId} {E : State → Heap → Prop} {h0 : Nat} {ps : Nat → Nat} {adS adV : Nat → Nat} (h : gOk p s m args meth c cX10_readRule 4 RX10 tb) (hE : mEok E A) (hkw : gKw Ke) (hKs : Ke s) (hSt : sSt Ke A (MW D cI cZ E A h0 ps) adS adV) {Rt : Type} {QX : Rt → State → Prop}  {k302 : Ms → Option Rt} (hk302 : ∀ (sx : Ms), gS p l e rm_X10_readRule s m args below meth c 4 A (MW D cI cZ E A h0 ps) QX 0 0 (k302 sx) sx 302 [(0, .ref h0)] []) : ∀ (F : Nat) (s0 : Ms) (l3 : Int32), gS p l e rm_X10_readRule s m args below meth c 4 A (MW D cI cZ E A h0 ps) QX 0 0 (M_readRule_L221 k302 F s0 l3) s0 221 [(0, .ref h0), (3, .int l3)] [] := by
  intro F
  induction F with
  | zero =>
    intro s0 l3
    unfold M_readRule_L221
    exact g_none
  | succ F ih =>
    intro s0 l3
    unfold M_readRule_L221
    refine g_aload_n h 0 dX10_readRule_221 rfl ?_
    refine m_get h hinX10 45 (by decide) rfl tW_951 dX10_readRule_222 ?_
    refine g_if_ne h 302 dX10_readRule_225 (by decide) ?_ ?_
    · refine g_lv [(0, .ref h0)] [0] rfl ?_
      exact hk302 _
    · refine g_iload_n h 1 dX10_readRule_228 rfl ?_
      refine g_iconst (v := -1) h dX10_readRule_229 (by decide) ?_
      refine g_icmp_eq h 302 dX10_readRule_230 (by decide) ?_ ?_
      · refine g_lv [(0, .ref h0)] [0] rfl ?_
        exact hk302 _
      · refine g_aload_n h 0 dX10_readRule_233 rfl ?_
        refine m_geta h hinX10 32 (by decide) rfl tW_938 dX10_readRule_234 ?_
        refine g_aload_n h 0 dX10_readRule_237 rfl ?_
        refine m_get h hinX10 47 (by decide) rfl tW_953 dX10_readRule_238 ?_
        refine g_dup2 h dX10_readRule_241 rfl rfl ?_
        refine m_iald h 32 rfl rfl 192 rfl dX10_readRule_242 ?_
        refine g_iconst (v := 1) h dX10_readRule_243 (by decide) ?_
        refine g_iload_n h 1 dX10_readRule_244 rfl ?_
        refine g_ishl h dX10_readRule_245 ?_
        refine g_ior h dX10_readRule_246 ?_
        refine m_iast h hE 32 rfl rfl 192 rfl dX10_readRule_247 ?_
        refine g_bnd (fun s_247 => ?_)
        refine g_aload_n h 0 dX10_readRule_248 rfl ?_
        refine g_bipush (v := 115) h dX10_readRule_249 (by decide) ?_
        refine g_iconst (v := 3) h dX10_readRule_251 (by decide) ?_
        refine g_callV0p h (MW_mv hE) hkw hKs [.int (115 : Int32), .int (3 : Int32)] (c_X10_numbered hE hkw s_247 (115 : Int32) (3 : Int32)) yk_X10_numbered tW_1186 ⟨(Nat.le_of_ble_eq_true rfl), (Nat.le_of_ble_eq_true rfl)⟩ MW_recv rfl rfl rfl rfl (Nat.le_of_ble_eq_true rfl) dX10_readRule_252 ⟨Nat.zero_le _, Nat.zero_le _⟩ (fun r_252 => ?_)
        refine g_istore_n h [(3, .int r_252), (0, .ref h0)] dX10_readRule_255 (by decide) rfl ?_
        refine g_iload_n h 0 dX10_readRule_256 rfl ?_
        refine g_iconst (v := -1) h dX10_readRule_257 (by decide) ?_
        refine g_icmp_eq h 283 dX10_readRule_258 (by decide) ?_ ?_
        · refine g_lv [(0, .ref h0), (3, .int r_252)] [1, 0] rfl ?_
          exact M_readRule_B283_w h hE hkw hKs hSt _ _ (ih) hk302
        · refine g_aload_n h 1 dX10_readRule_261 rfl ?_
          refine m_geta h hinX10 32 (by decide) rfl tW_938 dX10_readRule_262 ?_
          refine g_aload_n h 1 dX10_readRule_265 rfl ?_
          refine m_get h hinX10 47 (by decide) rfl tW_953 dX10_readRule_266 ?_
          refine m_iald h 32 rfl rfl 192 rfl dX10_readRule_269 ?_
          refine g_iload_n h 0 dX10_readRule_270 rfl ?_
          refine g_ishr h dX10_readRule_271 ?_
          refine g_iconst (v := 1) h dX10_readRule_272 (by decide) ?_
          refine g_iand h dX10_readRule_273 ?_
          refine g_iconst (v := 1) h dX10_readRule_274 (by decide) ?_
          refine g_icmp_ne h 283 dX10_readRule_275 (by decide) ?_ ?_
          · refine g_lv [(0, .ref h0), (3, .int r_252)] [1, 0] rfl ?_
            exact M_readRule_B283_w h hE hkw hKs hSt _ _ (ih) hk302
          · refine g_aload_n h 1 dX10_readRule_278 rfl ?_
            refine g_iconst (v := 3) h dX10_readRule_279 (by decide) ?_
            refine g_callV0v h (MW_mv hE) hkw hKs [.int (3 : Int32)] (c_X10_wrong hE hkw s_247 (3 : Int32)) yk_X10_wrong tW_1169 ⟨(Nat.le_of_ble_eq_true rfl), (Nat.le_of_ble_eq_true rfl)⟩ MW_recv rfl rfl rfl rfl (Nat.le_of_ble_eq_true rfl) dX10_readRule_280 ⟨Nat.zero_le _, Nat.zero_le _⟩ (fun s_280 => ?_)
            refine g_lv [(0, .ref h0), (3, .int r_252)] [1, 0] rfl ?_
            exact M_readRule_B283_w h hE hkw hKs hSt _ _ (ih) hk302
def M_readRule_B39 (s0 : Ms) (t0 : Int32) (t1 : Int32) (l1 : Int32) (l2 : Int32) : Option (Ms) :=
  if okI t1 192 = true then
  bnd (mSto s0 26 t1.toNatClampNeg t0) (fun s_39 =>
  (M_step s_39).bind (fun s_41 =>
  (M_readWhat s_41).bind (fun s_45 =>
  if okI (s_45.1 47) 192 = true then
  bnd (mSto s_45 32 (s_45.1 47).toNatClampNeg (0 : Int32)) (fun s_57 =>
  if okI (s_57.1 47) 192 = true then
  bnd (mSto s_57 34 (s_57.1 47).toNatClampNeg (0 : Int32)) (fun s_67 =>
  if okI (s_67.1 47) 192 = true then
  bnd (mSto s_67 33 (s_67.1 47).toNatClampNeg (0 : Int32)) (fun s_77 =>
  if l1 = 0 then
    if l2 = 0 then
      bi (M_readNumbered s_77 (115 : Int32) (3 : Int32)) (fun r_217 s_217 =>
      M_readRule_L221 (fun s_302 => M_readRule_B302 s_302) gF s_217 r_217)
    else
      M_readRule_B86 s_77
  else
    M_readRule_B86 s_77)
  else none)
  else none)
  else none)))
  else none
set_option maxHeartbeats 4000000 in
set_option maxRecDepth 100000 in
theorem M_readRule_B39_w {p : Program} {l : Launch} {e : Env} {s : State} {m : MethodId} {args : Array Value} {below : List Frame} {meth : Method} {c : Code} {A : Nat → Prop} {Ke : State → Prop} {D : va_G} {cI cZ : ClassId} {E : State → Heap → Prop} {h0 : Nat} {ps : Nat → Nat} {adS adV : Nat → Nat} (h : gOk p s m args meth c cX10_readRule 4 RX10 tb) (hE : mEok E A) (hkw : gKw Ke) (hKs : Ke s) (hSt : sSt Ke A (MW D cI cZ E A h0 ps) adS adV) (s0 : Ms) (t0 : Int32) (t1 : Int32) (l1 : Int32) (l2 : Int32) (hr : meth.sig.returnType = none)  : gS p l e rm_X10_readRule s m args below meth c 4 A (MW D cI cZ E A h0 ps) (fun X => MQ below (gPv (MW D cI cZ E A h0 ps) A X) args s rm_X10_readRule.cells rm_X10_readRule.slots A) 0 0 (M_readRule_B39 s0 t0 t1 l1 l2) s0 39 [(0, .ref h0), (1, .int l1), (2, .int l2)] [.int t0, .int t1, .ref (ps 26)] := by
  unfold M_readRule_B39
  refine m_iast h hE 26 rfl rfl 192 rfl dX10_readRule_39 ?_
  refine g_bnd (fun s_39 => ?_)
  refine g_aload_n h 0 dX10_readRule_40 rfl ?_
  refine g_callV0v h (MW_mv hE) hkw hKs [] (c_X10_step hE hkw s_39 ) yk_X10_step tW_1146 ⟨(Nat.le_of_ble_eq_true rfl), (Nat.le_of_ble_eq_true rfl)⟩ MW_recv rfl rfl rfl rfl (Nat.le_of_ble_eq_true rfl) dX10_readRule_41 ⟨Nat.zero_le _, Nat.zero_le _⟩ (fun s_41 => ?_)
  refine g_aload_n h 0 dX10_readRule_44 rfl ?_
  refine g_callV0v h (MW_mv hE) hkw hKs [] (c_X10_readWhat hE hkw hSt s_41 ) yk_X10_readWhat tW_1177 ⟨(Nat.le_of_ble_eq_true rfl), (Nat.le_of_ble_eq_true rfl)⟩ MW_recv rfl rfl rfl rfl (Nat.le_of_ble_eq_true rfl) dX10_readRule_45 ⟨Nat.zero_le _, Nat.zero_le _⟩ (fun s_45 => ?_)
  refine g_aload_n h 0 dX10_readRule_48 rfl ?_
  refine m_geta h hinX10 32 (by decide) rfl tW_938 dX10_readRule_49 ?_
  refine g_aload_n h 0 dX10_readRule_52 rfl ?_
  refine m_get h hinX10 47 (by decide) rfl tW_953 dX10_readRule_53 ?_
  refine g_iconst (v := 0) h dX10_readRule_56 (by decide) ?_
  refine m_iast h hE 32 rfl rfl 192 rfl dX10_readRule_57 ?_
  refine g_bnd (fun s_57 => ?_)
  refine g_aload_n h 0 dX10_readRule_58 rfl ?_
  refine m_geta h hinX10 34 (by decide) rfl tW_940 dX10_readRule_59 ?_
  refine g_aload_n h 0 dX10_readRule_62 rfl ?_
  refine m_get h hinX10 47 (by decide) rfl tW_953 dX10_readRule_63 ?_
  refine g_iconst (v := 0) h dX10_readRule_66 (by decide) ?_
  refine m_iast h hE 34 rfl rfl 192 rfl dX10_readRule_67 ?_
  refine g_bnd (fun s_67 => ?_)
  refine g_aload_n h 0 dX10_readRule_68 rfl ?_
  refine m_geta h hinX10 33 (by decide) rfl tW_939 dX10_readRule_69 ?_
  refine g_aload_n h 0 dX10_readRule_72 rfl ?_
  refine m_get h hinX10 47 (by decide) rfl tW_953 dX10_readRule_73 ?_
  refine g_iconst (v := 0) h dX10_readRule_76 (by decide) ?_
  refine m_iast h hE 33 rfl rfl 192 rfl dX10_readRule_77 ?_
  refine g_bnd (fun s_77 => ?_)
  refine g_iload_n h 1 dX10_readRule_78 rfl ?_
  refine g_if_ne h 86 dX10_readRule_79 (by decide) ?_ ?_
  · refine g_lv [(0, .ref h0)] [0] rfl ?_
    exact M_readRule_B86_w h hE hkw hKs hSt _  hr
  · refine g_iload_n h 2 dX10_readRule_82 rfl ?_
    refine g_if_eq h 213 dX10_readRule_83 (by decide) ?_ ?_
    · refine g_aload_n h 0 dX10_readRule_213 rfl ?_
      refine g_bipush (v := 115) h dX10_readRule_214 (by decide) ?_
      refine g_iconst (v := 3) h dX10_readRule_216 (by decide) ?_
      refine g_callV0i h (MW_mv hE) hkw hKs [.int (115 : Int32), .int (3 : Int32)] (c_X10_readNumbered hE hkw s_77 (115 : Int32) (3 : Int32)) yk_X10_readNumbered tW_1182 ⟨(Nat.le_of_ble_eq_true rfl), (Nat.le_of_ble_eq_true rfl)⟩ MW_recv rfl rfl rfl rfl (Nat.le_of_ble_eq_true rfl) dX10_readRule_217 ⟨Nat.zero_le _, Nat.zero_le _⟩ (fun r_217 s_217 => ?_)
      refine g_istore_n h [(3, .int r_217), (0, .ref h0), (1, .int l1), (2, .int l2)] dX10_readRule_220 (by decide) rfl ?_
      refine g_lv [(0, .ref h0), (3, .int r_217)] [1, 0] rfl ?_
      refine M_readRule_L221_w h hE hkw hKs hSt  (fun s_302 => ?_) _ _ _
      · exact M_readRule_B302_w h hE hkw hKs hSt _  hr
    · refine g_lv [(0, .ref h0)] [0] rfl ?_
      exact M_readRule_B86_w h hE hkw hKs hSt _  hr
def M_readRule (s0 : Ms)  : Option (Ms) :=
  (M_isWord s0 (sW 0)).bind (fun r_3 =>
  (M_isWord s0 (sW 1)).bind (fun r_10 =>
  if r_3 = 0 then
    if r_10 = 0 then
      M_readRule_B39 s0 (2 : Int32) (s0.1 47) r_3 r_10
    else
      M_readRule_B39 s0 (1 : Int32) (s0.1 47) r_3 r_10
  else
    M_readRule_B39 s0 (0 : Int32) (s0.1 47) r_3 r_10))
set_option maxHeartbeats 4000000 in
set_option maxRecDepth 100000 in
theorem c_X10_readRule {l : Launch} {A : Nat → Prop} {Ke : State → Prop} {D : va_G} {cI cZ : ClassId} {E : State → Heap → Prop} {h0 : Nat} {ps : Nat → Nat} {adS adV : Nat → Nat} (hE : mEok E A) (hkw : gKw Ke) (hSt : sSt Ke A (MW D cI cZ E A h0 ps) adS adV) (s0 : Ms)  : gCv l yX10_readRule cX10_readRule 4 (none) rm_X10_readRule Ke (MW D cI cZ E A h0 ps) A [.ref h0] s0 (M_readRule s0 ) := by
  refine g_metv (by decide) (by simp [lg_sl, Value.category]) ?_
  intro p e s m below meth c h hr hKs
  refine g_lv [(0, .ref h0)] [0] rfl ?_
  unfold M_readRule
  refine g_aload_n h 0 dX10_readRule_0 rfl ?_
  refine g_ldcS h (hSt.2.2 _ hKs 0 (by decide)) dX10_readRule_1 ?_
  refine g_callV0p h (MW_mv hE) hkw hKs [.ref (adS 0)] (c_X10_isWord hE hkw hSt (hSt.2.1 0 (by decide)) (by decide) s0 ) yk_X10_isWord tW_1161 ⟨(Nat.le_of_ble_eq_true rfl), (Nat.le_of_ble_eq_true rfl)⟩ MW_recv rfl rfl rfl rfl (Nat.le_of_ble_eq_true rfl) dX10_readRule_3 ⟨Nat.zero_le _, Nat.zero_le _⟩ (fun r_3 => ?_)
  refine g_istore_n h [(1, .int r_3), (0, .ref h0)] dX10_readRule_6 (by decide) rfl ?_
  refine g_aload_n h 1 dX10_readRule_7 rfl ?_
  refine g_ldcS h (hSt.2.2 _ hKs 1 (by decide)) dX10_readRule_8 ?_
  refine g_callV0p h (MW_mv hE) hkw hKs [.ref (adS 1)] (c_X10_isWord hE hkw hSt (hSt.2.1 1 (by decide)) (by decide) s0 ) yk_X10_isWord tW_1161 ⟨(Nat.le_of_ble_eq_true rfl), (Nat.le_of_ble_eq_true rfl)⟩ MW_recv rfl rfl rfl rfl (Nat.le_of_ble_eq_true rfl) dX10_readRule_10 ⟨Nat.zero_le _, Nat.zero_le _⟩ (fun r_10 => ?_)
  refine g_istore_n h [(2, .int r_10), (1, .int r_3), (0, .ref h0)] dX10_readRule_13 (by decide) rfl ?_
  refine g_aload_n h 2 dX10_readRule_14 rfl ?_
  refine m_geta h hinX10 26 (by decide) rfl tW_932 dX10_readRule_15 ?_
  refine g_aload_n h 2 dX10_readRule_18 rfl ?_
  refine m_get h hinX10 47 (by decide) rfl tW_953 dX10_readRule_19 ?_
  refine g_iload_n h 1 dX10_readRule_22 rfl ?_
  refine g_if_eq h 30 dX10_readRule_23 (by decide) ?_ ?_
  · refine g_iload_n h 0 dX10_readRule_30 rfl ?_
    refine g_if_eq h 38 dX10_readRule_31 (by decide) ?_ ?_
    · refine g_iconst (v := 2) h dX10_readRule_38 (by decide) ?_
      refine g_lv [(0, .ref h0), (1, .int r_3), (2, .int r_10)] [2, 1, 0] rfl ?_
      exact M_readRule_B39_w h hE hkw hKs hSt _ _ _ _ _ hr
    · refine g_iconst (v := 1) h dX10_readRule_34 (by decide) ?_
      refine g_goto h 39 dX10_readRule_35 (by decide) ?_
      refine g_lv [(0, .ref h0), (1, .int r_3), (2, .int r_10)] [2, 1, 0] rfl ?_
      exact M_readRule_B39_w h hE hkw hKs hSt _ _ _ _ _ hr
  · refine g_iconst (v := 0) h dX10_readRule_26 (by decide) ?_
    refine g_goto h 39 dX10_readRule_27 (by decide) ?_
    refine g_lv [(0, .ref h0), (1, .int r_3), (2, .int r_10)] [2, 1, 0] rfl ?_
    exact M_readRule_B39_w h hE hkw hKs hSt _ _ _ _ _ hr
def rm_X10_rules : Room := { frames := 7, cells := 0, slots := 0, locals := 155 }
theorem yk_X10_rules : yOkV yX10_rules cX10_rules 4 (some .int) RX10 2 := ⟨tW_1145, tW_5, tW_1143, tW_1144, by decide, by decide, by decide +kernel⟩
def M_rules_B24 (s0 : Ms)  : Option (Int32 × Ms) :=
  bi (M_fail s0 (1 : Int32)) (fun r_26 s_26 =>
  some (r_26, s_26))
set_option maxHeartbeats 4000000 in
set_option maxRecDepth 100000 in
theorem M_rules_B24_w {p : Program} {l : Launch} {e : Env} {s : State} {m : MethodId} {args : Array Value} {below : List Frame} {meth : Method} {c : Code} {A : Nat → Prop} {Ke : State → Prop} {D : va_G} {cI cZ : ClassId} {E : State → Heap → Prop} {h0 : Nat} {ps : Nat → Nat} {adS adV : Nat → Nat} (h : gOk p s m args meth c cX10_rules 4 RX10 tb) (hE : mEok E A) (hkw : gKw Ke) (hKs : Ke s) (hSt : sSt Ke A (MW D cI cZ E A h0 ps) adS adV) (s0 : Ms)  (hr : meth.sig.returnType = some .int)  : gS p l e rm_X10_rules s m args below meth c 4 A (MW D cI cZ E A h0 ps) (fun X => MQ below (gPi (MW D cI cZ E A h0 ps) A X) args s rm_X10_rules.cells rm_X10_rules.slots A) 0 0 (M_rules_B24 s0) s0 24 [(0, .ref h0)] [] := by
  unfold M_rules_B24
  refine g_aload_n h 0 dX10_rules_24 rfl ?_
  refine g_iconst (v := 1) h dX10_rules_25 (by decide) ?_
  refine g_callV0i h (MW_mv hE) hkw hKs [.int (1 : Int32)] (c_X10_fail hE hkw s0 (1 : Int32)) yk_X10_fail tW_1111 ⟨(Nat.le_of_ble_eq_true rfl), (Nat.le_of_ble_eq_true rfl)⟩ MW_recv rfl rfl rfl rfl (Nat.le_of_ble_eq_true rfl) dX10_rules_26 ⟨Nat.zero_le _, Nat.zero_le _⟩ (fun r_26 s_26 => ?_)
  exact g_iret h (MW_mv hE) hr (Nat.le_refl _) (Nat.le_refl _) dX10_rules_29
def M_rules_B134 {Rt : Type} (s0 : Ms) (rec : Ms → Int32 → Option Rt) (k141 : Ms → Int32 → Option Rt) (k167 : Ms → Int32 → Option Rt) (a2 : Int32) (l3 : Int32) : Option (Rt) :=
  if s0.1 45 = 0 then
    bnd (mSet s0 47 (((24 : Int32) * (s0.1 3)) + l3)) (fun s_154 =>
    (M_readRule s_154).bind (fun s_161 =>
    rec s_161 (l3 + 1)))
  else
    k141 s0 l3
set_option maxHeartbeats 4000000 in
set_option maxRecDepth 100000 in
theorem M_rules_B134_w {p : Program} {l : Launch} {e : Env} {s : State} {m : MethodId} {args : Array Value} {below : List Frame} {meth : Method} {c : Code} {A : Nat → Prop} {Ke : State → Prop} {D : va_G} {cI cZ : ClassId} {E : State → Heap → Prop} {h0 : Nat} {ps : Nat → Nat} {adS adV : Nat → Nat} (h : gOk p s m args meth c cX10_rules 4 RX10 tb) (hE : mEok E A) (hkw : gKw Ke) (hKs : Ke s) (hSt : sSt Ke A (MW D cI cZ E A h0 ps) adS adV) {Rt : Type} {QX : Rt → State → Prop} {rec : Ms → Int32 → Option Rt} {k141 : Ms → Int32 → Option Rt} {k167 : Ms → Int32 → Option Rt} (s0 : Ms) (a2 : Int32) (l3 : Int32) (hrec : ∀ (sx : Ms) (l3 : Int32), gS p l e rm_X10_rules s m args below meth c 4 A (MW D cI cZ E A h0 ps) QX 0 0 (rec sx l3) sx 73 [(0, .ref h0), (2, .int a2), (3, .int l3)] []) (hk141 : ∀ (sx : Ms) (l3 : Int32), gS p l e rm_X10_rules s m args below meth c 4 A (MW D cI cZ E A h0 ps) QX 0 0 (k141 sx l3) sx 141 [(0, .ref h0), (2, .int a2), (3, .int l3)] []) (hk167 : ∀ (sx : Ms) (l3 : Int32), gS p l e rm_X10_rules s m args below meth c 4 A (MW D cI cZ E A h0 ps) QX 0 0 (k167 sx l3) sx 167 [(0, .ref h0), (2, .int a2), (3, .int l3)] []) : gS p l e rm_X10_rules s m args below meth c 4 A (MW D cI cZ E A h0 ps) QX 0 0 (M_rules_B134 s0 rec k141 k167 a2 l3) s0 134 [(0, .ref h0), (2, .int a2), (3, .int l3)] [] := by
  unfold M_rules_B134
  refine g_aload_n h 0 dX10_rules_134 rfl ?_
  refine m_get h hinX10 45 (by decide) rfl tW_951 dX10_rules_135 ?_
  refine g_if_eq h 144 dX10_rules_138 (by decide) ?_ ?_
  · refine g_aload_n h 0 dX10_rules_144 rfl ?_
    refine g_bipush (v := 24) h dX10_rules_145 (by decide) ?_
    refine g_aload_n h 0 dX10_rules_147 rfl ?_
    refine m_get h hinX10 3 (by decide) rfl tW_909 dX10_rules_148 ?_
    refine g_imul h dX10_rules_151 ?_
    refine g_iload_n h 2 dX10_rules_152 rfl ?_
    refine g_iadd h dX10_rules_153 ?_
    refine m_put h hE hinX10 47 (by decide) rfl rfl rfl tW_953 dX10_rules_154 ?_
    refine g_bnd (fun s_154 => ?_)
    refine g_iinc (v := l3 + 1) (i := 2) h [(3, .int (l3 + 1)), (0, .ref h0), (2, .int a2)] dX10_rules_157 rfl rfl (by decide) rfl ?_
    refine g_aload_n h 1 dX10_rules_160 rfl ?_
    refine g_callV0v h (MW_mv hE) hkw hKs [] (c_X10_readRule hE hkw hSt s_154 ) yk_X10_readRule tW_1173 ⟨(Nat.le_of_ble_eq_true rfl), (Nat.le_of_ble_eq_true rfl)⟩ MW_recv rfl rfl rfl rfl (Nat.le_of_ble_eq_true rfl) dX10_rules_161 ⟨Nat.zero_le _, Nat.zero_le _⟩ (fun s_161 => ?_)
    refine g_goto h 73 dX10_rules_164 (by decide) ?_
    refine g_lv [(0, .ref h0), (2, .int a2), (3, .int (l3 + 1))] [1, 2, 0] rfl ?_
    exact hrec _ _
  · exact hk141 _ _
def M_rules_B123 {Rt : Type} (s0 : Ms) (rec : Ms → Int32 → Option Rt) (k141 : Ms → Int32 → Option Rt) (k167 : Ms → Int32 → Option Rt) (a2 : Int32) (l3 : Int32) : Option (Rt) :=
  if l3 = (24 : Int32) then
    (M_wrong s0 (2 : Int32)).bind (fun s_131 =>
    M_rules_B134 s_131 rec k141 k167 a2 l3)
  else
    M_rules_B134 s0 rec k141 k167 a2 l3
set_option maxHeartbeats 4000000 in
set_option maxRecDepth 100000 in
theorem M_rules_B123_w {p : Program} {l : Launch} {e : Env} {s : State} {m : MethodId} {args : Array Value} {below : List Frame} {meth : Method} {c : Code} {A : Nat → Prop} {Ke : State → Prop} {D : va_G} {cI cZ : ClassId} {E : State → Heap → Prop} {h0 : Nat} {ps : Nat → Nat} {adS adV : Nat → Nat} (h : gOk p s m args meth c cX10_rules 4 RX10 tb) (hE : mEok E A) (hkw : gKw Ke) (hKs : Ke s) (hSt : sSt Ke A (MW D cI cZ E A h0 ps) adS adV) {Rt : Type} {QX : Rt → State → Prop} {rec : Ms → Int32 → Option Rt} {k141 : Ms → Int32 → Option Rt} {k167 : Ms → Int32 → Option Rt} (s0 : Ms) (a2 : Int32) (l3 : Int32) (hrec : ∀ (sx : Ms) (l3 : Int32), gS p l e rm_X10_rules s m args below meth c 4 A (MW D cI cZ E A h0 ps) QX 0 0 (rec sx l3) sx 73 [(0, .ref h0), (2, .int a2), (3, .int l3)] []) (hk141 : ∀ (sx : Ms) (l3 : Int32), gS p l e rm_X10_rules s m args below meth c 4 A (MW D cI cZ E A h0 ps) QX 0 0 (k141 sx l3) sx 141 [(0, .ref h0), (2, .int a2), (3, .int l3)] []) (hk167 : ∀ (sx : Ms) (l3 : Int32), gS p l e rm_X10_rules s m args below meth c 4 A (MW D cI cZ E A h0 ps) QX 0 0 (k167 sx l3) sx 167 [(0, .ref h0), (2, .int a2), (3, .int l3)] []) : gS p l e rm_X10_rules s m args below meth c 4 A (MW D cI cZ E A h0 ps) QX 0 0 (M_rules_B123 s0 rec k141 k167 a2 l3) s0 123 [(0, .ref h0), (2, .int a2), (3, .int l3)] [] := by
  unfold M_rules_B123
  refine g_iload_n h 2 dX10_rules_123 rfl ?_
  refine g_bipush (v := 24) h dX10_rules_124 (by decide) ?_
  refine g_icmp_ne h 134 dX10_rules_126 (by decide) ?_ ?_
  · exact M_rules_B134_w h hE hkw hKs hSt _ _ _ hrec hk141 hk167
  · refine g_aload_n h 0 dX10_rules_129 rfl ?_
    refine g_iconst (v := 2) h dX10_rules_130 (by decide) ?_
    refine g_callV0v h (MW_mv hE) hkw hKs [.int (2 : Int32)] (c_X10_wrong hE hkw s0 (2 : Int32)) yk_X10_wrong tW_1169 ⟨(Nat.le_of_ble_eq_true rfl), (Nat.le_of_ble_eq_true rfl)⟩ MW_recv rfl rfl rfl rfl (Nat.le_of_ble_eq_true rfl) dX10_rules_131 ⟨Nat.zero_le _, Nat.zero_le _⟩ (fun s_131 => ?_)
    exact M_rules_B134_w h hE hkw hKs hSt _ _ _ hrec hk141 hk167
def M_rules_L73 {Rt : Type} (a2 : Int32) (k141 : Ms → Int32 → Option Rt) (k167 : Ms → Int32 → Option Rt) : Nat → Ms → Int32 → Option Rt
  | 0, _, _ => none
  | F + 1, s0, l3 =>
  if s0.1 45 = 0 then
      if s0.1 41 = 0 then
        k167 s0 l3
      else
        (M_isWord s0 (sW 0)).bind (fun r_90 =>
        if r_90 = 0 then
          (M_isWord s0 (sW 1)).bind (fun r_99 =>
          if r_99 = 0 then
            (M_isWord s0 (sW 2)).bind (fun r_109 =>
            if r_109 = 0 then
              (M_wrong s0 (1 : Int32)).bind (fun s_117 =>
              M_rules_B134 s_117 (M_rules_L73 a2 k141 k167 F) k141 k167 a2 l3)
            else
              M_rules_B123 s0 (M_rules_L73 a2 k141 k167 F) k141 k167 a2 l3)
          else
            M_rules_B123 s0 (M_rules_L73 a2 k141 k167 F) k141 k167 a2 l3)
        else
          M_rules_B123 s0 (M_rules_L73 a2 k141 k167 F) k141 k167 a2 l3)
    else
      k167 s0 l3
set_option maxHeartbeats 4000000 in
set_option maxRecDepth 100000 in
theorem M_rules_L73_w {p : Program} {l : Launch} {e : Env} {s : State} {m : MethodId} {args : Array Value} {below : List Frame} {meth : Method} {c : Code} {A : Nat → Prop} {Ke : State → Prop} {D : va_G} {cI cZ : ClassId} {E : State → Heap → Prop} {h0 : Nat} {ps : Nat → Nat} {adS adV : Nat → Nat} (h : gOk p s m args meth c cX10_rules 4 RX10 tb) (hE : mEok E A) (hkw : gKw Ke) (hKs : Ke s) (hSt : sSt Ke A (MW D cI cZ E A h0 ps) adS adV) {Rt : Type} {QX : Rt → State → Prop} (a2 : Int32) {k141 : Ms → Int32 → Option Rt} {k167 : Ms → Int32 → Option Rt} (hk141 : ∀ (sx : Ms) (l3 : Int32), gS p l e rm_X10_rules s m args below meth c 4 A (MW D cI cZ E A h0 ps) QX 0 0 (k141 sx l3) sx 141 [(0, .ref h0), (2, .int a2), (3, .int l3)] []) (hk167 : ∀ (sx : Ms) (l3 : Int32), gS p l e rm_X10_rules s m args below meth c 4 A (MW D cI cZ E A h0 ps) QX 0 0 (k167 sx l3) sx 167 [(0, .ref h0), (2, .int a2), (3, .int l3)] []) : ∀ (F : Nat) (s0 : Ms) (l3 : Int32), gS p l e rm_X10_rules s m args below meth c 4 A (MW D cI cZ E A h0 ps) QX 0 0 (M_rules_L73 a2 k141 k167 F s0 l3) s0 73 [(0, .ref h0), (2, .int a2), (3, .int l3)] [] := by
  intro F
  induction F with
  | zero =>
    intro s0 l3
    unfold M_rules_L73
    exact g_none
  | succ F ih =>
    intro s0 l3
    unfold M_rules_L73
    refine g_aload_n h 0 dX10_rules_73 rfl ?_
    refine m_get h hinX10 45 (by decide) rfl tW_951 dX10_rules_74 ?_
    refine g_if_ne h 167 dX10_rules_77 (by decide) ?_ ?_
    · exact hk167 _ _
    · refine g_aload_n h 0 dX10_rules_80 rfl ?_
      refine m_get h hinX10 41 (by decide) rfl tW_947 dX10_rules_81 ?_
      refine g_if_eq h 167 dX10_rules_84 (by decide) ?_ ?_
      · exact hk167 _ _
      · refine g_aload_n h 0 dX10_rules_87 rfl ?_
        refine g_ldcS h (hSt.2.2 _ hKs 0 (by decide)) dX10_rules_88 ?_
        refine g_callV0p h (MW_mv hE) hkw hKs [.ref (adS 0)] (c_X10_isWord hE hkw hSt (hSt.2.1 0 (by decide)) (by decide) s0 ) yk_X10_isWord tW_1161 ⟨(Nat.le_of_ble_eq_true rfl), (Nat.le_of_ble_eq_true rfl)⟩ MW_recv rfl rfl rfl rfl (Nat.le_of_ble_eq_true rfl) dX10_rules_90 ⟨Nat.zero_le _, Nat.zero_le _⟩ (fun r_90 => ?_)
        refine g_if_ne h 123 dX10_rules_93 (by decide) ?_ ?_
        · exact M_rules_B123_w h hE hkw hKs hSt _ _ _ (ih) hk141 hk167
        · refine g_aload_n h 0 dX10_rules_96 rfl ?_
          refine g_ldcS h (hSt.2.2 _ hKs 1 (by decide)) dX10_rules_97 ?_
          refine g_callV0p h (MW_mv hE) hkw hKs [.ref (adS 1)] (c_X10_isWord hE hkw hSt (hSt.2.1 1 (by decide)) (by decide) s0 ) yk_X10_isWord tW_1161 ⟨(Nat.le_of_ble_eq_true rfl), (Nat.le_of_ble_eq_true rfl)⟩ MW_recv rfl rfl rfl rfl (Nat.le_of_ble_eq_true rfl) dX10_rules_99 ⟨Nat.zero_le _, Nat.zero_le _⟩ (fun r_99 => ?_)
          refine g_if_ne h 123 dX10_rules_102 (by decide) ?_ ?_
          · exact M_rules_B123_w h hE hkw hKs hSt _ _ _ (ih) hk141 hk167
          · refine g_aload_n h 0 dX10_rules_105 rfl ?_
            refine g_ldcwS h (hSt.2.2 _ hKs 2 (by decide)) dX10_rules_106 ?_
            refine g_callV0p h (MW_mv hE) hkw hKs [.ref (adS 2)] (c_X10_isWord hE hkw hSt (hSt.2.1 2 (by decide)) (by decide) s0 ) yk_X10_isWord tW_1161 ⟨(Nat.le_of_ble_eq_true rfl), (Nat.le_of_ble_eq_true rfl)⟩ MW_recv rfl rfl rfl rfl (Nat.le_of_ble_eq_true rfl) dX10_rules_109 ⟨Nat.zero_le _, Nat.zero_le _⟩ (fun r_109 => ?_)
            refine g_if_ne h 123 dX10_rules_112 (by decide) ?_ ?_
            · exact M_rules_B123_w h hE hkw hKs hSt _ _ _ (ih) hk141 hk167
            · refine g_aload_n h 0 dX10_rules_115 rfl ?_
              refine g_iconst (v := 1) h dX10_rules_116 (by decide) ?_
              refine g_callV0v h (MW_mv hE) hkw hKs [.int (1 : Int32)] (c_X10_wrong hE hkw s0 (1 : Int32)) yk_X10_wrong tW_1169 ⟨(Nat.le_of_ble_eq_true rfl), (Nat.le_of_ble_eq_true rfl)⟩ MW_recv rfl rfl rfl rfl (Nat.le_of_ble_eq_true rfl) dX10_rules_117 ⟨Nat.zero_le _, Nat.zero_le _⟩ (fun s_117 => ?_)
              refine g_goto h 134 dX10_rules_120 (by decide) ?_
              exact M_rules_B134_w h hE hkw hKs hSt _ _ _ (ih) hk141 hk167
def M_rules_B167 (s0 : Ms) (a2 : Int32) (l3 : Int32) : Option (Int32 × Ms) :=
  if s0.1 45 = 0 then
    if okI (s0.1 3) 8 = true then
    bnd (mSto s0 25 (s0.1 3).toNatClampNeg l3) (fun s_198 =>
    if okI (s_198.1 3) 8 = true then
    bnd (mSto s_198 24 (s_198.1 3).toNatClampNeg a2) (fun s_208 =>
    bnd (mSet s_208 3 ((s_208.1 3) + (1 : Int32))) (fun s_216 =>
    some ((s_216.1 3) - (1 : Int32), s_216)))
    else none)
    else none
  else
    bnd (mSet s0 8 (s0.1 46)) (fun s_179 =>
    some ((-1 : Int32) - (s_179.1 45), s_179))
set_option maxHeartbeats 4000000 in
set_option maxRecDepth 100000 in
theorem M_rules_B167_w {p : Program} {l : Launch} {e : Env} {s : State} {m : MethodId} {args : Array Value} {below : List Frame} {meth : Method} {c : Code} {A : Nat → Prop} {Ke : State → Prop} {D : va_G} {cI cZ : ClassId} {E : State → Heap → Prop} {h0 : Nat} {ps : Nat → Nat} {adS adV : Nat → Nat} (h : gOk p s m args meth c cX10_rules 4 RX10 tb) (hE : mEok E A) (hkw : gKw Ke) (hKs : Ke s) (hSt : sSt Ke A (MW D cI cZ E A h0 ps) adS adV) (s0 : Ms) (a2 : Int32) (l3 : Int32) (hr : meth.sig.returnType = some .int)  : gS p l e rm_X10_rules s m args below meth c 4 A (MW D cI cZ E A h0 ps) (fun X => MQ below (gPi (MW D cI cZ E A h0 ps) A X) args s rm_X10_rules.cells rm_X10_rules.slots A) 0 0 (M_rules_B167 s0 a2 l3) s0 167 [(0, .ref h0), (2, .int a2), (3, .int l3)] [] := by
  unfold M_rules_B167
  refine g_aload_n h 0 dX10_rules_167 rfl ?_
  refine m_get h hinX10 45 (by decide) rfl tW_951 dX10_rules_168 ?_
  refine g_if_eq h 189 dX10_rules_171 (by decide) ?_ ?_
  · refine g_aload_n h 0 dX10_rules_189 rfl ?_
    refine m_geta h hinX10 25 (by decide) rfl tW_931 dX10_rules_190 ?_
    refine g_aload_n h 0 dX10_rules_193 rfl ?_
    refine m_get h hinX10 3 (by decide) rfl tW_909 dX10_rules_194 ?_
    refine g_iload_n h 2 dX10_rules_197 rfl ?_
    refine m_iast h hE 25 rfl rfl 8 rfl dX10_rules_198 ?_
    refine g_bnd (fun s_198 => ?_)
    refine g_aload_n h 0 dX10_rules_199 rfl ?_
    refine m_geta h hinX10 24 (by decide) rfl tW_930 dX10_rules_200 ?_
    refine g_aload_n h 0 dX10_rules_203 rfl ?_
    refine m_get h hinX10 3 (by decide) rfl tW_909 dX10_rules_204 ?_
    refine g_iload_n h 1 dX10_rules_207 rfl ?_
    refine m_iast h hE 24 rfl rfl 8 rfl dX10_rules_208 ?_
    refine g_bnd (fun s_208 => ?_)
    refine g_aload_n h 0 dX10_rules_209 rfl ?_
    refine g_dup h dX10_rules_210 rfl ?_
    refine m_get h hinX10 3 (by decide) rfl tW_909 dX10_rules_211 ?_
    refine g_iconst (v := 1) h dX10_rules_214 (by decide) ?_
    refine g_iadd h dX10_rules_215 ?_
    refine m_put h hE hinX10 3 (by decide) rfl rfl rfl tW_909 dX10_rules_216 ?_
    refine g_bnd (fun s_216 => ?_)
    refine g_aload_n h 0 dX10_rules_219 rfl ?_
    refine m_get h hinX10 3 (by decide) rfl tW_909 dX10_rules_220 ?_
    refine g_iconst (v := 1) h dX10_rules_223 (by decide) ?_
    refine g_isub h dX10_rules_224 ?_
    exact g_iret h (MW_mv hE) hr (Nat.le_refl _) (Nat.le_refl _) dX10_rules_225
  · refine g_aload_n h 0 dX10_rules_174 rfl ?_
    refine g_aload_n h 0 dX10_rules_175 rfl ?_
    refine m_get h hinX10 46 (by decide) rfl tW_952 dX10_rules_176 ?_
    refine m_put h hE hinX10 8 (by decide) rfl rfl rfl tW_914 dX10_rules_179 ?_
    refine g_bnd (fun s_179 => ?_)
    refine g_iconst (v := -1) h dX10_rules_182 (by decide) ?_
    refine g_aload_n h 0 dX10_rules_183 rfl ?_
    refine m_get h hinX10 45 (by decide) rfl tW_951 dX10_rules_184 ?_
    refine g_isub h dX10_rules_187 ?_
    exact g_iret h (MW_mv hE) hr (Nat.le_refl _) (Nat.le_refl _) dX10_rules_188
def M_rules (s0 : Ms) (a1 : Int32) (a2 : Int32) : Option (Int32 × Ms) :=
  bnd (mSet s0 0 (0 : Int32)) (fun s_2 =>
  if a1 < 0 then
    M_rules_B24 s_2
  else
    if s_2.1 7 < a1 then
      M_rules_B24 s_2
    else
      (M_isDay s_2 a2).bind (fun r_18 =>
      if r_18 = 0 then
        M_rules_B24 s_2
      else
        bnd (mSet s_2 7 (0 : Int32)) (fun s_32 =>
        bnd (mSet s_32 8 (-1 : Int32)) (fun s_37 =>
        if s_37.1 3 = (8 : Int32) then
          some ((-9 : Int32), s_37)
        else
          bnd (mSet s_37 40 a1) (fun s_54 =>
          bnd (mSet s_54 39 (0 : Int32)) (fun s_59 =>
          bnd (mSet s_59 45 (0 : Int32)) (fun s_64 =>
          (M_step s_64).bind (fun s_70 =>
          M_rules_L73 a2 (fun s_141 v3_141 => M_rules_B167 s_141 a2 v3_141) (fun s_167 v3_167 => M_rules_B167 s_167 a2 v3_167) gF s_70 (0 : Int32)))))))))
set_option maxHeartbeats 4000000 in
set_option maxRecDepth 100000 in
theorem c_X10_rules {l : Launch} {A : Nat → Prop} {Ke : State → Prop} {D : va_G} {cI cZ : ClassId} {E : State → Heap → Prop} {h0 : Nat} {ps : Nat → Nat} {adS adV : Nat → Nat} (hE : mEok E A) (hkw : gKw Ke) (hSt : sSt Ke A (MW D cI cZ E A h0 ps) adS adV) (s0 : Ms) (a1 : Int32) (a2 : Int32) : gCi l yX10_rules cX10_rules 4 (some .int) rm_X10_rules Ke (MW D cI cZ E A h0 ps) A [.ref h0, .int a1, .int a2] s0 (M_rules s0 a1 a2) := by
  refine g_meti (by decide) (by simp [lg_sl, Value.category]) ?_
  intro p e s m below meth c h hr hKs
  refine g_lv [(0, .ref h0), (1, .int a1), (2, .int a2)] [0, 1, 2] rfl ?_
  unfold M_rules
  refine g_aload_n h 0 dX10_rules_0 rfl ?_
  refine g_iconst (v := 0) h dX10_rules_1 (by decide) ?_
  refine m_put h hE hinX10 0 (by decide) rfl rfl rfl tW_906 dX10_rules_2 ?_
  refine g_bnd (fun s_2 => ?_)
  refine g_iload_n h 1 dX10_rules_5 rfl ?_
  refine g_if_lt h 24 dX10_rules_6 (by decide) ?_ ?_
  · refine g_lv [(0, .ref h0)] [0] rfl ?_
    exact M_rules_B24_w h hE hkw hKs hSt _  hr
  · refine g_iload_n h 1 dX10_rules_9 rfl ?_
    refine g_aload_n h 0 dX10_rules_10 rfl ?_
    refine m_get h hinX10 7 (by decide) rfl tW_913 dX10_rules_11 ?_
    refine g_icmp_gt h 24 dX10_rules_14 (by decide) ?_ ?_
    · refine g_lv [(0, .ref h0)] [0] rfl ?_
      exact M_rules_B24_w h hE hkw hKs hSt _  hr
    · refine g_iload_n h 2 dX10_rules_17 rfl ?_
      refine g_callS0p h (MW_mv hE) hkw hKs [.int a2] (c_X10_isDay (MW_mv hE) hkw s_2 a2) yk_X10_isDay tW_1119 ⟨(Nat.le_of_ble_eq_true rfl), (Nat.le_of_ble_eq_true rfl)⟩ rfl rfl rfl rfl (Nat.le_of_ble_eq_true rfl) dX10_rules_18 ⟨Nat.zero_le _, Nat.zero_le _⟩ (fun r_18 => ?_)
      refine g_if_ne h 30 dX10_rules_21 (by decide) ?_ ?_
      · refine g_aload_n h 0 dX10_rules_30 rfl ?_
        refine g_iconst (v := 0) h dX10_rules_31 (by decide) ?_
        refine m_put h hE hinX10 7 (by decide) rfl rfl rfl tW_913 dX10_rules_32 ?_
        refine g_bnd (fun s_32 => ?_)
        refine g_aload_n h 0 dX10_rules_35 rfl ?_
        refine g_iconst (v := -1) h dX10_rules_36 (by decide) ?_
        refine m_put h hE hinX10 8 (by decide) rfl rfl rfl tW_914 dX10_rules_37 ?_
        refine g_bnd (fun s_37 => ?_)
        refine g_aload_n h 0 dX10_rules_40 rfl ?_
        refine m_get h hinX10 3 (by decide) rfl tW_909 dX10_rules_41 ?_
        refine g_bipush (v := 8) h dX10_rules_44 (by decide) ?_
        refine g_icmp_ne h 52 dX10_rules_46 (by decide) ?_ ?_
        · refine g_aload_n h 0 dX10_rules_52 rfl ?_
          refine g_iload_n h 1 dX10_rules_53 rfl ?_
          refine m_put h hE hinX10 40 (by decide) rfl rfl rfl tW_946 dX10_rules_54 ?_
          refine g_bnd (fun s_54 => ?_)
          refine g_aload_n h 0 dX10_rules_57 rfl ?_
          refine g_iconst (v := 0) h dX10_rules_58 (by decide) ?_
          refine m_put h hE hinX10 39 (by decide) rfl rfl rfl tW_945 dX10_rules_59 ?_
          refine g_bnd (fun s_59 => ?_)
          refine g_aload_n h 0 dX10_rules_62 rfl ?_
          refine g_iconst (v := 0) h dX10_rules_63 (by decide) ?_
          refine m_put h hE hinX10 45 (by decide) rfl rfl rfl tW_951 dX10_rules_64 ?_
          refine g_bnd (fun s_64 => ?_)
          refine g_iconst (v := 0) h dX10_rules_67 (by decide) ?_
          refine g_istore_n h [(3, .int (0 : Int32)), (0, .ref h0), (1, .int a1), (2, .int a2)] dX10_rules_68 (by decide) rfl ?_
          refine g_aload_n h 1 dX10_rules_69 rfl ?_
          refine g_callV0v h (MW_mv hE) hkw hKs [] (c_X10_step hE hkw s_64 ) yk_X10_step tW_1146 ⟨(Nat.le_of_ble_eq_true rfl), (Nat.le_of_ble_eq_true rfl)⟩ MW_recv rfl rfl rfl rfl (Nat.le_of_ble_eq_true rfl) dX10_rules_70 ⟨Nat.zero_le _, Nat.zero_le _⟩ (fun s_70 => ?_)
          refine g_lv [(0, .ref h0), (2, .int a2), (3, .int (0 : Int32))] [1, 3, 0] rfl ?_
          refine M_rules_L73_w h hE hkw hKs hSt _ (fun s_141 v3_141 => ?_) (fun s_167 v3_167 => ?_) _ _ _
          · refine g_goto h 167 dX10_rules_141 (by decide) ?_
            exact M_rules_B167_w h hE hkw hKs hSt _ _ _ hr
          · exact M_rules_B167_w h hE hkw hKs hSt _ _ _ hr
        · refine g_bipush (v := -9) h dX10_rules_49 (by decide) ?_
          exact g_iret h (MW_mv hE) hr (Nat.le_refl _) (Nat.le_refl _) dX10_rules_51
      · refine g_lv [(0, .ref h0)] [0] rfl ?_
        exact M_rules_B24_w h hE hkw hKs hSt _  hr
