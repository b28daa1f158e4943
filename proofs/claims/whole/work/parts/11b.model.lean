def rm_X10_feed : Room := { frames := 0, cells := 0, slots := 0, locals := 0 }
theorem yk_X10_feed : yOkV yX10_feed cX10_feed 8 (some .int) RX10 5 := ⟨tW_1141, tW_5, tW_1139, tW_1140, by decide, by decide, by decide +kernel⟩
def M_feed_B76 {Rt : Type} (s0 : Ms) (rec : Ms → Int32 → Option Rt) (k120 : Ms → Option Rt) (t0 : Int32) (a1 : Int32) (a2 : Int32) (a3 : Int32) (a4 : Int32) (a5 : Int32) (l6 : Int32) : Option (Rt) :=
  if okI (s0.1 7) 1000 = true then
  bnd (mSto s0 38 (s0.1 7).toNatClampNeg ((t0 >>> (((24 : Int32) - ((8 : Int32) * (l6 - l6 / (4 : Int32) * (4 : Int32)))) &&& 31)) &&& (255 : Int32))) (fun s_103 =>
  bnd (mSet s_103 7 ((s_103.1 7) + (1 : Int32))) (fun s_111 =>
  rec s_111 (l6 + 1)))
  else none
set_option maxHeartbeats 4000000 in
set_option maxRecDepth 100000 in
theorem M_feed_B76_w {p : Program} {l : Launch} {e : Env} {s : State} {m : MethodId} {args : Array Value} {below : List Frame} {meth : Method} {c : Code} {A : Nat → Prop} {Ke : State → Prop} {D : va_G} {cI cZ : ClassId} {E : State → Heap → Prop} {h0 : Nat} {ps : Nat → Nat} (h : gOk p s m args meth c cX10_feed 8 RX10 tb) (hE : mEok E A) (hkw : gKw Ke) (hKs : Ke s) {Rt : Type} {QX : Rt → State → Prop} {rec : Ms → Int32 → Option Rt} {k120 : Ms → Option Rt} (s0 : Ms) (t0 : Int32) (a1 : Int32) (a2 : Int32) (a3 : Int32) (a4 : Int32) (a5 : Int32) (l6 : Int32) (hrec : ∀ (sx : Ms) (l6 : Int32), gS p l e rm_X10_feed s m args below meth c 8 A (MW D cI cZ E A h0 ps) QX 0 0 (rec sx l6) sx 23 [(0, .ref h0), (1, .int a1), (2, .int a2), (3, .int a3), (4, .int a4), (5, .int a5), (6, .int l6)] []) (hk120 : ∀ (sx : Ms), gS p l e rm_X10_feed s m args below meth c 8 A (MW D cI cZ E A h0 ps) QX 0 0 (k120 sx) sx 120 [(0, .ref h0)] []) : gS p l e rm_X10_feed s m args below meth c 8 A (MW D cI cZ E A h0 ps) QX 0 0 (M_feed_B76 s0 rec k120 t0 a1 a2 a3 a4 a5 l6) s0 76 [(0, .ref h0), (1, .int a1), (2, .int a2), (3, .int a3), (4, .int a4), (5, .int a5), (6, .int l6)] [.int t0] := by
  unfold M_feed_B76
  refine g_istore h [(7, .int t0), (0, .ref h0), (1, .int a1), (2, .int a2), (3, .int a3), (4, .int a4), (5, .int a5), (6, .int l6)] dX10_feed_76 (by decide) rfl ?_
  refine g_aload_n h 1 dX10_feed_78 rfl ?_
  refine m_geta h hinX10 38 (by decide) rfl tW_944 dX10_feed_79 ?_
  refine g_aload_n h 1 dX10_feed_82 rfl ?_
  refine m_get h hinX10 7 (by decide) rfl tW_913 dX10_feed_83 ?_
  refine g_iload h 0 dX10_feed_86 rfl ?_
  refine g_bipush (v := 24) h dX10_feed_88 (by decide) ?_
  refine g_bipush (v := 8) h dX10_feed_90 (by decide) ?_
  refine g_iload h 7 dX10_feed_92 rfl ?_
  refine g_iconst (v := 4) h dX10_feed_94 (by decide) ?_
  refine g_irem h dX10_feed_95 (by decide) ?_
  refine g_imul h dX10_feed_96 ?_
  refine g_isub h dX10_feed_97 ?_
  refine g_ishr h dX10_feed_98 ?_
  refine g_sipush (v := 255) h dX10_feed_99 (by decide) ?_
  refine g_iand h dX10_feed_102 ?_
  refine m_iast h hE 38 rfl rfl 1000 rfl dX10_feed_103 ?_
  refine g_bnd (fun s_103 => ?_)
  refine g_aload_n h 1 dX10_feed_104 rfl ?_
  refine g_dup h dX10_feed_105 rfl ?_
  refine m_get h hinX10 7 (by decide) rfl tW_913 dX10_feed_106 ?_
  refine g_iconst (v := 1) h dX10_feed_109 (by decide) ?_
  refine g_iadd h dX10_feed_110 ?_
  refine m_put h hE hinX10 7 (by decide) rfl rfl rfl tW_913 dX10_feed_111 ?_
  refine g_bnd (fun s_111 => ?_)
  refine g_iinc (v := l6 + 1) (i := 7) h [(6, .int (l6 + 1)), (7, .int t0), (0, .ref h0), (1, .int a1), (2, .int a2), (3, .int a3), (4, .int a4), (5, .int a5)] dX10_feed_114 rfl rfl (by decide) rfl ?_
  refine g_goto h 23 dX10_feed_117 (by decide) ?_
  refine g_lv [(0, .ref h0), (1, .int a1), (2, .int a2), (3, .int a3), (4, .int a4), (5, .int a5), (6, .int (l6 + 1))] [2, 3, 4, 5, 6, 7, 0] rfl ?_
  exact hrec _ _
def M_feed_L23 {Rt : Type} (a1 : Int32) (a2 : Int32) (a3 : Int32) (a4 : Int32) (a5 : Int32) (k120 : Ms → Option Rt) : Nat → Ms → Int32 → Option Rt
  | 0, _, _ => none
  | F + 1, s0, l6 =>
  if (20 : Int32) ≤ l6 then
      k120 s0
    else
      if (4 : Int32) ≤ l6 then
        if (8 : Int32) ≤ l6 then
          if (12 : Int32) ≤ l6 then
            if (16 : Int32) ≤ l6 then
              M_feed_B76 s0 (M_feed_L23 a1 a2 a3 a4 a5 k120 F) k120 a5 a1 a2 a3 a4 a5 l6
            else
              M_feed_B76 s0 (M_feed_L23 a1 a2 a3 a4 a5 k120 F) k120 a4 a1 a2 a3 a4 a5 l6
          else
            M_feed_B76 s0 (M_feed_L23 a1 a2 a3 a4 a5 k120 F) k120 a3 a1 a2 a3 a4 a5 l6
        else
          M_feed_B76 s0 (M_feed_L23 a1 a2 a3 a4 a5 k120 F) k120 a2 a1 a2 a3 a4 a5 l6
      else
        M_feed_B76 s0 (M_feed_L23 a1 a2 a3 a4 a5 k120 F) k120 a1 a1 a2 a3 a4 a5 l6
set_option maxHeartbeats 4000000 in
set_option maxRecDepth 100000 in
theorem M_feed_L23_w {p : Program} {l : Launch} {e : Env} {s : State} {m : MethodId} {args : Array Value} {below : List Frame} {meth : Method} {c : Code} {A : Nat → Prop} {Ke : State → Prop} {D : va_G} {cI cZ : ClassId} {E : State → Heap → Prop} {h0 : Nat} {ps : Nat → Nat} (h : gOk p s m args meth c cX10_feed 8 RX10 tb) (hE : mEok E A) (hkw : gKw Ke) (hKs : Ke s) {Rt : Type} {QX : Rt → State → Prop} (a1 : Int32) (a2 : Int32) (a3 : Int32) (a4 : Int32) (a5 : Int32) {k120 : Ms → Option Rt} (hk120 : ∀ (sx : Ms), gS p l e rm_X10_feed s m args below meth c 8 A (MW D cI cZ E A h0 ps) QX 0 0 (k120 sx) sx 120 [(0, .ref h0)] []) : ∀ (F : Nat) (s0 : Ms) (l6 : Int32), gS p l e rm_X10_feed s m args below meth c 8 A (MW D cI cZ E A h0 ps) QX 0 0 (M_feed_L23 a1 a2 a3 a4 a5 k120 F s0 l6) s0 23 [(0, .ref h0), (1, .int a1), (2, .int a2), (3, .int a3), (4, .int a4), (5, .int a5), (6, .int l6)] [] := by
  intro F
  induction F with
  | zero =>
    intro s0 l6
    unfold M_feed_L23
    exact g_none
  | succ F ih =>
    intro s0 l6
    unfold M_feed_L23
    refine g_iload h 6 dX10_feed_23 rfl ?_
    refine g_bipush (v := 20) h dX10_feed_25 (by decide) ?_
    refine g_icmp_ge h 120 dX10_feed_27 (by decide) ?_ ?_
    · refine g_lv [(0, .ref h0)] [0] rfl ?_
      exact hk120 _
    · refine g_iload h 6 dX10_feed_30 rfl ?_
      refine g_iconst (v := 4) h dX10_feed_32 (by decide) ?_
      refine g_icmp_ge h 40 dX10_feed_33 (by decide) ?_ ?_
      · refine g_iload h 6 dX10_feed_40 rfl ?_
        refine g_bipush (v := 8) h dX10_feed_42 (by decide) ?_
        refine g_icmp_ge h 51 dX10_feed_44 (by decide) ?_ ?_
        · refine g_iload h 6 dX10_feed_51 rfl ?_
          refine g_bipush (v := 12) h dX10_feed_53 (by decide) ?_
          refine g_icmp_ge h 62 dX10_feed_55 (by decide) ?_ ?_
          · refine g_iload h 6 dX10_feed_62 rfl ?_
            refine g_bipush (v := 16) h dX10_feed_64 (by decide) ?_
            refine g_icmp_ge h 74 dX10_feed_66 (by decide) ?_ ?_
            · refine g_iload h 5 dX10_feed_74 rfl ?_
              exact M_feed_B76_w h hE hkw hKs _ _ _ _ _ _ _ _ (ih) hk120
            · refine g_iload h 4 dX10_feed_69 rfl ?_
              refine g_goto h 76 dX10_feed_71 (by decide) ?_
              exact M_feed_B76_w h hE hkw hKs _ _ _ _ _ _ _ _ (ih) hk120
          · refine g_iload_n h 3 dX10_feed_58 rfl ?_
            refine g_goto h 76 dX10_feed_59 (by decide) ?_
            exact M_feed_B76_w h hE hkw hKs _ _ _ _ _ _ _ _ (ih) hk120
        · refine g_iload_n h 2 dX10_feed_47 rfl ?_
          refine g_goto h 76 dX10_feed_48 (by decide) ?_
          exact M_feed_B76_w h hE hkw hKs _ _ _ _ _ _ _ _ (ih) hk120
      · refine g_iload_n h 1 dX10_feed_36 rfl ?_
        refine g_goto h 76 dX10_feed_37 (by decide) ?_
        exact M_feed_B76_w h hE hkw hKs _ _ _ _ _ _ _ _ (ih) hk120
def M_feed (s0 : Ms) (a1 : Int32) (a2 : Int32) (a3 : Int32) (a4 : Int32) (a5 : Int32) : Option (Int32 × Ms) :=
  bnd (mSet s0 0 (0 : Int32)) (fun s_2 =>
  if (s_2.1 7) + (20 : Int32) ≤ (1000 : Int32) then
    M_feed_L23 a1 a2 a3 a4 a5 (fun s_120 => some (s_120.1 7, s_120)) gF s_2 (0 : Int32)
  else
    some ((-1 : Int32), s_2))
set_option maxHeartbeats 4000000 in
set_option maxRecDepth 100000 in
theorem c_X10_feed {l : Launch} {A : Nat → Prop} {Ke : State → Prop} {D : va_G} {cI cZ : ClassId} {E : State → Heap → Prop} {h0 : Nat} {ps : Nat → Nat} (hE : mEok E A) (hkw : gKw Ke) (s0 : Ms) (a1 : Int32) (a2 : Int32) (a3 : Int32) (a4 : Int32) (a5 : Int32) : gCi l yX10_feed cX10_feed 8 (some .int) rm_X10_feed Ke (MW D cI cZ E A h0 ps) A [.ref h0, .int a1, .int a2, .int a3, .int a4, .int a5] s0 (M_feed s0 a1 a2 a3 a4 a5) := by
  refine g_meti (by decide) (by simp [lg_sl, Value.category]) ?_
  intro p e s m below meth c h hr hKs
  refine g_lv [(0, .ref h0), (1, .int a1), (2, .int a2), (3, .int a3), (4, .int a4), (5, .int a5)] [0, 1, 2, 3, 4, 5] rfl ?_
  unfold M_feed
  refine g_aload_n h 0 dX10_feed_0 rfl ?_
  refine g_iconst (v := 0) h dX10_feed_1 (by decide) ?_
  refine m_put h hE hinX10 0 (by decide) rfl rfl rfl tW_906 dX10_feed_2 ?_
  refine g_bnd (fun s_2 => ?_)
  refine g_aload_n h 0 dX10_feed_5 rfl ?_
  refine m_get h hinX10 7 (by decide) rfl tW_913 dX10_feed_6 ?_
  refine g_bipush (v := 20) h dX10_feed_9 (by decide) ?_
  refine g_iadd h dX10_feed_11 ?_
  refine g_sipush (v := 1000) h dX10_feed_12 (by decide) ?_
  refine g_icmp_le h 20 dX10_feed_15 (by decide) ?_ ?_
  · refine g_iconst (v := 0) h dX10_feed_20 (by decide) ?_
    refine g_istore h [(6, .int (0 : Int32)), (0, .ref h0), (1, .int a1), (2, .int a2), (3, .int a3), (4, .int a4), (5, .int a5)] dX10_feed_21 (by decide) rfl ?_
    refine g_lv [(0, .ref h0), (1, .int a1), (2, .int a2), (3, .int a3), (4, .int a4), (5, .int a5), (6, .int (0 : Int32))] [1, 2, 3, 4, 5, 6, 0] rfl ?_
    refine M_feed_L23_w h hE hkw hKs _ _ _ _ _ (fun s_120 => ?_) _ _ _
    · refine g_aload_n h 0 dX10_feed_120 rfl ?_
      refine m_get h hinX10 7 (by decide) rfl tW_913 dX10_feed_121 ?_
      exact g_iret h (MW_mv hE) hr (Nat.le_refl _) (Nat.le_refl _) dX10_feed_124
  · refine g_iconst (v := -1) h dX10_feed_18 (by decide) ?_
    exact g_iret h (MW_mv hE) hr (Nat.le_refl _) (Nat.le_refl _) dX10_feed_19
def rm_X10_byteAt : Room := { frames := 0, cells := 0, slots := 0, locals := 0 }
theorem yk_X10_byteAt : yOkV yX10_byteAt cX10_byteAt 2 (some .int) RX10 1 := ⟨tW_1153, tW_5, tW_1152, tP_38, by decide, by decide, by decide +kernel⟩
def M_byteAt_B18 (s0 : Ms) (t0 : Int32) : Option (Int32) :=
  some t0
set_option maxHeartbeats 4000000 in
set_option maxRecDepth 100000 in
theorem M_byteAt_B18_w {p : Program} {l : Launch} {e : Env} {s : State} {m : MethodId} {args : Array Value} {below : List Frame} {meth : Method} {c : Code} {A : Nat → Prop} {Ke : State → Prop} {D : va_G} {cI cZ : ClassId} {E : State → Heap → Prop} {h0 : Nat} {ps : Nat → Nat} (h : gOk p s m args meth c cX10_byteAt 2 RX10 tb) (hE : mEok E A) (hkw : gKw Ke) (hKs : Ke s) (s0 : Ms) (t0 : Int32) (hr : meth.sig.returnType = some .int)  : gS p l e rm_X10_byteAt s m args below meth c 2 A (MW D cI cZ E A h0 ps) (fun X => MQ below (gPi (MW D cI cZ E A h0 ps) A (X, s0)) args s rm_X10_byteAt.cells rm_X10_byteAt.slots A) 0 0 (M_byteAt_B18 s0 t0) s0 18 [] [.int t0] := by
  unfold M_byteAt_B18
  exact g_iretp h (MW_mv hE) hr (Nat.le_refl _) (Nat.le_refl _) dX10_byteAt_18
def M_byteAt (s0 : Ms) (a1 : Int32) : Option (Int32) :=
  if s0.1 40 ≤ a1 then
    M_byteAt_B18 s0 (-1 : Int32)
  else
    if okI a1 1000 = true then
    M_byteAt_B18 s0 (s0.2 38 a1.toNatClampNeg)
    else none
set_option maxHeartbeats 4000000 in
set_option maxRecDepth 100000 in
theorem c_X10_byteAt {l : Launch} {A : Nat → Prop} {Ke : State → Prop} {D : va_G} {cI cZ : ClassId} {E : State → Heap → Prop} {h0 : Nat} {ps : Nat → Nat} (hE : mEok E A) (hkw : gKw Ke) (s0 : Ms) (a1 : Int32) : gCp l yX10_byteAt cX10_byteAt 2 (some .int) rm_X10_byteAt Ke (MW D cI cZ E A h0 ps) A [.ref h0, .int a1] s0 (M_byteAt s0 a1) := by
  refine g_metp (by decide) (by simp [lg_sl, Value.category]) ?_
  intro p e s m below meth c h hr hKs
  refine g_lv [(0, .ref h0), (1, .int a1)] [0, 1] rfl ?_
  unfold M_byteAt
  refine g_iload_n h 1 dX10_byteAt_0 rfl ?_
  refine g_aload_n h 0 dX10_byteAt_1 rfl ?_
  refine m_get h hinX10 40 (by decide) rfl tW_946 dX10_byteAt_2 ?_
  refine g_icmp_ge h 17 dX10_byteAt_5 (by decide) ?_ ?_
  · refine g_iconst (v := -1) h dX10_byteAt_17 (by decide) ?_
    refine g_lv [] [] rfl ?_
    exact M_byteAt_B18_w h hE hkw hKs _ _ hr
  · refine g_aload_n h 0 dX10_byteAt_8 rfl ?_
    refine m_geta h hinX10 38 (by decide) rfl tW_944 dX10_byteAt_9 ?_
    refine g_iload_n h 1 dX10_byteAt_12 rfl ?_
    refine m_iald h 38 rfl rfl 1000 rfl dX10_byteAt_13 ?_
    refine g_goto h 18 dX10_byteAt_14 (by decide) ?_
    refine g_lv [] [] rfl ?_
    exact M_byteAt_B18_w h hE hkw hKs _ _ hr
def rm_X10_isLetter : Room := { frames := 0, cells := 0, slots := 0, locals := 0 }
theorem yk_X10_isLetter : yOkS yX10_isLetter cX10_isLetter 1 (some .boolean) 1 := ⟨tW_1156, tW_5, tW_1155, by decide, by decide, by decide +kernel⟩
def M_isLetter_B17 {S : Type} (s0 : S) (t0 : Int32) : Option (Int32) :=
  if okZ t0 = true then some t0 else none
set_option maxHeartbeats 4000000 in
set_option maxRecDepth 100000 in
theorem M_isLetter_B17_w {p : Program} {l : Launch} {e : Env} {s : State} {m : MethodId} {args : Array Value} {below : List Frame} {meth : Method} {c : Code} {A : Nat → Prop} {Ke : State → Prop} {S : Type} {Wd : S → State → Heap → Prop} (h : gOk p s m args meth c cX10_isLetter 1 RX10 tb) (hmv : gMv Wd) (hkw : gKw Ke) (hKs : Ke s) (s0 : S) (t0 : Int32) (hr : meth.sig.returnType = some .boolean)  : gS p l e rm_X10_isLetter s m args below meth c 1 A Wd (fun X => MQ below (gPi Wd A (X, s0)) args s rm_X10_isLetter.cells rm_X10_isLetter.slots A) 0 0 (M_isLetter_B17 s0 t0) s0 17 [] [.int t0] := by
  unfold M_isLetter_B17
  refine g_guard (fun hz => ?_)
  exact g_zretp h hmv hr (Nat.le_refl _) (Nat.le_refl _) hz dX10_isLetter_17
def M_isLetter_B16 {S : Type} (s0 : S)  : Option (Int32) :=
  M_isLetter_B17 s0 (0 : Int32)
set_option maxHeartbeats 4000000 in
set_option maxRecDepth 100000 in
theorem M_isLetter_B16_w {p : Program} {l : Launch} {e : Env} {s : State} {m : MethodId} {args : Array Value} {below : List Frame} {meth : Method} {c : Code} {A : Nat → Prop} {Ke : State → Prop} {S : Type} {Wd : S → State → Heap → Prop} (h : gOk p s m args meth c cX10_isLetter 1 RX10 tb) (hmv : gMv Wd) (hkw : gKw Ke) (hKs : Ke s) (s0 : S)  (hr : meth.sig.returnType = some .boolean)  : gS p l e rm_X10_isLetter s m args below meth c 1 A Wd (fun X => MQ below (gPi Wd A (X, s0)) args s rm_X10_isLetter.cells rm_X10_isLetter.slots A) 0 0 (M_isLetter_B16 s0) s0 16 [] [] := by
  unfold M_isLetter_B16
  refine g_iconst (v := 0) h dX10_isLetter_16 (by decide) ?_
  exact M_isLetter_B17_w h hmv hkw hKs _ _ hr
def M_isLetter {S : Type} (s0 : S) (a0 : Int32) : Option (Int32) :=
  if a0 < (97 : Int32) then
    M_isLetter_B16 s0
  else
    if (122 : Int32) < a0 then
      M_isLetter_B16 s0
    else
      M_isLetter_B17 s0 (1 : Int32)
set_option maxHeartbeats 4000000 in
set_option maxRecDepth 100000 in
theorem c_X10_isLetter {l : Launch} {A : Nat → Prop} {Ke : State → Prop} {S : Type} {Wd : S → State → Heap → Prop} (hmv : gMv Wd) (hkw : gKw Ke) (s0 : S) (a0 : Int32) : gCp l yX10_isLetter cX10_isLetter 1 (some .boolean) rm_X10_isLetter Ke Wd A [.int a0] s0 (M_isLetter s0 a0) := by
  refine g_metp (by decide) (by simp [lg_sl, Value.category]) ?_
  intro p e s m below meth c h hr hKs
  refine g_lv [(0, .int a0)] [0] rfl ?_
  unfold M_isLetter
  refine g_iload_n h 0 dX10_isLetter_0 rfl ?_
  refine g_bipush (v := 97) h dX10_isLetter_1 (by decide) ?_
  refine g_icmp_lt h 16 dX10_isLetter_3 (by decide) ?_ ?_
  · refine g_lv [] [] rfl ?_
    exact M_isLetter_B16_w h hmv hkw hKs _  hr
  · refine g_iload_n h 0 dX10_isLetter_6 rfl ?_
    refine g_bipush (v := 122) h dX10_isLetter_7 (by decide) ?_
    refine g_icmp_gt h 16 dX10_isLetter_9 (by decide) ?_ ?_
    · refine g_lv [] [] rfl ?_
      exact M_isLetter_B16_w h hmv hkw hKs _  hr
    · refine g_iconst (v := 1) h dX10_isLetter_12 (by decide) ?_
      refine g_goto h 17 dX10_isLetter_13 (by decide) ?_
      refine g_lv [] [] rfl ?_
      exact M_isLetter_B17_w h hmv hkw hKs _ _ hr
def rm_X10_isDigit : Room := { frames := 0, cells := 0, slots := 0, locals := 0 }
theorem yk_X10_isDigit : yOkS yX10_isDigit cX10_isDigit 1 (some .boolean) 1 := ⟨tW_1159, tW_5, tW_1158, by decide, by decide, by decide +kernel⟩
def M_isDigit_B17 {S : Type} (s0 : S) (t0 : Int32) : Option (Int32) :=
  if okZ t0 = true then some t0 else none
set_option maxHeartbeats 4000000 in
set_option maxRecDepth 100000 in
theorem M_isDigit_B17_w {p : Program} {l : Launch} {e : Env} {s : State} {m : MethodId} {args : Array Value} {below : List Frame} {meth : Method} {c : Code} {A : Nat → Prop} {Ke : State → Prop} {S : Type} {Wd : S → State → Heap → Prop} (h : gOk p s m args meth c cX10_isDigit 1 RX10 tb) (hmv : gMv Wd) (hkw : gKw Ke) (hKs : Ke s) (s0 : S) (t0 : Int32) (hr : meth.sig.returnType = some .boolean)  : gS p l e rm_X10_isDigit s m args below meth c 1 A Wd (fun X => MQ below (gPi Wd A (X, s0)) args s rm_X10_isDigit.cells rm_X10_isDigit.slots A) 0 0 (M_isDigit_B17 s0 t0) s0 17 [] [.int t0] := by
  unfold M_isDigit_B17
  refine g_guard (fun hz => ?_)
  exact g_zretp h hmv hr (Nat.le_refl _) (Nat.le_refl _) hz dX10_isDigit_17
def M_isDigit_B16 {S : Type} (s0 : S)  : Option (Int32) :=
  M_isDigit_B17 s0 (0 : Int32)
set_option maxHeartbeats 4000000 in
set_option maxRecDepth 100000 in
theorem M_isDigit_B16_w {p : Program} {l : Launch} {e : Env} {s : State} {m : MethodId} {args : Array Value} {below : List Frame} {meth : Method} {c : Code} {A : Nat → Prop} {Ke : State → Prop} {S : Type} {Wd : S → State → Heap → Prop} (h : gOk p s m args meth c cX10_isDigit 1 RX10 tb) (hmv : gMv Wd) (hkw : gKw Ke) (hKs : Ke s) (s0 : S)  (hr : meth.sig.returnType = some .boolean)  : gS p l e rm_X10_isDigit s m args below meth c 1 A Wd (fun X => MQ below (gPi Wd A (X, s0)) args s rm_X10_isDigit.cells rm_X10_isDigit.slots A) 0 0 (M_isDigit_B16 s0) s0 16 [] [] := by
  unfold M_isDigit_B16
  refine g_iconst (v := 0) h dX10_isDigit_16 (by decide) ?_
  exact M_isDigit_B17_w h hmv hkw hKs _ _ hr
def M_isDigit {S : Type} (s0 : S) (a0 : Int32) : Option (Int32) :=
  if a0 < (48 : Int32) then
    M_isDigit_B16 s0
  else
    if (57 : Int32) < a0 then
      M_isDigit_B16 s0
    else
      M_isDigit_B17 s0 (1 : Int32)
set_option maxHeartbeats 4000000 in
set_option maxRecDepth 100000 in
theorem c_X10_isDigit {l : Launch} {A : Nat → Prop} {Ke : State → Prop} {S : Type} {Wd : S → State → Heap → Prop} (hmv : gMv Wd) (hkw : gKw Ke) (s0 : S) (a0 : Int32) : gCp l yX10_isDigit cX10_isDigit 1 (some .boolean) rm_X10_isDigit Ke Wd A [.int a0] s0 (M_isDigit s0 a0) := by
  refine g_metp (by decide) (by simp [lg_sl, Value.category]) ?_
  intro p e s m below meth c h hr hKs
  refine g_lv [(0, .int a0)] [0] rfl ?_
  unfold M_isDigit
  refine g_iload_n h 0 dX10_isDigit_0 rfl ?_
  refine g_bipush (v := 48) h dX10_isDigit_1 (by decide) ?_
  refine g_icmp_lt h 16 dX10_isDigit_3 (by decide) ?_ ?_
  · refine g_lv [] [] rfl ?_
    exact M_isDigit_B16_w h hmv hkw hKs _  hr
  · refine g_iload_n h 0 dX10_isDigit_6 rfl ?_
    refine g_bipush (v := 57) h dX10_isDigit_7 (by decide) ?_
    refine g_icmp_gt h 16 dX10_isDigit_9 (by decide) ?_ ?_
    · refine g_lv [] [] rfl ?_
      exact M_isDigit_B16_w h hmv hkw hKs _  hr
    · refine g_iconst (v := 1) h dX10_isDigit_12 (by decide) ?_
      refine g_goto h 17 dX10_isDigit_13 (by decide) ?_
      refine g_lv [] [] rfl ?_
      exact M_isDigit_B17_w h hmv hkw hKs _ _ hr
def rm_X10_step : Room := { frames := 1, cells := 0, slots := 0, locals := 21 }
theorem yk_X10_step : yOkV yX10_step cX10_step 2 (none) RX10 0 := ⟨tW_1149, tW_5, tW_1148, tP_37, by decide, by decide, by decide +kernel⟩
def M_step_B26 {Rt : Type} (s0 : Ms) (rec : Ms → Option Rt) (k39 : Ms → Option Rt)  : Option (Rt) :=
  bnd (mSet s0 39 ((s0.1 39) + (1 : Int32))) (fun s_33 =>
  rec s_33)
set_option maxHeartbeats 4000000 in
set_option maxRecDepth 100000 in
theorem M_step_B26_w {p : Program} {l : Launch} {e : Env} {s : State} {m : MethodId} {args : Array Value} {below : List Frame} {meth : Method} {c : Code} {A : Nat → Prop} {Ke : State → Prop} {D : va_G} {cI cZ : ClassId} {E : State → Heap → Prop} {h0 : Nat} {ps : Nat → Nat} (h : gOk p s m args meth c cX10_step 2 RX10 tb) (hE : mEok E A) (hkw : gKw Ke) (hKs : Ke s) {Rt : Type} {QX : Rt → State → Prop} {rec : Ms → Option Rt} {k39 : Ms → Option Rt} (s0 : Ms)  (hrec : ∀ (sx : Ms), gS p l e rm_X10_step s m args below meth c 2 A (MW D cI cZ E A h0 ps) QX 0 0 (rec sx) sx 0 [(0, .ref h0)] []) (hk39 : ∀ (sx : Ms), gS p l e rm_X10_step s m args below meth c 2 A (MW D cI cZ E A h0 ps) QX 0 0 (k39 sx) sx 39 [(0, .ref h0)] []) : gS p l e rm_X10_step s m args below meth c 2 A (MW D cI cZ E A h0 ps) QX 0 0 (M_step_B26 s0 rec k39) s0 26 [(0, .ref h0)] [] := by
  unfold M_step_B26
  refine g_aload_n h 0 dX10_step_26 rfl ?_
  refine g_dup h dX10_step_27 rfl ?_
  refine m_get h hinX10 39 (by decide) rfl tW_945 dX10_step_28 ?_
  refine g_iconst (v := 1) h dX10_step_31 (by decide) ?_
  refine g_iadd h dX10_step_32 ?_
  refine m_put h hE hinX10 39 (by decide) rfl rfl rfl tW_945 dX10_step_33 ?_
  refine g_bnd (fun s_33 => ?_)
  refine g_goto h 0 dX10_step_36 (by decide) ?_
  exact hrec _
def M_step_L0 {Rt : Type} (k39 : Ms → Option Rt) : Nat → Ms → Option Rt
  | 0, _ => none
  | F + 1, s0 =>
  (M_byteAt s0 (s0.1 39)).bind (fun r_5 =>
    if r_5 = (32 : Int32) then
      M_step_B26 s0 (M_step_L0 k39 F) k39
    else
      (M_byteAt s0 (s0.1 39)).bind (fun r_18 =>
      if r_18 = (10 : Int32) then
        M_step_B26 s0 (M_step_L0 k39 F) k39
      else
        k39 s0))
set_option maxHeartbeats 4000000 in
set_option maxRecDepth 100000 in
theorem M_step_L0_w {p : Program} {l : Launch} {e : Env} {s : State} {m : MethodId} {args : Array Value} {below : List Frame} {meth : Method} {c : Code} {A : Nat → Prop} {Ke : State → Prop} {D : va_G} {cI cZ : ClassId} {E : State → Heap → Prop} {h0 : Nat} {ps : Nat → Nat} (h : gOk p s m args meth c cX10_step 2 RX10 tb) (hE : mEok E A) (hkw : gKw Ke) (hKs : Ke s) {Rt : Type} {QX : Rt → State → Prop}  {k39 : Ms → Option Rt} (hk39 : ∀ (sx : Ms), gS p l e rm_X10_step s m args below meth c 2 A (MW D cI cZ E A h0 ps) QX 0 0 (k39 sx) sx 39 [(0, .ref h0)] []) : ∀ (F : Nat) (s0 : Ms), gS p l e rm_X10_step s m args below meth c 2 A (MW D cI cZ E A h0 ps) QX 0 0 (M_step_L0 k39 F s0) s0 0 [(0, .ref h0)] [] := by
  intro F
  induction F with
  | zero =>
    intro s0
    unfold M_step_L0
    exact g_none
  | succ F ih =>
    intro s0
    unfold M_step_L0
    refine g_aload_n h 0 dX10_step_0 rfl ?_
    refine g_aload_n h 0 dX10_step_1 rfl ?_
    refine m_get h hinX10 39 (by decide) rfl tW_945 dX10_step_2 ?_
    refine g_callV0p h (MW_mv hE) hkw hKs [.int (s0.1 39)] (c_X10_byteAt hE hkw s0 (s0.1 39)) yk_X10_byteAt tW_1150 ⟨(Nat.le_of_ble_eq_true rfl), (Nat.le_of_ble_eq_true rfl)⟩ MW_recv rfl rfl rfl rfl (Nat.le_of_ble_eq_true rfl) dX10_step_5 ⟨Nat.zero_le _, Nat.zero_le _⟩ (fun r_5 => ?_)
    refine g_bipush (v := 32) h dX10_step_8 (by decide) ?_
    refine g_icmp_eq h 26 dX10_step_10 (by decide) ?_ ?_
    · exact M_step_B26_w h hE hkw hKs _  (ih) hk39
    · refine g_aload_n h 0 dX10_step_13 rfl ?_
      refine g_aload_n h 0 dX10_step_14 rfl ?_
      refine m_get h hinX10 39 (by decide) rfl tW_945 dX10_step_15 ?_
      refine g_callV0p h (MW_mv hE) hkw hKs [.int (s0.1 39)] (c_X10_byteAt hE hkw s0 (s0.1 39)) yk_X10_byteAt tW_1150 ⟨(Nat.le_of_ble_eq_true rfl), (Nat.le_of_ble_eq_true rfl)⟩ MW_recv rfl rfl rfl rfl (Nat.le_of_ble_eq_true rfl) dX10_step_18 ⟨Nat.zero_le _, Nat.zero_le _⟩ (fun r_18 => ?_)
      refine g_bipush (v := 10) h dX10_step_21 (by decide) ?_
      refine g_icmp_ne h 39 dX10_step_23 (by decide) ?_ ?_
      · exact hk39 _
      · exact M_step_B26_w h hE hkw hKs _  (ih) hk39
def M_step_B214 (s0 : Ms)  : Option (Ms) :=
  bnd (mSet s0 44 (s0.1 39)) (fun s_219 =>
  some s_219)
set_option maxHeartbeats 4000000 in
set_option maxRecDepth 100000 in
theorem M_step_B214_w {p : Program} {l : Launch} {e : Env} {s : State} {m : MethodId} {args : Array Value} {below : List Frame} {meth : Method} {c : Code} {A : Nat → Prop} {Ke : State → Prop} {D : va_G} {cI cZ : ClassId} {E : State → Heap → Prop} {h0 : Nat} {ps : Nat → Nat} (h : gOk p s m args meth c cX10_step 2 RX10 tb) (hE : mEok E A) (hkw : gKw Ke) (hKs : Ke s) (s0 : Ms)  (hr : meth.sig.returnType = none)  : gS p l e rm_X10_step s m args below meth c 2 A (MW D cI cZ E A h0 ps) (fun X => MQ below (gPv (MW D cI cZ E A h0 ps) A X) args s rm_X10_step.cells rm_X10_step.slots A) 0 0 (M_step_B214 s0) s0 214 [(0, .ref h0)] [] := by
  unfold M_step_B214
  refine g_aload_n h 0 dX10_step_214 rfl ?_
  refine g_aload_n h 0 dX10_step_215 rfl ?_
  refine m_get h hinX10 39 (by decide) rfl tW_945 dX10_step_216 ?_
  refine m_put h hE hinX10 44 (by decide) rfl rfl rfl tW_950 dX10_step_219 ?_
  refine g_bnd (fun s_219 => ?_)
  exact g_vret h (MW_mv hE) hr (Nat.le_refl _) (Nat.le_refl _) dX10_step_222
def M_step_B206 (s0 : Ms) (t0 : Int32) (l1 : Int32) : Option (Ms) :=
  bnd (mSet s0 41 t0) (fun s_206 =>
  bnd (mSet s_206 42 l1) (fun s_211 =>
  M_step_B214 s_211))
set_option maxHeartbeats 4000000 in
set_option maxRecDepth 100000 in
theorem M_step_B206_w {p : Program} {l : Launch} {e : Env} {s : State} {m : MethodId} {args : Array Value} {below : List Frame} {meth : Method} {c : Code} {A : Nat → Prop} {Ke : State → Prop} {D : va_G} {cI cZ : ClassId} {E : State → Heap → Prop} {h0 : Nat} {ps : Nat → Nat} (h : gOk p s m args meth c cX10_step 2 RX10 tb) (hE : mEok E A) (hkw : gKw Ke) (hKs : Ke s) (s0 : Ms) (t0 : Int32) (l1 : Int32) (hr : meth.sig.returnType = none)  : gS p l e rm_X10_step s m args below meth c 2 A (MW D cI cZ E A h0 ps) (fun X => MQ below (gPv (MW D cI cZ E A h0 ps) A X) args s rm_X10_step.cells rm_X10_step.slots A) 0 0 (M_step_B206 s0 t0 l1) s0 206 [(0, .ref h0), (1, .int l1)] [.int t0, .ref h0] := by
  unfold M_step_B206
  refine m_put h hE hinX10 41 (by decide) rfl rfl rfl tW_947 dX10_step_206 ?_
  refine g_bnd (fun s_206 => ?_)
  refine g_aload_n h 0 dX10_step_209 rfl ?_
  refine g_iload_n h 1 dX10_step_210 rfl ?_
  refine m_put h hE hinX10 42 (by decide) rfl rfl rfl tW_948 dX10_step_211 ?_
  refine g_bnd (fun s_211 => ?_)
  refine g_lv [(0, .ref h0)] [0] rfl ?_
  exact M_step_B214_w h hE hkw hKs _  hr
def M_step_B201 (s0 : Ms) (l1 : Int32) : Option (Ms) :=
  M_step_B206 s0 (3 : Int32) l1
set_option maxHeartbeats 4000000 in
set_option maxRecDepth 100000 in
theorem M_step_B201_w {p : Program} {l : Launch} {e : Env} {s : State} {m : MethodId} {args : Array Value} {below : List Frame} {meth : Method} {c : Code} {A : Nat → Prop} {Ke : State → Prop} {D : va_G} {cI cZ : ClassId} {E : State → Heap → Prop} {h0 : Nat} {ps : Nat → Nat} (h : gOk p s m args meth c cX10_step 2 RX10 tb) (hE : mEok E A) (hkw : gKw Ke) (hKs : Ke s) (s0 : Ms) (l1 : Int32) (hr : meth.sig.returnType = none)  : gS p l e rm_X10_step s m args below meth c 2 A (MW D cI cZ E A h0 ps) (fun X => MQ below (gPv (MW D cI cZ E A h0 ps) A X) args s rm_X10_step.cells rm_X10_step.slots A) 0 0 (M_step_B201 s0 l1) s0 201 [(0, .ref h0), (1, .int l1)] [.ref h0] := by
  unfold M_step_B201
  refine g_iconst (v := 3) h dX10_step_201 (by decide) ?_
  refine g_goto h 206 dX10_step_202 (by decide) ?_
  exact M_step_B206_w h hE hkw hKs _ _ _ hr
def M_step_L137 {Rt : Type} (k164 : Ms → Option Rt) : Nat → Ms → Option Rt
  | 0, _ => none
  | F + 1, s0 =>
  (M_byteAt s0 (s0.1 39)).bind (fun r_142 =>
    (M_isDigit s0 r_142).bind (fun r_145 =>
    if r_145 = 0 then
      k164 s0
    else
      bnd (mSet s0 39 ((s0.1 39) + (1 : Int32))) (fun s_158 =>
      M_step_L137 k164 F s_158)))
set_option maxHeartbeats 4000000 in
set_option maxRecDepth 100000 in
theorem M_step_L137_w {p : Program} {l : Launch} {e : Env} {s : State} {m : MethodId} {args : Array Value} {below : List Frame} {meth : Method} {c : Code} {A : Nat → Prop} {Ke : State → Prop} {D : va_G} {cI cZ : ClassId} {E : State → Heap → Prop} {h0 : Nat} {ps : Nat → Nat} (h : gOk p s m args meth c cX10_step 2 RX10 tb) (hE : mEok E A) (hkw : gKw Ke) (hKs : Ke s) {Rt : Type} {QX : Rt → State → Prop}  {k164 : Ms → Option Rt} (hk164 : ∀ (sx : Ms), gS p l e rm_X10_step s m args below meth c 2 A (MW D cI cZ E A h0 ps) QX 0 0 (k164 sx) sx 164 [(0, .ref h0)] []) : ∀ (F : Nat) (s0 : Ms), gS p l e rm_X10_step s m args below meth c 2 A (MW D cI cZ E A h0 ps) QX 0 0 (M_step_L137 k164 F s0) s0 137 [(0, .ref h0)] [] := by
  intro F
  induction F with
  | zero =>
    intro s0
    unfold M_step_L137
    exact g_none
  | succ F ih =>
    intro s0
    unfold M_step_L137
    refine g_aload_n h 0 dX10_step_137 rfl ?_
    refine g_aload_n h 0 dX10_step_138 rfl ?_
    refine m_get h hinX10 39 (by decide) rfl tW_945 dX10_step_139 ?_
    refine g_callV0p h (MW_mv hE) hkw hKs [.int (s0.1 39)] (c_X10_byteAt hE hkw s0 (s0.1 39)) yk_X10_byteAt tW_1150 ⟨(Nat.le_of_ble_eq_true rfl), (Nat.le_of_ble_eq_true rfl)⟩ MW_recv rfl rfl rfl rfl (Nat.le_of_ble_eq_true rfl) dX10_step_142 ⟨Nat.zero_le _, Nat.zero_le _⟩ (fun r_142 => ?_)
    refine g_callS0p h (MW_mv hE) hkw hKs [.int r_142] (c_X10_isDigit (MW_mv hE) hkw s0 r_142) yk_X10_isDigit tW_1157 ⟨(Nat.le_of_ble_eq_true rfl), (Nat.le_of_ble_eq_true rfl)⟩ rfl rfl rfl rfl (Nat.le_of_ble_eq_true rfl) dX10_step_145 ⟨Nat.zero_le _, Nat.zero_le _⟩ (fun r_145 => ?_)
    refine g_if_eq h 164 dX10_step_148 (by decide) ?_ ?_
    · exact hk164 _
    · refine g_aload_n h 0 dX10_step_151 rfl ?_
      refine g_dup h dX10_step_152 rfl ?_
      refine m_get h hinX10 39 (by decide) rfl tW_945 dX10_step_153 ?_
      refine g_iconst (v := 1) h dX10_step_156 (by decide) ?_
      refine g_iadd h dX10_step_157 ?_
      refine m_put h hE hinX10 39 (by decide) rfl rfl rfl tW_945 dX10_step_158 ?_
      refine g_bnd (fun s_158 => ?_)
      refine g_goto h 137 dX10_step_161 (by decide) ?_
      exact ih _
def M_step_B109 {Rt : Type} (s0 : Ms) (rec : Ms → Option Rt) (k122 : Ms → Option Rt)  : Option (Rt) :=
  bnd (mSet s0 39 ((s0.1 39) + (1 : Int32))) (fun s_116 =>
  rec s_116)
set_option maxHeartbeats 4000000 in
set_option maxRecDepth 100000 in
theorem M_step_B109_w {p : Program} {l : Launch} {e : Env} {s : State} {m : MethodId} {args : Array Value} {below : List Frame} {meth : Method} {c : Code} {A : Nat → Prop} {Ke : State → Prop} {D : va_G} {cI cZ : ClassId} {E : State → Heap → Prop} {h0 : Nat} {ps : Nat → Nat} (h : gOk p s m args meth c cX10_step 2 RX10 tb) (hE : mEok E A) (hkw : gKw Ke) (hKs : Ke s) {Rt : Type} {QX : Rt → State → Prop} {rec : Ms → Option Rt} {k122 : Ms → Option Rt} (s0 : Ms)  (hrec : ∀ (sx : Ms), gS p l e rm_X10_step s m args below meth c 2 A (MW D cI cZ E A h0 ps) QX 0 0 (rec sx) sx 81 [(0, .ref h0)] []) (hk122 : ∀ (sx : Ms), gS p l e rm_X10_step s m args below meth c 2 A (MW D cI cZ E A h0 ps) QX 0 0 (k122 sx) sx 122 [(0, .ref h0)] []) : gS p l e rm_X10_step s m args below meth c 2 A (MW D cI cZ E A h0 ps) QX 0 0 (M_step_B109 s0 rec k122) s0 109 [(0, .ref h0)] [] := by
  unfold M_step_B109
  refine g_aload_n h 0 dX10_step_109 rfl ?_
  refine g_dup h dX10_step_110 rfl ?_
  refine m_get h hinX10 39 (by decide) rfl tW_945 dX10_step_111 ?_
  refine g_iconst (v := 1) h dX10_step_114 (by decide) ?_
  refine g_iadd h dX10_step_115 ?_
  refine m_put h hE hinX10 39 (by decide) rfl rfl rfl tW_945 dX10_step_116 ?_
  refine g_bnd (fun s_116 => ?_)
  refine g_goto h 81 dX10_step_119 (by decide) ?_
  exact hrec _
def M_step_L81 {Rt : Type} (k122 : Ms → Option Rt) : Nat → Ms → Option Rt
  | 0, _ => none
  | F + 1, s0 =>
  (M_byteAt s0 (s0.1 39)).bind (fun r_86 =>
    (M_isLetter s0 r_86).bind (fun r_89 =>
    if r_89 = 0 then
      (M_byteAt s0 (s0.1 39)).bind (fun r_100 =>
      (M_isDigit s0 r_100).bind (fun r_103 =>
      if r_103 = 0 then
        k122 s0
      else
        M_step_B109 s0 (M_step_L81 k122 F) k122))
    else
      M_step_B109 s0 (M_step_L81 k122 F) k122))
set_option maxHeartbeats 4000000 in
set_option maxRecDepth 100000 in
theorem M_step_L81_w {p : Program} {l : Launch} {e : Env} {s : State} {m : MethodId} {args : Array Value} {below : List Frame} {meth : Method} {c : Code} {A : Nat → Prop} {Ke : State → Prop} {D : va_G} {cI cZ : ClassId} {E : State → Heap → Prop} {h0 : Nat} {ps : Nat → Nat} (h : gOk p s m args meth c cX10_step 2 RX10 tb) (hE : mEok E A) (hkw : gKw Ke) (hKs : Ke s) {Rt : Type} {QX : Rt → State → Prop}  {k122 : Ms → Option Rt} (hk122 : ∀ (sx : Ms), gS p l e rm_X10_step s m args below meth c 2 A (MW D cI cZ E A h0 ps) QX 0 0 (k122 sx) sx 122 [(0, .ref h0)] []) : ∀ (F : Nat) (s0 : Ms), gS p l e rm_X10_step s m args below meth c 2 A (MW D cI cZ E A h0 ps) QX 0 0 (M_step_L81 k122 F s0) s0 81 [(0, .ref h0)] [] := by
  intro F
  induction F with
  | zero =>
    intro s0
    unfold M_step_L81
    exact g_none
  | succ F ih =>
    intro s0
    unfold M_step_L81
    refine g_aload_n h 0 dX10_step_81 rfl ?_
    refine g_aload_n h 0 dX10_step_82 rfl ?_
    refine m_get h hinX10 39 (by decide) rfl tW_945 dX10_step_83 ?_
    refine g_callV0p h (MW_mv hE) hkw hKs [.int (s0.1 39)] (c_X10_byteAt hE hkw s0 (s0.1 39)) yk_X10_byteAt tW_1150 ⟨(Nat.le_of_ble_eq_true rfl), (Nat.le_of_ble_eq_true rfl)⟩ MW_recv rfl rfl rfl rfl (Nat.le_of_ble_eq_true rfl) dX10_step_86 ⟨Nat.zero_le _, Nat.zero_le _⟩ (fun r_86 => ?_)
    refine g_callS0p h (MW_mv hE) hkw hKs [.int r_86] (c_X10_isLetter (MW_mv hE) hkw s0 r_86) yk_X10_isLetter tW_1154 ⟨(Nat.le_of_ble_eq_true rfl), (Nat.le_of_ble_eq_true rfl)⟩ rfl rfl rfl rfl (Nat.le_of_ble_eq_true rfl) dX10_step_89 ⟨Nat.zero_le _, Nat.zero_le _⟩ (fun r_89 => ?_)
    refine g_if_ne h 109 dX10_step_92 (by decide) ?_ ?_
    · exact M_step_B109_w h hE hkw hKs _  (ih) hk122
    · refine g_aload_n h 0 dX10_step_95 rfl ?_
      refine g_aload_n h 0 dX10_step_96 rfl ?_
      refine m_get h hinX10 39 (by decide) rfl tW_945 dX10_step_97 ?_
      refine g_callV0p h (MW_mv hE) hkw hKs [.int (s0.1 39)] (c_X10_byteAt hE hkw s0 (s0.1 39)) yk_X10_byteAt tW_1150 ⟨(Nat.le_of_ble_eq_true rfl), (Nat.le_of_ble_eq_true rfl)⟩ MW_recv rfl rfl rfl rfl (Nat.le_of_ble_eq_true rfl) dX10_step_100 ⟨Nat.zero_le _, Nat.zero_le _⟩ (fun r_100 => ?_)
      refine g_callS0p h (MW_mv hE) hkw hKs [.int r_100] (c_X10_isDigit (MW_mv hE) hkw s0 r_100) yk_X10_isDigit tW_1157 ⟨(Nat.le_of_ble_eq_true rfl), (Nat.le_of_ble_eq_true rfl)⟩ rfl rfl rfl rfl (Nat.le_of_ble_eq_true rfl) dX10_step_103 ⟨Nat.zero_le _, Nat.zero_le _⟩ (fun r_103 => ?_)
      refine g_if_eq h 122 dX10_step_106 (by decide) ?_ ?_
      · exact hk122 _
      · exact M_step_B109_w h hE hkw hKs _  (ih) hk122
def M_step (s0 : Ms)  : Option (Ms) :=
  M_step_L0 (fun s_39 => bnd (mSet s_39 43 (s_39.1 39)) (fun s_44 =>
    bnd (mSet s_44 42 (0 : Int32)) (fun s_49 =>
    (M_byteAt s_49 (s_49.1 39)).bind (fun r_57 =>
    if r_57 = (-1 : Int32) then
      bnd (mSet s_49 41 (0 : Int32)) (fun s_68 =>
      M_step_B214 s_68)
    else
      (M_isLetter s_49 r_57).bind (fun r_75 =>
      if r_75 = 0 then
        (M_isDigit s_49 r_57).bind (fun r_131 =>
        if r_131 = 0 then
          bnd (mSet s_49 39 ((s_49.1 39) + (1 : Int32))) (fun s_179 =>
          if r_57 = (59 : Int32) then
            M_step_B201 s_179 r_57
          else
            if r_57 = (61 : Int32) then
              M_step_B201 s_179 r_57
            else
              if r_57 = (60 : Int32) then
                M_step_B201 s_179 r_57
              else
                M_step_B206 s_179 (4 : Int32) r_57)
        else
          M_step_L137 (fun s_164 => bnd (mSet s_164 41 (2 : Int32)) (fun s_166 =>
            M_step_B214 s_166)) gF s_49)
      else
        M_step_L81 (fun s_122 => bnd (mSet s_122 41 (1 : Int32)) (fun s_124 =>
          M_step_B214 s_124)) gF s_49))))) gF s0
set_option maxHeartbeats 4000000 in
set_option maxRecDepth 100000 in
theorem c_X10_step {l : Launch} {A : Nat → Prop} {Ke : State → Prop} {D : va_G} {cI cZ : ClassId} {E : State → Heap → Prop} {h0 : Nat} {ps : Nat → Nat} (hE : mEok E A) (hkw : gKw Ke) (s0 : Ms)  : gCv l yX10_step cX10_step 2 (none) rm_X10_step Ke (MW D cI cZ E A h0 ps) A [.ref h0] s0 (M_step s0 ) := by
  refine g_metv (by decide) (by simp [lg_sl, Value.category]) ?_
  intro p e s m below meth c h hr hKs
  refine g_lv [(0, .ref h0)] [0] rfl ?_
  unfold M_step
  refine M_step_L0_w h hE hkw hKs  (fun s_39 => ?_) _ _
  · refine g_aload_n h 0 dX10_step_39 rfl ?_
    refine g_aload_n h 0 dX10_step_40 rfl ?_
    refine m_get h hinX10 39 (by decide) rfl tW_945 dX10_step_41 ?_
    refine m_put h hE hinX10 43 (by decide) rfl rfl rfl tW_949 dX10_step_44 ?_
    refine g_bnd (fun s_44 => ?_)
    refine g_aload_n h 0 dX10_step_47 rfl ?_
    refine g_iconst (v := 0) h dX10_step_48 (by decide) ?_
    refine m_put h hE hinX10 42 (by decide) rfl rfl rfl tW_948 dX10_step_49 ?_
    refine g_bnd (fun s_49 => ?_)
    refine g_aload_n h 0 dX10_step_52 rfl ?_
    refine g_aload_n h 0 dX10_step_53 rfl ?_
    refine m_get h hinX10 39 (by decide) rfl tW_945 dX10_step_54 ?_
    refine g_callV0p h (MW_mv hE) hkw hKs [.int (s_49.1 39)] (c_X10_byteAt hE hkw s_49 (s_49.1 39)) yk_X10_byteAt tW_1150 ⟨(Nat.le_of_ble_eq_true rfl), (Nat.le_of_ble_eq_true rfl)⟩ MW_recv rfl rfl rfl rfl (Nat.le_of_ble_eq_true rfl) dX10_step_57 ⟨Nat.zero_le _, Nat.zero_le _⟩ (fun r_57 => ?_)
    refine g_istore_n h [(1, .int r_57), (0, .ref h0)] dX10_step_60 (by decide) rfl ?_
    refine g_iload_n h 0 dX10_step_61 rfl ?_
    refine g_iconst (v := -1) h dX10_step_62 (by decide) ?_
    refine g_icmp_ne h 74 dX10_step_63 (by decide) ?_ ?_
    · refine g_iload_n h 0 dX10_step_74 rfl ?_
      refine g_callS0p h (MW_mv hE) hkw hKs [.int r_57] (c_X10_isLetter (MW_mv hE) hkw s_49 r_57) yk_X10_isLetter tW_1154 ⟨(Nat.le_of_ble_eq_true rfl), (Nat.le_of_ble_eq_true rfl)⟩ rfl rfl rfl rfl (Nat.le_of_ble_eq_true rfl) dX10_step_75 ⟨Nat.zero_le _, Nat.zero_le _⟩ (fun r_75 => ?_)
      refine g_if_eq h 130 dX10_step_78 (by decide) ?_ ?_
      · refine g_iload_n h 0 dX10_step_130 rfl ?_
        refine g_callS0p h (MW_mv hE) hkw hKs [.int r_57] (c_X10_isDigit (MW_mv hE) hkw s_49 r_57) yk_X10_isDigit tW_1157 ⟨(Nat.le_of_ble_eq_true rfl), (Nat.le_of_ble_eq_true rfl)⟩ rfl rfl rfl rfl (Nat.le_of_ble_eq_true rfl) dX10_step_131 ⟨Nat.zero_le _, Nat.zero_le _⟩ (fun r_131 => ?_)
        refine g_if_eq h 172 dX10_step_134 (by decide) ?_ ?_
        · refine g_aload_n h 1 dX10_step_172 rfl ?_
          refine g_dup h dX10_step_173 rfl ?_
          refine m_get h hinX10 39 (by decide) rfl tW_945 dX10_step_174 ?_
          refine g_iconst (v := 1) h dX10_step_177 (by decide) ?_
          refine g_iadd h dX10_step_178 ?_
          refine m_put h hE hinX10 39 (by decide) rfl rfl rfl tW_945 dX10_step_179 ?_
          refine g_bnd (fun s_179 => ?_)
          refine g_aload_n h 1 dX10_step_182 rfl ?_
          refine g_iload_n h 0 dX10_step_183 rfl ?_
          refine g_bipush (v := 59) h dX10_step_184 (by decide) ?_
          refine g_icmp_eq h 201 dX10_step_186 (by decide) ?_ ?_
          · refine g_lv [(0, .ref h0), (1, .int r_57)] [1, 0] rfl ?_
            exact M_step_B201_w h hE hkw hKs _ _ hr
          · refine g_iload_n h 0 dX10_step_189 rfl ?_
            refine g_bipush (v := 61) h dX10_step_190 (by decide) ?_
            refine g_icmp_eq h 201 dX10_step_192 (by decide) ?_ ?_
            · refine g_lv [(0, .ref h0), (1, .int r_57)] [1, 0] rfl ?_
              exact M_step_B201_w h hE hkw hKs _ _ hr
            · refine g_iload_n h 0 dX10_step_195 rfl ?_
              refine g_bipush (v := 60) h dX10_step_196 (by decide) ?_
              refine g_icmp_ne h 205 dX10_step_198 (by decide) ?_ ?_
              · refine g_iconst (v := 4) h dX10_step_205 (by decide) ?_
                refine g_lv [(0, .ref h0), (1, .int r_57)] [1, 0] rfl ?_
                exact M_step_B206_w h hE hkw hKs _ _ _ hr
              · refine g_lv [(0, .ref h0), (1, .int r_57)] [1, 0] rfl ?_
                exact M_step_B201_w h hE hkw hKs _ _ hr
        · refine g_lv [(0, .ref h0)] [1] rfl ?_
          refine M_step_L137_w h hE hkw hKs  (fun s_164 => ?_) _ _
          · refine g_aload_n h 0 dX10_step_164 rfl ?_
            refine g_iconst (v := 2) h dX10_step_165 (by decide) ?_
            refine m_put h hE hinX10 41 (by decide) rfl rfl rfl tW_947 dX10_step_166 ?_
            refine g_bnd (fun s_166 => ?_)
            refine g_goto h 214 dX10_step_169 (by decide) ?_
            exact M_step_B214_w h hE hkw hKs _  hr
      · refine g_lv [(0, .ref h0)] [1] rfl ?_
        refine M_step_L81_w h hE hkw hKs  (fun s_122 => ?_) _ _
        · refine g_aload_n h 0 dX10_step_122 rfl ?_
          refine g_iconst (v := 1) h dX10_step_123 (by decide) ?_
          refine m_put h hE hinX10 41 (by decide) rfl rfl rfl tW_947 dX10_step_124 ?_
          refine g_bnd (fun s_124 => ?_)
          refine g_goto h 214 dX10_step_127 (by decide) ?_
          exact M_step_B214_w h hE hkw hKs _  hr
    · refine g_aload_n h 1 dX10_step_66 rfl ?_
      refine g_iconst (v := 0) h dX10_step_67 (by decide) ?_
      refine m_put h hE hinX10 41 (by decide) rfl rfl rfl tW_947 dX10_step_68 ?_
      refine g_bnd (fun s_68 => ?_)
      refine g_goto h 214 dX10_step_71 (by decide) ?_
      refine g_lv [(0, .ref h0)] [1] rfl ?_
      exact M_step_B214_w h hE hkw hKs _  hr
def rm_X10_wrong : Room := { frames := 0, cells := 0, slots := 0, locals := 0 }
theorem yk_X10_wrong : yOkV yX10_wrong cX10_wrong 2 (none) RX10 1 := ⟨tW_1172, tW_5, tW_1171, tP_40, by decide, by decide, by decide +kernel⟩
def M_wrong (s0 : Ms) (a1 : Int32) : Option (Ms) :=
  if s0.1 45 = 0 then
    bnd (mSet s0 45 a1) (fun s_10 =>
    bnd (mSet s_10 46 (s_10.1 43)) (fun s_18 =>
    some s_18))
  else
    some s0
set_option maxHeartbeats 4000000 in
set_option maxRecDepth 100000 in
theorem c_X10_wrong {l : Launch} {A : Nat → Prop} {Ke : State → Prop} {D : va_G} {cI cZ : ClassId} {E : State → Heap → Prop} {h0 : Nat} {ps : Nat → Nat} (hE : mEok E A) (hkw : gKw Ke) (s0 : Ms) (a1 : Int32) : gCv l yX10_wrong cX10_wrong 2 (none) rm_X10_wrong Ke (MW D cI cZ E A h0 ps) A [.ref h0, .int a1] s0 (M_wrong s0 a1) := by
  refine g_metv (by decide) (by simp [lg_sl, Value.category]) ?_
  intro p e s m below meth c h hr hKs
  refine g_lv [(0, .ref h0), (1, .int a1)] [0, 1] rfl ?_
  unfold M_wrong
  refine g_aload_n h 0 dX10_wrong_0 rfl ?_
  refine m_get h hinX10 45 (by decide) rfl tW_951 dX10_wrong_1 ?_
  refine g_if_eq h 8 dX10_wrong_4 (by decide) ?_ ?_
  · refine g_aload_n h 0 dX10_wrong_8 rfl ?_
    refine g_iload_n h 1 dX10_wrong_9 rfl ?_
    refine m_put h hE hinX10 45 (by decide) rfl rfl rfl tW_951 dX10_wrong_10 ?_
    refine g_bnd (fun s_10 => ?_)
    refine g_aload_n h 0 dX10_wrong_13 rfl ?_
    refine g_aload_n h 0 dX10_wrong_14 rfl ?_
    refine m_get h hinX10 43 (by decide) rfl tW_949 dX10_wrong_15 ?_
    refine m_put h hE hinX10 46 (by decide) rfl rfl rfl tW_952 dX10_wrong_18 ?_
    refine g_bnd (fun s_18 => ?_)
    exact g_vret h (MW_mv hE) hr (Nat.le_refl _) (Nat.le_refl _) dX10_wrong_21
  · exact g_vret h (MW_mv hE) hr (Nat.le_refl _) (Nat.le_refl _) dX10_wrong_7
def rm_X10_numbered : Room := { frames := 0, cells := 0, slots := 0, locals := 0 }
theorem yk_X10_numbered : yOkV yX10_numbered cX10_numbered 4 (some .int) RX10 2 := ⟨tW_1189, tW_5, tW_1188, tP_44, by decide, by decide, by decide +kernel⟩
def M_numbered_B41 (s0 : Ms)  : Option (Int32) :=
  some (-1 : Int32)
set_option maxHeartbeats 4000000 in
set_option maxRecDepth 100000 in
theorem M_numbered_B41_w {p : Program} {l : Launch} {e : Env} {s : State} {m : MethodId} {args : Array Value} {below : List Frame} {meth : Method} {c : Code} {A : Nat → Prop} {Ke : State → Prop} {D : va_G} {cI cZ : ClassId} {E : State → Heap → Prop} {h0 : Nat} {ps : Nat → Nat} (h : gOk p s m args meth c cX10_numbered 4 RX10 tb) (hE : mEok E A) (hkw : gKw Ke) (hKs : Ke s) (s0 : Ms)  (hr : meth.sig.returnType = some .int)  : gS p l e rm_X10_numbered s m args below meth c 4 A (MW D cI cZ E A h0 ps) (fun X => MQ below (gPi (MW D cI cZ E A h0 ps) A (X, s0)) args s rm_X10_numbered.cells rm_X10_numbered.slots A) 0 0 (M_numbered_B41 s0) s0 41 [] [] := by
  unfold M_numbered_B41
  refine g_iconst (v := -1) h dX10_numbered_41 (by decide) ?_
  exact g_iretp h (MW_mv hE) hr (Nat.le_refl _) (Nat.le_refl _) dX10_numbered_42
def M_numbered_B72 (s0 : Ms) (t0 : Int32) : Option (Int32) :=
  some t0
set_option maxHeartbeats 4000000 in
set_option maxRecDepth 100000 in
theorem M_numbered_B72_w {p : Program} {l : Launch} {e : Env} {s : State} {m : MethodId} {args : Array Value} {below : List Frame} {meth : Method} {c : Code} {A : Nat → Prop} {Ke : State → Prop} {D : va_G} {cI cZ : ClassId} {E : State → Heap → Prop} {h0 : Nat} {ps : Nat → Nat} (h : gOk p s m args meth c cX10_numbered 4 RX10 tb) (hE : mEok E A) (hkw : gKw Ke) (hKs : Ke s) (s0 : Ms) (t0 : Int32) (hr : meth.sig.returnType = some .int)  : gS p l e rm_X10_numbered s m args below meth c 4 A (MW D cI cZ E A h0 ps) (fun X => MQ below (gPi (MW D cI cZ E A h0 ps) A (X, s0)) args s rm_X10_numbered.cells rm_X10_numbered.slots A) 0 0 (M_numbered_B72 s0 t0) s0 72 [] [.int t0] := by
  unfold M_numbered_B72
  exact g_iretp h (MW_mv hE) hr (Nat.le_refl _) (Nat.le_refl _) dX10_numbered_72
def M_numbered_B71 (s0 : Ms)  : Option (Int32) :=
  M_numbered_B72 s0 (-1 : Int32)
set_option maxHeartbeats 4000000 in
set_option maxRecDepth 100000 in
theorem M_numbered_B71_w {p : Program} {l : Launch} {e : Env} {s : State} {m : MethodId} {args : Array Value} {below : List Frame} {meth : Method} {c : Code} {A : Nat → Prop} {Ke : State → Prop} {D : va_G} {cI cZ : ClassId} {E : State → Heap → Prop} {h0 : Nat} {ps : Nat → Nat} (h : gOk p s m args meth c cX10_numbered 4 RX10 tb) (hE : mEok E A) (hkw : gKw Ke) (hKs : Ke s) (s0 : Ms)  (hr : meth.sig.returnType = some .int)  : gS p l e rm_X10_numbered s m args below meth c 4 A (MW D cI cZ E A h0 ps) (fun X => MQ below (gPi (MW D cI cZ E A h0 ps) A (X, s0)) args s rm_X10_numbered.cells rm_X10_numbered.slots A) 0 0 (M_numbered_B71 s0) s0 71 [] [] := by
  unfold M_numbered_B71
  refine g_iconst (v := -1) h dX10_numbered_71 (by decide) ?_
  exact M_numbered_B72_w h hE hkw hKs _ _ hr
def M_numbered (s0 : Ms) (a1 : Int32) (a2 : Int32) : Option (Int32) :=
  if s0.1 45 = 0 then
    if s0.1 41 = (1 : Int32) then
      if s0.1 44 = (s0.1 43) + (2 : Int32) then
        if okI (s0.1 43) 1000 = true then
        if s0.2 38 (s0.1 43).toNatClampNeg = a1 then
          if okI ((s0.1 43) + (1 : Int32)) 1000 = true then
          bnd ((s0.2 38 ((s0.1 43) + (1 : Int32)).toNatClampNeg) - (48 : Int32)) (fun v3_57 =>
          if v3_57 < 0 then
            M_numbered_B71 s0
          else
            if a2 < v3_57 then
              M_numbered_B71 s0
            else
              M_numbered_B72 s0 v3_57)
          else none
        else
          M_numbered_B41 s0
        else none
      else
        M_numbered_B41 s0
    else
      M_numbered_B41 s0
  else
    M_numbered_B41 s0
set_option maxHeartbeats 4000000 in
set_option maxRecDepth 100000 in
theorem c_X10_numbered {l : Launch} {A : Nat → Prop} {Ke : State → Prop} {D : va_G} {cI cZ : ClassId} {E : State → Heap → Prop} {h0 : Nat} {ps : Nat → Nat} (hE : mEok E A) (hkw : gKw Ke) (s0 : Ms) (a1 : Int32) (a2 : Int32) : gCp l yX10_numbered cX10_numbered 4 (some .int) rm_X10_numbered Ke (MW D cI cZ E A h0 ps) A [.ref h0, .int a1, .int a2] s0 (M_numbered s0 a1 a2) := by
  refine g_metp (by decide) (by simp [lg_sl, Value.category]) ?_
  intro p e s m below meth c h hr hKs
  refine g_lv [(0, .ref h0), (1, .int a1), (2, .int a2)] [0, 1, 2] rfl ?_
  unfold M_numbered
  refine g_aload_n h 0 dX10_numbered_0 rfl ?_
  refine m_get h hinX10 45 (by decide) rfl tW_951 dX10_numbered_1 ?_
  refine g_if_ne h 41 dX10_numbered_4 (by decide) ?_ ?_
  · refine g_lv [] [] rfl ?_
    exact M_numbered_B41_w h hE hkw hKs _  hr
  · refine g_aload_n h 0 dX10_numbered_7 rfl ?_
    refine m_get h hinX10 41 (by decide) rfl tW_947 dX10_numbered_8 ?_
    refine g_iconst (v := 1) h dX10_numbered_11 (by decide) ?_
    refine g_icmp_ne h 41 dX10_numbered_12 (by decide) ?_ ?_
    · refine g_lv [] [] rfl ?_
      exact M_numbered_B41_w h hE hkw hKs _  hr
    · refine g_aload_n h 0 dX10_numbered_15 rfl ?_
      refine m_get h hinX10 44 (by decide) rfl tW_950 dX10_numbered_16 ?_
      refine g_aload_n h 0 dX10_numbered_19 rfl ?_
      refine m_get h hinX10 43 (by decide) rfl tW_949 dX10_numbered_20 ?_
      refine g_iconst (v := 2) h dX10_numbered_23 (by decide) ?_
      refine g_iadd h dX10_numbered_24 ?_
      refine g_icmp_ne h 41 dX10_numbered_25 (by decide) ?_ ?_
      · refine g_lv [] [] rfl ?_
        exact M_numbered_B41_w h hE hkw hKs _  hr
      · refine g_aload_n h 0 dX10_numbered_28 rfl ?_
        refine m_geta h hinX10 38 (by decide) rfl tW_944 dX10_numbered_29 ?_
        refine g_aload_n h 0 dX10_numbered_32 rfl ?_
        refine m_get h hinX10 43 (by decide) rfl tW_949 dX10_numbered_33 ?_
        refine m_iald h 38 rfl rfl 1000 rfl dX10_numbered_36 ?_
        refine g_iload_n h 1 dX10_numbered_37 rfl ?_
        refine g_icmp_eq h 43 dX10_numbered_38 (by decide) ?_ ?_
        · refine g_aload_n h 0 dX10_numbered_43 rfl ?_
          refine m_geta h hinX10 38 (by decide) rfl tW_944 dX10_numbered_44 ?_
          refine g_aload_n h 0 dX10_numbered_47 rfl ?_
          refine m_get h hinX10 43 (by decide) rfl tW_949 dX10_numbered_48 ?_
          refine g_iconst (v := 1) h dX10_numbered_51 (by decide) ?_
          refine g_iadd h dX10_numbered_52 ?_
          refine m_iald h 38 rfl rfl 1000 rfl dX10_numbered_53 ?_
          refine g_bipush (v := 48) h dX10_numbered_54 (by decide) ?_
          refine g_isub h dX10_numbered_56 ?_
          refine g_bndi (fun v3_57 => ?_)
          refine g_istore_n h [(3, .int v3_57), (0, .ref h0), (1, .int a1), (2, .int a2)] dX10_numbered_57 (by decide) rfl ?_
          refine g_iload_n h 0 dX10_numbered_58 rfl ?_
          refine g_if_lt h 71 dX10_numbered_59 (by decide) ?_ ?_
          · refine g_lv [] [] rfl ?_
            exact M_numbered_B71_w h hE hkw hKs _  hr
          · refine g_iload_n h 0 dX10_numbered_62 rfl ?_
            refine g_iload_n h 3 dX10_numbered_63 rfl ?_
            refine g_icmp_gt h 71 dX10_numbered_64 (by decide) ?_ ?_
            · refine g_lv [] [] rfl ?_
              exact M_numbered_B71_w h hE hkw hKs _  hr
            · refine g_iload_n h 0 dX10_numbered_67 rfl ?_
              refine g_goto h 72 dX10_numbered_68 (by decide) ?_
              refine g_lv [] [] rfl ?_
              exact M_numbered_B72_w h hE hkw hKs _ _ hr
        · refine g_lv [] [] rfl ?_
          exact M_numbered_B41_w h hE hkw hKs _  hr
def rm_X10_readNumbered : Room := { frames := 2, cells := 0, slots := 0, locals := 42 }
theorem yk_X10_readNumbered : yOkV yX10_readNumbered cX10_readNumbered 4 (some .int) RX10 2 := ⟨tW_1185, tW_5, tW_1184, tP_43, by decide, by decide, by decide +kernel⟩
def M_readNumbered_B28 (s0 : Ms) (l3 : Int32) : Option (Int32 × Ms) :=
  some (l3, s0)
set_option maxHeartbeats 4000000 in
set_option maxRecDepth 100000 in
theorem M_readNumbered_B28_w {p : Program} {l : Launch} {e : Env} {s : State} {m : MethodId} {args : Array Value} {below : List Frame} {meth : Method} {c : Code} {A : Nat → Prop} {Ke : State → Prop} {D : va_G} {cI cZ : ClassId} {E : State → Heap → Prop} {h0 : Nat} {ps : Nat → Nat} (h : gOk p s m args meth c cX10_readNumbered 4 RX10 tb) (hE : mEok E A) (hkw : gKw Ke) (hKs : Ke s) (s0 : Ms) (l3 : Int32) (hr : meth.sig.returnType = some .int)  : gS p l e rm_X10_readNumbered s m args below meth c 4 A (MW D cI cZ E A h0 ps) (fun X => MQ below (gPi (MW D cI cZ E A h0 ps) A X) args s rm_X10_readNumbered.cells rm_X10_readNumbered.slots A) 0 0 (M_readNumbered_B28 s0 l3) s0 28 [(3, .int l3)] [] := by
  unfold M_readNumbered_B28
  refine g_iload_n h 0 dX10_readNumbered_28 rfl ?_
  exact g_iret h (MW_mv hE) hr (Nat.le_refl _) (Nat.le_refl _) dX10_readNumbered_29
def M_readNumbered_B17 (s0 : Ms) (l3 : Int32) : Option (Int32 × Ms) :=
  if s0.1 45 = 0 then
    (M_step s0).bind (fun s_25 =>
    M_readNumbered_B28 s_25 l3)
  else
    M_readNumbered_B28 s0 l3
set_option maxHeartbeats 4000000 in
set_option maxRecDepth 100000 in
theorem M_readNumbered_B17_w {p : Program} {l : Launch} {e : Env} {s : State} {m : MethodId} {args : Array Value} {below : List Frame} {meth : Method} {c : Code} {A : Nat → Prop} {Ke : State → Prop} {D : va_G} {cI cZ : ClassId} {E : State → Heap → Prop} {h0 : Nat} {ps : Nat → Nat} (h : gOk p s m args meth c cX10_readNumbered 4 RX10 tb) (hE : mEok E A) (hkw : gKw Ke) (hKs : Ke s) (s0 : Ms) (l3 : Int32) (hr : meth.sig.returnType = some .int)  : gS p l e rm_X10_readNumbered s m args below meth c 4 A (MW D cI cZ E A h0 ps) (fun X => MQ below (gPi (MW D cI cZ E A h0 ps) A X) args s rm_X10_readNumbered.cells rm_X10_readNumbered.slots A) 0 0 (M_readNumbered_B17 s0 l3) s0 17 [(0, .ref h0), (3, .int l3)] [] := by
  unfold M_readNumbered_B17
  refine g_aload_n h 0 dX10_readNumbered_17 rfl ?_
  refine m_get h hinX10 45 (by decide) rfl tW_951 dX10_readNumbered_18 ?_
  refine g_if_ne h 28 dX10_readNumbered_21 (by decide) ?_ ?_
  · refine g_lv [(3, .int l3)] [1] rfl ?_
    exact M_readNumbered_B28_w h hE hkw hKs _ _ hr
  · refine g_aload_n h 0 dX10_readNumbered_24 rfl ?_
    refine g_callV0v h (MW_mv hE) hkw hKs [] (c_X10_step hE hkw s0 ) yk_X10_step tW_1146 ⟨(Nat.le_of_ble_eq_true rfl), (Nat.le_of_ble_eq_true rfl)⟩ MW_recv rfl rfl rfl rfl (Nat.le_of_ble_eq_true rfl) dX10_readNumbered_25 ⟨Nat.zero_le _, Nat.zero_le _⟩ (fun s_25 => ?_)
    refine g_lv [(3, .int l3)] [1] rfl ?_
    exact M_readNumbered_B28_w h hE hkw hKs _ _ hr
def M_readNumbered (s0 : Ms) (a1 : Int32) (a2 : Int32) : Option (Int32 × Ms) :=
  (M_numbered s0 a1 a2).bind (fun r_3 =>
  if r_3 = (-1 : Int32) then
    (M_wrong s0 (1 : Int32)).bind (fun s_14 =>
    M_readNumbered_B17 s_14 r_3)
  else
    M_readNumbered_B17 s0 r_3)
set_option maxHeartbeats 4000000 in
set_option maxRecDepth 100000 in
theorem c_X10_readNumbered {l : Launch} {A : Nat → Prop} {Ke : State → Prop} {D : va_G} {cI cZ : ClassId} {E : State → Heap → Prop} {h0 : Nat} {ps : Nat → Nat} (hE : mEok E A) (hkw : gKw Ke) (s0 : Ms) (a1 : Int32) (a2 : Int32) : gCi l yX10_readNumbered cX10_readNumbered 4 (some .int) rm_X10_readNumbered Ke (MW D cI cZ E A h0 ps) A [.ref h0, .int a1, .int a2] s0 (M_readNumbered s0 a1 a2) := by
  refine g_meti (by decide) (by simp [lg_sl, Value.category]) ?_
  intro p e s m below meth c h hr hKs
  refine g_lv [(0, .ref h0), (1, .int a1), (2, .int a2)] [0, 1, 2] rfl ?_
  unfold M_readNumbered
  refine g_aload_n h 0 dX10_readNumbered_0 rfl ?_
  refine g_iload_n h 1 dX10_readNumbered_1 rfl ?_
  refine g_iload_n h 2 dX10_readNumbered_2 rfl ?_
  refine g_callV0p h (MW_mv hE) hkw hKs [.int a1, .int a2] (c_X10_numbered hE hkw s0 a1 a2) yk_X10_numbered tW_1186 ⟨(Nat.le_of_ble_eq_true rfl), (Nat.le_of_ble_eq_true rfl)⟩ MW_recv rfl rfl rfl rfl (Nat.le_of_ble_eq_true rfl) dX10_readNumbered_3 ⟨Nat.zero_le _, Nat.zero_le _⟩ (fun r_3 => ?_)
  refine g_istore_n h [(3, .int r_3), (0, .ref h0), (1, .int a1), (2, .int a2)] dX10_readNumbered_6 (by decide) rfl ?_
  refine g_iload_n h 0 dX10_readNumbered_7 rfl ?_
  refine g_iconst (v := -1) h dX10_readNumbered_8 (by decide) ?_
  refine g_icmp_ne h 17 dX10_readNumbered_9 (by decide) ?_ ?_
  · refine g_lv [(0, .ref h0), (3, .int r_3)] [1, 0] rfl ?_
    exact M_readNumbered_B17_w h hE hkw hKs _ _ hr
  · refine g_aload_n h 1 dX10_readNumbered_12 rfl ?_
    refine g_iconst (v := 1) h dX10_readNumbered_13 (by decide) ?_
    refine g_callV0v h (MW_mv hE) hkw hKs [.int (1 : Int32)] (c_X10_wrong hE hkw s0 (1 : Int32)) yk_X10_wrong tW_1169 ⟨(Nat.le_of_ble_eq_true rfl), (Nat.le_of_ble_eq_true rfl)⟩ MW_recv rfl rfl rfl rfl (Nat.le_of_ble_eq_true rfl) dX10_readNumbered_14 ⟨Nat.zero_le _, Nat.zero_le _⟩ (fun s_14 => ?_)
    refine g_lv [(0, .ref h0), (3, .int r_3)] [1, 0] rfl ?_
    exact M_readNumbered_B17_w h hE hkw hKs _ _ hr
def rm_X10_readNumber : Room := { frames := 2, cells := 0, slots := 0, locals := 42 }
theorem yk_X10_readNumber : yOkV yX10_readNumber cX10_readNumber 3 (some .int) RX10 0 := ⟨tW_1194, tW_5, tW_1193, tP_45, by decide, by decide, by decide +kernel⟩
def M_readNumber_L50 {Rt : Type} (s0 : Ms) (k86 : Int32 → Option Rt) : Nat → Int32 → Int32 → Option Rt
  | 0, _, _ => none
  | F + 1, l1, l2 =>
  if s0.1 44 ≤ l2 then
      k86 l1
    else
      if s0.1 45 = 0 then
        if okI l2 1000 = true then
        bnd ((((10 : Int32) * l1) + (s0.2 38 l2.toNatClampNeg)) - (48 : Int32)) (fun v1_79 =>
        M_readNumber_L50 s0 k86 F v1_79 (l2 + 1))
        else none
      else
        k86 l1
set_option maxHeartbeats 4000000 in
set_option maxRecDepth 100000 in
theorem M_readNumber_L50_w {p : Program} {l : Launch} {e : Env} {s : State} {m : MethodId} {args : Array Value} {below : List Frame} {meth : Method} {c : Code} {A : Nat → Prop} {Ke : State → Prop} {D : va_G} {cI cZ : ClassId} {E : State → Heap → Prop} {h0 : Nat} {ps : Nat → Nat} (h : gOk p s m args meth c cX10_readNumber 3 RX10 tb) (hE : mEok E A) (hkw : gKw Ke) (hKs : Ke s) {Rt : Type} {QX : Rt → State → Prop} (s0 : Ms)  {k86 : Int32 → Option Rt} (hk86 : ∀ (l1 : Int32), gS p l e rm_X10_readNumber s m args below meth c 3 A (MW D cI cZ E A h0 ps) QX 0 0 (k86 l1) s0 86 [(0, .ref h0), (1, .int l1)] []) : ∀ (F : Nat) (l1 : Int32) (l2 : Int32), gS p l e rm_X10_readNumber s m args below meth c 3 A (MW D cI cZ E A h0 ps) QX 0 0 (M_readNumber_L50 s0 k86 F l1 l2) s0 50 [(0, .ref h0), (1, .int l1), (2, .int l2)] [] := by
  intro F
  induction F with
  | zero =>
    intro l1 l2
    unfold M_readNumber_L50
    exact g_none
  | succ F ih =>
    intro l1 l2
    unfold M_readNumber_L50
    refine g_iload_n h 2 dX10_readNumber_50 rfl ?_
    refine g_aload_n h 0 dX10_readNumber_51 rfl ?_
    refine m_get h hinX10 44 (by decide) rfl tW_950 dX10_readNumber_52 ?_
    refine g_icmp_ge h 86 dX10_readNumber_55 (by decide) ?_ ?_
    · refine g_lv [(0, .ref h0), (1, .int l1)] [0, 1] rfl ?_
      exact hk86 _
    · refine g_aload_n h 0 dX10_readNumber_58 rfl ?_
      refine m_get h hinX10 45 (by decide) rfl tW_951 dX10_readNumber_59 ?_
      refine g_if_ne h 86 dX10_readNumber_62 (by decide) ?_ ?_
      · refine g_lv [(0, .ref h0), (1, .int l1)] [0, 1] rfl ?_
        exact hk86 _
      · refine g_bipush (v := 10) h dX10_readNumber_65 (by decide) ?_
        refine g_iload_n h 1 dX10_readNumber_67 rfl ?_
        refine g_imul h dX10_readNumber_68 ?_
        refine g_aload_n h 0 dX10_readNumber_69 rfl ?_
        refine m_geta h hinX10 38 (by decide) rfl tW_944 dX10_readNumber_70 ?_
        refine g_iload_n h 2 dX10_readNumber_73 rfl ?_
        refine m_iald h 38 rfl rfl 1000 rfl dX10_readNumber_74 ?_
        refine g_iadd h dX10_readNumber_75 ?_
        refine g_bipush (v := 48) h dX10_readNumber_76 (by decide) ?_
        refine g_isub h dX10_readNumber_78 ?_
        refine g_bndi (fun v1_79 => ?_)
        refine g_istore_n h [(1, .int v1_79), (0, .ref h0), (2, .int l2)] dX10_readNumber_79 (by decide) rfl ?_
        refine g_iinc (v := l2 + 1) (i := 2) h [(2, .int (l2 + 1)), (1, .int v1_79), (0, .ref h0)] dX10_readNumber_80 rfl rfl (by decide) rfl ?_
        refine g_goto h 50 dX10_readNumber_83 (by decide) ?_
        refine g_lv [(0, .ref h0), (1, .int v1_79), (2, .int (l2 + 1))] [2, 1, 0] rfl ?_
        exact ih _ _
def M_readNumber_B97 (s0 : Ms) (l1 : Int32) : Option (Int32 × Ms) :=
  some (l1, s0)
set_option maxHeartbeats 4000000 in
set_option maxRecDepth 100000 in
theorem M_readNumber_B97_w {p : Program} {l : Launch} {e : Env} {s : State} {m : MethodId} {args : Array Value} {below : List Frame} {meth : Method} {c : Code} {A : Nat → Prop} {Ke : State → Prop} {D : va_G} {cI cZ : ClassId} {E : State → Heap → Prop} {h0 : Nat} {ps : Nat → Nat} (h : gOk p s m args meth c cX10_readNumber 3 RX10 tb) (hE : mEok E A) (hkw : gKw Ke) (hKs : Ke s) (s0 : Ms) (l1 : Int32) (hr : meth.sig.returnType = some .int)  : gS p l e rm_X10_readNumber s m args below meth c 3 A (MW D cI cZ E A h0 ps) (fun X => MQ below (gPi (MW D cI cZ E A h0 ps) A X) args s rm_X10_readNumber.cells rm_X10_readNumber.slots A) 0 0 (M_readNumber_B97 s0 l1) s0 97 [(1, .int l1)] [] := by
  unfold M_readNumber_B97
  refine g_iload_n h 0 dX10_readNumber_97 rfl ?_
  exact g_iret h (MW_mv hE) hr (Nat.le_refl _) (Nat.le_refl _) dX10_readNumber_98
def M_readNumber_B86 (s0 : Ms) (l1 : Int32) : Option (Int32 × Ms) :=
  if s0.1 45 = 0 then
    (M_step s0).bind (fun s_94 =>
    M_readNumber_B97 s_94 l1)
  else
    M_readNumber_B97 s0 l1
set_option maxHeartbeats 4000000 in
set_option maxRecDepth 100000 in
theorem M_readNumber_B86_w {p : Program} {l : Launch} {e : Env} {s : State} {m : MethodId} {args : Array Value} {below : List Frame} {meth : Method} {c : Code} {A : Nat → Prop} {Ke : State → Prop} {D : va_G} {cI cZ : ClassId} {E : State → Heap → Prop} {h0 : Nat} {ps : Nat → Nat} (h : gOk p s m args meth c cX10_readNumber 3 RX10 tb) (hE : mEok E A) (hkw : gKw Ke) (hKs : Ke s) (s0 : Ms) (l1 : Int32) (hr : meth.sig.returnType = some .int)  : gS p l e rm_X10_readNumber s m args below meth c 3 A (MW D cI cZ E A h0 ps) (fun X => MQ below (gPi (MW D cI cZ E A h0 ps) A X) args s rm_X10_readNumber.cells rm_X10_readNumber.slots A) 0 0 (M_readNumber_B86 s0 l1) s0 86 [(0, .ref h0), (1, .int l1)] [] := by
  unfold M_readNumber_B86
  refine g_aload_n h 0 dX10_readNumber_86 rfl ?_
  refine m_get h hinX10 45 (by decide) rfl tW_951 dX10_readNumber_87 ?_
  refine g_if_ne h 97 dX10_readNumber_90 (by decide) ?_ ?_
  · refine g_lv [(1, .int l1)] [1] rfl ?_
    exact M_readNumber_B97_w h hE hkw hKs _ _ hr
  · refine g_aload_n h 0 dX10_readNumber_93 rfl ?_
    refine g_callV0v h (MW_mv hE) hkw hKs [] (c_X10_step hE hkw s0 ) yk_X10_step tW_1146 ⟨(Nat.le_of_ble_eq_true rfl), (Nat.le_of_ble_eq_true rfl)⟩ MW_recv rfl rfl rfl rfl (Nat.le_of_ble_eq_true rfl) dX10_readNumber_94 ⟨Nat.zero_le _, Nat.zero_le _⟩ (fun s_94 => ?_)
    refine g_lv [(1, .int l1)] [1] rfl ?_
    exact M_readNumber_B97_w h hE hkw hKs _ _ hr
def M_readNumber_B43 (s0 : Ms)  : Option (Int32 × Ms) :=
  bnd (s0.1 43) (fun v2_49 =>
  M_readNumber_L50 s0 (fun v1_86 => M_readNumber_B86 s0 v1_86) gF (0 : Int32) v2_49)
set_option maxHeartbeats 4000000 in
set_option maxRecDepth 100000 in
theorem M_readNumber_B43_w {p : Program} {l : Launch} {e : Env} {s : State} {m : MethodId} {args : Array Value} {below : List Frame} {meth : Method} {c : Code} {A : Nat → Prop} {Ke : State → Prop} {D : va_G} {cI cZ : ClassId} {E : State → Heap → Prop} {h0 : Nat} {ps : Nat → Nat} (h : gOk p s m args meth c cX10_readNumber 3 RX10 tb) (hE : mEok E A) (hkw : gKw Ke) (hKs : Ke s) (s0 : Ms)  (hr : meth.sig.returnType = some .int)  : gS p l e rm_X10_readNumber s m args below meth c 3 A (MW D cI cZ E A h0 ps) (fun X => MQ below (gPi (MW D cI cZ E A h0 ps) A X) args s rm_X10_readNumber.cells rm_X10_readNumber.slots A) 0 0 (M_readNumber_B43 s0) s0 43 [(0, .ref h0)] [] := by
  unfold M_readNumber_B43
  refine g_iconst (v := 0) h dX10_readNumber_43 (by decide) ?_
  refine g_istore_n h [(1, .int (0 : Int32)), (0, .ref h0)] dX10_readNumber_44 (by decide) rfl ?_
  refine g_aload_n h 1 dX10_readNumber_45 rfl ?_
  refine m_get h hinX10 43 (by decide) rfl tW_949 dX10_readNumber_46 ?_
  refine g_bndi (fun v2_49 => ?_)
  refine g_istore_n h [(2, .int v2_49), (1, .int (0 : Int32)), (0, .ref h0)] dX10_readNumber_49 (by decide) rfl ?_
  refine g_lv [(0, .ref h0), (1, .int (0 : Int32)), (2, .int v2_49)] [2, 1, 0] rfl ?_
  refine M_readNumber_L50_w h hE hkw hKs _  (fun v1_86 => ?_) _ _ _
  · exact M_readNumber_B86_w h hE hkw hKs _ _ hr
def M_readNumber (s0 : Ms)  : Option (Int32 × Ms) :=
  if s0.1 45 = 0 then
    if s0.1 41 = (2 : Int32) then
      if (s0.1 44) - (s0.1 43) ≤ (4 : Int32) then
        M_readNumber_B43 s0
      else
        (M_wrong s0 (2 : Int32)).bind (fun s_40 =>
        M_readNumber_B43 s_40)
    else
      (M_wrong s0 (1 : Int32)).bind (fun s_19 =>
      M_readNumber_B43 s_19)
  else
    some ((0 : Int32), s0)
set_option maxHeartbeats 4000000 in
set_option maxRecDepth 100000 in
theorem c_X10_readNumber {l : Launch} {A : Nat → Prop} {Ke : State → Prop} {D : va_G} {cI cZ : ClassId} {E : State → Heap → Prop} {h0 : Nat} {ps : Nat → Nat} (hE : mEok E A) (hkw : gKw Ke) (s0 : Ms)  : gCi l yX10_readNumber cX10_readNumber 3 (some .int) rm_X10_readNumber Ke (MW D cI cZ E A h0 ps) A [.ref h0] s0 (M_readNumber s0 ) := by
  refine g_meti (by decide) (by simp [lg_sl, Value.category]) ?_
  intro p e s m below meth c h hr hKs
  refine g_lv [(0, .ref h0)] [0] rfl ?_
  unfold M_readNumber
  refine g_aload_n h 0 dX10_readNumber_0 rfl ?_
  refine m_get h hinX10 45 (by decide) rfl tW_951 dX10_readNumber_1 ?_
  refine g_if_eq h 9 dX10_readNumber_4 (by decide) ?_ ?_
  · refine g_aload_n h 0 dX10_readNumber_9 rfl ?_
    refine m_get h hinX10 41 (by decide) rfl tW_947 dX10_readNumber_10 ?_
    refine g_iconst (v := 2) h dX10_readNumber_13 (by decide) ?_
    refine g_icmp_eq h 25 dX10_readNumber_14 (by decide) ?_ ?_
    · refine g_aload_n h 0 dX10_readNumber_25 rfl ?_
      refine m_get h hinX10 44 (by decide) rfl tW_950 dX10_readNumber_26 ?_
      refine g_aload_n h 0 dX10_readNumber_29 rfl ?_
      refine m_get h hinX10 43 (by decide) rfl tW_949 dX10_readNumber_30 ?_
      refine g_isub h dX10_readNumber_33 ?_
      refine g_iconst (v := 4) h dX10_readNumber_34 (by decide) ?_
      refine g_icmp_le h 43 dX10_readNumber_35 (by decide) ?_ ?_
      · exact M_readNumber_B43_w h hE hkw hKs _  hr
      · refine g_aload_n h 0 dX10_readNumber_38 rfl ?_
        refine g_iconst (v := 2) h dX10_readNumber_39 (by decide) ?_
        refine g_callV0v h (MW_mv hE) hkw hKs [.int (2 : Int32)] (c_X10_wrong hE hkw s0 (2 : Int32)) yk_X10_wrong tW_1169 ⟨(Nat.le_of_ble_eq_true rfl), (Nat.le_of_ble_eq_true rfl)⟩ MW_recv rfl rfl rfl rfl (Nat.le_of_ble_eq_true rfl) dX10_readNumber_40 ⟨Nat.zero_le _, Nat.zero_le _⟩ (fun s_40 => ?_)
        exact M_readNumber_B43_w h hE hkw hKs _  hr
    · refine g_aload_n h 0 dX10_readNumber_17 rfl ?_
      refine g_iconst (v := 1) h dX10_readNumber_18 (by decide) ?_
      refine g_callV0v h (MW_mv hE) hkw hKs [.int (1 : Int32)] (c_X10_wrong hE hkw s0 (1 : Int32)) yk_X10_wrong tW_1169 ⟨(Nat.le_of_ble_eq_true rfl), (Nat.le_of_ble_eq_true rfl)⟩ MW_recv rfl rfl rfl rfl (Nat.le_of_ble_eq_true rfl) dX10_readNumber_19 ⟨Nat.zero_le _, Nat.zero_le _⟩ (fun s_19 => ?_)
      refine g_goto h 43 dX10_readNumber_22 (by decide) ?_
      exact M_readNumber_B43_w h hE hkw hKs _  hr
  · refine g_iconst (v := 0) h dX10_readNumber_7 (by decide) ?_
    exact g_iret h (MW_mv hE) hr (Nat.le_refl _) (Nat.le_refl _) dX10_readNumber_8
def rm_X10_fault : Room := { frames := 0, cells := 0, slots := 0, locals := 0 }
theorem yk_X10_fault : yOkV yX10_fault cX10_fault 1 (some .int) RX10 0 := ⟨tW_1213, tW_5, tW_1211, tW_1212, by decide, by decide, by decide +kernel⟩
def M_fault (s0 : Ms)  : Option (Int32 × Ms) :=
  bnd (mSet s0 0 (0 : Int32)) (fun s_2 =>
  some (s_2.1 8, s_2))
set_option maxHeartbeats 4000000 in
set_option maxRecDepth 100000 in
theorem c_X10_fault {l : Launch} {A : Nat → Prop} {Ke : State → Prop} {D : va_G} {cI cZ : ClassId} {E : State → Heap → Prop} {h0 : Nat} {ps : Nat → Nat} (hE : mEok E A) (hkw : gKw Ke) (s0 : Ms)  : gCi l yX10_fault cX10_fault 1 (some .int) rm_X10_fault Ke (MW D cI cZ E A h0 ps) A [.ref h0] s0 (M_fault s0 ) := by
  refine g_meti (by decide) (by simp [lg_sl, Value.category]) ?_
  intro p e s m below meth c h hr hKs
  refine g_lv [(0, .ref h0)] [0] rfl ?_
  unfold M_fault
  refine g_aload_n h 0 dX10_fault_0 rfl ?_
  refine g_iconst (v := 0) h dX10_fault_1 (by decide) ?_
  refine m_put h hE hinX10 0 (by decide) rfl rfl rfl tW_906 dX10_fault_2 ?_
  refine g_bnd (fun s_2 => ?_)
  refine g_aload_n h 0 dX10_fault_5 rfl ?_
  refine m_get h hinX10 8 (by decide) rfl tW_914 dX10_fault_6 ?_
  exact g_iret h (MW_mv hE) hr (Nat.le_refl _) (Nat.le_refl _) dX10_fault_9
def rm_X10_isThing : Room := { frames := 0, cells := 0, slots := 0, locals := 0 }
theorem yk_X10_isThing : yOkV yX10_isThing cX10_isThing 2 (some .boolean) RX10 1 := ⟨tW_1225, tW_5, tW_1224, tP_48, by decide, by decide, by decide +kernel⟩
def M_isThing_B17 (s0 : Ms) (t0 : Int32) : Option (Int32) :=
  if okZ t0 = true then some t0 else none
set_option maxHeartbeats 4000000 in
set_option maxRecDepth 100000 in
theorem M_isThing_B17_w {p : Program} {l : Launch} {e : Env} {s : State} {m : MethodId} {args : Array Value} {below : List Frame} {meth : Method} {c : Code} {A : Nat → Prop} {Ke : State → Prop} {D : va_G} {cI cZ : ClassId} {E : State → Heap → Prop} {h0 : Nat} {ps : Nat → Nat} (h : gOk p s m args meth c cX10_isThing 2 RX10 tb) (hE : mEok E A) (hkw : gKw Ke) (hKs : Ke s) (s0 : Ms) (t0 : Int32) (hr : meth.sig.returnType = some .boolean)  : gS p l e rm_X10_isThing s m args below meth c 2 A (MW D cI cZ E A h0 ps) (fun X => MQ below (gPi (MW D cI cZ E A h0 ps) A (X, s0)) args s rm_X10_isThing.cells rm_X10_isThing.slots A) 0 0 (M_isThing_B17 s0 t0) s0 17 [] [.int t0] := by
  unfold M_isThing_B17
  refine g_guard (fun hz => ?_)
  exact g_zretp h (MW_mv hE) hr (Nat.le_refl _) (Nat.le_refl _) hz dX10_isThing_17
def M_isThing_B16 (s0 : Ms)  : Option (Int32) :=
  M_isThing_B17 s0 (0 : Int32)
set_option maxHeartbeats 4000000 in
set_option maxRecDepth 100000 in
theorem M_isThing_B16_w {p : Program} {l : Launch} {e : Env} {s : State} {m : MethodId} {args : Array Value} {below : List Frame} {meth : Method} {c : Code} {A : Nat → Prop} {Ke : State → Prop} {D : va_G} {cI cZ : ClassId} {E : State → Heap → Prop} {h0 : Nat} {ps : Nat → Nat} (h : gOk p s m args meth c cX10_isThing 2 RX10 tb) (hE : mEok E A) (hkw : gKw Ke) (hKs : Ke s) (s0 : Ms)  (hr : meth.sig.returnType = some .boolean)  : gS p l e rm_X10_isThing s m args below meth c 2 A (MW D cI cZ E A h0 ps) (fun X => MQ below (gPi (MW D cI cZ E A h0 ps) A (X, s0)) args s rm_X10_isThing.cells rm_X10_isThing.slots A) 0 0 (M_isThing_B16 s0) s0 16 [] [] := by
  unfold M_isThing_B16
  refine g_iconst (v := 0) h dX10_isThing_16 (by decide) ?_
  exact M_isThing_B17_w h hE hkw hKs _ _ hr
def M_isThing (s0 : Ms) (a1 : Int32) : Option (Int32) :=
  if a1 < 0 then
    M_isThing_B16 s0
  else
    if s0.1 2 ≤ a1 then
      M_isThing_B16 s0
    else
      M_isThing_B17 s0 (1 : Int32)
set_option maxHeartbeats 4000000 in
set_option maxRecDepth 100000 in
theorem c_X10_isThing {l : Launch} {A : Nat → Prop} {Ke : State → Prop} {D : va_G} {cI cZ : ClassId} {E : State → Heap → Prop} {h0 : Nat} {ps : Nat → Nat} (hE : mEok E A) (hkw : gKw Ke) (s0 : Ms) (a1 : Int32) : gCp l yX10_isThing cX10_isThing 2 (some .boolean) rm_X10_isThing Ke (MW D cI cZ E A h0 ps) A [.ref h0, .int a1] s0 (M_isThing s0 a1) := by
  refine g_metp (by decide) (by simp [lg_sl, Value.category]) ?_
  intro p e s m below meth c h hr hKs
  refine g_lv [(0, .ref h0), (1, .int a1)] [0, 1] rfl ?_
  unfold M_isThing
  refine g_iload_n h 1 dX10_isThing_0 rfl ?_
  refine g_if_lt h 16 dX10_isThing_1 (by decide) ?_ ?_
  · refine g_lv [] [] rfl ?_
    exact M_isThing_B16_w h hE hkw hKs _  hr
  · refine g_iload_n h 1 dX10_isThing_4 rfl ?_
    refine g_aload_n h 0 dX10_isThing_5 rfl ?_
    refine m_get h hinX10 2 (by decide) rfl tW_908 dX10_isThing_6 ?_
    refine g_icmp_ge h 16 dX10_isThing_9 (by decide) ?_ ?_
    · refine g_lv [] [] rfl ?_
      exact M_isThing_B16_w h hE hkw hKs _  hr
    · refine g_iconst (v := 1) h dX10_isThing_12 (by decide) ?_
      refine g_goto h 17 dX10_isThing_13 (by decide) ?_
      refine g_lv [] [] rfl ?_
      exact M_isThing_B17_w h hE hkw hKs _ _ hr
def rm_X10_isField : Room := { frames := 0, cells := 0, slots := 0, locals := 0 }
theorem yk_X10_isField : yOkS yX10_isField cX10_isField 1 (some .boolean) 1 := ⟨tW_1236, tW_5, tW_1235, by decide, by decide, by decide +kernel⟩
def M_isField_B15 {S : Type} (s0 : S) (t0 : Int32) : Option (Int32) :=
  if okZ t0 = true then some t0 else none
set_option maxHeartbeats 4000000 in
set_option maxRecDepth 100000 in
theorem M_isField_B15_w {p : Program} {l : Launch} {e : Env} {s : State} {m : MethodId} {args : Array Value} {below : List Frame} {meth : Method} {c : Code} {A : Nat → Prop} {Ke : State → Prop} {S : Type} {Wd : S → State → Heap → Prop} (h : gOk p s m args meth c cX10_isField 1 RX10 tb) (hmv : gMv Wd) (hkw : gKw Ke) (hKs : Ke s) (s0 : S) (t0 : Int32) (hr : meth.sig.returnType = some .boolean)  : gS p l e rm_X10_isField s m args below meth c 1 A Wd (fun X => MQ below (gPi Wd A (X, s0)) args s rm_X10_isField.cells rm_X10_isField.slots A) 0 0 (M_isField_B15 s0 t0) s0 15 [] [.int t0] := by
  unfold M_isField_B15
  refine g_guard (fun hz => ?_)
  exact g_zretp h hmv hr (Nat.le_refl _) (Nat.le_refl _) hz dX10_isField_15
def M_isField_B14 {S : Type} (s0 : S)  : Option (Int32) :=
  M_isField_B15 s0 (0 : Int32)
set_option maxHeartbeats 4000000 in
set_option maxRecDepth 100000 in
theorem M_isField_B14_w {p : Program} {l : Launch} {e : Env} {s : State} {m : MethodId} {args : Array Value} {below : List Frame} {meth : Method} {c : Code} {A : Nat → Prop} {Ke : State → Prop} {S : Type} {Wd : S → State → Heap → Prop} (h : gOk p s m args meth c cX10_isField 1 RX10 tb) (hmv : gMv Wd) (hkw : gKw Ke) (hKs : Ke s) (s0 : S)  (hr : meth.sig.returnType = some .boolean)  : gS p l e rm_X10_isField s m args below meth c 1 A Wd (fun X => MQ below (gPi Wd A (X, s0)) args s rm_X10_isField.cells rm_X10_isField.slots A) 0 0 (M_isField_B14 s0) s0 14 [] [] := by
  unfold M_isField_B14
  refine g_iconst (v := 0) h dX10_isField_14 (by decide) ?_
  exact M_isField_B15_w h hmv hkw hKs _ _ hr
def M_isField {S : Type} (s0 : S) (a0 : Int32) : Option (Int32) :=
  if a0 < 0 then
    M_isField_B14 s0
  else
    if (8 : Int32) ≤ a0 then
      M_isField_B14 s0
    else
      M_isField_B15 s0 (1 : Int32)
set_option maxHeartbeats 4000000 in
set_option maxRecDepth 100000 in
theorem c_X10_isField {l : Launch} {A : Nat → Prop} {Ke : State → Prop} {S : Type} {Wd : S → State → Heap → Prop} (hmv : gMv Wd) (hkw : gKw Ke) (s0 : S) (a0 : Int32) : gCp l yX10_isField cX10_isField 1 (some .boolean) rm_X10_isField Ke Wd A [.int a0] s0 (M_isField s0 a0) := by
  refine g_metp (by decide) (by simp [lg_sl, Value.category]) ?_
  intro p e s m below meth c h hr hKs
  refine g_lv [(0, .int a0)] [0] rfl ?_
  unfold M_isField
  refine g_iload_n h 0 dX10_isField_0 rfl ?_
  refine g_if_lt h 14 dX10_isField_1 (by decide) ?_ ?_
  · refine g_lv [] [] rfl ?_
    exact M_isField_B14_w h hmv hkw hKs _  hr
  · refine g_iload_n h 0 dX10_isField_4 rfl ?_
    refine g_bipush (v := 8) h dX10_isField_5 (by decide) ?_
    refine g_icmp_ge h 14 dX10_isField_7 (by decide) ?_ ?_
    · refine g_lv [] [] rfl ?_
      exact M_isField_B14_w h hmv hkw hKs _  hr
    · refine g_iconst (v := 1) h dX10_isField_10 (by decide) ?_
      refine g_goto h 15 dX10_isField_11 (by decide) ?_
      refine g_lv [] [] rfl ?_
      exact M_isField_B15_w h hmv hkw hKs _ _ hr
def rm_X10_isStore : Room := { frames := 0, cells := 0, slots := 0, locals := 0 }
theorem yk_X10_isStore : yOkS yX10_isStore cX10_isStore 1 (some .boolean) 1 := ⟨tW_1239, tW_5, tW_1238, by decide, by decide, by decide +kernel⟩
def M_isStore_B14 {S : Type} (s0 : S) (t0 : Int32) : Option (Int32) :=
  if okZ t0 = true then some t0 else none
set_option maxHeartbeats 4000000 in
set_option maxRecDepth 100000 in
theorem M_isStore_B14_w {p : Program} {l : Launch} {e : Env} {s : State} {m : MethodId} {args : Array Value} {below : List Frame} {meth : Method} {c : Code} {A : Nat → Prop} {Ke : State → Prop} {S : Type} {Wd : S → State → Heap → Prop} (h : gOk p s m args meth c cX10_isStore 1 RX10 tb) (hmv : gMv Wd) (hkw : gKw Ke) (hKs : Ke s) (s0 : S) (t0 : Int32) (hr : meth.sig.returnType = some .boolean)  : gS p l e rm_X10_isStore s m args below meth c 1 A Wd (fun X => MQ below (gPi Wd A (X, s0)) args s rm_X10_isStore.cells rm_X10_isStore.slots A) 0 0 (M_isStore_B14 s0 t0) s0 14 [] [.int t0] := by
  unfold M_isStore_B14
  refine g_guard (fun hz => ?_)
  exact g_zretp h hmv hr (Nat.le_refl _) (Nat.le_refl _) hz dX10_isStore_14
def M_isStore_B13 {S : Type} (s0 : S)  : Option (Int32) :=
  M_isStore_B14 s0 (0 : Int32)
set_option maxHeartbeats 4000000 in
set_option maxRecDepth 100000 in
theorem M_isStore_B13_w {p : Program} {l : Launch} {e : Env} {s : State} {m : MethodId} {args : Array Value} {below : List Frame} {meth : Method} {c : Code} {A : Nat → Prop} {Ke : State → Prop} {S : Type} {Wd : S → State → Heap → Prop} (h : gOk p s m args meth c cX10_isStore 1 RX10 tb) (hmv : gMv Wd) (hkw : gKw Ke) (hKs : Ke s) (s0 : S)  (hr : meth.sig.returnType = some .boolean)  : gS p l e rm_X10_isStore s m args below meth c 1 A Wd (fun X => MQ below (gPi Wd A (X, s0)) args s rm_X10_isStore.cells rm_X10_isStore.slots A) 0 0 (M_isStore_B13 s0) s0 13 [] [] := by
  unfold M_isStore_B13
  refine g_iconst (v := 0) h dX10_isStore_13 (by decide) ?_
  exact M_isStore_B14_w h hmv hkw hKs _ _ hr
def M_isStore {S : Type} (s0 : S) (a0 : Int32) : Option (Int32) :=
  if a0 < 0 then
    M_isStore_B13 s0
  else
    if (4 : Int32) ≤ a0 then
      M_isStore_B13 s0
    else
      M_isStore_B14 s0 (1 : Int32)
set_option maxHeartbeats 4000000 in
set_option maxRecDepth 100000 in
theorem c_X10_isStore {l : Launch} {A : Nat → Prop} {Ke : State → Prop} {S : Type} {Wd : S → State → Heap → Prop} (hmv : gMv Wd) (hkw : gKw Ke) (s0 : S) (a0 : Int32) : gCp l yX10_isStore cX10_isStore 1 (some .boolean) rm_X10_isStore Ke Wd A [.int a0] s0 (M_isStore s0 a0) := by
  refine g_metp (by decide) (by simp [lg_sl, Value.category]) ?_
  intro p e s m below meth c h hr hKs
  refine g_lv [(0, .int a0)] [0] rfl ?_
  unfold M_isStore
  refine g_iload_n h 0 dX10_isStore_0 rfl ?_
  refine g_if_lt h 13 dX10_isStore_1 (by decide) ?_ ?_
  · refine g_lv [] [] rfl ?_
    exact M_isStore_B13_w h hmv hkw hKs _  hr
  · refine g_iload_n h 0 dX10_isStore_4 rfl ?_
    refine g_iconst (v := 4) h dX10_isStore_5 (by decide) ?_
    refine g_icmp_ge h 13 dX10_isStore_6 (by decide) ?_ ?_
    · refine g_lv [] [] rfl ?_
      exact M_isStore_B13_w h hmv hkw hKs _  hr
    · refine g_iconst (v := 1) h dX10_isStore_9 (by decide) ?_
      refine g_goto h 14 dX10_isStore_10 (by decide) ?_
      refine g_lv [] [] rfl ?_
      exact M_isStore_B14_w h hmv hkw hKs _ _ hr
def rm_X10_thing : Room := { frames := 0, cells := 0, slots := 0, locals := 0 }
theorem yk_X10_thing : yOkV yX10_thing cX10_thing 2 (some .int) RX10 1 := ⟨tW_1217, tW_5, tW_1215, tW_1216, by decide, by decide, by decide +kernel⟩
def M_thing_B23 (s0 : Ms)  : Option (Int32 × Ms) :=
  some ((-1 : Int32), s0)
set_option maxHeartbeats 4000000 in
set_option maxRecDepth 100000 in
theorem M_thing_B23_w {p : Program} {l : Launch} {e : Env} {s : State} {m : MethodId} {args : Array Value} {below : List Frame} {meth : Method} {c : Code} {A : Nat → Prop} {Ke : State → Prop} {D : va_G} {cI cZ : ClassId} {E : State → Heap → Prop} {h0 : Nat} {ps : Nat → Nat} (h : gOk p s m args meth c cX10_thing 2 RX10 tb) (hE : mEok E A) (hkw : gKw Ke) (hKs : Ke s) (s0 : Ms)  (hr : meth.sig.returnType = some .int)  : gS p l e rm_X10_thing s m args below meth c 2 A (MW D cI cZ E A h0 ps) (fun X => MQ below (gPi (MW D cI cZ E A h0 ps) A X) args s rm_X10_thing.cells rm_X10_thing.slots A) 0 0 (M_thing_B23 s0) s0 23 [] [] := by
  unfold M_thing_B23
  refine g_iconst (v := -1) h dX10_thing_23 (by decide) ?_
  exact g_iret h (MW_mv hE) hr (Nat.le_refl _) (Nat.le_refl _) dX10_thing_24
def M_thing (s0 : Ms) (a1 : Int32) : Option (Int32 × Ms) :=
  bnd (mSet s0 0 (0 : Int32)) (fun s_2 =>
  if s_2.1 2 = (30 : Int32) then
    M_thing_B23 s_2
  else
    if a1 < 0 then
      M_thing_B23 s_2
    else
      if a1 ≤ (3 : Int32) then
        if okI (s_2.1 2) 30 = true then
        bnd (mSto s_2 9 (s_2.1 2).toNatClampNeg a1) (fun s_34 =>
        bnd (mSet s_34 2 ((s_34.1 2) + (1 : Int32))) (fun s_42 =>
        some ((s_42.1 2) - (1 : Int32), s_42)))
        else none
      else
        M_thing_B23 s_2)
set_option maxHeartbeats 4000000 in
set_option maxRecDepth 100000 in
theorem c_X10_thing {l : Launch} {A : Nat → Prop} {Ke : State → Prop} {D : va_G} {cI cZ : ClassId} {E : State → Heap → Prop} {h0 : Nat} {ps : Nat → Nat} (hE : mEok E A) (hkw : gKw Ke) (s0 : Ms) (a1 : Int32) : gCi l yX10_thing cX10_thing 2 (some .int) rm_X10_thing Ke (MW D cI cZ E A h0 ps) A [.ref h0, .int a1] s0 (M_thing s0 a1) := by
  refine g_meti (by decide) (by simp [lg_sl, Value.category]) ?_
  intro p e s m below meth c h hr hKs
  refine g_lv [(0, .ref h0), (1, .int a1)] [0, 1] rfl ?_
  unfold M_thing
  refine g_aload_n h 0 dX10_thing_0 rfl ?_
  refine g_iconst (v := 0) h dX10_thing_1 (by decide) ?_
  refine m_put h hE hinX10 0 (by decide) rfl rfl rfl tW_906 dX10_thing_2 ?_
  refine g_bnd (fun s_2 => ?_)
  refine g_aload_n h 0 dX10_thing_5 rfl ?_
  refine m_get h hinX10 2 (by decide) rfl tW_908 dX10_thing_6 ?_
  refine g_bipush (v := 30) h dX10_thing_9 (by decide) ?_
  refine g_icmp_eq h 23 dX10_thing_11 (by decide) ?_ ?_
  · refine g_lv [] [] rfl ?_
    exact M_thing_B23_w h hE hkw hKs _  hr
  · refine g_iload_n h 1 dX10_thing_14 rfl ?_
    refine g_if_lt h 23 dX10_thing_15 (by decide) ?_ ?_
    · refine g_lv [] [] rfl ?_
      exact M_thing_B23_w h hE hkw hKs _  hr
    · refine g_iload_n h 1 dX10_thing_18 rfl ?_
      refine g_iconst (v := 3) h dX10_thing_19 (by decide) ?_
      refine g_icmp_le h 25 dX10_thing_20 (by decide) ?_ ?_
      · refine g_aload_n h 0 dX10_thing_25 rfl ?_
        refine m_geta h hinX10 9 (by decide) rfl tW_915 dX10_thing_26 ?_
        refine g_aload_n h 0 dX10_thing_29 rfl ?_
        refine m_get h hinX10 2 (by decide) rfl tW_908 dX10_thing_30 ?_
        refine g_iload_n h 1 dX10_thing_33 rfl ?_
        refine m_iast h hE 9 rfl rfl 30 rfl dX10_thing_34 ?_
        refine g_bnd (fun s_34 => ?_)
        refine g_aload_n h 0 dX10_thing_35 rfl ?_
        refine g_dup h dX10_thing_36 rfl ?_
        refine m_get h hinX10 2 (by decide) rfl tW_908 dX10_thing_37 ?_
        refine g_iconst (v := 1) h dX10_thing_40 (by decide) ?_
        refine g_iadd h dX10_thing_41 ?_
        refine m_put h hE hinX10 2 (by decide) rfl rfl rfl tW_908 dX10_thing_42 ?_
        refine g_bnd (fun s_42 => ?_)
        refine g_aload_n h 0 dX10_thing_45 rfl ?_
        refine m_get h hinX10 2 (by decide) rfl tW_908 dX10_thing_46 ?_
        refine g_iconst (v := 1) h dX10_thing_49 (by decide) ?_
        refine g_isub h dX10_thing_50 ?_
        exact g_iret h (MW_mv hE) hr (Nat.le_refl _) (Nat.le_refl _) dX10_thing_51
      · refine g_lv [] [] rfl ?_
        exact M_thing_B23_w h hE hkw hKs _  hr
def rm_X10_fact : Room := { frames := 1, cells := 0, slots := 0, locals := 21 }
theorem yk_X10_fact : yOkV yX10_fact cX10_fact 5 (some .int) RX10 3 := ⟨tW_1221, tW_5, tW_1219, tW_1220, by decide, by decide, by decide +kernel⟩
def M_fact_B22 (s0 : Ms)  : Option (Int32 × Ms) :=
  bi (M_fail s0 (1 : Int32)) (fun r_24 s_24 =>
  some (r_24, s_24))
set_option maxHeartbeats 4000000 in
set_option maxRecDepth 100000 in
theorem M_fact_B22_w {p : Program} {l : Launch} {e : Env} {s : State} {m : MethodId} {args : Array Value} {below : List Frame} {meth : Method} {c : Code} {A : Nat → Prop} {Ke : State → Prop} {D : va_G} {cI cZ : ClassId} {E : State → Heap → Prop} {h0 : Nat} {ps : Nat → Nat} (h : gOk p s m args meth c cX10_fact 5 RX10 tb) (hE : mEok E A) (hkw : gKw Ke) (hKs : Ke s) (s0 : Ms)  (hr : meth.sig.returnType = some .int)  : gS p l e rm_X10_fact s m args below meth c 5 A (MW D cI cZ E A h0 ps) (fun X => MQ below (gPi (MW D cI cZ E A h0 ps) A X) args s rm_X10_fact.cells rm_X10_fact.slots A) 0 0 (M_fact_B22 s0) s0 22 [(0, .ref h0)] [] := by
  unfold M_fact_B22
  refine g_aload_n h 0 dX10_fact_22 rfl ?_
  refine g_iconst (v := 1) h dX10_fact_23 (by decide) ?_
  refine g_callV0i h (MW_mv hE) hkw hKs [.int (1 : Int32)] (c_X10_fail hE hkw s0 (1 : Int32)) yk_X10_fail tW_1111 ⟨(Nat.le_of_ble_eq_true rfl), (Nat.le_of_ble_eq_true rfl)⟩ MW_recv rfl rfl rfl rfl (Nat.le_of_ble_eq_true rfl) dX10_fact_24 ⟨Nat.zero_le _, Nat.zero_le _⟩ (fun r_24 s_24 => ?_)
  exact g_iret h (MW_mv hE) hr (Nat.le_refl _) (Nat.le_refl _) dX10_fact_27
def M_fact_B39 (s0 : Ms)  : Option (Int32 × Ms) :=
  bi (M_fail s0 (2 : Int32)) (fun r_41 s_41 =>
  some (r_41, s_41))
set_option maxHeartbeats 4000000 in
set_option maxRecDepth 100000 in
theorem M_fact_B39_w {p : Program} {l : Launch} {e : Env} {s : State} {m : MethodId} {args : Array Value} {below : List Frame} {meth : Method} {c : Code} {A : Nat → Prop} {Ke : State → Prop} {D : va_G} {cI cZ : ClassId} {E : State → Heap → Prop} {h0 : Nat} {ps : Nat → Nat} (h : gOk p s m args meth c cX10_fact 5 RX10 tb) (hE : mEok E A) (hkw : gKw Ke) (hKs : Ke s) (s0 : Ms)  (hr : meth.sig.returnType = some .int)  : gS p l e rm_X10_fact s m args below meth c 5 A (MW D cI cZ E A h0 ps) (fun X => MQ below (gPi (MW D cI cZ E A h0 ps) A X) args s rm_X10_fact.cells rm_X10_fact.slots A) 0 0 (M_fact_B39 s0) s0 39 [(0, .ref h0)] [] := by
  unfold M_fact_B39
  refine g_aload_n h 0 dX10_fact_39 rfl ?_
  refine g_iconst (v := 2) h dX10_fact_40 (by decide) ?_
  refine g_callV0i h (MW_mv hE) hkw hKs [.int (2 : Int32)] (c_X10_fail hE hkw s0 (2 : Int32)) yk_X10_fail tW_1111 ⟨(Nat.le_of_ble_eq_true rfl), (Nat.le_of_ble_eq_true rfl)⟩ MW_recv rfl rfl rfl rfl (Nat.le_of_ble_eq_true rfl) dX10_fact_41 ⟨Nat.zero_le _, Nat.zero_le _⟩ (fun r_41 s_41 => ?_)
  exact g_iret h (MW_mv hE) hr (Nat.le_refl _) (Nat.le_refl _) dX10_fact_44
def M_fact (s0 : Ms) (a1 : Int32) (a2 : Int32) (a3 : Int32) : Option (Int32 × Ms) :=
  bnd (mSet s0 0 (0 : Int32)) (fun s_2 =>
  (M_isThing s_2 a1).bind (fun r_7 =>
  if r_7 = 0 then
    M_fact_B22 s_2
  else
    if a2 < 0 then
      M_fact_B22 s_2
    else
      if a2 ≤ (3 : Int32) then
        if a3 < 0 then
          M_fact_B39 s_2
        else
          if a3 ≤ (9999 : Int32) then
            if okI (((4 : Int32) * a1) + a2) 120 = true then
            bnd (s_2.2 10 (((4 : Int32) * a1) + a2).toNatClampNeg) (fun v4_55 =>
            if okI a1 30 = true then
            bnd (mSto s_2 55 a1.toNatClampNeg (0 : Int32)) (fun s_63 =>
            if okI (((4 : Int32) * a1) + a2) 120 = true then
            bnd (mSto s_63 10 (((4 : Int32) * a1) + a2).toNatClampNeg a3) (fun s_74 =>
            some (v4_55, s_74))
            else none)
            else none)
            else none
          else
            M_fact_B39 s_2
      else
        M_fact_B22 s_2))
set_option maxHeartbeats 4000000 in
set_option maxRecDepth 100000 in
theorem c_X10_fact {l : Launch} {A : Nat → Prop} {Ke : State → Prop} {D : va_G} {cI cZ : ClassId} {E : State → Heap → Prop} {h0 : Nat} {ps : Nat → Nat} (hE : mEok E A) (hkw : gKw Ke) (s0 : Ms) (a1 : Int32) (a2 : Int32) (a3 : Int32) : gCi l yX10_fact cX10_fact 5 (some .int) rm_X10_fact Ke (MW D cI cZ E A h0 ps) A [.ref h0, .int a1, .int a2, .int a3] s0 (M_fact s0 a1 a2 a3) := by
  refine g_meti (by decide) (by simp [lg_sl, Value.category]) ?_
  intro p e s m below meth c h hr hKs
  refine g_lv [(0, .ref h0), (1, .int a1), (2, .int a2), (3, .int a3)] [0, 1, 2, 3] rfl ?_
  unfold M_fact
  refine g_aload_n h 0 dX10_fact_0 rfl ?_
  refine g_iconst (v := 0) h dX10_fact_1 (by decide) ?_
  refine m_put h hE hinX10 0 (by decide) rfl rfl rfl tW_906 dX10_fact_2 ?_
  refine g_bnd (fun s_2 => ?_)
  refine g_aload_n h 0 dX10_fact_5 rfl ?_
  refine g_iload_n h 1 dX10_fact_6 rfl ?_
  refine g_callV0p h (MW_mv hE) hkw hKs [.int a1] (c_X10_isThing hE hkw s_2 a1) yk_X10_isThing tW_1222 ⟨(Nat.le_of_ble_eq_true rfl), (Nat.le_of_ble_eq_true rfl)⟩ MW_recv rfl rfl rfl rfl (Nat.le_of_ble_eq_true rfl) dX10_fact_7 ⟨Nat.zero_le _, Nat.zero_le _⟩ (fun r_7 => ?_)
  refine g_if_eq h 22 dX10_fact_10 (by decide) ?_ ?_
  · refine g_lv [(0, .ref h0)] [0] rfl ?_
    exact M_fact_B22_w h hE hkw hKs _  hr
  · refine g_iload_n h 2 dX10_fact_13 rfl ?_
    refine g_if_lt h 22 dX10_fact_14 (by decide) ?_ ?_
    · refine g_lv [(0, .ref h0)] [0] rfl ?_
      exact M_fact_B22_w h hE hkw hKs _  hr
    · refine g_iload_n h 2 dX10_fact_17 rfl ?_
      refine g_iconst (v := 3) h dX10_fact_18 (by decide) ?_
      refine g_icmp_le h 28 dX10_fact_19 (by decide) ?_ ?_
      · refine g_iload_n h 3 dX10_fact_28 rfl ?_
        refine g_if_lt h 39 dX10_fact_29 (by decide) ?_ ?_
        · refine g_lv [(0, .ref h0)] [0] rfl ?_
          exact M_fact_B39_w h hE hkw hKs _  hr
        · refine g_iload_n h 3 dX10_fact_32 rfl ?_
          refine g_sipush (v := 9999) h dX10_fact_33 (by decide) ?_
          refine g_icmp_le h 45 dX10_fact_36 (by decide) ?_ ?_
          · refine g_aload_n h 0 dX10_fact_45 rfl ?_
            refine m_geta h hinX10 10 (by decide) rfl tW_916 dX10_fact_46 ?_
            refine g_iconst (v := 4) h dX10_fact_49 (by decide) ?_
            refine g_iload_n h 1 dX10_fact_50 rfl ?_
            refine g_imul h dX10_fact_51 ?_
            refine g_iload_n h 2 dX10_fact_52 rfl ?_
            refine g_iadd h dX10_fact_53 ?_
            refine m_iald h 10 rfl rfl 120 rfl dX10_fact_54 ?_
            refine g_bndi (fun v4_55 => ?_)
            refine g_istore h [(4, .int v4_55), (0, .ref h0), (1, .int a1), (2, .int a2), (3, .int a3)] dX10_fact_55 (by decide) rfl ?_
            refine g_aload_n h 1 dX10_fact_57 rfl ?_
            refine m_geta h hinX10 55 (by decide) rfl tW_961 dX10_fact_58 ?_
            refine g_iload_n h 2 dX10_fact_61 rfl ?_
            refine g_iconst (v := 0) h dX10_fact_62 (by decide) ?_
            refine m_zast h hE 55 rfl rfl 30 rfl (by decide) dX10_fact_63 ?_
            refine g_bnd (fun s_63 => ?_)
            refine g_aload_n h 1 dX10_fact_64 rfl ?_
            refine m_geta h hinX10 10 (by decide) rfl tW_916 dX10_fact_65 ?_
            refine g_iconst (v := 4) h dX10_fact_68 (by decide) ?_
            refine g_iload_n h 2 dX10_fact_69 rfl ?_
            refine g_imul h dX10_fact_70 ?_
            refine g_iload_n h 3 dX10_fact_71 rfl ?_
            refine g_iadd h dX10_fact_72 ?_
            refine g_iload_n h 4 dX10_fact_73 rfl ?_
            refine m_iast h hE 10 rfl rfl 120 rfl dX10_fact_74 ?_
            refine g_bnd (fun s_74 => ?_)
            refine g_iload h 0 dX10_fact_75 rfl ?_
            exact g_iret h (MW_mv hE) hr (Nat.le_refl _) (Nat.le_refl _) dX10_fact_77
          · refine g_lv [(0, .ref h0)] [0] rfl ?_
            exact M_fact_B39_w h hE hkw hKs _  hr
      · refine g_lv [(0, .ref h0)] [0] rfl ?_
        exact M_fact_B22_w h hE hkw hKs _  hr
def rm_X10_event : Room := { frames := 1, cells := 0, slots := 0, locals := 21 }
theorem yk_X10_event : yOkV yX10_event cX10_event 5 (some .int) RX10 3 := ⟨tW_1229, tW_5, tW_1227, tW_1228, by decide, by decide, by decide +kernel⟩
def M_event_B22 (s0 : Ms)  : Option (Int32 × Ms) :=
  bi (M_fail s0 (1 : Int32)) (fun r_24 s_24 =>
  some (r_24, s_24))
set_option maxHeartbeats 4000000 in
set_option maxRecDepth 100000 in
theorem M_event_B22_w {p : Program} {l : Launch} {e : Env} {s : State} {m : MethodId} {args : Array Value} {below : List Frame} {meth : Method} {c : Code} {A : Nat → Prop} {Ke : State → Prop} {D : va_G} {cI cZ : ClassId} {E : State → Heap → Prop} {h0 : Nat} {ps : Nat → Nat} (h : gOk p s m args meth c cX10_event 5 RX10 tb) (hE : mEok E A) (hkw : gKw Ke) (hKs : Ke s) (s0 : Ms)  (hr : meth.sig.returnType = some .int)  : gS p l e rm_X10_event s m args below meth c 5 A (MW D cI cZ E A h0 ps) (fun X => MQ below (gPi (MW D cI cZ E A h0 ps) A X) args s rm_X10_event.cells rm_X10_event.slots A) 0 0 (M_event_B22 s0) s0 22 [(0, .ref h0)] [] := by
  unfold M_event_B22
  refine g_aload_n h 0 dX10_event_22 rfl ?_
  refine g_iconst (v := 1) h dX10_event_23 (by decide) ?_
  refine g_callV0i h (MW_mv hE) hkw hKs [.int (1 : Int32)] (c_X10_fail hE hkw s0 (1 : Int32)) yk_X10_fail tW_1111 ⟨(Nat.le_of_ble_eq_true rfl), (Nat.le_of_ble_eq_true rfl)⟩ MW_recv rfl rfl rfl rfl (Nat.le_of_ble_eq_true rfl) dX10_event_24 ⟨Nat.zero_le _, Nat.zero_le _⟩ (fun r_24 s_24 => ?_)
  exact g_iret h (MW_mv hE) hr (Nat.le_refl _) (Nat.le_refl _) dX10_event_27
def M_event_B46 (s0 : Ms) (a1 : Int32) (a2 : Int32) (a3 : Int32) : Option (Int32 × Ms) :=
  if okI (((4 : Int32) * a1) + a2) 120 = true then
  bnd (s0.2 11 (((4 : Int32) * a1) + a2).toNatClampNeg) (fun v4_56 =>
  if okI a1 30 = true then
  bnd (mSto s0 55 a1.toNatClampNeg (0 : Int32)) (fun s_64 =>
  if okI (((4 : Int32) * a1) + a2) 120 = true then
  bnd (mSto s_64 11 (((4 : Int32) * a1) + a2).toNatClampNeg a3) (fun s_75 =>
  some (v4_56, s_75))
  else none)
  else none)
  else none
set_option maxHeartbeats 4000000 in
set_option maxRecDepth 100000 in
theorem M_event_B46_w {p : Program} {l : Launch} {e : Env} {s : State} {m : MethodId} {args : Array Value} {below : List Frame} {meth : Method} {c : Code} {A : Nat → Prop} {Ke : State → Prop} {D : va_G} {cI cZ : ClassId} {E : State → Heap → Prop} {h0 : Nat} {ps : Nat → Nat} (h : gOk p s m args meth c cX10_event 5 RX10 tb) (hE : mEok E A) (hkw : gKw Ke) (hKs : Ke s) (s0 : Ms) (a1 : Int32) (a2 : Int32) (a3 : Int32) (hr : meth.sig.returnType = some .int)  : gS p l e rm_X10_event s m args below meth c 5 A (MW D cI cZ E A h0 ps) (fun X => MQ below (gPi (MW D cI cZ E A h0 ps) A X) args s rm_X10_event.cells rm_X10_event.slots A) 0 0 (M_event_B46 s0 a1 a2 a3) s0 46 [(0, .ref h0), (1, .int a1), (2, .int a2), (3, .int a3)] [] := by
  unfold M_event_B46
  refine g_aload_n h 0 dX10_event_46 rfl ?_
  refine m_geta h hinX10 11 (by decide) rfl tW_917 dX10_event_47 ?_
  refine g_iconst (v := 4) h dX10_event_50 (by decide) ?_
  refine g_iload_n h 1 dX10_event_51 rfl ?_
  refine g_imul h dX10_event_52 ?_
  refine g_iload_n h 2 dX10_event_53 rfl ?_
  refine g_iadd h dX10_event_54 ?_
  refine m_iald h 11 rfl rfl 120 rfl dX10_event_55 ?_
  refine g_bndi (fun v4_56 => ?_)
  refine g_istore h [(4, .int v4_56), (0, .ref h0), (1, .int a1), (2, .int a2), (3, .int a3)] dX10_event_56 (by decide) rfl ?_
  refine g_aload_n h 1 dX10_event_58 rfl ?_
  refine m_geta h hinX10 55 (by decide) rfl tW_961 dX10_event_59 ?_
  refine g_iload_n h 2 dX10_event_62 rfl ?_
  refine g_iconst (v := 0) h dX10_event_63 (by decide) ?_
  refine m_zast h hE 55 rfl rfl 30 rfl (by decide) dX10_event_64 ?_
  refine g_bnd (fun s_64 => ?_)
  refine g_aload_n h 1 dX10_event_65 rfl ?_
  refine m_geta h hinX10 11 (by decide) rfl tW_917 dX10_event_66 ?_
  refine g_iconst (v := 4) h dX10_event_69 (by decide) ?_
  refine g_iload_n h 2 dX10_event_70 rfl ?_
  refine g_imul h dX10_event_71 ?_
  refine g_iload_n h 3 dX10_event_72 rfl ?_
  refine g_iadd h dX10_event_73 ?_
  refine g_iload_n h 4 dX10_event_74 rfl ?_
  refine m_iast h hE 11 rfl rfl 120 rfl dX10_event_75 ?_
  refine g_bnd (fun s_75 => ?_)
  refine g_iload h 0 dX10_event_76 rfl ?_
  exact g_iret h (MW_mv hE) hr (Nat.le_refl _) (Nat.le_refl _) dX10_event_78
def M_event (s0 : Ms) (a1 : Int32) (a2 : Int32) (a3 : Int32) : Option (Int32 × Ms) :=
  bnd (mSet s0 0 (0 : Int32)) (fun s_2 =>
  (M_isThing s_2 a1).bind (fun r_7 =>
  if r_7 = 0 then
    M_event_B22 s_2
  else
    if a2 < 0 then
      M_event_B22 s_2
    else
      if a2 ≤ (3 : Int32) then
        if a3 = (-1 : Int32) then
          M_event_B46 s_2 a1 a2 a3
        else
          (M_isDay s_2 a3).bind (fun r_34 =>
          if r_34 = 0 then
            bi (M_fail s_2 (2 : Int32)) (fun r_42 s_42 =>
            some (r_42, s_42))
          else
            M_event_B46 s_2 a1 a2 a3)
      else
        M_event_B22 s_2))
set_option maxHeartbeats 4000000 in
set_option maxRecDepth 100000 in
theorem c_X10_event {l : Launch} {A : Nat → Prop} {Ke : State → Prop} {D : va_G} {cI cZ : ClassId} {E : State → Heap → Prop} {h0 : Nat} {ps : Nat → Nat} (hE : mEok E A) (hkw : gKw Ke) (s0 : Ms) (a1 : Int32) (a2 : Int32) (a3 : Int32) : gCi l yX10_event cX10_event 5 (some .int) rm_X10_event Ke (MW D cI cZ E A h0 ps) A [.ref h0, .int a1, .int a2, .int a3] s0 (M_event s0 a1 a2 a3) := by
  refine g_meti (by decide) (by simp [lg_sl, Value.category]) ?_
  intro p e s m below meth c h hr hKs
  refine g_lv [(0, .ref h0), (1, .int a1), (2, .int a2), (3, .int a3)] [0, 1, 2, 3] rfl ?_
  unfold M_event
  refine g_aload_n h 0 dX10_event_0 rfl ?_
  refine g_iconst (v := 0) h dX10_event_1 (by decide) ?_
  refine m_put h hE hinX10 0 (by decide) rfl rfl rfl tW_906 dX10_event_2 ?_
  refine g_bnd (fun s_2 => ?_)
  refine g_aload_n h 0 dX10_event_5 rfl ?_
  refine g_iload_n h 1 dX10_event_6 rfl ?_
  refine g_callV0p h (MW_mv hE) hkw hKs [.int a1] (c_X10_isThing hE hkw s_2 a1) yk_X10_isThing tW_1222 ⟨(Nat.le_of_ble_eq_true rfl), (Nat.le_of_ble_eq_true rfl)⟩ MW_recv rfl rfl rfl rfl (Nat.le_of_ble_eq_true rfl) dX10_event_7 ⟨Nat.zero_le _, Nat.zero_le _⟩ (fun r_7 => ?_)
  refine g_if_eq h 22 dX10_event_10 (by decide) ?_ ?_
  · refine g_lv [(0, .ref h0)] [0] rfl ?_
    exact M_event_B22_w h hE hkw hKs _  hr
  · refine g_iload_n h 2 dX10_event_13 rfl ?_
    refine g_if_lt h 22 dX10_event_14 (by decide) ?_ ?_
    · refine g_lv [(0, .ref h0)] [0] rfl ?_
      exact M_event_B22_w h hE hkw hKs _  hr
    · refine g_iload_n h 2 dX10_event_17 rfl ?_
      refine g_iconst (v := 3) h dX10_event_18 (by decide) ?_
      refine g_icmp_le h 28 dX10_event_19 (by decide) ?_ ?_
      · refine g_iload_n h 3 dX10_event_28 rfl ?_
        refine g_iconst (v := -1) h dX10_event_29 (by decide) ?_
        refine g_icmp_eq h 46 dX10_event_30 (by decide) ?_ ?_
        · exact M_event_B46_w h hE hkw hKs _ _ _ _ hr
        · refine g_iload_n h 3 dX10_event_33 rfl ?_
          refine g_callS0p h (MW_mv hE) hkw hKs [.int a3] (c_X10_isDay (MW_mv hE) hkw s_2 a3) yk_X10_isDay tW_1119 ⟨(Nat.le_of_ble_eq_true rfl), (Nat.le_of_ble_eq_true rfl)⟩ rfl rfl rfl rfl (Nat.le_of_ble_eq_true rfl) dX10_event_34 ⟨Nat.zero_le _, Nat.zero_le _⟩ (fun r_34 => ?_)
          refine g_if_ne h 46 dX10_event_37 (by decide) ?_ ?_
          · exact M_event_B46_w h hE hkw hKs _ _ _ _ hr
          · refine g_aload_n h 0 dX10_event_40 rfl ?_
            refine g_iconst (v := 2) h dX10_event_41 (by decide) ?_
            refine g_callV0i h (MW_mv hE) hkw hKs [.int (2 : Int32)] (c_X10_fail hE hkw s_2 (2 : Int32)) yk_X10_fail tW_1111 ⟨(Nat.le_of_ble_eq_true rfl), (Nat.le_of_ble_eq_true rfl)⟩ MW_recv rfl rfl rfl rfl (Nat.le_of_ble_eq_true rfl) dX10_event_42 ⟨Nat.zero_le _, Nat.zero_le _⟩ (fun r_42 s_42 => ?_)
            exact g_iret h (MW_mv hE) hr (Nat.le_refl _) (Nat.le_refl _) dX10_event_45
      · refine g_lv [(0, .ref h0)] [0] rfl ?_
        exact M_event_B22_w h hE hkw hKs _  hr
def rm_X10_force : Room := { frames := 0, cells := 0, slots := 0, locals := 0 }
theorem yk_X10_force : yOkV yX10_force cX10_force 4 (some .int) RX10 1 := ⟨tW_1247, tW_5, tW_1246, tP_50, by decide, by decide, by decide +kernel⟩
def M_force_B44 {Rt : Type} (s0 : Ms) (rec : Int32 → Int32 → Option Rt) (k50 : Int32 → Option Rt) (a1 : Int32) (l2 : Int32) (l3 : Int32) : Option (Rt) :=
  rec l2 (l3 + 1)
set_option maxHeartbeats 4000000 in
set_option maxRecDepth 100000 in
theorem M_force_B44_w {p : Program} {l : Launch} {e : Env} {s : State} {m : MethodId} {args : Array Value} {below : List Frame} {meth : Method} {c : Code} {A : Nat → Prop} {Ke : State → Prop} {D : va_G} {cI cZ : ClassId} {E : State → Heap → Prop} {h0 : Nat} {ps : Nat → Nat} (h : gOk p s m args meth c cX10_force 4 RX10 tb) (hE : mEok E A) (hkw : gKw Ke) (hKs : Ke s) {Rt : Type} {QX : Rt → State → Prop} {rec : Int32 → Int32 → Option Rt} {k50 : Int32 → Option Rt} (s0 : Ms) (a1 : Int32) (l2 : Int32) (l3 : Int32) (hrec : ∀ (l2 : Int32) (l3 : Int32), gS p l e rm_X10_force s m args below meth c 4 A (MW D cI cZ E A h0 ps) QX 0 0 (rec l2 l3) s0 4 [(0, .ref h0), (1, .int a1), (2, .int l2), (3, .int l3)] []) (hk50 : ∀ (l2 : Int32), gS p l e rm_X10_force s m args below meth c 4 A (MW D cI cZ E A h0 ps) QX 0 0 (k50 l2) s0 50 [(2, .int l2)] []) : gS p l e rm_X10_force s m args below meth c 4 A (MW D cI cZ E A h0 ps) QX 0 0 (M_force_B44 s0 rec k50 a1 l2 l3) s0 44 [(0, .ref h0), (1, .int a1), (2, .int l2), (3, .int l3)] [] := by
  unfold M_force_B44
  refine g_iinc (v := l3 + 1) (i := 3) h [(3, .int (l3 + 1)), (0, .ref h0), (1, .int a1), (2, .int l2)] dX10_force_44 rfl rfl (by decide) rfl ?_
  refine g_goto h 4 dX10_force_47 (by decide) ?_
  refine g_lv [(0, .ref h0), (1, .int a1), (2, .int l2), (3, .int (l3 + 1))] [1, 2, 3, 0] rfl ?_
  exact hrec _ _
def M_force_B42 {Rt : Type} (s0 : Ms) (rec : Int32 → Int32 → Option Rt) (k50 : Int32 → Option Rt) (a1 : Int32) (l3 : Int32) : Option (Rt) :=
  M_force_B44 s0 rec k50 a1 l3 l3
set_option maxHeartbeats 4000000 in
set_option maxRecDepth 100000 in
theorem M_force_B42_w {p : Program} {l : Launch} {e : Env} {s : State} {m : MethodId} {args : Array Value} {below : List Frame} {meth : Method} {c : Code} {A : Nat → Prop} {Ke : State → Prop} {D : va_G} {cI cZ : ClassId} {E : State → Heap → Prop} {h0 : Nat} {ps : Nat → Nat} (h : gOk p s m args meth c cX10_force 4 RX10 tb) (hE : mEok E A) (hkw : gKw Ke) (hKs : Ke s) {Rt : Type} {QX : Rt → State → Prop} {rec : Int32 → Int32 → Option Rt} {k50 : Int32 → Option Rt} (s0 : Ms) (a1 : Int32) (l3 : Int32) (hrec : ∀ (l2 : Int32) (l3 : Int32), gS p l e rm_X10_force s m args below meth c 4 A (MW D cI cZ E A h0 ps) QX 0 0 (rec l2 l3) s0 4 [(0, .ref h0), (1, .int a1), (2, .int l2), (3, .int l3)] []) (hk50 : ∀ (l2 : Int32), gS p l e rm_X10_force s m args below meth c 4 A (MW D cI cZ E A h0 ps) QX 0 0 (k50 l2) s0 50 [(2, .int l2)] []) : gS p l e rm_X10_force s m args below meth c 4 A (MW D cI cZ E A h0 ps) QX 0 0 (M_force_B42 s0 rec k50 a1 l3) s0 42 [(0, .ref h0), (1, .int a1), (3, .int l3)] [] := by
  unfold M_force_B42
  refine g_iload_n h 2 dX10_force_42 rfl ?_
  refine g_istore_n h [(2, .int l3), (0, .ref h0), (1, .int a1), (3, .int l3)] dX10_force_43 (by decide) rfl ?_
  refine g_lv [(0, .ref h0), (1, .int a1), (2, .int l3), (3, .int l3)] [1, 2, 0, 3] rfl ?_
  exact M_force_B44_w h hE hkw hKs _ _ _ _ hrec hk50
def M_force_L4 {Rt : Type} (s0 : Ms) (a1 : Int32) (k50 : Int32 → Option Rt) : Nat → Int32 → Int32 → Option Rt
  | 0, _, _ => none
  | F + 1, l2, l3 =>
  if s0.1 3 ≤ l3 then
      k50 l2
    else
      if okI l3 8 = true then
      if a1 < s0.2 24 l3.toNatClampNeg then
        M_force_B44 s0 (M_force_L4 s0 a1 k50 F) k50 a1 l2 l3
      else
        if l2 = (-1 : Int32) then
          M_force_B42 s0 (M_force_L4 s0 a1 k50 F) k50 a1 l3
        else
          if okI l3 8 = true then
          if okI l2 8 = true then
          if s0.2 24 l3.toNatClampNeg < s0.2 24 l2.toNatClampNeg then
            M_force_B44 s0 (M_force_L4 s0 a1 k50 F) k50 a1 l2 l3
          else
            M_force_B42 s0 (M_force_L4 s0 a1 k50 F) k50 a1 l3
          else none
          else none
      else none
set_option maxHeartbeats 4000000 in
set_option maxRecDepth 100000 in
theorem M_force_L4_w {p : Program} {l : Launch} {e : Env} {s : State} {m : MethodId} {args : Array Value} {below : List Frame} {meth : Method} {c : Code} {A : Nat → Prop} {Ke : State → Prop} {D : va_G} {cI cZ : ClassId} {E : State → Heap → Prop} {h0 : Nat} {ps : Nat → Nat} (h : gOk p s m args meth c cX10_force 4 RX10 tb) (hE : mEok E A) (hkw : gKw Ke) (hKs : Ke s) {Rt : Type} {QX : Rt → State → Prop} (s0 : Ms) (a1 : Int32) {k50 : Int32 → Option Rt} (hk50 : ∀ (l2 : Int32), gS p l e rm_X10_force s m args below meth c 4 A (MW D cI cZ E A h0 ps) QX 0 0 (k50 l2) s0 50 [(2, .int l2)] []) : ∀ (F : Nat) (l2 : Int32) (l3 : Int32), gS p l e rm_X10_force s m args below meth c 4 A (MW D cI cZ E A h0 ps) QX 0 0 (M_force_L4 s0 a1 k50 F l2 l3) s0 4 [(0, .ref h0), (1, .int a1), (2, .int l2), (3, .int l3)] [] := by
  intro F
  induction F with
  | zero =>
    intro l2 l3
    unfold M_force_L4
    exact g_none
  | succ F ih =>
    intro l2 l3
    unfold M_force_L4
    refine g_iload_n h 3 dX10_force_4 rfl ?_
    refine g_aload_n h 0 dX10_force_5 rfl ?_
    refine m_get h hinX10 3 (by decide) rfl tW_909 dX10_force_6 ?_
    refine g_icmp_ge h 50 dX10_force_9 (by decide) ?_ ?_
    · refine g_lv [(2, .int l2)] [2] rfl ?_
      exact hk50 _
    · refine g_aload_n h 0 dX10_force_12 rfl ?_
      refine m_geta h hinX10 24 (by decide) rfl tW_930 dX10_force_13 ?_
      refine g_iload_n h 3 dX10_force_16 rfl ?_
      refine m_iald h 24 rfl rfl 8 rfl dX10_force_17 ?_
      refine g_iload_n h 1 dX10_force_18 rfl ?_
      refine g_icmp_gt h 44 dX10_force_19 (by decide) ?_ ?_
      · exact M_force_B44_w h hE hkw hKs _ _ _ _ (ih) hk50
      · refine g_iload_n h 2 dX10_force_22 rfl ?_
        refine g_iconst (v := -1) h dX10_force_23 (by decide) ?_
        refine g_icmp_eq h 42 dX10_force_24 (by decide) ?_ ?_
        · refine g_lv [(0, .ref h0), (1, .int a1), (3, .int l3)] [0, 1, 3] rfl ?_
          exact M_force_B42_w h hE hkw hKs _ _ _ (ih) hk50
        · refine g_aload_n h 0 dX10_force_27 rfl ?_
          refine m_geta h hinX10 24 (by decide) rfl tW_930 dX10_force_28 ?_
          refine g_iload_n h 3 dX10_force_31 rfl ?_
          refine m_iald h 24 rfl rfl 8 rfl dX10_force_32 ?_
          refine g_aload_n h 0 dX10_force_33 rfl ?_
          refine m_geta h hinX10 24 (by decide) rfl tW_930 dX10_force_34 ?_
          refine g_iload_n h 2 dX10_force_37 rfl ?_
          refine m_iald h 24 rfl rfl 8 rfl dX10_force_38 ?_
          refine g_icmp_lt h 44 dX10_force_39 (by decide) ?_ ?_
          · exact M_force_B44_w h hE hkw hKs _ _ _ _ (ih) hk50
          · refine g_lv [(0, .ref h0), (1, .int a1), (3, .int l3)] [0, 1, 3] rfl ?_
            exact M_force_B42_w h hE hkw hKs _ _ _ (ih) hk50
def M_force (s0 : Ms) (a1 : Int32) : Option (Int32) :=
  M_force_L4 s0 a1 (fun v2_50 => some v2_50) gF (-1 : Int32) (0 : Int32)
set_option maxHeartbeats 4000000 in
set_option maxRecDepth 100000 in
theorem c_X10_force {l : Launch} {A : Nat → Prop} {Ke : State → Prop} {D : va_G} {cI cZ : ClassId} {E : State → Heap → Prop} {h0 : Nat} {ps : Nat → Nat} (hE : mEok E A) (hkw : gKw Ke) (s0 : Ms) (a1 : Int32) : gCp l yX10_force cX10_force 4 (some .int) rm_X10_force Ke (MW D cI cZ E A h0 ps) A [.ref h0, .int a1] s0 (M_force s0 a1) := by
  refine g_metp (by decide) (by simp [lg_sl, Value.category]) ?_
  intro p e s m below meth c h hr hKs
  refine g_lv [(0, .ref h0), (1, .int a1)] [0, 1] rfl ?_
  unfold M_force
  refine g_iconst (v := -1) h dX10_force_0 (by decide) ?_
  refine g_istore_n h [(2, .int (-1 : Int32)), (0, .ref h0), (1, .int a1)] dX10_force_1 (by decide) rfl ?_
  refine g_iconst (v := 0) h dX10_force_2 (by decide) ?_
  refine g_istore_n h [(3, .int (0 : Int32)), (2, .int (-1 : Int32)), (0, .ref h0), (1, .int a1)] dX10_force_3 (by decide) rfl ?_
  refine g_lv [(0, .ref h0), (1, .int a1), (2, .int (-1 : Int32)), (3, .int (0 : Int32))] [2, 3, 1, 0] rfl ?_
  refine M_force_L4_w h hE hkw hKs _ _ (fun v2_50 => ?_) _ _ _
  · refine g_iload_n h 0 dX10_force_50 rfl ?_
    exact g_iretp h (MW_mv hE) hr (Nat.le_refl _) (Nat.le_refl _) dX10_force_51
def rm_X10_isFor : Room := { frames := 0, cells := 0, slots := 0, locals := 0 }
theorem yk_X10_isFor : yOkV yX10_isFor cX10_isFor 8 (some .boolean) RX10 3 := ⟨tW_1251, tW_5, tW_1250, tP_51, by decide, by decide, by decide +kernel⟩
def M_isFor_B147 {Rt : Type} (s0 : Ms) (rec : Int32 → Int32 → Option Rt) (k155 : Int32 → Option Rt) (t0 : Int32) (a1 : Int32) (a2 : Int32) (l5 : Int32) : Option (Rt) :=
  rec t0 (l5 + 1)
set_option maxHeartbeats 4000000 in
set_option maxRecDepth 100000 in
theorem M_isFor_B147_w {p : Program} {l : Launch} {e : Env} {s : State} {m : MethodId} {args : Array Value} {below : List Frame} {meth : Method} {c : Code} {A : Nat → Prop} {Ke : State → Prop} {D : va_G} {cI cZ : ClassId} {E : State → Heap → Prop} {h0 : Nat} {ps : Nat → Nat} (h : gOk p s m args meth c cX10_isFor 8 RX10 tb) (hE : mEok E A) (hkw : gKw Ke) (hKs : Ke s) {Rt : Type} {QX : Rt → State → Prop} {rec : Int32 → Int32 → Option Rt} {k155 : Int32 → Option Rt} (s0 : Ms) (t0 : Int32) (a1 : Int32) (a2 : Int32) (l5 : Int32) (hrec : ∀ (l4 : Int32) (l5 : Int32), gS p l e rm_X10_isFor s m args below meth c 8 A (MW D cI cZ E A h0 ps) QX 0 0 (rec l4 l5) s0 55 [(0, .ref h0), (1, .int a1), (2, .int a2), (4, .int l4), (5, .int l5)] []) (hk155 : ∀ (l4 : Int32), gS p l e rm_X10_isFor s m args below meth c 8 A (MW D cI cZ E A h0 ps) QX 0 0 (k155 l4) s0 155 [(4, .int l4)] []) : gS p l e rm_X10_isFor s m args below meth c 8 A (MW D cI cZ E A h0 ps) QX 0 0 (M_isFor_B147 s0 rec k155 t0 a1 a2 l5) s0 147 [(0, .ref h0), (1, .int a1), (2, .int a2), (5, .int l5)] [.int t0] := by
  unfold M_isFor_B147
  refine g_istore h [(4, .int t0), (0, .ref h0), (1, .int a1), (2, .int a2), (5, .int l5)] dX10_isFor_147 (by decide) rfl ?_
  refine g_iinc (v := l5 + 1) (i := 4) h [(5, .int (l5 + 1)), (4, .int t0), (0, .ref h0), (1, .int a1), (2, .int a2)] dX10_isFor_149 rfl rfl (by decide) rfl ?_
  refine g_goto h 55 dX10_isFor_152 (by decide) ?_
  refine g_lv [(0, .ref h0), (1, .int a1), (2, .int a2), (4, .int t0), (5, .int (l5 + 1))] [2, 3, 4, 1, 0] rfl ?_
  exact hrec _ _
def M_isFor_L55 {Rt : Type} (s0 : Ms) (a1 : Int32) (a2 : Int32) (k155 : Int32 → Option Rt) : Nat → Int32 → Int32 → Option Rt
  | 0, _, _ => none
  | F + 1, l4, l5 =>
  if okI a1 192 = true then
    if s0.2 34 a1.toNatClampNeg ≤ l5 then
      k155 l4
    else
      if l4 = 0 then
        k155 l4
      else
        if okI (((4 : Int32) * a1) + l5) 768 = true then
        if okI (((4 : Int32) * a2) + (s0.2 35 (((4 : Int32) * a1) + l5).toNatClampNeg)) 120 = true then
        bnd (s0.2 10 (((4 : Int32) * a2) + (s0.2 35 (((4 : Int32) * a1) + l5).toNatClampNeg)).toNatClampNeg) (fun v6_91 =>
        if okI (((4 : Int32) * a1) + l5) 768 = true then
        bnd (s0.2 36 (((4 : Int32) * a1) + l5).toNatClampNeg) (fun v7_104 =>
        if okI (((4 : Int32) * a1) + l5) 768 = true then
        if s0.2 37 (((4 : Int32) * a1) + l5).toNatClampNeg = 0 then
          if v6_91 = v7_104 then
            M_isFor_B147 s0 (M_isFor_L55 s0 a1 a2 k155 F) k155 (1 : Int32) a1 a2 l5
          else
            M_isFor_B147 s0 (M_isFor_L55 s0 a1 a2 k155 F) k155 (0 : Int32) a1 a2 l5
        else
          if v7_104 ≤ v6_91 then
            M_isFor_B147 s0 (M_isFor_L55 s0 a1 a2 k155 F) k155 (0 : Int32) a1 a2 l5
          else
            M_isFor_B147 s0 (M_isFor_L55 s0 a1 a2 k155 F) k155 (1 : Int32) a1 a2 l5
        else none)
        else none)
        else none
        else none
    else none
set_option maxHeartbeats 4000000 in
set_option maxRecDepth 100000 in
theorem M_isFor_L55_w {p : Program} {l : Launch} {e : Env} {s : State} {m : MethodId} {args : Array Value} {below : List Frame} {meth : Method} {c : Code} {A : Nat → Prop} {Ke : State → Prop} {D : va_G} {cI cZ : ClassId} {E : State → Heap → Prop} {h0 : Nat} {ps : Nat → Nat} (h : gOk p s m args meth c cX10_isFor 8 RX10 tb) (hE : mEok E A) (hkw : gKw Ke) (hKs : Ke s) {Rt : Type} {QX : Rt → State → Prop} (s0 : Ms) (a1 : Int32) (a2 : Int32) {k155 : Int32 → Option Rt} (hk155 : ∀ (l4 : Int32), gS p l e rm_X10_isFor s m args below meth c 8 A (MW D cI cZ E A h0 ps) QX 0 0 (k155 l4) s0 155 [(4, .int l4)] []) : ∀ (F : Nat) (l4 : Int32) (l5 : Int32), gS p l e rm_X10_isFor s m args below meth c 8 A (MW D cI cZ E A h0 ps) QX 0 0 (M_isFor_L55 s0 a1 a2 k155 F l4 l5) s0 55 [(0, .ref h0), (1, .int a1), (2, .int a2), (4, .int l4), (5, .int l5)] [] := by
  intro F
  induction F with
  | zero =>
    intro l4 l5
    unfold M_isFor_L55
    exact g_none
  | succ F ih =>
    intro l4 l5
    unfold M_isFor_L55
    refine g_iload h 4 dX10_isFor_55 rfl ?_
    refine g_aload_n h 0 dX10_isFor_57 rfl ?_
    refine m_geta h hinX10 34 (by decide) rfl tW_940 dX10_isFor_58 ?_
    refine g_iload_n h 1 dX10_isFor_61 rfl ?_
    refine m_iald h 34 rfl rfl 192 rfl dX10_isFor_62 ?_
    refine g_icmp_ge h 155 dX10_isFor_63 (by decide) ?_ ?_
    · refine g_lv [(4, .int l4)] [3] rfl ?_
      exact hk155 _
    · refine g_iload h 3 dX10_isFor_66 rfl ?_
      refine g_if_eq h 155 dX10_isFor_68 (by decide) ?_ ?_
      · refine g_lv [(4, .int l4)] [3] rfl ?_
        exact hk155 _
      · refine g_aload_n h 0 dX10_isFor_71 rfl ?_
        refine m_geta h hinX10 10 (by decide) rfl tW_916 dX10_isFor_72 ?_
        refine g_iconst (v := 4) h dX10_isFor_75 (by decide) ?_
        refine g_iload_n h 2 dX10_isFor_76 rfl ?_
        refine g_imul h dX10_isFor_77 ?_
        refine g_aload_n h 0 dX10_isFor_78 rfl ?_
        refine m_geta h hinX10 35 (by decide) rfl tW_941 dX10_isFor_79 ?_
        refine g_iconst (v := 4) h dX10_isFor_82 (by decide) ?_
        refine g_iload_n h 1 dX10_isFor_83 rfl ?_
        refine g_imul h dX10_isFor_84 ?_
        refine g_iload h 4 dX10_isFor_85 rfl ?_
        refine g_iadd h dX10_isFor_87 ?_
        refine m_iald h 35 rfl rfl 768 rfl dX10_isFor_88 ?_
        refine g_iadd h dX10_isFor_89 ?_
        refine m_iald h 10 rfl rfl 120 rfl dX10_isFor_90 ?_
        refine g_bndi (fun v6_91 => ?_)
        refine g_istore h [(6, .int v6_91), (0, .ref h0), (1, .int a1), (2, .int a2), (4, .int l4), (5, .int l5)] dX10_isFor_91 (by decide) rfl ?_
        refine g_aload_n h 1 dX10_isFor_93 rfl ?_
        refine m_geta h hinX10 36 (by decide) rfl tW_942 dX10_isFor_94 ?_
        refine g_iconst (v := 4) h dX10_isFor_97 (by decide) ?_
        refine g_iload_n h 2 dX10_isFor_98 rfl ?_
        refine g_imul h dX10_isFor_99 ?_
        refine g_iload h 5 dX10_isFor_100 rfl ?_
        refine g_iadd h dX10_isFor_102 ?_
        refine m_iald h 36 rfl rfl 768 rfl dX10_isFor_103 ?_
        refine g_bndi (fun v7_104 => ?_)
        refine g_istore h [(7, .int v7_104), (6, .int v6_91), (0, .ref h0), (1, .int a1), (2, .int a2), (4, .int l4), (5, .int l5)] dX10_isFor_104 (by decide) rfl ?_
        refine g_aload_n h 2 dX10_isFor_106 rfl ?_
        refine m_geta h hinX10 37 (by decide) rfl tW_943 dX10_isFor_107 ?_
        refine g_iconst (v := 4) h dX10_isFor_110 (by decide) ?_
        refine g_iload_n h 3 dX10_isFor_111 rfl ?_
        refine g_imul h dX10_isFor_112 ?_
        refine g_iload h 6 dX10_isFor_113 rfl ?_
        refine g_iadd h dX10_isFor_115 ?_
        refine m_zald h 37 rfl rfl 768 rfl dX10_isFor_116 ?_
        refine g_if_eq h 135 dX10_isFor_117 (by decide) ?_ ?_
        · refine g_iload h 1 dX10_isFor_135 rfl ?_
          refine g_iload h 0 dX10_isFor_137 rfl ?_
          refine g_icmp_ne h 146 dX10_isFor_139 (by decide) ?_ ?_
          · refine g_iconst (v := 0) h dX10_isFor_146 (by decide) ?_
            refine g_lv [(0, .ref h0), (1, .int a1), (2, .int a2), (5, .int l5)] [2, 3, 4, 6] rfl ?_
            exact M_isFor_B147_w h hE hkw hKs _ _ _ _ _ (ih) hk155
          · refine g_iconst (v := 1) h dX10_isFor_142 (by decide) ?_
            refine g_goto h 147 dX10_isFor_143 (by decide) ?_
            refine g_lv [(0, .ref h0), (1, .int a1), (2, .int a2), (5, .int l5)] [2, 3, 4, 6] rfl ?_
            exact M_isFor_B147_w h hE hkw hKs _ _ _ _ _ (ih) hk155
        · refine g_iload h 1 dX10_isFor_120 rfl ?_
          refine g_iload h 0 dX10_isFor_122 rfl ?_
          refine g_icmp_ge h 131 dX10_isFor_124 (by decide) ?_ ?_
          · refine g_iconst (v := 0) h dX10_isFor_131 (by decide) ?_
            refine g_goto h 147 dX10_isFor_132 (by decide) ?_
            refine g_lv [(0, .ref h0), (1, .int a1), (2, .int a2), (5, .int l5)] [2, 3, 4, 6] rfl ?_
            exact M_isFor_B147_w h hE hkw hKs _ _ _ _ _ (ih) hk155
          · refine g_iconst (v := 1) h dX10_isFor_127 (by decide) ?_
            refine g_goto h 147 dX10_isFor_128 (by decide) ?_
            refine g_lv [(0, .ref h0), (1, .int a1), (2, .int a2), (5, .int l5)] [2, 3, 4, 6] rfl ?_
            exact M_isFor_B147_w h hE hkw hKs _ _ _ _ _ (ih) hk155
def M_isFor_B155 (s0 : Ms) (l4 : Int32) : Option (Int32) :=
  if okZ l4 = true then some l4 else none
set_option maxHeartbeats 4000000 in
set_option maxRecDepth 100000 in
theorem M_isFor_B155_w {p : Program} {l : Launch} {e : Env} {s : State} {m : MethodId} {args : Array Value} {below : List Frame} {meth : Method} {c : Code} {A : Nat → Prop} {Ke : State → Prop} {D : va_G} {cI cZ : ClassId} {E : State → Heap → Prop} {h0 : Nat} {ps : Nat → Nat} (h : gOk p s m args meth c cX10_isFor 8 RX10 tb) (hE : mEok E A) (hkw : gKw Ke) (hKs : Ke s) (s0 : Ms) (l4 : Int32) (hr : meth.sig.returnType = some .boolean)  : gS p l e rm_X10_isFor s m args below meth c 8 A (MW D cI cZ E A h0 ps) (fun X => MQ below (gPi (MW D cI cZ E A h0 ps) A (X, s0)) args s rm_X10_isFor.cells rm_X10_isFor.slots A) 0 0 (M_isFor_B155 s0 l4) s0 155 [(4, .int l4)] [] := by
  unfold M_isFor_B155
  refine g_iload h 0 dX10_isFor_155 rfl ?_
  refine g_guard (fun hz => ?_)
  exact g_zretp h (MW_mv hE) hr (Nat.le_refl _) (Nat.le_refl _) hz dX10_isFor_157
def M_isFor_B50 (s0 : Ms) (t0 : Int32) (a1 : Int32) (a2 : Int32) : Option (Int32) :=
  M_isFor_L55 s0 a1 a2 (fun v4_155 => M_isFor_B155 s0 v4_155) gF t0 (0 : Int32)
set_option maxHeartbeats 4000000 in
set_option maxRecDepth 100000 in
theorem M_isFor_B50_w {p : Program} {l : Launch} {e : Env} {s : State} {m : MethodId} {args : Array Value} {below : List Frame} {meth : Method} {c : Code} {A : Nat → Prop} {Ke : State → Prop} {D : va_G} {cI cZ : ClassId} {E : State → Heap → Prop} {h0 : Nat} {ps : Nat → Nat} (h : gOk p s m args meth c cX10_isFor 8 RX10 tb) (hE : mEok E A) (hkw : gKw Ke) (hKs : Ke s) (s0 : Ms) (t0 : Int32) (a1 : Int32) (a2 : Int32) (hr : meth.sig.returnType = some .boolean)  : gS p l e rm_X10_isFor s m args below meth c 8 A (MW D cI cZ E A h0 ps) (fun X => MQ below (gPi (MW D cI cZ E A h0 ps) A (X, s0)) args s rm_X10_isFor.cells rm_X10_isFor.slots A) 0 0 (M_isFor_B50 s0 t0 a1 a2) s0 50 [(0, .ref h0), (1, .int a1), (2, .int a2)] [.int t0] := by
  unfold M_isFor_B50
  refine g_istore h [(4, .int t0), (0, .ref h0), (1, .int a1), (2, .int a2)] dX10_isFor_50 (by decide) rfl ?_
  refine g_iconst (v := 0) h dX10_isFor_52 (by decide) ?_
  refine g_istore h [(5, .int (0 : Int32)), (4, .int t0), (0, .ref h0), (1, .int a1), (2, .int a2)] dX10_isFor_53 (by decide) rfl ?_
  refine g_lv [(0, .ref h0), (1, .int a1), (2, .int a2), (4, .int t0), (5, .int (0 : Int32))] [2, 3, 4, 1, 0] rfl ?_
  refine M_isFor_L55_w h hE hkw hKs _ _ _ (fun v4_155 => ?_) _ _ _
  · exact M_isFor_B155_w h hE hkw hKs _ _ hr
def M_isFor_B45 (s0 : Ms) (a1 : Int32) (a2 : Int32) : Option (Int32) :=
  M_isFor_B50 s0 (1 : Int32) a1 a2
set_option maxHeartbeats 4000000 in
set_option maxRecDepth 100000 in
theorem M_isFor_B45_w {p : Program} {l : Launch} {e : Env} {s : State} {m : MethodId} {args : Array Value} {below : List Frame} {meth : Method} {c : Code} {A : Nat → Prop} {Ke : State → Prop} {D : va_G} {cI cZ : ClassId} {E : State → Heap → Prop} {h0 : Nat} {ps : Nat → Nat} (h : gOk p s m args meth c cX10_isFor 8 RX10 tb) (hE : mEok E A) (hkw : gKw Ke) (hKs : Ke s) (s0 : Ms) (a1 : Int32) (a2 : Int32) (hr : meth.sig.returnType = some .boolean)  : gS p l e rm_X10_isFor s m args below meth c 8 A (MW D cI cZ E A h0 ps) (fun X => MQ below (gPi (MW D cI cZ E A h0 ps) A (X, s0)) args s rm_X10_isFor.cells rm_X10_isFor.slots A) 0 0 (M_isFor_B45 s0 a1 a2) s0 45 [(0, .ref h0), (1, .int a1), (2, .int a2)] [] := by
  unfold M_isFor_B45
  refine g_iconst (v := 1) h dX10_isFor_45 (by decide) ?_
  refine g_goto h 50 dX10_isFor_46 (by decide) ?_
  exact M_isFor_B50_w h hE hkw hKs _ _ _ _ hr
def M_isFor_B49 (s0 : Ms) (a1 : Int32) (a2 : Int32) : Option (Int32) :=
  M_isFor_B50 s0 (0 : Int32) a1 a2
set_option maxHeartbeats 4000000 in
set_option maxRecDepth 100000 in
theorem M_isFor_B49_w {p : Program} {l : Launch} {e : Env} {s : State} {m : MethodId} {args : Array Value} {below : List Frame} {meth : Method} {c : Code} {A : Nat → Prop} {Ke : State → Prop} {D : va_G} {cI cZ : ClassId} {E : State → Heap → Prop} {h0 : Nat} {ps : Nat → Nat} (h : gOk p s m args meth c cX10_isFor 8 RX10 tb) (hE : mEok E A) (hkw : gKw Ke) (hKs : Ke s) (s0 : Ms) (a1 : Int32) (a2 : Int32) (hr : meth.sig.returnType = some .boolean)  : gS p l e rm_X10_isFor s m args below meth c 8 A (MW D cI cZ E A h0 ps) (fun X => MQ below (gPi (MW D cI cZ E A h0 ps) A (X, s0)) args s rm_X10_isFor.cells rm_X10_isFor.slots A) 0 0 (M_isFor_B49 s0 a1 a2) s0 49 [(0, .ref h0), (1, .int a1), (2, .int a2)] [] := by
  unfold M_isFor_B49
  refine g_iconst (v := 0) h dX10_isFor_49 (by decide) ?_
  exact M_isFor_B50_w h hE hkw hKs _ _ _ _ hr
def M_isFor_B25 (s0 : Ms) (a1 : Int32) (a2 : Int32) (a3 : Int32) : Option (Int32) :=
  if okI a1 192 = true then
  if s0.2 28 a1.toNatClampNeg = (-1 : Int32) then
    M_isFor_B45 s0 a1 a2
  else
    if okI a1 192 = true then
    if s0.2 28 a1.toNatClampNeg = a3 then
      M_isFor_B45 s0 a1 a2
    else
      M_isFor_B49 s0 a1 a2
    else none
  else none
set_option maxHeartbeats 4000000 in
set_option maxRecDepth 100000 in
theorem M_isFor_B25_w {p : Program} {l : Launch} {e : Env} {s : State} {m : MethodId} {args : Array Value} {below : List Frame} {meth : Method} {c : Code} {A : Nat → Prop} {Ke : State → Prop} {D : va_G} {cI cZ : ClassId} {E : State → Heap → Prop} {h0 : Nat} {ps : Nat → Nat} (h : gOk p s m args meth c cX10_isFor 8 RX10 tb) (hE : mEok E A) (hkw : gKw Ke) (hKs : Ke s) (s0 : Ms) (a1 : Int32) (a2 : Int32) (a3 : Int32) (hr : meth.sig.returnType = some .boolean)  : gS p l e rm_X10_isFor s m args below meth c 8 A (MW D cI cZ E A h0 ps) (fun X => MQ below (gPi (MW D cI cZ E A h0 ps) A (X, s0)) args s rm_X10_isFor.cells rm_X10_isFor.slots A) 0 0 (M_isFor_B25 s0 a1 a2 a3) s0 25 [(0, .ref h0), (1, .int a1), (2, .int a2), (3, .int a3)] [] := by
  unfold M_isFor_B25
  refine g_aload_n h 0 dX10_isFor_25 rfl ?_
  refine m_geta h hinX10 28 (by decide) rfl tW_934 dX10_isFor_26 ?_
  refine g_iload_n h 1 dX10_isFor_29 rfl ?_
  refine m_iald h 28 rfl rfl 192 rfl dX10_isFor_30 ?_
  refine g_iconst (v := -1) h dX10_isFor_31 (by decide) ?_
  refine g_icmp_eq h 45 dX10_isFor_32 (by decide) ?_ ?_
  · refine g_lv [(0, .ref h0), (1, .int a1), (2, .int a2)] [0, 1, 2] rfl ?_
    exact M_isFor_B45_w h hE hkw hKs _ _ _ hr
  · refine g_aload_n h 0 dX10_isFor_35 rfl ?_
    refine m_geta h hinX10 28 (by decide) rfl tW_934 dX10_isFor_36 ?_
    refine g_iload_n h 1 dX10_isFor_39 rfl ?_
    refine m_iald h 28 rfl rfl 192 rfl dX10_isFor_40 ?_
    refine g_iload_n h 3 dX10_isFor_41 rfl ?_
    refine g_icmp_ne h 49 dX10_isFor_42 (by decide) ?_ ?_
    · refine g_lv [(0, .ref h0), (1, .int a1), (2, .int a2)] [0, 1, 2] rfl ?_
      exact M_isFor_B49_w h hE hkw hKs _ _ _ hr
    · refine g_lv [(0, .ref h0), (1, .int a1), (2, .int a2)] [0, 1, 2] rfl ?_
      exact M_isFor_B45_w h hE hkw hKs _ _ _ hr
def M_isFor (s0 : Ms) (a1 : Int32) (a2 : Int32) (a3 : Int32) : Option (Int32) :=
  if okI a1 192 = true then
  if s0.2 27 a1.toNatClampNeg = (-1 : Int32) then
    M_isFor_B25 s0 a1 a2 a3
  else
    if okI a1 192 = true then
    if okI a2 30 = true then
    if s0.2 27 a1.toNatClampNeg = s0.2 9 a2.toNatClampNeg then
      M_isFor_B25 s0 a1 a2 a3
    else
      M_isFor_B49 s0 a1 a2
    else none
    else none
  else none
set_option maxHeartbeats 4000000 in
set_option maxRecDepth 100000 in
theorem c_X10_isFor {l : Launch} {A : Nat → Prop} {Ke : State → Prop} {D : va_G} {cI cZ : ClassId} {E : State → Heap → Prop} {h0 : Nat} {ps : Nat → Nat} (hE : mEok E A) (hkw : gKw Ke) (s0 : Ms) (a1 : Int32) (a2 : Int32) (a3 : Int32) : gCp l yX10_isFor cX10_isFor 8 (some .boolean) rm_X10_isFor Ke (MW D cI cZ E A h0 ps) A [.ref h0, .int a1, .int a2, .int a3] s0 (M_isFor s0 a1 a2 a3) := by
  refine g_metp (by decide) (by simp [lg_sl, Value.category]) ?_
  intro p e s m below meth c h hr hKs
  refine g_lv [(0, .ref h0), (1, .int a1), (2, .int a2), (3, .int a3)] [0, 1, 2, 3] rfl ?_
  unfold M_isFor
  refine g_aload_n h 0 dX10_isFor_0 rfl ?_
  refine m_geta h hinX10 27 (by decide) rfl tW_933 dX10_isFor_1 ?_
  refine g_iload_n h 1 dX10_isFor_4 rfl ?_
  refine m_iald h 27 rfl rfl 192 rfl dX10_isFor_5 ?_
  refine g_iconst (v := -1) h dX10_isFor_6 (by decide) ?_
  refine g_icmp_eq h 25 dX10_isFor_7 (by decide) ?_ ?_
  · exact M_isFor_B25_w h hE hkw hKs _ _ _ _ hr
  · refine g_aload_n h 0 dX10_isFor_10 rfl ?_
    refine m_geta h hinX10 27 (by decide) rfl tW_933 dX10_isFor_11 ?_
    refine g_iload_n h 1 dX10_isFor_14 rfl ?_
    refine m_iald h 27 rfl rfl 192 rfl dX10_isFor_15 ?_
    refine g_aload_n h 0 dX10_isFor_16 rfl ?_
    refine m_geta h hinX10 9 (by decide) rfl tW_915 dX10_isFor_17 ?_
    refine g_iload_n h 2 dX10_isFor_20 rfl ?_
    refine m_iald h 9 rfl rfl 30 rfl dX10_isFor_21 ?_
    refine g_icmp_ne h 49 dX10_isFor_22 (by decide) ?_ ?_
    · refine g_lv [(0, .ref h0), (1, .int a1), (2, .int a2)] [0, 1, 2] rfl ?_
      exact M_isFor_B49_w h hE hkw hKs _ _ _ hr
    · exact M_isFor_B25_w h hE hkw hKs _ _ _ _ hr
def rm_X10_until : Room := { frames := 5, cells := 0, slots := 0, locals := 115 }
theorem yk_X10_until : yOkV yX10_until cX10_until 4 (some .int) RX10 2 := ⟨tW_1292, tW_5, tW_1291, tP_56, by decide, by decide, by decide +kernel⟩
def M_until_B50 (s0 : Ms) (t0 : Int32) : Option (Int32) :=
  some t0
set_option maxHeartbeats 4000000 in
set_option maxRecDepth 100000 in
theorem M_until_B50_w {p : Program} {l : Launch} {e : Env} {s : State} {m : MethodId} {args : Array Value} {below : List Frame} {meth : Method} {c : Code} {A : Nat → Prop} {Ke : State → Prop} {D : va_G} {cI cZ : ClassId} {E : State → Heap → Prop} {h0 : Nat} {ps : Nat → Nat} (h : gOk p s m args meth c cX10_until 4 RX10 tb) (hE : mEok E A) (hkw : gKw Ke) (hKs : Ke s) (s0 : Ms) (t0 : Int32) (hr : meth.sig.returnType = some .int)  : gS p l e rm_X10_until s m args below meth c 4 A (MW D cI cZ E A h0 ps) (fun X => MQ below (gPi (MW D cI cZ E A h0 ps) A (X, s0)) args s rm_X10_until.cells rm_X10_until.slots A) 0 0 (M_until_B50 s0 t0) s0 50 [] [.int t0] := by
  unfold M_until_B50
  exact g_iretp h (MW_mv hE) hr (Nat.le_refl _) (Nat.le_refl _) dX10_until_50
def M_until_B37 (s0 : Ms) (t0 : Int32) : Option (Int32) :=
  if t0 ≤ (200000 : Int32) then
    M_until_B50 s0 t0
  else
    M_until_B50 s0 (999999 : Int32)
set_option maxHeartbeats 4000000 in
set_option maxRecDepth 100000 in
theorem M_until_B37_w {p : Program} {l : Launch} {e : Env} {s : State} {m : MethodId} {args : Array Value} {below : List Frame} {meth : Method} {c : Code} {A : Nat → Prop} {Ke : State → Prop} {D : va_G} {cI cZ : ClassId} {E : State → Heap → Prop} {h0 : Nat} {ps : Nat → Nat} (h : gOk p s m args meth c cX10_until 4 RX10 tb) (hE : mEok E A) (hkw : gKw Ke) (hKs : Ke s) (s0 : Ms) (t0 : Int32) (hr : meth.sig.returnType = some .int)  : gS p l e rm_X10_until s m args below meth c 4 A (MW D cI cZ E A h0 ps) (fun X => MQ below (gPi (MW D cI cZ E A h0 ps) A (X, s0)) args s rm_X10_until.cells rm_X10_until.slots A) 0 0 (M_until_B37 s0 t0) s0 37 [] [.int t0] := by
  unfold M_until_B37
  refine g_istore_n h [(3, .int t0)] dX10_until_37 (by decide) rfl ?_
  refine g_iload_n h 0 dX10_until_38 rfl ?_
  refine g_ldc (v := 200000) h tW_1110 dX10_until_39 ?_
  refine g_icmp_le h 49 dX10_until_41 (by decide) ?_ ?_
  · refine g_iload_n h 0 dX10_until_49 rfl ?_
    refine g_lv [] [] rfl ?_
    exact M_until_B50_w h hE hkw hKs _ _ hr
  · refine g_ldc (v := 999999) h tW_1136 dX10_until_44 ?_
    refine g_goto h 50 dX10_until_46 (by decide) ?_
    refine g_lv [] [] rfl ?_
    exact M_until_B50_w h hE hkw hKs _ _ hr
def M_until (s0 : Ms) (a1 : Int32) (a2 : Int32) : Option (Int32) :=
  if okI a1 192 = true then
  if s0.2 30 a1.toNatClampNeg = 0 then
    if okI a1 192 = true then
    M_until_B37 s0 (a2 + (s0.2 29 a1.toNatClampNeg))
    else none
  else
    if okI a1 192 = true then
    if okI a1 192 = true then
    (M_behind s0 a2 ((s0.2 30 a1.toNatClampNeg) * (s0.2 29 a1.toNatClampNeg))).bind (fun r_34 =>
    M_until_B37 s0 r_34)
    else none
    else none
  else none
set_option maxHeartbeats 4000000 in
set_option maxRecDepth 100000 in
theorem c_X10_until {l : Launch} {A : Nat → Prop} {Ke : State → Prop} {D : va_G} {cI cZ : ClassId} {E : State → Heap → Prop} {h0 : Nat} {ps : Nat → Nat} (hE : mEok E A) (hkw : gKw Ke) (s0 : Ms) (a1 : Int32) (a2 : Int32) : gCp l yX10_until cX10_until 4 (some .int) rm_X10_until Ke (MW D cI cZ E A h0 ps) A [.ref h0, .int a1, .int a2] s0 (M_until s0 a1 a2) := by
  refine g_metp (by decide) (by simp [lg_sl, Value.category]) ?_
  intro p e s m below meth c h hr hKs
  refine g_lv [(0, .ref h0), (1, .int a1), (2, .int a2)] [0, 1, 2] rfl ?_
  unfold M_until
  refine g_aload_n h 0 dX10_until_0 rfl ?_
  refine m_geta h hinX10 30 (by decide) rfl tW_936 dX10_until_1 ?_
  refine g_iload_n h 1 dX10_until_4 rfl ?_
  refine m_iald h 30 rfl rfl 192 rfl dX10_until_5 ?_
  refine g_if_ne h 20 dX10_until_6 (by decide) ?_ ?_
  · refine g_iload_n h 2 dX10_until_20 rfl ?_
    refine g_aload_n h 0 dX10_until_21 rfl ?_
    refine m_geta h hinX10 30 (by decide) rfl tW_936 dX10_until_22 ?_
    refine g_iload_n h 1 dX10_until_25 rfl ?_
    refine m_iald h 30 rfl rfl 192 rfl dX10_until_26 ?_
    refine g_aload_n h 0 dX10_until_27 rfl ?_
    refine m_geta h hinX10 29 (by decide) rfl tW_935 dX10_until_28 ?_
    refine g_iload_n h 1 dX10_until_31 rfl ?_
    refine m_iald h 29 rfl rfl 192 rfl dX10_until_32 ?_
    refine g_imul h dX10_until_33 ?_
    refine g_callS0p h (MW_mv hE) hkw hKs [.int a2, .int ((s0.2 30 a1.toNatClampNeg) * (s0.2 29 a1.toNatClampNeg))] (c_X10_behind (MW_mv hE) hkw s0 a2 ((s0.2 30 a1.toNatClampNeg) * (s0.2 29 a1.toNatClampNeg))) yk_X10_behind tW_1133 ⟨(Nat.le_of_ble_eq_true rfl), (Nat.le_of_ble_eq_true rfl)⟩ rfl rfl rfl rfl (Nat.le_of_ble_eq_true rfl) dX10_until_34 ⟨Nat.zero_le _, Nat.zero_le _⟩ (fun r_34 => ?_)
    refine g_lv [] [] rfl ?_
    exact M_until_B37_w h hE hkw hKs _ _ hr
  · refine g_iload_n h 2 dX10_until_9 rfl ?_
    refine g_aload_n h 0 dX10_until_10 rfl ?_
    refine m_geta h hinX10 29 (by decide) rfl tW_935 dX10_until_11 ?_
    refine g_iload_n h 1 dX10_until_14 rfl ?_
    refine m_iald h 29 rfl rfl 192 rfl dX10_until_15 ?_
    refine g_iadd h dX10_until_16 ?_
    refine g_goto h 37 dX10_until_17 (by decide) ?_
    refine g_lv [] [] rfl ?_
    exact M_until_B37_w h hE hkw hKs _ _ hr
def rm_X10_bid : Room := { frames := 6, cells := 0, slots := 0, locals := 138 }
theorem yk_X10_bid : yOkV yX10_bid cX10_bid 8 (none) RX10 3 := ⟨tW_1288, tW_5, tW_1287, tP_55, by decide, by decide, by decide +kernel⟩
def M_bid_B155 (s0 : Ms) (l6 : Int32) (l7 : Int32) : Option (Ms) :=
  bnd (mSet s0 48 l6) (fun s_158 =>
  bnd (mSet s_158 49 l7) (fun s_164 =>
  some s_164))
set_option maxHeartbeats 4000000 in
set_option maxRecDepth 100000 in
theorem M_bid_B155_w {p : Program} {l : Launch} {e : Env} {s : State} {m : MethodId} {args : Array Value} {below : List Frame} {meth : Method} {c : Code} {A : Nat → Prop} {Ke : State → Prop} {D : va_G} {cI cZ : ClassId} {E : State → Heap → Prop} {h0 : Nat} {ps : Nat → Nat} (h : gOk p s m args meth c cX10_bid 8 RX10 tb) (hE : mEok E A) (hkw : gKw Ke) (hKs : Ke s) (s0 : Ms) (l6 : Int32) (l7 : Int32) (hr : meth.sig.returnType = none)  : gS p l e rm_X10_bid s m args below meth c 8 A (MW D cI cZ E A h0 ps) (fun X => MQ below (gPv (MW D cI cZ E A h0 ps) A X) args s rm_X10_bid.cells rm_X10_bid.slots A) 0 0 (M_bid_B155 s0 l6 l7) s0 155 [(0, .ref h0), (6, .int l6), (7, .int l7)] [] := by
  unfold M_bid_B155
  refine g_aload_n h 0 dX10_bid_155 rfl ?_
  refine g_iload h 1 dX10_bid_156 rfl ?_
  refine m_put h hE hinX10 48 (by decide) rfl rfl rfl tW_954 dX10_bid_158 ?_
  refine g_bnd (fun s_158 => ?_)
  refine g_aload_n h 0 dX10_bid_161 rfl ?_
  refine g_iload h 2 dX10_bid_162 rfl ?_
  refine m_put h hE hinX10 49 (by decide) rfl rfl rfl tW_955 dX10_bid_164 ?_
  refine g_bnd (fun s_164 => ?_)
  exact g_vret h (MW_mv hE) hr (Nat.le_refl _) (Nat.le_refl _) dX10_bid_167
def M_bid_B141 (s0 : Ms) (a2 : Int32) (l6 : Int32) (l7 : Int32) : Option (Ms) :=
  if s0.1 49 ≤ l7 then
    M_bid_B155 s0 l6 l7
  else
    bnd (mSet s0 51 a2) (fun s_152 =>
    M_bid_B155 s_152 l6 l7)
set_option maxHeartbeats 4000000 in
set_option maxRecDepth 100000 in
theorem M_bid_B141_w {p : Program} {l : Launch} {e : Env} {s : State} {m : MethodId} {args : Array Value} {below : List Frame} {meth : Method} {c : Code} {A : Nat → Prop} {Ke : State → Prop} {D : va_G} {cI cZ : ClassId} {E : State → Heap → Prop} {h0 : Nat} {ps : Nat → Nat} (h : gOk p s m args meth c cX10_bid 8 RX10 tb) (hE : mEok E A) (hkw : gKw Ke) (hKs : Ke s) (s0 : Ms) (a2 : Int32) (l6 : Int32) (l7 : Int32) (hr : meth.sig.returnType = none)  : gS p l e rm_X10_bid s m args below meth c 8 A (MW D cI cZ E A h0 ps) (fun X => MQ below (gPv (MW D cI cZ E A h0 ps) A X) args s rm_X10_bid.cells rm_X10_bid.slots A) 0 0 (M_bid_B141 s0 a2 l6 l7) s0 141 [(0, .ref h0), (2, .int a2), (6, .int l6), (7, .int l7)] [] := by
  unfold M_bid_B141
  refine g_iload h 3 dX10_bid_141 rfl ?_
  refine g_aload_n h 0 dX10_bid_143 rfl ?_
  refine m_get h hinX10 49 (by decide) rfl tW_955 dX10_bid_144 ?_
  refine g_icmp_ge h 155 dX10_bid_147 (by decide) ?_ ?_
  · refine g_lv [(0, .ref h0), (6, .int l6), (7, .int l7)] [0, 2, 3] rfl ?_
    exact M_bid_B155_w h hE hkw hKs _ _ _ hr
  · refine g_aload_n h 0 dX10_bid_150 rfl ?_
    refine g_iload_n h 1 dX10_bid_151 rfl ?_
    refine m_put h hE hinX10 51 (by decide) rfl rfl rfl tW_957 dX10_bid_152 ?_
    refine g_bnd (fun s_152 => ?_)
    refine g_lv [(0, .ref h0), (6, .int l6), (7, .int l7)] [0, 2, 3] rfl ?_
    exact M_bid_B155_w h hE hkw hKs _ _ _ hr
def M_bid_B99 (s0 : Ms) (a2 : Int32) (l6 : Int32) (l7 : Int32) : Option (Ms) :=
  if l6 ≤ l7 then
    if l6 ≤ s0.1 48 then
      M_bid_B141 s0 a2 l6 l7
    else
      bnd (mSet s0 50 a2) (fun s_138 =>
      M_bid_B141 s_138 a2 l6 l7)
  else
    if okI (s0.1 52) 24 = true then
    bnd (mSto s0 53 (s0.1 52).toNatClampNeg a2) (fun s_115 =>
    bnd (mSet s_115 52 ((s_115.1 52) + (1 : Int32))) (fun s_123 =>
    some s_123))
    else none
set_option maxHeartbeats 4000000 in
set_option maxRecDepth 100000 in
theorem M_bid_B99_w {p : Program} {l : Launch} {e : Env} {s : State} {m : MethodId} {args : Array Value} {below : List Frame} {meth : Method} {c : Code} {A : Nat → Prop} {Ke : State → Prop} {D : va_G} {cI cZ : ClassId} {E : State → Heap → Prop} {h0 : Nat} {ps : Nat → Nat} (h : gOk p s m args meth c cX10_bid 8 RX10 tb) (hE : mEok E A) (hkw : gKw Ke) (hKs : Ke s) (s0 : Ms) (a2 : Int32) (l6 : Int32) (l7 : Int32) (hr : meth.sig.returnType = none)  : gS p l e rm_X10_bid s m args below meth c 8 A (MW D cI cZ E A h0 ps) (fun X => MQ below (gPv (MW D cI cZ E A h0 ps) A X) args s rm_X10_bid.cells rm_X10_bid.slots A) 0 0 (M_bid_B99 s0 a2 l6 l7) s0 99 [(0, .ref h0), (2, .int a2), (6, .int l6), (7, .int l7)] [] := by
  unfold M_bid_B99
  refine g_iload h 2 dX10_bid_99 rfl ?_
  refine g_iload h 3 dX10_bid_101 rfl ?_
  refine g_icmp_le h 127 dX10_bid_103 (by decide) ?_ ?_
  · refine g_iload h 2 dX10_bid_127 rfl ?_
    refine g_aload_n h 0 dX10_bid_129 rfl ?_
    refine m_get h hinX10 48 (by decide) rfl tW_954 dX10_bid_130 ?_
    refine g_icmp_le h 141 dX10_bid_133 (by decide) ?_ ?_
    · exact M_bid_B141_w h hE hkw hKs _ _ _ _ hr
    · refine g_aload_n h 0 dX10_bid_136 rfl ?_
      refine g_iload_n h 1 dX10_bid_137 rfl ?_
      refine m_put h hE hinX10 50 (by decide) rfl rfl rfl tW_956 dX10_bid_138 ?_
      refine g_bnd (fun s_138 => ?_)
      exact M_bid_B141_w h hE hkw hKs _ _ _ _ hr
  · refine g_aload_n h 0 dX10_bid_106 rfl ?_
    refine m_geta h hinX10 53 (by decide) rfl tW_959 dX10_bid_107 ?_
    refine g_aload_n h 0 dX10_bid_110 rfl ?_
    refine m_get h hinX10 52 (by decide) rfl tW_958 dX10_bid_111 ?_
    refine g_iload_n h 1 dX10_bid_114 rfl ?_
    refine m_iast h hE 53 rfl rfl 24 rfl dX10_bid_115 ?_
    refine g_bnd (fun s_115 => ?_)
    refine g_aload_n h 0 dX10_bid_116 rfl ?_
    refine g_dup h dX10_bid_117 rfl ?_
    refine m_get h hinX10 52 (by decide) rfl tW_958 dX10_bid_118 ?_
    refine g_iconst (v := 1) h dX10_bid_121 (by decide) ?_
    refine g_iadd h dX10_bid_122 ?_
    refine m_put h hE hinX10 52 (by decide) rfl rfl rfl tW_958 dX10_bid_123 ?_
    refine g_bnd (fun s_123 => ?_)
    exact g_vret h (MW_mv hE) hr (Nat.le_refl _) (Nat.le_refl _) dX10_bid_126
def M_bid_B69 (s0 : Ms) (t0 : Int32) (t1 : Int32) (a2 : Int32) (l7 : Int32) : Option (Ms) :=
  bnd ((if t1 < t0 then t0 else t1)) (fun v6_72 =>
  M_bid_B99 s0 a2 v6_72 l7)
set_option maxHeartbeats 4000000 in
set_option maxRecDepth 100000 in
theorem M_bid_B69_w {p : Program} {l : Launch} {e : Env} {s : State} {m : MethodId} {args : Array Value} {below : List Frame} {meth : Method} {c : Code} {A : Nat → Prop} {Ke : State → Prop} {D : va_G} {cI cZ : ClassId} {E : State → Heap → Prop} {h0 : Nat} {ps : Nat → Nat} (h : gOk p s m args meth c cX10_bid 8 RX10 tb) (hE : mEok E A) (hkw : gKw Ke) (hKs : Ke s) (s0 : Ms) (t0 : Int32) (t1 : Int32) (a2 : Int32) (l7 : Int32) (hr : meth.sig.returnType = none)  : gS p l e rm_X10_bid s m args below meth c 8 A (MW D cI cZ E A h0 ps) (fun X => MQ below (gPv (MW D cI cZ E A h0 ps) A X) args s rm_X10_bid.cells rm_X10_bid.slots A) 0 0 (M_bid_B69 s0 t0 t1 a2 l7) s0 69 [(0, .ref h0), (2, .int a2), (7, .int l7)] [.int t0, .int t1] := by
  unfold M_bid_B69
  refine g_mmax h tW_1284 tW_335 tW_11 tW_336 (Nat.le_of_ble_eq_true rfl) (Nat.le_of_ble_eq_true rfl) (Nat.zero_le _) (Nat.zero_le _) dX10_bid_69 ?_
  refine g_bndi (fun v6_72 => ?_)
  refine g_istore h [(6, .int v6_72), (0, .ref h0), (2, .int a2), (7, .int l7)] dX10_bid_72 (by decide) rfl ?_
  refine g_goto h 99 dX10_bid_74 (by decide) ?_
  refine g_lv [(0, .ref h0), (2, .int a2), (6, .int v6_72), (7, .int l7)] [1, 2, 0, 3] rfl ?_
  exact M_bid_B99_w h hE hkw hKs _ _ _ _ hr
def M_bid (s0 : Ms) (a1 : Int32) (a2 : Int32) (a3 : Int32) : Option (Ms) :=
  bnd (((24 : Int32) * a1) + a2) (fun v4_6 =>
  if okI v4_6 192 = true then
  if okI (((4 : Int32) * a3) + (s0.2 31 v4_6.toNatClampNeg)) 120 = true then
  bnd (s0.2 11 (((4 : Int32) * a3) + (s0.2 31 v4_6.toNatClampNeg)).toNatClampNeg) (fun v5_24 =>
  bnd (s0.1 48) (fun v6_30 =>
  bnd (s0.1 49) (fun v7_36 =>
  if okI v4_6 192 = true then
  if s0.2 26 v4_6.toNatClampNeg = 0 then
    if v5_24 = (-1 : Int32) then
      M_bid_B69 s0 (999999 : Int32) v6_30 a2 v7_36
    else
      (M_until s0 v4_6 v5_24).bind (fun r_66 =>
      M_bid_B69 s0 r_66 v6_30 a2 v7_36)
  else
    if v5_24 = (-1 : Int32) then
      some s0
    else
      (M_until s0 v4_6 v5_24).bind (fun r_91 =>
      bnd ((if r_91 < v7_36 then r_91 else v7_36)) (fun v7_97 =>
      M_bid_B99 s0 a2 v6_30 v7_97))
  else none)))
  else none
  else none)
set_option maxHeartbeats 4000000 in
set_option maxRecDepth 100000 in
theorem c_X10_bid {l : Launch} {A : Nat → Prop} {Ke : State → Prop} {D : va_G} {cI cZ : ClassId} {E : State → Heap → Prop} {h0 : Nat} {ps : Nat → Nat} (hE : mEok E A) (hkw : gKw Ke) (s0 : Ms) (a1 : Int32) (a2 : Int32) (a3 : Int32) : gCv l yX10_bid cX10_bid 8 (none) rm_X10_bid Ke (MW D cI cZ E A h0 ps) A [.ref h0, .int a1, .int a2, .int a3] s0 (M_bid s0 a1 a2 a3) := by
  refine g_metv (by decide) (by simp [lg_sl, Value.category]) ?_
  intro p e s m below meth c h hr hKs
  refine g_lv [(0, .ref h0), (1, .int a1), (2, .int a2), (3, .int a3)] [0, 1, 2, 3] rfl ?_
  unfold M_bid
  refine g_bipush (v := 24) h dX10_bid_0 (by decide) ?_
  refine g_iload_n h 1 dX10_bid_2 rfl ?_
  refine g_imul h dX10_bid_3 ?_
  refine g_iload_n h 2 dX10_bid_4 rfl ?_
  refine g_iadd h dX10_bid_5 ?_
  refine g_bndi (fun v4_6 => ?_)
  refine g_istore h [(4, .int v4_6), (0, .ref h0), (1, .int a1), (2, .int a2), (3, .int a3)] dX10_bid_6 (by decide) rfl ?_
  refine g_aload_n h 1 dX10_bid_8 rfl ?_
  refine m_geta h hinX10 11 (by decide) rfl tW_917 dX10_bid_9 ?_
  refine g_iconst (v := 4) h dX10_bid_12 (by decide) ?_
  refine g_iload_n h 4 dX10_bid_13 rfl ?_
  refine g_imul h dX10_bid_14 ?_
  refine g_aload_n h 1 dX10_bid_15 rfl ?_
  refine m_geta h hinX10 31 (by decide) rfl tW_937 dX10_bid_16 ?_
  refine g_iload h 0 dX10_bid_19 rfl ?_
  refine m_iald h 31 rfl rfl 192 rfl dX10_bid_21 ?_
  refine g_iadd h dX10_bid_22 ?_
  refine m_iald h 11 rfl rfl 120 rfl dX10_bid_23 ?_
  refine g_bndi (fun v5_24 => ?_)
  refine g_istore h [(5, .int v5_24), (4, .int v4_6), (0, .ref h0), (1, .int a1), (2, .int a2), (3, .int a3)] dX10_bid_24 (by decide) rfl ?_
  refine g_aload_n h 2 dX10_bid_26 rfl ?_
  refine m_get h hinX10 48 (by decide) rfl tW_954 dX10_bid_27 ?_
  refine g_bndi (fun v6_30 => ?_)
  refine g_istore h [(6, .int v6_30), (5, .int v5_24), (4, .int v4_6), (0, .ref h0), (1, .int a1), (2, .int a2), (3, .int a3)] dX10_bid_30 (by decide) rfl ?_
  refine g_aload_n h 3 dX10_bid_32 rfl ?_
  refine m_get h hinX10 49 (by decide) rfl tW_955 dX10_bid_33 ?_
  refine g_bndi (fun v7_36 => ?_)
  refine g_istore h [(7, .int v7_36), (6, .int v6_30), (5, .int v5_24), (4, .int v4_6), (0, .ref h0), (1, .int a1), (2, .int a2), (3, .int a3)] dX10_bid_36 (by decide) rfl ?_
  refine g_aload_n h 4 dX10_bid_38 rfl ?_
  refine m_geta h hinX10 26 (by decide) rfl tW_932 dX10_bid_39 ?_
  refine g_iload h 3 dX10_bid_42 rfl ?_
  refine m_iald h 26 rfl rfl 192 rfl dX10_bid_44 ?_
  refine g_if_ne h 77 dX10_bid_45 (by decide) ?_ ?_
  · refine g_iload h 2 dX10_bid_77 rfl ?_
    refine g_iconst (v := -1) h dX10_bid_79 (by decide) ?_
    refine g_icmp_ne h 84 dX10_bid_80 (by decide) ?_ ?_
    · refine g_iload h 0 dX10_bid_84 rfl ?_
      refine g_aload_n h 4 dX10_bid_86 rfl ?_
      refine g_iload h 3 dX10_bid_87 rfl ?_
      refine g_iload h 2 dX10_bid_89 rfl ?_
      refine g_callV0p h (MW_mv hE) hkw hKs [.int v4_6, .int v5_24] (c_X10_until hE hkw s0 v4_6 v5_24) yk_X10_until tW_1289 ⟨(Nat.le_of_ble_eq_true rfl), (Nat.le_of_ble_eq_true rfl)⟩ MW_recv rfl rfl rfl rfl (Nat.le_of_ble_eq_true rfl) dX10_bid_91 ⟨Nat.zero_le _, Nat.zero_le _⟩ (fun r_91 => ?_)
      refine g_mmin h tW_1137 tW_353 tW_11 tW_354 (Nat.le_of_ble_eq_true rfl) (Nat.le_of_ble_eq_true rfl) (Nat.zero_le _) (Nat.zero_le _) dX10_bid_94 ?_
      refine g_bndi (fun v7_97 => ?_)
      refine g_istore h [(7, .int v7_97), (6, .int v6_30), (5, .int v5_24), (4, .int v4_6), (0, .ref h0), (1, .int a1), (2, .int a2), (3, .int a3)] dX10_bid_97 (by decide) rfl ?_
      refine g_lv [(0, .ref h0), (2, .int a2), (6, .int v6_30), (7, .int v7_97)] [4, 6, 1, 0] rfl ?_
      exact M_bid_B99_w h hE hkw hKs _ _ _ _ hr
    · exact g_vret h (MW_mv hE) hr (Nat.le_refl _) (Nat.le_refl _) dX10_bid_83
  · refine g_iload h 1 dX10_bid_48 rfl ?_
    refine g_iload h 2 dX10_bid_50 rfl ?_
    refine g_iconst (v := -1) h dX10_bid_52 (by decide) ?_
    refine g_icmp_ne h 61 dX10_bid_53 (by decide) ?_ ?_
    · refine g_aload_n h 4 dX10_bid_61 rfl ?_
      refine g_iload h 3 dX10_bid_62 rfl ?_
      refine g_iload h 2 dX10_bid_64 rfl ?_
      refine g_callV0p h (MW_mv hE) hkw hKs [.int v4_6, .int v5_24] (c_X10_until hE hkw s0 v4_6 v5_24) yk_X10_until tW_1289 ⟨(Nat.le_of_ble_eq_true rfl), (Nat.le_of_ble_eq_true rfl)⟩ MW_recv rfl rfl rfl rfl (Nat.le_of_ble_eq_true rfl) dX10_bid_66 ⟨Nat.zero_le _, Nat.zero_le _⟩ (fun r_66 => ?_)
      refine g_lv [(0, .ref h0), (2, .int a2), (7, .int v7_36)] [4, 6, 0] rfl ?_
      exact M_bid_B69_w h hE hkw hKs _ _ _ _ _ hr
    · refine g_ldc (v := 999999) h tW_1136 dX10_bid_56 ?_
      refine g_goto h 69 dX10_bid_58 (by decide) ?_
      refine g_lv [(0, .ref h0), (2, .int a2), (7, .int v7_36)] [4, 6, 0] rfl ?_
      exact M_bid_B69_w h hE hkw hKs _ _ _ _ _ hr
def rm_X10_tell : Room := { frames := 7, cells := 0, slots := 0, locals := 165 }
theorem yk_X10_tell : yOkV yX10_tell cX10_tell 8 (none) RX10 3 := ⟨tW_1283, tW_5, tW_1282, tP_54, by decide, by decide, by decide +kernel⟩
def M_tell_B95 {Rt : Type} (s0 : Ms) (rec : Int32 → Int32 → Option Rt) (k101 : Int32 → Option Rt) (a1 : Int32) (a2 : Int32) (a3 : Int32) (l4 : Int32) (l5 : Int32) (l6 : Int32) : Option (Rt) :=
  rec l5 (l6 + 1)
set_option maxHeartbeats 4000000 in
set_option maxRecDepth 100000 in
theorem M_tell_B95_w {p : Program} {l : Launch} {e : Env} {s : State} {m : MethodId} {args : Array Value} {below : List Frame} {meth : Method} {c : Code} {A : Nat → Prop} {Ke : State → Prop} {D : va_G} {cI cZ : ClassId} {E : State → Heap → Prop} {h0 : Nat} {ps : Nat → Nat} (h : gOk p s m args meth c cX10_tell 8 RX10 tb) (hE : mEok E A) (hkw : gKw Ke) (hKs : Ke s) {Rt : Type} {QX : Rt → State → Prop} {rec : Int32 → Int32 → Option Rt} {k101 : Int32 → Option Rt} (s0 : Ms) (a1 : Int32) (a2 : Int32) (a3 : Int32) (l4 : Int32) (l5 : Int32) (l6 : Int32) (hrec : ∀ (l5 : Int32) (l6 : Int32), gS p l e rm_X10_tell s m args below meth c 8 A (MW D cI cZ E A h0 ps) QX 0 0 (rec l5 l6) s0 48 [(0, .ref h0), (1, .int a1), (2, .int a2), (3, .int a3), (4, .int l4), (5, .int l5), (6, .int l6)] []) (hk101 : ∀ (l5 : Int32), gS p l e rm_X10_tell s m args below meth c 8 A (MW D cI cZ E A h0 ps) QX 0 0 (k101 l5) s0 101 [(0, .ref h0), (1, .int a1), (2, .int a2), (3, .int a3), (5, .int l5)] []) : gS p l e rm_X10_tell s m args below meth c 8 A (MW D cI cZ E A h0 ps) QX 0 0 (M_tell_B95 s0 rec k101 a1 a2 a3 l4 l5 l6) s0 95 [(0, .ref h0), (1, .int a1), (2, .int a2), (3, .int a3), (4, .int l4), (5, .int l5), (6, .int l6)] [] := by
  unfold M_tell_B95
  refine g_iinc (v := l6 + 1) (i := 6) h [(6, .int (l6 + 1)), (0, .ref h0), (1, .int a1), (2, .int a2), (3, .int a3), (4, .int l4), (5, .int l5)] dX10_tell_95 rfl rfl (by decide) rfl ?_
  refine g_goto h 48 dX10_tell_98 (by decide) ?_
  refine g_lv [(0, .ref h0), (1, .int a1), (2, .int a2), (3, .int a3), (4, .int l4), (5, .int l5), (6, .int (l6 + 1))] [1, 2, 3, 4, 5, 6, 0] rfl ?_
  exact hrec _ _
def M_tell_L48 {Rt : Type} (s0 : Ms) (a1 : Int32) (a2 : Int32) (a3 : Int32) (l4 : Int32) (k101 : Int32 → Option Rt) : Nat → Int32 → Int32 → Option Rt
  | 0, _, _ => none
  | F + 1, l5, l6 =>
  if okI a3 8 = true then
    if s0.2 25 a3.toNatClampNeg ≤ l6 then
      k101 l5
    else
      if okI (((24 : Int32) * a3) + l6) 192 = true then
      if l4 ≤ s0.2 33 (((24 : Int32) * a3) + l6).toNatClampNeg then
        M_tell_B95 s0 (M_tell_L48 s0 a1 a2 a3 l4 k101 F) k101 a1 a2 a3 l4 l5 l6
      else
        if okI (((24 : Int32) * a3) + l6) 192 = true then
        bnd ((if l5 < s0.2 33 (((24 : Int32) * a3) + l6).toNatClampNeg then s0.2 33 (((24 : Int32) * a3) + l6).toNatClampNeg else l5)) (fun v5_93 =>
        M_tell_B95 s0 (M_tell_L48 s0 a1 a2 a3 l4 k101 F) k101 a1 a2 a3 l4 v5_93 l6)
        else none
      else none
    else none
set_option maxHeartbeats 4000000 in
set_option maxRecDepth 100000 in
theorem M_tell_L48_w {p : Program} {l : Launch} {e : Env} {s : State} {m : MethodId} {args : Array Value} {below : List Frame} {meth : Method} {c : Code} {A : Nat → Prop} {Ke : State → Prop} {D : va_G} {cI cZ : ClassId} {E : State → Heap → Prop} {h0 : Nat} {ps : Nat → Nat} (h : gOk p s m args meth c cX10_tell 8 RX10 tb) (hE : mEok E A) (hkw : gKw Ke) (hKs : Ke s) {Rt : Type} {QX : Rt → State → Prop} (s0 : Ms) (a1 : Int32) (a2 : Int32) (a3 : Int32) (l4 : Int32) {k101 : Int32 → Option Rt} (hk101 : ∀ (l5 : Int32), gS p l e rm_X10_tell s m args below meth c 8 A (MW D cI cZ E A h0 ps) QX 0 0 (k101 l5) s0 101 [(0, .ref h0), (1, .int a1), (2, .int a2), (3, .int a3), (5, .int l5)] []) : ∀ (F : Nat) (l5 : Int32) (l6 : Int32), gS p l e rm_X10_tell s m args below meth c 8 A (MW D cI cZ E A h0 ps) QX 0 0 (M_tell_L48 s0 a1 a2 a3 l4 k101 F l5 l6) s0 48 [(0, .ref h0), (1, .int a1), (2, .int a2), (3, .int a3), (4, .int l4), (5, .int l5), (6, .int l6)] [] := by
  intro F
  induction F with
  | zero =>
    intro l5 l6
    unfold M_tell_L48
    exact g_none
  | succ F ih =>
    intro l5 l6
    unfold M_tell_L48
    refine g_iload h 6 dX10_tell_48 rfl ?_
    refine g_aload_n h 0 dX10_tell_50 rfl ?_
    refine m_geta h hinX10 25 (by decide) rfl tW_931 dX10_tell_51 ?_
    refine g_iload_n h 3 dX10_tell_54 rfl ?_
    refine m_iald h 25 rfl rfl 8 rfl dX10_tell_55 ?_
    refine g_icmp_ge h 101 dX10_tell_56 (by decide) ?_ ?_
    · refine g_lv [(0, .ref h0), (1, .int a1), (2, .int a2), (3, .int a3), (5, .int l5)] [0, 1, 2, 3, 5] rfl ?_
      exact hk101 _
    · refine g_aload_n h 0 dX10_tell_59 rfl ?_
      refine m_geta h hinX10 33 (by decide) rfl tW_939 dX10_tell_60 ?_
      refine g_bipush (v := 24) h dX10_tell_63 (by decide) ?_
      refine g_iload_n h 3 dX10_tell_65 rfl ?_
      refine g_imul h dX10_tell_66 ?_
      refine g_iload h 6 dX10_tell_67 rfl ?_
      refine g_iadd h dX10_tell_69 ?_
      refine m_iald h 33 rfl rfl 192 rfl dX10_tell_70 ?_
      refine g_iload h 4 dX10_tell_71 rfl ?_
      refine g_icmp_ge h 95 dX10_tell_73 (by decide) ?_ ?_
      · exact M_tell_B95_w h hE hkw hKs _ _ _ _ _ _ _ (ih) hk101
      · refine g_iload h 5 dX10_tell_76 rfl ?_
        refine g_aload_n h 0 dX10_tell_78 rfl ?_
        refine m_geta h hinX10 33 (by decide) rfl tW_939 dX10_tell_79 ?_
        refine g_bipush (v := 24) h dX10_tell_82 (by decide) ?_
        refine g_iload_n h 3 dX10_tell_84 rfl ?_
        refine g_imul h dX10_tell_85 ?_
        refine g_iload h 6 dX10_tell_86 rfl ?_
        refine g_iadd h dX10_tell_88 ?_
        refine m_iald h 33 rfl rfl 192 rfl dX10_tell_89 ?_
        refine g_mmax h tW_1284 tW_335 tW_11 tW_336 (Nat.le_of_ble_eq_true rfl) (Nat.le_of_ble_eq_true rfl) (Nat.zero_le _) (Nat.zero_le _) dX10_tell_90 ?_
        refine g_bndi (fun v5_93 => ?_)
        refine g_istore h [(5, .int v5_93), (0, .ref h0), (1, .int a1), (2, .int a2), (3, .int a3), (4, .int l4), (6, .int l6)] dX10_tell_93 (by decide) rfl ?_
        refine g_lv [(0, .ref h0), (1, .int a1), (2, .int a2), (3, .int a3), (4, .int l4), (5, .int v5_93), (6, .int l6)] [1, 2, 3, 4, 5, 0, 6] rfl ?_
        exact M_tell_B95_w h hE hkw hKs _ _ _ _ _ _ _ (ih) hk101
def M_tell_B173 {Rt : Type} (s0 : Ms) (rec : Ms → Int32 → Option Rt) (k179 : Ms → Option Rt) (a1 : Int32) (a2 : Int32) (a3 : Int32) (l5 : Int32) (l6 : Int32) : Option (Rt) :=
  rec s0 (l6 + 1)
set_option maxHeartbeats 4000000 in
set_option maxRecDepth 100000 in
theorem M_tell_B173_w {p : Program} {l : Launch} {e : Env} {s : State} {m : MethodId} {args : Array Value} {below : List Frame} {meth : Method} {c : Code} {A : Nat → Prop} {Ke : State → Prop} {D : va_G} {cI cZ : ClassId} {E : State → Heap → Prop} {h0 : Nat} {ps : Nat → Nat} (h : gOk p s m args meth c cX10_tell 8 RX10 tb) (hE : mEok E A) (hkw : gKw Ke) (hKs : Ke s) {Rt : Type} {QX : Rt → State → Prop} {rec : Ms → Int32 → Option Rt} {k179 : Ms → Option Rt} (s0 : Ms) (a1 : Int32) (a2 : Int32) (a3 : Int32) (l5 : Int32) (l6 : Int32) (hrec : ∀ (sx : Ms) (l6 : Int32), gS p l e rm_X10_tell s m args below meth c 8 A (MW D cI cZ E A h0 ps) QX 0 0 (rec sx l6) sx 111 [(0, .ref h0), (1, .int a1), (2, .int a2), (3, .int a3), (5, .int l5), (6, .int l6)] []) (hk179 : ∀ (sx : Ms), gS p l e rm_X10_tell s m args below meth c 8 A (MW D cI cZ E A h0 ps) QX 0 0 (k179 sx) sx 179 [(0, .ref h0), (1, .int a1), (2, .int a2), (3, .int a3), (5, .int l5)] []) : gS p l e rm_X10_tell s m args below meth c 8 A (MW D cI cZ E A h0 ps) QX 0 0 (M_tell_B173 s0 rec k179 a1 a2 a3 l5 l6) s0 173 [(0, .ref h0), (1, .int a1), (2, .int a2), (3, .int a3), (5, .int l5), (6, .int l6)] [] := by
  unfold M_tell_B173
  refine g_iinc (v := l6 + 1) (i := 5) h [(6, .int (l6 + 1)), (0, .ref h0), (1, .int a1), (2, .int a2), (3, .int a3), (5, .int l5)] dX10_tell_173 rfl rfl (by decide) rfl ?_
  refine g_goto h 111 dX10_tell_176 (by decide) ?_
  refine g_lv [(0, .ref h0), (1, .int a1), (2, .int a2), (3, .int a3), (5, .int l5), (6, .int (l6 + 1))] [1, 2, 3, 4, 5, 0] rfl ?_
  exact hrec _ _
def M_tell_L111 {Rt : Type} (a1 : Int32) (a2 : Int32) (a3 : Int32) (l5 : Int32) (k179 : Ms → Option Rt) : Nat → Ms → Int32 → Option Rt
  | 0, _, _ => none
  | F + 1, s0, l6 =>
  if okI a3 8 = true then
    if s0.2 25 a3.toNatClampNeg ≤ l6 then
      k179 s0
    else
      bnd (((24 : Int32) * a3) + l6) (fun v7_129 =>
      if okI v7_129 192 = true then
      if s0.2 33 v7_129.toNatClampNeg = l5 then
        if okI v7_129 192 = true then
        if s0.2 26 v7_129.toNatClampNeg = (2 : Int32) then
          M_tell_B173 s0 (M_tell_L111 a1 a2 a3 l5 k179 F) k179 a1 a2 a3 l5 l6
        else
          (M_isFor s0 v7_129 a1 a2).bind (fun r_159 =>
          if r_159 = 0 then
            M_tell_B173 s0 (M_tell_L111 a1 a2 a3 l5 k179 F) k179 a1 a2 a3 l5 l6
          else
            (M_bid s0 a3 l6 a1).bind (fun s_170 =>
            M_tell_B173 s_170 (M_tell_L111 a1 a2 a3 l5 k179 F) k179 a1 a2 a3 l5 l6))
        else none
      else
        M_tell_B173 s0 (M_tell_L111 a1 a2 a3 l5 k179 F) k179 a1 a2 a3 l5 l6
      else none)
    else none
set_option maxHeartbeats 4000000 in
set_option maxRecDepth 100000 in
theorem M_tell_L111_w {p : Program} {l : Launch} {e : Env} {s : State} {m : MethodId} {args : Array Value} {below : List Frame} {meth : Method} {c : Code} {A : Nat → Prop} {Ke : State → Prop} {D : va_G} {cI cZ : ClassId} {E : State → Heap → Prop} {h0 : Nat} {ps : Nat → Nat} (h : gOk p s m args meth c cX10_tell 8 RX10 tb) (hE : mEok E A) (hkw : gKw Ke) (hKs : Ke s) {Rt : Type} {QX : Rt → State → Prop} (a1 : Int32) (a2 : Int32) (a3 : Int32) (l5 : Int32) {k179 : Ms → Option Rt} (hk179 : ∀ (sx : Ms), gS p l e rm_X10_tell s m args below meth c 8 A (MW D cI cZ E A h0 ps) QX 0 0 (k179 sx) sx 179 [(0, .ref h0), (1, .int a1), (2, .int a2), (3, .int a3), (5, .int l5)] []) : ∀ (F : Nat) (s0 : Ms) (l6 : Int32), gS p l e rm_X10_tell s m args below meth c 8 A (MW D cI cZ E A h0 ps) QX 0 0 (M_tell_L111 a1 a2 a3 l5 k179 F s0 l6) s0 111 [(0, .ref h0), (1, .int a1), (2, .int a2), (3, .int a3), (5, .int l5), (6, .int l6)] [] := by
  intro F
  induction F with
  | zero =>
    intro s0 l6
    unfold M_tell_L111
    exact g_none
  | succ F ih =>
    intro s0 l6
    unfold M_tell_L111
    refine g_iload h 5 dX10_tell_111 rfl ?_
    refine g_aload_n h 0 dX10_tell_113 rfl ?_
    refine m_geta h hinX10 25 (by decide) rfl tW_931 dX10_tell_114 ?_
    refine g_iload_n h 3 dX10_tell_117 rfl ?_
    refine m_iald h 25 rfl rfl 8 rfl dX10_tell_118 ?_
    refine g_icmp_ge h 179 dX10_tell_119 (by decide) ?_ ?_
    · refine g_lv [(0, .ref h0), (1, .int a1), (2, .int a2), (3, .int a3), (5, .int l5)] [0, 1, 2, 3, 4] rfl ?_
      exact hk179 _
    · refine g_bipush (v := 24) h dX10_tell_122 (by decide) ?_
      refine g_iload_n h 3 dX10_tell_124 rfl ?_
      refine g_imul h dX10_tell_125 ?_
      refine g_iload h 5 dX10_tell_126 rfl ?_
      refine g_iadd h dX10_tell_128 ?_
      refine g_bndi (fun v7_129 => ?_)
      refine g_istore h [(7, .int v7_129), (0, .ref h0), (1, .int a1), (2, .int a2), (3, .int a3), (5, .int l5), (6, .int l6)] dX10_tell_129 (by decide) rfl ?_
      refine g_aload_n h 1 dX10_tell_131 rfl ?_
      refine m_geta h hinX10 33 (by decide) rfl tW_939 dX10_tell_132 ?_
      refine g_iload h 0 dX10_tell_135 rfl ?_
      refine m_iald h 33 rfl rfl 192 rfl dX10_tell_137 ?_
      refine g_iload h 5 dX10_tell_138 rfl ?_
      refine g_icmp_ne h 173 dX10_tell_140 (by decide) ?_ ?_
      · refine g_lv [(0, .ref h0), (1, .int a1), (2, .int a2), (3, .int a3), (5, .int l5), (6, .int l6)] [1, 2, 3, 4, 5, 6] rfl ?_
        exact M_tell_B173_w h hE hkw hKs _ _ _ _ _ _ (ih) hk179
      · refine g_aload_n h 1 dX10_tell_143 rfl ?_
        refine m_geta h hinX10 26 (by decide) rfl tW_932 dX10_tell_144 ?_
        refine g_iload h 0 dX10_tell_147 rfl ?_
        refine m_iald h 26 rfl rfl 192 rfl dX10_tell_149 ?_
        refine g_iconst (v := 2) h dX10_tell_150 (by decide) ?_
        refine g_icmp_eq h 173 dX10_tell_151 (by decide) ?_ ?_
        · refine g_lv [(0, .ref h0), (1, .int a1), (2, .int a2), (3, .int a3), (5, .int l5), (6, .int l6)] [1, 2, 3, 4, 5, 6] rfl ?_
          exact M_tell_B173_w h hE hkw hKs _ _ _ _ _ _ (ih) hk179
        · refine g_aload_n h 1 dX10_tell_154 rfl ?_
          refine g_iload h 0 dX10_tell_155 rfl ?_
          refine g_iload_n h 2 dX10_tell_157 rfl ?_
          refine g_iload_n h 3 dX10_tell_158 rfl ?_
          refine g_callV0p h (MW_mv hE) hkw hKs [.int v7_129, .int a1, .int a2] (c_X10_isFor hE hkw s0 v7_129 a1 a2) yk_X10_isFor tW_1248 ⟨(Nat.le_of_ble_eq_true rfl), (Nat.le_of_ble_eq_true rfl)⟩ MW_recv rfl rfl rfl rfl (Nat.le_of_ble_eq_true rfl) dX10_tell_159 ⟨Nat.zero_le _, Nat.zero_le _⟩ (fun r_159 => ?_)
          refine g_if_eq h 173 dX10_tell_162 (by decide) ?_ ?_
          · refine g_lv [(0, .ref h0), (1, .int a1), (2, .int a2), (3, .int a3), (5, .int l5), (6, .int l6)] [1, 2, 3, 4, 5, 6] rfl ?_
            exact M_tell_B173_w h hE hkw hKs _ _ _ _ _ _ (ih) hk179
          · refine g_aload_n h 1 dX10_tell_165 rfl ?_
            refine g_iload_n h 4 dX10_tell_166 rfl ?_
            refine g_iload h 6 dX10_tell_167 rfl ?_
            refine g_iload_n h 2 dX10_tell_169 rfl ?_
            refine g_callV0v h (MW_mv hE) hkw hKs [.int a3, .int l6, .int a1] (c_X10_bid hE hkw s0 a3 l6 a1) yk_X10_bid tW_1285 ⟨(Nat.le_of_ble_eq_true rfl), (Nat.le_of_ble_eq_true rfl)⟩ MW_recv rfl rfl rfl rfl (Nat.le_of_ble_eq_true rfl) dX10_tell_170 ⟨Nat.zero_le _, Nat.zero_le _⟩ (fun s_170 => ?_)
            refine g_lv [(0, .ref h0), (1, .int a1), (2, .int a2), (3, .int a3), (5, .int l5), (6, .int l6)] [1, 2, 3, 4, 5, 6] rfl ?_
            exact M_tell_B173_w h hE hkw hKs _ _ _ _ _ _ (ih) hk179
def M_tell_L37 {Rt : Type} (a1 : Int32) (a2 : Int32) (a3 : Int32) (k107 : Ms → Option Rt) (k186 : Ms → Option Rt) : Nat → Ms → Int32 → Option Rt
  | 0, _, _ => none
  | F + 1, s0, l4 =>
  if l4 ≤ 0 then
      k186 s0
    else
      M_tell_L48 s0 a1 a2 a3 l4 (fun v5_101 => if v5_101 = (-1 : Int32) then
          k107 s0
        else
          M_tell_L111 a1 a2 a3 v5_101 (fun s_179 => M_tell_L37 a1 a2 a3 k107 k186 F s_179 v5_101) gF s0 (0 : Int32)) gF (-1 : Int32) (0 : Int32)
set_option maxHeartbeats 4000000 in
set_option maxRecDepth 100000 in
theorem M_tell_L37_w {p : Program} {l : Launch} {e : Env} {s : State} {m : MethodId} {args : Array Value} {below : List Frame} {meth : Method} {c : Code} {A : Nat → Prop} {Ke : State → Prop} {D : va_G} {cI cZ : ClassId} {E : State → Heap → Prop} {h0 : Nat} {ps : Nat → Nat} (h : gOk p s m args meth c cX10_tell 8 RX10 tb) (hE : mEok E A) (hkw : gKw Ke) (hKs : Ke s) {Rt : Type} {QX : Rt → State → Prop} (a1 : Int32) (a2 : Int32) (a3 : Int32) {k107 : Ms → Option Rt} {k186 : Ms → Option Rt} (hk107 : ∀ (sx : Ms), gS p l e rm_X10_tell s m args below meth c 8 A (MW D cI cZ E A h0 ps) QX 0 0 (k107 sx) sx 107 [] []) (hk186 : ∀ (sx : Ms), gS p l e rm_X10_tell s m args below meth c 8 A (MW D cI cZ E A h0 ps) QX 0 0 (k186 sx) sx 186 [] []) : ∀ (F : Nat) (s0 : Ms) (l4 : Int32), gS p l e rm_X10_tell s m args below meth c 8 A (MW D cI cZ E A h0 ps) QX 0 0 (M_tell_L37 a1 a2 a3 k107 k186 F s0 l4) s0 37 [(0, .ref h0), (1, .int a1), (2, .int a2), (3, .int a3), (4, .int l4)] [] := by
  intro F
  induction F with
  | zero =>
    intro s0 l4
    unfold M_tell_L37
    exact g_none
  | succ F ih =>
    intro s0 l4
    unfold M_tell_L37
    refine g_iload h 4 dX10_tell_37 rfl ?_
    refine g_if_le h 186 dX10_tell_39 (by decide) ?_ ?_
    · refine g_lv [] [] rfl ?_
      exact hk186 _
    · refine g_iconst (v := -1) h dX10_tell_42 (by decide) ?_
      refine g_istore h [(5, .int (-1 : Int32)), (0, .ref h0), (1, .int a1), (2, .int a2), (3, .int a3), (4, .int l4)] dX10_tell_43 (by decide) rfl ?_
      refine g_iconst (v := 0) h dX10_tell_45 (by decide) ?_
      refine g_istore h [(6, .int (0 : Int32)), (5, .int (-1 : Int32)), (0, .ref h0), (1, .int a1), (2, .int a2), (3, .int a3), (4, .int l4)] dX10_tell_46 (by decide) rfl ?_
      refine g_lv [(0, .ref h0), (1, .int a1), (2, .int a2), (3, .int a3), (4, .int l4), (5, .int (-1 : Int32)), (6, .int (0 : Int32))] [2, 3, 4, 5, 6, 1, 0] rfl ?_
      refine M_tell_L48_w h hE hkw hKs _ _ _ _ _ (fun v5_101 => ?_) _ _ _
      · refine g_iload h 4 dX10_tell_101 rfl ?_
        refine g_iconst (v := -1) h dX10_tell_103 (by decide) ?_
        refine g_icmp_ne h 108 dX10_tell_104 (by decide) ?_ ?_
        · refine g_iconst (v := 0) h dX10_tell_108 (by decide) ?_
          refine g_istore h [(6, .int (0 : Int32)), (0, .ref h0), (1, .int a1), (2, .int a2), (3, .int a3), (5, .int v5_101)] dX10_tell_109 (by decide) rfl ?_
          refine g_lv [(0, .ref h0), (1, .int a1), (2, .int a2), (3, .int a3), (5, .int v5_101), (6, .int (0 : Int32))] [1, 2, 3, 4, 5, 0] rfl ?_
          refine M_tell_L111_w h hE hkw hKs _ _ _ _ (fun s_179 => ?_) _ _ _
          · refine g_iload h 4 dX10_tell_179 rfl ?_
            refine g_istore h [(4, .int v5_101), (0, .ref h0), (1, .int a1), (2, .int a2), (3, .int a3), (5, .int v5_101)] dX10_tell_181 (by decide) rfl ?_
            refine g_goto h 37 dX10_tell_183 (by decide) ?_
            refine g_lv [(0, .ref h0), (1, .int a1), (2, .int a2), (3, .int a3), (4, .int v5_101)] [1, 2, 3, 4, 0] rfl ?_
            exact ih _ _
        · refine g_lv [] [] rfl ?_
          exact hk107 _
def M_tell (s0 : Ms) (a1 : Int32) (a2 : Int32) (a3 : Int32) : Option (Ms) :=
  bnd (mSet s0 48 (0 : Int32)) (fun s_2 =>
  bnd (mSet s_2 49 (999999 : Int32)) (fun s_8 =>
  bnd (mSet s_8 50 (-1 : Int32)) (fun s_13 =>
  bnd (mSet s_13 51 (-1 : Int32)) (fun s_18 =>
  bnd (mSet s_18 52 (0 : Int32)) (fun s_23 =>
  if a3 = (-1 : Int32) then
    some s_23
  else
    M_tell_L37 a1 a2 a3 (fun s_107 => some s_107) (fun s_186 => some s_186) gF s_23 (10000 : Int32))))))
set_option maxHeartbeats 4000000 in
set_option maxRecDepth 100000 in
theorem c_X10_tell {l : Launch} {A : Nat → Prop} {Ke : State → Prop} {D : va_G} {cI cZ : ClassId} {E : State → Heap → Prop} {h0 : Nat} {ps : Nat → Nat} (hE : mEok E A) (hkw : gKw Ke) (s0 : Ms) (a1 : Int32) (a2 : Int32) (a3 : Int32) : gCv l yX10_tell cX10_tell 8 (none) rm_X10_tell Ke (MW D cI cZ E A h0 ps) A [.ref h0, .int a1, .int a2, .int a3] s0 (M_tell s0 a1 a2 a3) := by
  refine g_metv (by decide) (by simp [lg_sl, Value.category]) ?_
  intro p e s m below meth c h hr hKs
  refine g_lv [(0, .ref h0), (1, .int a1), (2, .int a2), (3, .int a3)] [0, 1, 2, 3] rfl ?_
  unfold M_tell
  refine g_aload_n h 0 dX10_tell_0 rfl ?_
  refine g_iconst (v := 0) h dX10_tell_1 (by decide) ?_
  refine m_put h hE hinX10 48 (by decide) rfl rfl rfl tW_954 dX10_tell_2 ?_
  refine g_bnd (fun s_2 => ?_)
  refine g_aload_n h 0 dX10_tell_5 rfl ?_
  refine g_ldc (v := 999999) h tW_1136 dX10_tell_6 ?_
  refine m_put h hE hinX10 49 (by decide) rfl rfl rfl tW_955 dX10_tell_8 ?_
  refine g_bnd (fun s_8 => ?_)
  refine g_aload_n h 0 dX10_tell_11 rfl ?_
  refine g_iconst (v := -1) h dX10_tell_12 (by decide) ?_
  refine m_put h hE hinX10 50 (by decide) rfl rfl rfl tW_956 dX10_tell_13 ?_
  refine g_bnd (fun s_13 => ?_)
  refine g_aload_n h 0 dX10_tell_16 rfl ?_
  refine g_iconst (v := -1) h dX10_tell_17 (by decide) ?_
  refine m_put h hE hinX10 51 (by decide) rfl rfl rfl tW_957 dX10_tell_18 ?_
  refine g_bnd (fun s_18 => ?_)
  refine g_aload_n h 0 dX10_tell_21 rfl ?_
  refine g_iconst (v := 0) h dX10_tell_22 (by decide) ?_
  refine m_put h hE hinX10 52 (by decide) rfl rfl rfl tW_958 dX10_tell_23 ?_
  refine g_bnd (fun s_23 => ?_)
  refine g_iload_n h 3 dX10_tell_26 rfl ?_
  refine g_iconst (v := -1) h dX10_tell_27 (by decide) ?_
  refine g_icmp_ne h 32 dX10_tell_28 (by decide) ?_ ?_
  · refine g_sipush (v := 10000) h dX10_tell_32 (by decide) ?_
    refine g_istore h [(4, .int (10000 : Int32)), (0, .ref h0), (1, .int a1), (2, .int a2), (3, .int a3)] dX10_tell_35 (by decide) rfl ?_
    refine g_lv [(0, .ref h0), (1, .int a1), (2, .int a2), (3, .int a3), (4, .int (10000 : Int32))] [1, 2, 3, 4, 0] rfl ?_
    refine M_tell_L37_w h hE hkw hKs _ _ _ (fun s_107 => ?_) (fun s_186 => ?_) _ _ _
    · exact g_vret h (MW_mv hE) hr (Nat.le_refl _) (Nat.le_refl _) dX10_tell_107
    · exact g_vret h (MW_mv hE) hr (Nat.le_refl _) (Nat.le_refl _) dX10_tell_186
  · exact g_vret h (MW_mv hE) hr (Nat.le_refl _) (Nat.le_refl _) dX10_tell_31
def rm_X10_isHeld : Room := { frames := 0, cells := 0, slots := 0, locals := 0 }
theorem yk_X10_isHeld : yOkV yX10_isHeld cX10_isHeld 3 (some .boolean) RX10 2 := ⟨tW_1296, tW_5, tW_1295, tP_57, by decide, by decide, by decide +kernel⟩
def M_isHeld_B19 (s0 : Ms) (t0 : Int32) : Option (Int32) :=
  if okZ t0 = true then some t0 else none
set_option maxHeartbeats 4000000 in
set_option maxRecDepth 100000 in
theorem M_isHeld_B19_w {p : Program} {l : Launch} {e : Env} {s : State} {m : MethodId} {args : Array Value} {below : List Frame} {meth : Method} {c : Code} {A : Nat → Prop} {Ke : State → Prop} {D : va_G} {cI cZ : ClassId} {E : State → Heap → Prop} {h0 : Nat} {ps : Nat → Nat} (h : gOk p s m args meth c cX10_isHeld 3 RX10 tb) (hE : mEok E A) (hkw : gKw Ke) (hKs : Ke s) (s0 : Ms) (t0 : Int32) (hr : meth.sig.returnType = some .boolean)  : gS p l e rm_X10_isHeld s m args below meth c 3 A (MW D cI cZ E A h0 ps) (fun X => MQ below (gPi (MW D cI cZ E A h0 ps) A (X, s0)) args s rm_X10_isHeld.cells rm_X10_isHeld.slots A) 0 0 (M_isHeld_B19 s0 t0) s0 19 [] [.int t0] := by
  unfold M_isHeld_B19
  refine g_guard (fun hz => ?_)
  exact g_zretp h (MW_mv hE) hr (Nat.le_refl _) (Nat.le_refl _) hz dX10_isHeld_19
def M_isHeld (s0 : Ms) (a1 : Int32) (a2 : Int32) : Option (Int32) :=
  if okI a1 30 = true then
  if ((s0.2 59 a1.toNatClampNeg) >>> (a2 &&& 31)) &&& (1 : Int32) = (1 : Int32) then
    M_isHeld_B19 s0 (1 : Int32)
  else
    M_isHeld_B19 s0 (0 : Int32)
  else none
set_option maxHeartbeats 4000000 in
set_option maxRecDepth 100000 in
theorem c_X10_isHeld {l : Launch} {A : Nat → Prop} {Ke : State → Prop} {D : va_G} {cI cZ : ClassId} {E : State → Heap → Prop} {h0 : Nat} {ps : Nat → Nat} (hE : mEok E A) (hkw : gKw Ke) (s0 : Ms) (a1 : Int32) (a2 : Int32) : gCp l yX10_isHeld cX10_isHeld 3 (some .boolean) rm_X10_isHeld Ke (MW D cI cZ E A h0 ps) A [.ref h0, .int a1, .int a2] s0 (M_isHeld s0 a1 a2) := by
  refine g_metp (by decide) (by simp [lg_sl, Value.category]) ?_
  intro p e s m below meth c h hr hKs
  refine g_lv [(0, .ref h0), (1, .int a1), (2, .int a2)] [0, 1, 2] rfl ?_
  unfold M_isHeld
  refine g_aload_n h 0 dX10_isHeld_0 rfl ?_
  refine m_geta h hinX10 59 (by decide) rfl tW_965 dX10_isHeld_1 ?_
  refine g_iload_n h 1 dX10_isHeld_4 rfl ?_
  refine m_iald h 59 rfl rfl 30 rfl dX10_isHeld_5 ?_
  refine g_iload_n h 2 dX10_isHeld_6 rfl ?_
  refine g_ishr h dX10_isHeld_7 ?_
  refine g_iconst (v := 1) h dX10_isHeld_8 (by decide) ?_
  refine g_iand h dX10_isHeld_9 ?_
  refine g_iconst (v := 1) h dX10_isHeld_10 (by decide) ?_
  refine g_icmp_ne h 18 dX10_isHeld_11 (by decide) ?_ ?_
  · refine g_iconst (v := 0) h dX10_isHeld_18 (by decide) ?_
    refine g_lv [] [] rfl ?_
    exact M_isHeld_B19_w h hE hkw hKs _ _ hr
  · refine g_iconst (v := 1) h dX10_isHeld_14 (by decide) ?_
    refine g_goto h 19 dX10_isHeld_15 (by decide) ?_
    refine g_lv [] [] rfl ?_
    exact M_isHeld_B19_w h hE hkw hKs _ _ hr
def rm_X10_know : Room := { frames := 8, cells := 0, slots := 0, locals := 192 }
theorem yk_X10_know : yOkV yX10_know cX10_know 5 (none) RX10 2 := ⟨tW_1279, tW_5, tW_1278, tP_53, by decide, by decide, by decide +kernel⟩
def M_know_L49 {Rt : Type} (a1 : Int32) (a2 : Int32) (l3 : Int32) (k127 : Ms → Option Rt) : Nat → Ms → Int32 → Option Rt
  | 0, _, _ => none
  | F + 1, s0, l4 =>
  if (8 : Int32) ≤ l4 then
      k127 s0
    else
      if okI a1 30 = true then
      if s0.2 55 a1.toNatClampNeg = 0 then
        (M_tell s0 a1 l4 l3).bind (fun s_70 =>
        if okI (((8 : Int32) * a1) + l4) 240 = true then
        bnd (mSto s_70 56 (((8 : Int32) * a1) + l4).toNatClampNeg (s_70.1 48)) (fun s_88 =>
        if okI (((8 : Int32) * a1) + l4) 240 = true then
        bnd (mSto s_88 57 (((8 : Int32) * a1) + l4).toNatClampNeg (s_88.1 49)) (fun s_104 =>
        if okI (((8 : Int32) * a1) + l4) 240 = true then
        bnd (mSto s_104 58 (((8 : Int32) * a1) + l4).toNatClampNeg (s_104.1 51)) (fun s_120 =>
        M_know_L49 a1 a2 l3 k127 F s_120 (l4 + 1))
        else none)
        else none)
        else none)
      else
        k127 s0
      else none
set_option maxHeartbeats 4000000 in
set_option maxRecDepth 100000 in
theorem M_know_L49_w {p : Program} {l : Launch} {e : Env} {s : State} {m : MethodId} {args : Array Value} {below : List Frame} {meth : Method} {c : Code} {A : Nat → Prop} {Ke : State → Prop} {D : va_G} {cI cZ : ClassId} {E : State → Heap → Prop} {h0 : Nat} {ps : Nat → Nat} (h : gOk p s m args meth c cX10_know 5 RX10 tb) (hE : mEok E A) (hkw : gKw Ke) (hKs : Ke s) {Rt : Type} {QX : Rt → State → Prop} (a1 : Int32) (a2 : Int32) (l3 : Int32) {k127 : Ms → Option Rt} (hk127 : ∀ (sx : Ms), gS p l e rm_X10_know s m args below meth c 5 A (MW D cI cZ E A h0 ps) QX 0 0 (k127 sx) sx 127 [(0, .ref h0), (1, .int a1), (2, .int a2)] []) : ∀ (F : Nat) (s0 : Ms) (l4 : Int32), gS p l e rm_X10_know s m args below meth c 5 A (MW D cI cZ E A h0 ps) QX 0 0 (M_know_L49 a1 a2 l3 k127 F s0 l4) s0 49 [(0, .ref h0), (1, .int a1), (2, .int a2), (3, .int l3), (4, .int l4)] [] := by
  intro F
  induction F with
  | zero =>
    intro s0 l4
    unfold M_know_L49
    exact g_none
  | succ F ih =>
    intro s0 l4
    unfold M_know_L49
    refine g_iload h 4 dX10_know_49 rfl ?_
    refine g_bipush (v := 8) h dX10_know_51 (by decide) ?_
    refine g_icmp_ge h 127 dX10_know_53 (by decide) ?_ ?_
    · refine g_lv [(0, .ref h0), (1, .int a1), (2, .int a2)] [0, 1, 2] rfl ?_
      exact hk127 _
    · refine g_aload_n h 0 dX10_know_56 rfl ?_
      refine m_geta h hinX10 55 (by decide) rfl tW_961 dX10_know_57 ?_
      refine g_iload_n h 1 dX10_know_60 rfl ?_
      refine m_zald h 55 rfl rfl 30 rfl dX10_know_61 ?_
      refine g_if_ne h 127 dX10_know_62 (by decide) ?_ ?_
      · refine g_lv [(0, .ref h0), (1, .int a1), (2, .int a2)] [0, 1, 2] rfl ?_
        exact hk127 _
      · refine g_aload_n h 0 dX10_know_65 rfl ?_
        refine g_iload_n h 1 dX10_know_66 rfl ?_
        refine g_iload h 4 dX10_know_67 rfl ?_
        refine g_iload_n h 3 dX10_know_69 rfl ?_
        refine g_callV0v h (MW_mv hE) hkw hKs [.int a1, .int l4, .int l3] (c_X10_tell hE hkw s0 a1 l4 l3) yk_X10_tell tW_1280 ⟨(Nat.le_of_ble_eq_true rfl), (Nat.le_of_ble_eq_true rfl)⟩ MW_recv rfl rfl rfl rfl (Nat.le_of_ble_eq_true rfl) dX10_know_70 ⟨Nat.zero_le _, Nat.zero_le _⟩ (fun s_70 => ?_)
        refine g_aload_n h 0 dX10_know_73 rfl ?_
        refine m_geta h hinX10 56 (by decide) rfl tW_962 dX10_know_74 ?_
        refine g_bipush (v := 8) h dX10_know_77 (by decide) ?_
        refine g_iload_n h 1 dX10_know_79 rfl ?_
        refine g_imul h dX10_know_80 ?_
        refine g_iload h 4 dX10_know_81 rfl ?_
        refine g_iadd h dX10_know_83 ?_
        refine g_aload_n h 0 dX10_know_84 rfl ?_
        refine m_get h hinX10 48 (by decide) rfl tW_954 dX10_know_85 ?_
        refine m_iast h hE 56 rfl rfl 240 rfl dX10_know_88 ?_
        refine g_bnd (fun s_88 => ?_)
        refine g_aload_n h 0 dX10_know_89 rfl ?_
        refine m_geta h hinX10 57 (by decide) rfl tW_963 dX10_know_90 ?_
        refine g_bipush (v := 8) h dX10_know_93 (by decide) ?_
        refine g_iload_n h 1 dX10_know_95 rfl ?_
        refine g_imul h dX10_know_96 ?_
        refine g_iload h 4 dX10_know_97 rfl ?_
        refine g_iadd h dX10_know_99 ?_
        refine g_aload_n h 0 dX10_know_100 rfl ?_
        refine m_get h hinX10 49 (by decide) rfl tW_955 dX10_know_101 ?_
        refine m_iast h hE 57 rfl rfl 240 rfl dX10_know_104 ?_
        refine g_bnd (fun s_104 => ?_)
        refine g_aload_n h 0 dX10_know_105 rfl ?_
        refine m_geta h hinX10 58 (by decide) rfl tW_964 dX10_know_106 ?_
        refine g_bipush (v := 8) h dX10_know_109 (by decide) ?_
        refine g_iload_n h 1 dX10_know_111 rfl ?_
        refine g_imul h dX10_know_112 ?_
        refine g_iload h 4 dX10_know_113 rfl ?_
        refine g_iadd h dX10_know_115 ?_
        refine g_aload_n h 0 dX10_know_116 rfl ?_
        refine m_get h hinX10 51 (by decide) rfl tW_957 dX10_know_117 ?_
        refine m_iast h hE 58 rfl rfl 240 rfl dX10_know_120 ?_
        refine g_bnd (fun s_120 => ?_)
        refine g_iinc (v := l4 + 1) (i := 4) h [(4, .int (l4 + 1)), (0, .ref h0), (1, .int a1), (2, .int a2), (3, .int l3)] dX10_know_121 rfl rfl (by decide) rfl ?_
        refine g_goto h 49 dX10_know_124 (by decide) ?_
        refine g_lv [(0, .ref h0), (1, .int a1), (2, .int a2), (3, .int l3), (4, .int (l4 + 1))] [1, 2, 3, 4, 0] rfl ?_
        exact ih _ _
def M_know_B127 (s0 : Ms) (a1 : Int32) (a2 : Int32) : Option (Ms) :=
  if okI a1 30 = true then
  bnd (mSto s0 55 a1.toNatClampNeg (1 : Int32)) (fun s_133 =>
  if okI (((8 : Int32) * a1) + a2) 240 = true then
  bnd (mSet s_133 48 (s_133.2 56 (((8 : Int32) * a1) + a2).toNatClampNeg)) (fun s_146 =>
  if okI (((8 : Int32) * a1) + a2) 240 = true then
  bnd (mSet s_146 49 (s_146.2 57 (((8 : Int32) * a1) + a2).toNatClampNeg)) (fun s_161 =>
  if okI (((8 : Int32) * a1) + a2) 240 = true then
  bnd (mSet s_161 51 (s_161.2 58 (((8 : Int32) * a1) + a2).toNatClampNeg)) (fun s_176 =>
  some s_176)
  else none)
  else none)
  else none)
  else none
set_option maxHeartbeats 4000000 in
set_option maxRecDepth 100000 in
theorem M_know_B127_w {p : Program} {l : Launch} {e : Env} {s : State} {m : MethodId} {args : Array Value} {below : List Frame} {meth : Method} {c : Code} {A : Nat → Prop} {Ke : State → Prop} {D : va_G} {cI cZ : ClassId} {E : State → Heap → Prop} {h0 : Nat} {ps : Nat → Nat} (h : gOk p s m args meth c cX10_know 5 RX10 tb) (hE : mEok E A) (hkw : gKw Ke) (hKs : Ke s) (s0 : Ms) (a1 : Int32) (a2 : Int32) (hr : meth.sig.returnType = none)  : gS p l e rm_X10_know s m args below meth c 5 A (MW D cI cZ E A h0 ps) (fun X => MQ below (gPv (MW D cI cZ E A h0 ps) A X) args s rm_X10_know.cells rm_X10_know.slots A) 0 0 (M_know_B127 s0 a1 a2) s0 127 [(0, .ref h0), (1, .int a1), (2, .int a2)] [] := by
  unfold M_know_B127
  refine g_aload_n h 0 dX10_know_127 rfl ?_
  refine m_geta h hinX10 55 (by decide) rfl tW_961 dX10_know_128 ?_
  refine g_iload_n h 1 dX10_know_131 rfl ?_
  refine g_iconst (v := 1) h dX10_know_132 (by decide) ?_
  refine m_zast h hE 55 rfl rfl 30 rfl (by decide) dX10_know_133 ?_
  refine g_bnd (fun s_133 => ?_)
  refine g_aload_n h 0 dX10_know_134 rfl ?_
  refine g_aload_n h 0 dX10_know_135 rfl ?_
  refine m_geta h hinX10 56 (by decide) rfl tW_962 dX10_know_136 ?_
  refine g_bipush (v := 8) h dX10_know_139 (by decide) ?_
  refine g_iload_n h 1 dX10_know_141 rfl ?_
  refine g_imul h dX10_know_142 ?_
  refine g_iload_n h 2 dX10_know_143 rfl ?_
  refine g_iadd h dX10_know_144 ?_
  refine m_iald h 56 rfl rfl 240 rfl dX10_know_145 ?_
  refine m_put h hE hinX10 48 (by decide) rfl rfl rfl tW_954 dX10_know_146 ?_
  refine g_bnd (fun s_146 => ?_)
  refine g_aload_n h 0 dX10_know_149 rfl ?_
  refine g_aload_n h 0 dX10_know_150 rfl ?_
  refine m_geta h hinX10 57 (by decide) rfl tW_963 dX10_know_151 ?_
  refine g_bipush (v := 8) h dX10_know_154 (by decide) ?_
  refine g_iload_n h 1 dX10_know_156 rfl ?_
  refine g_imul h dX10_know_157 ?_
  refine g_iload_n h 2 dX10_know_158 rfl ?_
  refine g_iadd h dX10_know_159 ?_
  refine m_iald h 57 rfl rfl 240 rfl dX10_know_160 ?_
  refine m_put h hE hinX10 49 (by decide) rfl rfl rfl tW_955 dX10_know_161 ?_
  refine g_bnd (fun s_161 => ?_)
  refine g_aload_n h 0 dX10_know_164 rfl ?_
  refine g_aload_n h 0 dX10_know_165 rfl ?_
  refine m_geta h hinX10 58 (by decide) rfl tW_964 dX10_know_166 ?_
  refine g_bipush (v := 8) h dX10_know_169 (by decide) ?_
  refine g_iload_n h 1 dX10_know_171 rfl ?_
  refine g_imul h dX10_know_172 ?_
  refine g_iload_n h 2 dX10_know_173 rfl ?_
  refine g_iadd h dX10_know_174 ?_
  refine m_iald h 58 rfl rfl 240 rfl dX10_know_175 ?_
  refine m_put h hE hinX10 51 (by decide) rfl rfl rfl tW_957 dX10_know_176 ?_
  refine g_bnd (fun s_176 => ?_)
  exact g_vret h (MW_mv hE) hr (Nat.le_refl _) (Nat.le_refl _) dX10_know_179
def M_know_B41 (s0 : Ms) (a1 : Int32) (a2 : Int32) (l3 : Int32) : Option (Ms) :=
  bnd (mSet s0 54 l3) (fun s_43 =>
  M_know_L49 a1 a2 l3 (fun s_127 => M_know_B127 s_127 a1 a2) gF s_43 (0 : Int32))
set_option maxHeartbeats 4000000 in
set_option maxRecDepth 100000 in
theorem M_know_B41_w {p : Program} {l : Launch} {e : Env} {s : State} {m : MethodId} {args : Array Value} {below : List Frame} {meth : Method} {c : Code} {A : Nat → Prop} {Ke : State → Prop} {D : va_G} {cI cZ : ClassId} {E : State → Heap → Prop} {h0 : Nat} {ps : Nat → Nat} (h : gOk p s m args meth c cX10_know 5 RX10 tb) (hE : mEok E A) (hkw : gKw Ke) (hKs : Ke s) (s0 : Ms) (a1 : Int32) (a2 : Int32) (l3 : Int32) (hr : meth.sig.returnType = none)  : gS p l e rm_X10_know s m args below meth c 5 A (MW D cI cZ E A h0 ps) (fun X => MQ below (gPv (MW D cI cZ E A h0 ps) A X) args s rm_X10_know.cells rm_X10_know.slots A) 0 0 (M_know_B41 s0 a1 a2 l3) s0 41 [(0, .ref h0), (1, .int a1), (2, .int a2), (3, .int l3)] [] := by
  unfold M_know_B41
  refine g_aload_n h 0 dX10_know_41 rfl ?_
  refine g_iload_n h 3 dX10_know_42 rfl ?_
  refine m_put h hE hinX10 54 (by decide) rfl rfl rfl tW_960 dX10_know_43 ?_
  refine g_bnd (fun s_43 => ?_)
  refine g_iconst (v := 0) h dX10_know_46 (by decide) ?_
  refine g_istore h [(4, .int (0 : Int32)), (0, .ref h0), (1, .int a1), (2, .int a2), (3, .int l3)] dX10_know_47 (by decide) rfl ?_
  refine g_lv [(0, .ref h0), (1, .int a1), (2, .int a2), (3, .int l3), (4, .int (0 : Int32))] [1, 2, 3, 4, 0] rfl ?_
  refine M_know_L49_w h hE hkw hKs _ _ _ (fun s_127 => ?_) _ _ _
  · exact M_know_B127_w h hE hkw hKs _ _ _ hr
def M_know_L20 {Rt : Type} (a1 : Int32) (a2 : Int32) (l3 : Int32) (k41 : Ms → Option Rt) : Nat → Ms → Int32 → Option Rt
  | 0, _, _ => none
  | F + 1, s0, l4 =>
  if (30 : Int32) ≤ l4 then
      k41 s0
    else
      if okI l4 30 = true then
      bnd (mSto s0 55 l4.toNatClampNeg (0 : Int32)) (fun s_34 =>
      M_know_L20 a1 a2 l3 k41 F s_34 (l4 + 1))
      else none
set_option maxHeartbeats 4000000 in
set_option maxRecDepth 100000 in
theorem M_know_L20_w {p : Program} {l : Launch} {e : Env} {s : State} {m : MethodId} {args : Array Value} {below : List Frame} {meth : Method} {c : Code} {A : Nat → Prop} {Ke : State → Prop} {D : va_G} {cI cZ : ClassId} {E : State → Heap → Prop} {h0 : Nat} {ps : Nat → Nat} (h : gOk p s m args meth c cX10_know 5 RX10 tb) (hE : mEok E A) (hkw : gKw Ke) (hKs : Ke s) {Rt : Type} {QX : Rt → State → Prop} (a1 : Int32) (a2 : Int32) (l3 : Int32) {k41 : Ms → Option Rt} (hk41 : ∀ (sx : Ms), gS p l e rm_X10_know s m args below meth c 5 A (MW D cI cZ E A h0 ps) QX 0 0 (k41 sx) sx 41 [(0, .ref h0), (1, .int a1), (2, .int a2), (3, .int l3)] []) : ∀ (F : Nat) (s0 : Ms) (l4 : Int32), gS p l e rm_X10_know s m args below meth c 5 A (MW D cI cZ E A h0 ps) QX 0 0 (M_know_L20 a1 a2 l3 k41 F s0 l4) s0 20 [(0, .ref h0), (1, .int a1), (2, .int a2), (3, .int l3), (4, .int l4)] [] := by
  intro F
  induction F with
  | zero =>
    intro s0 l4
    unfold M_know_L20
    exact g_none
  | succ F ih =>
    intro s0 l4
    unfold M_know_L20
    refine g_iload h 4 dX10_know_20 rfl ?_
    refine g_bipush (v := 30) h dX10_know_22 (by decide) ?_
    refine g_icmp_ge h 41 dX10_know_24 (by decide) ?_ ?_
    · refine g_lv [(0, .ref h0), (1, .int a1), (2, .int a2), (3, .int l3)] [0, 1, 2, 3] rfl ?_
      exact hk41 _
    · refine g_aload_n h 0 dX10_know_27 rfl ?_
      refine m_geta h hinX10 55 (by decide) rfl tW_961 dX10_know_28 ?_
      refine g_iload h 4 dX10_know_31 rfl ?_
      refine g_iconst (v := 0) h dX10_know_33 (by decide) ?_
      refine m_zast h hE 55 rfl rfl 30 rfl (by decide) dX10_know_34 ?_
      refine g_bnd (fun s_34 => ?_)
      refine g_iinc (v := l4 + 1) (i := 4) h [(4, .int (l4 + 1)), (0, .ref h0), (1, .int a1), (2, .int a2), (3, .int l3)] dX10_know_35 rfl rfl (by decide) rfl ?_
      refine g_goto h 20 dX10_know_38 (by decide) ?_
      refine g_lv [(0, .ref h0), (1, .int a1), (2, .int a2), (3, .int l3), (4, .int (l4 + 1))] [1, 2, 3, 4, 0] rfl ?_
      exact ih _ _
def M_know (s0 : Ms) (a1 : Int32) (a2 : Int32) : Option (Ms) :=
  (M_force s0 (s0.1 1)).bind (fun r_5 =>
  if r_5 = s0.1 54 then
    M_know_B41 s0 a1 a2 r_5
  else
    M_know_L20 a1 a2 r_5 (fun s_41 => M_know_B41 s_41 a1 a2 r_5) gF s0 (0 : Int32))
set_option maxHeartbeats 4000000 in
set_option maxRecDepth 100000 in
theorem c_X10_know {l : Launch} {A : Nat → Prop} {Ke : State → Prop} {D : va_G} {cI cZ : ClassId} {E : State → Heap → Prop} {h0 : Nat} {ps : Nat → Nat} (hE : mEok E A) (hkw : gKw Ke) (s0 : Ms) (a1 : Int32) (a2 : Int32) : gCv l yX10_know cX10_know 5 (none) rm_X10_know Ke (MW D cI cZ E A h0 ps) A [.ref h0, .int a1, .int a2] s0 (M_know s0 a1 a2) := by
  refine g_metv (by decide) (by simp [lg_sl, Value.category]) ?_
  intro p e s m below meth c h hr hKs
  refine g_lv [(0, .ref h0), (1, .int a1), (2, .int a2)] [0, 1, 2] rfl ?_
  unfold M_know
  refine g_aload_n h 0 dX10_know_0 rfl ?_
  refine g_aload_n h 0 dX10_know_1 rfl ?_
  refine m_get h hinX10 1 (by decide) rfl tW_907 dX10_know_2 ?_
  refine g_callV0p h (MW_mv hE) hkw hKs [.int (s0.1 1)] (c_X10_force hE hkw s0 (s0.1 1)) yk_X10_force tW_1244 ⟨(Nat.le_of_ble_eq_true rfl), (Nat.le_of_ble_eq_true rfl)⟩ MW_recv rfl rfl rfl rfl (Nat.le_of_ble_eq_true rfl) dX10_know_5 ⟨Nat.zero_le _, Nat.zero_le _⟩ (fun r_5 => ?_)
  refine g_istore_n h [(3, .int r_5), (0, .ref h0), (1, .int a1), (2, .int a2)] dX10_know_8 (by decide) rfl ?_
  refine g_iload_n h 0 dX10_know_9 rfl ?_
  refine g_aload_n h 1 dX10_know_10 rfl ?_
  refine m_get h hinX10 54 (by decide) rfl tW_960 dX10_know_11 ?_
  refine g_icmp_eq h 41 dX10_know_14 (by decide) ?_ ?_
  · refine g_lv [(0, .ref h0), (1, .int a1), (2, .int a2), (3, .int r_5)] [1, 2, 3, 0] rfl ?_
    exact M_know_B41_w h hE hkw hKs _ _ _ _ hr
  · refine g_iconst (v := 0) h dX10_know_17 (by decide) ?_
    refine g_istore h [(4, .int (0 : Int32)), (3, .int r_5), (0, .ref h0), (1, .int a1), (2, .int a2)] dX10_know_18 (by decide) rfl ?_
    refine g_lv [(0, .ref h0), (1, .int a1), (2, .int a2), (3, .int r_5), (4, .int (0 : Int32))] [2, 3, 4, 1, 0] rfl ?_
    refine M_know_L20_w h hE hkw hKs _ _ _ (fun s_41 => ?_) _ _ _
    · exact M_know_B41_w h hE hkw hKs _ _ _ _ hr
def rm_X10_isDue : Room := { frames := 9, cells := 0, slots := 0, locals := 216 }
theorem yk_X10_isDue : yOkV yX10_isDue cX10_isDue 4 (some .boolean) RX10 3 := ⟨tW_1275, tW_5, tW_1274, tP_52, by decide, by decide, by decide +kernel⟩
def M_isDue_B46 (s0 : Ms) (t0 : Int32) : Option (Int32 × Ms) :=
  if okZ t0 = true then some (t0, s0) else none
set_option maxHeartbeats 4000000 in
set_option maxRecDepth 100000 in
theorem M_isDue_B46_w {p : Program} {l : Launch} {e : Env} {s : State} {m : MethodId} {args : Array Value} {below : List Frame} {meth : Method} {c : Code} {A : Nat → Prop} {Ke : State → Prop} {D : va_G} {cI cZ : ClassId} {E : State → Heap → Prop} {h0 : Nat} {ps : Nat → Nat} (h : gOk p s m args meth c cX10_isDue 4 RX10 tb) (hE : mEok E A) (hkw : gKw Ke) (hKs : Ke s) (s0 : Ms) (t0 : Int32) (hr : meth.sig.returnType = some .boolean)  : gS p l e rm_X10_isDue s m args below meth c 4 A (MW D cI cZ E A h0 ps) (fun X => MQ below (gPi (MW D cI cZ E A h0 ps) A X) args s rm_X10_isDue.cells rm_X10_isDue.slots A) 0 0 (M_isDue_B46 s0 t0) s0 46 [] [.int t0] := by
  unfold M_isDue_B46
  refine g_guard (fun hz => ?_)
  exact g_zret h (MW_mv hE) hr (Nat.le_refl _) (Nat.le_refl _) hz dX10_isDue_46
def M_isDue_B45 (s0 : Ms)  : Option (Int32 × Ms) :=
  M_isDue_B46 s0 (0 : Int32)
set_option maxHeartbeats 4000000 in
set_option maxRecDepth 100000 in
theorem M_isDue_B45_w {p : Program} {l : Launch} {e : Env} {s : State} {m : MethodId} {args : Array Value} {below : List Frame} {meth : Method} {c : Code} {A : Nat → Prop} {Ke : State → Prop} {D : va_G} {cI cZ : ClassId} {E : State → Heap → Prop} {h0 : Nat} {ps : Nat → Nat} (h : gOk p s m args meth c cX10_isDue 4 RX10 tb) (hE : mEok E A) (hkw : gKw Ke) (hKs : Ke s) (s0 : Ms)  (hr : meth.sig.returnType = some .boolean)  : gS p l e rm_X10_isDue s m args below meth c 4 A (MW D cI cZ E A h0 ps) (fun X => MQ below (gPi (MW D cI cZ E A h0 ps) A X) args s rm_X10_isDue.cells rm_X10_isDue.slots A) 0 0 (M_isDue_B45 s0) s0 45 [] [] := by
  unfold M_isDue_B45
  refine g_iconst (v := 0) h dX10_isDue_45 (by decide) ?_
  exact M_isDue_B46_w h hE hkw hKs _ _ hr
def M_isDue_B41 (s0 : Ms)  : Option (Int32 × Ms) :=
  M_isDue_B46 s0 (1 : Int32)
set_option maxHeartbeats 4000000 in
set_option maxRecDepth 100000 in
theorem M_isDue_B41_w {p : Program} {l : Launch} {e : Env} {s : State} {m : MethodId} {args : Array Value} {below : List Frame} {meth : Method} {c : Code} {A : Nat → Prop} {Ke : State → Prop} {D : va_G} {cI cZ : ClassId} {E : State → Heap → Prop} {h0 : Nat} {ps : Nat → Nat} (h : gOk p s m args meth c cX10_isDue 4 RX10 tb) (hE : mEok E A) (hkw : gKw Ke) (hKs : Ke s) (s0 : Ms)  (hr : meth.sig.returnType = some .boolean)  : gS p l e rm_X10_isDue s m args below meth c 4 A (MW D cI cZ E A h0 ps) (fun X => MQ below (gPi (MW D cI cZ E A h0 ps) A X) args s rm_X10_isDue.cells rm_X10_isDue.slots A) 0 0 (M_isDue_B41 s0) s0 41 [] [] := by
  unfold M_isDue_B41
  refine g_iconst (v := 1) h dX10_isDue_41 (by decide) ?_
  refine g_goto h 46 dX10_isDue_42 (by decide) ?_
  exact M_isDue_B46_w h hE hkw hKs _ _ hr
def M_isDue (s0 : Ms) (a1 : Int32) (a2 : Int32) (a3 : Int32) : Option (Int32 × Ms) :=
  (M_know s0 a1 a2).bind (fun s_3 =>
  (M_isHeld s_3 a1 a2).bind (fun r_9 =>
  if r_9 = 0 then
    if a3 < s_3.1 48 then
      M_isDue_B45 s_3
    else
      if s_3.1 49 = (999999 : Int32) then
        if okI a1 30 = true then
        if s_3.2 13 a1.toNatClampNeg = 0 then
          M_isDue_B45 s_3
        else
          M_isDue_B41 s_3
        else none
      else
        M_isDue_B41 s_3
  else
    M_isDue_B45 s_3))
set_option maxHeartbeats 4000000 in
set_option maxRecDepth 100000 in
theorem c_X10_isDue {l : Launch} {A : Nat → Prop} {Ke : State → Prop} {D : va_G} {cI cZ : ClassId} {E : State → Heap → Prop} {h0 : Nat} {ps : Nat → Nat} (hE : mEok E A) (hkw : gKw Ke) (s0 : Ms) (a1 : Int32) (a2 : Int32) (a3 : Int32) : gCi l yX10_isDue cX10_isDue 4 (some .boolean) rm_X10_isDue Ke (MW D cI cZ E A h0 ps) A [.ref h0, .int a1, .int a2, .int a3] s0 (M_isDue s0 a1 a2 a3) := by
  refine g_meti (by decide) (by simp [lg_sl, Value.category]) ?_
  intro p e s m below meth c h hr hKs
  refine g_lv [(0, .ref h0), (1, .int a1), (2, .int a2), (3, .int a3)] [0, 1, 2, 3] rfl ?_
  unfold M_isDue
  refine g_aload_n h 0 dX10_isDue_0 rfl ?_
  refine g_iload_n h 1 dX10_isDue_1 rfl ?_
  refine g_iload_n h 2 dX10_isDue_2 rfl ?_
  refine g_callV0v h (MW_mv hE) hkw hKs [.int a1, .int a2] (c_X10_know hE hkw s0 a1 a2) yk_X10_know tW_1276 ⟨(Nat.le_of_ble_eq_true rfl), (Nat.le_of_ble_eq_true rfl)⟩ MW_recv rfl rfl rfl rfl (Nat.le_of_ble_eq_true rfl) dX10_isDue_3 ⟨Nat.zero_le _, Nat.zero_le _⟩ (fun s_3 => ?_)
  refine g_aload_n h 0 dX10_isDue_6 rfl ?_
  refine g_iload_n h 1 dX10_isDue_7 rfl ?_
  refine g_iload_n h 2 dX10_isDue_8 rfl ?_
  refine g_callV0p h (MW_mv hE) hkw hKs [.int a1, .int a2] (c_X10_isHeld hE hkw s_3 a1 a2) yk_X10_isHeld tW_1293 ⟨(Nat.le_of_ble_eq_true rfl), (Nat.le_of_ble_eq_true rfl)⟩ MW_recv rfl rfl rfl rfl (Nat.le_of_ble_eq_true rfl) dX10_isDue_9 ⟨Nat.zero_le _, Nat.zero_le _⟩ (fun r_9 => ?_)
  refine g_if_ne h 45 dX10_isDue_12 (by decide) ?_ ?_
  · refine g_lv [] [] rfl ?_
    exact M_isDue_B45_w h hE hkw hKs _  hr
  · refine g_aload_n h 0 dX10_isDue_15 rfl ?_
    refine m_get h hinX10 48 (by decide) rfl tW_954 dX10_isDue_16 ?_
    refine g_iload_n h 3 dX10_isDue_19 rfl ?_
    refine g_icmp_gt h 45 dX10_isDue_20 (by decide) ?_ ?_
    · refine g_lv [] [] rfl ?_
      exact M_isDue_B45_w h hE hkw hKs _  hr
    · refine g_aload_n h 0 dX10_isDue_23 rfl ?_
      refine m_get h hinX10 49 (by decide) rfl tW_955 dX10_isDue_24 ?_
      refine g_ldc (v := 999999) h tW_1136 dX10_isDue_27 ?_
      refine g_icmp_ne h 41 dX10_isDue_29 (by decide) ?_ ?_
      · refine g_lv [] [] rfl ?_
        exact M_isDue_B41_w h hE hkw hKs _  hr
      · refine g_aload_n h 0 dX10_isDue_32 rfl ?_
        refine m_geta h hinX10 13 (by decide) rfl tW_919 dX10_isDue_33 ?_
        refine g_iload_n h 1 dX10_isDue_36 rfl ?_
        refine m_zald h 13 rfl rfl 30 rfl dX10_isDue_37 ?_
        refine g_if_eq h 45 dX10_isDue_38 (by decide) ?_ ?_
        · refine g_lv [] [] rfl ?_
          exact M_isDue_B45_w h hE hkw hKs _  hr
        · refine g_lv [] [] rfl ?_
          exact M_isDue_B41_w h hE hkw hKs _  hr
def rm_X10_placesOf : Room := { frames := 1, cells := 0, slots := 0, locals := 27 }
theorem yk_X10_placesOf : yOkV yX10_placesOf cX10_placesOf 6 (some .int) RX10 2 := ⟨tW_1243, tW_5, tW_1242, tP_49, by decide, by decide, by decide +kernel⟩
def M_placesOf_B81 {Rt : Type} (s0 : Ms) (rec : Int32 → Int32 → Option Rt) (k87 : Int32 → Option Rt) (a1 : Int32) (a2 : Int32) (l3 : Int32) (l4 : Int32) (l5 : Int32) : Option (Rt) :=
  rec l4 (l5 + 1)
set_option maxHeartbeats 4000000 in
set_option maxRecDepth 100000 in
theorem M_placesOf_B81_w {p : Program} {l : Launch} {e : Env} {s : State} {m : MethodId} {args : Array Value} {below : List Frame} {meth : Method} {c : Code} {A : Nat → Prop} {Ke : State → Prop} {D : va_G} {cI cZ : ClassId} {E : State → Heap → Prop} {h0 : Nat} {ps : Nat → Nat} (h : gOk p s m args meth c cX10_placesOf 6 RX10 tb) (hE : mEok E A) (hkw : gKw Ke) (hKs : Ke s) {Rt : Type} {QX : Rt → State → Prop} {rec : Int32 → Int32 → Option Rt} {k87 : Int32 → Option Rt} (s0 : Ms) (a1 : Int32) (a2 : Int32) (l3 : Int32) (l4 : Int32) (l5 : Int32) (hrec : ∀ (l4 : Int32) (l5 : Int32), gS p l e rm_X10_placesOf s m args below meth c 6 A (MW D cI cZ E A h0 ps) QX 0 0 (rec l4 l5) s0 16 [(0, .ref h0), (1, .int a1), (2, .int a2), (3, .int l3), (4, .int l4), (5, .int l5)] []) (hk87 : ∀ (l4 : Int32), gS p l e rm_X10_placesOf s m args below meth c 6 A (MW D cI cZ E A h0 ps) QX 0 0 (k87 l4) s0 87 [(4, .int l4)] []) : gS p l e rm_X10_placesOf s m args below meth c 6 A (MW D cI cZ E A h0 ps) QX 0 0 (M_placesOf_B81 s0 rec k87 a1 a2 l3 l4 l5) s0 81 [(0, .ref h0), (1, .int a1), (2, .int a2), (3, .int l3), (4, .int l4), (5, .int l5)] [] := by
  unfold M_placesOf_B81
  refine g_iinc (v := l5 + 1) (i := 5) h [(5, .int (l5 + 1)), (0, .ref h0), (1, .int a1), (2, .int a2), (3, .int l3), (4, .int l4)] dX10_placesOf_81 rfl rfl (by decide) rfl ?_
  refine g_goto h 16 dX10_placesOf_84 (by decide) ?_
  refine g_lv [(0, .ref h0), (1, .int a1), (2, .int a2), (3, .int l3), (4, .int l4), (5, .int (l5 + 1))] [1, 2, 3, 4, 5, 0] rfl ?_
  exact hrec _ _
def M_placesOf_L16 {Rt : Type} (s0 : Ms) (a1 : Int32) (a2 : Int32) (l3 : Int32) (k87 : Int32 → Option Rt) : Nat → Int32 → Int32 → Option Rt
  | 0, _, _ => none
  | F + 1, l4, l5 =>
  if l3 = (-1 : Int32) then
      k87 l4
    else
      if okI l3 8 = true then
      if s0.2 25 l3.toNatClampNeg ≤ l5 then
        k87 l4
      else
        if okI (((24 : Int32) * l3) + l5) 192 = true then
        if s0.2 26 (((24 : Int32) * l3) + l5).toNatClampNeg = (2 : Int32) then
          (M_isFor s0 (((24 : Int32) * l3) + l5) a1 a2).bind (fun r_58 =>
          if r_58 = 0 then
            M_placesOf_B81 s0 (M_placesOf_L16 s0 a1 a2 l3 k87 F) k87 a1 a2 l3 l4 l5
          else
            if okI (((24 : Int32) * l3) + l5) 192 = true then
            bnd (l4 &&& (s0.2 32 (((24 : Int32) * l3) + l5).toNatClampNeg)) (fun v4_79 =>
            M_placesOf_B81 s0 (M_placesOf_L16 s0 a1 a2 l3 k87 F) k87 a1 a2 l3 v4_79 l5)
            else none)
        else
          M_placesOf_B81 s0 (M_placesOf_L16 s0 a1 a2 l3 k87 F) k87 a1 a2 l3 l4 l5
        else none
      else none
set_option maxHeartbeats 4000000 in
set_option maxRecDepth 100000 in
theorem M_placesOf_L16_w {p : Program} {l : Launch} {e : Env} {s : State} {m : MethodId} {args : Array Value} {below : List Frame} {meth : Method} {c : Code} {A : Nat → Prop} {Ke : State → Prop} {D : va_G} {cI cZ : ClassId} {E : State → Heap → Prop} {h0 : Nat} {ps : Nat → Nat} (h : gOk p s m args meth c cX10_placesOf 6 RX10 tb) (hE : mEok E A) (hkw : gKw Ke) (hKs : Ke s) {Rt : Type} {QX : Rt → State → Prop} (s0 : Ms) (a1 : Int32) (a2 : Int32) (l3 : Int32) {k87 : Int32 → Option Rt} (hk87 : ∀ (l4 : Int32), gS p l e rm_X10_placesOf s m args below meth c 6 A (MW D cI cZ E A h0 ps) QX 0 0 (k87 l4) s0 87 [(4, .int l4)] []) : ∀ (F : Nat) (l4 : Int32) (l5 : Int32), gS p l e rm_X10_placesOf s m args below meth c 6 A (MW D cI cZ E A h0 ps) QX 0 0 (M_placesOf_L16 s0 a1 a2 l3 k87 F l4 l5) s0 16 [(0, .ref h0), (1, .int a1), (2, .int a2), (3, .int l3), (4, .int l4), (5, .int l5)] [] := by
  intro F
  induction F with
  | zero =>
    intro l4 l5
    unfold M_placesOf_L16
    exact g_none
  | succ F ih =>
    intro l4 l5
    unfold M_placesOf_L16
    refine g_iload_n h 3 dX10_placesOf_16 rfl ?_
    refine g_iconst (v := -1) h dX10_placesOf_17 (by decide) ?_
    refine g_icmp_eq h 87 dX10_placesOf_18 (by decide) ?_ ?_
    · refine g_lv [(4, .int l4)] [4] rfl ?_
      exact hk87 _
    · refine g_iload h 5 dX10_placesOf_21 rfl ?_
      refine g_aload_n h 0 dX10_placesOf_23 rfl ?_
      refine m_geta h hinX10 25 (by decide) rfl tW_931 dX10_placesOf_24 ?_
      refine g_iload_n h 3 dX10_placesOf_27 rfl ?_
      refine m_iald h 25 rfl rfl 8 rfl dX10_placesOf_28 ?_
      refine g_icmp_ge h 87 dX10_placesOf_29 (by decide) ?_ ?_
      · refine g_lv [(4, .int l4)] [4] rfl ?_
        exact hk87 _
      · refine g_aload_n h 0 dX10_placesOf_32 rfl ?_
        refine m_geta h hinX10 26 (by decide) rfl tW_932 dX10_placesOf_33 ?_
        refine g_bipush (v := 24) h dX10_placesOf_36 (by decide) ?_
        refine g_iload_n h 3 dX10_placesOf_38 rfl ?_
        refine g_imul h dX10_placesOf_39 ?_
        refine g_iload h 5 dX10_placesOf_40 rfl ?_
        refine g_iadd h dX10_placesOf_42 ?_
        refine m_iald h 26 rfl rfl 192 rfl dX10_placesOf_43 ?_
        refine g_iconst (v := 2) h dX10_placesOf_44 (by decide) ?_
        refine g_icmp_ne h 81 dX10_placesOf_45 (by decide) ?_ ?_
        · exact M_placesOf_B81_w h hE hkw hKs _ _ _ _ _ _ (ih) hk87
        · refine g_aload_n h 0 dX10_placesOf_48 rfl ?_
          refine g_bipush (v := 24) h dX10_placesOf_49 (by decide) ?_
          refine g_iload_n h 3 dX10_placesOf_51 rfl ?_
          refine g_imul h dX10_placesOf_52 ?_
          refine g_iload h 5 dX10_placesOf_53 rfl ?_
          refine g_iadd h dX10_placesOf_55 ?_
          refine g_iload_n h 1 dX10_placesOf_56 rfl ?_
          refine g_iload_n h 2 dX10_placesOf_57 rfl ?_
          refine g_callV0p h (MW_mv hE) hkw hKs [.int (((24 : Int32) * l3) + l5), .int a1, .int a2] (c_X10_isFor hE hkw s0 (((24 : Int32) * l3) + l5) a1 a2) yk_X10_isFor tW_1248 ⟨(Nat.le_of_ble_eq_true rfl), (Nat.le_of_ble_eq_true rfl)⟩ MW_recv rfl rfl rfl rfl (Nat.le_of_ble_eq_true rfl) dX10_placesOf_58 ⟨Nat.zero_le _, Nat.zero_le _⟩ (fun r_58 => ?_)
          refine g_if_eq h 81 dX10_placesOf_61 (by decide) ?_ ?_
          · exact M_placesOf_B81_w h hE hkw hKs _ _ _ _ _ _ (ih) hk87
          · refine g_iload h 4 dX10_placesOf_64 rfl ?_
            refine g_aload_n h 0 dX10_placesOf_66 rfl ?_
            refine m_geta h hinX10 32 (by decide) rfl tW_938 dX10_placesOf_67 ?_
            refine g_bipush (v := 24) h dX10_placesOf_70 (by decide) ?_
            refine g_iload_n h 3 dX10_placesOf_72 rfl ?_
            refine g_imul h dX10_placesOf_73 ?_
            refine g_iload h 5 dX10_placesOf_74 rfl ?_
            refine g_iadd h dX10_placesOf_76 ?_
            refine m_iald h 32 rfl rfl 192 rfl dX10_placesOf_77 ?_
            refine g_iand h dX10_placesOf_78 ?_
            refine g_bndi (fun v4_79 => ?_)
            refine g_istore h [(4, .int v4_79), (0, .ref h0), (1, .int a1), (2, .int a2), (3, .int l3), (5, .int l5)] dX10_placesOf_79 (by decide) rfl ?_
            refine g_lv [(0, .ref h0), (1, .int a1), (2, .int a2), (3, .int l3), (4, .int v4_79), (5, .int l5)] [1, 2, 3, 4, 0, 5] rfl ?_
            exact M_placesOf_B81_w h hE hkw hKs _ _ _ _ _ _ (ih) hk87
def M_placesOf_B87 (s0 : Ms) (l4 : Int32) : Option (Int32) :=
  some l4
set_option maxHeartbeats 4000000 in
set_option maxRecDepth 100000 in
theorem M_placesOf_B87_w {p : Program} {l : Launch} {e : Env} {s : State} {m : MethodId} {args : Array Value} {below : List Frame} {meth : Method} {c : Code} {A : Nat → Prop} {Ke : State → Prop} {D : va_G} {cI cZ : ClassId} {E : State → Heap → Prop} {h0 : Nat} {ps : Nat → Nat} (h : gOk p s m args meth c cX10_placesOf 6 RX10 tb) (hE : mEok E A) (hkw : gKw Ke) (hKs : Ke s) (s0 : Ms) (l4 : Int32) (hr : meth.sig.returnType = some .int)  : gS p l e rm_X10_placesOf s m args below meth c 6 A (MW D cI cZ E A h0 ps) (fun X => MQ below (gPi (MW D cI cZ E A h0 ps) A (X, s0)) args s rm_X10_placesOf.cells rm_X10_placesOf.slots A) 0 0 (M_placesOf_B87 s0 l4) s0 87 [(4, .int l4)] [] := by
  unfold M_placesOf_B87
  refine g_iload h 0 dX10_placesOf_87 rfl ?_
  exact g_iretp h (MW_mv hE) hr (Nat.le_refl _) (Nat.le_refl _) dX10_placesOf_89
def M_placesOf (s0 : Ms) (a1 : Int32) (a2 : Int32) : Option (Int32) :=
  (M_force s0 (s0.1 1)).bind (fun r_5 =>
  M_placesOf_L16 s0 a1 a2 r_5 (fun v4_87 => M_placesOf_B87 s0 v4_87) gF (15 : Int32) (0 : Int32))
set_option maxHeartbeats 4000000 in
set_option maxRecDepth 100000 in
theorem c_X10_placesOf {l : Launch} {A : Nat → Prop} {Ke : State → Prop} {D : va_G} {cI cZ : ClassId} {E : State → Heap → Prop} {h0 : Nat} {ps : Nat → Nat} (hE : mEok E A) (hkw : gKw Ke) (s0 : Ms) (a1 : Int32) (a2 : Int32) : gCp l yX10_placesOf cX10_placesOf 6 (some .int) rm_X10_placesOf Ke (MW D cI cZ E A h0 ps) A [.ref h0, .int a1, .int a2] s0 (M_placesOf s0 a1 a2) := by
  refine g_metp (by decide) (by simp [lg_sl, Value.category]) ?_
  intro p e s m below meth c h hr hKs
  refine g_lv [(0, .ref h0), (1, .int a1), (2, .int a2)] [0, 1, 2] rfl ?_
  unfold M_placesOf
  refine g_aload_n h 0 dX10_placesOf_0 rfl ?_
  refine g_aload_n h 0 dX10_placesOf_1 rfl ?_
  refine m_get h hinX10 1 (by decide) rfl tW_907 dX10_placesOf_2 ?_
  refine g_callV0p h (MW_mv hE) hkw hKs [.int (s0.1 1)] (c_X10_force hE hkw s0 (s0.1 1)) yk_X10_force tW_1244 ⟨(Nat.le_of_ble_eq_true rfl), (Nat.le_of_ble_eq_true rfl)⟩ MW_recv rfl rfl rfl rfl (Nat.le_of_ble_eq_true rfl) dX10_placesOf_5 ⟨Nat.zero_le _, Nat.zero_le _⟩ (fun r_5 => ?_)
  refine g_istore_n h [(3, .int r_5), (0, .ref h0), (1, .int a1), (2, .int a2)] dX10_placesOf_8 (by decide) rfl ?_
  refine g_bipush (v := 15) h dX10_placesOf_9 (by decide) ?_
  refine g_istore h [(4, .int (15 : Int32)), (3, .int r_5), (0, .ref h0), (1, .int a1), (2, .int a2)] dX10_placesOf_11 (by decide) rfl ?_
  refine g_iconst (v := 0) h dX10_placesOf_13 (by decide) ?_
  refine g_istore h [(5, .int (0 : Int32)), (4, .int (15 : Int32)), (3, .int r_5), (0, .ref h0), (1, .int a1), (2, .int a2)] dX10_placesOf_14 (by decide) rfl ?_
  refine g_lv [(0, .ref h0), (1, .int a1), (2, .int a2), (3, .int r_5), (4, .int (15 : Int32)), (5, .int (0 : Int32))] [3, 4, 5, 2, 1, 0] rfl ?_
  refine M_placesOf_L16_w h hE hkw hKs _ _ _ _ (fun v4_87 => ?_) _ _ _
  · exact M_placesOf_B87_w h hE hkw hKs _ _ hr
def rm_X10_copy : Room := { frames := 2, cells := 0, slots := 0, locals := 52 }
theorem yk_X10_copy : yOkV yX10_copy cX10_copy 5 (some .boolean) RX10 3 := ⟨tW_1233, tW_5, tW_1231, tW_1232, by decide, by decide, by decide +kernel⟩
def M_copy_B27 (s0 : Ms)  : Option (Int32 × Ms) :=
  bi (M_fail s0 (1 : Int32)) (fun r_29 s_29 =>
  some ((0 : Int32), s_29))
set_option maxHeartbeats 4000000 in
set_option maxRecDepth 100000 in
theorem M_copy_B27_w {p : Program} {l : Launch} {e : Env} {s : State} {m : MethodId} {args : Array Value} {below : List Frame} {meth : Method} {c : Code} {A : Nat → Prop} {Ke : State → Prop} {D : va_G} {cI cZ : ClassId} {E : State → Heap → Prop} {h0 : Nat} {ps : Nat → Nat} (h : gOk p s m args meth c cX10_copy 5 RX10 tb) (hE : mEok E A) (hkw : gKw Ke) (hKs : Ke s) (s0 : Ms)  (hr : meth.sig.returnType = some .boolean)  : gS p l e rm_X10_copy s m args below meth c 5 A (MW D cI cZ E A h0 ps) (fun X => MQ below (gPi (MW D cI cZ E A h0 ps) A X) args s rm_X10_copy.cells rm_X10_copy.slots A) 0 0 (M_copy_B27 s0) s0 27 [(0, .ref h0)] [] := by
  unfold M_copy_B27
  refine g_aload_n h 0 dX10_copy_27 rfl ?_
  refine g_iconst (v := 1) h dX10_copy_28 (by decide) ?_
  refine g_callV0i h (MW_mv hE) hkw hKs [.int (1 : Int32)] (c_X10_fail hE hkw s0 (1 : Int32)) yk_X10_fail tW_1111 ⟨(Nat.le_of_ble_eq_true rfl), (Nat.le_of_ble_eq_true rfl)⟩ MW_recv rfl rfl rfl rfl (Nat.le_of_ble_eq_true rfl) dX10_copy_29 ⟨Nat.zero_le _, Nat.zero_le _⟩ (fun r_29 s_29 => ?_)
  refine g_pop h dX10_copy_32 rfl ?_
  refine g_iconst (v := 0) h dX10_copy_33 (by decide) ?_
  exact g_zret h (MW_mv hE) hr (Nat.le_refl _) (Nat.le_refl _) (by decide) dX10_copy_34
def M_copy_B71 (s0 : Ms)  : Option (Int32 × Ms) :=
  some ((0 : Int32), s0)
set_option maxHeartbeats 4000000 in
set_option maxRecDepth 100000 in
theorem M_copy_B71_w {p : Program} {l : Launch} {e : Env} {s : State} {m : MethodId} {args : Array Value} {below : List Frame} {meth : Method} {c : Code} {A : Nat → Prop} {Ke : State → Prop} {D : va_G} {cI cZ : ClassId} {E : State → Heap → Prop} {h0 : Nat} {ps : Nat → Nat} (h : gOk p s m args meth c cX10_copy 5 RX10 tb) (hE : mEok E A) (hkw : gKw Ke) (hKs : Ke s) (s0 : Ms)  (hr : meth.sig.returnType = some .boolean)  : gS p l e rm_X10_copy s m args below meth c 5 A (MW D cI cZ E A h0 ps) (fun X => MQ below (gPi (MW D cI cZ E A h0 ps) A X) args s rm_X10_copy.cells rm_X10_copy.slots A) 0 0 (M_copy_B71 s0) s0 71 [] [] := by
  unfold M_copy_B71
  refine g_iconst (v := 0) h dX10_copy_71 (by decide) ?_
  exact g_zret h (MW_mv hE) hr (Nat.le_refl _) (Nat.le_refl _) (by decide) dX10_copy_72
def M_copy (s0 : Ms) (a1 : Int32) (a2 : Int32) (a3 : Int32) : Option (Int32 × Ms) :=
  bnd (mSet s0 0 (0 : Int32)) (fun s_2 =>
  (M_isThing s_2 a1).bind (fun r_7 =>
  if r_7 = 0 then
    M_copy_B27 s_2
  else
    (M_isField s_2 a2).bind (fun r_14 =>
    if r_14 = 0 then
      M_copy_B27 s_2
    else
      (M_isStore s_2 a3).bind (fun r_21 =>
      if r_21 = 0 then
        M_copy_B27 s_2
      else
        bnd (((8 : Int32) * a1) + a2) (fun v4_41 =>
        if okI v4_41 240 = true then
        if ((s_2.2 12 v4_41.toNatClampNeg) >>> (a3 &&& 31)) &&& (1 : Int32) = (1 : Int32) then
          M_copy_B71 s_2
        else
          (M_placesOf s_2 a1 a2).bind (fun r_61 =>
          if (r_61 >>> (a3 &&& 31)) &&& (1 : Int32) = 0 then
            M_copy_B71 s_2
          else
            if okI v4_41 240 = true then
            if okI v4_41 240 = true then
            bnd (mSto s_2 12 v4_41.toNatClampNeg ((s_2.2 12 v4_41.toNatClampNeg) ||| ((1 : Int32) <<< (a3 &&& 31)))) (fun s_85 =>
            some ((1 : Int32), s_85))
            else none
            else none)
        else none)))))
set_option maxHeartbeats 4000000 in
set_option maxRecDepth 100000 in
theorem c_X10_copy {l : Launch} {A : Nat → Prop} {Ke : State → Prop} {D : va_G} {cI cZ : ClassId} {E : State → Heap → Prop} {h0 : Nat} {ps : Nat → Nat} (hE : mEok E A) (hkw : gKw Ke) (s0 : Ms) (a1 : Int32) (a2 : Int32) (a3 : Int32) : gCi l yX10_copy cX10_copy 5 (some .boolean) rm_X10_copy Ke (MW D cI cZ E A h0 ps) A [.ref h0, .int a1, .int a2, .int a3] s0 (M_copy s0 a1 a2 a3) := by
  refine g_meti (by decide) (by simp [lg_sl, Value.category]) ?_
  intro p e s m below meth c h hr hKs
  refine g_lv [(0, .ref h0), (1, .int a1), (2, .int a2), (3, .int a3)] [0, 1, 2, 3] rfl ?_
  unfold M_copy
  refine g_aload_n h 0 dX10_copy_0 rfl ?_
  refine g_iconst (v := 0) h dX10_copy_1 (by decide) ?_
  refine m_put h hE hinX10 0 (by decide) rfl rfl rfl tW_906 dX10_copy_2 ?_
  refine g_bnd (fun s_2 => ?_)
  refine g_aload_n h 0 dX10_copy_5 rfl ?_
  refine g_iload_n h 1 dX10_copy_6 rfl ?_
  refine g_callV0p h (MW_mv hE) hkw hKs [.int a1] (c_X10_isThing hE hkw s_2 a1) yk_X10_isThing tW_1222 ⟨(Nat.le_of_ble_eq_true rfl), (Nat.le_of_ble_eq_true rfl)⟩ MW_recv rfl rfl rfl rfl (Nat.le_of_ble_eq_true rfl) dX10_copy_7 ⟨Nat.zero_le _, Nat.zero_le _⟩ (fun r_7 => ?_)
  refine g_if_eq h 27 dX10_copy_10 (by decide) ?_ ?_
  · refine g_lv [(0, .ref h0)] [0] rfl ?_
    exact M_copy_B27_w h hE hkw hKs _  hr
  · refine g_iload_n h 2 dX10_copy_13 rfl ?_
    refine g_callS0p h (MW_mv hE) hkw hKs [.int a2] (c_X10_isField (MW_mv hE) hkw s_2 a2) yk_X10_isField tW_1234 ⟨(Nat.le_of_ble_eq_true rfl), (Nat.le_of_ble_eq_true rfl)⟩ rfl rfl rfl rfl (Nat.le_of_ble_eq_true rfl) dX10_copy_14 ⟨Nat.zero_le _, Nat.zero_le _⟩ (fun r_14 => ?_)
    refine g_if_eq h 27 dX10_copy_17 (by decide) ?_ ?_
    · refine g_lv [(0, .ref h0)] [0] rfl ?_
      exact M_copy_B27_w h hE hkw hKs _  hr
    · refine g_iload_n h 3 dX10_copy_20 rfl ?_
      refine g_callS0p h (MW_mv hE) hkw hKs [.int a3] (c_X10_isStore (MW_mv hE) hkw s_2 a3) yk_X10_isStore tW_1237 ⟨(Nat.le_of_ble_eq_true rfl), (Nat.le_of_ble_eq_true rfl)⟩ rfl rfl rfl rfl (Nat.le_of_ble_eq_true rfl) dX10_copy_21 ⟨Nat.zero_le _, Nat.zero_le _⟩ (fun r_21 => ?_)
      refine g_if_ne h 35 dX10_copy_24 (by decide) ?_ ?_
      · refine g_bipush (v := 8) h dX10_copy_35 (by decide) ?_
        refine g_iload_n h 1 dX10_copy_37 rfl ?_
        refine g_imul h dX10_copy_38 ?_
        refine g_iload_n h 2 dX10_copy_39 rfl ?_
        refine g_iadd h dX10_copy_40 ?_
        refine g_bndi (fun v4_41 => ?_)
        refine g_istore h [(4, .int v4_41), (0, .ref h0), (1, .int a1), (2, .int a2), (3, .int a3)] dX10_copy_41 (by decide) rfl ?_
        refine g_aload_n h 1 dX10_copy_43 rfl ?_
        refine m_geta h hinX10 12 (by decide) rfl tW_918 dX10_copy_44 ?_
        refine g_iload h 0 dX10_copy_47 rfl ?_
        refine m_iald h 12 rfl rfl 240 rfl dX10_copy_49 ?_
        refine g_iload_n h 4 dX10_copy_50 rfl ?_
        refine g_ishr h dX10_copy_51 ?_
        refine g_iconst (v := 1) h dX10_copy_52 (by decide) ?_
        refine g_iand h dX10_copy_53 ?_
        refine g_iconst (v := 1) h dX10_copy_54 (by decide) ?_
        refine g_icmp_eq h 71 dX10_copy_55 (by decide) ?_ ?_
        · refine g_lv [] [] rfl ?_
          exact M_copy_B71_w h hE hkw hKs _  hr
        · refine g_aload_n h 1 dX10_copy_58 rfl ?_
          refine g_iload_n h 2 dX10_copy_59 rfl ?_
          refine g_iload_n h 3 dX10_copy_60 rfl ?_
          refine g_callV0p h (MW_mv hE) hkw hKs [.int a1, .int a2] (c_X10_placesOf hE hkw s_2 a1 a2) yk_X10_placesOf tW_1240 ⟨(Nat.le_of_ble_eq_true rfl), (Nat.le_of_ble_eq_true rfl)⟩ MW_recv rfl rfl rfl rfl (Nat.le_of_ble_eq_true rfl) dX10_copy_61 ⟨Nat.zero_le _, Nat.zero_le _⟩ (fun r_61 => ?_)
          refine g_iload_n h 4 dX10_copy_64 rfl ?_
          refine g_ishr h dX10_copy_65 ?_
          refine g_iconst (v := 1) h dX10_copy_66 (by decide) ?_
          refine g_iand h dX10_copy_67 ?_
          refine g_if_ne h 73 dX10_copy_68 (by decide) ?_ ?_
          · refine g_aload_n h 1 dX10_copy_73 rfl ?_
            refine m_geta h hinX10 12 (by decide) rfl tW_918 dX10_copy_74 ?_
            refine g_iload h 0 dX10_copy_77 rfl ?_
            refine g_dup2 h dX10_copy_79 rfl rfl ?_
            refine m_iald h 12 rfl rfl 240 rfl dX10_copy_80 ?_
            refine g_iconst (v := 1) h dX10_copy_81 (by decide) ?_
            refine g_iload_n h 4 dX10_copy_82 rfl ?_
            refine g_ishl h dX10_copy_83 ?_
            refine g_ior h dX10_copy_84 ?_
            refine m_iast h hE 12 rfl rfl 240 rfl dX10_copy_85 ?_
            refine g_bnd (fun s_85 => ?_)
            refine g_iconst (v := 1) h dX10_copy_86 (by decide) ?_
            exact g_zret h (MW_mv hE) hr (Nat.le_refl _) (Nat.le_refl _) (by decide) dX10_copy_87
          · refine g_lv [] [] rfl ?_
            exact M_copy_B71_w h hE hkw hKs _  hr
      · refine g_lv [(0, .ref h0)] [0] rfl ?_
        exact M_copy_B27_w h hE hkw hKs _  hr
def rm_X10_copies : Room := { frames := 1, cells := 0, slots := 0, locals := 21 }
theorem yk_X10_copies : yOkV yX10_copies cX10_copies 3 (some .int) RX10 2 := ⟨tW_1255, tW_5, tW_1253, tW_1254, by decide, by decide, by decide +kernel⟩
def M_copies_B39 (s0 : Ms) (t0 : Int32) : Option (Int32 × Ms) :=
  some (t0, s0)
set_option maxHeartbeats 4000000 in
set_option maxRecDepth 100000 in
theorem M_copies_B39_w {p : Program} {l : Launch} {e : Env} {s : State} {m : MethodId} {args : Array Value} {below : List Frame} {meth : Method} {c : Code} {A : Nat → Prop} {Ke : State → Prop} {D : va_G} {cI cZ : ClassId} {E : State → Heap → Prop} {h0 : Nat} {ps : Nat → Nat} (h : gOk p s m args meth c cX10_copies 3 RX10 tb) (hE : mEok E A) (hkw : gKw Ke) (hKs : Ke s) (s0 : Ms) (t0 : Int32) (hr : meth.sig.returnType = some .int)  : gS p l e rm_X10_copies s m args below meth c 3 A (MW D cI cZ E A h0 ps) (fun X => MQ below (gPi (MW D cI cZ E A h0 ps) A X) args s rm_X10_copies.cells rm_X10_copies.slots A) 0 0 (M_copies_B39 s0 t0) s0 39 [] [.int t0] := by
  unfold M_copies_B39
  exact g_iret h (MW_mv hE) hr (Nat.le_refl _) (Nat.le_refl _) dX10_copies_39
def M_copies_B34 (s0 : Ms)  : Option (Int32 × Ms) :=
  bi (M_fail s0 (1 : Int32)) (fun r_36 s_36 =>
  M_copies_B39 s_36 r_36)
set_option maxHeartbeats 4000000 in
set_option maxRecDepth 100000 in
theorem M_copies_B34_w {p : Program} {l : Launch} {e : Env} {s : State} {m : MethodId} {args : Array Value} {below : List Frame} {meth : Method} {c : Code} {A : Nat → Prop} {Ke : State → Prop} {D : va_G} {cI cZ : ClassId} {E : State → Heap → Prop} {h0 : Nat} {ps : Nat → Nat} (h : gOk p s m args meth c cX10_copies 3 RX10 tb) (hE : mEok E A) (hkw : gKw Ke) (hKs : Ke s) (s0 : Ms)  (hr : meth.sig.returnType = some .int)  : gS p l e rm_X10_copies s m args below meth c 3 A (MW D cI cZ E A h0 ps) (fun X => MQ below (gPi (MW D cI cZ E A h0 ps) A X) args s rm_X10_copies.cells rm_X10_copies.slots A) 0 0 (M_copies_B34 s0) s0 34 [(0, .ref h0)] [] := by
  unfold M_copies_B34
  refine g_aload_n h 0 dX10_copies_34 rfl ?_
  refine g_iconst (v := 1) h dX10_copies_35 (by decide) ?_
  refine g_callV0i h (MW_mv hE) hkw hKs [.int (1 : Int32)] (c_X10_fail hE hkw s0 (1 : Int32)) yk_X10_fail tW_1111 ⟨(Nat.le_of_ble_eq_true rfl), (Nat.le_of_ble_eq_true rfl)⟩ MW_recv rfl rfl rfl rfl (Nat.le_of_ble_eq_true rfl) dX10_copies_36 ⟨Nat.zero_le _, Nat.zero_le _⟩ (fun r_36 s_36 => ?_)
  refine g_lv [] [] rfl ?_
  exact M_copies_B39_w h hE hkw hKs _ _ hr
def M_copies (s0 : Ms) (a1 : Int32) (a2 : Int32) : Option (Int32 × Ms) :=
  bnd (mSet s0 0 (0 : Int32)) (fun s_2 =>
  (M_isThing s_2 a1).bind (fun r_7 =>
  if r_7 = 0 then
    M_copies_B34 s_2
  else
    (M_isField s_2 a2).bind (fun r_14 =>
    if r_14 = 0 then
      M_copies_B34 s_2
    else
      if okI (((8 : Int32) * a1) + a2) 240 = true then
      M_copies_B39 s_2 (s_2.2 12 (((8 : Int32) * a1) + a2).toNatClampNeg)
      else none)))
set_option maxHeartbeats 4000000 in
set_option maxRecDepth 100000 in
theorem c_X10_copies {l : Launch} {A : Nat → Prop} {Ke : State → Prop} {D : va_G} {cI cZ : ClassId} {E : State → Heap → Prop} {h0 : Nat} {ps : Nat → Nat} (hE : mEok E A) (hkw : gKw Ke) (s0 : Ms) (a1 : Int32) (a2 : Int32) : gCi l yX10_copies cX10_copies 3 (some .int) rm_X10_copies Ke (MW D cI cZ E A h0 ps) A [.ref h0, .int a1, .int a2] s0 (M_copies s0 a1 a2) := by
  refine g_meti (by decide) (by simp [lg_sl, Value.category]) ?_
  intro p e s m below meth c h hr hKs
  refine g_lv [(0, .ref h0), (1, .int a1), (2, .int a2)] [0, 1, 2] rfl ?_
  unfold M_copies
  refine g_aload_n h 0 dX10_copies_0 rfl ?_
  refine g_iconst (v := 0) h dX10_copies_1 (by decide) ?_
  refine m_put h hE hinX10 0 (by decide) rfl rfl rfl tW_906 dX10_copies_2 ?_
  refine g_bnd (fun s_2 => ?_)
  refine g_aload_n h 0 dX10_copies_5 rfl ?_
  refine g_iload_n h 1 dX10_copies_6 rfl ?_
  refine g_callV0p h (MW_mv hE) hkw hKs [.int a1] (c_X10_isThing hE hkw s_2 a1) yk_X10_isThing tW_1222 ⟨(Nat.le_of_ble_eq_true rfl), (Nat.le_of_ble_eq_true rfl)⟩ MW_recv rfl rfl rfl rfl (Nat.le_of_ble_eq_true rfl) dX10_copies_7 ⟨Nat.zero_le _, Nat.zero_le _⟩ (fun r_7 => ?_)
  refine g_if_eq h 34 dX10_copies_10 (by decide) ?_ ?_
  · refine g_lv [(0, .ref h0)] [0] rfl ?_
    exact M_copies_B34_w h hE hkw hKs _  hr
  · refine g_iload_n h 2 dX10_copies_13 rfl ?_
    refine g_callS0p h (MW_mv hE) hkw hKs [.int a2] (c_X10_isField (MW_mv hE) hkw s_2 a2) yk_X10_isField tW_1234 ⟨(Nat.le_of_ble_eq_true rfl), (Nat.le_of_ble_eq_true rfl)⟩ rfl rfl rfl rfl (Nat.le_of_ble_eq_true rfl) dX10_copies_14 ⟨Nat.zero_le _, Nat.zero_le _⟩ (fun r_14 => ?_)
    refine g_if_eq h 34 dX10_copies_17 (by decide) ?_ ?_
    · refine g_lv [(0, .ref h0)] [0] rfl ?_
      exact M_copies_B34_w h hE hkw hKs _  hr
    · refine g_aload_n h 0 dX10_copies_20 rfl ?_
      refine m_geta h hinX10 12 (by decide) rfl tW_918 dX10_copies_21 ?_
      refine g_bipush (v := 8) h dX10_copies_24 (by decide) ?_
      refine g_iload_n h 1 dX10_copies_26 rfl ?_
      refine g_imul h dX10_copies_27 ?_
      refine g_iload_n h 2 dX10_copies_28 rfl ?_
      refine g_iadd h dX10_copies_29 ?_
      refine m_iald h 12 rfl rfl 240 rfl dX10_copies_30 ?_
      refine g_goto h 39 dX10_copies_31 (by decide) ?_
      refine g_lv [] [] rfl ?_
      exact M_copies_B39_w h hE hkw hKs _ _ hr
def rm_X10_store : Room := { frames := 1, cells := 0, slots := 0, locals := 20 }
theorem yk_X10_store : yOkV yX10_store cX10_store 4 (none) RX10 3 := ⟨tW_1259, tW_5, tW_1257, tW_1258, by decide, by decide, by decide +kernel⟩
def M_store_B41 (s0 : Ms)  : Option (Ms) :=
  bnd (mSet s0 0 (2 : Int32)) (fun s_43 =>
  some s_43)
set_option maxHeartbeats 4000000 in
set_option maxRecDepth 100000 in
theorem M_store_B41_w {p : Program} {l : Launch} {e : Env} {s : State} {m : MethodId} {args : Array Value} {below : List Frame} {meth : Method} {c : Code} {A : Nat → Prop} {Ke : State → Prop} {D : va_G} {cI cZ : ClassId} {E : State → Heap → Prop} {h0 : Nat} {ps : Nat → Nat} (h : gOk p s m args meth c cX10_store 4 RX10 tb) (hE : mEok E A) (hkw : gKw Ke) (hKs : Ke s) (s0 : Ms)  (hr : meth.sig.returnType = none)  : gS p l e rm_X10_store s m args below meth c 4 A (MW D cI cZ E A h0 ps) (fun X => MQ below (gPv (MW D cI cZ E A h0 ps) A X) args s rm_X10_store.cells rm_X10_store.slots A) 0 0 (M_store_B41 s0) s0 41 [(0, .ref h0)] [] := by
  unfold M_store_B41
  refine g_aload_n h 0 dX10_store_41 rfl ?_
  refine g_iconst (v := 2) h dX10_store_42 (by decide) ?_
  refine m_put h hE hinX10 0 (by decide) rfl rfl rfl tW_906 dX10_store_43 ?_
  refine g_bnd (fun s_43 => ?_)
  exact g_vret h (MW_mv hE) hr (Nat.le_refl _) (Nat.le_refl _) dX10_store_46
def M_store (s0 : Ms) (a1 : Int32) (a2 : Int32) (a3 : Int32) : Option (Ms) :=
  bnd (mSet s0 0 (0 : Int32)) (fun s_2 =>
  (M_isStore s_2 a1).bind (fun r_6 =>
  if r_6 = 0 then
    bnd (mSet s_2 0 (1 : Int32)) (fun s_14 =>
    some s_14)
  else
    if a2 < (1 : Int32) then
      M_store_B41 s_2
    else
      if (400 : Int32) < a2 then
        M_store_B41 s_2
      else
        if a3 < 0 then
          M_store_B41 s_2
        else
          if a3 ≤ (399 : Int32) then
            if okI a1 4 = true then
            bnd (mSto s_2 14 a1.toNatClampNeg a2) (fun s_53 =>
            if okI a1 4 = true then
            bnd (mSto s_53 15 a1.toNatClampNeg a3) (fun s_60 =>
            some s_60)
            else none)
            else none
          else
            M_store_B41 s_2))
set_option maxHeartbeats 4000000 in
set_option maxRecDepth 100000 in
theorem c_X10_store {l : Launch} {A : Nat → Prop} {Ke : State → Prop} {D : va_G} {cI cZ : ClassId} {E : State → Heap → Prop} {h0 : Nat} {ps : Nat → Nat} (hE : mEok E A) (hkw : gKw Ke) (s0 : Ms) (a1 : Int32) (a2 : Int32) (a3 : Int32) : gCv l yX10_store cX10_store 4 (none) rm_X10_store Ke (MW D cI cZ E A h0 ps) A [.ref h0, .int a1, .int a2, .int a3] s0 (M_store s0 a1 a2 a3) := by
  refine g_metv (by decide) (by simp [lg_sl, Value.category]) ?_
  intro p e s m below meth c h hr hKs
  refine g_lv [(0, .ref h0), (1, .int a1), (2, .int a2), (3, .int a3)] [0, 1, 2, 3] rfl ?_
  unfold M_store
  refine g_aload_n h 0 dX10_store_0 rfl ?_
  refine g_iconst (v := 0) h dX10_store_1 (by decide) ?_
  refine m_put h hE hinX10 0 (by decide) rfl rfl rfl tW_906 dX10_store_2 ?_
  refine g_bnd (fun s_2 => ?_)
  refine g_iload_n h 1 dX10_store_5 rfl ?_
  refine g_callS0p h (MW_mv hE) hkw hKs [.int a1] (c_X10_isStore (MW_mv hE) hkw s_2 a1) yk_X10_isStore tW_1237 ⟨(Nat.le_of_ble_eq_true rfl), (Nat.le_of_ble_eq_true rfl)⟩ rfl rfl rfl rfl (Nat.le_of_ble_eq_true rfl) dX10_store_6 ⟨Nat.zero_le _, Nat.zero_le _⟩ (fun r_6 => ?_)
  refine g_if_ne h 18 dX10_store_9 (by decide) ?_ ?_
  · refine g_iload_n h 2 dX10_store_18 rfl ?_
    refine g_iconst (v := 1) h dX10_store_19 (by decide) ?_
    refine g_icmp_lt h 41 dX10_store_20 (by decide) ?_ ?_
    · refine g_lv [(0, .ref h0)] [0] rfl ?_
      exact M_store_B41_w h hE hkw hKs _  hr
    · refine g_iload_n h 2 dX10_store_23 rfl ?_
      refine g_sipush (v := 400) h dX10_store_24 (by decide) ?_
      refine g_icmp_gt h 41 dX10_store_27 (by decide) ?_ ?_
      · refine g_lv [(0, .ref h0)] [0] rfl ?_
        exact M_store_B41_w h hE hkw hKs _  hr
      · refine g_iload_n h 3 dX10_store_30 rfl ?_
        refine g_if_lt h 41 dX10_store_31 (by decide) ?_ ?_
        · refine g_lv [(0, .ref h0)] [0] rfl ?_
          exact M_store_B41_w h hE hkw hKs _  hr
        · refine g_iload_n h 3 dX10_store_34 rfl ?_
          refine g_sipush (v := 399) h dX10_store_35 (by decide) ?_
          refine g_icmp_le h 47 dX10_store_38 (by decide) ?_ ?_
          · refine g_aload_n h 0 dX10_store_47 rfl ?_
            refine m_geta h hinX10 14 (by decide) rfl tW_920 dX10_store_48 ?_
            refine g_iload_n h 1 dX10_store_51 rfl ?_
            refine g_iload_n h 2 dX10_store_52 rfl ?_
            refine m_iast h hE 14 rfl rfl 4 rfl dX10_store_53 ?_
            refine g_bnd (fun s_53 => ?_)
            refine g_aload_n h 0 dX10_store_54 rfl ?_
            refine m_geta h hinX10 15 (by decide) rfl tW_921 dX10_store_55 ?_
            refine g_iload_n h 1 dX10_store_58 rfl ?_
            refine g_iload_n h 3 dX10_store_59 rfl ?_
            refine m_iast h hE 15 rfl rfl 4 rfl dX10_store_60 ?_
            refine g_bnd (fun s_60 => ?_)
            exact g_vret h (MW_mv hE) hr (Nat.le_refl _) (Nat.le_refl _) dX10_store_61
          · refine g_lv [(0, .ref h0)] [0] rfl ?_
            exact M_store_B41_w h hE hkw hKs _  hr
  · refine g_aload_n h 0 dX10_store_12 rfl ?_
    refine g_iconst (v := 1) h dX10_store_13 (by decide) ?_
    refine m_put h hE hinX10 0 (by decide) rfl rfl rfl tW_906 dX10_store_14 ?_
    refine g_bnd (fun s_14 => ?_)
    exact g_vret h (MW_mv hE) hr (Nat.le_refl _) (Nat.le_refl _) dX10_store_17
def rm_X10_hold : Room := { frames := 1, cells := 0, slots := 0, locals := 21 }
theorem yk_X10_hold : yOkV yX10_hold cX10_hold 3 (some .int) RX10 2 := ⟨tW_1263, tW_5, tW_1261, tW_1262, by decide, by decide, by decide +kernel⟩
def M_hold_B40 (s0 : Ms)  : Option (Int32 × Ms) :=
  some ((-1 : Int32), s0)
set_option maxHeartbeats 4000000 in
set_option maxRecDepth 100000 in
theorem M_hold_B40_w {p : Program} {l : Launch} {e : Env} {s : State} {m : MethodId} {args : Array Value} {below : List Frame} {meth : Method} {c : Code} {A : Nat → Prop} {Ke : State → Prop} {D : va_G} {cI cZ : ClassId} {E : State → Heap → Prop} {h0 : Nat} {ps : Nat → Nat} (h : gOk p s m args meth c cX10_hold 3 RX10 tb) (hE : mEok E A) (hkw : gKw Ke) (hKs : Ke s) (s0 : Ms)  (hr : meth.sig.returnType = some .int)  : gS p l e rm_X10_hold s m args below meth c 3 A (MW D cI cZ E A h0 ps) (fun X => MQ below (gPi (MW D cI cZ E A h0 ps) A X) args s rm_X10_hold.cells rm_X10_hold.slots A) 0 0 (M_hold_B40 s0) s0 40 [] [] := by
  unfold M_hold_B40
  refine g_iconst (v := -1) h dX10_hold_40 (by decide) ?_
  exact g_iret h (MW_mv hE) hr (Nat.le_refl _) (Nat.le_refl _) dX10_hold_41
def M_hold (s0 : Ms) (a1 : Int32) (a2 : Int32) : Option (Int32 × Ms) :=
  bnd (mSet s0 0 (0 : Int32)) (fun s_2 =>
  (M_isThing s_2 a1).bind (fun r_7 =>
  if r_7 = 0 then
    bi (M_fail s_2 (1 : Int32)) (fun r_15 s_15 =>
    some (r_15, s_15))
  else
    if s_2.1 4 = (40 : Int32) then
      M_hold_B40 s_2
    else
      if a2 < (1 : Int32) then
        M_hold_B40 s_2
      else
        if a2 ≤ (255 : Int32) then
          if okI (s_2.1 4) 40 = true then
          bnd (mSto s_2 16 (s_2.1 4).toNatClampNeg a1) (fun s_51 =>
          if okI (s_51.1 4) 40 = true then
          bnd (mSto s_51 17 (s_51.1 4).toNatClampNeg a2) (fun s_61 =>
          if okI a1 30 = true then
          if okI a1 30 = true then
          bnd (mSto s_61 59 a1.toNatClampNeg ((s_61.2 59 a1.toNatClampNeg) ||| a2)) (fun s_71 =>
          bnd (mSet s_71 4 ((s_71.1 4) + (1 : Int32))) (fun s_79 =>
          some ((s_79.1 4) - (1 : Int32), s_79)))
          else none
          else none)
          else none)
          else none
        else
          M_hold_B40 s_2))
set_option maxHeartbeats 4000000 in
set_option maxRecDepth 100000 in
theorem c_X10_hold {l : Launch} {A : Nat → Prop} {Ke : State → Prop} {D : va_G} {cI cZ : ClassId} {E : State → Heap → Prop} {h0 : Nat} {ps : Nat → Nat} (hE : mEok E A) (hkw : gKw Ke) (s0 : Ms) (a1 : Int32) (a2 : Int32) : gCi l yX10_hold cX10_hold 3 (some .int) rm_X10_hold Ke (MW D cI cZ E A h0 ps) A [.ref h0, .int a1, .int a2] s0 (M_hold s0 a1 a2) := by
  refine g_meti (by decide) (by simp [lg_sl, Value.category]) ?_
  intro p e s m below meth c h hr hKs
  refine g_lv [(0, .ref h0), (1, .int a1), (2, .int a2)] [0, 1, 2] rfl ?_
  unfold M_hold
  refine g_aload_n h 0 dX10_hold_0 rfl ?_
  refine g_iconst (v := 0) h dX10_hold_1 (by decide) ?_
  refine m_put h hE hinX10 0 (by decide) rfl rfl rfl tW_906 dX10_hold_2 ?_
  refine g_bnd (fun s_2 => ?_)
  refine g_aload_n h 0 dX10_hold_5 rfl ?_
  refine g_iload_n h 1 dX10_hold_6 rfl ?_
  refine g_callV0p h (MW_mv hE) hkw hKs [.int a1] (c_X10_isThing hE hkw s_2 a1) yk_X10_isThing tW_1222 ⟨(Nat.le_of_ble_eq_true rfl), (Nat.le_of_ble_eq_true rfl)⟩ MW_recv rfl rfl rfl rfl (Nat.le_of_ble_eq_true rfl) dX10_hold_7 ⟨Nat.zero_le _, Nat.zero_le _⟩ (fun r_7 => ?_)
  refine g_if_ne h 19 dX10_hold_10 (by decide) ?_ ?_
  · refine g_aload_n h 0 dX10_hold_19 rfl ?_
    refine m_get h hinX10 4 (by decide) rfl tW_910 dX10_hold_20 ?_
    refine g_bipush (v := 40) h dX10_hold_23 (by decide) ?_
    refine g_icmp_eq h 40 dX10_hold_25 (by decide) ?_ ?_
    · refine g_lv [] [] rfl ?_
      exact M_hold_B40_w h hE hkw hKs _  hr
    · refine g_iload_n h 2 dX10_hold_28 rfl ?_
      refine g_iconst (v := 1) h dX10_hold_29 (by decide) ?_
      refine g_icmp_lt h 40 dX10_hold_30 (by decide) ?_ ?_
      · refine g_lv [] [] rfl ?_
        exact M_hold_B40_w h hE hkw hKs _  hr
      · refine g_iload_n h 2 dX10_hold_33 rfl ?_
        refine g_sipush (v := 255) h dX10_hold_34 (by decide) ?_
        refine g_icmp_le h 42 dX10_hold_37 (by decide) ?_ ?_
        · refine g_aload_n h 0 dX10_hold_42 rfl ?_
          refine m_geta h hinX10 16 (by decide) rfl tW_922 dX10_hold_43 ?_
          refine g_aload_n h 0 dX10_hold_46 rfl ?_
          refine m_get h hinX10 4 (by decide) rfl tW_910 dX10_hold_47 ?_
          refine g_iload_n h 1 dX10_hold_50 rfl ?_
          refine m_iast h hE 16 rfl rfl 40 rfl dX10_hold_51 ?_
          refine g_bnd (fun s_51 => ?_)
          refine g_aload_n h 0 dX10_hold_52 rfl ?_
          refine m_geta h hinX10 17 (by decide) rfl tW_923 dX10_hold_53 ?_
          refine g_aload_n h 0 dX10_hold_56 rfl ?_
          refine m_get h hinX10 4 (by decide) rfl tW_910 dX10_hold_57 ?_
          refine g_iload_n h 2 dX10_hold_60 rfl ?_
          refine m_iast h hE 17 rfl rfl 40 rfl dX10_hold_61 ?_
          refine g_bnd (fun s_61 => ?_)
          refine g_aload_n h 0 dX10_hold_62 rfl ?_
          refine m_geta h hinX10 59 (by decide) rfl tW_965 dX10_hold_63 ?_
          refine g_iload_n h 1 dX10_hold_66 rfl ?_
          refine g_dup2 h dX10_hold_67 rfl rfl ?_
          refine m_iald h 59 rfl rfl 30 rfl dX10_hold_68 ?_
          refine g_iload_n h 2 dX10_hold_69 rfl ?_
          refine g_ior h dX10_hold_70 ?_
          refine m_iast h hE 59 rfl rfl 30 rfl dX10_hold_71 ?_
          refine g_bnd (fun s_71 => ?_)
          refine g_aload_n h 0 dX10_hold_72 rfl ?_
          refine g_dup h dX10_hold_73 rfl ?_
          refine m_get h hinX10 4 (by decide) rfl tW_910 dX10_hold_74 ?_
          refine g_iconst (v := 1) h dX10_hold_77 (by decide) ?_
          refine g_iadd h dX10_hold_78 ?_
          refine m_put h hE hinX10 4 (by decide) rfl rfl rfl tW_910 dX10_hold_79 ?_
          refine g_bnd (fun s_79 => ?_)
          refine g_aload_n h 0 dX10_hold_82 rfl ?_
          refine m_get h hinX10 4 (by decide) rfl tW_910 dX10_hold_83 ?_
          refine g_iconst (v := 1) h dX10_hold_86 (by decide) ?_
          refine g_isub h dX10_hold_87 ?_
          exact g_iret h (MW_mv hE) hr (Nat.le_refl _) (Nat.le_refl _) dX10_hold_88
        · refine g_lv [] [] rfl ?_
          exact M_hold_B40_w h hE hkw hKs _  hr
  · refine g_aload_n h 0 dX10_hold_13 rfl ?_
    refine g_iconst (v := 1) h dX10_hold_14 (by decide) ?_
    refine g_callV0i h (MW_mv hE) hkw hKs [.int (1 : Int32)] (c_X10_fail hE hkw s_2 (1 : Int32)) yk_X10_fail tW_1111 ⟨(Nat.le_of_ble_eq_true rfl), (Nat.le_of_ble_eq_true rfl)⟩ MW_recv rfl rfl rfl rfl (Nat.le_of_ble_eq_true rfl) dX10_hold_15 ⟨Nat.zero_le _, Nat.zero_le _⟩ (fun r_15 s_15 => ?_)
    exact g_iret h (MW_mv hE) hr (Nat.le_refl _) (Nat.le_refl _) dX10_hold_18
def rm_X10_lift : Room := { frames := 1, cells := 0, slots := 0, locals := 21 }
theorem yk_X10_lift : yOkV yX10_lift cX10_lift 4 (some .boolean) RX10 1 := ⟨tW_1267, tW_5, tW_1265, tW_1266, by decide, by decide, by decide +kernel⟩
def M_lift_B17 (s0 : Ms)  : Option (Int32 × Ms) :=
  bi (M_fail s0 (1 : Int32)) (fun r_19 s_19 =>
  some ((0 : Int32), s_19))
set_option maxHeartbeats 4000000 in
set_option maxRecDepth 100000 in
theorem M_lift_B17_w {p : Program} {l : Launch} {e : Env} {s : State} {m : MethodId} {args : Array Value} {below : List Frame} {meth : Method} {c : Code} {A : Nat → Prop} {Ke : State → Prop} {D : va_G} {cI cZ : ClassId} {E : State → Heap → Prop} {h0 : Nat} {ps : Nat → Nat} (h : gOk p s m args meth c cX10_lift 4 RX10 tb) (hE : mEok E A) (hkw : gKw Ke) (hKs : Ke s) (s0 : Ms)  (hr : meth.sig.returnType = some .boolean)  : gS p l e rm_X10_lift s m args below meth c 4 A (MW D cI cZ E A h0 ps) (fun X => MQ below (gPi (MW D cI cZ E A h0 ps) A X) args s rm_X10_lift.cells rm_X10_lift.slots A) 0 0 (M_lift_B17 s0) s0 17 [(0, .ref h0)] [] := by
  unfold M_lift_B17
  refine g_aload_n h 0 dX10_lift_17 rfl ?_
  refine g_iconst (v := 1) h dX10_lift_18 (by decide) ?_
  refine g_callV0i h (MW_mv hE) hkw hKs [.int (1 : Int32)] (c_X10_fail hE hkw s0 (1 : Int32)) yk_X10_fail tW_1111 ⟨(Nat.le_of_ble_eq_true rfl), (Nat.le_of_ble_eq_true rfl)⟩ MW_recv rfl rfl rfl rfl (Nat.le_of_ble_eq_true rfl) dX10_lift_19 ⟨Nat.zero_le _, Nat.zero_le _⟩ (fun r_19 s_19 => ?_)
  refine g_pop h dX10_lift_22 rfl ?_
  refine g_iconst (v := 0) h dX10_lift_23 (by decide) ?_
  exact g_zret h (MW_mv hE) hr (Nat.le_refl _) (Nat.le_refl _) (by decide) dX10_lift_24
def M_lift_B101 {Rt : Type} (s0 : Ms) (rec : Ms → Int32 → Option Rt) (k107 : Ms → Option Rt) (l2 : Int32) (l3 : Int32) : Option (Rt) :=
  rec s0 (l3 + 1)
set_option maxHeartbeats 4000000 in
set_option maxRecDepth 100000 in
theorem M_lift_B101_w {p : Program} {l : Launch} {e : Env} {s : State} {m : MethodId} {args : Array Value} {below : List Frame} {meth : Method} {c : Code} {A : Nat → Prop} {Ke : State → Prop} {D : va_G} {cI cZ : ClassId} {E : State → Heap → Prop} {h0 : Nat} {ps : Nat → Nat} (h : gOk p s m args meth c cX10_lift 4 RX10 tb) (hE : mEok E A) (hkw : gKw Ke) (hKs : Ke s) {Rt : Type} {QX : Rt → State → Prop} {rec : Ms → Int32 → Option Rt} {k107 : Ms → Option Rt} (s0 : Ms) (l2 : Int32) (l3 : Int32) (hrec : ∀ (sx : Ms) (l3 : Int32), gS p l e rm_X10_lift s m args below meth c 4 A (MW D cI cZ E A h0 ps) QX 0 0 (rec sx l3) sx 59 [(0, .ref h0), (2, .int l2), (3, .int l3)] []) (hk107 : ∀ (sx : Ms), gS p l e rm_X10_lift s m args below meth c 4 A (MW D cI cZ E A h0 ps) QX 0 0 (k107 sx) sx 107 [] []) : gS p l e rm_X10_lift s m args below meth c 4 A (MW D cI cZ E A h0 ps) QX 0 0 (M_lift_B101 s0 rec k107 l2 l3) s0 101 [(0, .ref h0), (2, .int l2), (3, .int l3)] [] := by
  unfold M_lift_B101
  refine g_iinc (v := l3 + 1) (i := 2) h [(3, .int (l3 + 1)), (0, .ref h0), (2, .int l2)] dX10_lift_101 rfl rfl (by decide) rfl ?_
  refine g_goto h 59 dX10_lift_104 (by decide) ?_
  refine g_lv [(0, .ref h0), (2, .int l2), (3, .int (l3 + 1))] [1, 2, 0] rfl ?_
  exact hrec _ _
def M_lift_L59 {Rt : Type} (l2 : Int32) (k107 : Ms → Option Rt) : Nat → Ms → Int32 → Option Rt
  | 0, _, _ => none
  | F + 1, s0, l3 =>
  if s0.1 4 ≤ l3 then
      k107 s0
    else
      if okI l3 40 = true then
      if s0.2 18 l3.toNatClampNeg = 0 then
        if okI l3 40 = true then
        if s0.2 16 l3.toNatClampNeg = l2 then
          if okI l2 30 = true then
          if okI l3 40 = true then
          if okI l2 30 = true then
          bnd (mSto s0 59 l2.toNatClampNeg ((s0.2 59 l2.toNatClampNeg) ||| (s0.2 17 l3.toNatClampNeg))) (fun s_100 =>
          M_lift_B101 s_100 (M_lift_L59 l2 k107 F) k107 l2 l3)
          else none
          else none
          else none
        else
          M_lift_B101 s0 (M_lift_L59 l2 k107 F) k107 l2 l3
        else none
      else
        M_lift_B101 s0 (M_lift_L59 l2 k107 F) k107 l2 l3
      else none
set_option maxHeartbeats 4000000 in
set_option maxRecDepth 100000 in
theorem M_lift_L59_w {p : Program} {l : Launch} {e : Env} {s : State} {m : MethodId} {args : Array Value} {below : List Frame} {meth : Method} {c : Code} {A : Nat → Prop} {Ke : State → Prop} {D : va_G} {cI cZ : ClassId} {E : State → Heap → Prop} {h0 : Nat} {ps : Nat → Nat} (h : gOk p s m args meth c cX10_lift 4 RX10 tb) (hE : mEok E A) (hkw : gKw Ke) (hKs : Ke s) {Rt : Type} {QX : Rt → State → Prop} (l2 : Int32) {k107 : Ms → Option Rt} (hk107 : ∀ (sx : Ms), gS p l e rm_X10_lift s m args below meth c 4 A (MW D cI cZ E A h0 ps) QX 0 0 (k107 sx) sx 107 [] []) : ∀ (F : Nat) (s0 : Ms) (l3 : Int32), gS p l e rm_X10_lift s m args below meth c 4 A (MW D cI cZ E A h0 ps) QX 0 0 (M_lift_L59 l2 k107 F s0 l3) s0 59 [(0, .ref h0), (2, .int l2), (3, .int l3)] [] := by
  intro F
  induction F with
  | zero =>
    intro s0 l3
    unfold M_lift_L59
    exact g_none
  | succ F ih =>
    intro s0 l3
    unfold M_lift_L59
    refine g_iload_n h 2 dX10_lift_59 rfl ?_
    refine g_aload_n h 0 dX10_lift_60 rfl ?_
    refine m_get h hinX10 4 (by decide) rfl tW_910 dX10_lift_61 ?_
    refine g_icmp_ge h 107 dX10_lift_64 (by decide) ?_ ?_
    · refine g_lv [] [] rfl ?_
      exact hk107 _
    · refine g_aload_n h 0 dX10_lift_67 rfl ?_
      refine m_geta h hinX10 18 (by decide) rfl tW_924 dX10_lift_68 ?_
      refine g_iload_n h 2 dX10_lift_71 rfl ?_
      refine m_zald h 18 rfl rfl 40 rfl dX10_lift_72 ?_
      refine g_if_ne h 101 dX10_lift_73 (by decide) ?_ ?_
      · exact M_lift_B101_w h hE hkw hKs _ _ _ (ih) hk107
      · refine g_aload_n h 0 dX10_lift_76 rfl ?_
        refine m_geta h hinX10 16 (by decide) rfl tW_922 dX10_lift_77 ?_
        refine g_iload_n h 2 dX10_lift_80 rfl ?_
        refine m_iald h 16 rfl rfl 40 rfl dX10_lift_81 ?_
        refine g_iload_n h 1 dX10_lift_82 rfl ?_
        refine g_icmp_ne h 101 dX10_lift_83 (by decide) ?_ ?_
        · exact M_lift_B101_w h hE hkw hKs _ _ _ (ih) hk107
        · refine g_aload_n h 0 dX10_lift_86 rfl ?_
          refine m_geta h hinX10 59 (by decide) rfl tW_965 dX10_lift_87 ?_
          refine g_iload_n h 1 dX10_lift_90 rfl ?_
          refine g_dup2 h dX10_lift_91 rfl rfl ?_
          refine m_iald h 59 rfl rfl 30 rfl dX10_lift_92 ?_
          refine g_aload_n h 0 dX10_lift_93 rfl ?_
          refine m_geta h hinX10 17 (by decide) rfl tW_923 dX10_lift_94 ?_
          refine g_iload_n h 2 dX10_lift_97 rfl ?_
          refine m_iald h 17 rfl rfl 40 rfl dX10_lift_98 ?_
          refine g_ior h dX10_lift_99 ?_
          refine m_iast h hE 59 rfl rfl 30 rfl dX10_lift_100 ?_
          refine g_bnd (fun s_100 => ?_)
          exact M_lift_B101_w h hE hkw hKs _ _ _ (ih) hk107
def M_lift (s0 : Ms) (a1 : Int32) : Option (Int32 × Ms) :=
  bnd (mSet s0 0 (0 : Int32)) (fun s_2 =>
  if a1 < 0 then
    M_lift_B17 s_2
  else
    if a1 < s_2.1 4 then
      if okI a1 40 = true then
      if s_2.2 18 a1.toNatClampNeg = 0 then
        if okI a1 40 = true then
        bnd (mSto s_2 18 a1.toNatClampNeg (1 : Int32)) (fun s_42 =>
        if okI a1 40 = true then
        bnd (s_42.2 16 a1.toNatClampNeg) (fun v2_49 =>
        if okI v2_49 30 = true then
        bnd (mSto s_42 59 v2_49.toNatClampNeg (0 : Int32)) (fun s_56 =>
        M_lift_L59 v2_49 (fun s_107 => some ((1 : Int32), s_107)) gF s_56 (0 : Int32))
        else none)
        else none)
        else none
      else
        some ((0 : Int32), s_2)
      else none
    else
      M_lift_B17 s_2)
set_option maxHeartbeats 4000000 in
set_option maxRecDepth 100000 in
theorem c_X10_lift {l : Launch} {A : Nat → Prop} {Ke : State → Prop} {D : va_G} {cI cZ : ClassId} {E : State → Heap → Prop} {h0 : Nat} {ps : Nat → Nat} (hE : mEok E A) (hkw : gKw Ke) (s0 : Ms) (a1 : Int32) : gCi l yX10_lift cX10_lift 4 (some .boolean) rm_X10_lift Ke (MW D cI cZ E A h0 ps) A [.ref h0, .int a1] s0 (M_lift s0 a1) := by
  refine g_meti (by decide) (by simp [lg_sl, Value.category]) ?_
  intro p e s m below meth c h hr hKs
  refine g_lv [(0, .ref h0), (1, .int a1)] [0, 1] rfl ?_
  unfold M_lift
  refine g_aload_n h 0 dX10_lift_0 rfl ?_
  refine g_iconst (v := 0) h dX10_lift_1 (by decide) ?_
  refine m_put h hE hinX10 0 (by decide) rfl rfl rfl tW_906 dX10_lift_2 ?_
  refine g_bnd (fun s_2 => ?_)
  refine g_iload_n h 1 dX10_lift_5 rfl ?_
  refine g_if_lt h 17 dX10_lift_6 (by decide) ?_ ?_
  · refine g_lv [(0, .ref h0)] [0] rfl ?_
    exact M_lift_B17_w h hE hkw hKs _  hr
  · refine g_iload_n h 1 dX10_lift_9 rfl ?_
    refine g_aload_n h 0 dX10_lift_10 rfl ?_
    refine m_get h hinX10 4 (by decide) rfl tW_910 dX10_lift_11 ?_
    refine g_icmp_lt h 25 dX10_lift_14 (by decide) ?_ ?_
    · refine g_aload_n h 0 dX10_lift_25 rfl ?_
      refine m_geta h hinX10 18 (by decide) rfl tW_924 dX10_lift_26 ?_
      refine g_iload_n h 1 dX10_lift_29 rfl ?_
      refine m_zald h 18 rfl rfl 40 rfl dX10_lift_30 ?_
      refine g_if_eq h 36 dX10_lift_31 (by decide) ?_ ?_
      · refine g_aload_n h 0 dX10_lift_36 rfl ?_
        refine m_geta h hinX10 18 (by decide) rfl tW_924 dX10_lift_37 ?_
        refine g_iload_n h 1 dX10_lift_40 rfl ?_
        refine g_iconst (v := 1) h dX10_lift_41 (by decide) ?_
        refine m_zast h hE 18 rfl rfl 40 rfl (by decide) dX10_lift_42 ?_
        refine g_bnd (fun s_42 => ?_)
        refine g_aload_n h 0 dX10_lift_43 rfl ?_
        refine m_geta h hinX10 16 (by decide) rfl tW_922 dX10_lift_44 ?_
        refine g_iload_n h 1 dX10_lift_47 rfl ?_
        refine m_iald h 16 rfl rfl 40 rfl dX10_lift_48 ?_
        refine g_bndi (fun v2_49 => ?_)
        refine g_istore_n h [(2, .int v2_49), (0, .ref h0), (1, .int a1)] dX10_lift_49 (by decide) rfl ?_
        refine g_aload_n h 1 dX10_lift_50 rfl ?_
        refine m_geta h hinX10 59 (by decide) rfl tW_965 dX10_lift_51 ?_
        refine g_iload_n h 0 dX10_lift_54 rfl ?_
        refine g_iconst (v := 0) h dX10_lift_55 (by decide) ?_
        refine m_iast h hE 59 rfl rfl 30 rfl dX10_lift_56 ?_
        refine g_bnd (fun s_56 => ?_)
        refine g_iconst (v := 0) h dX10_lift_57 (by decide) ?_
        refine g_istore_n h [(3, .int (0 : Int32)), (2, .int v2_49), (0, .ref h0), (1, .int a1)] dX10_lift_58 (by decide) rfl ?_
        refine g_lv [(0, .ref h0), (2, .int v2_49), (3, .int (0 : Int32))] [2, 1, 0] rfl ?_
        refine M_lift_L59_w h hE hkw hKs _ (fun s_107 => ?_) _ _ _
        · refine g_iconst (v := 1) h dX10_lift_107 (by decide) ?_
          exact g_zret h (MW_mv hE) hr (Nat.le_refl _) (Nat.le_refl _) (by decide) dX10_lift_108
      · refine g_iconst (v := 0) h dX10_lift_34 (by decide) ?_
        exact g_zret h (MW_mv hE) hr (Nat.le_refl _) (Nat.le_refl _) (by decide) dX10_lift_35
    · refine g_lv [(0, .ref h0)] [0] rfl ?_
      exact M_lift_B17_w h hE hkw hKs _  hr
def rm_X10_wish : Room := { frames := 10, cells := 0, slots := 0, locals := 239 }
theorem yk_X10_wish : yOkV yX10_wish cX10_wish 4 (some .int) RX10 1 := ⟨tW_1271, tW_5, tW_1269, tW_1270, by decide, by decide, by decide +kernel⟩
def M_wish_B69 {Rt : Type} (s0 : Ms) (rec : Ms → Int32 → Int32 → Option Rt) (k75 : Ms → Int32 → Option Rt) (a1 : Int32) (l2 : Int32) (l3 : Int32) : Option (Rt) :=
  rec s0 l2 (l3 + 1)
set_option maxHeartbeats 4000000 in
set_option maxRecDepth 100000 in
theorem M_wish_B69_w {p : Program} {l : Launch} {e : Env} {s : State} {m : MethodId} {args : Array Value} {below : List Frame} {meth : Method} {c : Code} {A : Nat → Prop} {Ke : State → Prop} {D : va_G} {cI cZ : ClassId} {E : State → Heap → Prop} {h0 : Nat} {ps : Nat → Nat} (h : gOk p s m args meth c cX10_wish 4 RX10 tb) (hE : mEok E A) (hkw : gKw Ke) (hKs : Ke s) {Rt : Type} {QX : Rt → State → Prop} {rec : Ms → Int32 → Int32 → Option Rt} {k75 : Ms → Int32 → Option Rt} (s0 : Ms) (a1 : Int32) (l2 : Int32) (l3 : Int32) (hrec : ∀ (sx : Ms) (l2 : Int32) (l3 : Int32), gS p l e rm_X10_wish s m args below meth c 4 A (MW D cI cZ E A h0 ps) QX 0 0 (rec sx l2 l3) sx 30 [(0, .ref h0), (1, .int a1), (2, .int l2), (3, .int l3)] []) (hk75 : ∀ (sx : Ms) (l2 : Int32), gS p l e rm_X10_wish s m args below meth c 4 A (MW D cI cZ E A h0 ps) QX 0 0 (k75 sx l2) sx 75 [(2, .int l2)] []) : gS p l e rm_X10_wish s m args below meth c 4 A (MW D cI cZ E A h0 ps) QX 0 0 (M_wish_B69 s0 rec k75 a1 l2 l3) s0 69 [(0, .ref h0), (1, .int a1), (2, .int l2), (3, .int l3)] [] := by
  unfold M_wish_B69
  refine g_iinc (v := l3 + 1) (i := 3) h [(3, .int (l3 + 1)), (0, .ref h0), (1, .int a1), (2, .int l2)] dX10_wish_69 rfl rfl (by decide) rfl ?_
  refine g_goto h 30 dX10_wish_72 (by decide) ?_
  refine g_lv [(0, .ref h0), (1, .int a1), (2, .int l2), (3, .int (l3 + 1))] [1, 2, 3, 0] rfl ?_
  exact hrec _ _ _
def M_wish_L30 {Rt : Type} (a1 : Int32) (k75 : Ms → Int32 → Option Rt) : Nat → Ms → Int32 → Int32 → Option Rt
  | 0, _, _, _ => none
  | F + 1, s0, l2, l3 =>
  if (8 : Int32) ≤ l3 then
      k75 s0 l2
    else
      if okI (((8 : Int32) * a1) + l3) 240 = true then
      if s0.2 12 (((8 : Int32) * a1) + l3).toNatClampNeg = 0 then
        M_wish_B69 s0 (M_wish_L30 a1 k75 F) k75 a1 l2 l3
      else
        bi (M_isDue s0 a1 l3 (s0.1 1)) (fun r_57 s_57 =>
        if r_57 = 0 then
          M_wish_B69 s_57 (M_wish_L30 a1 k75 F) k75 a1 l2 l3
        else
          bnd (l2 ||| ((1 : Int32) <<< (l3 &&& 31))) (fun v2_68 =>
          M_wish_B69 s_57 (M_wish_L30 a1 k75 F) k75 a1 v2_68 l3))
      else none
set_option maxHeartbeats 4000000 in
set_option maxRecDepth 100000 in
theorem M_wish_L30_w {p : Program} {l : Launch} {e : Env} {s : State} {m : MethodId} {args : Array Value} {below : List Frame} {meth : Method} {c : Code} {A : Nat → Prop} {Ke : State → Prop} {D : va_G} {cI cZ : ClassId} {E : State → Heap → Prop} {h0 : Nat} {ps : Nat → Nat} (h : gOk p s m args meth c cX10_wish 4 RX10 tb) (hE : mEok E A) (hkw : gKw Ke) (hKs : Ke s) {Rt : Type} {QX : Rt → State → Prop} (a1 : Int32) {k75 : Ms → Int32 → Option Rt} (hk75 : ∀ (sx : Ms) (l2 : Int32), gS p l e rm_X10_wish s m args below meth c 4 A (MW D cI cZ E A h0 ps) QX 0 0 (k75 sx l2) sx 75 [(2, .int l2)] []) : ∀ (F : Nat) (s0 : Ms) (l2 : Int32) (l3 : Int32), gS p l e rm_X10_wish s m args below meth c 4 A (MW D cI cZ E A h0 ps) QX 0 0 (M_wish_L30 a1 k75 F s0 l2 l3) s0 30 [(0, .ref h0), (1, .int a1), (2, .int l2), (3, .int l3)] [] := by
  intro F
  induction F with
  | zero =>
    intro s0 l2 l3
    unfold M_wish_L30
    exact g_none
  | succ F ih =>
    intro s0 l2 l3
    unfold M_wish_L30
    refine g_iload_n h 3 dX10_wish_30 rfl ?_
    refine g_bipush (v := 8) h dX10_wish_31 (by decide) ?_
    refine g_icmp_ge h 75 dX10_wish_33 (by decide) ?_ ?_
    · refine g_lv [(2, .int l2)] [2] rfl ?_
      exact hk75 _ _
    · refine g_aload_n h 0 dX10_wish_36 rfl ?_
      refine m_geta h hinX10 12 (by decide) rfl tW_918 dX10_wish_37 ?_
      refine g_bipush (v := 8) h dX10_wish_40 (by decide) ?_
      refine g_iload_n h 1 dX10_wish_42 rfl ?_
      refine g_imul h dX10_wish_43 ?_
      refine g_iload_n h 3 dX10_wish_44 rfl ?_
      refine g_iadd h dX10_wish_45 ?_
      refine m_iald h 12 rfl rfl 240 rfl dX10_wish_46 ?_
      refine g_if_eq h 69 dX10_wish_47 (by decide) ?_ ?_
      · exact M_wish_B69_w h hE hkw hKs _ _ _ _ (ih) hk75
      · refine g_aload_n h 0 dX10_wish_50 rfl ?_
        refine g_iload_n h 1 dX10_wish_51 rfl ?_
        refine g_iload_n h 3 dX10_wish_52 rfl ?_
        refine g_aload_n h 0 dX10_wish_53 rfl ?_
        refine m_get h hinX10 1 (by decide) rfl tW_907 dX10_wish_54 ?_
        refine g_callV0i h (MW_mv hE) hkw hKs [.int a1, .int l3, .int (s0.1 1)] (c_X10_isDue hE hkw s0 a1 l3 (s0.1 1)) yk_X10_isDue tW_1272 ⟨(Nat.le_of_ble_eq_true rfl), (Nat.le_of_ble_eq_true rfl)⟩ MW_recv rfl rfl rfl rfl (Nat.le_of_ble_eq_true rfl) dX10_wish_57 ⟨Nat.zero_le _, Nat.zero_le _⟩ (fun r_57 s_57 => ?_)
        refine g_if_eq h 69 dX10_wish_60 (by decide) ?_ ?_
        · exact M_wish_B69_w h hE hkw hKs _ _ _ _ (ih) hk75
        · refine g_iload_n h 2 dX10_wish_63 rfl ?_
          refine g_iconst (v := 1) h dX10_wish_64 (by decide) ?_
          refine g_iload_n h 3 dX10_wish_65 rfl ?_
          refine g_ishl h dX10_wish_66 ?_
          refine g_ior h dX10_wish_67 ?_
          refine g_bndi (fun v2_68 => ?_)
          refine g_istore_n h [(2, .int v2_68), (0, .ref h0), (1, .int a1), (3, .int l3)] dX10_wish_68 (by decide) rfl ?_
          refine g_lv [(0, .ref h0), (1, .int a1), (2, .int v2_68), (3, .int l3)] [1, 2, 0, 3] rfl ?_
          exact M_wish_B69_w h hE hkw hKs _ _ _ _ (ih) hk75
def M_wish (s0 : Ms) (a1 : Int32) : Option (Int32 × Ms) :=
  bnd (mSet s0 0 (0 : Int32)) (fun s_2 =>
  (M_isThing s_2 a1).bind (fun r_7 =>
  if r_7 = 0 then
    bi (M_fail s_2 (1 : Int32)) (fun r_15 s_15 =>
    some (r_15, s_15))
  else
    if okI a1 30 = true then
    bnd (mSto s_2 13 a1.toNatClampNeg (1 : Int32)) (fun s_25 =>
    M_wish_L30 a1 (fun s_75 v2_75 => some (v2_75, s_75)) gF s_25 (0 : Int32) (0 : Int32))
    else none))
set_option maxHeartbeats 4000000 in
set_option maxRecDepth 100000 in
theorem c_X10_wish {l : Launch} {A : Nat → Prop} {Ke : State → Prop} {D : va_G} {cI cZ : ClassId} {E : State → Heap → Prop} {h0 : Nat} {ps : Nat → Nat} (hE : mEok E A) (hkw : gKw Ke) (s0 : Ms) (a1 : Int32) : gCi l yX10_wish cX10_wish 4 (some .int) rm_X10_wish Ke (MW D cI cZ E A h0 ps) A [.ref h0, .int a1] s0 (M_wish s0 a1) := by
  refine g_meti (by decide) (by simp [lg_sl, Value.category]) ?_
  intro p e s m below meth c h hr hKs
  refine g_lv [(0, .ref h0), (1, .int a1)] [0, 1] rfl ?_
  unfold M_wish
  refine g_aload_n h 0 dX10_wish_0 rfl ?_
  refine g_iconst (v := 0) h dX10_wish_1 (by decide) ?_
  refine m_put h hE hinX10 0 (by decide) rfl rfl rfl tW_906 dX10_wish_2 ?_
  refine g_bnd (fun s_2 => ?_)
  refine g_aload_n h 0 dX10_wish_5 rfl ?_
  refine g_iload_n h 1 dX10_wish_6 rfl ?_
  refine g_callV0p h (MW_mv hE) hkw hKs [.int a1] (c_X10_isThing hE hkw s_2 a1) yk_X10_isThing tW_1222 ⟨(Nat.le_of_ble_eq_true rfl), (Nat.le_of_ble_eq_true rfl)⟩ MW_recv rfl rfl rfl rfl (Nat.le_of_ble_eq_true rfl) dX10_wish_7 ⟨Nat.zero_le _, Nat.zero_le _⟩ (fun r_7 => ?_)
  refine g_if_ne h 19 dX10_wish_10 (by decide) ?_ ?_
  · refine g_aload_n h 0 dX10_wish_19 rfl ?_
    refine m_geta h hinX10 13 (by decide) rfl tW_919 dX10_wish_20 ?_
    refine g_iload_n h 1 dX10_wish_23 rfl ?_
    refine g_iconst (v := 1) h dX10_wish_24 (by decide) ?_
    refine m_zast h hE 13 rfl rfl 30 rfl (by decide) dX10_wish_25 ?_
    refine g_bnd (fun s_25 => ?_)
    refine g_iconst (v := 0) h dX10_wish_26 (by decide) ?_
    refine g_istore_n h [(2, .int (0 : Int32)), (0, .ref h0), (1, .int a1)] dX10_wish_27 (by decide) rfl ?_
    refine g_iconst (v := 0) h dX10_wish_28 (by decide) ?_
    refine g_istore_n h [(3, .int (0 : Int32)), (2, .int (0 : Int32)), (0, .ref h0), (1, .int a1)] dX10_wish_29 (by decide) rfl ?_
    refine g_lv [(0, .ref h0), (1, .int a1), (2, .int (0 : Int32)), (3, .int (0 : Int32))] [2, 3, 1, 0] rfl ?_
    refine M_wish_L30_w h hE hkw hKs _ (fun s_75 v2_75 => ?_) _ _ _ _
    · refine g_iload_n h 0 dX10_wish_75 rfl ?_
      exact g_iret h (MW_mv hE) hr (Nat.le_refl _) (Nat.le_refl _) dX10_wish_76
  · refine g_aload_n h 0 dX10_wish_13 rfl ?_
    refine g_iconst (v := 1) h dX10_wish_14 (by decide) ?_
    refine g_callV0i h (MW_mv hE) hkw hKs [.int (1 : Int32)] (c_X10_fail hE hkw s_2 (1 : Int32)) yk_X10_fail tW_1111 ⟨(Nat.le_of_ble_eq_true rfl), (Nat.le_of_ble_eq_true rfl)⟩ MW_recv rfl rfl rfl rfl (Nat.le_of_ble_eq_true rfl) dX10_wish_15 ⟨Nat.zero_le _, Nat.zero_le _⟩ (fun r_15 s_15 => ?_)
    exact g_iret h (MW_mv hE) hr (Nat.le_refl _) (Nat.le_refl _) dX10_wish_18
def rm_X10_isSet : Room := { frames := 0, cells := 0, slots := 0, locals := 0 }
theorem yk_X10_isSet : yOkV yX10_isSet cX10_isSet 2 (some .boolean) RX10 1 := ⟨tW_1304, tW_5, tW_1303, tP_58, by decide, by decide, by decide +kernel⟩
def M_isSet_B17 (s0 : Ms) (t0 : Int32) : Option (Int32) :=
  if okZ t0 = true then some t0 else none
set_option maxHeartbeats 4000000 in
set_option maxRecDepth 100000 in
theorem M_isSet_B17_w {p : Program} {l : Launch} {e : Env} {s : State} {m : MethodId} {args : Array Value} {below : List Frame} {meth : Method} {c : Code} {A : Nat → Prop} {Ke : State → Prop} {D : va_G} {cI cZ : ClassId} {E : State → Heap → Prop} {h0 : Nat} {ps : Nat → Nat} (h : gOk p s m args meth c cX10_isSet 2 RX10 tb) (hE : mEok E A) (hkw : gKw Ke) (hKs : Ke s) (s0 : Ms) (t0 : Int32) (hr : meth.sig.returnType = some .boolean)  : gS p l e rm_X10_isSet s m args below meth c 2 A (MW D cI cZ E A h0 ps) (fun X => MQ below (gPi (MW D cI cZ E A h0 ps) A (X, s0)) args s rm_X10_isSet.cells rm_X10_isSet.slots A) 0 0 (M_isSet_B17 s0 t0) s0 17 [] [.int t0] := by
  unfold M_isSet_B17
  refine g_guard (fun hz => ?_)
  exact g_zretp h (MW_mv hE) hr (Nat.le_refl _) (Nat.le_refl _) hz dX10_isSet_17
def M_isSet_B16 (s0 : Ms)  : Option (Int32) :=
  M_isSet_B17 s0 (0 : Int32)
set_option maxHeartbeats 4000000 in
set_option maxRecDepth 100000 in
theorem M_isSet_B16_w {p : Program} {l : Launch} {e : Env} {s : State} {m : MethodId} {args : Array Value} {below : List Frame} {meth : Method} {c : Code} {A : Nat → Prop} {Ke : State → Prop} {D : va_G} {cI cZ : ClassId} {E : State → Heap → Prop} {h0 : Nat} {ps : Nat → Nat} (h : gOk p s m args meth c cX10_isSet 2 RX10 tb) (hE : mEok E A) (hkw : gKw Ke) (hKs : Ke s) (s0 : Ms)  (hr : meth.sig.returnType = some .boolean)  : gS p l e rm_X10_isSet s m args below meth c 2 A (MW D cI cZ E A h0 ps) (fun X => MQ below (gPi (MW D cI cZ E A h0 ps) A (X, s0)) args s rm_X10_isSet.cells rm_X10_isSet.slots A) 0 0 (M_isSet_B16 s0) s0 16 [] [] := by
  unfold M_isSet_B16
  refine g_iconst (v := 0) h dX10_isSet_16 (by decide) ?_
  exact M_isSet_B17_w h hE hkw hKs _ _ hr
def M_isSet (s0 : Ms) (a1 : Int32) : Option (Int32) :=
  if a1 < 0 then
    M_isSet_B16 s0
  else
    if s0.1 3 ≤ a1 then
      M_isSet_B16 s0
    else
      M_isSet_B17 s0 (1 : Int32)
set_option maxHeartbeats 4000000 in
set_option maxRecDepth 100000 in
theorem c_X10_isSet {l : Launch} {A : Nat → Prop} {Ke : State → Prop} {D : va_G} {cI cZ : ClassId} {E : State → Heap → Prop} {h0 : Nat} {ps : Nat → Nat} (hE : mEok E A) (hkw : gKw Ke) (s0 : Ms) (a1 : Int32) : gCp l yX10_isSet cX10_isSet 2 (some .boolean) rm_X10_isSet Ke (MW D cI cZ E A h0 ps) A [.ref h0, .int a1] s0 (M_isSet s0 a1) := by
  refine g_metp (by decide) (by simp [lg_sl, Value.category]) ?_
  intro p e s m below meth c h hr hKs
  refine g_lv [(0, .ref h0), (1, .int a1)] [0, 1] rfl ?_
  unfold M_isSet
  refine g_iload_n h 1 dX10_isSet_0 rfl ?_
  refine g_if_lt h 16 dX10_isSet_1 (by decide) ?_ ?_
  · refine g_lv [] [] rfl ?_
    exact M_isSet_B16_w h hE hkw hKs _  hr
  · refine g_iload_n h 1 dX10_isSet_4 rfl ?_
    refine g_aload_n h 0 dX10_isSet_5 rfl ?_
    refine m_get h hinX10 3 (by decide) rfl tW_909 dX10_isSet_6 ?_
    refine g_icmp_ge h 16 dX10_isSet_9 (by decide) ?_ ?_
    · refine g_lv [] [] rfl ?_
      exact M_isSet_B16_w h hE hkw hKs _  hr
    · refine g_iconst (v := 1) h dX10_isSet_12 (by decide) ?_
      refine g_goto h 17 dX10_isSet_13 (by decide) ?_
      refine g_lv [] [] rfl ?_
      exact M_isSet_B17_w h hE hkw hKs _ _ hr
def rm_X10_span : Room := { frames := 8, cells := 0, slots := 0, locals := 192 }
theorem yk_X10_span : yOkV yX10_span cX10_span 5 (some .int) RX10 4 := ⟨tW_1300, tW_5, tW_1298, tW_1299, by decide, by decide, by decide +kernel⟩
def M_span_B44 (s0 : Ms)  : Option (Int32 × Ms) :=
  bi (M_fail s0 (1 : Int32)) (fun r_46 s_46 =>
  some (r_46, s_46))
set_option maxHeartbeats 4000000 in
set_option maxRecDepth 100000 in
theorem M_span_B44_w {p : Program} {l : Launch} {e : Env} {s : State} {m : MethodId} {args : Array Value} {below : List Frame} {meth : Method} {c : Code} {A : Nat → Prop} {Ke : State → Prop} {D : va_G} {cI cZ : ClassId} {E : State → Heap → Prop} {h0 : Nat} {ps : Nat → Nat} (h : gOk p s m args meth c cX10_span 5 RX10 tb) (hE : mEok E A) (hkw : gKw Ke) (hKs : Ke s) (s0 : Ms)  (hr : meth.sig.returnType = some .int)  : gS p l e rm_X10_span s m args below meth c 5 A (MW D cI cZ E A h0 ps) (fun X => MQ below (gPi (MW D cI cZ E A h0 ps) A X) args s rm_X10_span.cells rm_X10_span.slots A) 0 0 (M_span_B44 s0) s0 44 [(0, .ref h0)] [] := by
  unfold M_span_B44
  refine g_aload_n h 0 dX10_span_44 rfl ?_
  refine g_iconst (v := 1) h dX10_span_45 (by decide) ?_
  refine g_callV0i h (MW_mv hE) hkw hKs [.int (1 : Int32)] (c_X10_fail hE hkw s0 (1 : Int32)) yk_X10_fail tW_1111 ⟨(Nat.le_of_ble_eq_true rfl), (Nat.le_of_ble_eq_true rfl)⟩ MW_recv rfl rfl rfl rfl (Nat.le_of_ble_eq_true rfl) dX10_span_46 ⟨Nat.zero_le _, Nat.zero_le _⟩ (fun r_46 s_46 => ?_)
  exact g_iret h (MW_mv hE) hr (Nat.le_refl _) (Nat.le_refl _) dX10_span_49
def M_span_B128 (s0 : Ms) (t0 : Int32) : Option (Int32 × Ms) :=
  some (t0, s0)
set_option maxHeartbeats 4000000 in
set_option maxRecDepth 100000 in
theorem M_span_B128_w {p : Program} {l : Launch} {e : Env} {s : State} {m : MethodId} {args : Array Value} {below : List Frame} {meth : Method} {c : Code} {A : Nat → Prop} {Ke : State → Prop} {D : va_G} {cI cZ : ClassId} {E : State → Heap → Prop} {h0 : Nat} {ps : Nat → Nat} (h : gOk p s m args meth c cX10_span 5 RX10 tb) (hE : mEok E A) (hkw : gKw Ke) (hKs : Ke s) (s0 : Ms) (t0 : Int32) (hr : meth.sig.returnType = some .int)  : gS p l e rm_X10_span s m args below meth c 5 A (MW D cI cZ E A h0 ps) (fun X => MQ below (gPi (MW D cI cZ E A h0 ps) A X) args s rm_X10_span.cells rm_X10_span.slots A) 0 0 (M_span_B128 s0 t0) s0 128 [] [.int t0] := by
  unfold M_span_B128
  exact g_iret h (MW_mv hE) hr (Nat.le_refl _) (Nat.le_refl _) dX10_span_128
def M_span_B70 (s0 : Ms) (t0 : Int32) (t1 : Int32) (t2 : Int32) (a4 : Int32) : Option (Int32 × Ms) :=
  (M_tell s0 t2 t1 t0).bind (fun s_70 =>
  if a4 = 0 then
    M_span_B128 s_70 (s_70.1 48)
  else
    if a4 = (1 : Int32) then
      M_span_B128 s_70 (s_70.1 49)
    else
      if a4 = (2 : Int32) then
        M_span_B128 s_70 (s_70.1 50)
      else
        if a4 = (3 : Int32) then
          M_span_B128 s_70 (s_70.1 51)
        else
          M_span_B128 s_70 (s_70.1 52))
set_option maxHeartbeats 4000000 in
set_option maxRecDepth 100000 in
theorem M_span_B70_w {p : Program} {l : Launch} {e : Env} {s : State} {m : MethodId} {args : Array Value} {below : List Frame} {meth : Method} {c : Code} {A : Nat → Prop} {Ke : State → Prop} {D : va_G} {cI cZ : ClassId} {E : State → Heap → Prop} {h0 : Nat} {ps : Nat → Nat} (h : gOk p s m args meth c cX10_span 5 RX10 tb) (hE : mEok E A) (hkw : gKw Ke) (hKs : Ke s) (s0 : Ms) (t0 : Int32) (t1 : Int32) (t2 : Int32) (a4 : Int32) (hr : meth.sig.returnType = some .int)  : gS p l e rm_X10_span s m args below meth c 5 A (MW D cI cZ E A h0 ps) (fun X => MQ below (gPi (MW D cI cZ E A h0 ps) A X) args s rm_X10_span.cells rm_X10_span.slots A) 0 0 (M_span_B70 s0 t0 t1 t2 a4) s0 70 [(0, .ref h0), (4, .int a4)] [.int t0, .int t1, .int t2, .ref h0] := by
  unfold M_span_B70
  refine g_callV0v h (MW_mv hE) hkw hKs [.int t2, .int t1, .int t0] (c_X10_tell hE hkw s0 t2 t1 t0) yk_X10_tell tW_1280 ⟨(Nat.le_of_ble_eq_true rfl), (Nat.le_of_ble_eq_true rfl)⟩ MW_recv rfl rfl rfl rfl (Nat.le_of_ble_eq_true rfl) dX10_span_70 ⟨Nat.zero_le _, Nat.zero_le _⟩ (fun s_70 => ?_)
  refine g_iload h 1 dX10_span_73 rfl ?_
  refine g_if_ne h 85 dX10_span_75 (by decide) ?_ ?_
  · refine g_iload h 1 dX10_span_85 rfl ?_
    refine g_iconst (v := 1) h dX10_span_87 (by decide) ?_
    refine g_icmp_ne h 98 dX10_span_88 (by decide) ?_ ?_
    · refine g_iload h 1 dX10_span_98 rfl ?_
      refine g_iconst (v := 2) h dX10_span_100 (by decide) ?_
      refine g_icmp_ne h 111 dX10_span_101 (by decide) ?_ ?_
      · refine g_iload h 1 dX10_span_111 rfl ?_
        refine g_iconst (v := 3) h dX10_span_113 (by decide) ?_
        refine g_icmp_ne h 124 dX10_span_114 (by decide) ?_ ?_
        · refine g_aload_n h 0 dX10_span_124 rfl ?_
          refine m_get h hinX10 52 (by decide) rfl tW_958 dX10_span_125 ?_
          refine g_lv [] [] rfl ?_
          exact M_span_B128_w h hE hkw hKs _ _ hr
        · refine g_aload_n h 0 dX10_span_117 rfl ?_
          refine m_get h hinX10 51 (by decide) rfl tW_957 dX10_span_118 ?_
          refine g_goto h 128 dX10_span_121 (by decide) ?_
          refine g_lv [] [] rfl ?_
          exact M_span_B128_w h hE hkw hKs _ _ hr
      · refine g_aload_n h 0 dX10_span_104 rfl ?_
        refine m_get h hinX10 50 (by decide) rfl tW_956 dX10_span_105 ?_
        refine g_goto h 128 dX10_span_108 (by decide) ?_
        refine g_lv [] [] rfl ?_
        exact M_span_B128_w h hE hkw hKs _ _ hr
    · refine g_aload_n h 0 dX10_span_91 rfl ?_
      refine m_get h hinX10 49 (by decide) rfl tW_955 dX10_span_92 ?_
      refine g_goto h 128 dX10_span_95 (by decide) ?_
      refine g_lv [] [] rfl ?_
      exact M_span_B128_w h hE hkw hKs _ _ hr
  · refine g_aload_n h 0 dX10_span_78 rfl ?_
    refine m_get h hinX10 48 (by decide) rfl tW_954 dX10_span_79 ?_
    refine g_goto h 128 dX10_span_82 (by decide) ?_
    refine g_lv [] [] rfl ?_
    exact M_span_B128_w h hE hkw hKs _ _ hr
def M_span_B33 (s0 : Ms) (a1 : Int32) (a2 : Int32) (a3 : Int32) (a4 : Int32) : Option (Int32 × Ms) :=
  if a4 < 0 then
    M_span_B44 s0
  else
    if a4 ≤ (4 : Int32) then
      if a3 = (-1 : Int32) then
        (M_force s0 (s0.1 1)).bind (fun r_63 =>
        M_span_B70 s0 r_63 a2 a1 a4)
      else
        M_span_B70 s0 a3 a2 a1 a4
    else
      M_span_B44 s0
set_option maxHeartbeats 4000000 in
set_option maxRecDepth 100000 in
theorem M_span_B33_w {p : Program} {l : Launch} {e : Env} {s : State} {m : MethodId} {args : Array Value} {below : List Frame} {meth : Method} {c : Code} {A : Nat → Prop} {Ke : State → Prop} {D : va_G} {cI cZ : ClassId} {E : State → Heap → Prop} {h0 : Nat} {ps : Nat → Nat} (h : gOk p s m args meth c cX10_span 5 RX10 tb) (hE : mEok E A) (hkw : gKw Ke) (hKs : Ke s) (s0 : Ms) (a1 : Int32) (a2 : Int32) (a3 : Int32) (a4 : Int32) (hr : meth.sig.returnType = some .int)  : gS p l e rm_X10_span s m args below meth c 5 A (MW D cI cZ E A h0 ps) (fun X => MQ below (gPi (MW D cI cZ E A h0 ps) A X) args s rm_X10_span.cells rm_X10_span.slots A) 0 0 (M_span_B33 s0 a1 a2 a3 a4) s0 33 [(0, .ref h0), (1, .int a1), (2, .int a2), (3, .int a3), (4, .int a4)] [] := by
  unfold M_span_B33
  refine g_iload h 4 dX10_span_33 rfl ?_
  refine g_if_lt h 44 dX10_span_35 (by decide) ?_ ?_
  · refine g_lv [(0, .ref h0)] [0] rfl ?_
    exact M_span_B44_w h hE hkw hKs _  hr
  · refine g_iload h 4 dX10_span_38 rfl ?_
    refine g_iconst (v := 4) h dX10_span_40 (by decide) ?_
    refine g_icmp_le h 50 dX10_span_41 (by decide) ?_ ?_
    · refine g_aload_n h 0 dX10_span_50 rfl ?_
      refine g_iload_n h 1 dX10_span_51 rfl ?_
      refine g_iload_n h 2 dX10_span_52 rfl ?_
      refine g_iload_n h 3 dX10_span_53 rfl ?_
      refine g_iconst (v := -1) h dX10_span_54 (by decide) ?_
      refine g_icmp_ne h 69 dX10_span_55 (by decide) ?_ ?_
      · refine g_iload_n h 3 dX10_span_69 rfl ?_
        refine g_lv [(0, .ref h0), (4, .int a4)] [0, 4] rfl ?_
        exact M_span_B70_w h hE hkw hKs _ _ _ _ _ hr
      · refine g_aload_n h 0 dX10_span_58 rfl ?_
        refine g_aload_n h 0 dX10_span_59 rfl ?_
        refine m_get h hinX10 1 (by decide) rfl tW_907 dX10_span_60 ?_
        refine g_callV0p h (MW_mv hE) hkw hKs [.int (s0.1 1)] (c_X10_force hE hkw s0 (s0.1 1)) yk_X10_force tW_1244 ⟨(Nat.le_of_ble_eq_true rfl), (Nat.le_of_ble_eq_true rfl)⟩ MW_recv rfl rfl rfl rfl (Nat.le_of_ble_eq_true rfl) dX10_span_63 ⟨Nat.zero_le _, Nat.zero_le _⟩ (fun r_63 => ?_)
        refine g_goto h 70 dX10_span_66 (by decide) ?_
        refine g_lv [(0, .ref h0), (4, .int a4)] [0, 4] rfl ?_
        exact M_span_B70_w h hE hkw hKs _ _ _ _ _ hr
    · refine g_lv [(0, .ref h0)] [0] rfl ?_
      exact M_span_B44_w h hE hkw hKs _  hr
def M_span (s0 : Ms) (a1 : Int32) (a2 : Int32) (a3 : Int32) (a4 : Int32) : Option (Int32 × Ms) :=
  bnd (mSet s0 0 (0 : Int32)) (fun s_2 =>
  (M_isThing s_2 a1).bind (fun r_7 =>
  if r_7 = 0 then
    M_span_B44 s_2
  else
    (M_isField s_2 a2).bind (fun r_14 =>
    if r_14 = 0 then
      M_span_B44 s_2
    else
      if a3 = (-1 : Int32) then
        M_span_B33 s_2 a1 a2 a3 a4
      else
        (M_isSet s_2 a3).bind (fun r_27 =>
        if r_27 = 0 then
          M_span_B44 s_2
        else
          M_span_B33 s_2 a1 a2 a3 a4))))
set_option maxHeartbeats 4000000 in
set_option maxRecDepth 100000 in
theorem c_X10_span {l : Launch} {A : Nat → Prop} {Ke : State → Prop} {D : va_G} {cI cZ : ClassId} {E : State → Heap → Prop} {h0 : Nat} {ps : Nat → Nat} (hE : mEok E A) (hkw : gKw Ke) (s0 : Ms) (a1 : Int32) (a2 : Int32) (a3 : Int32) (a4 : Int32) : gCi l yX10_span cX10_span 5 (some .int) rm_X10_span Ke (MW D cI cZ E A h0 ps) A [.ref h0, .int a1, .int a2, .int a3, .int a4] s0 (M_span s0 a1 a2 a3 a4) := by
  refine g_meti (by decide) (by simp [lg_sl, Value.category]) ?_
  intro p e s m below meth c h hr hKs
  refine g_lv [(0, .ref h0), (1, .int a1), (2, .int a2), (3, .int a3), (4, .int a4)] [0, 1, 2, 3, 4] rfl ?_
  unfold M_span
  refine g_aload_n h 0 dX10_span_0 rfl ?_
  refine g_iconst (v := 0) h dX10_span_1 (by decide) ?_
  refine m_put h hE hinX10 0 (by decide) rfl rfl rfl tW_906 dX10_span_2 ?_
  refine g_bnd (fun s_2 => ?_)
  refine g_aload_n h 0 dX10_span_5 rfl ?_
  refine g_iload_n h 1 dX10_span_6 rfl ?_
  refine g_callV0p h (MW_mv hE) hkw hKs [.int a1] (c_X10_isThing hE hkw s_2 a1) yk_X10_isThing tW_1222 ⟨(Nat.le_of_ble_eq_true rfl), (Nat.le_of_ble_eq_true rfl)⟩ MW_recv rfl rfl rfl rfl (Nat.le_of_ble_eq_true rfl) dX10_span_7 ⟨Nat.zero_le _, Nat.zero_le _⟩ (fun r_7 => ?_)
  refine g_if_eq h 44 dX10_span_10 (by decide) ?_ ?_
  · refine g_lv [(0, .ref h0)] [0] rfl ?_
    exact M_span_B44_w h hE hkw hKs _  hr
  · refine g_iload_n h 2 dX10_span_13 rfl ?_
    refine g_callS0p h (MW_mv hE) hkw hKs [.int a2] (c_X10_isField (MW_mv hE) hkw s_2 a2) yk_X10_isField tW_1234 ⟨(Nat.le_of_ble_eq_true rfl), (Nat.le_of_ble_eq_true rfl)⟩ rfl rfl rfl rfl (Nat.le_of_ble_eq_true rfl) dX10_span_14 ⟨Nat.zero_le _, Nat.zero_le _⟩ (fun r_14 => ?_)
    refine g_if_eq h 44 dX10_span_17 (by decide) ?_ ?_
    · refine g_lv [(0, .ref h0)] [0] rfl ?_
      exact M_span_B44_w h hE hkw hKs _  hr
    · refine g_iload_n h 3 dX10_span_20 rfl ?_
      refine g_iconst (v := -1) h dX10_span_21 (by decide) ?_
      refine g_icmp_eq h 33 dX10_span_22 (by decide) ?_ ?_
      · exact M_span_B33_w h hE hkw hKs _ _ _ _ _ hr
      · refine g_aload_n h 0 dX10_span_25 rfl ?_
        refine g_iload_n h 3 dX10_span_26 rfl ?_
        refine g_callV0p h (MW_mv hE) hkw hKs [.int a3] (c_X10_isSet hE hkw s_2 a3) yk_X10_isSet tW_1301 ⟨(Nat.le_of_ble_eq_true rfl), (Nat.le_of_ble_eq_true rfl)⟩ MW_recv rfl rfl rfl rfl (Nat.le_of_ble_eq_true rfl) dX10_span_27 ⟨Nat.zero_le _, Nat.zero_le _⟩ (fun r_27 => ?_)
        refine g_if_eq h 44 dX10_span_30 (by decide) ?_ ?_
        · refine g_lv [(0, .ref h0)] [0] rfl ?_
          exact M_span_B44_w h hE hkw hKs _  hr
        · exact M_span_B33_w h hE hkw hKs _ _ _ _ _ hr
def rm_X10_lost : Room := { frames := 8, cells := 0, slots := 0, locals := 192 }
theorem yk_X10_lost : yOkV yX10_lost cX10_lost 5 (some .int) RX10 4 := ⟨tW_1308, tW_5, tW_1306, tW_1307, by decide, by decide, by decide +kernel⟩
def M_lost_B33 (s0 : Ms)  : Option (Int32 × Ms) :=
  bi (M_fail s0 (1 : Int32)) (fun r_35 s_35 =>
  some (r_35, s_35))
set_option maxHeartbeats 4000000 in
set_option maxRecDepth 100000 in
theorem M_lost_B33_w {p : Program} {l : Launch} {e : Env} {s : State} {m : MethodId} {args : Array Value} {below : List Frame} {meth : Method} {c : Code} {A : Nat → Prop} {Ke : State → Prop} {D : va_G} {cI cZ : ClassId} {E : State → Heap → Prop} {h0 : Nat} {ps : Nat → Nat} (h : gOk p s m args meth c cX10_lost 5 RX10 tb) (hE : mEok E A) (hkw : gKw Ke) (hKs : Ke s) (s0 : Ms)  (hr : meth.sig.returnType = some .int)  : gS p l e rm_X10_lost s m args below meth c 5 A (MW D cI cZ E A h0 ps) (fun X => MQ below (gPi (MW D cI cZ E A h0 ps) A X) args s rm_X10_lost.cells rm_X10_lost.slots A) 0 0 (M_lost_B33 s0) s0 33 [(0, .ref h0)] [] := by
  unfold M_lost_B33
  refine g_aload_n h 0 dX10_lost_33 rfl ?_
  refine g_iconst (v := 1) h dX10_lost_34 (by decide) ?_
  refine g_callV0i h (MW_mv hE) hkw hKs [.int (1 : Int32)] (c_X10_fail hE hkw s0 (1 : Int32)) yk_X10_fail tW_1111 ⟨(Nat.le_of_ble_eq_true rfl), (Nat.le_of_ble_eq_true rfl)⟩ MW_recv rfl rfl rfl rfl (Nat.le_of_ble_eq_true rfl) dX10_lost_35 ⟨Nat.zero_le _, Nat.zero_le _⟩ (fun r_35 s_35 => ?_)
  exact g_iret h (MW_mv hE) hr (Nat.le_refl _) (Nat.le_refl _) dX10_lost_38
def M_lost_B91 (s0 : Ms) (t0 : Int32) : Option (Int32 × Ms) :=
  some (t0, s0)
set_option maxHeartbeats 4000000 in
set_option maxRecDepth 100000 in
theorem M_lost_B91_w {p : Program} {l : Launch} {e : Env} {s : State} {m : MethodId} {args : Array Value} {below : List Frame} {meth : Method} {c : Code} {A : Nat → Prop} {Ke : State → Prop} {D : va_G} {cI cZ : ClassId} {E : State → Heap → Prop} {h0 : Nat} {ps : Nat → Nat} (h : gOk p s m args meth c cX10_lost 5 RX10 tb) (hE : mEok E A) (hkw : gKw Ke) (hKs : Ke s) (s0 : Ms) (t0 : Int32) (hr : meth.sig.returnType = some .int)  : gS p l e rm_X10_lost s m args below meth c 5 A (MW D cI cZ E A h0 ps) (fun X => MQ below (gPi (MW D cI cZ E A h0 ps) A X) args s rm_X10_lost.cells rm_X10_lost.slots A) 0 0 (M_lost_B91 s0 t0) s0 91 [] [.int t0] := by
  unfold M_lost_B91
  exact g_iret h (MW_mv hE) hr (Nat.le_refl _) (Nat.le_refl _) dX10_lost_91
def M_lost_B76 (s0 : Ms)  : Option (Int32 × Ms) :=
  bi (M_fail s0 (1 : Int32)) (fun r_78 s_78 =>
  M_lost_B91 s_78 r_78)
set_option maxHeartbeats 4000000 in
set_option maxRecDepth 100000 in
theorem M_lost_B76_w {p : Program} {l : Launch} {e : Env} {s : State} {m : MethodId} {args : Array Value} {below : List Frame} {meth : Method} {c : Code} {A : Nat → Prop} {Ke : State → Prop} {D : va_G} {cI cZ : ClassId} {E : State → Heap → Prop} {h0 : Nat} {ps : Nat → Nat} (h : gOk p s m args meth c cX10_lost 5 RX10 tb) (hE : mEok E A) (hkw : gKw Ke) (hKs : Ke s) (s0 : Ms)  (hr : meth.sig.returnType = some .int)  : gS p l e rm_X10_lost s m args below meth c 5 A (MW D cI cZ E A h0 ps) (fun X => MQ below (gPi (MW D cI cZ E A h0 ps) A X) args s rm_X10_lost.cells rm_X10_lost.slots A) 0 0 (M_lost_B76 s0) s0 76 [(0, .ref h0)] [] := by
  unfold M_lost_B76
  refine g_aload_n h 0 dX10_lost_76 rfl ?_
  refine g_iconst (v := 1) h dX10_lost_77 (by decide) ?_
  refine g_callV0i h (MW_mv hE) hkw hKs [.int (1 : Int32)] (c_X10_fail hE hkw s0 (1 : Int32)) yk_X10_fail tW_1111 ⟨(Nat.le_of_ble_eq_true rfl), (Nat.le_of_ble_eq_true rfl)⟩ MW_recv rfl rfl rfl rfl (Nat.le_of_ble_eq_true rfl) dX10_lost_78 ⟨Nat.zero_le _, Nat.zero_le _⟩ (fun r_78 s_78 => ?_)
  refine g_goto h 91 dX10_lost_81 (by decide) ?_
  refine g_lv [] [] rfl ?_
  exact M_lost_B91_w h hE hkw hKs _ _ hr
def M_lost_B59 (s0 : Ms) (t0 : Int32) (t1 : Int32) (t2 : Int32) (a4 : Int32) : Option (Int32 × Ms) :=
  (M_tell s0 t2 t1 t0).bind (fun s_59 =>
  if a4 < 0 then
    M_lost_B76 s_59
  else
    if a4 < s_59.1 52 then
      if okI a4 24 = true then
      M_lost_B91 s_59 (s_59.2 53 a4.toNatClampNeg)
      else none
    else
      M_lost_B76 s_59)
set_option maxHeartbeats 4000000 in
set_option maxRecDepth 100000 in
theorem M_lost_B59_w {p : Program} {l : Launch} {e : Env} {s : State} {m : MethodId} {args : Array Value} {below : List Frame} {meth : Method} {c : Code} {A : Nat → Prop} {Ke : State → Prop} {D : va_G} {cI cZ : ClassId} {E : State → Heap → Prop} {h0 : Nat} {ps : Nat → Nat} (h : gOk p s m args meth c cX10_lost 5 RX10 tb) (hE : mEok E A) (hkw : gKw Ke) (hKs : Ke s) (s0 : Ms) (t0 : Int32) (t1 : Int32) (t2 : Int32) (a4 : Int32) (hr : meth.sig.returnType = some .int)  : gS p l e rm_X10_lost s m args below meth c 5 A (MW D cI cZ E A h0 ps) (fun X => MQ below (gPi (MW D cI cZ E A h0 ps) A X) args s rm_X10_lost.cells rm_X10_lost.slots A) 0 0 (M_lost_B59 s0 t0 t1 t2 a4) s0 59 [(0, .ref h0), (4, .int a4)] [.int t0, .int t1, .int t2, .ref h0] := by
  unfold M_lost_B59
  refine g_callV0v h (MW_mv hE) hkw hKs [.int t2, .int t1, .int t0] (c_X10_tell hE hkw s0 t2 t1 t0) yk_X10_tell tW_1280 ⟨(Nat.le_of_ble_eq_true rfl), (Nat.le_of_ble_eq_true rfl)⟩ MW_recv rfl rfl rfl rfl (Nat.le_of_ble_eq_true rfl) dX10_lost_59 ⟨Nat.zero_le _, Nat.zero_le _⟩ (fun s_59 => ?_)
  refine g_iload h 1 dX10_lost_62 rfl ?_
  refine g_if_lt h 76 dX10_lost_64 (by decide) ?_ ?_
  · refine g_lv [(0, .ref h0)] [0] rfl ?_
    exact M_lost_B76_w h hE hkw hKs _  hr
  · refine g_iload h 1 dX10_lost_67 rfl ?_
    refine g_aload_n h 0 dX10_lost_69 rfl ?_
    refine m_get h hinX10 52 (by decide) rfl tW_958 dX10_lost_70 ?_
    refine g_icmp_lt h 84 dX10_lost_73 (by decide) ?_ ?_
    · refine g_aload_n h 0 dX10_lost_84 rfl ?_
      refine m_geta h hinX10 53 (by decide) rfl tW_959 dX10_lost_85 ?_
      refine g_iload h 1 dX10_lost_88 rfl ?_
      refine m_iald h 53 rfl rfl 24 rfl dX10_lost_90 ?_
      refine g_lv [] [] rfl ?_
      exact M_lost_B91_w h hE hkw hKs _ _ hr
    · refine g_lv [(0, .ref h0)] [0] rfl ?_
      exact M_lost_B76_w h hE hkw hKs _  hr
def M_lost_B39 (s0 : Ms) (a1 : Int32) (a2 : Int32) (a3 : Int32) (a4 : Int32) : Option (Int32 × Ms) :=
  if a3 = (-1 : Int32) then
    (M_force s0 (s0.1 1)).bind (fun r_52 =>
    M_lost_B59 s0 r_52 a2 a1 a4)
  else
    M_lost_B59 s0 a3 a2 a1 a4
set_option maxHeartbeats 4000000 in
set_option maxRecDepth 100000 in
theorem M_lost_B39_w {p : Program} {l : Launch} {e : Env} {s : State} {m : MethodId} {args : Array Value} {below : List Frame} {meth : Method} {c : Code} {A : Nat → Prop} {Ke : State → Prop} {D : va_G} {cI cZ : ClassId} {E : State → Heap → Prop} {h0 : Nat} {ps : Nat → Nat} (h : gOk p s m args meth c cX10_lost 5 RX10 tb) (hE : mEok E A) (hkw : gKw Ke) (hKs : Ke s) (s0 : Ms) (a1 : Int32) (a2 : Int32) (a3 : Int32) (a4 : Int32) (hr : meth.sig.returnType = some .int)  : gS p l e rm_X10_lost s m args below meth c 5 A (MW D cI cZ E A h0 ps) (fun X => MQ below (gPi (MW D cI cZ E A h0 ps) A X) args s rm_X10_lost.cells rm_X10_lost.slots A) 0 0 (M_lost_B39 s0 a1 a2 a3 a4) s0 39 [(0, .ref h0), (1, .int a1), (2, .int a2), (3, .int a3), (4, .int a4)] [] := by
  unfold M_lost_B39
  refine g_aload_n h 0 dX10_lost_39 rfl ?_
  refine g_iload_n h 1 dX10_lost_40 rfl ?_
  refine g_iload_n h 2 dX10_lost_41 rfl ?_
  refine g_iload_n h 3 dX10_lost_42 rfl ?_
  refine g_iconst (v := -1) h dX10_lost_43 (by decide) ?_
  refine g_icmp_ne h 58 dX10_lost_44 (by decide) ?_ ?_
  · refine g_iload_n h 3 dX10_lost_58 rfl ?_
    refine g_lv [(0, .ref h0), (4, .int a4)] [0, 4] rfl ?_
    exact M_lost_B59_w h hE hkw hKs _ _ _ _ _ hr
  · refine g_aload_n h 0 dX10_lost_47 rfl ?_
    refine g_aload_n h 0 dX10_lost_48 rfl ?_
    refine m_get h hinX10 1 (by decide) rfl tW_907 dX10_lost_49 ?_
    refine g_callV0p h (MW_mv hE) hkw hKs [.int (s0.1 1)] (c_X10_force hE hkw s0 (s0.1 1)) yk_X10_force tW_1244 ⟨(Nat.le_of_ble_eq_true rfl), (Nat.le_of_ble_eq_true rfl)⟩ MW_recv rfl rfl rfl rfl (Nat.le_of_ble_eq_true rfl) dX10_lost_52 ⟨Nat.zero_le _, Nat.zero_le _⟩ (fun r_52 => ?_)
    refine g_goto h 59 dX10_lost_55 (by decide) ?_
    refine g_lv [(0, .ref h0), (4, .int a4)] [0, 4] rfl ?_
    exact M_lost_B59_w h hE hkw hKs _ _ _ _ _ hr
def M_lost (s0 : Ms) (a1 : Int32) (a2 : Int32) (a3 : Int32) (a4 : Int32) : Option (Int32 × Ms) :=
  bnd (mSet s0 0 (0 : Int32)) (fun s_2 =>
  (M_isThing s_2 a1).bind (fun r_7 =>
  if r_7 = 0 then
    M_lost_B33 s_2
  else
    (M_isField s_2 a2).bind (fun r_14 =>
    if r_14 = 0 then
      M_lost_B33 s_2
    else
      if a3 = (-1 : Int32) then
        M_lost_B39 s_2 a1 a2 a3 a4
      else
        (M_isSet s_2 a3).bind (fun r_27 =>
        if r_27 = 0 then
          M_lost_B33 s_2
        else
          M_lost_B39 s_2 a1 a2 a3 a4))))
set_option maxHeartbeats 4000000 in
set_option maxRecDepth 100000 in
theorem c_X10_lost {l : Launch} {A : Nat → Prop} {Ke : State → Prop} {D : va_G} {cI cZ : ClassId} {E : State → Heap → Prop} {h0 : Nat} {ps : Nat → Nat} (hE : mEok E A) (hkw : gKw Ke) (s0 : Ms) (a1 : Int32) (a2 : Int32) (a3 : Int32) (a4 : Int32) : gCi l yX10_lost cX10_lost 5 (some .int) rm_X10_lost Ke (MW D cI cZ E A h0 ps) A [.ref h0, .int a1, .int a2, .int a3, .int a4] s0 (M_lost s0 a1 a2 a3 a4) := by
  refine g_meti (by decide) (by simp [lg_sl, Value.category]) ?_
  intro p e s m below meth c h hr hKs
  refine g_lv [(0, .ref h0), (1, .int a1), (2, .int a2), (3, .int a3), (4, .int a4)] [0, 1, 2, 3, 4] rfl ?_
  unfold M_lost
  refine g_aload_n h 0 dX10_lost_0 rfl ?_
  refine g_iconst (v := 0) h dX10_lost_1 (by decide) ?_
  refine m_put h hE hinX10 0 (by decide) rfl rfl rfl tW_906 dX10_lost_2 ?_
  refine g_bnd (fun s_2 => ?_)
  refine g_aload_n h 0 dX10_lost_5 rfl ?_
  refine g_iload_n h 1 dX10_lost_6 rfl ?_
  refine g_callV0p h (MW_mv hE) hkw hKs [.int a1] (c_X10_isThing hE hkw s_2 a1) yk_X10_isThing tW_1222 ⟨(Nat.le_of_ble_eq_true rfl), (Nat.le_of_ble_eq_true rfl)⟩ MW_recv rfl rfl rfl rfl (Nat.le_of_ble_eq_true rfl) dX10_lost_7 ⟨Nat.zero_le _, Nat.zero_le _⟩ (fun r_7 => ?_)
  refine g_if_eq h 33 dX10_lost_10 (by decide) ?_ ?_
  · refine g_lv [(0, .ref h0)] [0] rfl ?_
    exact M_lost_B33_w h hE hkw hKs _  hr
  · refine g_iload_n h 2 dX10_lost_13 rfl ?_
    refine g_callS0p h (MW_mv hE) hkw hKs [.int a2] (c_X10_isField (MW_mv hE) hkw s_2 a2) yk_X10_isField tW_1234 ⟨(Nat.le_of_ble_eq_true rfl), (Nat.le_of_ble_eq_true rfl)⟩ rfl rfl rfl rfl (Nat.le_of_ble_eq_true rfl) dX10_lost_14 ⟨Nat.zero_le _, Nat.zero_le _⟩ (fun r_14 => ?_)
    refine g_if_eq h 33 dX10_lost_17 (by decide) ?_ ?_
    · refine g_lv [(0, .ref h0)] [0] rfl ?_
      exact M_lost_B33_w h hE hkw hKs _  hr
    · refine g_iload_n h 3 dX10_lost_20 rfl ?_
      refine g_iconst (v := -1) h dX10_lost_21 (by decide) ?_
      refine g_icmp_eq h 39 dX10_lost_22 (by decide) ?_ ?_
      · exact M_lost_B39_w h hE hkw hKs _ _ _ _ _ hr
      · refine g_aload_n h 0 dX10_lost_25 rfl ?_
        refine g_iload_n h 3 dX10_lost_26 rfl ?_
        refine g_callV0p h (MW_mv hE) hkw hKs [.int a3] (c_X10_isSet hE hkw s_2 a3) yk_X10_isSet tW_1301 ⟨(Nat.le_of_ble_eq_true rfl), (Nat.le_of_ble_eq_true rfl)⟩ MW_recv rfl rfl rfl rfl (Nat.le_of_ble_eq_true rfl) dX10_lost_27 ⟨Nat.zero_le _, Nat.zero_le _⟩ (fun r_27 => ?_)
        refine g_if_ne h 39 dX10_lost_30 (by decide) ?_ ?_
        · exact M_lost_B39_w h hE hkw hKs _ _ _ _ _ hr
        · refine g_lv [(0, .ref h0)] [0] rfl ?_
          exact M_lost_B33_w h hE hkw hKs _  hr
def rm_X10_why : Room := { frames := 10, cells := 0, slots := 0, locals := 239 }
theorem yk_X10_why : yOkV yX10_why cX10_why 3 (some .int) RX10 2 := ⟨tW_1312, tW_5, tW_1310, tW_1311, by decide, by decide, by decide +kernel⟩
def M_why_B20 (s0 : Ms)  : Option (Int32 × Ms) :=
  bi (M_fail s0 (1 : Int32)) (fun r_22 s_22 =>
  some (r_22, s_22))
set_option maxHeartbeats 4000000 in
set_option maxRecDepth 100000 in
theorem M_why_B20_w {p : Program} {l : Launch} {e : Env} {s : State} {m : MethodId} {args : Array Value} {below : List Frame} {meth : Method} {c : Code} {A : Nat → Prop} {Ke : State → Prop} {D : va_G} {cI cZ : ClassId} {E : State → Heap → Prop} {h0 : Nat} {ps : Nat → Nat} (h : gOk p s m args meth c cX10_why 3 RX10 tb) (hE : mEok E A) (hkw : gKw Ke) (hKs : Ke s) (s0 : Ms)  (hr : meth.sig.returnType = some .int)  : gS p l e rm_X10_why s m args below meth c 3 A (MW D cI cZ E A h0 ps) (fun X => MQ below (gPi (MW D cI cZ E A h0 ps) A X) args s rm_X10_why.cells rm_X10_why.slots A) 0 0 (M_why_B20 s0) s0 20 [(0, .ref h0)] [] := by
  unfold M_why_B20
  refine g_aload_n h 0 dX10_why_20 rfl ?_
  refine g_iconst (v := 1) h dX10_why_21 (by decide) ?_
  refine g_callV0i h (MW_mv hE) hkw hKs [.int (1 : Int32)] (c_X10_fail hE hkw s0 (1 : Int32)) yk_X10_fail tW_1111 ⟨(Nat.le_of_ble_eq_true rfl), (Nat.le_of_ble_eq_true rfl)⟩ MW_recv rfl rfl rfl rfl (Nat.le_of_ble_eq_true rfl) dX10_why_22 ⟨Nat.zero_le _, Nat.zero_le _⟩ (fun r_22 s_22 => ?_)
  exact g_iret h (MW_mv hE) hr (Nat.le_refl _) (Nat.le_refl _) dX10_why_25
def M_why_B70 (s0 : Ms) (t0 : Int32) : Option (Int32 × Ms) :=
  some (t0, s0)
set_option maxHeartbeats 4000000 in
set_option maxRecDepth 100000 in
theorem M_why_B70_w {p : Program} {l : Launch} {e : Env} {s : State} {m : MethodId} {args : Array Value} {below : List Frame} {meth : Method} {c : Code} {A : Nat → Prop} {Ke : State → Prop} {D : va_G} {cI cZ : ClassId} {E : State → Heap → Prop} {h0 : Nat} {ps : Nat → Nat} (h : gOk p s m args meth c cX10_why 3 RX10 tb) (hE : mEok E A) (hkw : gKw Ke) (hKs : Ke s) (s0 : Ms) (t0 : Int32) (hr : meth.sig.returnType = some .int)  : gS p l e rm_X10_why s m args below meth c 3 A (MW D cI cZ E A h0 ps) (fun X => MQ below (gPi (MW D cI cZ E A h0 ps) A X) args s rm_X10_why.cells rm_X10_why.slots A) 0 0 (M_why_B70 s0 t0) s0 70 [] [.int t0] := by
  unfold M_why_B70
  exact g_iret h (MW_mv hE) hr (Nat.le_refl _) (Nat.le_refl _) dX10_why_70
def M_why (s0 : Ms) (a1 : Int32) (a2 : Int32) : Option (Int32 × Ms) :=
  bnd (mSet s0 0 (0 : Int32)) (fun s_2 =>
  (M_isThing s_2 a1).bind (fun r_7 =>
  if r_7 = 0 then
    M_why_B20 s_2
  else
    (M_isField s_2 a2).bind (fun r_14 =>
    if r_14 = 0 then
      M_why_B20 s_2
    else
      bi (M_isDue s_2 a1 a2 (s_2.1 1)) (fun r_33 s_33 =>
      if r_33 = 0 then
        (M_isHeld s_33 a1 a2).bind (fun r_44 =>
        if r_44 = 0 then
          if s_33.1 48 ≤ s_33.1 1 then
            M_why_B70 s_33 (3 : Int32)
          else
            M_why_B70 s_33 (2 : Int32)
        else
          M_why_B70 s_33 (1 : Int32))
      else
        some ((0 : Int32), s_33)))))
set_option maxHeartbeats 4000000 in
set_option maxRecDepth 100000 in
theorem c_X10_why {l : Launch} {A : Nat → Prop} {Ke : State → Prop} {D : va_G} {cI cZ : ClassId} {E : State → Heap → Prop} {h0 : Nat} {ps : Nat → Nat} (hE : mEok E A) (hkw : gKw Ke) (s0 : Ms) (a1 : Int32) (a2 : Int32) : gCi l yX10_why cX10_why 3 (some .int) rm_X10_why Ke (MW D cI cZ E A h0 ps) A [.ref h0, .int a1, .int a2] s0 (M_why s0 a1 a2) := by
  refine g_meti (by decide) (by simp [lg_sl, Value.category]) ?_
  intro p e s m below meth c h hr hKs
  refine g_lv [(0, .ref h0), (1, .int a1), (2, .int a2)] [0, 1, 2] rfl ?_
  unfold M_why
  refine g_aload_n h 0 dX10_why_0 rfl ?_
  refine g_iconst (v := 0) h dX10_why_1 (by decide) ?_
  refine m_put h hE hinX10 0 (by decide) rfl rfl rfl tW_906 dX10_why_2 ?_
  refine g_bnd (fun s_2 => ?_)
  refine g_aload_n h 0 dX10_why_5 rfl ?_
  refine g_iload_n h 1 dX10_why_6 rfl ?_
  refine g_callV0p h (MW_mv hE) hkw hKs [.int a1] (c_X10_isThing hE hkw s_2 a1) yk_X10_isThing tW_1222 ⟨(Nat.le_of_ble_eq_true rfl), (Nat.le_of_ble_eq_true rfl)⟩ MW_recv rfl rfl rfl rfl (Nat.le_of_ble_eq_true rfl) dX10_why_7 ⟨Nat.zero_le _, Nat.zero_le _⟩ (fun r_7 => ?_)
  refine g_if_eq h 20 dX10_why_10 (by decide) ?_ ?_
  · refine g_lv [(0, .ref h0)] [0] rfl ?_
    exact M_why_B20_w h hE hkw hKs _  hr
  · refine g_iload_n h 2 dX10_why_13 rfl ?_
    refine g_callS0p h (MW_mv hE) hkw hKs [.int a2] (c_X10_isField (MW_mv hE) hkw s_2 a2) yk_X10_isField tW_1234 ⟨(Nat.le_of_ble_eq_true rfl), (Nat.le_of_ble_eq_true rfl)⟩ rfl rfl rfl rfl (Nat.le_of_ble_eq_true rfl) dX10_why_14 ⟨Nat.zero_le _, Nat.zero_le _⟩ (fun r_14 => ?_)
    refine g_if_ne h 26 dX10_why_17 (by decide) ?_ ?_
    · refine g_aload_n h 0 dX10_why_26 rfl ?_
      refine g_iload_n h 1 dX10_why_27 rfl ?_
      refine g_iload_n h 2 dX10_why_28 rfl ?_
      refine g_aload_n h 0 dX10_why_29 rfl ?_
      refine m_get h hinX10 1 (by decide) rfl tW_907 dX10_why_30 ?_
      refine g_callV0i h (MW_mv hE) hkw hKs [.int a1, .int a2, .int (s_2.1 1)] (c_X10_isDue hE hkw s_2 a1 a2 (s_2.1 1)) yk_X10_isDue tW_1272 ⟨(Nat.le_of_ble_eq_true rfl), (Nat.le_of_ble_eq_true rfl)⟩ MW_recv rfl rfl rfl rfl (Nat.le_of_ble_eq_true rfl) dX10_why_33 ⟨Nat.zero_le _, Nat.zero_le _⟩ (fun r_33 s_33 => ?_)
      refine g_if_eq h 41 dX10_why_36 (by decide) ?_ ?_
      · refine g_aload_n h 0 dX10_why_41 rfl ?_
        refine g_iload_n h 1 dX10_why_42 rfl ?_
        refine g_iload_n h 2 dX10_why_43 rfl ?_
        refine g_callV0p h (MW_mv hE) hkw hKs [.int a1, .int a2] (c_X10_isHeld hE hkw s_33 a1 a2) yk_X10_isHeld tW_1293 ⟨(Nat.le_of_ble_eq_true rfl), (Nat.le_of_ble_eq_true rfl)⟩ MW_recv rfl rfl rfl rfl (Nat.le_of_ble_eq_true rfl) dX10_why_44 ⟨Nat.zero_le _, Nat.zero_le _⟩ (fun r_44 => ?_)
        refine g_if_eq h 54 dX10_why_47 (by decide) ?_ ?_
        · refine g_aload_n h 0 dX10_why_54 rfl ?_
          refine m_get h hinX10 48 (by decide) rfl tW_954 dX10_why_55 ?_
          refine g_aload_n h 0 dX10_why_58 rfl ?_
          refine m_get h hinX10 1 (by decide) rfl tW_907 dX10_why_59 ?_
          refine g_icmp_le h 69 dX10_why_62 (by decide) ?_ ?_
          · refine g_iconst (v := 3) h dX10_why_69 (by decide) ?_
            refine g_lv [] [] rfl ?_
            exact M_why_B70_w h hE hkw hKs _ _ hr
          · refine g_iconst (v := 2) h dX10_why_65 (by decide) ?_
            refine g_goto h 70 dX10_why_66 (by decide) ?_
            refine g_lv [] [] rfl ?_
            exact M_why_B70_w h hE hkw hKs _ _ hr
        · refine g_iconst (v := 1) h dX10_why_50 (by decide) ?_
          refine g_goto h 70 dX10_why_51 (by decide) ?_
          refine g_lv [] [] rfl ?_
          exact M_why_B70_w h hE hkw hKs _ _ hr
      · refine g_iconst (v := 0) h dX10_why_39 (by decide) ?_
        exact g_iret h (MW_mv hE) hr (Nat.le_refl _) (Nat.le_refl _) dX10_why_40
    · refine g_lv [(0, .ref h0)] [0] rfl ?_
      exact M_why_B20_w h hE hkw hKs _  hr
def rm_X10_places : Room := { frames := 2, cells := 0, slots := 0, locals := 52 }
theorem yk_X10_places : yOkV yX10_places cX10_places 3 (some .int) RX10 2 := ⟨tW_1316, tW_5, tW_1314, tW_1315, by decide, by decide, by decide +kernel⟩
def M_places_B34 (s0 : Ms) (t0 : Int32) : Option (Int32 × Ms) :=
  some (t0, s0)
set_option maxHeartbeats 4000000 in
set_option maxRecDepth 100000 in
theorem M_places_B34_w {p : Program} {l : Launch} {e : Env} {s : State} {m : MethodId} {args : Array Value} {below : List Frame} {meth : Method} {c : Code} {A : Nat → Prop} {Ke : State → Prop} {D : va_G} {cI cZ : ClassId} {E : State → Heap → Prop} {h0 : Nat} {ps : Nat → Nat} (h : gOk p s m args meth c cX10_places 3 RX10 tb) (hE : mEok E A) (hkw : gKw Ke) (hKs : Ke s) (s0 : Ms) (t0 : Int32) (hr : meth.sig.returnType = some .int)  : gS p l e rm_X10_places s m args below meth c 3 A (MW D cI cZ E A h0 ps) (fun X => MQ below (gPi (MW D cI cZ E A h0 ps) A X) args s rm_X10_places.cells rm_X10_places.slots A) 0 0 (M_places_B34 s0 t0) s0 34 [] [.int t0] := by
  unfold M_places_B34
  exact g_iret h (MW_mv hE) hr (Nat.le_refl _) (Nat.le_refl _) dX10_places_34
def M_places_B29 (s0 : Ms)  : Option (Int32 × Ms) :=
  bi (M_fail s0 (1 : Int32)) (fun r_31 s_31 =>
  M_places_B34 s_31 r_31)
set_option maxHeartbeats 4000000 in
set_option maxRecDepth 100000 in
theorem M_places_B29_w {p : Program} {l : Launch} {e : Env} {s : State} {m : MethodId} {args : Array Value} {below : List Frame} {meth : Method} {c : Code} {A : Nat → Prop} {Ke : State → Prop} {D : va_G} {cI cZ : ClassId} {E : State → Heap → Prop} {h0 : Nat} {ps : Nat → Nat} (h : gOk p s m args meth c cX10_places 3 RX10 tb) (hE : mEok E A) (hkw : gKw Ke) (hKs : Ke s) (s0 : Ms)  (hr : meth.sig.returnType = some .int)  : gS p l e rm_X10_places s m args below meth c 3 A (MW D cI cZ E A h0 ps) (fun X => MQ below (gPi (MW D cI cZ E A h0 ps) A X) args s rm_X10_places.cells rm_X10_places.slots A) 0 0 (M_places_B29 s0) s0 29 [(0, .ref h0)] [] := by
  unfold M_places_B29
  refine g_aload_n h 0 dX10_places_29 rfl ?_
  refine g_iconst (v := 1) h dX10_places_30 (by decide) ?_
  refine g_callV0i h (MW_mv hE) hkw hKs [.int (1 : Int32)] (c_X10_fail hE hkw s0 (1 : Int32)) yk_X10_fail tW_1111 ⟨(Nat.le_of_ble_eq_true rfl), (Nat.le_of_ble_eq_true rfl)⟩ MW_recv rfl rfl rfl rfl (Nat.le_of_ble_eq_true rfl) dX10_places_31 ⟨Nat.zero_le _, Nat.zero_le _⟩ (fun r_31 s_31 => ?_)
  refine g_lv [] [] rfl ?_
  exact M_places_B34_w h hE hkw hKs _ _ hr
def M_places (s0 : Ms) (a1 : Int32) (a2 : Int32) : Option (Int32 × Ms) :=
  bnd (mSet s0 0 (0 : Int32)) (fun s_2 =>
  (M_isThing s_2 a1).bind (fun r_7 =>
  if r_7 = 0 then
    M_places_B29 s_2
  else
    (M_isField s_2 a2).bind (fun r_14 =>
    if r_14 = 0 then
      M_places_B29 s_2
    else
      (M_placesOf s_2 a1 a2).bind (fun r_23 =>
      M_places_B34 s_2 r_23))))
set_option maxHeartbeats 4000000 in
set_option maxRecDepth 100000 in
theorem c_X10_places {l : Launch} {A : Nat → Prop} {Ke : State → Prop} {D : va_G} {cI cZ : ClassId} {E : State → Heap → Prop} {h0 : Nat} {ps : Nat → Nat} (hE : mEok E A) (hkw : gKw Ke) (s0 : Ms) (a1 : Int32) (a2 : Int32) : gCi l yX10_places cX10_places 3 (some .int) rm_X10_places Ke (MW D cI cZ E A h0 ps) A [.ref h0, .int a1, .int a2] s0 (M_places s0 a1 a2) := by
  refine g_meti (by decide) (by simp [lg_sl, Value.category]) ?_
  intro p e s m below meth c h hr hKs
  refine g_lv [(0, .ref h0), (1, .int a1), (2, .int a2)] [0, 1, 2] rfl ?_
  unfold M_places
  refine g_aload_n h 0 dX10_places_0 rfl ?_
  refine g_iconst (v := 0) h dX10_places_1 (by decide) ?_
  refine m_put h hE hinX10 0 (by decide) rfl rfl rfl tW_906 dX10_places_2 ?_
  refine g_bnd (fun s_2 => ?_)
  refine g_aload_n h 0 dX10_places_5 rfl ?_
  refine g_iload_n h 1 dX10_places_6 rfl ?_
  refine g_callV0p h (MW_mv hE) hkw hKs [.int a1] (c_X10_isThing hE hkw s_2 a1) yk_X10_isThing tW_1222 ⟨(Nat.le_of_ble_eq_true rfl), (Nat.le_of_ble_eq_true rfl)⟩ MW_recv rfl rfl rfl rfl (Nat.le_of_ble_eq_true rfl) dX10_places_7 ⟨Nat.zero_le _, Nat.zero_le _⟩ (fun r_7 => ?_)
  refine g_if_eq h 29 dX10_places_10 (by decide) ?_ ?_
  · refine g_lv [(0, .ref h0)] [0] rfl ?_
    exact M_places_B29_w h hE hkw hKs _  hr
  · refine g_iload_n h 2 dX10_places_13 rfl ?_
    refine g_callS0p h (MW_mv hE) hkw hKs [.int a2] (c_X10_isField (MW_mv hE) hkw s_2 a2) yk_X10_isField tW_1234 ⟨(Nat.le_of_ble_eq_true rfl), (Nat.le_of_ble_eq_true rfl)⟩ rfl rfl rfl rfl (Nat.le_of_ble_eq_true rfl) dX10_places_14 ⟨Nat.zero_le _, Nat.zero_le _⟩ (fun r_14 => ?_)
    refine g_if_eq h 29 dX10_places_17 (by decide) ?_ ?_
    · refine g_lv [(0, .ref h0)] [0] rfl ?_
      exact M_places_B29_w h hE hkw hKs _  hr
    · refine g_aload_n h 0 dX10_places_20 rfl ?_
      refine g_iload_n h 1 dX10_places_21 rfl ?_
      refine g_iload_n h 2 dX10_places_22 rfl ?_
      refine g_callV0p h (MW_mv hE) hkw hKs [.int a1, .int a2] (c_X10_placesOf hE hkw s_2 a1 a2) yk_X10_placesOf tW_1240 ⟨(Nat.le_of_ble_eq_true rfl), (Nat.le_of_ble_eq_true rfl)⟩ MW_recv rfl rfl rfl rfl (Nat.le_of_ble_eq_true rfl) dX10_places_23 ⟨Nat.zero_le _, Nat.zero_le _⟩ (fun r_23 => ?_)
      refine g_goto h 34 dX10_places_26 (by decide) ?_
      refine g_lv [] [] rfl ?_
      exact M_places_B34_w h hE hkw hKs _ _ hr
def rm_X10_ones : Room := { frames := 0, cells := 0, slots := 0, locals := 0 }
theorem yk_X10_ones : yOkS yX10_ones cX10_ones 3 (some .int) 1 := ⟨tW_1323, tW_5, tW_1322, by decide, by decide, by decide +kernel⟩
def M_ones_L4 {S : Type} {Rt : Type} (s0 : S) (k20 : Int32 → Option Rt) : Nat → Int32 → Int32 → Option Rt
  | 0, _, _ => none
  | F + 1, l1, l2 =>
  if l2 = 0 then
      k20 l1
    else
      bnd (l2 &&& (l2 - (1 : Int32))) (fun v2_16 =>
      M_ones_L4 s0 k20 F (l1 + 1) v2_16)
set_option maxHeartbeats 4000000 in
set_option maxRecDepth 100000 in
theorem M_ones_L4_w {p : Program} {l : Launch} {e : Env} {s : State} {m : MethodId} {args : Array Value} {below : List Frame} {meth : Method} {c : Code} {A : Nat → Prop} {Ke : State → Prop} {S : Type} {Wd : S → State → Heap → Prop} (h : gOk p s m args meth c cX10_ones 3 RX10 tb) (hmv : gMv Wd) (hkw : gKw Ke) (hKs : Ke s) {Rt : Type} {QX : Rt → State → Prop} (s0 : S)  {k20 : Int32 → Option Rt} (hk20 : ∀ (l1 : Int32), gS p l e rm_X10_ones s m args below meth c 3 A Wd QX 0 0 (k20 l1) s0 20 [(1, .int l1)] []) : ∀ (F : Nat) (l1 : Int32) (l2 : Int32), gS p l e rm_X10_ones s m args below meth c 3 A Wd QX 0 0 (M_ones_L4 s0 k20 F l1 l2) s0 4 [(1, .int l1), (2, .int l2)] [] := by
  intro F
  induction F with
  | zero =>
    intro l1 l2
    unfold M_ones_L4
    exact g_none
  | succ F ih =>
    intro l1 l2
    unfold M_ones_L4
    refine g_iload_n h 1 dX10_ones_4 rfl ?_
    refine g_if_eq h 20 dX10_ones_5 (by decide) ?_ ?_
    · refine g_lv [(1, .int l1)] [0] rfl ?_
      exact hk20 _
    · refine g_iinc (v := l1 + 1) (i := 0) h [(1, .int (l1 + 1)), (2, .int l2)] dX10_ones_8 rfl rfl (by decide) rfl ?_
      refine g_iload_n h 1 dX10_ones_11 rfl ?_
      refine g_iload_n h 1 dX10_ones_12 rfl ?_
      refine g_iconst (v := 1) h dX10_ones_13 (by decide) ?_
      refine g_isub h dX10_ones_14 ?_
      refine g_iand h dX10_ones_15 ?_
      refine g_bndi (fun v2_16 => ?_)
      refine g_istore_n h [(2, .int v2_16), (1, .int (l1 + 1))] dX10_ones_16 (by decide) rfl ?_
      refine g_goto h 4 dX10_ones_17 (by decide) ?_
      refine g_lv [(1, .int (l1 + 1)), (2, .int v2_16)] [1, 0] rfl ?_
      exact ih _ _
def M_ones {S : Type} (s0 : S) (a0 : Int32) : Option (Int32) :=
  M_ones_L4 s0 (fun v1_20 => some v1_20) gF (0 : Int32) a0
set_option maxHeartbeats 4000000 in
set_option maxRecDepth 100000 in
theorem c_X10_ones {l : Launch} {A : Nat → Prop} {Ke : State → Prop} {S : Type} {Wd : S → State → Heap → Prop} (hmv : gMv Wd) (hkw : gKw Ke) (s0 : S) (a0 : Int32) : gCp l yX10_ones cX10_ones 3 (some .int) rm_X10_ones Ke Wd A [.int a0] s0 (M_ones s0 a0) := by
  refine g_metp (by decide) (by simp [lg_sl, Value.category]) ?_
  intro p e s m below meth c h hr hKs
  refine g_lv [(0, .int a0)] [0] rfl ?_
  unfold M_ones
  refine g_iconst (v := 0) h dX10_ones_0 (by decide) ?_
  refine g_istore_n h [(1, .int (0 : Int32)), (0, .int a0)] dX10_ones_1 (by decide) rfl ?_
  refine g_iload_n h 1 dX10_ones_2 rfl ?_
  refine g_istore_n h [(2, .int a0), (1, .int (0 : Int32)), (0, .int a0)] dX10_ones_3 (by decide) rfl ?_
  refine g_lv [(1, .int (0 : Int32)), (2, .int a0)] [1, 0] rfl ?_
  refine M_ones_L4_w h hmv hkw hKs _  (fun v1_20 => ?_) _ _ _
  · refine g_iload_n h 0 dX10_ones_20 rfl ?_
    exact g_iretp h hmv hr (Nat.le_refl _) (Nat.le_refl _) dX10_ones_21
def rm_X10_misplaced : Room := { frames := 2, cells := 0, slots := 0, locals := 52 }
theorem yk_X10_misplaced : yOkV yX10_misplaced cX10_misplaced 4 (some .int) RX10 0 := ⟨tW_1320, tW_5, tW_1318, tW_1319, by decide, by decide, by decide +kernel⟩
def M_misplaced_L19 {Rt : Type} (s0 : Ms) (l2 : Int32) (k57 : Int32 → Option Rt) : Nat → Int32 → Int32 → Option Rt
  | 0, _, _ => none
  | F + 1, l1, l3 =>
  if (8 : Int32) ≤ l3 then
      k57 l1
    else
      if okI (((8 : Int32) * l2) + l3) 240 = true then
      (M_placesOf s0 l2 l3).bind (fun r_40 =>
      (M_ones s0 ((s0.2 12 (((8 : Int32) * l2) + l3).toNatClampNeg) &&& (r_40 ^^^ (-1 : Int32)))).bind (fun r_46 =>
      bnd (l1 + r_46) (fun v1_50 =>
      M_misplaced_L19 s0 l2 k57 F v1_50 (l3 + 1))))
      else none
set_option maxHeartbeats 4000000 in
set_option maxRecDepth 100000 in
theorem M_misplaced_L19_w {p : Program} {l : Launch} {e : Env} {s : State} {m : MethodId} {args : Array Value} {below : List Frame} {meth : Method} {c : Code} {A : Nat → Prop} {Ke : State → Prop} {D : va_G} {cI cZ : ClassId} {E : State → Heap → Prop} {h0 : Nat} {ps : Nat → Nat} (h : gOk p s m args meth c cX10_misplaced 4 RX10 tb) (hE : mEok E A) (hkw : gKw Ke) (hKs : Ke s) {Rt : Type} {QX : Rt → State → Prop} (s0 : Ms) (l2 : Int32) {k57 : Int32 → Option Rt} (hk57 : ∀ (l1 : Int32), gS p l e rm_X10_misplaced s m args below meth c 4 A (MW D cI cZ E A h0 ps) QX 0 0 (k57 l1) s0 57 [(0, .ref h0), (1, .int l1), (2, .int l2)] []) : ∀ (F : Nat) (l1 : Int32) (l3 : Int32), gS p l e rm_X10_misplaced s m args below meth c 4 A (MW D cI cZ E A h0 ps) QX 0 0 (M_misplaced_L19 s0 l2 k57 F l1 l3) s0 19 [(0, .ref h0), (1, .int l1), (2, .int l2), (3, .int l3)] [] := by
  intro F
  induction F with
  | zero =>
    intro l1 l3
    unfold M_misplaced_L19
    exact g_none
  | succ F ih =>
    intro l1 l3
    unfold M_misplaced_L19
    refine g_iload_n h 3 dX10_misplaced_19 rfl ?_
    refine g_bipush (v := 8) h dX10_misplaced_20 (by decide) ?_
    refine g_icmp_ge h 57 dX10_misplaced_22 (by decide) ?_ ?_
    · refine g_lv [(0, .ref h0), (1, .int l1), (2, .int l2)] [0, 1, 2] rfl ?_
      exact hk57 _
    · refine g_iload_n h 1 dX10_misplaced_25 rfl ?_
      refine g_aload_n h 0 dX10_misplaced_26 rfl ?_
      refine m_geta h hinX10 12 (by decide) rfl tW_918 dX10_misplaced_27 ?_
      refine g_bipush (v := 8) h dX10_misplaced_30 (by decide) ?_
      refine g_iload_n h 2 dX10_misplaced_32 rfl ?_
      refine g_imul h dX10_misplaced_33 ?_
      refine g_iload_n h 3 dX10_misplaced_34 rfl ?_
      refine g_iadd h dX10_misplaced_35 ?_
      refine m_iald h 12 rfl rfl 240 rfl dX10_misplaced_36 ?_
      refine g_aload_n h 0 dX10_misplaced_37 rfl ?_
      refine g_iload_n h 2 dX10_misplaced_38 rfl ?_
      refine g_iload_n h 3 dX10_misplaced_39 rfl ?_
      refine g_callV0p h (MW_mv hE) hkw hKs [.int l2, .int l3] (c_X10_placesOf hE hkw s0 l2 l3) yk_X10_placesOf tW_1240 ⟨(Nat.le_of_ble_eq_true rfl), (Nat.le_of_ble_eq_true rfl)⟩ MW_recv rfl rfl rfl rfl (Nat.le_of_ble_eq_true rfl) dX10_misplaced_40 ⟨Nat.zero_le _, Nat.zero_le _⟩ (fun r_40 => ?_)
      refine g_iconst (v := -1) h dX10_misplaced_43 (by decide) ?_
      refine g_ixor h dX10_misplaced_44 ?_
      refine g_iand h dX10_misplaced_45 ?_
      refine g_callS0p h (MW_mv hE) hkw hKs [.int ((s0.2 12 (((8 : Int32) * l2) + l3).toNatClampNeg) &&& (r_40 ^^^ (-1 : Int32)))] (c_X10_ones (MW_mv hE) hkw s0 ((s0.2 12 (((8 : Int32) * l2) + l3).toNatClampNeg) &&& (r_40 ^^^ (-1 : Int32)))) yk_X10_ones tW_1321 ⟨(Nat.le_of_ble_eq_true rfl), (Nat.le_of_ble_eq_true rfl)⟩ rfl rfl rfl rfl (Nat.le_of_ble_eq_true rfl) dX10_misplaced_46 ⟨Nat.zero_le _, Nat.zero_le _⟩ (fun r_46 => ?_)
      refine g_iadd h dX10_misplaced_49 ?_
      refine g_bndi (fun v1_50 => ?_)
      refine g_istore_n h [(1, .int v1_50), (0, .ref h0), (2, .int l2), (3, .int l3)] dX10_misplaced_50 (by decide) rfl ?_
      refine g_iinc (v := l3 + 1) (i := 3) h [(3, .int (l3 + 1)), (1, .int v1_50), (0, .ref h0), (2, .int l2)] dX10_misplaced_51 rfl rfl (by decide) rfl ?_
      refine g_goto h 19 dX10_misplaced_54 (by decide) ?_
      refine g_lv [(0, .ref h0), (1, .int v1_50), (2, .int l2), (3, .int (l3 + 1))] [2, 1, 3, 0] rfl ?_
      exact ih _ _
def M_misplaced_L9 {Rt : Type} (s0 : Ms) (k63 : Int32 → Option Rt) : Nat → Int32 → Int32 → Option Rt
  | 0, _, _ => none
  | F + 1, l1, l2 =>
  if s0.1 2 ≤ l2 then
      k63 l1
    else
      M_misplaced_L19 s0 l2 (fun v1_57 => M_misplaced_L9 s0 k63 F v1_57 (l2 + 1)) gF l1 (0 : Int32)
set_option maxHeartbeats 4000000 in
set_option maxRecDepth 100000 in
theorem M_misplaced_L9_w {p : Program} {l : Launch} {e : Env} {s : State} {m : MethodId} {args : Array Value} {below : List Frame} {meth : Method} {c : Code} {A : Nat → Prop} {Ke : State → Prop} {D : va_G} {cI cZ : ClassId} {E : State → Heap → Prop} {h0 : Nat} {ps : Nat → Nat} (h : gOk p s m args meth c cX10_misplaced 4 RX10 tb) (hE : mEok E A) (hkw : gKw Ke) (hKs : Ke s) {Rt : Type} {QX : Rt → State → Prop} (s0 : Ms)  {k63 : Int32 → Option Rt} (hk63 : ∀ (l1 : Int32), gS p l e rm_X10_misplaced s m args below meth c 4 A (MW D cI cZ E A h0 ps) QX 0 0 (k63 l1) s0 63 [(1, .int l1)] []) : ∀ (F : Nat) (l1 : Int32) (l2 : Int32), gS p l e rm_X10_misplaced s m args below meth c 4 A (MW D cI cZ E A h0 ps) QX 0 0 (M_misplaced_L9 s0 k63 F l1 l2) s0 9 [(0, .ref h0), (1, .int l1), (2, .int l2)] [] := by
  intro F
  induction F with
  | zero =>
    intro l1 l2
    unfold M_misplaced_L9
    exact g_none
  | succ F ih =>
    intro l1 l2
    unfold M_misplaced_L9
    refine g_iload_n h 2 dX10_misplaced_9 rfl ?_
    refine g_aload_n h 0 dX10_misplaced_10 rfl ?_
    refine m_get h hinX10 2 (by decide) rfl tW_908 dX10_misplaced_11 ?_
    refine g_icmp_ge h 63 dX10_misplaced_14 (by decide) ?_ ?_
    · refine g_lv [(1, .int l1)] [1] rfl ?_
      exact hk63 _
    · refine g_iconst (v := 0) h dX10_misplaced_17 (by decide) ?_
      refine g_istore_n h [(3, .int (0 : Int32)), (0, .ref h0), (1, .int l1), (2, .int l2)] dX10_misplaced_18 (by decide) rfl ?_
      refine g_lv [(0, .ref h0), (1, .int l1), (2, .int l2), (3, .int (0 : Int32))] [1, 2, 3, 0] rfl ?_
      refine M_misplaced_L19_w h hE hkw hKs _ _ (fun v1_57 => ?_) _ _ _
      · refine g_iinc (v := l2 + 1) (i := 2) h [(2, .int (l2 + 1)), (0, .ref h0), (1, .int v1_57)] dX10_misplaced_57 rfl rfl (by decide) rfl ?_
        refine g_goto h 9 dX10_misplaced_60 (by decide) ?_
        refine g_lv [(0, .ref h0), (1, .int v1_57), (2, .int (l2 + 1))] [1, 2, 0] rfl ?_
        exact ih _ _
def M_misplaced (s0 : Ms)  : Option (Int32 × Ms) :=
  bnd (mSet s0 0 (0 : Int32)) (fun s_2 =>
  M_misplaced_L9 s_2 (fun v1_63 => some (v1_63, s_2)) gF (0 : Int32) (0 : Int32))
set_option maxHeartbeats 4000000 in
set_option maxRecDepth 100000 in
theorem c_X10_misplaced {l : Launch} {A : Nat → Prop} {Ke : State → Prop} {D : va_G} {cI cZ : ClassId} {E : State → Heap → Prop} {h0 : Nat} {ps : Nat → Nat} (hE : mEok E A) (hkw : gKw Ke) (s0 : Ms)  : gCi l yX10_misplaced cX10_misplaced 4 (some .int) rm_X10_misplaced Ke (MW D cI cZ E A h0 ps) A [.ref h0] s0 (M_misplaced s0 ) := by
  refine g_meti (by decide) (by simp [lg_sl, Value.category]) ?_
  intro p e s m below meth c h hr hKs
  refine g_lv [(0, .ref h0)] [0] rfl ?_
  unfold M_misplaced
  refine g_aload_n h 0 dX10_misplaced_0 rfl ?_
  refine g_iconst (v := 0) h dX10_misplaced_1 (by decide) ?_
  refine m_put h hE hinX10 0 (by decide) rfl rfl rfl tW_906 dX10_misplaced_2 ?_
  refine g_bnd (fun s_2 => ?_)
  refine g_iconst (v := 0) h dX10_misplaced_5 (by decide) ?_
  refine g_istore_n h [(1, .int (0 : Int32)), (0, .ref h0)] dX10_misplaced_6 (by decide) rfl ?_
  refine g_iconst (v := 0) h dX10_misplaced_7 (by decide) ?_
  refine g_istore_n h [(2, .int (0 : Int32)), (1, .int (0 : Int32)), (0, .ref h0)] dX10_misplaced_8 (by decide) rfl ?_
  refine g_lv [(0, .ref h0), (1, .int (0 : Int32)), (2, .int (0 : Int32))] [2, 1, 0] rfl ?_
  refine M_misplaced_L9_w h hE hkw hKs _  (fun v1_63 => ?_) _ _ _
  · refine g_iload_n h 0 dX10_misplaced_63 rfl ?_
    exact g_iret h (MW_mv hE) hr (Nat.le_refl _) (Nat.le_refl _) dX10_misplaced_64
def rm_X10_planned : Room := { frames := 10, cells := 0, slots := 0, locals := 239 }
theorem yk_X10_planned : yOkV yX10_planned cX10_planned 5 (some .int) RX10 3 := ⟨tW_1327, tW_5, tW_1325, tW_1326, by decide, by decide, by decide +kernel⟩
def M_planned_B27 (s0 : Ms)  : Option (Int32 × Ms) :=
  bi (M_fail s0 (1 : Int32)) (fun r_29 s_29 =>
  some (r_29, s_29))
set_option maxHeartbeats 4000000 in
set_option maxRecDepth 100000 in
theorem M_planned_B27_w {p : Program} {l : Launch} {e : Env} {s : State} {m : MethodId} {args : Array Value} {below : List Frame} {meth : Method} {c : Code} {A : Nat → Prop} {Ke : State → Prop} {D : va_G} {cI cZ : ClassId} {E : State → Heap → Prop} {h0 : Nat} {ps : Nat → Nat} (h : gOk p s m args meth c cX10_planned 5 RX10 tb) (hE : mEok E A) (hkw : gKw Ke) (hKs : Ke s) (s0 : Ms)  (hr : meth.sig.returnType = some .int)  : gS p l e rm_X10_planned s m args below meth c 5 A (MW D cI cZ E A h0 ps) (fun X => MQ below (gPi (MW D cI cZ E A h0 ps) A X) args s rm_X10_planned.cells rm_X10_planned.slots A) 0 0 (M_planned_B27 s0) s0 27 [(0, .ref h0)] [] := by
  unfold M_planned_B27
  refine g_aload_n h 0 dX10_planned_27 rfl ?_
  refine g_iconst (v := 1) h dX10_planned_28 (by decide) ?_
  refine g_callV0i h (MW_mv hE) hkw hKs [.int (1 : Int32)] (c_X10_fail hE hkw s0 (1 : Int32)) yk_X10_fail tW_1111 ⟨(Nat.le_of_ble_eq_true rfl), (Nat.le_of_ble_eq_true rfl)⟩ MW_recv rfl rfl rfl rfl (Nat.le_of_ble_eq_true rfl) dX10_planned_29 ⟨Nat.zero_le _, Nat.zero_le _⟩ (fun r_29 s_29 => ?_)
  exact g_iret h (MW_mv hE) hr (Nat.le_refl _) (Nat.le_refl _) dX10_planned_32
def M_planned_L101 {Rt : Type} (s0 : Ms) (a3 : Int32) (k126 : Int32 → Option Rt) : Nat → Int32 → Option Rt
  | 0, _ => none
  | F + 1, l4 =>
  if okI a3 4 = true then
    if okI a3 4 = true then
    if s0.2 14 a3.toNatClampNeg = 0 then none else
    if (l4 - (s0.2 15 a3.toNatClampNeg)) - (l4 - (s0.2 15 a3.toNatClampNeg)) / (s0.2 14 a3.toNatClampNeg) * (s0.2 14 a3.toNatClampNeg) = 0 then
      k126 l4
    else
      M_planned_L101 s0 a3 k126 F (l4 + 1)
    else none
    else none
set_option maxHeartbeats 4000000 in
set_option maxRecDepth 100000 in
theorem M_planned_L101_w {p : Program} {l : Launch} {e : Env} {s : State} {m : MethodId} {args : Array Value} {below : List Frame} {meth : Method} {c : Code} {A : Nat → Prop} {Ke : State → Prop} {D : va_G} {cI cZ : ClassId} {E : State → Heap → Prop} {h0 : Nat} {ps : Nat → Nat} (h : gOk p s m args meth c cX10_planned 5 RX10 tb) (hE : mEok E A) (hkw : gKw Ke) (hKs : Ke s) {Rt : Type} {QX : Rt → State → Prop} (s0 : Ms) (a3 : Int32) {k126 : Int32 → Option Rt} (hk126 : ∀ (l4 : Int32), gS p l e rm_X10_planned s m args below meth c 5 A (MW D cI cZ E A h0 ps) QX 0 0 (k126 l4) s0 126 [(4, .int l4)] []) : ∀ (F : Nat) (l4 : Int32), gS p l e rm_X10_planned s m args below meth c 5 A (MW D cI cZ E A h0 ps) QX 0 0 (M_planned_L101 s0 a3 k126 F l4) s0 101 [(0, .ref h0), (3, .int a3), (4, .int l4)] [] := by
  intro F
  induction F with
  | zero =>
    intro l4
    unfold M_planned_L101
    exact g_none
  | succ F ih =>
    intro l4
    unfold M_planned_L101
    refine g_iload h 2 dX10_planned_101 rfl ?_
    refine g_aload_n h 0 dX10_planned_103 rfl ?_
    refine m_geta h hinX10 15 (by decide) rfl tW_921 dX10_planned_104 ?_
    refine g_iload_n h 1 dX10_planned_107 rfl ?_
    refine m_iald h 15 rfl rfl 4 rfl dX10_planned_108 ?_
    refine g_isub h dX10_planned_109 ?_
    refine g_aload_n h 0 dX10_planned_110 rfl ?_
    refine m_geta h hinX10 14 (by decide) rfl tW_920 dX10_planned_111 ?_
    refine g_iload_n h 1 dX10_planned_114 rfl ?_
    refine m_iald h 14 rfl rfl 4 rfl dX10_planned_115 ?_
    refine g_nz (fun hz116 => ?_)
    refine g_irem h dX10_planned_116 hz116 ?_
    refine g_if_eq h 126 dX10_planned_117 (by decide) ?_ ?_
    · refine g_lv [(4, .int l4)] [2] rfl ?_
      exact hk126 _
    · refine g_iinc (v := l4 + 1) (i := 2) h [(4, .int (l4 + 1)), (0, .ref h0), (3, .int a3)] dX10_planned_120 rfl rfl (by decide) rfl ?_
      refine g_goto h 101 dX10_planned_123 (by decide) ?_
      refine g_lv [(0, .ref h0), (3, .int a3), (4, .int (l4 + 1))] [1, 2, 0] rfl ?_
      exact ih _
def M_planned_B140 (s0 : Ms) (t0 : Int32) : Option (Int32 × Ms) :=
  some (t0, s0)
set_option maxHeartbeats 4000000 in
set_option maxRecDepth 100000 in
theorem M_planned_B140_w {p : Program} {l : Launch} {e : Env} {s : State} {m : MethodId} {args : Array Value} {below : List Frame} {meth : Method} {c : Code} {A : Nat → Prop} {Ke : State → Prop} {D : va_G} {cI cZ : ClassId} {E : State → Heap → Prop} {h0 : Nat} {ps : Nat → Nat} (h : gOk p s m args meth c cX10_planned 5 RX10 tb) (hE : mEok E A) (hkw : gKw Ke) (hKs : Ke s) (s0 : Ms) (t0 : Int32) (hr : meth.sig.returnType = some .int)  : gS p l e rm_X10_planned s m args below meth c 5 A (MW D cI cZ E A h0 ps) (fun X => MQ below (gPi (MW D cI cZ E A h0 ps) A X) args s rm_X10_planned.cells rm_X10_planned.slots A) 0 0 (M_planned_B140 s0 t0) s0 140 [] [.int t0] := by
  unfold M_planned_B140
  exact g_iret h (MW_mv hE) hr (Nat.le_refl _) (Nat.le_refl _) dX10_planned_140
def M_planned (s0 : Ms) (a1 : Int32) (a2 : Int32) (a3 : Int32) : Option (Int32 × Ms) :=
  bnd (mSet s0 0 (0 : Int32)) (fun s_2 =>
  (M_isThing s_2 a1).bind (fun r_7 =>
  if r_7 = 0 then
    M_planned_B27 s_2
  else
    (M_isField s_2 a2).bind (fun r_14 =>
    if r_14 = 0 then
      M_planned_B27 s_2
    else
      (M_isStore s_2 a3).bind (fun r_21 =>
      if r_21 = 0 then
        M_planned_B27 s_2
      else
        if okI (((8 : Int32) * a1) + a2) 240 = true then
        if ((s_2.2 12 (((8 : Int32) * a1) + a2).toNatClampNeg) >>> (a3 &&& 31)) &&& (1 : Int32) = 0 then
          some ((-1 : Int32), s_2)
        else
          bi (M_isDue s_2 a1 a2 (999999 : Int32)) (fun r_58 s_58 =>
          if r_58 = 0 then
            some ((999999 : Int32), s_58)
          else
            if okI a3 4 = true then
            bnd ((if (s_58.1 1) + (1 : Int32) < (if s_58.1 48 < s_58.2 15 a3.toNatClampNeg then s_58.2 15 a3.toNatClampNeg else s_58.1 48) then (if s_58.1 48 < s_58.2 15 a3.toNatClampNeg then s_58.2 15 a3.toNatClampNeg else s_58.1 48) else (s_58.1 1) + (1 : Int32))) (fun v4_89 =>
            if v4_89 ≤ (200000 : Int32) then
              M_planned_L101 s_58 a3 (fun v4_126 => if v4_126 ≤ (200000 : Int32) then
                  M_planned_B140 s_58 v4_126
                else
                  M_planned_B140 s_58 (999999 : Int32)) gF v4_89
            else
              some ((999999 : Int32), s_58))
            else none)
        else none))))
set_option maxHeartbeats 4000000 in
set_option maxRecDepth 100000 in
theorem c_X10_planned {l : Launch} {A : Nat → Prop} {Ke : State → Prop} {D : va_G} {cI cZ : ClassId} {E : State → Heap → Prop} {h0 : Nat} {ps : Nat → Nat} (hE : mEok E A) (hkw : gKw Ke) (s0 : Ms) (a1 : Int32) (a2 : Int32) (a3 : Int32) : gCi l yX10_planned cX10_planned 5 (some .int) rm_X10_planned Ke (MW D cI cZ E A h0 ps) A [.ref h0, .int a1, .int a2, .int a3] s0 (M_planned s0 a1 a2 a3) := by
  refine g_meti (by decide) (by simp [lg_sl, Value.category]) ?_
  intro p e s m below meth c h hr hKs
  refine g_lv [(0, .ref h0), (1, .int a1), (2, .int a2), (3, .int a3)] [0, 1, 2, 3] rfl ?_
  unfold M_planned
  refine g_aload_n h 0 dX10_planned_0 rfl ?_
  refine g_iconst (v := 0) h dX10_planned_1 (by decide) ?_
  refine m_put h hE hinX10 0 (by decide) rfl rfl rfl tW_906 dX10_planned_2 ?_
  refine g_bnd (fun s_2 => ?_)
  refine g_aload_n h 0 dX10_planned_5 rfl ?_
  refine g_iload_n h 1 dX10_planned_6 rfl ?_
  refine g_callV0p h (MW_mv hE) hkw hKs [.int a1] (c_X10_isThing hE hkw s_2 a1) yk_X10_isThing tW_1222 ⟨(Nat.le_of_ble_eq_true rfl), (Nat.le_of_ble_eq_true rfl)⟩ MW_recv rfl rfl rfl rfl (Nat.le_of_ble_eq_true rfl) dX10_planned_7 ⟨Nat.zero_le _, Nat.zero_le _⟩ (fun r_7 => ?_)
  refine g_if_eq h 27 dX10_planned_10 (by decide) ?_ ?_
  · refine g_lv [(0, .ref h0)] [0] rfl ?_
    exact M_planned_B27_w h hE hkw hKs _  hr
  · refine g_iload_n h 2 dX10_planned_13 rfl ?_
    refine g_callS0p h (MW_mv hE) hkw hKs [.int a2] (c_X10_isField (MW_mv hE) hkw s_2 a2) yk_X10_isField tW_1234 ⟨(Nat.le_of_ble_eq_true rfl), (Nat.le_of_ble_eq_true rfl)⟩ rfl rfl rfl rfl (Nat.le_of_ble_eq_true rfl) dX10_planned_14 ⟨Nat.zero_le _, Nat.zero_le _⟩ (fun r_14 => ?_)
    refine g_if_eq h 27 dX10_planned_17 (by decide) ?_ ?_
    · refine g_lv [(0, .ref h0)] [0] rfl ?_
      exact M_planned_B27_w h hE hkw hKs _  hr
    · refine g_iload_n h 3 dX10_planned_20 rfl ?_
      refine g_callS0p h (MW_mv hE) hkw hKs [.int a3] (c_X10_isStore (MW_mv hE) hkw s_2 a3) yk_X10_isStore tW_1237 ⟨(Nat.le_of_ble_eq_true rfl), (Nat.le_of_ble_eq_true rfl)⟩ rfl rfl rfl rfl (Nat.le_of_ble_eq_true rfl) dX10_planned_21 ⟨Nat.zero_le _, Nat.zero_le _⟩ (fun r_21 => ?_)
      refine g_if_ne h 33 dX10_planned_24 (by decide) ?_ ?_
      · refine g_aload_n h 0 dX10_planned_33 rfl ?_
        refine m_geta h hinX10 12 (by decide) rfl tW_918 dX10_planned_34 ?_
        refine g_bipush (v := 8) h dX10_planned_37 (by decide) ?_
        refine g_iload_n h 1 dX10_planned_39 rfl ?_
        refine g_imul h dX10_planned_40 ?_
        refine g_iload_n h 2 dX10_planned_41 rfl ?_
        refine g_iadd h dX10_planned_42 ?_
        refine m_iald h 12 rfl rfl 240 rfl dX10_planned_43 ?_
        refine g_iload_n h 3 dX10_planned_44 rfl ?_
        refine g_ishr h dX10_planned_45 ?_
        refine g_iconst (v := 1) h dX10_planned_46 (by decide) ?_
        refine g_iand h dX10_planned_47 ?_
        refine g_if_ne h 53 dX10_planned_48 (by decide) ?_ ?_
        · refine g_aload_n h 0 dX10_planned_53 rfl ?_
          refine g_iload_n h 1 dX10_planned_54 rfl ?_
          refine g_iload_n h 2 dX10_planned_55 rfl ?_
          refine g_ldc (v := 999999) h tW_1136 dX10_planned_56 ?_
          refine g_callV0i h (MW_mv hE) hkw hKs [.int a1, .int a2, .int (999999 : Int32)] (c_X10_isDue hE hkw s_2 a1 a2 (999999 : Int32)) yk_X10_isDue tW_1272 ⟨(Nat.le_of_ble_eq_true rfl), (Nat.le_of_ble_eq_true rfl)⟩ MW_recv rfl rfl rfl rfl (Nat.le_of_ble_eq_true rfl) dX10_planned_58 ⟨Nat.zero_le _, Nat.zero_le _⟩ (fun r_58 s_58 => ?_)
          refine g_if_ne h 67 dX10_planned_61 (by decide) ?_ ?_
          · refine g_aload_n h 0 dX10_planned_67 rfl ?_
            refine m_get h hinX10 1 (by decide) rfl tW_907 dX10_planned_68 ?_
            refine g_iconst (v := 1) h dX10_planned_71 (by decide) ?_
            refine g_iadd h dX10_planned_72 ?_
            refine g_aload_n h 0 dX10_planned_73 rfl ?_
            refine m_get h hinX10 48 (by decide) rfl tW_954 dX10_planned_74 ?_
            refine g_aload_n h 0 dX10_planned_77 rfl ?_
            refine m_geta h hinX10 15 (by decide) rfl tW_921 dX10_planned_78 ?_
            refine g_iload_n h 3 dX10_planned_81 rfl ?_
            refine m_iald h 15 rfl rfl 4 rfl dX10_planned_82 ?_
            refine g_mmax h tW_1284 tW_335 tW_11 tW_336 (Nat.le_of_ble_eq_true rfl) (Nat.le_of_ble_eq_true rfl) (Nat.zero_le _) (Nat.zero_le _) dX10_planned_83 ?_
            refine g_mmax h tW_1284 tW_335 tW_11 tW_336 (Nat.le_of_ble_eq_true rfl) (Nat.le_of_ble_eq_true rfl) (Nat.zero_le _) (Nat.zero_le _) dX10_planned_86 ?_
            refine g_bndi (fun v4_89 => ?_)
            refine g_istore h [(4, .int v4_89), (0, .ref h0), (1, .int a1), (2, .int a2), (3, .int a3)] dX10_planned_89 (by decide) rfl ?_
            refine g_iload h 0 dX10_planned_91 rfl ?_
            refine g_ldc (v := 200000) h tW_1110 dX10_planned_93 ?_
            refine g_icmp_le h 101 dX10_planned_95 (by decide) ?_ ?_
            · refine g_lv [(0, .ref h0), (3, .int a3), (4, .int v4_89)] [1, 4, 0] rfl ?_
              refine M_planned_L101_w h hE hkw hKs _ _ (fun v4_126 => ?_) _ _
              · refine g_iload h 0 dX10_planned_126 rfl ?_
                refine g_ldc (v := 200000) h tW_1110 dX10_planned_128 ?_
                refine g_icmp_le h 138 dX10_planned_130 (by decide) ?_ ?_
                · refine g_iload h 0 dX10_planned_138 rfl ?_
                  refine g_lv [] [] rfl ?_
                  exact M_planned_B140_w h hE hkw hKs _ _ hr
                · refine g_ldc (v := 999999) h tW_1136 dX10_planned_133 ?_
                  refine g_goto h 140 dX10_planned_135 (by decide) ?_
                  refine g_lv [] [] rfl ?_
                  exact M_planned_B140_w h hE hkw hKs _ _ hr
            · refine g_ldc (v := 999999) h tW_1136 dX10_planned_98 ?_
              exact g_iret h (MW_mv hE) hr (Nat.le_refl _) (Nat.le_refl _) dX10_planned_100
          · refine g_ldc (v := 999999) h tW_1136 dX10_planned_64 ?_
            exact g_iret h (MW_mv hE) hr (Nat.le_refl _) (Nat.le_refl _) dX10_planned_66
        · refine g_iconst (v := -1) h dX10_planned_51 (by decide) ?_
          exact g_iret h (MW_mv hE) hr (Nat.le_refl _) (Nat.le_refl _) dX10_planned_52
      · refine g_lv [(0, .ref h0)] [0] rfl ?_
        exact M_planned_B27_w h hE hkw hKs _  hr
def rm_X10_differ : Room := { frames := 8, cells := 0, slots := 0, locals := 192 }
theorem yk_X10_differ : yOkV yX10_differ cX10_differ 8 (some .int) RX10 2 := ⟨tW_1331, tW_5, tW_1329, tW_1330, by decide, by decide, by decide +kernel⟩
def M_differ_B21 (s0 : Ms)  : Option (Int32 × Ms) :=
  bi (M_fail s0 (1 : Int32)) (fun r_23 s_23 =>
  some (r_23, s_23))
set_option maxHeartbeats 4000000 in
set_option maxRecDepth 100000 in
theorem M_differ_B21_w {p : Program} {l : Launch} {e : Env} {s : State} {m : MethodId} {args : Array Value} {below : List Frame} {meth : Method} {c : Code} {A : Nat → Prop} {Ke : State → Prop} {D : va_G} {cI cZ : ClassId} {E : State → Heap → Prop} {h0 : Nat} {ps : Nat → Nat} (h : gOk p s m args meth c cX10_differ 8 RX10 tb) (hE : mEok E A) (hkw : gKw Ke) (hKs : Ke s) (s0 : Ms)  (hr : meth.sig.returnType = some .int)  : gS p l e rm_X10_differ s m args below meth c 8 A (MW D cI cZ E A h0 ps) (fun X => MQ below (gPi (MW D cI cZ E A h0 ps) A X) args s rm_X10_differ.cells rm_X10_differ.slots A) 0 0 (M_differ_B21 s0) s0 21 [(0, .ref h0)] [] := by
  unfold M_differ_B21
  refine g_aload_n h 0 dX10_differ_21 rfl ?_
  refine g_iconst (v := 1) h dX10_differ_22 (by decide) ?_
  refine g_callV0i h (MW_mv hE) hkw hKs [.int (1 : Int32)] (c_X10_fail hE hkw s0 (1 : Int32)) yk_X10_fail tW_1111 ⟨(Nat.le_of_ble_eq_true rfl), (Nat.le_of_ble_eq_true rfl)⟩ MW_recv rfl rfl rfl rfl (Nat.le_of_ble_eq_true rfl) dX10_differ_23 ⟨Nat.zero_le _, Nat.zero_le _⟩ (fun r_23 s_23 => ?_)
  exact g_iret h (MW_mv hE) hr (Nat.le_refl _) (Nat.le_refl _) dX10_differ_26
def M_differ_B105 {Rt : Type} (s0 : Ms) (rec : Ms → Int32 → Int32 → Option Rt) (k113 : Ms → Int32 → Option Rt) (t0 : Int32) (t1 : Int32) (a1 : Int32) (a2 : Int32) (l4 : Int32) (l5 : Int32) : Option (Rt) :=
  bnd (t1 + t0) (fun v3_106 =>
  rec s0 v3_106 (l5 + 1))
set_option maxHeartbeats 4000000 in
set_option maxRecDepth 100000 in
theorem M_differ_B105_w {p : Program} {l : Launch} {e : Env} {s : State} {m : MethodId} {args : Array Value} {below : List Frame} {meth : Method} {c : Code} {A : Nat → Prop} {Ke : State → Prop} {D : va_G} {cI cZ : ClassId} {E : State → Heap → Prop} {h0 : Nat} {ps : Nat → Nat} (h : gOk p s m args meth c cX10_differ 8 RX10 tb) (hE : mEok E A) (hkw : gKw Ke) (hKs : Ke s) {Rt : Type} {QX : Rt → State → Prop} {rec : Ms → Int32 → Int32 → Option Rt} {k113 : Ms → Int32 → Option Rt} (s0 : Ms) (t0 : Int32) (t1 : Int32) (a1 : Int32) (a2 : Int32) (l4 : Int32) (l5 : Int32) (hrec : ∀ (sx : Ms) (l3 : Int32) (l5 : Int32), gS p l e rm_X10_differ s m args below meth c 8 A (MW D cI cZ E A h0 ps) QX 0 0 (rec sx l3 l5) sx 44 [(0, .ref h0), (1, .int a1), (2, .int a2), (3, .int l3), (4, .int l4), (5, .int l5)] []) (hk113 : ∀ (sx : Ms) (l3 : Int32), gS p l e rm_X10_differ s m args below meth c 8 A (MW D cI cZ E A h0 ps) QX 0 0 (k113 sx l3) sx 113 [(0, .ref h0), (1, .int a1), (2, .int a2), (3, .int l3), (4, .int l4)] []) : gS p l e rm_X10_differ s m args below meth c 8 A (MW D cI cZ E A h0 ps) QX 0 0 (M_differ_B105 s0 rec k113 t0 t1 a1 a2 l4 l5) s0 105 [(0, .ref h0), (1, .int a1), (2, .int a2), (4, .int l4), (5, .int l5)] [.int t0, .int t1] := by
  unfold M_differ_B105
  refine g_iadd h dX10_differ_105 ?_
  refine g_bndi (fun v3_106 => ?_)
  refine g_istore_n h [(3, .int v3_106), (0, .ref h0), (1, .int a1), (2, .int a2), (4, .int l4), (5, .int l5)] dX10_differ_106 (by decide) rfl ?_
  refine g_iinc (v := l5 + 1) (i := 5) h [(5, .int (l5 + 1)), (3, .int v3_106), (0, .ref h0), (1, .int a1), (2, .int a2), (4, .int l4)] dX10_differ_107 rfl rfl (by decide) rfl ?_
  refine g_goto h 44 dX10_differ_110 (by decide) ?_
  refine g_lv [(0, .ref h0), (1, .int a1), (2, .int a2), (3, .int v3_106), (4, .int l4), (5, .int (l5 + 1))] [2, 3, 4, 1, 5, 0] rfl ?_
  exact hrec _ _ _
def M_differ_B100 {Rt : Type} (s0 : Ms) (rec : Ms → Int32 → Int32 → Option Rt) (k113 : Ms → Int32 → Option Rt) (t0 : Int32) (a1 : Int32) (a2 : Int32) (l4 : Int32) (l5 : Int32) : Option (Rt) :=
  M_differ_B105 s0 rec k113 (1 : Int32) t0 a1 a2 l4 l5
set_option maxHeartbeats 4000000 in
set_option maxRecDepth 100000 in
theorem M_differ_B100_w {p : Program} {l : Launch} {e : Env} {s : State} {m : MethodId} {args : Array Value} {below : List Frame} {meth : Method} {c : Code} {A : Nat → Prop} {Ke : State → Prop} {D : va_G} {cI cZ : ClassId} {E : State → Heap → Prop} {h0 : Nat} {ps : Nat → Nat} (h : gOk p s m args meth c cX10_differ 8 RX10 tb) (hE : mEok E A) (hkw : gKw Ke) (hKs : Ke s) {Rt : Type} {QX : Rt → State → Prop} {rec : Ms → Int32 → Int32 → Option Rt} {k113 : Ms → Int32 → Option Rt} (s0 : Ms) (t0 : Int32) (a1 : Int32) (a2 : Int32) (l4 : Int32) (l5 : Int32) (hrec : ∀ (sx : Ms) (l3 : Int32) (l5 : Int32), gS p l e rm_X10_differ s m args below meth c 8 A (MW D cI cZ E A h0 ps) QX 0 0 (rec sx l3 l5) sx 44 [(0, .ref h0), (1, .int a1), (2, .int a2), (3, .int l3), (4, .int l4), (5, .int l5)] []) (hk113 : ∀ (sx : Ms) (l3 : Int32), gS p l e rm_X10_differ s m args below meth c 8 A (MW D cI cZ E A h0 ps) QX 0 0 (k113 sx l3) sx 113 [(0, .ref h0), (1, .int a1), (2, .int a2), (3, .int l3), (4, .int l4)] []) : gS p l e rm_X10_differ s m args below meth c 8 A (MW D cI cZ E A h0 ps) QX 0 0 (M_differ_B100 s0 rec k113 t0 a1 a2 l4 l5) s0 100 [(0, .ref h0), (1, .int a1), (2, .int a2), (4, .int l4), (5, .int l5)] [.int t0] := by
  unfold M_differ_B100
  refine g_iconst (v := 1) h dX10_differ_100 (by decide) ?_
  refine g_goto h 105 dX10_differ_101 (by decide) ?_
  exact M_differ_B105_w h hE hkw hKs _ _ _ _ _ _ _ hrec hk113
def M_differ_L44 {Rt : Type} (a1 : Int32) (a2 : Int32) (l4 : Int32) (k113 : Ms → Int32 → Option Rt) : Nat → Ms → Int32 → Int32 → Option Rt
  | 0, _, _, _ => none
  | F + 1, s0, l3, l5 =>
  if (8 : Int32) ≤ l5 then
      k113 s0 l3
    else
      (M_tell s0 l4 l5 a1).bind (fun s_57 =>
      bnd (s_57.1 48) (fun v6_64 =>
      bnd (s_57.1 49) (fun v7_70 =>
      (M_tell s_57 l4 l5 a2).bind (fun s_78 =>
      if v6_64 = s_78.1 48 then
        if v7_70 = s_78.1 49 then
          M_differ_B105 s_78 (M_differ_L44 a1 a2 l4 k113 F) k113 (0 : Int32) l3 a1 a2 l4 l5
        else
          M_differ_B100 s_78 (M_differ_L44 a1 a2 l4 k113 F) k113 l3 a1 a2 l4 l5
      else
        M_differ_B100 s_78 (M_differ_L44 a1 a2 l4 k113 F) k113 l3 a1 a2 l4 l5))))
set_option maxHeartbeats 4000000 in
set_option maxRecDepth 100000 in
theorem M_differ_L44_w {p : Program} {l : Launch} {e : Env} {s : State} {m : MethodId} {args : Array Value} {below : List Frame} {meth : Method} {c : Code} {A : Nat → Prop} {Ke : State → Prop} {D : va_G} {cI cZ : ClassId} {E : State → Heap → Prop} {h0 : Nat} {ps : Nat → Nat} (h : gOk p s m args meth c cX10_differ 8 RX10 tb) (hE : mEok E A) (hkw : gKw Ke) (hKs : Ke s) {Rt : Type} {QX : Rt → State → Prop} (a1 : Int32) (a2 : Int32) (l4 : Int32) {k113 : Ms → Int32 → Option Rt} (hk113 : ∀ (sx : Ms) (l3 : Int32), gS p l e rm_X10_differ s m args below meth c 8 A (MW D cI cZ E A h0 ps) QX 0 0 (k113 sx l3) sx 113 [(0, .ref h0), (1, .int a1), (2, .int a2), (3, .int l3), (4, .int l4)] []) : ∀ (F : Nat) (s0 : Ms) (l3 : Int32) (l5 : Int32), gS p l e rm_X10_differ s m args below meth c 8 A (MW D cI cZ E A h0 ps) QX 0 0 (M_differ_L44 a1 a2 l4 k113 F s0 l3 l5) s0 44 [(0, .ref h0), (1, .int a1), (2, .int a2), (3, .int l3), (4, .int l4), (5, .int l5)] [] := by
  intro F
  induction F with
  | zero =>
    intro s0 l3 l5
    unfold M_differ_L44
    exact g_none
  | succ F ih =>
    intro s0 l3 l5
    unfold M_differ_L44
    refine g_iload h 5 dX10_differ_44 rfl ?_
    refine g_bipush (v := 8) h dX10_differ_46 (by decide) ?_
    refine g_icmp_ge h 113 dX10_differ_48 (by decide) ?_ ?_
    · refine g_lv [(0, .ref h0), (1, .int a1), (2, .int a2), (3, .int l3), (4, .int l4)] [0, 1, 2, 3, 4] rfl ?_
      exact hk113 _ _
    · refine g_aload_n h 0 dX10_differ_51 rfl ?_
      refine g_iload h 4 dX10_differ_52 rfl ?_
      refine g_iload h 5 dX10_differ_54 rfl ?_
      refine g_iload_n h 1 dX10_differ_56 rfl ?_
      refine g_callV0v h (MW_mv hE) hkw hKs [.int l4, .int l5, .int a1] (c_X10_tell hE hkw s0 l4 l5 a1) yk_X10_tell tW_1280 ⟨(Nat.le_of_ble_eq_true rfl), (Nat.le_of_ble_eq_true rfl)⟩ MW_recv rfl rfl rfl rfl (Nat.le_of_ble_eq_true rfl) dX10_differ_57 ⟨Nat.zero_le _, Nat.zero_le _⟩ (fun s_57 => ?_)
      refine g_aload_n h 0 dX10_differ_60 rfl ?_
      refine m_get h hinX10 48 (by decide) rfl tW_954 dX10_differ_61 ?_
      refine g_bndi (fun v6_64 => ?_)
      refine g_istore h [(6, .int v6_64), (0, .ref h0), (1, .int a1), (2, .int a2), (3, .int l3), (4, .int l4), (5, .int l5)] dX10_differ_64 (by decide) rfl ?_
      refine g_aload_n h 1 dX10_differ_66 rfl ?_
      refine m_get h hinX10 49 (by decide) rfl tW_955 dX10_differ_67 ?_
      refine g_bndi (fun v7_70 => ?_)
      refine g_istore h [(7, .int v7_70), (6, .int v6_64), (0, .ref h0), (1, .int a1), (2, .int a2), (3, .int l3), (4, .int l4), (5, .int l5)] dX10_differ_70 (by decide) rfl ?_
      refine g_aload_n h 2 dX10_differ_72 rfl ?_
      refine g_iload h 6 dX10_differ_73 rfl ?_
      refine g_iload h 7 dX10_differ_75 rfl ?_
      refine g_iload_n h 4 dX10_differ_77 rfl ?_
      refine g_callV0v h (MW_mv hE) hkw hKs [.int l4, .int l5, .int a2] (c_X10_tell hE hkw s_57 l4 l5 a2) yk_X10_tell tW_1280 ⟨(Nat.le_of_ble_eq_true rfl), (Nat.le_of_ble_eq_true rfl)⟩ MW_recv rfl rfl rfl rfl (Nat.le_of_ble_eq_true rfl) dX10_differ_78 ⟨Nat.zero_le _, Nat.zero_le _⟩ (fun s_78 => ?_)
      refine g_iload_n h 5 dX10_differ_81 rfl ?_
      refine g_iload h 1 dX10_differ_82 rfl ?_
      refine g_aload_n h 2 dX10_differ_84 rfl ?_
      refine m_get h hinX10 48 (by decide) rfl tW_954 dX10_differ_85 ?_
      refine g_icmp_ne h 100 dX10_differ_88 (by decide) ?_ ?_
      · refine g_lv [(0, .ref h0), (1, .int a1), (2, .int a2), (4, .int l4), (5, .int l5)] [2, 3, 4, 6, 7] rfl ?_
        exact M_differ_B100_w h hE hkw hKs _ _ _ _ _ _ (ih) hk113
      · refine g_iload h 0 dX10_differ_91 rfl ?_
        refine g_aload_n h 2 dX10_differ_93 rfl ?_
        refine m_get h hinX10 49 (by decide) rfl tW_955 dX10_differ_94 ?_
        refine g_icmp_eq h 104 dX10_differ_97 (by decide) ?_ ?_
        · refine g_iconst (v := 0) h dX10_differ_104 (by decide) ?_
          refine g_lv [(0, .ref h0), (1, .int a1), (2, .int a2), (4, .int l4), (5, .int l5)] [2, 3, 4, 6, 7] rfl ?_
          exact M_differ_B105_w h hE hkw hKs _ _ _ _ _ _ _ (ih) hk113
        · refine g_lv [(0, .ref h0), (1, .int a1), (2, .int a2), (4, .int l4), (5, .int l5)] [2, 3, 4, 6, 7] rfl ?_
          exact M_differ_B100_w h hE hkw hKs _ _ _ _ _ _ (ih) hk113
def M_differ_L32 {Rt : Type} (a1 : Int32) (a2 : Int32) (k119 : Ms → Int32 → Option Rt) : Nat → Ms → Int32 → Int32 → Option Rt
  | 0, _, _, _ => none
  | F + 1, s0, l3, l4 =>
  if s0.1 2 ≤ l4 then
      k119 s0 l3
    else
      M_differ_L44 a1 a2 l4 (fun s_113 v3_113 => M_differ_L32 a1 a2 k119 F s_113 v3_113 (l4 + 1)) gF s0 l3 (0 : Int32)
set_option maxHeartbeats 4000000 in
set_option maxRecDepth 100000 in
theorem M_differ_L32_w {p : Program} {l : Launch} {e : Env} {s : State} {m : MethodId} {args : Array Value} {below : List Frame} {meth : Method} {c : Code} {A : Nat → Prop} {Ke : State → Prop} {D : va_G} {cI cZ : ClassId} {E : State → Heap → Prop} {h0 : Nat} {ps : Nat → Nat} (h : gOk p s m args meth c cX10_differ 8 RX10 tb) (hE : mEok E A) (hkw : gKw Ke) (hKs : Ke s) {Rt : Type} {QX : Rt → State → Prop} (a1 : Int32) (a2 : Int32) {k119 : Ms → Int32 → Option Rt} (hk119 : ∀ (sx : Ms) (l3 : Int32), gS p l e rm_X10_differ s m args below meth c 8 A (MW D cI cZ E A h0 ps) QX 0 0 (k119 sx l3) sx 119 [(3, .int l3)] []) : ∀ (F : Nat) (s0 : Ms) (l3 : Int32) (l4 : Int32), gS p l e rm_X10_differ s m args below meth c 8 A (MW D cI cZ E A h0 ps) QX 0 0 (M_differ_L32 a1 a2 k119 F s0 l3 l4) s0 32 [(0, .ref h0), (1, .int a1), (2, .int a2), (3, .int l3), (4, .int l4)] [] := by
  intro F
  induction F with
  | zero =>
    intro s0 l3 l4
    unfold M_differ_L32
    exact g_none
  | succ F ih =>
    intro s0 l3 l4
    unfold M_differ_L32
    refine g_iload h 4 dX10_differ_32 rfl ?_
    refine g_aload_n h 0 dX10_differ_34 rfl ?_
    refine m_get h hinX10 2 (by decide) rfl tW_908 dX10_differ_35 ?_
    refine g_icmp_ge h 119 dX10_differ_38 (by decide) ?_ ?_
    · refine g_lv [(3, .int l3)] [3] rfl ?_
      exact hk119 _ _
    · refine g_iconst (v := 0) h dX10_differ_41 (by decide) ?_
      refine g_istore h [(5, .int (0 : Int32)), (0, .ref h0), (1, .int a1), (2, .int a2), (3, .int l3), (4, .int l4)] dX10_differ_42 (by decide) rfl ?_
      refine g_lv [(0, .ref h0), (1, .int a1), (2, .int a2), (3, .int l3), (4, .int l4), (5, .int (0 : Int32))] [1, 2, 3, 4, 5, 0] rfl ?_
      refine M_differ_L44_w h hE hkw hKs _ _ _ (fun s_113 v3_113 => ?_) _ _ _ _
      · refine g_iinc (v := l4 + 1) (i := 4) h [(4, .int (l4 + 1)), (0, .ref h0), (1, .int a1), (2, .int a2), (3, .int v3_113)] dX10_differ_113 rfl rfl (by decide) rfl ?_
        refine g_goto h 32 dX10_differ_116 (by decide) ?_
        refine g_lv [(0, .ref h0), (1, .int a1), (2, .int a2), (3, .int v3_113), (4, .int (l4 + 1))] [1, 2, 3, 4, 0] rfl ?_
        exact ih _ _ _
def M_differ (s0 : Ms) (a1 : Int32) (a2 : Int32) : Option (Int32 × Ms) :=
  bnd (mSet s0 0 (0 : Int32)) (fun s_2 =>
  (M_isSet s_2 a1).bind (fun r_7 =>
  if r_7 = 0 then
    M_differ_B21 s_2
  else
    (M_isSet s_2 a2).bind (fun r_15 =>
    if r_15 = 0 then
      M_differ_B21 s_2
    else
      M_differ_L32 a1 a2 (fun s_119 v3_119 => some (v3_119, s_119)) gF s_2 (0 : Int32) (0 : Int32))))
set_option maxHeartbeats 4000000 in
set_option maxRecDepth 100000 in
theorem c_X10_differ {l : Launch} {A : Nat → Prop} {Ke : State → Prop} {D : va_G} {cI cZ : ClassId} {E : State → Heap → Prop} {h0 : Nat} {ps : Nat → Nat} (hE : mEok E A) (hkw : gKw Ke) (s0 : Ms) (a1 : Int32) (a2 : Int32) : gCi l yX10_differ cX10_differ 8 (some .int) rm_X10_differ Ke (MW D cI cZ E A h0 ps) A [.ref h0, .int a1, .int a2] s0 (M_differ s0 a1 a2) := by
  refine g_meti (by decide) (by simp [lg_sl, Value.category]) ?_
  intro p e s m below meth c h hr hKs
  refine g_lv [(0, .ref h0), (1, .int a1), (2, .int a2)] [0, 1, 2] rfl ?_
  unfold M_differ
  refine g_aload_n h 0 dX10_differ_0 rfl ?_
  refine g_iconst (v := 0) h dX10_differ_1 (by decide) ?_
  refine m_put h hE hinX10 0 (by decide) rfl rfl rfl tW_906 dX10_differ_2 ?_
  refine g_bnd (fun s_2 => ?_)
  refine g_aload_n h 0 dX10_differ_5 rfl ?_
  refine g_iload_n h 1 dX10_differ_6 rfl ?_
  refine g_callV0p h (MW_mv hE) hkw hKs [.int a1] (c_X10_isSet hE hkw s_2 a1) yk_X10_isSet tW_1301 ⟨(Nat.le_of_ble_eq_true rfl), (Nat.le_of_ble_eq_true rfl)⟩ MW_recv rfl rfl rfl rfl (Nat.le_of_ble_eq_true rfl) dX10_differ_7 ⟨Nat.zero_le _, Nat.zero_le _⟩ (fun r_7 => ?_)
  refine g_if_eq h 21 dX10_differ_10 (by decide) ?_ ?_
  · refine g_lv [(0, .ref h0)] [0] rfl ?_
    exact M_differ_B21_w h hE hkw hKs _  hr
  · refine g_aload_n h 0 dX10_differ_13 rfl ?_
    refine g_iload_n h 2 dX10_differ_14 rfl ?_
    refine g_callV0p h (MW_mv hE) hkw hKs [.int a2] (c_X10_isSet hE hkw s_2 a2) yk_X10_isSet tW_1301 ⟨(Nat.le_of_ble_eq_true rfl), (Nat.le_of_ble_eq_true rfl)⟩ MW_recv rfl rfl rfl rfl (Nat.le_of_ble_eq_true rfl) dX10_differ_15 ⟨Nat.zero_le _, Nat.zero_le _⟩ (fun r_15 => ?_)
    refine g_if_ne h 27 dX10_differ_18 (by decide) ?_ ?_
    · refine g_iconst (v := 0) h dX10_differ_27 (by decide) ?_
      refine g_istore_n h [(3, .int (0 : Int32)), (0, .ref h0), (1, .int a1), (2, .int a2)] dX10_differ_28 (by decide) rfl ?_
      refine g_iconst (v := 0) h dX10_differ_29 (by decide) ?_
      refine g_istore h [(4, .int (0 : Int32)), (3, .int (0 : Int32)), (0, .ref h0), (1, .int a1), (2, .int a2)] dX10_differ_30 (by decide) rfl ?_
      refine g_lv [(0, .ref h0), (1, .int a1), (2, .int a2), (3, .int (0 : Int32)), (4, .int (0 : Int32))] [2, 3, 4, 1, 0] rfl ?_
      refine M_differ_L32_w h hE hkw hKs _ _ (fun s_119 v3_119 => ?_) _ _ _ _
      · refine g_iload_n h 0 dX10_differ_119 rfl ?_
        exact g_iret h (MW_mv hE) hr (Nat.le_refl _) (Nat.le_refl _) dX10_differ_120
    · refine g_lv [(0, .ref h0)] [0] rfl ?_
      exact M_differ_B21_w h hE hkw hKs _  hr
def rm_X10_bites : Room := { frames := 1, cells := 0, slots := 0, locals := 27 }
theorem yk_X10_bites : yOkV yX10_bites cX10_bites 6 (some .boolean) RX10 2 := ⟨tW_1335, tW_5, tW_1333, tW_1334, by decide, by decide, by decide +kernel⟩
def M_bites_B27 (s0 : Ms)  : Option (Int32 × Ms) :=
  bi (M_fail s0 (1 : Int32)) (fun r_29 s_29 =>
  some ((0 : Int32), s_29))
set_option maxHeartbeats 4000000 in
set_option maxRecDepth 100000 in
theorem M_bites_B27_w {p : Program} {l : Launch} {e : Env} {s : State} {m : MethodId} {args : Array Value} {below : List Frame} {meth : Method} {c : Code} {A : Nat → Prop} {Ke : State → Prop} {D : va_G} {cI cZ : ClassId} {E : State → Heap → Prop} {h0 : Nat} {ps : Nat → Nat} (h : gOk p s m args meth c cX10_bites 6 RX10 tb) (hE : mEok E A) (hkw : gKw Ke) (hKs : Ke s) (s0 : Ms)  (hr : meth.sig.returnType = some .boolean)  : gS p l e rm_X10_bites s m args below meth c 6 A (MW D cI cZ E A h0 ps) (fun X => MQ below (gPi (MW D cI cZ E A h0 ps) A X) args s rm_X10_bites.cells rm_X10_bites.slots A) 0 0 (M_bites_B27 s0) s0 27 [(0, .ref h0)] [] := by
  unfold M_bites_B27
  refine g_aload_n h 0 dX10_bites_27 rfl ?_
  refine g_iconst (v := 1) h dX10_bites_28 (by decide) ?_
  refine g_callV0i h (MW_mv hE) hkw hKs [.int (1 : Int32)] (c_X10_fail hE hkw s0 (1 : Int32)) yk_X10_fail tW_1111 ⟨(Nat.le_of_ble_eq_true rfl), (Nat.le_of_ble_eq_true rfl)⟩ MW_recv rfl rfl rfl rfl (Nat.le_of_ble_eq_true rfl) dX10_bites_29 ⟨Nat.zero_le _, Nat.zero_le _⟩ (fun r_29 s_29 => ?_)
  refine g_pop h dX10_bites_32 rfl ?_
  refine g_iconst (v := 0) h dX10_bites_33 (by decide) ?_
  exact g_zret h (MW_mv hE) hr (Nat.le_refl _) (Nat.le_refl _) (by decide) dX10_bites_34
def M_bites_B94 {Rt : Type} (s0 : Ms) (rec : Int32 → Int32 → Option Rt) (k100 : Int32 → Option Rt) (a1 : Int32) (a2 : Int32) (l3 : Int32) (l4 : Int32) (l5 : Int32) : Option (Rt) :=
  rec l3 (l5 + 1)
set_option maxHeartbeats 4000000 in
set_option maxRecDepth 100000 in
theorem M_bites_B94_w {p : Program} {l : Launch} {e : Env} {s : State} {m : MethodId} {args : Array Value} {below : List Frame} {meth : Method} {c : Code} {A : Nat → Prop} {Ke : State → Prop} {D : va_G} {cI cZ : ClassId} {E : State → Heap → Prop} {h0 : Nat} {ps : Nat → Nat} (h : gOk p s m args meth c cX10_bites 6 RX10 tb) (hE : mEok E A) (hkw : gKw Ke) (hKs : Ke s) {Rt : Type} {QX : Rt → State → Prop} {rec : Int32 → Int32 → Option Rt} {k100 : Int32 → Option Rt} (s0 : Ms) (a1 : Int32) (a2 : Int32) (l3 : Int32) (l4 : Int32) (l5 : Int32) (hrec : ∀ (l3 : Int32) (l5 : Int32), gS p l e rm_X10_bites s m args below meth c 6 A (MW D cI cZ E A h0 ps) QX 0 0 (rec l3 l5) s0 52 [(0, .ref h0), (1, .int a1), (2, .int a2), (3, .int l3), (4, .int l4), (5, .int l5)] []) (hk100 : ∀ (l3 : Int32), gS p l e rm_X10_bites s m args below meth c 6 A (MW D cI cZ E A h0 ps) QX 0 0 (k100 l3) s0 100 [(0, .ref h0), (1, .int a1), (2, .int a2), (3, .int l3), (4, .int l4)] []) : gS p l e rm_X10_bites s m args below meth c 6 A (MW D cI cZ E A h0 ps) QX 0 0 (M_bites_B94 s0 rec k100 a1 a2 l3 l4 l5) s0 94 [(0, .ref h0), (1, .int a1), (2, .int a2), (3, .int l3), (4, .int l4), (5, .int l5)] [] := by
  unfold M_bites_B94
  refine g_iinc (v := l5 + 1) (i := 5) h [(5, .int (l5 + 1)), (0, .ref h0), (1, .int a1), (2, .int a2), (3, .int l3), (4, .int l4)] dX10_bites_94 rfl rfl (by decide) rfl ?_
  refine g_goto h 52 dX10_bites_97 (by decide) ?_
  refine g_lv [(0, .ref h0), (1, .int a1), (2, .int a2), (3, .int l3), (4, .int l4), (5, .int (l5 + 1))] [1, 2, 3, 4, 5, 0] rfl ?_
  exact hrec _ _
def M_bites_L52 {Rt : Type} (s0 : Ms) (a1 : Int32) (a2 : Int32) (l4 : Int32) (k100 : Int32 → Option Rt) : Nat → Int32 → Int32 → Option Rt
  | 0, _, _ => none
  | F + 1, l3, l5 =>
  if (8 : Int32) ≤ l5 then
      k100 l3
    else
      if okI (((8 : Int32) * l4) + l5) 240 = true then
      if s0.2 12 (((8 : Int32) * l4) + l5).toNatClampNeg = 0 then
        M_bites_B94 s0 (M_bites_L52 s0 a1 a2 l4 k100 F) k100 a1 a2 l3 l4 l5
      else
        (M_isFor s0 (((24 : Int32) * a1) + a2) l4 l5).bind (fun r_86 =>
        if r_86 = 0 then
          M_bites_B94 s0 (M_bites_L52 s0 a1 a2 l4 k100 F) k100 a1 a2 l3 l4 l5
        else
          M_bites_B94 s0 (M_bites_L52 s0 a1 a2 l4 k100 F) k100 a1 a2 (1 : Int32) l4 l5)
      else none
set_option maxHeartbeats 4000000 in
set_option maxRecDepth 100000 in
theorem M_bites_L52_w {p : Program} {l : Launch} {e : Env} {s : State} {m : MethodId} {args : Array Value} {below : List Frame} {meth : Method} {c : Code} {A : Nat → Prop} {Ke : State → Prop} {D : va_G} {cI cZ : ClassId} {E : State → Heap → Prop} {h0 : Nat} {ps : Nat → Nat} (h : gOk p s m args meth c cX10_bites 6 RX10 tb) (hE : mEok E A) (hkw : gKw Ke) (hKs : Ke s) {Rt : Type} {QX : Rt → State → Prop} (s0 : Ms) (a1 : Int32) (a2 : Int32) (l4 : Int32) {k100 : Int32 → Option Rt} (hk100 : ∀ (l3 : Int32), gS p l e rm_X10_bites s m args below meth c 6 A (MW D cI cZ E A h0 ps) QX 0 0 (k100 l3) s0 100 [(0, .ref h0), (1, .int a1), (2, .int a2), (3, .int l3), (4, .int l4)] []) : ∀ (F : Nat) (l3 : Int32) (l5 : Int32), gS p l e rm_X10_bites s m args below meth c 6 A (MW D cI cZ E A h0 ps) QX 0 0 (M_bites_L52 s0 a1 a2 l4 k100 F l3 l5) s0 52 [(0, .ref h0), (1, .int a1), (2, .int a2), (3, .int l3), (4, .int l4), (5, .int l5)] [] := by
  intro F
  induction F with
  | zero =>
    intro l3 l5
    unfold M_bites_L52
    exact g_none
  | succ F ih =>
    intro l3 l5
    unfold M_bites_L52
    refine g_iload h 5 dX10_bites_52 rfl ?_
    refine g_bipush (v := 8) h dX10_bites_54 (by decide) ?_
    refine g_icmp_ge h 100 dX10_bites_56 (by decide) ?_ ?_
    · refine g_lv [(0, .ref h0), (1, .int a1), (2, .int a2), (3, .int l3), (4, .int l4)] [0, 1, 2, 3, 4] rfl ?_
      exact hk100 _
    · refine g_aload_n h 0 dX10_bites_59 rfl ?_
      refine m_geta h hinX10 12 (by decide) rfl tW_918 dX10_bites_60 ?_
      refine g_bipush (v := 8) h dX10_bites_63 (by decide) ?_
      refine g_iload h 4 dX10_bites_65 rfl ?_
      refine g_imul h dX10_bites_67 ?_
      refine g_iload h 5 dX10_bites_68 rfl ?_
      refine g_iadd h dX10_bites_70 ?_
      refine m_iald h 12 rfl rfl 240 rfl dX10_bites_71 ?_
      refine g_if_eq h 94 dX10_bites_72 (by decide) ?_ ?_
      · exact M_bites_B94_w h hE hkw hKs _ _ _ _ _ _ (ih) hk100
      · refine g_aload_n h 0 dX10_bites_75 rfl ?_
        refine g_bipush (v := 24) h dX10_bites_76 (by decide) ?_
        refine g_iload_n h 1 dX10_bites_78 rfl ?_
        refine g_imul h dX10_bites_79 ?_
        refine g_iload_n h 2 dX10_bites_80 rfl ?_
        refine g_iadd h dX10_bites_81 ?_
        refine g_iload h 4 dX10_bites_82 rfl ?_
        refine g_iload h 5 dX10_bites_84 rfl ?_
        refine g_callV0p h (MW_mv hE) hkw hKs [.int (((24 : Int32) * a1) + a2), .int l4, .int l5] (c_X10_isFor hE hkw s0 (((24 : Int32) * a1) + a2) l4 l5) yk_X10_isFor tW_1248 ⟨(Nat.le_of_ble_eq_true rfl), (Nat.le_of_ble_eq_true rfl)⟩ MW_recv rfl rfl rfl rfl (Nat.le_of_ble_eq_true rfl) dX10_bites_86 ⟨Nat.zero_le _, Nat.zero_le _⟩ (fun r_86 => ?_)
        refine g_if_eq h 94 dX10_bites_89 (by decide) ?_ ?_
        · exact M_bites_B94_w h hE hkw hKs _ _ _ _ _ _ (ih) hk100
        · refine g_iconst (v := 1) h dX10_bites_92 (by decide) ?_
          refine g_istore_n h [(3, .int (1 : Int32)), (0, .ref h0), (1, .int a1), (2, .int a2), (4, .int l4), (5, .int l5)] dX10_bites_93 (by decide) rfl ?_
          refine g_lv [(0, .ref h0), (1, .int a1), (2, .int a2), (3, .int (1 : Int32)), (4, .int l4), (5, .int l5)] [1, 2, 3, 0, 4, 5] rfl ?_
          exact M_bites_B94_w h hE hkw hKs _ _ _ _ _ _ (ih) hk100
def M_bites_L40 {Rt : Type} (s0 : Ms) (a1 : Int32) (a2 : Int32) (k106 : Int32 → Option Rt) : Nat → Int32 → Int32 → Option Rt
  | 0, _, _ => none
  | F + 1, l3, l4 =>
  if s0.1 2 ≤ l4 then
      k106 l3
    else
      M_bites_L52 s0 a1 a2 l4 (fun v3_100 => M_bites_L40 s0 a1 a2 k106 F v3_100 (l4 + 1)) gF l3 (0 : Int32)
set_option maxHeartbeats 4000000 in
set_option maxRecDepth 100000 in
theorem M_bites_L40_w {p : Program} {l : Launch} {e : Env} {s : State} {m : MethodId} {args : Array Value} {below : List Frame} {meth : Method} {c : Code} {A : Nat → Prop} {Ke : State → Prop} {D : va_G} {cI cZ : ClassId} {E : State → Heap → Prop} {h0 : Nat} {ps : Nat → Nat} (h : gOk p s m args meth c cX10_bites 6 RX10 tb) (hE : mEok E A) (hkw : gKw Ke) (hKs : Ke s) {Rt : Type} {QX : Rt → State → Prop} (s0 : Ms) (a1 : Int32) (a2 : Int32) {k106 : Int32 → Option Rt} (hk106 : ∀ (l3 : Int32), gS p l e rm_X10_bites s m args below meth c 6 A (MW D cI cZ E A h0 ps) QX 0 0 (k106 l3) s0 106 [(3, .int l3)] []) : ∀ (F : Nat) (l3 : Int32) (l4 : Int32), gS p l e rm_X10_bites s m args below meth c 6 A (MW D cI cZ E A h0 ps) QX 0 0 (M_bites_L40 s0 a1 a2 k106 F l3 l4) s0 40 [(0, .ref h0), (1, .int a1), (2, .int a2), (3, .int l3), (4, .int l4)] [] := by
  intro F
  induction F with
  | zero =>
    intro l3 l4
    unfold M_bites_L40
    exact g_none
  | succ F ih =>
    intro l3 l4
    unfold M_bites_L40
    refine g_iload h 4 dX10_bites_40 rfl ?_
    refine g_aload_n h 0 dX10_bites_42 rfl ?_
    refine m_get h hinX10 2 (by decide) rfl tW_908 dX10_bites_43 ?_
    refine g_icmp_ge h 106 dX10_bites_46 (by decide) ?_ ?_
    · refine g_lv [(3, .int l3)] [3] rfl ?_
      exact hk106 _
    · refine g_iconst (v := 0) h dX10_bites_49 (by decide) ?_
      refine g_istore h [(5, .int (0 : Int32)), (0, .ref h0), (1, .int a1), (2, .int a2), (3, .int l3), (4, .int l4)] dX10_bites_50 (by decide) rfl ?_
      refine g_lv [(0, .ref h0), (1, .int a1), (2, .int a2), (3, .int l3), (4, .int l4), (5, .int (0 : Int32))] [1, 2, 3, 4, 5, 0] rfl ?_
      refine M_bites_L52_w h hE hkw hKs _ _ _ _ (fun v3_100 => ?_) _ _ _
      · refine g_iinc (v := l4 + 1) (i := 4) h [(4, .int (l4 + 1)), (0, .ref h0), (1, .int a1), (2, .int a2), (3, .int v3_100)] dX10_bites_100 rfl rfl (by decide) rfl ?_
        refine g_goto h 40 dX10_bites_103 (by decide) ?_
        refine g_lv [(0, .ref h0), (1, .int a1), (2, .int a2), (3, .int v3_100), (4, .int (l4 + 1))] [1, 2, 3, 4, 0] rfl ?_
        exact ih _ _
def M_bites (s0 : Ms) (a1 : Int32) (a2 : Int32) : Option (Int32 × Ms) :=
  bnd (mSet s0 0 (0 : Int32)) (fun s_2 =>
  (M_isSet s_2 a1).bind (fun r_7 =>
  if r_7 = 0 then
    M_bites_B27 s_2
  else
    if a2 < 0 then
      M_bites_B27 s_2
    else
      if okI a1 8 = true then
      if a2 < s_2.2 25 a1.toNatClampNeg then
        M_bites_L40 s_2 a1 a2 (fun v3_106 => if okZ v3_106 = true then some (v3_106, s_2) else none) gF (0 : Int32) (0 : Int32)
      else
        M_bites_B27 s_2
      else none))
set_option maxHeartbeats 4000000 in
set_option maxRecDepth 100000 in
theorem c_X10_bites {l : Launch} {A : Nat → Prop} {Ke : State → Prop} {D : va_G} {cI cZ : ClassId} {E : State → Heap → Prop} {h0 : Nat} {ps : Nat → Nat} (hE : mEok E A) (hkw : gKw Ke) (s0 : Ms) (a1 : Int32) (a2 : Int32) : gCi l yX10_bites cX10_bites 6 (some .boolean) rm_X10_bites Ke (MW D cI cZ E A h0 ps) A [.ref h0, .int a1, .int a2] s0 (M_bites s0 a1 a2) := by
  refine g_meti (by decide) (by simp [lg_sl, Value.category]) ?_
  intro p e s m below meth c h hr hKs
  refine g_lv [(0, .ref h0), (1, .int a1), (2, .int a2)] [0, 1, 2] rfl ?_
  unfold M_bites
  refine g_aload_n h 0 dX10_bites_0 rfl ?_
  refine g_iconst (v := 0) h dX10_bites_1 (by decide) ?_
  refine m_put h hE hinX10 0 (by decide) rfl rfl rfl tW_906 dX10_bites_2 ?_
  refine g_bnd (fun s_2 => ?_)
  refine g_aload_n h 0 dX10_bites_5 rfl ?_
  refine g_iload_n h 1 dX10_bites_6 rfl ?_
  refine g_callV0p h (MW_mv hE) hkw hKs [.int a1] (c_X10_isSet hE hkw s_2 a1) yk_X10_isSet tW_1301 ⟨(Nat.le_of_ble_eq_true rfl), (Nat.le_of_ble_eq_true rfl)⟩ MW_recv rfl rfl rfl rfl (Nat.le_of_ble_eq_true rfl) dX10_bites_7 ⟨Nat.zero_le _, Nat.zero_le _⟩ (fun r_7 => ?_)
  refine g_if_eq h 27 dX10_bites_10 (by decide) ?_ ?_
  · refine g_lv [(0, .ref h0)] [0] rfl ?_
    exact M_bites_B27_w h hE hkw hKs _  hr
  · refine g_iload_n h 2 dX10_bites_13 rfl ?_
    refine g_if_lt h 27 dX10_bites_14 (by decide) ?_ ?_
    · refine g_lv [(0, .ref h0)] [0] rfl ?_
      exact M_bites_B27_w h hE hkw hKs _  hr
    · refine g_iload_n h 2 dX10_bites_17 rfl ?_
      refine g_aload_n h 0 dX10_bites_18 rfl ?_
      refine m_geta h hinX10 25 (by decide) rfl tW_931 dX10_bites_19 ?_
      refine g_iload_n h 1 dX10_bites_22 rfl ?_
      refine m_iald h 25 rfl rfl 8 rfl dX10_bites_23 ?_
      refine g_icmp_lt h 35 dX10_bites_24 (by decide) ?_ ?_
      · refine g_iconst (v := 0) h dX10_bites_35 (by decide) ?_
        refine g_istore_n h [(3, .int (0 : Int32)), (0, .ref h0), (1, .int a1), (2, .int a2)] dX10_bites_36 (by decide) rfl ?_
        refine g_iconst (v := 0) h dX10_bites_37 (by decide) ?_
        refine g_istore h [(4, .int (0 : Int32)), (3, .int (0 : Int32)), (0, .ref h0), (1, .int a1), (2, .int a2)] dX10_bites_38 (by decide) rfl ?_
        refine g_lv [(0, .ref h0), (1, .int a1), (2, .int a2), (3, .int (0 : Int32)), (4, .int (0 : Int32))] [2, 3, 4, 1, 0] rfl ?_
        refine M_bites_L40_w h hE hkw hKs _ _ _ (fun v3_106 => ?_) _ _ _
        · refine g_iload_n h 0 dX10_bites_106 rfl ?_
          refine g_guard (fun hz => ?_)
          exact g_zret h (MW_mv hE) hr (Nat.le_refl _) (Nat.le_refl _) hz dX10_bites_107
      · refine g_lv [(0, .ref h0)] [0] rfl ?_
        exact M_bites_B27_w h hE hkw hKs _  hr
def rm_X10_sweep : Room := { frames := 10, cells := 0, slots := 0, locals := 239 }
theorem yk_X10_sweep : yOkV yX10_sweep cX10_sweep 4 (none) RX10 1 := ⟨tW_1343, tW_5, tW_1342, tP_59, by decide, by decide, by decide +kernel⟩
def M_sweep_B168 {Rt : Type} (s0 : Ms) (rec : Ms → Int32 → Option Rt) (k174 : Ms → Option Rt) (a1 : Int32) (l2 : Int32) (l3 : Int32) : Option (Rt) :=
  rec s0 (l3 + 1)
set_option maxHeartbeats 4000000 in
set_option maxRecDepth 100000 in
theorem M_sweep_B168_w {p : Program} {l : Launch} {e : Env} {s : State} {m : MethodId} {args : Array Value} {below : List Frame} {meth : Method} {c : Code} {A : Nat → Prop} {Ke : State → Prop} {D : va_G} {cI cZ : ClassId} {E : State → Heap → Prop} {h0 : Nat} {ps : Nat → Nat} (h : gOk p s m args meth c cX10_sweep 4 RX10 tb) (hE : mEok E A) (hkw : gKw Ke) (hKs : Ke s) {Rt : Type} {QX : Rt → State → Prop} {rec : Ms → Int32 → Option Rt} {k174 : Ms → Option Rt} (s0 : Ms) (a1 : Int32) (l2 : Int32) (l3 : Int32) (hrec : ∀ (sx : Ms) (l3 : Int32), gS p l e rm_X10_sweep s m args below meth c 4 A (MW D cI cZ E A h0 ps) QX 0 0 (rec sx l3) sx 12 [(0, .ref h0), (1, .int a1), (2, .int l2), (3, .int l3)] []) (hk174 : ∀ (sx : Ms), gS p l e rm_X10_sweep s m args below meth c 4 A (MW D cI cZ E A h0 ps) QX 0 0 (k174 sx) sx 174 [(0, .ref h0), (1, .int a1), (2, .int l2)] []) : gS p l e rm_X10_sweep s m args below meth c 4 A (MW D cI cZ E A h0 ps) QX 0 0 (M_sweep_B168 s0 rec k174 a1 l2 l3) s0 168 [(0, .ref h0), (1, .int a1), (2, .int l2), (3, .int l3)] [] := by
  unfold M_sweep_B168
  refine g_iinc (v := l3 + 1) (i := 3) h [(3, .int (l3 + 1)), (0, .ref h0), (1, .int a1), (2, .int l2)] dX10_sweep_168 rfl rfl (by decide) rfl ?_
  refine g_goto h 12 dX10_sweep_171 (by decide) ?_
  refine g_lv [(0, .ref h0), (1, .int a1), (2, .int l2), (3, .int (l3 + 1))] [1, 2, 3, 0] rfl ?_
  exact hrec _ _
def M_sweep_B158 {Rt : Type} (s0 : Ms) (rec : Ms → Int32 → Option Rt) (k174 : Ms → Option Rt) (a1 : Int32) (l2 : Int32) (l3 : Int32) : Option (Rt) :=
  bnd (mSet s0 5 ((s0.1 5) + (1 : Int32))) (fun s_165 =>
  M_sweep_B168 s_165 rec k174 a1 l2 l3)
set_option maxHeartbeats 4000000 in
set_option maxRecDepth 100000 in
theorem M_sweep_B158_w {p : Program} {l : Launch} {e : Env} {s : State} {m : MethodId} {args : Array Value} {below : List Frame} {meth : Method} {c : Code} {A : Nat → Prop} {Ke : State → Prop} {D : va_G} {cI cZ : ClassId} {E : State → Heap → Prop} {h0 : Nat} {ps : Nat → Nat} (h : gOk p s m args meth c cX10_sweep 4 RX10 tb) (hE : mEok E A) (hkw : gKw Ke) (hKs : Ke s) {Rt : Type} {QX : Rt → State → Prop} {rec : Ms → Int32 → Option Rt} {k174 : Ms → Option Rt} (s0 : Ms) (a1 : Int32) (l2 : Int32) (l3 : Int32) (hrec : ∀ (sx : Ms) (l3 : Int32), gS p l e rm_X10_sweep s m args below meth c 4 A (MW D cI cZ E A h0 ps) QX 0 0 (rec sx l3) sx 12 [(0, .ref h0), (1, .int a1), (2, .int l2), (3, .int l3)] []) (hk174 : ∀ (sx : Ms), gS p l e rm_X10_sweep s m args below meth c 4 A (MW D cI cZ E A h0 ps) QX 0 0 (k174 sx) sx 174 [(0, .ref h0), (1, .int a1), (2, .int l2)] []) : gS p l e rm_X10_sweep s m args below meth c 4 A (MW D cI cZ E A h0 ps) QX 0 0 (M_sweep_B158 s0 rec k174 a1 l2 l3) s0 158 [(0, .ref h0), (1, .int a1), (2, .int l2), (3, .int l3)] [] := by
  unfold M_sweep_B158
  refine g_aload_n h 0 dX10_sweep_158 rfl ?_
  refine g_dup h dX10_sweep_159 rfl ?_
  refine m_get h hinX10 5 (by decide) rfl tW_911 dX10_sweep_160 ?_
  refine g_iconst (v := 1) h dX10_sweep_163 (by decide) ?_
  refine g_iadd h dX10_sweep_164 ?_
  refine m_put h hE hinX10 5 (by decide) rfl rfl rfl tW_911 dX10_sweep_165 ?_
  refine g_bnd (fun s_165 => ?_)
  exact M_sweep_B168_w h hE hkw hKs _ _ _ _ hrec hk174
def M_sweep_B92 {Rt : Type} (s0 : Ms) (rec : Ms → Int32 → Option Rt) (k174 : Ms → Option Rt) (a1 : Int32) (l2 : Int32) (l3 : Int32) : Option (Rt) :=
  if (400 : Int32) ≤ s0.1 5 then
    M_sweep_B158 s0 rec k174 a1 l2 l3
  else
    if okI (s0.1 5) 400 = true then
    bnd (mSto s0 19 (s0.1 5).toNatClampNeg l2) (fun s_111 =>
    if okI (s_111.1 5) 400 = true then
    bnd (mSto s_111 20 (s_111.1 5).toNatClampNeg l3) (fun s_121 =>
    if okI (s_121.1 5) 400 = true then
    bnd (mSto s_121 21 (s_121.1 5).toNatClampNeg a1) (fun s_131 =>
    if okI (s_131.1 5) 400 = true then
    bnd (mSto s_131 22 (s_131.1 5).toNatClampNeg (s_131.1 1)) (fun s_144 =>
    if okI (s_144.1 5) 400 = true then
    bnd (mSto s_144 23 (s_144.1 5).toNatClampNeg (s_144.1 51)) (fun s_157 =>
    M_sweep_B158 s_157 rec k174 a1 l2 l3)
    else none)
    else none)
    else none)
    else none)
    else none
set_option maxHeartbeats 4000000 in
set_option maxRecDepth 100000 in
theorem M_sweep_B92_w {p : Program} {l : Launch} {e : Env} {s : State} {m : MethodId} {args : Array Value} {below : List Frame} {meth : Method} {c : Code} {A : Nat → Prop} {Ke : State → Prop} {D : va_G} {cI cZ : ClassId} {E : State → Heap → Prop} {h0 : Nat} {ps : Nat → Nat} (h : gOk p s m args meth c cX10_sweep 4 RX10 tb) (hE : mEok E A) (hkw : gKw Ke) (hKs : Ke s) {Rt : Type} {QX : Rt → State → Prop} {rec : Ms → Int32 → Option Rt} {k174 : Ms → Option Rt} (s0 : Ms) (a1 : Int32) (l2 : Int32) (l3 : Int32) (hrec : ∀ (sx : Ms) (l3 : Int32), gS p l e rm_X10_sweep s m args below meth c 4 A (MW D cI cZ E A h0 ps) QX 0 0 (rec sx l3) sx 12 [(0, .ref h0), (1, .int a1), (2, .int l2), (3, .int l3)] []) (hk174 : ∀ (sx : Ms), gS p l e rm_X10_sweep s m args below meth c 4 A (MW D cI cZ E A h0 ps) QX 0 0 (k174 sx) sx 174 [(0, .ref h0), (1, .int a1), (2, .int l2)] []) : gS p l e rm_X10_sweep s m args below meth c 4 A (MW D cI cZ E A h0 ps) QX 0 0 (M_sweep_B92 s0 rec k174 a1 l2 l3) s0 92 [(0, .ref h0), (1, .int a1), (2, .int l2), (3, .int l3)] [] := by
  unfold M_sweep_B92
  refine g_aload_n h 0 dX10_sweep_92 rfl ?_
  refine m_get h hinX10 5 (by decide) rfl tW_911 dX10_sweep_93 ?_
  refine g_sipush (v := 400) h dX10_sweep_96 (by decide) ?_
  refine g_icmp_ge h 158 dX10_sweep_99 (by decide) ?_ ?_
  · exact M_sweep_B158_w h hE hkw hKs _ _ _ _ hrec hk174
  · refine g_aload_n h 0 dX10_sweep_102 rfl ?_
    refine m_geta h hinX10 19 (by decide) rfl tW_925 dX10_sweep_103 ?_
    refine g_aload_n h 0 dX10_sweep_106 rfl ?_
    refine m_get h hinX10 5 (by decide) rfl tW_911 dX10_sweep_107 ?_
    refine g_iload_n h 2 dX10_sweep_110 rfl ?_
    refine m_iast h hE 19 rfl rfl 400 rfl dX10_sweep_111 ?_
    refine g_bnd (fun s_111 => ?_)
    refine g_aload_n h 0 dX10_sweep_112 rfl ?_
    refine m_geta h hinX10 20 (by decide) rfl tW_926 dX10_sweep_113 ?_
    refine g_aload_n h 0 dX10_sweep_116 rfl ?_
    refine m_get h hinX10 5 (by decide) rfl tW_911 dX10_sweep_117 ?_
    refine g_iload_n h 3 dX10_sweep_120 rfl ?_
    refine m_iast h hE 20 rfl rfl 400 rfl dX10_sweep_121 ?_
    refine g_bnd (fun s_121 => ?_)
    refine g_aload_n h 0 dX10_sweep_122 rfl ?_
    refine m_geta h hinX10 21 (by decide) rfl tW_927 dX10_sweep_123 ?_
    refine g_aload_n h 0 dX10_sweep_126 rfl ?_
    refine m_get h hinX10 5 (by decide) rfl tW_911 dX10_sweep_127 ?_
    refine g_iload_n h 1 dX10_sweep_130 rfl ?_
    refine m_iast h hE 21 rfl rfl 400 rfl dX10_sweep_131 ?_
    refine g_bnd (fun s_131 => ?_)
    refine g_aload_n h 0 dX10_sweep_132 rfl ?_
    refine m_geta h hinX10 22 (by decide) rfl tW_928 dX10_sweep_133 ?_
    refine g_aload_n h 0 dX10_sweep_136 rfl ?_
    refine m_get h hinX10 5 (by decide) rfl tW_911 dX10_sweep_137 ?_
    refine g_aload_n h 0 dX10_sweep_140 rfl ?_
    refine m_get h hinX10 1 (by decide) rfl tW_907 dX10_sweep_141 ?_
    refine m_iast h hE 22 rfl rfl 400 rfl dX10_sweep_144 ?_
    refine g_bnd (fun s_144 => ?_)
    refine g_aload_n h 0 dX10_sweep_145 rfl ?_
    refine m_geta h hinX10 23 (by decide) rfl tW_929 dX10_sweep_146 ?_
    refine g_aload_n h 0 dX10_sweep_149 rfl ?_
    refine m_get h hinX10 5 (by decide) rfl tW_911 dX10_sweep_150 ?_
    refine g_aload_n h 0 dX10_sweep_153 rfl ?_
    refine m_get h hinX10 51 (by decide) rfl tW_957 dX10_sweep_154 ?_
    refine m_iast h hE 23 rfl rfl 400 rfl dX10_sweep_157 ?_
    refine g_bnd (fun s_157 => ?_)
    exact M_sweep_B158_w h hE hkw hKs _ _ _ _ hrec hk174
def M_sweep_L12 {Rt : Type} (a1 : Int32) (l2 : Int32) (k174 : Ms → Option Rt) : Nat → Ms → Int32 → Option Rt
  | 0, _, _ => none
  | F + 1, s0, l3 =>
  if (8 : Int32) ≤ l3 then
      k174 s0
    else
      if okI (((8 : Int32) * l2) + l3) 240 = true then
      if ((s0.2 12 (((8 : Int32) * l2) + l3).toNatClampNeg) >>> (a1 &&& 31)) &&& (1 : Int32) = 0 then
        M_sweep_B168 s0 (M_sweep_L12 a1 l2 k174 F) k174 a1 l2 l3
      else
        bi (M_isDue s0 l2 l3 (s0.1 1)) (fun r_43 s_43 =>
        if r_43 = 0 then
          M_sweep_B168 s_43 (M_sweep_L12 a1 l2 k174 F) k174 a1 l2 l3
        else
          if okI (((8 : Int32) * l2) + l3) 240 = true then
          if okI (((8 : Int32) * l2) + l3) 240 = true then
          bnd (mSto s_43 12 (((8 : Int32) * l2) + l3).toNatClampNeg ((s_43.2 12 (((8 : Int32) * l2) + l3).toNatClampNeg) &&& (((1 : Int32) <<< (a1 &&& 31)) ^^^ (-1 : Int32)))) (fun s_70 =>
          if s_70.1 1 ≤ s_70.1 49 then
            M_sweep_B92 s_70 (M_sweep_L12 a1 l2 k174 F) k174 a1 l2 l3
          else
            bnd (mSet s_70 6 ((s_70.1 6) + (1 : Int32))) (fun s_89 =>
            M_sweep_B92 s_89 (M_sweep_L12 a1 l2 k174 F) k174 a1 l2 l3))
          else none
          else none)
      else none
set_option maxHeartbeats 4000000 in
set_option maxRecDepth 100000 in
theorem M_sweep_L12_w {p : Program} {l : Launch} {e : Env} {s : State} {m : MethodId} {args : Array Value} {below : List Frame} {meth : Method} {c : Code} {A : Nat → Prop} {Ke : State → Prop} {D : va_G} {cI cZ : ClassId} {E : State → Heap → Prop} {h0 : Nat} {ps : Nat → Nat} (h : gOk p s m args meth c cX10_sweep 4 RX10 tb) (hE : mEok E A) (hkw : gKw Ke) (hKs : Ke s) {Rt : Type} {QX : Rt → State → Prop} (a1 : Int32) (l2 : Int32) {k174 : Ms → Option Rt} (hk174 : ∀ (sx : Ms), gS p l e rm_X10_sweep s m args below meth c 4 A (MW D cI cZ E A h0 ps) QX 0 0 (k174 sx) sx 174 [(0, .ref h0), (1, .int a1), (2, .int l2)] []) : ∀ (F : Nat) (s0 : Ms) (l3 : Int32), gS p l e rm_X10_sweep s m args below meth c 4 A (MW D cI cZ E A h0 ps) QX 0 0 (M_sweep_L12 a1 l2 k174 F s0 l3) s0 12 [(0, .ref h0), (1, .int a1), (2, .int l2), (3, .int l3)] [] := by
  intro F
  induction F with
  | zero =>
    intro s0 l3
    unfold M_sweep_L12
    exact g_none
  | succ F ih =>
    intro s0 l3
    unfold M_sweep_L12
    refine g_iload_n h 3 dX10_sweep_12 rfl ?_
    refine g_bipush (v := 8) h dX10_sweep_13 (by decide) ?_
    refine g_icmp_ge h 174 dX10_sweep_15 (by decide) ?_ ?_
    · refine g_lv [(0, .ref h0), (1, .int a1), (2, .int l2)] [0, 1, 2] rfl ?_
      exact hk174 _
    · refine g_aload_n h 0 dX10_sweep_18 rfl ?_
      refine m_geta h hinX10 12 (by decide) rfl tW_918 dX10_sweep_19 ?_
      refine g_bipush (v := 8) h dX10_sweep_22 (by decide) ?_
      refine g_iload_n h 2 dX10_sweep_24 rfl ?_
      refine g_imul h dX10_sweep_25 ?_
      refine g_iload_n h 3 dX10_sweep_26 rfl ?_
      refine g_iadd h dX10_sweep_27 ?_
      refine m_iald h 12 rfl rfl 240 rfl dX10_sweep_28 ?_
      refine g_iload_n h 1 dX10_sweep_29 rfl ?_
      refine g_ishr h dX10_sweep_30 ?_
      refine g_iconst (v := 1) h dX10_sweep_31 (by decide) ?_
      refine g_iand h dX10_sweep_32 ?_
      refine g_if_eq h 168 dX10_sweep_33 (by decide) ?_ ?_
      · exact M_sweep_B168_w h hE hkw hKs _ _ _ _ (ih) hk174
      · refine g_aload_n h 0 dX10_sweep_36 rfl ?_
        refine g_iload_n h 2 dX10_sweep_37 rfl ?_
        refine g_iload_n h 3 dX10_sweep_38 rfl ?_
        refine g_aload_n h 0 dX10_sweep_39 rfl ?_
        refine m_get h hinX10 1 (by decide) rfl tW_907 dX10_sweep_40 ?_
        refine g_callV0i h (MW_mv hE) hkw hKs [.int l2, .int l3, .int (s0.1 1)] (c_X10_isDue hE hkw s0 l2 l3 (s0.1 1)) yk_X10_isDue tW_1272 ⟨(Nat.le_of_ble_eq_true rfl), (Nat.le_of_ble_eq_true rfl)⟩ MW_recv rfl rfl rfl rfl (Nat.le_of_ble_eq_true rfl) dX10_sweep_43 ⟨Nat.zero_le _, Nat.zero_le _⟩ (fun r_43 s_43 => ?_)
        refine g_if_ne h 52 dX10_sweep_46 (by decide) ?_ ?_
        · refine g_aload_n h 0 dX10_sweep_52 rfl ?_
          refine m_geta h hinX10 12 (by decide) rfl tW_918 dX10_sweep_53 ?_
          refine g_bipush (v := 8) h dX10_sweep_56 (by decide) ?_
          refine g_iload_n h 2 dX10_sweep_58 rfl ?_
          refine g_imul h dX10_sweep_59 ?_
          refine g_iload_n h 3 dX10_sweep_60 rfl ?_
          refine g_iadd h dX10_sweep_61 ?_
          refine g_dup2 h dX10_sweep_62 rfl rfl ?_
          refine m_iald h 12 rfl rfl 240 rfl dX10_sweep_63 ?_
          refine g_iconst (v := 1) h dX10_sweep_64 (by decide) ?_
          refine g_iload_n h 1 dX10_sweep_65 rfl ?_
          refine g_ishl h dX10_sweep_66 ?_
          refine g_iconst (v := -1) h dX10_sweep_67 (by decide) ?_
          refine g_ixor h dX10_sweep_68 ?_
          refine g_iand h dX10_sweep_69 ?_
          refine m_iast h hE 12 rfl rfl 240 rfl dX10_sweep_70 ?_
          refine g_bnd (fun s_70 => ?_)
          refine g_aload_n h 0 dX10_sweep_71 rfl ?_
          refine m_get h hinX10 1 (by decide) rfl tW_907 dX10_sweep_72 ?_
          refine g_aload_n h 0 dX10_sweep_75 rfl ?_
          refine m_get h hinX10 49 (by decide) rfl tW_955 dX10_sweep_76 ?_
          refine g_icmp_le h 92 dX10_sweep_79 (by decide) ?_ ?_
          · exact M_sweep_B92_w h hE hkw hKs _ _ _ _ (ih) hk174
          · refine g_aload_n h 0 dX10_sweep_82 rfl ?_
            refine g_dup h dX10_sweep_83 rfl ?_
            refine m_get h hinX10 6 (by decide) rfl tW_912 dX10_sweep_84 ?_
            refine g_iconst (v := 1) h dX10_sweep_87 (by decide) ?_
            refine g_iadd h dX10_sweep_88 ?_
            refine m_put h hE hinX10 6 (by decide) rfl rfl rfl tW_912 dX10_sweep_89 ?_
            refine g_bnd (fun s_89 => ?_)
            exact M_sweep_B92_w h hE hkw hKs _ _ _ _ (ih) hk174
        · refine g_goto h 168 dX10_sweep_49 (by decide) ?_
          exact M_sweep_B168_w h hE hkw hKs _ _ _ _ (ih) hk174
def M_sweep_L2 {Rt : Type} (a1 : Int32) (k180 : Ms → Option Rt) : Nat → Ms → Int32 → Option Rt
  | 0, _, _ => none
  | F + 1, s0, l2 =>
  if s0.1 2 ≤ l2 then
      k180 s0
    else
      M_sweep_L12 a1 l2 (fun s_174 => M_sweep_L2 a1 k180 F s_174 (l2 + 1)) gF s0 (0 : Int32)
set_option maxHeartbeats 4000000 in
set_option maxRecDepth 100000 in
theorem M_sweep_L2_w {p : Program} {l : Launch} {e : Env} {s : State} {m : MethodId} {args : Array Value} {below : List Frame} {meth : Method} {c : Code} {A : Nat → Prop} {Ke : State → Prop} {D : va_G} {cI cZ : ClassId} {E : State → Heap → Prop} {h0 : Nat} {ps : Nat → Nat} (h : gOk p s m args meth c cX10_sweep 4 RX10 tb) (hE : mEok E A) (hkw : gKw Ke) (hKs : Ke s) {Rt : Type} {QX : Rt → State → Prop} (a1 : Int32) {k180 : Ms → Option Rt} (hk180 : ∀ (sx : Ms), gS p l e rm_X10_sweep s m args below meth c 4 A (MW D cI cZ E A h0 ps) QX 0 0 (k180 sx) sx 180 [] []) : ∀ (F : Nat) (s0 : Ms) (l2 : Int32), gS p l e rm_X10_sweep s m args below meth c 4 A (MW D cI cZ E A h0 ps) QX 0 0 (M_sweep_L2 a1 k180 F s0 l2) s0 2 [(0, .ref h0), (1, .int a1), (2, .int l2)] [] := by
  intro F
  induction F with
  | zero =>
    intro s0 l2
    unfold M_sweep_L2
    exact g_none
  | succ F ih =>
    intro s0 l2
    unfold M_sweep_L2
    refine g_iload_n h 2 dX10_sweep_2 rfl ?_
    refine g_aload_n h 0 dX10_sweep_3 rfl ?_
    refine m_get h hinX10 2 (by decide) rfl tW_908 dX10_sweep_4 ?_
    refine g_icmp_ge h 180 dX10_sweep_7 (by decide) ?_ ?_
    · refine g_lv [] [] rfl ?_
      exact hk180 _
    · refine g_iconst (v := 0) h dX10_sweep_10 (by decide) ?_
      refine g_istore_n h [(3, .int (0 : Int32)), (0, .ref h0), (1, .int a1), (2, .int l2)] dX10_sweep_11 (by decide) rfl ?_
      refine g_lv [(0, .ref h0), (1, .int a1), (2, .int l2), (3, .int (0 : Int32))] [1, 2, 3, 0] rfl ?_
      refine M_sweep_L12_w h hE hkw hKs _ _ (fun s_174 => ?_) _ _ _
      · refine g_iinc (v := l2 + 1) (i := 2) h [(2, .int (l2 + 1)), (0, .ref h0), (1, .int a1)] dX10_sweep_174 rfl rfl (by decide) rfl ?_
        refine g_goto h 2 dX10_sweep_177 (by decide) ?_
        refine g_lv [(0, .ref h0), (1, .int a1), (2, .int (l2 + 1))] [1, 2, 0] rfl ?_
        exact ih _ _
def M_sweep (s0 : Ms) (a1 : Int32) : Option (Ms) :=
  M_sweep_L2 a1 (fun s_180 => some s_180) gF s0 (0 : Int32)
set_option maxHeartbeats 4000000 in
set_option maxRecDepth 100000 in
theorem c_X10_sweep {l : Launch} {A : Nat → Prop} {Ke : State → Prop} {D : va_G} {cI cZ : ClassId} {E : State → Heap → Prop} {h0 : Nat} {ps : Nat → Nat} (hE : mEok E A) (hkw : gKw Ke) (s0 : Ms) (a1 : Int32) : gCv l yX10_sweep cX10_sweep 4 (none) rm_X10_sweep Ke (MW D cI cZ E A h0 ps) A [.ref h0, .int a1] s0 (M_sweep s0 a1) := by
  refine g_metv (by decide) (by simp [lg_sl, Value.category]) ?_
  intro p e s m below meth c h hr hKs
  refine g_lv [(0, .ref h0), (1, .int a1)] [0, 1] rfl ?_
  unfold M_sweep
  refine g_iconst (v := 0) h dX10_sweep_0 (by decide) ?_
  refine g_istore_n h [(2, .int (0 : Int32)), (0, .ref h0), (1, .int a1)] dX10_sweep_1 (by decide) rfl ?_
  refine g_lv [(0, .ref h0), (1, .int a1), (2, .int (0 : Int32))] [1, 2, 0] rfl ?_
  refine M_sweep_L2_w h hE hkw hKs _ (fun s_180 => ?_) _ _ _
  · exact g_vret h (MW_mv hE) hr (Nat.le_refl _) (Nat.le_refl _) dX10_sweep_180
def rm_X10_days : Room := { frames := 11, cells := 0, slots := 0, locals := 262 }
theorem yk_X10_days : yOkV yX10_days cX10_days 4 (some .int) RX10 1 := ⟨tW_1339, tW_5, tW_1337, tW_1338, by decide, by decide, by decide +kernel⟩
def M_days_B27 (s0 : Ms)  : Option (Int32 × Ms) :=
  bi (M_fail s0 (1 : Int32)) (fun r_29 s_29 =>
  some (r_29, s_29))
set_option maxHeartbeats 4000000 in
set_option maxRecDepth 100000 in
theorem M_days_B27_w {p : Program} {l : Launch} {e : Env} {s : State} {m : MethodId} {args : Array Value} {below : List Frame} {meth : Method} {c : Code} {A : Nat → Prop} {Ke : State → Prop} {D : va_G} {cI cZ : ClassId} {E : State → Heap → Prop} {h0 : Nat} {ps : Nat → Nat} (h : gOk p s m args meth c cX10_days 4 RX10 tb) (hE : mEok E A) (hkw : gKw Ke) (hKs : Ke s) (s0 : Ms)  (hr : meth.sig.returnType = some .int)  : gS p l e rm_X10_days s m args below meth c 4 A (MW D cI cZ E A h0 ps) (fun X => MQ below (gPi (MW D cI cZ E A h0 ps) A X) args s rm_X10_days.cells rm_X10_days.slots A) 0 0 (M_days_B27 s0) s0 27 [(0, .ref h0)] [] := by
  unfold M_days_B27
  refine g_aload_n h 0 dX10_days_27 rfl ?_
  refine g_iconst (v := 1) h dX10_days_28 (by decide) ?_
  refine g_callV0i h (MW_mv hE) hkw hKs [.int (1 : Int32)] (c_X10_fail hE hkw s0 (1 : Int32)) yk_X10_fail tW_1111 ⟨(Nat.le_of_ble_eq_true rfl), (Nat.le_of_ble_eq_true rfl)⟩ MW_recv rfl rfl rfl rfl (Nat.le_of_ble_eq_true rfl) dX10_days_29 ⟨Nat.zero_le _, Nat.zero_le _⟩ (fun r_29 s_29 => ?_)
  exact g_iret h (MW_mv hE) hr (Nat.le_refl _) (Nat.le_refl _) dX10_days_32
def M_days_B96 {Rt : Type} (s0 : Ms) (rec : Ms → Int32 → Option Rt) (k102 : Ms → Option Rt) (a1 : Int32) (l2 : Int32) (l3 : Int32) : Option (Rt) :=
  rec s0 (l3 + 1)
set_option maxHeartbeats 4000000 in
set_option maxRecDepth 100000 in
theorem M_days_B96_w {p : Program} {l : Launch} {e : Env} {s : State} {m : MethodId} {args : Array Value} {below : List Frame} {meth : Method} {c : Code} {A : Nat → Prop} {Ke : State → Prop} {D : va_G} {cI cZ : ClassId} {E : State → Heap → Prop} {h0 : Nat} {ps : Nat → Nat} (h : gOk p s m args meth c cX10_days 4 RX10 tb) (hE : mEok E A) (hkw : gKw Ke) (hKs : Ke s) {Rt : Type} {QX : Rt → State → Prop} {rec : Ms → Int32 → Option Rt} {k102 : Ms → Option Rt} (s0 : Ms) (a1 : Int32) (l2 : Int32) (l3 : Int32) (hrec : ∀ (sx : Ms) (l3 : Int32), gS p l e rm_X10_days s m args below meth c 4 A (MW D cI cZ E A h0 ps) QX 0 0 (rec sx l3) sx 52 [(0, .ref h0), (1, .int a1), (2, .int l2), (3, .int l3)] []) (hk102 : ∀ (sx : Ms), gS p l e rm_X10_days s m args below meth c 4 A (MW D cI cZ E A h0 ps) QX 0 0 (k102 sx) sx 102 [(0, .ref h0), (1, .int a1), (2, .int l2)] []) : gS p l e rm_X10_days s m args below meth c 4 A (MW D cI cZ E A h0 ps) QX 0 0 (M_days_B96 s0 rec k102 a1 l2 l3) s0 96 [(0, .ref h0), (1, .int a1), (2, .int l2), (3, .int l3)] [] := by
  unfold M_days_B96
  refine g_iinc (v := l3 + 1) (i := 3) h [(3, .int (l3 + 1)), (0, .ref h0), (1, .int a1), (2, .int l2)] dX10_days_96 rfl rfl (by decide) rfl ?_
  refine g_goto h 52 dX10_days_99 (by decide) ?_
  refine g_lv [(0, .ref h0), (1, .int a1), (2, .int l2), (3, .int (l3 + 1))] [1, 2, 3, 0] rfl ?_
  exact hrec _ _
def M_days_L52 {Rt : Type} (a1 : Int32) (l2 : Int32) (k102 : Ms → Option Rt) : Nat → Ms → Int32 → Option Rt
  | 0, _, _ => none
  | F + 1, s0, l3 =>
  if (4 : Int32) ≤ l3 then
      k102 s0
    else
      if okI l3 4 = true then
      if s0.1 1 < s0.2 15 l3.toNatClampNeg then
        M_days_B96 s0 (M_days_L52 a1 l2 k102 F) k102 a1 l2 l3
      else
        if okI l3 4 = true then
        if okI l3 4 = true then
        if s0.2 14 l3.toNatClampNeg = 0 then none else
        if ((s0.1 1) - (s0.2 15 l3.toNatClampNeg)) - ((s0.1 1) - (s0.2 15 l3.toNatClampNeg)) / (s0.2 14 l3.toNatClampNeg) * (s0.2 14 l3.toNatClampNeg) = 0 then
          (M_sweep s0 l3).bind (fun s_93 =>
          M_days_B96 s_93 (M_days_L52 a1 l2 k102 F) k102 a1 l2 l3)
        else
          M_days_B96 s0 (M_days_L52 a1 l2 k102 F) k102 a1 l2 l3
        else none
        else none
      else none
set_option maxHeartbeats 4000000 in
set_option maxRecDepth 100000 in
theorem M_days_L52_w {p : Program} {l : Launch} {e : Env} {s : State} {m : MethodId} {args : Array Value} {below : List Frame} {meth : Method} {c : Code} {A : Nat → Prop} {Ke : State → Prop} {D : va_G} {cI cZ : ClassId} {E : State → Heap → Prop} {h0 : Nat} {ps : Nat → Nat} (h : gOk p s m args meth c cX10_days 4 RX10 tb) (hE : mEok E A) (hkw : gKw Ke) (hKs : Ke s) {Rt : Type} {QX : Rt → State → Prop} (a1 : Int32) (l2 : Int32) {k102 : Ms → Option Rt} (hk102 : ∀ (sx : Ms), gS p l e rm_X10_days s m args below meth c 4 A (MW D cI cZ E A h0 ps) QX 0 0 (k102 sx) sx 102 [(0, .ref h0), (1, .int a1), (2, .int l2)] []) : ∀ (F : Nat) (s0 : Ms) (l3 : Int32), gS p l e rm_X10_days s m args below meth c 4 A (MW D cI cZ E A h0 ps) QX 0 0 (M_days_L52 a1 l2 k102 F s0 l3) s0 52 [(0, .ref h0), (1, .int a1), (2, .int l2), (3, .int l3)] [] := by
  intro F
  induction F with
  | zero =>
    intro s0 l3
    unfold M_days_L52
    exact g_none
  | succ F ih =>
    intro s0 l3
    unfold M_days_L52
    refine g_iload_n h 3 dX10_days_52 rfl ?_
    refine g_iconst (v := 4) h dX10_days_53 (by decide) ?_
    refine g_icmp_ge h 102 dX10_days_54 (by decide) ?_ ?_
    · refine g_lv [(0, .ref h0), (1, .int a1), (2, .int l2)] [0, 1, 2] rfl ?_
      exact hk102 _
    · refine g_aload_n h 0 dX10_days_57 rfl ?_
      refine m_get h hinX10 1 (by decide) rfl tW_907 dX10_days_58 ?_
      refine g_aload_n h 0 dX10_days_61 rfl ?_
      refine m_geta h hinX10 15 (by decide) rfl tW_921 dX10_days_62 ?_
      refine g_iload_n h 3 dX10_days_65 rfl ?_
      refine m_iald h 15 rfl rfl 4 rfl dX10_days_66 ?_
      refine g_icmp_lt h 96 dX10_days_67 (by decide) ?_ ?_
      · exact M_days_B96_w h hE hkw hKs _ _ _ _ (ih) hk102
      · refine g_aload_n h 0 dX10_days_70 rfl ?_
        refine m_get h hinX10 1 (by decide) rfl tW_907 dX10_days_71 ?_
        refine g_aload_n h 0 dX10_days_74 rfl ?_
        refine m_geta h hinX10 15 (by decide) rfl tW_921 dX10_days_75 ?_
        refine g_iload_n h 3 dX10_days_78 rfl ?_
        refine m_iald h 15 rfl rfl 4 rfl dX10_days_79 ?_
        refine g_isub h dX10_days_80 ?_
        refine g_aload_n h 0 dX10_days_81 rfl ?_
        refine m_geta h hinX10 14 (by decide) rfl tW_920 dX10_days_82 ?_
        refine g_iload_n h 3 dX10_days_85 rfl ?_
        refine m_iald h 14 rfl rfl 4 rfl dX10_days_86 ?_
        refine g_nz (fun hz87 => ?_)
        refine g_irem h dX10_days_87 hz87 ?_
        refine g_if_ne h 96 dX10_days_88 (by decide) ?_ ?_
        · exact M_days_B96_w h hE hkw hKs _ _ _ _ (ih) hk102
        · refine g_aload_n h 0 dX10_days_91 rfl ?_
          refine g_iload_n h 3 dX10_days_92 rfl ?_
          refine g_callV0v h (MW_mv hE) hkw hKs [.int l3] (c_X10_sweep hE hkw s0 l3) yk_X10_sweep tW_1340 ⟨(Nat.le_of_ble_eq_true rfl), (Nat.le_of_ble_eq_true rfl)⟩ MW_recv rfl rfl rfl rfl (Nat.le_of_ble_eq_true rfl) dX10_days_93 ⟨Nat.zero_le _, Nat.zero_le _⟩ (fun s_93 => ?_)
          exact M_days_B96_w h hE hkw hKs _ _ _ _ (ih) hk102
def M_days_L35 {Rt : Type} (a1 : Int32) (k108 : Ms → Option Rt) : Nat → Ms → Int32 → Option Rt
  | 0, _, _ => none
  | F + 1, s0, l2 =>
  if a1 ≤ l2 then
      k108 s0
    else
      bnd (mSet s0 1 ((s0.1 1) + (1 : Int32))) (fun s_47 =>
      M_days_L52 a1 l2 (fun s_102 => M_days_L35 a1 k108 F s_102 (l2 + 1)) gF s_47 (0 : Int32))
set_option maxHeartbeats 4000000 in
set_option maxRecDepth 100000 in
theorem M_days_L35_w {p : Program} {l : Launch} {e : Env} {s : State} {m : MethodId} {args : Array Value} {below : List Frame} {meth : Method} {c : Code} {A : Nat → Prop} {Ke : State → Prop} {D : va_G} {cI cZ : ClassId} {E : State → Heap → Prop} {h0 : Nat} {ps : Nat → Nat} (h : gOk p s m args meth c cX10_days 4 RX10 tb) (hE : mEok E A) (hkw : gKw Ke) (hKs : Ke s) {Rt : Type} {QX : Rt → State → Prop} (a1 : Int32) {k108 : Ms → Option Rt} (hk108 : ∀ (sx : Ms), gS p l e rm_X10_days s m args below meth c 4 A (MW D cI cZ E A h0 ps) QX 0 0 (k108 sx) sx 108 [(0, .ref h0)] []) : ∀ (F : Nat) (s0 : Ms) (l2 : Int32), gS p l e rm_X10_days s m args below meth c 4 A (MW D cI cZ E A h0 ps) QX 0 0 (M_days_L35 a1 k108 F s0 l2) s0 35 [(0, .ref h0), (1, .int a1), (2, .int l2)] [] := by
  intro F
  induction F with
  | zero =>
    intro s0 l2
    unfold M_days_L35
    exact g_none
  | succ F ih =>
    intro s0 l2
    unfold M_days_L35
    refine g_iload_n h 2 dX10_days_35 rfl ?_
    refine g_iload_n h 1 dX10_days_36 rfl ?_
    refine g_icmp_ge h 108 dX10_days_37 (by decide) ?_ ?_
    · refine g_lv [(0, .ref h0)] [0] rfl ?_
      exact hk108 _
    · refine g_aload_n h 0 dX10_days_40 rfl ?_
      refine g_dup h dX10_days_41 rfl ?_
      refine m_get h hinX10 1 (by decide) rfl tW_907 dX10_days_42 ?_
      refine g_iconst (v := 1) h dX10_days_45 (by decide) ?_
      refine g_iadd h dX10_days_46 ?_
      refine m_put h hE hinX10 1 (by decide) rfl rfl rfl tW_907 dX10_days_47 ?_
      refine g_bnd (fun s_47 => ?_)
      refine g_iconst (v := 0) h dX10_days_50 (by decide) ?_
      refine g_istore_n h [(3, .int (0 : Int32)), (0, .ref h0), (1, .int a1), (2, .int l2)] dX10_days_51 (by decide) rfl ?_
      refine g_lv [(0, .ref h0), (1, .int a1), (2, .int l2), (3, .int (0 : Int32))] [1, 2, 3, 0] rfl ?_
      refine M_days_L52_w h hE hkw hKs _ _ (fun s_102 => ?_) _ _ _
      · refine g_iinc (v := l2 + 1) (i := 2) h [(2, .int (l2 + 1)), (0, .ref h0), (1, .int a1)] dX10_days_102 rfl rfl (by decide) rfl ?_
        refine g_goto h 35 dX10_days_105 (by decide) ?_
        refine g_lv [(0, .ref h0), (1, .int a1), (2, .int (l2 + 1))] [1, 2, 0] rfl ?_
        exact ih _ _
def M_days (s0 : Ms) (a1 : Int32) : Option (Int32 × Ms) :=
  bnd (mSet s0 0 (0 : Int32)) (fun s_2 =>
  if a1 < 0 then
    M_days_B27 s_2
  else
    if (1000 : Int32) < a1 then
      M_days_B27 s_2
    else
      if (s_2.1 1) + a1 ≤ (200000 : Int32) then
        M_days_L35 a1 (fun s_108 => some (s_108.1 1, s_108)) gF s_2 (0 : Int32)
      else
        M_days_B27 s_2)
set_option maxHeartbeats 4000000 in
set_option maxRecDepth 100000 in
theorem c_X10_days {l : Launch} {A : Nat → Prop} {Ke : State → Prop} {D : va_G} {cI cZ : ClassId} {E : State → Heap → Prop} {h0 : Nat} {ps : Nat → Nat} (hE : mEok E A) (hkw : gKw Ke) (s0 : Ms) (a1 : Int32) : gCi l yX10_days cX10_days 4 (some .int) rm_X10_days Ke (MW D cI cZ E A h0 ps) A [.ref h0, .int a1] s0 (M_days s0 a1) := by
  refine g_meti (by decide) (by simp [lg_sl, Value.category]) ?_
  intro p e s m below meth c h hr hKs
  refine g_lv [(0, .ref h0), (1, .int a1)] [0, 1] rfl ?_
  unfold M_days
  refine g_aload_n h 0 dX10_days_0 rfl ?_
  refine g_iconst (v := 0) h dX10_days_1 (by decide) ?_
  refine m_put h hE hinX10 0 (by decide) rfl rfl rfl tW_906 dX10_days_2 ?_
  refine g_bnd (fun s_2 => ?_)
  refine g_iload_n h 1 dX10_days_5 rfl ?_
  refine g_if_lt h 27 dX10_days_6 (by decide) ?_ ?_
  · refine g_lv [(0, .ref h0)] [0] rfl ?_
    exact M_days_B27_w h hE hkw hKs _  hr
  · refine g_iload_n h 1 dX10_days_9 rfl ?_
    refine g_sipush (v := 1000) h dX10_days_10 (by decide) ?_
    refine g_icmp_gt h 27 dX10_days_13 (by decide) ?_ ?_
    · refine g_lv [(0, .ref h0)] [0] rfl ?_
      exact M_days_B27_w h hE hkw hKs _  hr
    · refine g_aload_n h 0 dX10_days_16 rfl ?_
      refine m_get h hinX10 1 (by decide) rfl tW_907 dX10_days_17 ?_
      refine g_iload_n h 1 dX10_days_20 rfl ?_
      refine g_iadd h dX10_days_21 ?_
      refine g_ldc (v := 200000) h tW_1110 dX10_days_22 ?_
      refine g_icmp_le h 33 dX10_days_24 (by decide) ?_ ?_
      · refine g_iconst (v := 0) h dX10_days_33 (by decide) ?_
        refine g_istore_n h [(2, .int (0 : Int32)), (0, .ref h0), (1, .int a1)] dX10_days_34 (by decide) rfl ?_
        refine g_lv [(0, .ref h0), (1, .int a1), (2, .int (0 : Int32))] [1, 2, 0] rfl ?_
        refine M_days_L35_w h hE hkw hKs _ (fun s_108 => ?_) _ _ _
        · refine g_aload_n h 0 dX10_days_108 rfl ?_
          refine m_get h hinX10 1 (by decide) rfl tW_907 dX10_days_109 ?_
          exact g_iret h (MW_mv hE) hr (Nat.le_refl _) (Nat.le_refl _) dX10_days_112
      · refine g_lv [(0, .ref h0)] [0] rfl ?_
        exact M_days_B27_w h hE hkw hKs _  hr
def rm_X10_entry : Room := { frames := 1, cells := 0, slots := 0, locals := 21 }
theorem yk_X10_entry : yOkV yX10_entry cX10_entry 3 (some .int) RX10 2 := ⟨tW_1347, tW_5, tW_1345, tW_1346, by decide, by decide, by decide +kernel⟩
def M_entry_B23 (s0 : Ms)  : Option (Int32 × Ms) :=
  bi (M_fail s0 (1 : Int32)) (fun r_25 s_25 =>
  some (r_25, s_25))
set_option maxHeartbeats 4000000 in
set_option maxRecDepth 100000 in
theorem M_entry_B23_w {p : Program} {l : Launch} {e : Env} {s : State} {m : MethodId} {args : Array Value} {below : List Frame} {meth : Method} {c : Code} {A : Nat → Prop} {Ke : State → Prop} {D : va_G} {cI cZ : ClassId} {E : State → Heap → Prop} {h0 : Nat} {ps : Nat → Nat} (h : gOk p s m args meth c cX10_entry 3 RX10 tb) (hE : mEok E A) (hkw : gKw Ke) (hKs : Ke s) (s0 : Ms)  (hr : meth.sig.returnType = some .int)  : gS p l e rm_X10_entry s m args below meth c 3 A (MW D cI cZ E A h0 ps) (fun X => MQ below (gPi (MW D cI cZ E A h0 ps) A X) args s rm_X10_entry.cells rm_X10_entry.slots A) 0 0 (M_entry_B23 s0) s0 23 [(0, .ref h0)] [] := by
  unfold M_entry_B23
  refine g_aload_n h 0 dX10_entry_23 rfl ?_
  refine g_iconst (v := 1) h dX10_entry_24 (by decide) ?_
  refine g_callV0i h (MW_mv hE) hkw hKs [.int (1 : Int32)] (c_X10_fail hE hkw s0 (1 : Int32)) yk_X10_fail tW_1111 ⟨(Nat.le_of_ble_eq_true rfl), (Nat.le_of_ble_eq_true rfl)⟩ MW_recv rfl rfl rfl rfl (Nat.le_of_ble_eq_true rfl) dX10_entry_25 ⟨Nat.zero_le _, Nat.zero_le _⟩ (fun r_25 s_25 => ?_)
  exact g_iret h (MW_mv hE) hr (Nat.le_refl _) (Nat.le_refl _) dX10_entry_28
def M_entry (s0 : Ms) (a1 : Int32) (a2 : Int32) : Option (Int32 × Ms) :=
  bnd (mSet s0 0 (0 : Int32)) (fun s_2 =>
  if a1 < 0 then
    M_entry_B23 s_2
  else
    if a1 < (if (400 : Int32) < s_2.1 5 then (400 : Int32) else s_2.1 5) then
      if a2 = 0 then
        if okI a1 400 = true then
        some (s_2.2 19 a1.toNatClampNeg, s_2)
        else none
        else if a2 = 1 then
          if okI a1 400 = true then
          some (s_2.2 20 a1.toNatClampNeg, s_2)
          else none
          else if a2 = 2 then
            if okI a1 400 = true then
            some (s_2.2 21 a1.toNatClampNeg, s_2)
            else none
            else if a2 = 3 then
              if okI a1 400 = true then
              some (s_2.2 22 a1.toNatClampNeg, s_2)
              else none
              else if a2 = 4 then
                if okI a1 400 = true then
                some (s_2.2 23 a1.toNatClampNeg, s_2)
                else none
                else bi (M_fail s_2 (1 : Int32)) (fun r_101 s_101 =>
                some (r_101, s_101))
    else
      M_entry_B23 s_2)
set_option maxHeartbeats 4000000 in
set_option maxRecDepth 100000 in
theorem c_X10_entry {l : Launch} {A : Nat → Prop} {Ke : State → Prop} {D : va_G} {cI cZ : ClassId} {E : State → Heap → Prop} {h0 : Nat} {ps : Nat → Nat} (hE : mEok E A) (hkw : gKw Ke) (s0 : Ms) (a1 : Int32) (a2 : Int32) : gCi l yX10_entry cX10_entry 3 (some .int) rm_X10_entry Ke (MW D cI cZ E A h0 ps) A [.ref h0, .int a1, .int a2] s0 (M_entry s0 a1 a2) := by
  refine g_meti (by decide) (by simp [lg_sl, Value.category]) ?_
  intro p e s m below meth c h hr hKs
  refine g_lv [(0, .ref h0), (1, .int a1), (2, .int a2)] [0, 1, 2] rfl ?_
  unfold M_entry
  refine g_aload_n h 0 dX10_entry_0 rfl ?_
  refine g_iconst (v := 0) h dX10_entry_1 (by decide) ?_
  refine m_put h hE hinX10 0 (by decide) rfl rfl rfl tW_906 dX10_entry_2 ?_
  refine g_bnd (fun s_2 => ?_)
  refine g_iload_n h 1 dX10_entry_5 rfl ?_
  refine g_if_lt h 23 dX10_entry_6 (by decide) ?_ ?_
  · refine g_lv [(0, .ref h0)] [0] rfl ?_
    exact M_entry_B23_w h hE hkw hKs _  hr
  · refine g_iload_n h 1 dX10_entry_9 rfl ?_
    refine g_aload_n h 0 dX10_entry_10 rfl ?_
    refine m_get h hinX10 5 (by decide) rfl tW_911 dX10_entry_11 ?_
    refine g_sipush (v := 400) h dX10_entry_14 (by decide) ?_
    refine g_mmin h tW_1137 tW_353 tW_11 tW_354 (Nat.le_of_ble_eq_true rfl) (Nat.le_of_ble_eq_true rfl) (Nat.zero_le _) (Nat.zero_le _) dX10_entry_17 ?_
    refine g_icmp_lt h 29 dX10_entry_20 (by decide) ?_ ?_
    · refine g_iload_n h 2 dX10_entry_29 rfl ?_
      refine g_case (fun q30_0 => ?_) (fun q30_0 => ?_)
      · refine g_tabIn h 64 dX10_entry_30 (by rw [q30_0]; decide) (by rw [q30_0]; decide) (by rw [q30_0]; rfl) (by decide) ?_
        refine g_aload_n h 0 dX10_entry_64 rfl ?_
        refine m_geta h hinX10 19 (by decide) rfl tW_925 dX10_entry_65 ?_
        refine g_iload_n h 1 dX10_entry_68 rfl ?_
        refine m_iald h 19 rfl rfl 400 rfl dX10_entry_69 ?_
        exact g_iret h (MW_mv hE) hr (Nat.le_refl _) (Nat.le_refl _) dX10_entry_70
      · skip
        refine g_case (fun q30_1 => ?_) (fun q30_1 => ?_)
        · refine g_tabIn h 71 dX10_entry_30 (by rw [q30_1]; decide) (by rw [q30_1]; decide) (by rw [q30_1]; rfl) (by decide) ?_
          refine g_aload_n h 0 dX10_entry_71 rfl ?_
          refine m_geta h hinX10 20 (by decide) rfl tW_926 dX10_entry_72 ?_
          refine g_iload_n h 1 dX10_entry_75 rfl ?_
          refine m_iald h 20 rfl rfl 400 rfl dX10_entry_76 ?_
          exact g_iret h (MW_mv hE) hr (Nat.le_refl _) (Nat.le_refl _) dX10_entry_77
        · skip
          refine g_case (fun q30_2 => ?_) (fun q30_2 => ?_)
          · refine g_tabIn h 78 dX10_entry_30 (by rw [q30_2]; decide) (by rw [q30_2]; decide) (by rw [q30_2]; rfl) (by decide) ?_
            refine g_aload_n h 0 dX10_entry_78 rfl ?_
            refine m_geta h hinX10 21 (by decide) rfl tW_927 dX10_entry_79 ?_
            refine g_iload_n h 1 dX10_entry_82 rfl ?_
            refine m_iald h 21 rfl rfl 400 rfl dX10_entry_83 ?_
            exact g_iret h (MW_mv hE) hr (Nat.le_refl _) (Nat.le_refl _) dX10_entry_84
          · skip
            refine g_case (fun q30_3 => ?_) (fun q30_3 => ?_)
            · refine g_tabIn h 85 dX10_entry_30 (by rw [q30_3]; decide) (by rw [q30_3]; decide) (by rw [q30_3]; rfl) (by decide) ?_
              refine g_aload_n h 0 dX10_entry_85 rfl ?_
              refine m_geta h hinX10 22 (by decide) rfl tW_928 dX10_entry_86 ?_
              refine g_iload_n h 1 dX10_entry_89 rfl ?_
              refine m_iald h 22 rfl rfl 400 rfl dX10_entry_90 ?_
              exact g_iret h (MW_mv hE) hr (Nat.le_refl _) (Nat.le_refl _) dX10_entry_91
            · skip
              refine g_case (fun q30_4 => ?_) (fun q30_4 => ?_)
              · refine g_tabIn h 92 dX10_entry_30 (by rw [q30_4]; decide) (by rw [q30_4]; decide) (by rw [q30_4]; rfl) (by decide) ?_
                refine g_aload_n h 0 dX10_entry_92 rfl ?_
                refine m_geta h hinX10 23 (by decide) rfl tW_929 dX10_entry_93 ?_
                refine g_iload_n h 1 dX10_entry_96 rfl ?_
                refine m_iald h 23 rfl rfl 400 rfl dX10_entry_97 ?_
                exact g_iret h (MW_mv hE) hr (Nat.le_refl _) (Nat.le_refl _) dX10_entry_98
              · skip
                refine g_tabOut h 99 dX10_entry_30 (by have z0 := lv_neT (a := 0) q30_0 (by decide); have z1 := lv_neT (a := 1) q30_1 (by decide); have z2 := lv_neT (a := 2) q30_2 (by decide); have z3 := lv_neT (a := 3) q30_3 (by decide); have z4 := lv_neT (a := 4) q30_4 (by decide); omega) (by decide) ?_
                refine g_aload_n h 0 dX10_entry_99 rfl ?_
                refine g_iconst (v := 1) h dX10_entry_100 (by decide) ?_
                refine g_callV0i h (MW_mv hE) hkw hKs [.int (1 : Int32)] (c_X10_fail hE hkw s_2 (1 : Int32)) yk_X10_fail tW_1111 ⟨(Nat.le_of_ble_eq_true rfl), (Nat.le_of_ble_eq_true rfl)⟩ MW_recv rfl rfl rfl rfl (Nat.le_of_ble_eq_true rfl) dX10_entry_101 ⟨Nat.zero_le _, Nat.zero_le _⟩ (fun r_101 s_101 => ?_)
                exact g_iret h (MW_mv hE) hr (Nat.le_refl _) (Nat.le_refl _) dX10_entry_104
    · refine g_lv [(0, .ref h0)] [0] rfl ?_
      exact M_entry_B23_w h hE hkw hKs _  hr
def rm_X10_count : Room := { frames := 1, cells := 0, slots := 0, locals := 23 }
theorem yk_X10_count : yOkV yX10_count cX10_count 5 (some .int) RX10 1 := ⟨tW_1351, tW_5, tW_1349, tW_1350, by decide, by decide, by decide +kernel⟩
def M_count_L9 {Rt : Type} (s0 : Ms) (a1 : Int32) (k34 : Int32 → Option Rt) : Nat → Int32 → Int32 → Option Rt
  | 0, _, _ => none
  | F + 1, l2, l3 =>
  if (240 : Int32) ≤ l3 then
      k34 l2
    else
      if okI l3 240 = true then
      (M_ones s0 (s0.2 12 l3.toNatClampNeg)).bind (fun r_23 =>
      bnd (l2 + r_23) (fun v2_27 =>
      M_count_L9 s0 a1 k34 F v2_27 (l3 + 1)))
      else none
set_option maxHeartbeats 4000000 in
set_option maxRecDepth 100000 in
theorem M_count_L9_w {p : Program} {l : Launch} {e : Env} {s : State} {m : MethodId} {args : Array Value} {below : List Frame} {meth : Method} {c : Code} {A : Nat → Prop} {Ke : State → Prop} {D : va_G} {cI cZ : ClassId} {E : State → Heap → Prop} {h0 : Nat} {ps : Nat → Nat} (h : gOk p s m args meth c cX10_count 5 RX10 tb) (hE : mEok E A) (hkw : gKw Ke) (hKs : Ke s) {Rt : Type} {QX : Rt → State → Prop} (s0 : Ms) (a1 : Int32) {k34 : Int32 → Option Rt} (hk34 : ∀ (l2 : Int32), gS p l e rm_X10_count s m args below meth c 5 A (MW D cI cZ E A h0 ps) QX 0 0 (k34 l2) s0 34 [(0, .ref h0), (1, .int a1), (2, .int l2)] []) : ∀ (F : Nat) (l2 : Int32) (l3 : Int32), gS p l e rm_X10_count s m args below meth c 5 A (MW D cI cZ E A h0 ps) QX 0 0 (M_count_L9 s0 a1 k34 F l2 l3) s0 9 [(0, .ref h0), (1, .int a1), (2, .int l2), (3, .int l3)] [] := by
  intro F
  induction F with
  | zero =>
    intro l2 l3
    unfold M_count_L9
    exact g_none
  | succ F ih =>
    intro l2 l3
    unfold M_count_L9
    refine g_iload_n h 3 dX10_count_9 rfl ?_
    refine g_sipush (v := 240) h dX10_count_10 (by decide) ?_
    refine g_icmp_ge h 34 dX10_count_13 (by decide) ?_ ?_
    · refine g_lv [(0, .ref h0), (1, .int a1), (2, .int l2)] [0, 1, 2] rfl ?_
      exact hk34 _
    · refine g_iload_n h 2 dX10_count_16 rfl ?_
      refine g_aload_n h 0 dX10_count_17 rfl ?_
      refine m_geta h hinX10 12 (by decide) rfl tW_918 dX10_count_18 ?_
      refine g_iload_n h 3 dX10_count_21 rfl ?_
      refine m_iald h 12 rfl rfl 240 rfl dX10_count_22 ?_
      refine g_callS0p h (MW_mv hE) hkw hKs [.int (s0.2 12 l3.toNatClampNeg)] (c_X10_ones (MW_mv hE) hkw s0 (s0.2 12 l3.toNatClampNeg)) yk_X10_ones tW_1321 ⟨(Nat.le_of_ble_eq_true rfl), (Nat.le_of_ble_eq_true rfl)⟩ rfl rfl rfl rfl (Nat.le_of_ble_eq_true rfl) dX10_count_23 ⟨Nat.zero_le _, Nat.zero_le _⟩ (fun r_23 => ?_)
      refine g_iadd h dX10_count_26 ?_
      refine g_bndi (fun v2_27 => ?_)
      refine g_istore_n h [(2, .int v2_27), (0, .ref h0), (1, .int a1), (3, .int l3)] dX10_count_27 (by decide) rfl ?_
      refine g_iinc (v := l3 + 1) (i := 3) h [(3, .int (l3 + 1)), (2, .int v2_27), (0, .ref h0), (1, .int a1)] dX10_count_28 rfl rfl (by decide) rfl ?_
      refine g_goto h 9 dX10_count_31 (by decide) ?_
      refine g_lv [(0, .ref h0), (1, .int a1), (2, .int v2_27), (3, .int (l3 + 1))] [2, 3, 1, 0] rfl ?_
      exact ih _ _
def M_count_B64 {Rt : Type} (s0 : Ms) (rec : Int32 → Int32 → Option Rt) (k72 : Int32 → Option Rt) (t0 : Int32) (t1 : Int32) (a1 : Int32) (l2 : Int32) (l4 : Int32) : Option (Rt) :=
  bnd (t1 + t0) (fun v3_65 =>
  rec v3_65 (l4 + 1))
set_option maxHeartbeats 4000000 in
set_option maxRecDepth 100000 in
theorem M_count_B64_w {p : Program} {l : Launch} {e : Env} {s : State} {m : MethodId} {args : Array Value} {below : List Frame} {meth : Method} {c : Code} {A : Nat → Prop} {Ke : State → Prop} {D : va_G} {cI cZ : ClassId} {E : State → Heap → Prop} {h0 : Nat} {ps : Nat → Nat} (h : gOk p s m args meth c cX10_count 5 RX10 tb) (hE : mEok E A) (hkw : gKw Ke) (hKs : Ke s) {Rt : Type} {QX : Rt → State → Prop} {rec : Int32 → Int32 → Option Rt} {k72 : Int32 → Option Rt} (s0 : Ms) (t0 : Int32) (t1 : Int32) (a1 : Int32) (l2 : Int32) (l4 : Int32) (hrec : ∀ (l3 : Int32) (l4 : Int32), gS p l e rm_X10_count s m args below meth c 5 A (MW D cI cZ E A h0 ps) QX 0 0 (rec l3 l4) s0 39 [(0, .ref h0), (1, .int a1), (2, .int l2), (3, .int l3), (4, .int l4)] []) (hk72 : ∀ (l3 : Int32), gS p l e rm_X10_count s m args below meth c 5 A (MW D cI cZ E A h0 ps) QX 0 0 (k72 l3) s0 72 [(0, .ref h0), (1, .int a1), (2, .int l2), (3, .int l3)] []) : gS p l e rm_X10_count s m args below meth c 5 A (MW D cI cZ E A h0 ps) QX 0 0 (M_count_B64 s0 rec k72 t0 t1 a1 l2 l4) s0 64 [(0, .ref h0), (1, .int a1), (2, .int l2), (4, .int l4)] [.int t0, .int t1] := by
  unfold M_count_B64
  refine g_iadd h dX10_count_64 ?_
  refine g_bndi (fun v3_65 => ?_)
  refine g_istore_n h [(3, .int v3_65), (0, .ref h0), (1, .int a1), (2, .int l2), (4, .int l4)] dX10_count_65 (by decide) rfl ?_
  refine g_iinc (v := l4 + 1) (i := 4) h [(4, .int (l4 + 1)), (3, .int v3_65), (0, .ref h0), (1, .int a1), (2, .int l2)] dX10_count_66 rfl rfl (by decide) rfl ?_
  refine g_goto h 39 dX10_count_69 (by decide) ?_
  refine g_lv [(0, .ref h0), (1, .int a1), (2, .int l2), (3, .int v3_65), (4, .int (l4 + 1))] [2, 3, 4, 1, 0] rfl ?_
  exact hrec _ _
def M_count_L39 {Rt : Type} (s0 : Ms) (a1 : Int32) (l2 : Int32) (k72 : Int32 → Option Rt) : Nat → Int32 → Int32 → Option Rt
  | 0, _, _ => none
  | F + 1, l3, l4 =>
  if s0.1 4 ≤ l4 then
      k72 l3
    else
      if okI l4 40 = true then
      if s0.2 18 l4.toNatClampNeg = 0 then
        M_count_B64 s0 (M_count_L39 s0 a1 l2 k72 F) k72 (1 : Int32) l3 a1 l2 l4
      else
        M_count_B64 s0 (M_count_L39 s0 a1 l2 k72 F) k72 (0 : Int32) l3 a1 l2 l4
      else none
set_option maxHeartbeats 4000000 in
set_option maxRecDepth 100000 in
theorem M_count_L39_w {p : Program} {l : Launch} {e : Env} {s : State} {m : MethodId} {args : Array Value} {below : List Frame} {meth : Method} {c : Code} {A : Nat → Prop} {Ke : State → Prop} {D : va_G} {cI cZ : ClassId} {E : State → Heap → Prop} {h0 : Nat} {ps : Nat → Nat} (h : gOk p s m args meth c cX10_count 5 RX10 tb) (hE : mEok E A) (hkw : gKw Ke) (hKs : Ke s) {Rt : Type} {QX : Rt → State → Prop} (s0 : Ms) (a1 : Int32) (l2 : Int32) {k72 : Int32 → Option Rt} (hk72 : ∀ (l3 : Int32), gS p l e rm_X10_count s m args below meth c 5 A (MW D cI cZ E A h0 ps) QX 0 0 (k72 l3) s0 72 [(0, .ref h0), (1, .int a1), (2, .int l2), (3, .int l3)] []) : ∀ (F : Nat) (l3 : Int32) (l4 : Int32), gS p l e rm_X10_count s m args below meth c 5 A (MW D cI cZ E A h0 ps) QX 0 0 (M_count_L39 s0 a1 l2 k72 F l3 l4) s0 39 [(0, .ref h0), (1, .int a1), (2, .int l2), (3, .int l3), (4, .int l4)] [] := by
  intro F
  induction F with
  | zero =>
    intro l3 l4
    unfold M_count_L39
    exact g_none
  | succ F ih =>
    intro l3 l4
    unfold M_count_L39
    refine g_iload h 4 dX10_count_39 rfl ?_
    refine g_aload_n h 0 dX10_count_41 rfl ?_
    refine m_get h hinX10 4 (by decide) rfl tW_910 dX10_count_42 ?_
    refine g_icmp_ge h 72 dX10_count_45 (by decide) ?_ ?_
    · refine g_lv [(0, .ref h0), (1, .int a1), (2, .int l2), (3, .int l3)] [0, 1, 2, 3] rfl ?_
      exact hk72 _
    · refine g_iload_n h 3 dX10_count_48 rfl ?_
      refine g_aload_n h 0 dX10_count_49 rfl ?_
      refine m_geta h hinX10 18 (by decide) rfl tW_924 dX10_count_50 ?_
      refine g_iload h 4 dX10_count_53 rfl ?_
      refine m_zald h 18 rfl rfl 40 rfl dX10_count_55 ?_
      refine g_if_eq h 63 dX10_count_56 (by decide) ?_ ?_
      · refine g_iconst (v := 1) h dX10_count_63 (by decide) ?_
        refine g_lv [(0, .ref h0), (1, .int a1), (2, .int l2), (4, .int l4)] [0, 1, 2, 4] rfl ?_
        exact M_count_B64_w h hE hkw hKs _ _ _ _ _ _ (ih) hk72
      · refine g_iconst (v := 0) h dX10_count_59 (by decide) ?_
        refine g_goto h 64 dX10_count_60 (by decide) ?_
        refine g_lv [(0, .ref h0), (1, .int a1), (2, .int l2), (4, .int l4)] [0, 1, 2, 4] rfl ?_
        exact M_count_B64_w h hE hkw hKs _ _ _ _ _ _ (ih) hk72
def M_count_B190 (s0 : Ms) (t0 : Int32) : Option (Int32 × Ms) :=
  some (t0, s0)
set_option maxHeartbeats 4000000 in
set_option maxRecDepth 100000 in
theorem M_count_B190_w {p : Program} {l : Launch} {e : Env} {s : State} {m : MethodId} {args : Array Value} {below : List Frame} {meth : Method} {c : Code} {A : Nat → Prop} {Ke : State → Prop} {D : va_G} {cI cZ : ClassId} {E : State → Heap → Prop} {h0 : Nat} {ps : Nat → Nat} (h : gOk p s m args meth c cX10_count 5 RX10 tb) (hE : mEok E A) (hkw : gKw Ke) (hKs : Ke s) (s0 : Ms) (t0 : Int32) (hr : meth.sig.returnType = some .int)  : gS p l e rm_X10_count s m args below meth c 5 A (MW D cI cZ E A h0 ps) (fun X => MQ below (gPi (MW D cI cZ E A h0 ps) A X) args s rm_X10_count.cells rm_X10_count.slots A) 0 0 (M_count_B190 s0 t0) s0 190 [] [.int t0] := by
  unfold M_count_B190
  exact g_iret h (MW_mv hE) hr (Nat.le_refl _) (Nat.le_refl _) dX10_count_190
def M_count (s0 : Ms) (a1 : Int32) : Option (Int32 × Ms) :=
  bnd (mSet s0 0 (0 : Int32)) (fun s_2 =>
  M_count_L9 s_2 a1 (fun v2_34 => M_count_L39 s_2 a1 v2_34 (fun v3_72 => (M_force s_2 (s_2.1 1)).bind (fun r_77 =>
      if a1 = 0 then
        some (s_2.1 1, s_2)
        else if a1 = 1 then
          some (s_2.1 2, s_2)
          else if a1 = 2 then
            some (s_2.1 3, s_2)
            else if a1 = 3 then
              some (r_77, s_2)
              else if a1 = 4 then
                some (s_2.1 5, s_2)
                else if a1 = 5 then
                  some (s_2.1 6, s_2)
                  else if a1 = 6 then
                    some (v2_34, s_2)
                    else if a1 = 7 then
                      some (v3_72, s_2)
                      else if a1 = 8 then
                        some (s_2.1 7, s_2)
                        else if a1 = 9 then
                          if r_77 = (-1 : Int32) then
                            M_count_B190 s_2 (0 : Int32)
                          else
                            if okI r_77 8 = true then
                            M_count_B190 s_2 (s_2.2 25 r_77.toNatClampNeg)
                            else none
                          else bi (M_fail s_2 (1 : Int32)) (fun r_193 s_193 =>
                          some (r_193, s_193)))) gF (0 : Int32) (0 : Int32)) gF (0 : Int32) (0 : Int32))
set_option maxHeartbeats 4000000 in
set_option maxRecDepth 100000 in
theorem c_X10_count {l : Launch} {A : Nat → Prop} {Ke : State → Prop} {D : va_G} {cI cZ : ClassId} {E : State → Heap → Prop} {h0 : Nat} {ps : Nat → Nat} (hE : mEok E A) (hkw : gKw Ke) (s0 : Ms) (a1 : Int32) : gCi l yX10_count cX10_count 5 (some .int) rm_X10_count Ke (MW D cI cZ E A h0 ps) A [.ref h0, .int a1] s0 (M_count s0 a1) := by
  refine g_meti (by decide) (by simp [lg_sl, Value.category]) ?_
  intro p e s m below meth c h hr hKs
  refine g_lv [(0, .ref h0), (1, .int a1)] [0, 1] rfl ?_
  unfold M_count
  refine g_aload_n h 0 dX10_count_0 rfl ?_
  refine g_iconst (v := 0) h dX10_count_1 (by decide) ?_
  refine m_put h hE hinX10 0 (by decide) rfl rfl rfl tW_906 dX10_count_2 ?_
  refine g_bnd (fun s_2 => ?_)
  refine g_iconst (v := 0) h dX10_count_5 (by decide) ?_
  refine g_istore_n h [(2, .int (0 : Int32)), (0, .ref h0), (1, .int a1)] dX10_count_6 (by decide) rfl ?_
  refine g_iconst (v := 0) h dX10_count_7 (by decide) ?_
  refine g_istore_n h [(3, .int (0 : Int32)), (2, .int (0 : Int32)), (0, .ref h0), (1, .int a1)] dX10_count_8 (by decide) rfl ?_
  refine g_lv [(0, .ref h0), (1, .int a1), (2, .int (0 : Int32)), (3, .int (0 : Int32))] [2, 3, 1, 0] rfl ?_
  refine M_count_L9_w h hE hkw hKs _ _ (fun v2_34 => ?_) _ _ _
  · refine g_iconst (v := 0) h dX10_count_34 (by decide) ?_
    refine g_istore_n h [(3, .int (0 : Int32)), (0, .ref h0), (1, .int a1), (2, .int v2_34)] dX10_count_35 (by decide) rfl ?_
    refine g_iconst (v := 0) h dX10_count_36 (by decide) ?_
    refine g_istore h [(4, .int (0 : Int32)), (3, .int (0 : Int32)), (0, .ref h0), (1, .int a1), (2, .int v2_34)] dX10_count_37 (by decide) rfl ?_
    refine g_lv [(0, .ref h0), (1, .int a1), (2, .int v2_34), (3, .int (0 : Int32)), (4, .int (0 : Int32))] [2, 3, 4, 1, 0] rfl ?_
    refine M_count_L39_w h hE hkw hKs _ _ _ (fun v3_72 => ?_) _ _ _
    · refine g_aload_n h 0 dX10_count_72 rfl ?_
      refine g_aload_n h 0 dX10_count_73 rfl ?_
      refine m_get h hinX10 1 (by decide) rfl tW_907 dX10_count_74 ?_
      refine g_callV0p h (MW_mv hE) hkw hKs [.int (s_2.1 1)] (c_X10_force hE hkw s_2 (s_2.1 1)) yk_X10_force tW_1244 ⟨(Nat.le_of_ble_eq_true rfl), (Nat.le_of_ble_eq_true rfl)⟩ MW_recv rfl rfl rfl rfl (Nat.le_of_ble_eq_true rfl) dX10_count_77 ⟨Nat.zero_le _, Nat.zero_le _⟩ (fun r_77 => ?_)
      refine g_istore h [(4, .int r_77), (0, .ref h0), (1, .int a1), (2, .int v2_34), (3, .int v3_72)] dX10_count_80 (by decide) rfl ?_
      refine g_iload_n h 2 dX10_count_82 rfl ?_
      refine g_case (fun q83_0 => ?_) (fun q83_0 => ?_)
      · refine g_tabIn h 136 dX10_count_83 (by rw [q83_0]; decide) (by rw [q83_0]; decide) (by rw [q83_0]; rfl) (by decide) ?_
        refine g_aload_n h 1 dX10_count_136 rfl ?_
        refine m_get h hinX10 1 (by decide) rfl tW_907 dX10_count_137 ?_
        exact g_iret h (MW_mv hE) hr (Nat.le_refl _) (Nat.le_refl _) dX10_count_140
      · skip
        refine g_case (fun q83_1 => ?_) (fun q83_1 => ?_)
        · refine g_tabIn h 141 dX10_count_83 (by rw [q83_1]; decide) (by rw [q83_1]; decide) (by rw [q83_1]; rfl) (by decide) ?_
          refine g_aload_n h 1 dX10_count_141 rfl ?_
          refine m_get h hinX10 2 (by decide) rfl tW_908 dX10_count_142 ?_
          exact g_iret h (MW_mv hE) hr (Nat.le_refl _) (Nat.le_refl _) dX10_count_145
        · skip
          refine g_case (fun q83_2 => ?_) (fun q83_2 => ?_)
          · refine g_tabIn h 146 dX10_count_83 (by rw [q83_2]; decide) (by rw [q83_2]; decide) (by rw [q83_2]; rfl) (by decide) ?_
            refine g_aload_n h 1 dX10_count_146 rfl ?_
            refine m_get h hinX10 3 (by decide) rfl tW_909 dX10_count_147 ?_
            exact g_iret h (MW_mv hE) hr (Nat.le_refl _) (Nat.le_refl _) dX10_count_150
          · skip
            refine g_case (fun q83_3 => ?_) (fun q83_3 => ?_)
            · refine g_tabIn h 151 dX10_count_83 (by rw [q83_3]; decide) (by rw [q83_3]; decide) (by rw [q83_3]; rfl) (by decide) ?_
              refine g_iload h 0 dX10_count_151 rfl ?_
              exact g_iret h (MW_mv hE) hr (Nat.le_refl _) (Nat.le_refl _) dX10_count_153
            · skip
              refine g_case (fun q83_4 => ?_) (fun q83_4 => ?_)
              · refine g_tabIn h 154 dX10_count_83 (by rw [q83_4]; decide) (by rw [q83_4]; decide) (by rw [q83_4]; rfl) (by decide) ?_
                refine g_aload_n h 1 dX10_count_154 rfl ?_
                refine m_get h hinX10 5 (by decide) rfl tW_911 dX10_count_155 ?_
                exact g_iret h (MW_mv hE) hr (Nat.le_refl _) (Nat.le_refl _) dX10_count_158
              · skip
                refine g_case (fun q83_5 => ?_) (fun q83_5 => ?_)
                · refine g_tabIn h 159 dX10_count_83 (by rw [q83_5]; decide) (by rw [q83_5]; decide) (by rw [q83_5]; rfl) (by decide) ?_
                  refine g_aload_n h 1 dX10_count_159 rfl ?_
                  refine m_get h hinX10 6 (by decide) rfl tW_912 dX10_count_160 ?_
                  exact g_iret h (MW_mv hE) hr (Nat.le_refl _) (Nat.le_refl _) dX10_count_163
                · skip
                  refine g_case (fun q83_6 => ?_) (fun q83_6 => ?_)
                  · refine g_tabIn h 164 dX10_count_83 (by rw [q83_6]; decide) (by rw [q83_6]; decide) (by rw [q83_6]; rfl) (by decide) ?_
                    refine g_iload_n h 3 dX10_count_164 rfl ?_
                    exact g_iret h (MW_mv hE) hr (Nat.le_refl _) (Nat.le_refl _) dX10_count_165
                  · skip
                    refine g_case (fun q83_7 => ?_) (fun q83_7 => ?_)
                    · refine g_tabIn h 166 dX10_count_83 (by rw [q83_7]; decide) (by rw [q83_7]; decide) (by rw [q83_7]; rfl) (by decide) ?_
                      refine g_iload_n h 4 dX10_count_166 rfl ?_
                      exact g_iret h (MW_mv hE) hr (Nat.le_refl _) (Nat.le_refl _) dX10_count_167
                    · skip
                      refine g_case (fun q83_8 => ?_) (fun q83_8 => ?_)
                      · refine g_tabIn h 168 dX10_count_83 (by rw [q83_8]; decide) (by rw [q83_8]; decide) (by rw [q83_8]; rfl) (by decide) ?_
                        refine g_aload_n h 1 dX10_count_168 rfl ?_
                        refine m_get h hinX10 7 (by decide) rfl tW_913 dX10_count_169 ?_
                        exact g_iret h (MW_mv hE) hr (Nat.le_refl _) (Nat.le_refl _) dX10_count_172
                      · skip
                        refine g_case (fun q83_9 => ?_) (fun q83_9 => ?_)
                        · refine g_tabIn h 173 dX10_count_83 (by rw [q83_9]; decide) (by rw [q83_9]; decide) (by rw [q83_9]; rfl) (by decide) ?_
                          refine g_iload h 0 dX10_count_173 rfl ?_
                          refine g_iconst (v := -1) h dX10_count_175 (by decide) ?_
                          refine g_icmp_ne h 183 dX10_count_176 (by decide) ?_ ?_
                          · refine g_aload_n h 1 dX10_count_183 rfl ?_
                            refine m_geta h hinX10 25 (by decide) rfl tW_931 dX10_count_184 ?_
                            refine g_iload h 0 dX10_count_187 rfl ?_
                            refine m_iald h 25 rfl rfl 8 rfl dX10_count_189 ?_
                            refine g_lv [] [] rfl ?_
                            exact M_count_B190_w h hE hkw hKs _ _ hr
                          · refine g_iconst (v := 0) h dX10_count_179 (by decide) ?_
                            refine g_goto h 190 dX10_count_180 (by decide) ?_
                            refine g_lv [] [] rfl ?_
                            exact M_count_B190_w h hE hkw hKs _ _ hr
                        · skip
                          refine g_tabOut h 191 dX10_count_83 (by have z0 := lv_neT (a := 0) q83_0 (by decide); have z1 := lv_neT (a := 1) q83_1 (by decide); have z2 := lv_neT (a := 2) q83_2 (by decide); have z3 := lv_neT (a := 3) q83_3 (by decide); have z4 := lv_neT (a := 4) q83_4 (by decide); have z5 := lv_neT (a := 5) q83_5 (by decide); have z6 := lv_neT (a := 6) q83_6 (by decide); have z7 := lv_neT (a := 7) q83_7 (by decide); have z8 := lv_neT (a := 8) q83_8 (by decide); have z9 := lv_neT (a := 9) q83_9 (by decide); omega) (by decide) ?_
                          refine g_aload_n h 1 dX10_count_191 rfl ?_
                          refine g_iconst (v := 1) h dX10_count_192 (by decide) ?_
                          refine g_callV0i h (MW_mv hE) hkw hKs [.int (1 : Int32)] (c_X10_fail hE hkw s_2 (1 : Int32)) yk_X10_fail tW_1111 ⟨(Nat.le_of_ble_eq_true rfl), (Nat.le_of_ble_eq_true rfl)⟩ MW_recv rfl rfl rfl rfl (Nat.le_of_ble_eq_true rfl) dX10_count_193 ⟨Nat.zero_le _, Nat.zero_le _⟩ (fun r_193 s_193 => ?_)
                          exact g_iret h (MW_mv hE) hr (Nat.le_refl _) (Nat.le_refl _) dX10_count_196
