def rm_X10_init : Room := { frames := 1, cells := 36, slots := 8520, locals := 21 }
theorem yk_X10_init : yOkI yX10_init cX10_init 2 0 := ⟨tW_904, tW_5, tW_903, rfl, by decide, by decide, by decide +kernel⟩
def K10_init_L325 {Rt : Type} (a0 : Nat) (k343 : Km → Option Rt) : Nat → Km → Int32 → Option Rt
  | 0, _, _ => none
  | F + 1, s0, l1 =>
  if (4 : Int32) ≤ l1 then
      k343 s0
    else
      if kK s0 a0 = 10 then
      (kR s0 a0 14).bind (fun b331 =>
      if kK s0 b331 = 12 then
      if okI l1 (kN s0 b331) = true then
      bnd (kSetI s0 b331 l1.toNatClampNeg (1 : Int32)) (fun s_336 =>
      K10_init_L325 a0 k343 F s_336 (l1 + 1))
      else none
      else none)
      else none
set_option maxHeartbeats 4000000 in
set_option maxRecDepth 100000 in
theorem K10_init_L325_w {p : Program} {l : Launch} {e : Env} {s : State} {m : MethodId} {args : Array Value} {below : List Frame} {meth : Method} {c : Code} {A : Nat → Prop} {Ke : State → Prop} {D : va_G} {cA : Nat → ClassId} {E : State → Heap → Prop} {adS adV adM : Nat → Nat} {adD : Nat} (h : gOk p s m args meth c cX10_init 2 RX10 tb) (hKs : Ke s) (hE : mEok E A) (hkw : gKw Ke) (hX : xSt l Ke E A adM adD) (hSt : sSt Ke A (KW D cA E A) adS adV) (hin : meth.name = "<init>") {Rt : Type} {QX : Rt → State → Prop} (a0 : Nat) {k343 : Km → Option Rt} (hk343 : ∀ (sx : Km), gS p l e rm_X10_init s m args below meth c 2 A (KW D cA E A) QX (36) (8520) (k343 sx) sx 343 [(0, .ref a0)] []) : ∀ (F : Nat), ∀ (s0 : Km) (l1 : Int32), gS p l e rm_X10_init s m args below meth c 2 A (KW D cA E A) QX (36) (8520) (K10_init_L325 a0 k343 F s0 l1) s0 325 [(0, .ref a0), (1, .int l1)] [] := by
  intro F
  induction F with
  | zero =>
    intro s0 l1
    unfold K10_init_L325
    exact g_none
  | succ F ih =>
    intro s0 l1
    unfold K10_init_L325
    refine g_iload_n h 1 dX10_init_325 rfl ?_
    refine g_iconst (v := 4) h dX10_init_326 (by decide) ?_
    refine g_icmp_ge h 343 dX10_init_327 (by decide) ?_ ?_
    · refine g_lv [(0, .ref a0)] [0] rfl ?_
      exact hk343 s0
    · refine g_aload_n h 0 dX10_init_330 rfl ?_
      refine k_kind (fun hk331_0 => ?_)
      refine k_getr h (RX10, TX10, 60) 9 (by decide) rfl hinX10 14 (by decide) rfl tW_920 dX10_init_331 hk331_0 ?_
      refine g_ob (fun b331 => ?_)
      refine g_iload_n h 1 dX10_init_334 rfl ?_
      refine g_iconst (v := 1) h dX10_init_335 (by decide) ?_
      refine k_kind (fun hk336_0 => ?_)
      refine k_iast h hE dX10_init_336 hk336_0 ?_
      refine g_bndE (fun s_336 hs_336 => ?_)
      refine g_iinc (v := l1 + 1) (i := 1) h [(1, .int (l1 + 1)), (0, .ref a0)] dX10_init_337 rfl rfl (by decide) rfl ?_
      refine g_goto h 325 dX10_init_340 (by decide) ?_
      refine g_lv [(0, .ref a0), (1, .int (l1 + 1))] [1, 0] rfl ?_
      exact ih s_336 (l1 + 1)
def K10_init_L345 {Rt : Type} (a0 : Nat) (k364 : Km → Option Rt) : Nat → Km → Int32 → Option Rt
  | 0, _, _ => none
  | F + 1, s0, l1 =>
  if (120 : Int32) ≤ l1 then
      k364 s0
    else
      if kK s0 a0 = 10 then
      (kR s0 a0 11).bind (fun b352 =>
      if kK s0 b352 = 12 then
      if okI l1 (kN s0 b352) = true then
      bnd (kSetI s0 b352 l1.toNatClampNeg (-1 : Int32)) (fun s_357 =>
      K10_init_L345 a0 k364 F s_357 (l1 + 1))
      else none
      else none)
      else none
set_option maxHeartbeats 4000000 in
set_option maxRecDepth 100000 in
theorem K10_init_L345_w {p : Program} {l : Launch} {e : Env} {s : State} {m : MethodId} {args : Array Value} {below : List Frame} {meth : Method} {c : Code} {A : Nat → Prop} {Ke : State → Prop} {D : va_G} {cA : Nat → ClassId} {E : State → Heap → Prop} {adS adV adM : Nat → Nat} {adD : Nat} (h : gOk p s m args meth c cX10_init 2 RX10 tb) (hKs : Ke s) (hE : mEok E A) (hkw : gKw Ke) (hX : xSt l Ke E A adM adD) (hSt : sSt Ke A (KW D cA E A) adS adV) (hin : meth.name = "<init>") {Rt : Type} {QX : Rt → State → Prop} (a0 : Nat) {k364 : Km → Option Rt} (hk364 : ∀ (sx : Km), gS p l e rm_X10_init s m args below meth c 2 A (KW D cA E A) QX (36) (8520) (k364 sx) sx 364 [] []) : ∀ (F : Nat), ∀ (s0 : Km) (l1 : Int32), gS p l e rm_X10_init s m args below meth c 2 A (KW D cA E A) QX (36) (8520) (K10_init_L345 a0 k364 F s0 l1) s0 345 [(0, .ref a0), (1, .int l1)] [] := by
  intro F
  induction F with
  | zero =>
    intro s0 l1
    unfold K10_init_L345
    exact g_none
  | succ F ih =>
    intro s0 l1
    unfold K10_init_L345
    refine g_iload_n h 1 dX10_init_345 rfl ?_
    refine g_bipush (v := 120) h dX10_init_346 (by decide) ?_
    refine g_icmp_ge h 364 dX10_init_348 (by decide) ?_ ?_
    · refine g_lv [] [] rfl ?_
      exact hk364 s0
    · refine g_aload_n h 0 dX10_init_351 rfl ?_
      refine k_kind (fun hk352_0 => ?_)
      refine k_getr h (RX10, TX10, 60) 9 (by decide) rfl hinX10 11 (by decide) rfl tW_917 dX10_init_352 hk352_0 ?_
      refine g_ob (fun b352 => ?_)
      refine g_iload_n h 1 dX10_init_355 rfl ?_
      refine g_iconst (v := -1) h dX10_init_356 (by decide) ?_
      refine k_kind (fun hk357_0 => ?_)
      refine k_iast h hE dX10_init_357 hk357_0 ?_
      refine g_bndE (fun s_357 hs_357 => ?_)
      refine g_iinc (v := l1 + 1) (i := 1) h [(1, .int (l1 + 1)), (0, .ref a0)] dX10_init_358 rfl rfl (by decide) rfl ?_
      refine g_goto h 345 dX10_init_361 (by decide) ?_
      refine g_lv [(0, .ref a0), (1, .int (l1 + 1))] [1, 0] rfl ?_
      exact ih s_357 (l1 + 1)
def K10_init (s0 : Km) (a0 : Nat) : Option (Km) :=
  if kK s0 a0 = 10 then
  bnd (kSetI s0 a0 8 (-1 : Int32)) (fun s_6 =>
  bnd2 (kn s_6) (kNew s_6 12 30) (fun q_12 s_12 =>
  if kK s_12 a0 = 10 then
  bnd (kSetR s_12 a0 9 (some q_12)) (fun s_14 =>
  bnd2 (kn s_14) (kNew s_14 12 120) (fun q_20 s_20 =>
  if kK s_20 a0 = 10 then
  bnd (kSetR s_20 a0 10 (some q_20)) (fun s_22 =>
  bnd2 (kn s_22) (kNew s_22 12 120) (fun q_28 s_28 =>
  if kK s_28 a0 = 10 then
  bnd (kSetR s_28 a0 11 (some q_28)) (fun s_30 =>
  bnd2 (kn s_30) (kNew s_30 12 240) (fun q_37 s_37 =>
  if kK s_37 a0 = 10 then
  bnd (kSetR s_37 a0 12 (some q_37)) (fun s_39 =>
  bnd2 (kn s_39) (kNew s_39 13 30) (fun q_45 s_45 =>
  if kK s_45 a0 = 10 then
  bnd (kSetR s_45 a0 13 (some q_45)) (fun s_47 =>
  bnd2 (kn s_47) (kNew s_47 12 4) (fun q_52 s_52 =>
  if kK s_52 a0 = 10 then
  bnd (kSetR s_52 a0 14 (some q_52)) (fun s_54 =>
  bnd2 (kn s_54) (kNew s_54 12 4) (fun q_59 s_59 =>
  if kK s_59 a0 = 10 then
  bnd (kSetR s_59 a0 15 (some q_59)) (fun s_61 =>
  bnd2 (kn s_61) (kNew s_61 12 40) (fun q_67 s_67 =>
  if kK s_67 a0 = 10 then
  bnd (kSetR s_67 a0 16 (some q_67)) (fun s_69 =>
  bnd2 (kn s_69) (kNew s_69 12 40) (fun q_75 s_75 =>
  if kK s_75 a0 = 10 then
  bnd (kSetR s_75 a0 17 (some q_75)) (fun s_77 =>
  bnd2 (kn s_77) (kNew s_77 13 40) (fun q_83 s_83 =>
  if kK s_83 a0 = 10 then
  bnd (kSetR s_83 a0 18 (some q_83)) (fun s_85 =>
  bnd2 (kn s_85) (kNew s_85 12 400) (fun q_92 s_92 =>
  if kK s_92 a0 = 10 then
  bnd (kSetR s_92 a0 19 (some q_92)) (fun s_94 =>
  bnd2 (kn s_94) (kNew s_94 12 400) (fun q_101 s_101 =>
  if kK s_101 a0 = 10 then
  bnd (kSetR s_101 a0 20 (some q_101)) (fun s_103 =>
  bnd2 (kn s_103) (kNew s_103 12 400) (fun q_110 s_110 =>
  if kK s_110 a0 = 10 then
  bnd (kSetR s_110 a0 21 (some q_110)) (fun s_112 =>
  bnd2 (kn s_112) (kNew s_112 12 400) (fun q_119 s_119 =>
  if kK s_119 a0 = 10 then
  bnd (kSetR s_119 a0 22 (some q_119)) (fun s_121 =>
  bnd2 (kn s_121) (kNew s_121 12 400) (fun q_128 s_128 =>
  if kK s_128 a0 = 10 then
  bnd (kSetR s_128 a0 23 (some q_128)) (fun s_130 =>
  bnd2 (kn s_130) (kNew s_130 12 8) (fun q_136 s_136 =>
  if kK s_136 a0 = 10 then
  bnd (kSetR s_136 a0 24 (some q_136)) (fun s_138 =>
  bnd2 (kn s_138) (kNew s_138 12 8) (fun q_144 s_144 =>
  if kK s_144 a0 = 10 then
  bnd (kSetR s_144 a0 25 (some q_144)) (fun s_146 =>
  bnd2 (kn s_146) (kNew s_146 12 192) (fun q_153 s_153 =>
  if kK s_153 a0 = 10 then
  bnd (kSetR s_153 a0 26 (some q_153)) (fun s_155 =>
  bnd2 (kn s_155) (kNew s_155 12 192) (fun q_162 s_162 =>
  if kK s_162 a0 = 10 then
  bnd (kSetR s_162 a0 27 (some q_162)) (fun s_164 =>
  bnd2 (kn s_164) (kNew s_164 12 192) (fun q_171 s_171 =>
  if kK s_171 a0 = 10 then
  bnd (kSetR s_171 a0 28 (some q_171)) (fun s_173 =>
  bnd2 (kn s_173) (kNew s_173 12 192) (fun q_180 s_180 =>
  if kK s_180 a0 = 10 then
  bnd (kSetR s_180 a0 29 (some q_180)) (fun s_182 =>
  bnd2 (kn s_182) (kNew s_182 12 192) (fun q_189 s_189 =>
  if kK s_189 a0 = 10 then
  bnd (kSetR s_189 a0 30 (some q_189)) (fun s_191 =>
  bnd2 (kn s_191) (kNew s_191 12 192) (fun q_198 s_198 =>
  if kK s_198 a0 = 10 then
  bnd (kSetR s_198 a0 31 (some q_198)) (fun s_200 =>
  bnd2 (kn s_200) (kNew s_200 12 192) (fun q_207 s_207 =>
  if kK s_207 a0 = 10 then
  bnd (kSetR s_207 a0 32 (some q_207)) (fun s_209 =>
  bnd2 (kn s_209) (kNew s_209 12 192) (fun q_216 s_216 =>
  if kK s_216 a0 = 10 then
  bnd (kSetR s_216 a0 33 (some q_216)) (fun s_218 =>
  bnd2 (kn s_218) (kNew s_218 12 192) (fun q_225 s_225 =>
  if kK s_225 a0 = 10 then
  bnd (kSetR s_225 a0 34 (some q_225)) (fun s_227 =>
  bnd2 (kn s_227) (kNew s_227 12 768) (fun q_234 s_234 =>
  if kK s_234 a0 = 10 then
  bnd (kSetR s_234 a0 35 (some q_234)) (fun s_236 =>
  bnd2 (kn s_236) (kNew s_236 12 768) (fun q_243 s_243 =>
  if kK s_243 a0 = 10 then
  bnd (kSetR s_243 a0 36 (some q_243)) (fun s_245 =>
  bnd2 (kn s_245) (kNew s_245 13 768) (fun q_252 s_252 =>
  if kK s_252 a0 = 10 then
  bnd (kSetR s_252 a0 37 (some q_252)) (fun s_254 =>
  bnd2 (kn s_254) (kNew s_254 12 1000) (fun q_261 s_261 =>
  if kK s_261 a0 = 10 then
  bnd (kSetR s_261 a0 38 (some q_261)) (fun s_263 =>
  bnd2 (kn s_263) (kNew s_263 12 24) (fun q_269 s_269 =>
  if kK s_269 a0 = 10 then
  bnd (kSetR s_269 a0 53 (some q_269)) (fun s_271 =>
  bnd (kSetI s_271 a0 54 (-2 : Int32)) (fun s_277 =>
  bnd2 (kn s_277) (kNew s_277 13 30) (fun q_283 s_283 =>
  if kK s_283 a0 = 10 then
  bnd (kSetR s_283 a0 55 (some q_283)) (fun s_285 =>
  bnd2 (kn s_285) (kNew s_285 12 240) (fun q_292 s_292 =>
  if kK s_292 a0 = 10 then
  bnd (kSetR s_292 a0 56 (some q_292)) (fun s_294 =>
  bnd2 (kn s_294) (kNew s_294 12 240) (fun q_301 s_301 =>
  if kK s_301 a0 = 10 then
  bnd (kSetR s_301 a0 57 (some q_301)) (fun s_303 =>
  bnd2 (kn s_303) (kNew s_303 12 240) (fun q_310 s_310 =>
  if kK s_310 a0 = 10 then
  bnd (kSetR s_310 a0 58 (some q_310)) (fun s_312 =>
  bnd2 (kn s_312) (kNew s_312 12 30) (fun q_318 s_318 =>
  if kK s_318 a0 = 10 then
  bnd (kSetR s_318 a0 59 (some q_318)) (fun s_320 =>
  K10_init_L325 a0 (fun s_343 => K10_init_L345 a0 (fun s_364 => some s_364) gF s_343 (0 : Int32)) gF s_320 (0 : Int32))
  else none))
  else none))
  else none))
  else none))
  else none)))
  else none))
  else none))
  else none))
  else none))
  else none))
  else none))
  else none))
  else none))
  else none))
  else none))
  else none))
  else none))
  else none))
  else none))
  else none))
  else none))
  else none))
  else none))
  else none))
  else none))
  else none))
  else none))
  else none))
  else none))
  else none))
  else none))
  else none))
  else none))
  else none))
  else none))
  else none))
  else none
set_option maxHeartbeats 4000000 in
set_option maxRecDepth 100000 in
theorem c_X10_init {l : Launch} {A : Nat → Prop} {Ke : State → Prop} {D : va_G} {cA : Nat → ClassId} {E : State → Heap → Prop} {adS adV adM : Nat → Nat} {adD : Nat} (hE : mEok E A) (hkw : gKw Ke) (hX : xSt l Ke E A adM adD) (hSt : sSt Ke A (KW D cA E A) adS adV) (s0 : Km) (a0 : Nat) : gCv l yX10_init cX10_init 2 none rm_X10_init Ke (KW D cA E A) A [.ref a0] s0 (K10_init s0 a0) := by
  refine g_metI (by decide) rfl (by simp [lg_sl, Value.category]) ?_
  intro p e s m below meth c h hr hin hKs
  refine g_lv [(0, .ref a0)] [0] rfl ?_
  unfold K10_init
  refine g_aload_n h 0 dX10_init_0 rfl ?_
  refine g_objInit h tW_905 tW_29 tW_30 (Nat.le_of_ble_eq_true rfl) (Nat.le_of_ble_eq_true rfl) dX10_init_1 ?_
  refine g_aload_n h 0 dX10_init_4 rfl ?_
  refine g_iconst (v := -1) h dX10_init_5 (by decide) ?_
  refine k_kind (fun hk6_0 => ?_)
  refine k_puti (x := (-1 : Int32)) h hE (RX10, TX10, 60) 9 (by decide) rfl hinX10 8 (by decide) rfl tyX10 tyX10_ok nmX10 rfl tW_914 rfl rfl dX10_init_6 hk6_0 ?_
  refine g_bndE (fun s_6 hs_6 => ?_)
  refine g_aload_n h 0 dX10_init_9 rfl ?_
  refine g_bipush (v := 30) h dX10_init_10 (by decide) ?_
  refine k_newi h hE 12 1 (by decide) (by decide) .int rfl rfl rfl (fun _ _ q9 => q9) tW_73 30 (by decide) (by decide) (by decide) (Nat.le_of_ble_eq_true rfl) (Nat.le_of_ble_eq_true rfl) dX10_init_12 ?_
  refine g_bnd2 (fun q_12 s_12 hq_12 hs_12 => ?_)
  refine k_kind (fun hk14_0 => ?_)
  refine k_putFr (x := (some q_12)) h hE (RX10, TX10, 60) 9 (by decide) rfl hinX10 9 (by decide) rfl tyX10 tyX10_ok nmX10 rfl hin rfl tW_915 rfl rfl dX10_init_14 hk14_0 ?_
  refine g_bndE (fun s_14 hs_14 => ?_)
  refine g_aload_n h 0 dX10_init_17 rfl ?_
  refine g_bipush (v := 120) h dX10_init_18 (by decide) ?_
  refine k_newi h hE 12 1 (by decide) (by decide) .int rfl rfl rfl (fun _ _ q9 => q9) tW_73 120 (by decide) (by decide) (by decide) (Nat.le_of_ble_eq_true rfl) (Nat.le_of_ble_eq_true rfl) dX10_init_20 ?_
  refine g_bnd2 (fun q_20 s_20 hq_20 hs_20 => ?_)
  refine k_kind (fun hk22_0 => ?_)
  refine k_putFr (x := (some q_20)) h hE (RX10, TX10, 60) 9 (by decide) rfl hinX10 10 (by decide) rfl tyX10 tyX10_ok nmX10 rfl hin rfl tW_916 rfl rfl dX10_init_22 hk22_0 ?_
  refine g_bndE (fun s_22 hs_22 => ?_)
  refine g_aload_n h 0 dX10_init_25 rfl ?_
  refine g_bipush (v := 120) h dX10_init_26 (by decide) ?_
  refine k_newi h hE 12 1 (by decide) (by decide) .int rfl rfl rfl (fun _ _ q9 => q9) tW_73 120 (by decide) (by decide) (by decide) (Nat.le_of_ble_eq_true rfl) (Nat.le_of_ble_eq_true rfl) dX10_init_28 ?_
  refine g_bnd2 (fun q_28 s_28 hq_28 hs_28 => ?_)
  refine k_kind (fun hk30_0 => ?_)
  refine k_putFr (x := (some q_28)) h hE (RX10, TX10, 60) 9 (by decide) rfl hinX10 11 (by decide) rfl tyX10 tyX10_ok nmX10 rfl hin rfl tW_917 rfl rfl dX10_init_30 hk30_0 ?_
  refine g_bndE (fun s_30 hs_30 => ?_)
  refine g_aload_n h 0 dX10_init_33 rfl ?_
  refine g_sipush (v := 240) h dX10_init_34 (by decide) ?_
  refine k_newi h hE 12 1 (by decide) (by decide) .int rfl rfl rfl (fun _ _ q9 => q9) tW_73 240 (by decide) (by decide) (by decide) (Nat.le_of_ble_eq_true rfl) (Nat.le_of_ble_eq_true rfl) dX10_init_37 ?_
  refine g_bnd2 (fun q_37 s_37 hq_37 hs_37 => ?_)
  refine k_kind (fun hk39_0 => ?_)
  refine k_putFr (x := (some q_37)) h hE (RX10, TX10, 60) 9 (by decide) rfl hinX10 12 (by decide) rfl tyX10 tyX10_ok nmX10 rfl hin rfl tW_918 rfl rfl dX10_init_39 hk39_0 ?_
  refine g_bndE (fun s_39 hs_39 => ?_)
  refine g_aload_n h 0 dX10_init_42 rfl ?_
  refine g_bipush (v := 30) h dX10_init_43 (by decide) ?_
  refine k_newi h hE 13 2 (by decide) (by decide) .boolean rfl rfl rfl (fun _ _ q9 => q9) tW_566 30 (by decide) (by decide) (by decide) (Nat.le_of_ble_eq_true rfl) (Nat.le_of_ble_eq_true rfl) dX10_init_45 ?_
  refine g_bnd2 (fun q_45 s_45 hq_45 hs_45 => ?_)
  refine k_kind (fun hk47_0 => ?_)
  refine k_putFr (x := (some q_45)) h hE (RX10, TX10, 60) 9 (by decide) rfl hinX10 13 (by decide) rfl tyX10 tyX10_ok nmX10 rfl hin rfl tW_919 rfl rfl dX10_init_47 hk47_0 ?_
  refine g_bndE (fun s_47 hs_47 => ?_)
  refine g_aload_n h 0 dX10_init_50 rfl ?_
  refine g_iconst (v := 4) h dX10_init_51 (by decide) ?_
  refine k_newi h hE 12 1 (by decide) (by decide) .int rfl rfl rfl (fun _ _ q9 => q9) tW_73 4 (by decide) (by decide) (by decide) (Nat.le_of_ble_eq_true rfl) (Nat.le_of_ble_eq_true rfl) dX10_init_52 ?_
  refine g_bnd2 (fun q_52 s_52 hq_52 hs_52 => ?_)
  refine k_kind (fun hk54_0 => ?_)
  refine k_putFr (x := (some q_52)) h hE (RX10, TX10, 60) 9 (by decide) rfl hinX10 14 (by decide) rfl tyX10 tyX10_ok nmX10 rfl hin rfl tW_920 rfl rfl dX10_init_54 hk54_0 ?_
  refine g_bndE (fun s_54 hs_54 => ?_)
  refine g_aload_n h 0 dX10_init_57 rfl ?_
  refine g_iconst (v := 4) h dX10_init_58 (by decide) ?_
  refine k_newi h hE 12 1 (by decide) (by decide) .int rfl rfl rfl (fun _ _ q9 => q9) tW_73 4 (by decide) (by decide) (by decide) (Nat.le_of_ble_eq_true rfl) (Nat.le_of_ble_eq_true rfl) dX10_init_59 ?_
  refine g_bnd2 (fun q_59 s_59 hq_59 hs_59 => ?_)
  refine k_kind (fun hk61_0 => ?_)
  refine k_putFr (x := (some q_59)) h hE (RX10, TX10, 60) 9 (by decide) rfl hinX10 15 (by decide) rfl tyX10 tyX10_ok nmX10 rfl hin rfl tW_921 rfl rfl dX10_init_61 hk61_0 ?_
  refine g_bndE (fun s_61 hs_61 => ?_)
  refine g_aload_n h 0 dX10_init_64 rfl ?_
  refine g_bipush (v := 40) h dX10_init_65 (by decide) ?_
  refine k_newi h hE 12 1 (by decide) (by decide) .int rfl rfl rfl (fun _ _ q9 => q9) tW_73 40 (by decide) (by decide) (by decide) (Nat.le_of_ble_eq_true rfl) (Nat.le_of_ble_eq_true rfl) dX10_init_67 ?_
  refine g_bnd2 (fun q_67 s_67 hq_67 hs_67 => ?_)
  refine k_kind (fun hk69_0 => ?_)
  refine k_putFr (x := (some q_67)) h hE (RX10, TX10, 60) 9 (by decide) rfl hinX10 16 (by decide) rfl tyX10 tyX10_ok nmX10 rfl hin rfl tW_922 rfl rfl dX10_init_69 hk69_0 ?_
  refine g_bndE (fun s_69 hs_69 => ?_)
  refine g_aload_n h 0 dX10_init_72 rfl ?_
  refine g_bipush (v := 40) h dX10_init_73 (by decide) ?_
  refine k_newi h hE 12 1 (by decide) (by decide) .int rfl rfl rfl (fun _ _ q9 => q9) tW_73 40 (by decide) (by decide) (by decide) (Nat.le_of_ble_eq_true rfl) (Nat.le_of_ble_eq_true rfl) dX10_init_75 ?_
  refine g_bnd2 (fun q_75 s_75 hq_75 hs_75 => ?_)
  refine k_kind (fun hk77_0 => ?_)
  refine k_putFr (x := (some q_75)) h hE (RX10, TX10, 60) 9 (by decide) rfl hinX10 17 (by decide) rfl tyX10 tyX10_ok nmX10 rfl hin rfl tW_923 rfl rfl dX10_init_77 hk77_0 ?_
  refine g_bndE (fun s_77 hs_77 => ?_)
  refine g_aload_n h 0 dX10_init_80 rfl ?_
  refine g_bipush (v := 40) h dX10_init_81 (by decide) ?_
  refine k_newi h hE 13 2 (by decide) (by decide) .boolean rfl rfl rfl (fun _ _ q9 => q9) tW_566 40 (by decide) (by decide) (by decide) (Nat.le_of_ble_eq_true rfl) (Nat.le_of_ble_eq_true rfl) dX10_init_83 ?_
  refine g_bnd2 (fun q_83 s_83 hq_83 hs_83 => ?_)
  refine k_kind (fun hk85_0 => ?_)
  refine k_putFr (x := (some q_83)) h hE (RX10, TX10, 60) 9 (by decide) rfl hinX10 18 (by decide) rfl tyX10 tyX10_ok nmX10 rfl hin rfl tW_924 rfl rfl dX10_init_85 hk85_0 ?_
  refine g_bndE (fun s_85 hs_85 => ?_)
  refine g_aload_n h 0 dX10_init_88 rfl ?_
  refine g_sipush (v := 400) h dX10_init_89 (by decide) ?_
  refine k_newi h hE 12 1 (by decide) (by decide) .int rfl rfl rfl (fun _ _ q9 => q9) tW_73 400 (by decide) (by decide) (by decide) (Nat.le_of_ble_eq_true rfl) (Nat.le_of_ble_eq_true rfl) dX10_init_92 ?_
  refine g_bnd2 (fun q_92 s_92 hq_92 hs_92 => ?_)
  refine k_kind (fun hk94_0 => ?_)
  refine k_putFr (x := (some q_92)) h hE (RX10, TX10, 60) 9 (by decide) rfl hinX10 19 (by decide) rfl tyX10 tyX10_ok nmX10 rfl hin rfl tW_925 rfl rfl dX10_init_94 hk94_0 ?_
  refine g_bndE (fun s_94 hs_94 => ?_)
  refine g_aload_n h 0 dX10_init_97 rfl ?_
  refine g_sipush (v := 400) h dX10_init_98 (by decide) ?_
  refine k_newi h hE 12 1 (by decide) (by decide) .int rfl rfl rfl (fun _ _ q9 => q9) tW_73 400 (by decide) (by decide) (by decide) (Nat.le_of_ble_eq_true rfl) (Nat.le_of_ble_eq_true rfl) dX10_init_101 ?_
  refine g_bnd2 (fun q_101 s_101 hq_101 hs_101 => ?_)
  refine k_kind (fun hk103_0 => ?_)
  refine k_putFr (x := (some q_101)) h hE (RX10, TX10, 60) 9 (by decide) rfl hinX10 20 (by decide) rfl tyX10 tyX10_ok nmX10 rfl hin rfl tW_926 rfl rfl dX10_init_103 hk103_0 ?_
  refine g_bndE (fun s_103 hs_103 => ?_)
  refine g_aload_n h 0 dX10_init_106 rfl ?_
  refine g_sipush (v := 400) h dX10_init_107 (by decide) ?_
  refine k_newi h hE 12 1 (by decide) (by decide) .int rfl rfl rfl (fun _ _ q9 => q9) tW_73 400 (by decide) (by decide) (by decide) (Nat.le_of_ble_eq_true rfl) (Nat.le_of_ble_eq_true rfl) dX10_init_110 ?_
  refine g_bnd2 (fun q_110 s_110 hq_110 hs_110 => ?_)
  refine k_kind (fun hk112_0 => ?_)
  refine k_putFr (x := (some q_110)) h hE (RX10, TX10, 60) 9 (by decide) rfl hinX10 21 (by decide) rfl tyX10 tyX10_ok nmX10 rfl hin rfl tW_927 rfl rfl dX10_init_112 hk112_0 ?_
  refine g_bndE (fun s_112 hs_112 => ?_)
  refine g_aload_n h 0 dX10_init_115 rfl ?_
  refine g_sipush (v := 400) h dX10_init_116 (by decide) ?_
  refine k_newi h hE 12 1 (by decide) (by decide) .int rfl rfl rfl (fun _ _ q9 => q9) tW_73 400 (by decide) (by decide) (by decide) (Nat.le_of_ble_eq_true rfl) (Nat.le_of_ble_eq_true rfl) dX10_init_119 ?_
  refine g_bnd2 (fun q_119 s_119 hq_119 hs_119 => ?_)
  refine k_kind (fun hk121_0 => ?_)
  refine k_putFr (x := (some q_119)) h hE (RX10, TX10, 60) 9 (by decide) rfl hinX10 22 (by decide) rfl tyX10 tyX10_ok nmX10 rfl hin rfl tW_928 rfl rfl dX10_init_121 hk121_0 ?_
  refine g_bndE (fun s_121 hs_121 => ?_)
  refine g_aload_n h 0 dX10_init_124 rfl ?_
  refine g_sipush (v := 400) h dX10_init_125 (by decide) ?_
  refine k_newi h hE 12 1 (by decide) (by decide) .int rfl rfl rfl (fun _ _ q9 => q9) tW_73 400 (by decide) (by decide) (by decide) (Nat.le_of_ble_eq_true rfl) (Nat.le_of_ble_eq_true rfl) dX10_init_128 ?_
  refine g_bnd2 (fun q_128 s_128 hq_128 hs_128 => ?_)
  refine k_kind (fun hk130_0 => ?_)
  refine k_putFr (x := (some q_128)) h hE (RX10, TX10, 60) 9 (by decide) rfl hinX10 23 (by decide) rfl tyX10 tyX10_ok nmX10 rfl hin rfl tW_929 rfl rfl dX10_init_130 hk130_0 ?_
  refine g_bndE (fun s_130 hs_130 => ?_)
  refine g_aload_n h 0 dX10_init_133 rfl ?_
  refine g_bipush (v := 8) h dX10_init_134 (by decide) ?_
  refine k_newi h hE 12 1 (by decide) (by decide) .int rfl rfl rfl (fun _ _ q9 => q9) tW_73 8 (by decide) (by decide) (by decide) (Nat.le_of_ble_eq_true rfl) (Nat.le_of_ble_eq_true rfl) dX10_init_136 ?_
  refine g_bnd2 (fun q_136 s_136 hq_136 hs_136 => ?_)
  refine k_kind (fun hk138_0 => ?_)
  refine k_putFr (x := (some q_136)) h hE (RX10, TX10, 60) 9 (by decide) rfl hinX10 24 (by decide) rfl tyX10 tyX10_ok nmX10 rfl hin rfl tW_930 rfl rfl dX10_init_138 hk138_0 ?_
  refine g_bndE (fun s_138 hs_138 => ?_)
  refine g_aload_n h 0 dX10_init_141 rfl ?_
  refine g_bipush (v := 8) h dX10_init_142 (by decide) ?_
  refine k_newi h hE 12 1 (by decide) (by decide) .int rfl rfl rfl (fun _ _ q9 => q9) tW_73 8 (by decide) (by decide) (by decide) (Nat.le_of_ble_eq_true rfl) (Nat.le_of_ble_eq_true rfl) dX10_init_144 ?_
  refine g_bnd2 (fun q_144 s_144 hq_144 hs_144 => ?_)
  refine k_kind (fun hk146_0 => ?_)
  refine k_putFr (x := (some q_144)) h hE (RX10, TX10, 60) 9 (by decide) rfl hinX10 25 (by decide) rfl tyX10 tyX10_ok nmX10 rfl hin rfl tW_931 rfl rfl dX10_init_146 hk146_0 ?_
  refine g_bndE (fun s_146 hs_146 => ?_)
  refine g_aload_n h 0 dX10_init_149 rfl ?_
  refine g_sipush (v := 192) h dX10_init_150 (by decide) ?_
  refine k_newi h hE 12 1 (by decide) (by decide) .int rfl rfl rfl (fun _ _ q9 => q9) tW_73 192 (by decide) (by decide) (by decide) (Nat.le_of_ble_eq_true rfl) (Nat.le_of_ble_eq_true rfl) dX10_init_153 ?_
  refine g_bnd2 (fun q_153 s_153 hq_153 hs_153 => ?_)
  refine k_kind (fun hk155_0 => ?_)
  refine k_putFr (x := (some q_153)) h hE (RX10, TX10, 60) 9 (by decide) rfl hinX10 26 (by decide) rfl tyX10 tyX10_ok nmX10 rfl hin rfl tW_932 rfl rfl dX10_init_155 hk155_0 ?_
  refine g_bndE (fun s_155 hs_155 => ?_)
  refine g_aload_n h 0 dX10_init_158 rfl ?_
  refine g_sipush (v := 192) h dX10_init_159 (by decide) ?_
  refine k_newi h hE 12 1 (by decide) (by decide) .int rfl rfl rfl (fun _ _ q9 => q9) tW_73 192 (by decide) (by decide) (by decide) (Nat.le_of_ble_eq_true rfl) (Nat.le_of_ble_eq_true rfl) dX10_init_162 ?_
  refine g_bnd2 (fun q_162 s_162 hq_162 hs_162 => ?_)
  refine k_kind (fun hk164_0 => ?_)
  refine k_putFr (x := (some q_162)) h hE (RX10, TX10, 60) 9 (by decide) rfl hinX10 27 (by decide) rfl tyX10 tyX10_ok nmX10 rfl hin rfl tW_933 rfl rfl dX10_init_164 hk164_0 ?_
  refine g_bndE (fun s_164 hs_164 => ?_)
  refine g_aload_n h 0 dX10_init_167 rfl ?_
  refine g_sipush (v := 192) h dX10_init_168 (by decide) ?_
  refine k_newi h hE 12 1 (by decide) (by decide) .int rfl rfl rfl (fun _ _ q9 => q9) tW_73 192 (by decide) (by decide) (by decide) (Nat.le_of_ble_eq_true rfl) (Nat.le_of_ble_eq_true rfl) dX10_init_171 ?_
  refine g_bnd2 (fun q_171 s_171 hq_171 hs_171 => ?_)
  refine k_kind (fun hk173_0 => ?_)
  refine k_putFr (x := (some q_171)) h hE (RX10, TX10, 60) 9 (by decide) rfl hinX10 28 (by decide) rfl tyX10 tyX10_ok nmX10 rfl hin rfl tW_934 rfl rfl dX10_init_173 hk173_0 ?_
  refine g_bndE (fun s_173 hs_173 => ?_)
  refine g_aload_n h 0 dX10_init_176 rfl ?_
  refine g_sipush (v := 192) h dX10_init_177 (by decide) ?_
  refine k_newi h hE 12 1 (by decide) (by decide) .int rfl rfl rfl (fun _ _ q9 => q9) tW_73 192 (by decide) (by decide) (by decide) (Nat.le_of_ble_eq_true rfl) (Nat.le_of_ble_eq_true rfl) dX10_init_180 ?_
  refine g_bnd2 (fun q_180 s_180 hq_180 hs_180 => ?_)
  refine k_kind (fun hk182_0 => ?_)
  refine k_putFr (x := (some q_180)) h hE (RX10, TX10, 60) 9 (by decide) rfl hinX10 29 (by decide) rfl tyX10 tyX10_ok nmX10 rfl hin rfl tW_935 rfl rfl dX10_init_182 hk182_0 ?_
  refine g_bndE (fun s_182 hs_182 => ?_)
  refine g_aload_n h 0 dX10_init_185 rfl ?_
  refine g_sipush (v := 192) h dX10_init_186 (by decide) ?_
  refine k_newi h hE 12 1 (by decide) (by decide) .int rfl rfl rfl (fun _ _ q9 => q9) tW_73 192 (by decide) (by decide) (by decide) (Nat.le_of_ble_eq_true rfl) (Nat.le_of_ble_eq_true rfl) dX10_init_189 ?_
  refine g_bnd2 (fun q_189 s_189 hq_189 hs_189 => ?_)
  refine k_kind (fun hk191_0 => ?_)
  refine k_putFr (x := (some q_189)) h hE (RX10, TX10, 60) 9 (by decide) rfl hinX10 30 (by decide) rfl tyX10 tyX10_ok nmX10 rfl hin rfl tW_936 rfl rfl dX10_init_191 hk191_0 ?_
  refine g_bndE (fun s_191 hs_191 => ?_)
  refine g_aload_n h 0 dX10_init_194 rfl ?_
  refine g_sipush (v := 192) h dX10_init_195 (by decide) ?_
  refine k_newi h hE 12 1 (by decide) (by decide) .int rfl rfl rfl (fun _ _ q9 => q9) tW_73 192 (by decide) (by decide) (by decide) (Nat.le_of_ble_eq_true rfl) (Nat.le_of_ble_eq_true rfl) dX10_init_198 ?_
  refine g_bnd2 (fun q_198 s_198 hq_198 hs_198 => ?_)
  refine k_kind (fun hk200_0 => ?_)
  refine k_putFr (x := (some q_198)) h hE (RX10, TX10, 60) 9 (by decide) rfl hinX10 31 (by decide) rfl tyX10 tyX10_ok nmX10 rfl hin rfl tW_937 rfl rfl dX10_init_200 hk200_0 ?_
  refine g_bndE (fun s_200 hs_200 => ?_)
  refine g_aload_n h 0 dX10_init_203 rfl ?_
  refine g_sipush (v := 192) h dX10_init_204 (by decide) ?_
  refine k_newi h hE 12 1 (by decide) (by decide) .int rfl rfl rfl (fun _ _ q9 => q9) tW_73 192 (by decide) (by decide) (by decide) (Nat.le_of_ble_eq_true rfl) (Nat.le_of_ble_eq_true rfl) dX10_init_207 ?_
  refine g_bnd2 (fun q_207 s_207 hq_207 hs_207 => ?_)
  refine k_kind (fun hk209_0 => ?_)
  refine k_putFr (x := (some q_207)) h hE (RX10, TX10, 60) 9 (by decide) rfl hinX10 32 (by decide) rfl tyX10 tyX10_ok nmX10 rfl hin rfl tW_938 rfl rfl dX10_init_209 hk209_0 ?_
  refine g_bndE (fun s_209 hs_209 => ?_)
  refine g_aload_n h 0 dX10_init_212 rfl ?_
  refine g_sipush (v := 192) h dX10_init_213 (by decide) ?_
  refine k_newi h hE 12 1 (by decide) (by decide) .int rfl rfl rfl (fun _ _ q9 => q9) tW_73 192 (by decide) (by decide) (by decide) (Nat.le_of_ble_eq_true rfl) (Nat.le_of_ble_eq_true rfl) dX10_init_216 ?_
  refine g_bnd2 (fun q_216 s_216 hq_216 hs_216 => ?_)
  refine k_kind (fun hk218_0 => ?_)
  refine k_putFr (x := (some q_216)) h hE (RX10, TX10, 60) 9 (by decide) rfl hinX10 33 (by decide) rfl tyX10 tyX10_ok nmX10 rfl hin rfl tW_939 rfl rfl dX10_init_218 hk218_0 ?_
  refine g_bndE (fun s_218 hs_218 => ?_)
  refine g_aload_n h 0 dX10_init_221 rfl ?_
  refine g_sipush (v := 192) h dX10_init_222 (by decide) ?_
  refine k_newi h hE 12 1 (by decide) (by decide) .int rfl rfl rfl (fun _ _ q9 => q9) tW_73 192 (by decide) (by decide) (by decide) (Nat.le_of_ble_eq_true rfl) (Nat.le_of_ble_eq_true rfl) dX10_init_225 ?_
  refine g_bnd2 (fun q_225 s_225 hq_225 hs_225 => ?_)
  refine k_kind (fun hk227_0 => ?_)
  refine k_putFr (x := (some q_225)) h hE (RX10, TX10, 60) 9 (by decide) rfl hinX10 34 (by decide) rfl tyX10 tyX10_ok nmX10 rfl hin rfl tW_940 rfl rfl dX10_init_227 hk227_0 ?_
  refine g_bndE (fun s_227 hs_227 => ?_)
  refine g_aload_n h 0 dX10_init_230 rfl ?_
  refine g_sipush (v := 768) h dX10_init_231 (by decide) ?_
  refine k_newi h hE 12 1 (by decide) (by decide) .int rfl rfl rfl (fun _ _ q9 => q9) tW_73 768 (by decide) (by decide) (by decide) (Nat.le_of_ble_eq_true rfl) (Nat.le_of_ble_eq_true rfl) dX10_init_234 ?_
  refine g_bnd2 (fun q_234 s_234 hq_234 hs_234 => ?_)
  refine k_kind (fun hk236_0 => ?_)
  refine k_putFr (x := (some q_234)) h hE (RX10, TX10, 60) 9 (by decide) rfl hinX10 35 (by decide) rfl tyX10 tyX10_ok nmX10 rfl hin rfl tW_941 rfl rfl dX10_init_236 hk236_0 ?_
  refine g_bndE (fun s_236 hs_236 => ?_)
  refine g_aload_n h 0 dX10_init_239 rfl ?_
  refine g_sipush (v := 768) h dX10_init_240 (by decide) ?_
  refine k_newi h hE 12 1 (by decide) (by decide) .int rfl rfl rfl (fun _ _ q9 => q9) tW_73 768 (by decide) (by decide) (by decide) (Nat.le_of_ble_eq_true rfl) (Nat.le_of_ble_eq_true rfl) dX10_init_243 ?_
  refine g_bnd2 (fun q_243 s_243 hq_243 hs_243 => ?_)
  refine k_kind (fun hk245_0 => ?_)
  refine k_putFr (x := (some q_243)) h hE (RX10, TX10, 60) 9 (by decide) rfl hinX10 36 (by decide) rfl tyX10 tyX10_ok nmX10 rfl hin rfl tW_942 rfl rfl dX10_init_245 hk245_0 ?_
  refine g_bndE (fun s_245 hs_245 => ?_)
  refine g_aload_n h 0 dX10_init_248 rfl ?_
  refine g_sipush (v := 768) h dX10_init_249 (by decide) ?_
  refine k_newi h hE 13 2 (by decide) (by decide) .boolean rfl rfl rfl (fun _ _ q9 => q9) tW_566 768 (by decide) (by decide) (by decide) (Nat.le_of_ble_eq_true rfl) (Nat.le_of_ble_eq_true rfl) dX10_init_252 ?_
  refine g_bnd2 (fun q_252 s_252 hq_252 hs_252 => ?_)
  refine k_kind (fun hk254_0 => ?_)
  refine k_putFr (x := (some q_252)) h hE (RX10, TX10, 60) 9 (by decide) rfl hinX10 37 (by decide) rfl tyX10 tyX10_ok nmX10 rfl hin rfl tW_943 rfl rfl dX10_init_254 hk254_0 ?_
  refine g_bndE (fun s_254 hs_254 => ?_)
  refine g_aload_n h 0 dX10_init_257 rfl ?_
  refine g_sipush (v := 1000) h dX10_init_258 (by decide) ?_
  refine k_newi h hE 12 1 (by decide) (by decide) .int rfl rfl rfl (fun _ _ q9 => q9) tW_73 1000 (by decide) (by decide) (by decide) (Nat.le_of_ble_eq_true rfl) (Nat.le_of_ble_eq_true rfl) dX10_init_261 ?_
  refine g_bnd2 (fun q_261 s_261 hq_261 hs_261 => ?_)
  refine k_kind (fun hk263_0 => ?_)
  refine k_putFr (x := (some q_261)) h hE (RX10, TX10, 60) 9 (by decide) rfl hinX10 38 (by decide) rfl tyX10 tyX10_ok nmX10 rfl hin rfl tW_944 rfl rfl dX10_init_263 hk263_0 ?_
  refine g_bndE (fun s_263 hs_263 => ?_)
  refine g_aload_n h 0 dX10_init_266 rfl ?_
  refine g_bipush (v := 24) h dX10_init_267 (by decide) ?_
  refine k_newi h hE 12 1 (by decide) (by decide) .int rfl rfl rfl (fun _ _ q9 => q9) tW_73 24 (by decide) (by decide) (by decide) (Nat.le_of_ble_eq_true rfl) (Nat.le_of_ble_eq_true rfl) dX10_init_269 ?_
  refine g_bnd2 (fun q_269 s_269 hq_269 hs_269 => ?_)
  refine k_kind (fun hk271_0 => ?_)
  refine k_putFr (x := (some q_269)) h hE (RX10, TX10, 60) 9 (by decide) rfl hinX10 53 (by decide) rfl tyX10 tyX10_ok nmX10 rfl hin rfl tW_959 rfl rfl dX10_init_271 hk271_0 ?_
  refine g_bndE (fun s_271 hs_271 => ?_)
  refine g_aload_n h 0 dX10_init_274 rfl ?_
  refine g_bipush (v := -2) h dX10_init_275 (by decide) ?_
  refine k_puti (x := (-2 : Int32)) h hE (RX10, TX10, 60) 9 (by decide) rfl hinX10 54 (by decide) rfl tyX10 tyX10_ok nmX10 rfl tW_960 rfl rfl dX10_init_277 (kKsR hs_271 hk271_0) ?_
  refine g_bndE (fun s_277 hs_277 => ?_)
  refine g_aload_n h 0 dX10_init_280 rfl ?_
  refine g_bipush (v := 30) h dX10_init_281 (by decide) ?_
  refine k_newi h hE 13 2 (by decide) (by decide) .boolean rfl rfl rfl (fun _ _ q9 => q9) tW_566 30 (by decide) (by decide) (by decide) (Nat.le_of_ble_eq_true rfl) (Nat.le_of_ble_eq_true rfl) dX10_init_283 ?_
  refine g_bnd2 (fun q_283 s_283 hq_283 hs_283 => ?_)
  refine k_kind (fun hk285_0 => ?_)
  refine k_putFr (x := (some q_283)) h hE (RX10, TX10, 60) 9 (by decide) rfl hinX10 55 (by decide) rfl tyX10 tyX10_ok nmX10 rfl hin rfl tW_961 rfl rfl dX10_init_285 hk285_0 ?_
  refine g_bndE (fun s_285 hs_285 => ?_)
  refine g_aload_n h 0 dX10_init_288 rfl ?_
  refine g_sipush (v := 240) h dX10_init_289 (by decide) ?_
  refine k_newi h hE 12 1 (by decide) (by decide) .int rfl rfl rfl (fun _ _ q9 => q9) tW_73 240 (by decide) (by decide) (by decide) (Nat.le_of_ble_eq_true rfl) (Nat.le_of_ble_eq_true rfl) dX10_init_292 ?_
  refine g_bnd2 (fun q_292 s_292 hq_292 hs_292 => ?_)
  refine k_kind (fun hk294_0 => ?_)
  refine k_putFr (x := (some q_292)) h hE (RX10, TX10, 60) 9 (by decide) rfl hinX10 56 (by decide) rfl tyX10 tyX10_ok nmX10 rfl hin rfl tW_962 rfl rfl dX10_init_294 hk294_0 ?_
  refine g_bndE (fun s_294 hs_294 => ?_)
  refine g_aload_n h 0 dX10_init_297 rfl ?_
  refine g_sipush (v := 240) h dX10_init_298 (by decide) ?_
  refine k_newi h hE 12 1 (by decide) (by decide) .int rfl rfl rfl (fun _ _ q9 => q9) tW_73 240 (by decide) (by decide) (by decide) (Nat.le_of_ble_eq_true rfl) (Nat.le_of_ble_eq_true rfl) dX10_init_301 ?_
  refine g_bnd2 (fun q_301 s_301 hq_301 hs_301 => ?_)
  refine k_kind (fun hk303_0 => ?_)
  refine k_putFr (x := (some q_301)) h hE (RX10, TX10, 60) 9 (by decide) rfl hinX10 57 (by decide) rfl tyX10 tyX10_ok nmX10 rfl hin rfl tW_963 rfl rfl dX10_init_303 hk303_0 ?_
  refine g_bndE (fun s_303 hs_303 => ?_)
  refine g_aload_n h 0 dX10_init_306 rfl ?_
  refine g_sipush (v := 240) h dX10_init_307 (by decide) ?_
  refine k_newi h hE 12 1 (by decide) (by decide) .int rfl rfl rfl (fun _ _ q9 => q9) tW_73 240 (by decide) (by decide) (by decide) (Nat.le_of_ble_eq_true rfl) (Nat.le_of_ble_eq_true rfl) dX10_init_310 ?_
  refine g_bnd2 (fun q_310 s_310 hq_310 hs_310 => ?_)
  refine k_kind (fun hk312_0 => ?_)
  refine k_putFr (x := (some q_310)) h hE (RX10, TX10, 60) 9 (by decide) rfl hinX10 58 (by decide) rfl tyX10 tyX10_ok nmX10 rfl hin rfl tW_964 rfl rfl dX10_init_312 hk312_0 ?_
  refine g_bndE (fun s_312 hs_312 => ?_)
  refine g_aload_n h 0 dX10_init_315 rfl ?_
  refine g_bipush (v := 30) h dX10_init_316 (by decide) ?_
  refine k_newi h hE 12 1 (by decide) (by decide) .int rfl rfl rfl (fun _ _ q9 => q9) tW_73 30 (by decide) (by decide) (by decide) (Nat.le_of_ble_eq_true rfl) (Nat.le_of_ble_eq_true rfl) dX10_init_318 ?_
  refine g_bnd2 (fun q_318 s_318 hq_318 hs_318 => ?_)
  refine k_kind (fun hk320_0 => ?_)
  refine k_putFr (x := (some q_318)) h hE (RX10, TX10, 60) 9 (by decide) rfl hinX10 59 (by decide) rfl tyX10 tyX10_ok nmX10 rfl hin rfl tW_965 rfl rfl dX10_init_320 hk320_0 ?_
  refine g_bndE (fun s_320 hs_320 => ?_)
  refine g_iconst (v := 0) h dX10_init_323 (by decide) ?_
  refine g_istore_n h [(1, .int (0 : Int32)), (0, .ref a0)] dX10_init_324 (by decide) rfl ?_
  refine g_lv [(0, .ref a0), (1, .int (0 : Int32))] [1, 0] rfl ?_
  refine K10_init_L325_w h hKs hE hkw hX hSt hin a0 (fun s_343 => ?_) gF s_320 (0 : Int32)
  · refine g_iconst (v := 0) h dX10_init_343 (by decide) ?_
    refine g_istore_n h [(1, .int (0 : Int32)), (0, .ref a0)] dX10_init_344 (by decide) rfl ?_
    refine g_lv [(0, .ref a0), (1, .int (0 : Int32))] [1, 0] rfl ?_
    refine K10_init_L345_w h hKs hE hkw hX hSt hin a0 (fun s_364 => ?_) gF s_343 (0 : Int32)
    · exact g_vret h (KW_mv hE) hr (Nat.le_of_ble_eq_true rfl) (Nat.le_of_ble_eq_true rfl) dX10_init_364
